/-! PART 70b: the reference: every public method keeps what stands fast -/
theorem u_X12_feed {J : MM → Prop} (S : ai_SP ax_T J ap_X12_feed) {sc : List Int} {d : Nat} {M : MM} {Q : Vv → MM → Prop} {v1 v2 v3 v4 v5 : Int} (h0 : (-2147483648) ≤ v1 ∧ v1 ≤ 2147483647) (h1 : (-2147483648) ≤ v2 ∧ v2 ≤ 2147483647) (h2 : (-2147483648) ≤ v3 ∧ v3 ≤ 2147483647) (h3 : (-2147483648) ≤ v4 ∧ v4 ≤ 2147483647) (h4 : (-2147483648) ≤ v5 ∧ v5 ≤ 2147483647) (h5 : 0 ≤ (M 81 10) ∧ (M 81 10) ≤ 260) (G : ai_GI ax_T M) (j : J M) (k0 : ∀ (r : Int) (M1 : MM), 20 ≤ r → r ≤ 260 → 20 ≤ (M1 81 10) → (M1 81 10) ≤ 260 → 0 ≤ 0 - (M 81 10) + r - 20 → 0 ≤ (M 81 10) - r + 20 → 0 ≤ 0 - r + (M1 81 10) → 0 ≤ r - (M1 81 10) → ai_GI ax_T M1 → ai_Fr ax_T ap_X12_feed.2.2.2.1 M M1 → Q (vi r) M1) (k1 : ∀ (r : Int) (M1 : MM), (-1) ≤ r → r ≤ (-1) → 241 ≤ (M1 81 10) → (M1 81 10) ≤ 260 → 0 ≤ (M 81 10) - 241 → 0 ≤ 0 - (M 81 10) + (M1 81 10) → 0 ≤ (M 81 10) - (M1 81 10) → ai_GI ax_T M1 → ai_Fr ax_T ap_X12_feed.2.2.2.1 M M1 → Q (vi r) M1) : CA FF sc YF (d + 2) m_X12_feed [vr 81, vi v1, vi v2, vi v3, vi v4, vi v5] M Q := by
  refine S sc d (ax_rh [v1, v2, v3, v4, v5, (M 81 10)]) M _ Q rfl rfl (And.intro (ax_r) (And.intro (ax_i (by decide) rfl) (And.intro (ax_i (by decide) rfl) (And.intro (ax_i (by decide) rfl) (And.intro (ax_i (by decide) rfl) (And.intro (ax_i (by decide) rfl) trivial)))))) ⟨(ax_e1 (by decide) h0.1 h0.2 (ax_e1 (by decide) h1.1 h1.2 (ax_e1 (by decide) h2.1 h2.2 (ax_e1 (by decide) h3.1 h3.2 (ax_e1 (by decide) h4.1 h4.2 (ax_e1 (by decide) h5.1 h5.2 ax_e0)))))), (ax_f1 (i := 10) (by decide) (by decide) (by show 0 + 10 = 10; omega) (by decide) rfl ax_f0), ax_c0, ax_m0⟩ G j (fun r M1 g f hq => ?_)
  rcases ax_q2 hq with hq | hq
  · obtain ⟨-, ρ1, e0, hr, kE, kF, kC, kN⟩ := hq
    have hr : r = vi (ρ1 6) := hr
    have e1 : ρ1 0 = v1 := e0 0 (by decide)
    have e2 : ρ1 1 = v2 := e0 1 (by decide)
    have e3 : ρ1 2 = v3 := e0 2 (by decide)
    have e4 : ρ1 3 = v4 := e0 3 (by decide)
    have e5 : ρ1 4 = v5 := e0 4 (by decide)
    have e6 : ρ1 5 = (M 81 10) := e0 5 (by decide)
    have b0 := kE _ (List.mem_cons_self)
    have b0 : 20 ≤ ρ1 6 ∧ ρ1 6 ≤ 260 := b0.2
    have b1 := kE _ (List.mem_cons_of_mem _ List.mem_cons_self)
    have b1 : 20 ≤ ρ1 7 ∧ ρ1 7 ≤ 260 := b1.2
    have f0 := (kF _ List.mem_cons_self).2.2.2
    have f0 : M1 81 ((0 + 10 : Int)).toNat = (1 * ρ1 7 + 0) + 0 := f0
    have g0 : ((0 + 10 : Int)) = 10 := by omega
    rw [g0] at f0
    have f0 : (M1 81 10) = ρ1 7 := by have f : (M1 81 10) = (1 * ρ1 7 + 0) + 0 := f0; omega
    have c0 : 0 ≤ ((-1) * ρ1 5 + (1 * ρ1 6 + 0)) + (-20) := (kC _ List.mem_cons_self).2
    have c1 : 0 ≤ (1 * ρ1 5 + ((-1) * ρ1 6 + 0)) + 20 := (kC _ (List.mem_cons_of_mem _ List.mem_cons_self)).2
    have c2 : 0 ≤ ((-1) * ρ1 6 + (1 * ρ1 7 + 0)) + 0 := (kC _ (List.mem_cons_of_mem _ (List.mem_cons_of_mem _ List.mem_cons_self))).2
    have c3 : 0 ≤ (1 * ρ1 6 + ((-1) * ρ1 7 + 0)) + 0 := (kC _ (List.mem_cons_of_mem _ (List.mem_cons_of_mem _ (List.mem_cons_of_mem _ List.mem_cons_self)))).2
    rw [hr]
    exact k0 _ _ (by omega) (by omega) (by omega) (by omega) (by omega) (by omega) (by omega) (by omega) g f
  · replace hq := ax_q1 hq
    obtain ⟨-, ρ1, e0, hr, kE, kF, kC, kN⟩ := hq
    have hr : r = vi (ρ1 6) := hr
    have e1 : ρ1 0 = v1 := e0 0 (by decide)
    have e2 : ρ1 1 = v2 := e0 1 (by decide)
    have e3 : ρ1 2 = v3 := e0 2 (by decide)
    have e4 : ρ1 3 = v4 := e0 3 (by decide)
    have e5 : ρ1 4 = v5 := e0 4 (by decide)
    have e6 : ρ1 5 = (M 81 10) := e0 5 (by decide)
    have b0 := kE _ (List.mem_cons_self)
    have b0 : (-1) ≤ ρ1 6 ∧ ρ1 6 ≤ (-1) := b0.2
    have b1 := kE _ (List.mem_cons_of_mem _ List.mem_cons_self)
    have b1 : 241 ≤ ρ1 7 ∧ ρ1 7 ≤ 260 := b1.2
    have f0 := (kF _ List.mem_cons_self).2.2.2
    have f0 : M1 81 ((0 + 10 : Int)).toNat = (1 * ρ1 7 + 0) + 0 := f0
    have g0 : ((0 + 10 : Int)) = 10 := by omega
    rw [g0] at f0
    have f0 : (M1 81 10) = ρ1 7 := by have f : (M1 81 10) = (1 * ρ1 7 + 0) + 0 := f0; omega
    have c0 : 0 ≤ (1 * ρ1 5 + 0) + (-241) := (kC _ List.mem_cons_self).2
    have c1 : 0 ≤ ((-1) * ρ1 5 + (1 * ρ1 7 + 0)) + 0 := (kC _ (List.mem_cons_of_mem _ List.mem_cons_self)).2
    have c2 : 0 ≤ (1 * ρ1 5 + ((-1) * ρ1 7 + 0)) + 0 := (kC _ (List.mem_cons_of_mem _ (List.mem_cons_of_mem _ List.mem_cons_self))).2
    rw [hr]
    exact k1 _ _ (by omega) (by omega) (by omega) (by omega) (by omega) (by omega) (by omega) g f
theorem mx_feed {sc : List Int} {a0 a1 a2 a3 a4 : Int} (i0 : in32 a0) (i1 : in32 a1) (i2 : in32 a2) (i3 : in32 a3) (i4 : in32 a4) {M : MM} (G : axG M) : CA FF sc YF 59 m_X12_feed [vr 81, vi a0, vi a1, vi a2, vi a3, vi a4] M (mxQ M (M 81 61)) := by
  obtain ⟨g, j, W⟩ := G
  exact u_X12_feed (d := 59 - 2) (Q := mxQ M (M 81 61)) (ah_X12_feed axH) (v1 := a0) (v2 := a1) (v3 := a2) (v4 := a3) (v5 := a4) (by have := i0; unfold in32 at this; omega) (by have := i1; unfold in32 at this; omega) (by have := i2; unfold in32 at this; omega) (by have := i3; unfold in32 at this; omega) (by have := i4; unfold in32 at this; omega) (by have := rO_81_10 g; omega) g j (fun r M1 q0 q1 q2 q3 q4 q5 q6 q7 g1 f1 => have z := (mx_fin g1 f1 j W (by decide +kernel) (by decide +kernel)); ⟨⟨r, rfl⟩, z.1, z.2, (ax_frO f1 rfl (by decide +kernel))⟩) (fun r M1 q0 q1 q2 q3 q4 q5 q6 g1 f1 => have z := (mx_fin g1 f1 j W (by decide +kernel) (by decide +kernel)); ⟨⟨r, rfl⟩, z.1, z.2, (ax_frO f1 rfl (by decide +kernel))⟩)
theorem u_X12_quarter {J : MM → Prop} (S : ai_SP ax_T J ap_X12_quarter) {sc : List Int} {d : Nat} {M : MM} {Q : Vv → MM → Prop} {v1 : Int} (h0 : (-2147483648) ≤ v1 ∧ v1 ≤ 2147483647) (h1 : 0 ≤ (M 81 10) ∧ (M 81 10) ≤ 260) (G : ai_GI ax_T M) (j : J M) (k0 : ∀ (r : Int) (M1 : MM), (-2147483648) ≤ r → r ≤ 2147483647 → 0 ≤ (M1 81 10) → (M1 81 10) ≤ 0 → 0 ≤ v1 - 1 → 0 ≤ 0 - v1 + 120 → 0 ≤ 0 - v1 + (M 81 10) → 0 ≤ (M1 81 10) → 0 ≤ 0 - (M1 81 10) → ai_GI ax_T M1 → ai_Fr ax_T ap_X12_quarter.2.2.2.1 M M1 → Q (vi r) M1) (k1 : ∀ (r : Int) (M1 : MM), (-1) ≤ r → r ≤ (-1) → 0 ≤ (M1 81 10) → (M1 81 10) ≤ 260 → 0 ≤ 0 - v1 → 0 ≤ 0 - (M 81 10) + (M1 81 10) → 0 ≤ (M 81 10) - (M1 81 10) → ai_GI ax_T M1 → ai_Fr ax_T ap_X12_quarter.2.2.2.1 M M1 → Q (vi r) M1) (k2 : ∀ (r : Int) (M1 : MM), (-1) ≤ r → r ≤ (-1) → 0 ≤ (M1 81 10) → (M1 81 10) ≤ 260 → 0 ≤ v1 - 121 → 0 ≤ 0 - (M 81 10) + (M1 81 10) → 0 ≤ (M 81 10) - (M1 81 10) → ai_GI ax_T M1 → ai_Fr ax_T ap_X12_quarter.2.2.2.1 M M1 → Q (vi r) M1) (k3 : ∀ (r : Int) (M1 : MM), (-1) ≤ r → r ≤ (-1) → 0 ≤ (M1 81 10) → (M1 81 10) ≤ 119 → 0 ≤ v1 - (M 81 10) - 1 → 0 ≤ 0 - (M 81 10) + (M1 81 10) → 0 ≤ (M 81 10) - (M1 81 10) → ai_GI ax_T M1 → ai_Fr ax_T ap_X12_quarter.2.2.2.1 M M1 → Q (vi r) M1) : CA FF sc YF (d + 4) m_X12_quarter [vr 81, vi v1] M Q := by
  refine S sc d (ax_rh [v1, (M 81 10)]) M _ Q rfl rfl (And.intro (ax_r) (And.intro (ax_i (by decide) rfl) (And.intro (ax_o) (And.intro (ax_o) (And.intro (ax_o) trivial))))) ⟨(ax_e1 (by decide) h0.1 h0.2 (ax_e1 (by decide) h1.1 h1.2 ax_e0)), (ax_f1 (i := 10) (by decide) (by decide) (by show 0 + 10 = 10; omega) (by decide) rfl ax_f0), ax_c0, ax_m0⟩ G j (fun r M1 g f hq => ?_)
  rcases ax_q2 hq with hq | hq
  · obtain ⟨-, ρ1, e0, hr, kE, kF, kC, kN⟩ := hq
    have hr : r = vi (ρ1 2) := hr
    have e1 : ρ1 0 = v1 := e0 0 (by decide)
    have e2 : ρ1 1 = (M 81 10) := e0 1 (by decide)
    have b0 := kE _ (List.mem_cons_self)
    have b0 : (-2147483648) ≤ ρ1 2 ∧ ρ1 2 ≤ 2147483647 := b0.2
    have b1 := kE _ (List.mem_cons_of_mem _ List.mem_cons_self)
    have b1 : 0 ≤ ρ1 3 ∧ ρ1 3 ≤ 0 := b1.2
    have f0 := (kF _ List.mem_cons_self).2.2.2
    have f0 : M1 81 ((0 + 10 : Int)).toNat = (1 * ρ1 3 + 0) + 0 := f0
    have g0 : ((0 + 10 : Int)) = 10 := by omega
    rw [g0] at f0
    have f0 : (M1 81 10) = ρ1 3 := by have f : (M1 81 10) = (1 * ρ1 3 + 0) + 0 := f0; omega
    have c0 : 0 ≤ (1 * ρ1 0 + 0) + (-1) := (kC _ List.mem_cons_self).2
    have c1 : 0 ≤ ((-1) * ρ1 0 + 0) + 120 := (kC _ (List.mem_cons_of_mem _ List.mem_cons_self)).2
    have c2 : 0 ≤ ((-1) * ρ1 0 + (1 * ρ1 1 + 0)) + 0 := (kC _ (List.mem_cons_of_mem _ (List.mem_cons_of_mem _ List.mem_cons_self))).2
    have c3 : 0 ≤ (1 * ρ1 3 + 0) + 0 := (kC _ (List.mem_cons_of_mem _ (List.mem_cons_of_mem _ (List.mem_cons_of_mem _ List.mem_cons_self)))).2
    have c4 : 0 ≤ ((-1) * ρ1 3 + 0) + 0 := (kC _ (List.mem_cons_of_mem _ (List.mem_cons_of_mem _ (List.mem_cons_of_mem _ (List.mem_cons_of_mem _ List.mem_cons_self))))).2
    rw [hr]
    exact k0 _ _ (by omega) (by omega) (by omega) (by omega) (by omega) (by omega) (by omega) (by omega) (by omega) g f
  · rcases ax_q2 hq with hq | hq
    · obtain ⟨-, ρ1, e0, hr, kE, kF, kC, kN⟩ := hq
      have hr : r = vi (ρ1 2) := hr
      have e1 : ρ1 0 = v1 := e0 0 (by decide)
      have e2 : ρ1 1 = (M 81 10) := e0 1 (by decide)
      have b0 := kE _ (List.mem_cons_self)
      have b0 : (-1) ≤ ρ1 2 ∧ ρ1 2 ≤ (-1) := b0.2
      have b1 := kE _ (List.mem_cons_of_mem _ List.mem_cons_self)
      have b1 : 0 ≤ ρ1 3 ∧ ρ1 3 ≤ 260 := b1.2
      have f0 := (kF _ List.mem_cons_self).2.2.2
      have f0 : M1 81 ((0 + 10 : Int)).toNat = (1 * ρ1 3 + 0) + 0 := f0
      have g0 : ((0 + 10 : Int)) = 10 := by omega
      rw [g0] at f0
      have f0 : (M1 81 10) = ρ1 3 := by have f : (M1 81 10) = (1 * ρ1 3 + 0) + 0 := f0; omega
      have c0 : 0 ≤ ((-1) * ρ1 0 + 0) + 0 := (kC _ List.mem_cons_self).2
      have c1 : 0 ≤ ((-1) * ρ1 1 + (1 * ρ1 3 + 0)) + 0 := (kC _ (List.mem_cons_of_mem _ List.mem_cons_self)).2
      have c2 : 0 ≤ (1 * ρ1 1 + ((-1) * ρ1 3 + 0)) + 0 := (kC _ (List.mem_cons_of_mem _ (List.mem_cons_of_mem _ List.mem_cons_self))).2
      rw [hr]
      exact k1 _ _ (by omega) (by omega) (by omega) (by omega) (by omega) (by omega) (by omega) g f
    · rcases ax_q2 hq with hq | hq
      · obtain ⟨-, ρ1, e0, hr, kE, kF, kC, kN⟩ := hq
        have hr : r = vi (ρ1 2) := hr
        have e1 : ρ1 0 = v1 := e0 0 (by decide)
        have e2 : ρ1 1 = (M 81 10) := e0 1 (by decide)
        have b0 := kE _ (List.mem_cons_self)
        have b0 : (-1) ≤ ρ1 2 ∧ ρ1 2 ≤ (-1) := b0.2
        have b1 := kE _ (List.mem_cons_of_mem _ List.mem_cons_self)
        have b1 : 0 ≤ ρ1 3 ∧ ρ1 3 ≤ 260 := b1.2
        have f0 := (kF _ List.mem_cons_self).2.2.2
        have f0 : M1 81 ((0 + 10 : Int)).toNat = (1 * ρ1 3 + 0) + 0 := f0
        have g0 : ((0 + 10 : Int)) = 10 := by omega
        rw [g0] at f0
        have f0 : (M1 81 10) = ρ1 3 := by have f : (M1 81 10) = (1 * ρ1 3 + 0) + 0 := f0; omega
        have c0 : 0 ≤ (1 * ρ1 0 + 0) + (-121) := (kC _ List.mem_cons_self).2
        have c1 : 0 ≤ ((-1) * ρ1 1 + (1 * ρ1 3 + 0)) + 0 := (kC _ (List.mem_cons_of_mem _ List.mem_cons_self)).2
        have c2 : 0 ≤ (1 * ρ1 1 + ((-1) * ρ1 3 + 0)) + 0 := (kC _ (List.mem_cons_of_mem _ (List.mem_cons_of_mem _ List.mem_cons_self))).2
        rw [hr]
        exact k2 _ _ (by omega) (by omega) (by omega) (by omega) (by omega) (by omega) (by omega) g f
      · replace hq := ax_q1 hq
        obtain ⟨-, ρ1, e0, hr, kE, kF, kC, kN⟩ := hq
        have hr : r = vi (ρ1 2) := hr
        have e1 : ρ1 0 = v1 := e0 0 (by decide)
        have e2 : ρ1 1 = (M 81 10) := e0 1 (by decide)
        have b0 := kE _ (List.mem_cons_self)
        have b0 : (-1) ≤ ρ1 2 ∧ ρ1 2 ≤ (-1) := b0.2
        have b1 := kE _ (List.mem_cons_of_mem _ List.mem_cons_self)
        have b1 : 0 ≤ ρ1 3 ∧ ρ1 3 ≤ 119 := b1.2
        have f0 := (kF _ List.mem_cons_self).2.2.2
        have f0 : M1 81 ((0 + 10 : Int)).toNat = (1 * ρ1 3 + 0) + 0 := f0
        have g0 : ((0 + 10 : Int)) = 10 := by omega
        rw [g0] at f0
        have f0 : (M1 81 10) = ρ1 3 := by have f : (M1 81 10) = (1 * ρ1 3 + 0) + 0 := f0; omega
        have c0 : 0 ≤ (1 * ρ1 0 + ((-1) * ρ1 1 + 0)) + (-1) := (kC _ List.mem_cons_self).2
        have c1 : 0 ≤ ((-1) * ρ1 1 + (1 * ρ1 3 + 0)) + 0 := (kC _ (List.mem_cons_of_mem _ List.mem_cons_self)).2
        have c2 : 0 ≤ (1 * ρ1 1 + ((-1) * ρ1 3 + 0)) + 0 := (kC _ (List.mem_cons_of_mem _ (List.mem_cons_of_mem _ List.mem_cons_self))).2
        rw [hr]
        exact k3 _ _ (by omega) (by omega) (by omega) (by omega) (by omega) (by omega) (by omega) g f
theorem mx_quarter {sc : List Int} {a0 : Int} (i0 : in32 a0) {M : MM} (G : axG M) : CA FF sc YF 59 m_X12_quarter [vr 81, vi a0] M (mxQ M (M 81 61)) := by
  obtain ⟨g, j, W⟩ := G
  exact u_X12_quarter (d := 59 - 4) (Q := mxQ M (M 81 61)) (ah_X12_quarter axH) (v1 := a0) (by have := i0; unfold in32 at this; omega) (by have := rO_81_10 g; omega) g j (fun r M1 q0 q1 q2 q3 q4 q5 q6 q7 q8 g1 f1 => have z := (mx_fin g1 f1 j W (by decide +kernel) (by decide +kernel)); ⟨⟨r, rfl⟩, z.1, z.2, (ax_frO f1 rfl (by decide +kernel))⟩) (fun r M1 q0 q1 q2 q3 q4 q5 q6 g1 f1 => have z := (mx_fin g1 f1 j W (by decide +kernel) (by decide +kernel)); ⟨⟨r, rfl⟩, z.1, z.2, (ax_frO f1 rfl (by decide +kernel))⟩) (fun r M1 q0 q1 q2 q3 q4 q5 q6 g1 f1 => have z := (mx_fin g1 f1 j W (by decide +kernel) (by decide +kernel)); ⟨⟨r, rfl⟩, z.1, z.2, (ax_frO f1 rfl (by decide +kernel))⟩) (fun r M1 q0 q1 q2 q3 q4 q5 q6 g1 f1 => have z := (mx_fin g1 f1 j W (by decide +kernel) (by decide +kernel)); ⟨⟨r, rfl⟩, z.1, z.2, (ax_frO f1 rfl (by decide +kernel))⟩)
theorem mx_walk {sc : List Int} {a0 a1 : Int} (i0 : in32 a0) (i1 : in32 a1) {M : MM} (G : axG M) : CA FF sc YF 59 m_X12_walk [vr 81, vi a0, vi a1] M (mxQ M (M 81 61)) := by
  obtain ⟨g, j, W⟩ := G
  exact sm_walk (d := 59 - 6) (Q := mxQ M (M 81 61)) ⟨g, j, W⟩ (fun r M1 G1 u k _ => ⟨⟨r, rfl⟩, G1, u, k⟩)
theorem mx_law {sc : List Int} {a0 : Int} (i0 : in32 a0) {M : MM} (G : axG M) : CA FF sc YF 59 m_X12_law [vr 81, vi a0] M (mxQ M (M 81 61)) := by
  obtain ⟨g, j, W⟩ := G
  exact sm_law (d := 59 - 9) (Q := mxQ M (M 81 61)) ⟨g, j, W⟩ (fun r M1 G1 u k _ => ⟨⟨r, rfl⟩, G1, u, k⟩)
theorem u_X12_stranger {J : MM → Prop} (S : ai_SP ax_T J ap_X12_stranger) {sc : List Int} {d : Nat} {M : MM} {Q : Vv → MM → Prop} {v1 v2 v3 v4 : Int} (h0 : (-2147483648) ≤ v1 ∧ v1 ≤ 2147483647) (h1 : (-2147483648) ≤ v2 ∧ v2 ≤ 2147483647) (h2 : (-2147483648) ≤ v3 ∧ v3 ≤ 2147483647) (h3 : (-2147483648) ≤ v4 ∧ v4 ≤ 2147483647) (G : ai_GI ax_T M) (j : J M) (k0 : ∀ (r : Int) (M1 : MM), 0 ≤ r → r ≤ 1 → ai_GI ax_T M1 → ai_Fr ax_T ap_X12_stranger.2.2.2.1 M M1 → Q (vi r) M1) : CA FF sc YF (d + 2) m_X12_stranger [vr 81, vi v1, vi v2, vi v3, vi v4] M Q := by
  refine S sc d (ax_rh [v1, v2, v3, v4]) M _ Q rfl rfl (And.intro (ax_r) (And.intro (ax_i (by decide) rfl) (And.intro (ax_i (by decide) rfl) (And.intro (ax_i (by decide) rfl) (And.intro (ax_i (by decide) rfl) trivial))))) ⟨(ax_e1 (by decide) h0.1 h0.2 (ax_e1 (by decide) h1.1 h1.2 (ax_e1 (by decide) h2.1 h2.2 (ax_e1 (by decide) h3.1 h3.2 ax_e0)))), ax_f0, ax_c0, ax_m0⟩ G j (fun r M1 g f hq => ?_)
  replace hq := ax_q1 hq
  obtain ⟨-, ρ1, e0, hr, kE, kF, kC, kN⟩ := hq
  have hr : r = vi (ρ1 4) := hr
  have e1 : ρ1 0 = v1 := e0 0 (by decide)
  have e2 : ρ1 1 = v2 := e0 1 (by decide)
  have e3 : ρ1 2 = v3 := e0 2 (by decide)
  have e4 : ρ1 3 = v4 := e0 3 (by decide)
  have b0 := kE _ (List.mem_cons_self)
  have b0 : 0 ≤ ρ1 4 ∧ ρ1 4 ≤ 1 := b0.2
  rw [hr]
  exact k0 _ _ (by omega) (by omega) g f
theorem mx_stranger {sc : List Int} {a0 a1 a2 a3 : Int} (i0 : in32 a0) (i1 : in32 a1) (i2 : in32 a2) (i3 : in32 a3) {M : MM} (G : axG M) : CA FF sc YF 59 m_X12_stranger [vr 81, vi a0, vi a1, vi a2, vi a3] M (mxQ M (M 81 61)) := by
  obtain ⟨g, j, W⟩ := G
  exact u_X12_stranger (d := 59 - 2) (Q := mxQ M (M 81 61)) (ah_X12_stranger axH) (v1 := a0) (v2 := a1) (v3 := a2) (v4 := a3) (by have := i0; unfold in32 at this; omega) (by have := i1; unfold in32 at this; omega) (by have := i2; unfold in32 at this; omega) (by have := i3; unfold in32 at this; omega) g j (fun r M1 q0 q1 g1 f1 => have z := (mx_fin g1 f1 j W (by decide +kernel) (by decide +kernel)); ⟨⟨r, rfl⟩, z.1, z.2, (ax_frO f1 rfl (by decide +kernel))⟩)
theorem u_X12_dog {J : MM → Prop} (S : ai_SP ax_T J ap_X12_dog) {sc : List Int} {d : Nat} {M : MM} {Q : Vv → MM → Prop} {v1 v2 : Int} (h0 : (-2147483648) ≤ v1 ∧ v1 ≤ 2147483647) (h1 : 0 ≤ v2 ∧ v2 ≤ 1) (G : ai_GI ax_T M) (j : J M) (k0 : ∀ (r : Int) (M1 : MM), 1 ≤ r → r ≤ 1 → 0 ≤ v1 → 0 ≤ 0 - v1 + 9 → ai_GI ax_T M1 → ai_Fr ax_T ap_X12_dog.2.2.2.1 M M1 → Q (vi r) M1) (k1 : ∀ (r : Int) (M1 : MM), 0 ≤ r → r ≤ 0 → 0 ≤ 0 - v1 - 1 → ai_GI ax_T M1 → ai_Fr ax_T ap_X12_dog.2.2.2.1 M M1 → Q (vi r) M1) (k2 : ∀ (r : Int) (M1 : MM), 0 ≤ r → r ≤ 0 → 0 ≤ v1 - 10 → ai_GI ax_T M1 → ai_Fr ax_T ap_X12_dog.2.2.2.1 M M1 → Q (vi r) M1) : CA FF sc YF (d + 2) m_X12_dog [vr 81, vi v1, vi v2] M Q := by
  refine S sc d (ax_rh [v1, v2]) M _ Q rfl rfl (And.intro (ax_r) (And.intro (ax_i (by decide) rfl) (And.intro (ax_i (by decide) rfl) trivial))) ⟨(ax_e1 (by decide) h0.1 h0.2 (ax_e1 (by decide) h1.1 h1.2 ax_e0)), ax_f0, ax_c0, ax_m0⟩ G j (fun r M1 g f hq => ?_)
  rcases ax_q2 hq with hq | hq
  · obtain ⟨-, ρ1, e0, hr, kE, kF, kC, kN⟩ := hq
    have hr : r = vi (ρ1 2) := hr
    have e1 : ρ1 0 = v1 := e0 0 (by decide)
    have e2 : ρ1 1 = v2 := e0 1 (by decide)
    have b0 := kE _ (List.mem_cons_self)
    have b0 : 1 ≤ ρ1 2 ∧ ρ1 2 ≤ 1 := b0.2
    have c0 : 0 ≤ (1 * ρ1 0 + 0) + 0 := (kC _ List.mem_cons_self).2
    have c1 : 0 ≤ ((-1) * ρ1 0 + 0) + 9 := (kC _ (List.mem_cons_of_mem _ List.mem_cons_self)).2
    rw [hr]
    exact k0 _ _ (by omega) (by omega) (by omega) (by omega) g f
  · rcases ax_q2 hq with hq | hq
    · obtain ⟨-, ρ1, e0, hr, kE, kF, kC, kN⟩ := hq
      have hr : r = vi (ρ1 2) := hr
      have e1 : ρ1 0 = v1 := e0 0 (by decide)
      have e2 : ρ1 1 = v2 := e0 1 (by decide)
      have b0 := kE _ (List.mem_cons_self)
      have b0 : 0 ≤ ρ1 2 ∧ ρ1 2 ≤ 0 := b0.2
      have c0 : 0 ≤ ((-1) * ρ1 0 + 0) + (-1) := (kC _ List.mem_cons_self).2
      rw [hr]
      exact k1 _ _ (by omega) (by omega) (by omega) g f
    · replace hq := ax_q1 hq
      obtain ⟨-, ρ1, e0, hr, kE, kF, kC, kN⟩ := hq
      have hr : r = vi (ρ1 2) := hr
      have e1 : ρ1 0 = v1 := e0 0 (by decide)
      have e2 : ρ1 1 = v2 := e0 1 (by decide)
      have b0 := kE _ (List.mem_cons_self)
      have b0 : 0 ≤ ρ1 2 ∧ ρ1 2 ≤ 0 := b0.2
      have c0 : 0 ≤ (1 * ρ1 0 + 0) + (-10) := (kC _ List.mem_cons_self).2
      rw [hr]
      exact k2 _ _ (by omega) (by omega) (by omega) g f
theorem mx_dog {sc : List Int} {a0 a1 : Int} (i0 : in32 a0) (hb : a1 = 0 ∨ a1 = 1) {M : MM} (G : axG M) : CA FF sc YF 59 m_X12_dog [vr 81, vi a0, vi a1] M (mxA M (ind (0 ≤ a0 ∧ a0 ≤ 9)) (M 81 61)) := by
  obtain ⟨g, j, W⟩ := G
  exact u_X12_dog (d := 59 - 2) (Q := mxA M (ind (0 ≤ a0 ∧ a0 ≤ 9)) (M 81 61)) (ah_X12_dog axH) (v1 := a0) (v2 := a1) (by have := i0; unfold in32 at this; omega) (by omega) g j (fun r M1 q0 q1 q2 q3 g1 f1 => have z := (mx_fin g1 f1 j W (by decide +kernel) (by decide +kernel)); ⟨congrArg vi (show r = ind (0 ≤ a0 ∧ a0 ≤ 9) by unfold ind; split <;> omega), z.1, z.2, (ax_frO f1 rfl (by decide +kernel))⟩) (fun r M1 q0 q1 q2 g1 f1 => have z := (mx_fin g1 f1 j W (by decide +kernel) (by decide +kernel)); ⟨congrArg vi (show r = ind (0 ≤ a0 ∧ a0 ≤ 9) by unfold ind; split <;> omega), z.1, z.2, (ax_frO f1 rfl (by decide +kernel))⟩) (fun r M1 q0 q1 q2 g1 f1 => have z := (mx_fin g1 f1 j W (by decide +kernel) (by decide +kernel)); ⟨congrArg vi (show r = ind (0 ≤ a0 ∧ a0 ≤ 9) by unfold ind; split <;> omega), z.1, z.2, (ax_frO f1 rfl (by decide +kernel))⟩)
theorem u_X12_tells {J : MM → Prop} (S : ai_SP ax_T J ap_X12_tells) {sc : List Int} {d : Nat} {M : MM} {Q : Vv → MM → Prop} {v1 : Int} (h0 : (-2147483648) ≤ v1 ∧ v1 ≤ 2147483647) (G : ai_GI ax_T M) (j : J M) (k0 : ∀ (r : Int) (M1 : MM), 0 ≤ r → r ≤ 1 → ai_GI ax_T M1 → ai_Fr ax_T ap_X12_tells.2.2.2.1 M M1 → Q (vi r) M1) : CA FF sc YF (d + 2) m_X12_tells [vr 81, vi v1] M Q := by
  refine S sc d (ax_rh [v1]) M _ Q rfl rfl (And.intro (ax_r) (And.intro (ax_i (by decide) rfl) trivial)) ⟨(ax_e1 (by decide) h0.1 h0.2 ax_e0), ax_f0, ax_c0, ax_m0⟩ G j (fun r M1 g f hq => ?_)
  replace hq := ax_q1 hq
  obtain ⟨-, ρ1, e0, hr, kE, kF, kC, kN⟩ := hq
  have hr : r = vi (ρ1 1) := hr
  have e1 : ρ1 0 = v1 := e0 0 (by decide)
  have b0 := kE _ (List.mem_cons_self)
  have b0 : 0 ≤ ρ1 1 ∧ ρ1 1 ≤ 1 := b0.2
  rw [hr]
  exact k0 _ _ (by omega) (by omega) g f
theorem mx_tells {sc : List Int} {a0 : Int} (i0 : in32 a0) {M : MM} (G : axG M) : CA FF sc YF 59 m_X12_tells [vr 81, vi a0] M (mxQ M (M 81 61)) := by
  obtain ⟨g, j, W⟩ := G
  exact u_X12_tells (d := 59 - 2) (Q := mxQ M (M 81 61)) (ah_X12_tells axH) (v1 := a0) (by have := i0; unfold in32 at this; omega) g j (fun r M1 q0 q1 g1 f1 => have z := (mx_fin g1 f1 j W (by decide +kernel) (by decide +kernel)); ⟨⟨r, rfl⟩, z.1, z.2, (ax_frO f1 rfl (by decide +kernel))⟩)
theorem u_X12_haunts {J : MM → Prop} (S : ai_SP ax_T J ap_X12_haunts) {sc : List Int} {d : Nat} {M : MM} {Q : Vv → MM → Prop} {v1 : Int} (h0 : (-2147483648) ≤ v1 ∧ v1 ≤ 2147483647) (G : ai_GI ax_T M) (j : J M) (k0 : ∀ (r : Int) (M1 : MM), (-2147483648) ≤ r → r ≤ 2147483647 → ai_GI ax_T M1 → ai_Fr ax_T ap_X12_haunts.2.2.2.1 M M1 → Q (vi r) M1) : CA FF sc YF (d + 8) m_X12_haunts [vr 81, vi v1] M Q := by
  refine S sc d (ax_rh [v1]) M _ Q rfl rfl (And.intro (ax_r) (And.intro (ax_i (by decide) rfl) trivial)) ⟨(ax_e1 (by decide) h0.1 h0.2 ax_e0), ax_f0, ax_c0, ax_m0⟩ G j (fun r M1 g f hq => ?_)
  replace hq := ax_q1 hq
  obtain ⟨-, ρ1, e0, hr, kE, kF, kC, kN⟩ := hq
  have hr : r = vi (ρ1 1) := hr
  have e1 : ρ1 0 = v1 := e0 0 (by decide)
  have b0 := kE _ (List.mem_cons_self)
  have b0 : (-2147483648) ≤ ρ1 1 ∧ ρ1 1 ≤ 2147483647 := b0.2
  rw [hr]
  exact k0 _ _ (by omega) (by omega) g f
theorem mx_haunts {sc : List Int} {a0 : Int} (i0 : in32 a0) {M : MM} (G : axG M) : CA FF sc YF 59 m_X12_haunts [vr 81, vi a0] M (mxQ M (M 81 61)) := by
  obtain ⟨g, j, W⟩ := G
  exact u_X12_haunts (d := 59 - 8) (Q := mxQ M (M 81 61)) (ah_X12_haunts axH) (v1 := a0) (by have := i0; unfold in32 at this; omega) g j (fun r M1 q0 q1 g1 f1 => have z := (mx_fin g1 f1 j W (by decide +kernel) (by decide +kernel)); ⟨⟨r, rfl⟩, z.1, z.2, (ax_frO f1 rfl (by decide +kernel))⟩)
theorem u_X12_tried {J : MM → Prop} (S : ai_SP ax_T J ap_X12_tried) {sc : List Int} {d : Nat} {M : MM} {Q : Vv → MM → Prop} {v1 v2 : Int} (h0 : (-2147483648) ≤ v1 ∧ v1 ≤ 2147483647) (h1 : (-2147483648) ≤ v2 ∧ v2 ≤ 2147483647) (G : ai_GI ax_T M) (j : J M) (k0 : ∀ (r : Int) (M1 : MM), (-2147483648) ≤ r → r ≤ 2147483647 → ai_GI ax_T M1 → ai_Fr ax_T ap_X12_tried.2.2.2.1 M M1 → Q (vi r) M1) : CA FF sc YF (d + 8) m_X12_tried [vr 81, vi v1, vi v2] M Q := by
  refine S sc d (ax_rh [v1, v2]) M _ Q rfl rfl (And.intro (ax_r) (And.intro (ax_i (by decide) rfl) (And.intro (ax_i (by decide) rfl) trivial))) ⟨(ax_e1 (by decide) h0.1 h0.2 (ax_e1 (by decide) h1.1 h1.2 ax_e0)), ax_f0, ax_c0, ax_m0⟩ G j (fun r M1 g f hq => ?_)
  replace hq := ax_q1 hq
  obtain ⟨-, ρ1, e0, hr, kE, kF, kC, kN⟩ := hq
  have hr : r = vi (ρ1 2) := hr
  have e1 : ρ1 0 = v1 := e0 0 (by decide)
  have e2 : ρ1 1 = v2 := e0 1 (by decide)
  have b0 := kE _ (List.mem_cons_self)
  have b0 : (-2147483648) ≤ ρ1 2 ∧ ρ1 2 ≤ 2147483647 := b0.2
  rw [hr]
  exact k0 _ _ (by omega) (by omega) g f
theorem mx_tried {sc : List Int} {a0 a1 : Int} (i0 : in32 a0) (i1 : in32 a1) {M : MM} (G : axG M) : CA FF sc YF 59 m_X12_tried [vr 81, vi a0, vi a1] M (mxQ M (M 81 61)) := by
  obtain ⟨g, j, W⟩ := G
  exact u_X12_tried (d := 59 - 8) (Q := mxQ M (M 81 61)) (ah_X12_tried axH) (v1 := a0) (v2 := a1) (by have := i0; unfold in32 at this; omega) (by have := i1; unfold in32 at this; omega) g j (fun r M1 q0 q1 g1 f1 => have z := (mx_fin g1 f1 j W (by decide +kernel) (by decide +kernel)); ⟨⟨r, rfl⟩, z.1, z.2, (ax_frO f1 rfl (by decide +kernel))⟩)
theorem u_X12_strangerIs {J : MM → Prop} (S : ai_SP ax_T J ap_X12_strangerIs) {sc : List Int} {d : Nat} {M : MM} {Q : Vv → MM → Prop} {v1 v2 : Int} (h0 : (-2147483648) ≤ v1 ∧ v1 ≤ 2147483647) (h1 : (-2147483648) ≤ v2 ∧ v2 ≤ 2147483647) (G : ai_GI ax_T M) (j : J M) (k0 : ∀ (r : Int) (M1 : MM), (-1) ≤ r → r ≤ 1023 → ai_GI ax_T M1 → ai_Fr ax_T ap_X12_strangerIs.2.2.2.1 M M1 → Q (vi r) M1) : CA FF sc YF (d + 5) m_X12_strangerIs [vr 81, vi v1, vi v2] M Q := by
  refine S sc d (ax_rh [v1, v2]) M _ Q rfl rfl (And.intro (ax_r) (And.intro (ax_i (by decide) rfl) (And.intro (ax_i (by decide) rfl) trivial))) ⟨(ax_e1 (by decide) h0.1 h0.2 (ax_e1 (by decide) h1.1 h1.2 ax_e0)), ax_f0, ax_c0, ax_m0⟩ G j (fun r M1 g f hq => ?_)
  replace hq := ax_q1 hq
  obtain ⟨-, ρ1, e0, hr, kE, kF, kC, kN⟩ := hq
  have hr : r = vi (ρ1 2) := hr
  have e1 : ρ1 0 = v1 := e0 0 (by decide)
  have e2 : ρ1 1 = v2 := e0 1 (by decide)
  have b0 := kE _ (List.mem_cons_self)
  have b0 : (-1) ≤ ρ1 2 ∧ ρ1 2 ≤ 1023 := b0.2
  rw [hr]
  exact k0 _ _ (by omega) (by omega) g f
theorem mx_strangerIs {sc : List Int} {a0 a1 : Int} (i0 : in32 a0) (i1 : in32 a1) {M : MM} (G : axG M) : CA FF sc YF 59 m_X12_strangerIs [vr 81, vi a0, vi a1] M (mxQ M (M 81 61)) := by
  obtain ⟨g, j, W⟩ := G
  exact u_X12_strangerIs (d := 59 - 5) (Q := mxQ M (M 81 61)) (ah_X12_strangerIs axH) (v1 := a0) (v2 := a1) (by have := i0; unfold in32 at this; omega) (by have := i1; unfold in32 at this; omega) g j (fun r M1 q0 q1 g1 f1 => have z := (mx_fin g1 f1 j W (by decide +kernel) (by decide +kernel)); ⟨⟨r, rfl⟩, z.1, z.2, (ax_frO f1 rfl (by decide +kernel))⟩)
theorem u_X12_houseIs {J : MM → Prop} (S : ai_SP ax_T J ap_X12_houseIs) {sc : List Int} {d : Nat} {M : MM} {Q : Vv → MM → Prop} {v1 v2 : Int} (h0 : (-2147483648) ≤ v1 ∧ v1 ≤ 2147483647) (h1 : (-2147483648) ≤ v2 ∧ v2 ≤ 2147483647) (G : ai_GI ax_T M) (j : J M) (k0 : ∀ (r : Int) (M1 : MM), (-2) ≤ r → r ≤ 255 → ai_GI ax_T M1 → ai_Fr ax_T ap_X12_houseIs.2.2.2.1 M M1 → Q (vi r) M1) : CA FF sc YF (d + 5) m_X12_houseIs [vr 81, vi v1, vi v2] M Q := by
  refine S sc d (ax_rh [v1, v2]) M _ Q rfl rfl (And.intro (ax_r) (And.intro (ax_i (by decide) rfl) (And.intro (ax_i (by decide) rfl) trivial))) ⟨(ax_e1 (by decide) h0.1 h0.2 (ax_e1 (by decide) h1.1 h1.2 ax_e0)), ax_f0, ax_c0, ax_m0⟩ G j (fun r M1 g f hq => ?_)
  replace hq := ax_q1 hq
  obtain ⟨-, ρ1, e0, hr, kE, kF, kC, kN⟩ := hq
  have hr : r = vi (ρ1 2) := hr
  have e1 : ρ1 0 = v1 := e0 0 (by decide)
  have e2 : ρ1 1 = v2 := e0 1 (by decide)
  have b0 := kE _ (List.mem_cons_self)
  have b0 : (-2) ≤ ρ1 2 ∧ ρ1 2 ≤ 255 := b0.2
  rw [hr]
  exact k0 _ _ (by omega) (by omega) g f
theorem mx_houseIs {sc : List Int} {a0 a1 : Int} (i0 : in32 a0) (i1 : in32 a1) {M : MM} (G : axG M) : CA FF sc YF 59 m_X12_houseIs [vr 81, vi a0, vi a1] M (mxQ M (M 81 61)) := by
  obtain ⟨g, j, W⟩ := G
  exact u_X12_houseIs (d := 59 - 5) (Q := mxQ M (M 81 61)) (ah_X12_houseIs axH) (v1 := a0) (v2 := a1) (by have := i0; unfold in32 at this; omega) (by have := i1; unfold in32 at this; omega) g j (fun r M1 q0 q1 g1 f1 => have z := (mx_fin g1 f1 j W (by decide +kernel) (by decide +kernel)); ⟨⟨r, rfl⟩, z.1, z.2, (ax_frO f1 rfl (by decide +kernel))⟩)
theorem u_X12_meet {J : MM → Prop} (S : ai_SP ax_T J ap_X12_meet) {sc : List Int} {d : Nat} {M : MM} {Q : Vv → MM → Prop} {v1 v2 v3 : Int} (h0 : (-2147483648) ≤ v1 ∧ v1 ≤ 2147483647) (h1 : (-2147483648) ≤ v2 ∧ v2 ≤ 2147483647) (h2 : (-2147483648) ≤ v3 ∧ v3 ≤ 2147483647) (G : ai_GI ax_T M) (j : J M) (k0 : ∀ (r : Int) (M1 : MM), (-2) ≤ r → r ≤ 63 → ai_GI ax_T M1 → ai_Fr ax_T ap_X12_meet.2.2.2.1 M M1 → Q (vi r) M1) : CA FF sc YF (d + 5) m_X12_meet [vr 81, vi v1, vi v2, vi v3] M Q := by
  refine S sc d (ax_rh [v1, v2, v3]) M _ Q rfl rfl (And.intro (ax_r) (And.intro (ax_i (by decide) rfl) (And.intro (ax_i (by decide) rfl) (And.intro (ax_i (by decide) rfl) (And.intro (ax_o) (And.intro (ax_o) (And.intro (ax_o) (And.intro (ax_o) (And.intro (ax_o) trivial))))))))) ⟨(ax_e1 (by decide) h0.1 h0.2 (ax_e1 (by decide) h1.1 h1.2 (ax_e1 (by decide) h2.1 h2.2 ax_e0))), ax_f0, ax_c0, ax_m0⟩ G j (fun r M1 g f hq => ?_)
  replace hq := ax_q1 hq
  obtain ⟨-, ρ1, e0, hr, kE, kF, kC, kN⟩ := hq
  have hr : r = vi (ρ1 3) := hr
  have e1 : ρ1 0 = v1 := e0 0 (by decide)
  have e2 : ρ1 1 = v2 := e0 1 (by decide)
  have e3 : ρ1 2 = v3 := e0 2 (by decide)
  have b0 := kE _ (List.mem_cons_self)
  have b0 : (-2) ≤ ρ1 3 ∧ ρ1 3 ≤ 63 := b0.2
  rw [hr]
  exact k0 _ _ (by omega) (by omega) g f
theorem mx_meet {sc : List Int} {a0 a1 a2 : Int} (i0 : in32 a0) (i1 : in32 a1) (i2 : in32 a2) {M : MM} (G : axG M) : CA FF sc YF 59 m_X12_meet [vr 81, vi a0, vi a1, vi a2] M (mxQ M (M 81 61)) := by
  obtain ⟨g, j, W⟩ := G
  exact u_X12_meet (d := 59 - 5) (Q := mxQ M (M 81 61)) (ah_X12_meet axH) (v1 := a0) (v2 := a1) (v3 := a2) (by have := i0; unfold in32 at this; omega) (by have := i1; unfold in32 at this; omega) (by have := i2; unfold in32 at this; omega) g j (fun r M1 q0 q1 g1 f1 => have z := (mx_fin g1 f1 j W (by decide +kernel) (by decide +kernel)); ⟨⟨r, rfl⟩, z.1, z.2, (ax_frO f1 rfl (by decide +kernel))⟩)
theorem u_X12_dread {J : MM → Prop} (S : ai_SP ax_T J ap_X12_dread) {sc : List Int} {d : Nat} {M : MM} {Q : Vv → MM → Prop} {v1 v2 v3 : Int} (h0 : (-2147483648) ≤ v1 ∧ v1 ≤ 2147483647) (h1 : (-2147483648) ≤ v2 ∧ v2 ≤ 2147483647) (h2 : (-2147483648) ≤ v3 ∧ v3 ≤ 2147483647) (G : ai_GI ax_T M) (j : J M) (k0 : ∀ (r : Int) (M1 : MM), (-2147483648) ≤ r → r ≤ 2147483647 → ai_GI ax_T M1 → ai_Fr ax_T ap_X12_dread.2.2.2.1 M M1 → Q (vi r) M1) : CA FF sc YF (d + 7) m_X12_dread [vr 81, vi v1, vi v2, vi v3] M Q := by
  refine S sc d (ax_rh [v1, v2, v3]) M _ Q rfl rfl (And.intro (ax_r) (And.intro (ax_i (by decide) rfl) (And.intro (ax_i (by decide) rfl) (And.intro (ax_i (by decide) rfl) (And.intro (ax_o) (And.intro (ax_o) (And.intro (ax_o) (And.intro (ax_o) trivial)))))))) ⟨(ax_e1 (by decide) h0.1 h0.2 (ax_e1 (by decide) h1.1 h1.2 (ax_e1 (by decide) h2.1 h2.2 ax_e0))), ax_f0, ax_c0, ax_m0⟩ G j (fun r M1 g f hq => ?_)
  replace hq := ax_q1 hq
  obtain ⟨-, ρ1, e0, hr, kE, kF, kC, kN⟩ := hq
  have hr : r = vi (ρ1 3) := hr
  have e1 : ρ1 0 = v1 := e0 0 (by decide)
  have e2 : ρ1 1 = v2 := e0 1 (by decide)
  have e3 : ρ1 2 = v3 := e0 2 (by decide)
  have b0 := kE _ (List.mem_cons_self)
  have b0 : (-2147483648) ≤ ρ1 3 ∧ ρ1 3 ≤ 2147483647 := b0.2
  rw [hr]
  exact k0 _ _ (by omega) (by omega) g f
theorem mx_dread {sc : List Int} {a0 a1 a2 : Int} (i0 : in32 a0) (i1 : in32 a1) (i2 : in32 a2) {M : MM} (G : axG M) : CA FF sc YF 59 m_X12_dread [vr 81, vi a0, vi a1, vi a2] M (mxQ M (M 81 61)) := by
  obtain ⟨g, j, W⟩ := G
  exact u_X12_dread (d := 59 - 7) (Q := mxQ M (M 81 61)) (ah_X12_dread axH) (v1 := a0) (v2 := a1) (v3 := a2) (by have := i0; unfold in32 at this; omega) (by have := i1; unfold in32 at this; omega) (by have := i2; unfold in32 at this; omega) g j (fun r M1 q0 q1 g1 f1 => have z := (mx_fin g1 f1 j W (by decide +kernel) (by decide +kernel)); ⟨⟨r, rfl⟩, z.1, z.2, (ax_frO f1 rfl (by decide +kernel))⟩)
theorem u_X12_unseen {J : MM → Prop} (S : ai_SP ax_T J ap_X12_unseen) {sc : List Int} {d : Nat} {M : MM} {Q : Vv → MM → Prop} {v1 v2 v3 : Int} (h0 : (-2147483648) ≤ v1 ∧ v1 ≤ 2147483647) (h1 : (-2147483648) ≤ v2 ∧ v2 ≤ 2147483647) (h2 : (-2147483648) ≤ v3 ∧ v3 ≤ 2147483647) (G : ai_GI ax_T M) (j : J M) (k0 : ∀ (r : Int) (M1 : MM), (-2) ≤ r → r ≤ 1000000000 → ai_GI ax_T M1 → ai_Fr ax_T ap_X12_unseen.2.2.2.1 M M1 → Q (vi r) M1) : CA FF sc YF (d + 7) m_X12_unseen [vr 81, vi v1, vi v2, vi v3] M Q := by
  refine S sc d (ax_rh [v1, v2, v3]) M _ Q rfl rfl (And.intro (ax_r) (And.intro (ax_i (by decide) rfl) (And.intro (ax_i (by decide) rfl) (And.intro (ax_i (by decide) rfl) trivial)))) ⟨(ax_e1 (by decide) h0.1 h0.2 (ax_e1 (by decide) h1.1 h1.2 (ax_e1 (by decide) h2.1 h2.2 ax_e0))), ax_f0, ax_c0, ax_m0⟩ G j (fun r M1 g f hq => ?_)
  replace hq := ax_q1 hq
  obtain ⟨-, ρ1, e0, hr, kE, kF, kC, kN⟩ := hq
  have hr : r = vi (ρ1 3) := hr
  have e1 : ρ1 0 = v1 := e0 0 (by decide)
  have e2 : ρ1 1 = v2 := e0 1 (by decide)
  have e3 : ρ1 2 = v3 := e0 2 (by decide)
  have b0 := kE _ (List.mem_cons_self)
  have b0 : (-2) ≤ ρ1 3 ∧ ρ1 3 ≤ 1000000000 := b0.2
  rw [hr]
  exact k0 _ _ (by omega) (by omega) g f
theorem mx_unseen {sc : List Int} {a0 a1 a2 : Int} (i0 : in32 a0) (i1 : in32 a1) (i2 : in32 a2) {M : MM} (G : axG M) : CA FF sc YF 59 m_X12_unseen [vr 81, vi a0, vi a1, vi a2] M (mxQ M (M 81 61)) := by
  obtain ⟨g, j, W⟩ := G
  exact u_X12_unseen (d := 59 - 7) (Q := mxQ M (M 81 61)) (ah_X12_unseen axH) (v1 := a0) (v2 := a1) (v3 := a2) (by have := i0; unfold in32 at this; omega) (by have := i1; unfold in32 at this; omega) (by have := i2; unfold in32 at this; omega) g j (fun r M1 q0 q1 g1 f1 => have z := (mx_fin g1 f1 j W (by decide +kernel) (by decide +kernel)); ⟨⟨r, rfl⟩, z.1, z.2, (ax_frO f1 rfl (by decide +kernel))⟩)
theorem u_X12_watch {J : MM → Prop} (S : ai_SP ax_T J ap_X12_watch) {sc : List Int} {d : Nat} {M : MM} {Q : Vv → MM → Prop} {v1 : Int} (h0 : (-2147483648) ≤ v1 ∧ v1 ≤ 2147483647) (G : ai_GI ax_T M) (j : J M) (k0 : ∀ (r : Int) (M1 : MM), (-2) ≤ r → r ≤ 2147483647 → ai_GI ax_T M1 → ai_Fr ax_T ap_X12_watch.2.2.2.1 M M1 → Q (vi r) M1) : CA FF sc YF (d + 5) m_X12_watch [vr 81, vi v1] M Q := by
  refine S sc d (ax_rh [v1]) M _ Q rfl rfl (And.intro (ax_r) (And.intro (ax_i (by decide) rfl) (And.intro (ax_o) (And.intro (ax_o) (And.intro (ax_o) (And.intro (ax_o) trivial)))))) ⟨(ax_e1 (by decide) h0.1 h0.2 ax_e0), ax_f0, ax_c0, ax_m0⟩ G j (fun r M1 g f hq => ?_)
  replace hq := ax_q1 hq
  obtain ⟨-, ρ1, e0, hr, kE, kF, kC, kN⟩ := hq
  have hr : r = vi (ρ1 1) := hr
  have e1 : ρ1 0 = v1 := e0 0 (by decide)
  have b0 := kE _ (List.mem_cons_self)
  have b0 : (-2) ≤ ρ1 1 ∧ ρ1 1 ≤ 2147483647 := b0.2
  rw [hr]
  exact k0 _ _ (by omega) (by omega) g f
theorem mx_watch {sc : List Int} {a0 : Int} (i0 : in32 a0) {M : MM} (G : axG M) : CA FF sc YF 59 m_X12_watch [vr 81, vi a0] M (mxQ M (M 81 61)) := by
  obtain ⟨g, j, W⟩ := G
  exact u_X12_watch (d := 59 - 5) (Q := mxQ M (M 81 61)) (ah_X12_watch axH) (v1 := a0) (by have := i0; unfold in32 at this; omega) g j (fun r M1 q0 q1 g1 f1 => have z := (mx_fin g1 f1 j W (by decide +kernel) (by decide +kernel)); ⟨⟨r, rfl⟩, z.1, z.2, (ax_frO f1 rfl (by decide +kernel))⟩)
theorem u_X12_feared {J : MM → Prop} (S : ai_SP ax_T J ap_X12_feared) {sc : List Int} {d : Nat} {M : MM} {Q : Vv → MM → Prop} {v1 v2 : Int} (h0 : (-2147483648) ≤ v1 ∧ v1 ≤ 2147483647) (h1 : (-2147483648) ≤ v2 ∧ v2 ≤ 2147483647) (G : ai_GI ax_T M) (j : J M) (k0 : ∀ (r : Int) (M1 : MM), (-1000) ≤ r → r ≤ 999 → ai_GI ax_T M1 → ai_Fr ax_T ap_X12_feared.2.2.2.1 M M1 → Q (vi r) M1) : CA FF sc YF (d + 8) m_X12_feared [vr 81, vi v1, vi v2] M Q := by
  refine S sc d (ax_rh [v1, v2]) M _ Q rfl rfl (And.intro (ax_r) (And.intro (ax_i (by decide) rfl) (And.intro (ax_i (by decide) rfl) (And.intro (ax_o) (And.intro (ax_o) (And.intro (ax_o) (And.intro (ax_o) trivial))))))) ⟨(ax_e1 (by decide) h0.1 h0.2 (ax_e1 (by decide) h1.1 h1.2 ax_e0)), ax_f0, ax_c0, ax_m0⟩ G j (fun r M1 g f hq => ?_)
  replace hq := ax_q1 hq
  obtain ⟨-, ρ1, e0, hr, kE, kF, kC, kN⟩ := hq
  have hr : r = vi (ρ1 2) := hr
  have e1 : ρ1 0 = v1 := e0 0 (by decide)
  have e2 : ρ1 1 = v2 := e0 1 (by decide)
  have b0 := kE _ (List.mem_cons_self)
  have b0 : (-1000) ≤ ρ1 2 ∧ ρ1 2 ≤ 999 := b0.2
  rw [hr]
  exact k0 _ _ (by omega) (by omega) g f
theorem mx_feared {sc : List Int} {a0 a1 : Int} (i0 : in32 a0) (i1 : in32 a1) {M : MM} (G : axG M) : CA FF sc YF 59 m_X12_feared [vr 81, vi a0, vi a1] M (mxQ M (M 81 61)) := by
  obtain ⟨g, j, W⟩ := G
  exact u_X12_feared (d := 59 - 8) (Q := mxQ M (M 81 61)) (ah_X12_feared axH) (v1 := a0) (v2 := a1) (by have := i0; unfold in32 at this; omega) (by have := i1; unfold in32 at this; omega) g j (fun r M1 q0 q1 g1 f1 => have z := (mx_fin g1 f1 j W (by decide +kernel) (by decide +kernel)); ⟨⟨r, rfl⟩, z.1, z.2, (ax_frO f1 rfl (by decide +kernel))⟩)
theorem mx_sightings {sc : List Int} {a0 a1 : Int} (i0 : in32 a0) (i1 : in32 a1) {M : MM} (G : axG M) : CA FF sc YF 59 m_X12_sightings [vr 81, vi a0, vi a1] M (mxQ M (M 81 61)) := by
  obtain ⟨g, j, W⟩ := G
  exact sm_sightings (d := 59 - 7) (Q := mxQ M (M 81 61)) ⟨g, j, W⟩ (fun r M1 G1 u k _ => ⟨⟨r, rfl⟩, G1, u, k⟩)
theorem mx_rotas {sc : List Int} {a0 a1 a2 a3 : Int} (i0 : in32 a0) (i1 : in32 a1) (i2 : in32 a2) (i3 : in32 a3) {M : MM} (G : axG M) : CA FF sc YF 59 m_X12_rotas [vr 81, vi a0, vi a1, vi a2, vi a3] M (mxQ M (M 81 61)) := by
  obtain ⟨g, j, W⟩ := G
  exact sm_rotas (d := 59 - 8) (Q := mxQ M (M 81 61)) ⟨g, j, W⟩ (fun r M1 G1 u k _ => ⟨⟨r, rfl⟩, G1, u, k⟩)
theorem u_X12_goes {J : MM → Prop} (S : ai_SP ax_T J ap_X12_goes) {sc : List Int} {d : Nat} {M : MM} {Q : Vv → MM → Prop} {v1 v2 : Int} (h0 : (-2147483648) ≤ v1 ∧ v1 ≤ 2147483647) (h1 : (-2147483648) ≤ v2 ∧ v2 ≤ 2147483647) (G : ai_GI ax_T M) (j : J M) (k0 : ∀ (r : Int) (M1 : MM), (-1) ≤ r → r ≤ 1023 → ai_GI ax_T M1 → ai_Fr ax_T ap_X12_goes.2.2.2.1 M M1 → Q (vi r) M1) : CA FF sc YF (d + 6) m_X12_goes [vr 81, vi v1, vi v2] M Q := by
  refine S sc d (ax_rh [v1, v2]) M _ Q rfl rfl (And.intro (ax_r) (And.intro (ax_i (by decide) rfl) (And.intro (ax_i (by decide) rfl) (And.intro (ax_o) (And.intro (ax_o) (And.intro (ax_o) (And.intro (ax_o) (And.intro (ax_o) trivial)))))))) ⟨(ax_e1 (by decide) h0.1 h0.2 (ax_e1 (by decide) h1.1 h1.2 ax_e0)), ax_f0, ax_c0, ax_m0⟩ G j (fun r M1 g f hq => ?_)
  replace hq := ax_q1 hq
  obtain ⟨-, ρ1, e0, hr, kE, kF, kC, kN⟩ := hq
  have hr : r = vi (ρ1 2) := hr
  have e1 : ρ1 0 = v1 := e0 0 (by decide)
  have e2 : ρ1 1 = v2 := e0 1 (by decide)
  have b0 := kE _ (List.mem_cons_self)
  have b0 : (-1) ≤ ρ1 2 ∧ ρ1 2 ≤ 1023 := b0.2
  rw [hr]
  exact k0 _ _ (by omega) (by omega) g f
theorem mx_goes {sc : List Int} {a0 a1 : Int} (i0 : in32 a0) (i1 : in32 a1) {M : MM} (G : axG M) : CA FF sc YF 59 m_X12_goes [vr 81, vi a0, vi a1] M (mxQ M (M 81 61)) := by
  obtain ⟨g, j, W⟩ := G
  exact u_X12_goes (d := 59 - 6) (Q := mxQ M (M 81 61)) (ah_X12_goes axH) (v1 := a0) (v2 := a1) (by have := i0; unfold in32 at this; omega) (by have := i1; unfold in32 at this; omega) g j (fun r M1 q0 q1 g1 f1 => have z := (mx_fin g1 f1 j W (by decide +kernel) (by decide +kernel)); ⟨⟨r, rfl⟩, z.1, z.2, (ax_frO f1 rfl (by decide +kernel))⟩)
theorem u_X12_odds {J : MM → Prop} (S : ai_SP ax_T J ap_X12_odds) {sc : List Int} {d : Nat} {M : MM} {Q : Vv → MM → Prop} {v1 v2 v3 : Int} (h0 : (-2147483648) ≤ v1 ∧ v1 ≤ 2147483647) (h1 : (-2147483648) ≤ v2 ∧ v2 ≤ 2147483647) (h2 : (-2147483648) ≤ v3 ∧ v3 ≤ 2147483647) (G : ai_GI ax_T M) (j : J M) (k0 : ∀ (r : Int) (M1 : MM), (-9223372036854775808) ≤ r → r ≤ 9223372036854775807 → ai_GI ax_T M1 → ai_Fr ax_T ap_X12_odds.2.2.2.1 M M1 → Q (vl r) M1) : CA FF sc YF (d + 7) m_X12_odds [vr 81, vi v1, vi v2, vi v3] M Q := by
  refine S sc d (ax_rh [v1, v2, v3]) M _ Q rfl rfl (And.intro (ax_r) (And.intro (ax_i (by decide) rfl) (And.intro (ax_i (by decide) rfl) (And.intro (ax_i (by decide) rfl) (And.intro (ax_o) (And.intro (ax_o) (And.intro (ax_o) (And.intro (ax_o) (And.intro (ax_o) (And.intro (ax_o) (And.intro (ax_o) trivial))))))))))) ⟨(ax_e1 (by decide) h0.1 h0.2 (ax_e1 (by decide) h1.1 h1.2 (ax_e1 (by decide) h2.1 h2.2 ax_e0))), ax_f0, ax_c0, ax_m0⟩ G j (fun r M1 g f hq => ?_)
  replace hq := ax_q1 hq
  obtain ⟨-, ρ1, e0, hr, kE, kF, kC, kN⟩ := hq
  have hr : r = vl (ρ1 3) := hr
  have e1 : ρ1 0 = v1 := e0 0 (by decide)
  have e2 : ρ1 1 = v2 := e0 1 (by decide)
  have e3 : ρ1 2 = v3 := e0 2 (by decide)
  have b0 := kE _ (List.mem_cons_self)
  have b0 : (-9223372036854775808) ≤ ρ1 3 ∧ ρ1 3 ≤ 9223372036854775807 := b0.2
  rw [hr]
  exact k0 _ _ (by omega) (by omega) g f
theorem mx_odds {sc : List Int} {a0 a1 a2 : Int} (i0 : in32 a0) (i1 : in32 a1) (i2 : in32 a2) {M : MM} (G : axG M) : CA FF sc YF 59 m_X12_odds [vr 81, vi a0, vi a1, vi a2] M (mxL M (M 81 61)) := by
  obtain ⟨g, j, W⟩ := G
  exact u_X12_odds (d := 59 - 7) (Q := mxL M (M 81 61)) (ah_X12_odds axH) (v1 := a0) (v2 := a1) (v3 := a2) (by have := i0; unfold in32 at this; omega) (by have := i1; unfold in32 at this; omega) (by have := i2; unfold in32 at this; omega) g j (fun r M1 q0 q1 g1 f1 => have z := (mx_fin g1 f1 j W (by decide +kernel) (by decide +kernel)); ⟨⟨r, rfl⟩, z.1, z.2, (ax_frO f1 rfl (by decide +kernel))⟩)
theorem u_X12_watered {J : MM → Prop} (S : ai_SP ax_T J ap_X12_watered) {sc : List Int} {d : Nat} {M : MM} {Q : Vv → MM → Prop} {v1 : Int} (h0 : (-2147483648) ≤ v1 ∧ v1 ≤ 2147483647) (G : ai_GI ax_T M) (j : J M) (k0 : ∀ (r : Int) (M1 : MM), (-2) ≤ r → r ≤ 9 → ai_GI ax_T M1 → ai_Fr ax_T ap_X12_watered.2.2.2.1 M M1 → Q (vi r) M1) : CA FF sc YF (d + 7) m_X12_watered [vr 81, vi v1] M Q := by
  refine S sc d (ax_rh [v1]) M _ Q rfl rfl (And.intro (ax_r) (And.intro (ax_i (by decide) rfl) (And.intro (ax_o) (And.intro (ax_o) (And.intro (ax_o) (And.intro (ax_o) (And.intro (ax_o) (And.intro (ax_o) (And.intro (ax_o) (And.intro (ax_o) (And.intro (ax_o) trivial))))))))))) ⟨(ax_e1 (by decide) h0.1 h0.2 ax_e0), ax_f0, ax_c0, ax_m0⟩ G j (fun r M1 g f hq => ?_)
  replace hq := ax_q1 hq
  obtain ⟨-, ρ1, e0, hr, kE, kF, kC, kN⟩ := hq
  have hr : r = vi (ρ1 1) := hr
  have e1 : ρ1 0 = v1 := e0 0 (by decide)
  have b0 := kE _ (List.mem_cons_self)
  have b0 : (-2) ≤ ρ1 1 ∧ ρ1 1 ≤ 9 := b0.2
  rw [hr]
  exact k0 _ _ (by omega) (by omega) g f
theorem mx_watered {sc : List Int} {a0 : Int} (i0 : in32 a0) {M : MM} (G : axG M) : CA FF sc YF 59 m_X12_watered [vr 81, vi a0] M (mxQ M (M 81 61)) := by
  obtain ⟨g, j, W⟩ := G
  exact u_X12_watered (d := 59 - 7) (Q := mxQ M (M 81 61)) (ah_X12_watered axH) (v1 := a0) (by have := i0; unfold in32 at this; omega) g j (fun r M1 q0 q1 g1 f1 => have z := (mx_fin g1 f1 j W (by decide +kernel) (by decide +kernel)); ⟨⟨r, rfl⟩, z.1, z.2, (ax_frO f1 rfl (by decide +kernel))⟩)
theorem u_X12_tax {J : MM → Prop} (S : ai_SP ax_T J ap_X12_tax) {sc : List Int} {d : Nat} {M : MM} {Q : Vv → MM → Prop} {v1 : Int} (h0 : (-2147483648) ≤ v1 ∧ v1 ≤ 2147483647) (h1 : 0 ≤ (M 81 10) ∧ (M 81 10) ≤ 260) (G : ai_GI ax_T M) (j : J M) (k0 : ∀ (r : Int) (M1 : MM), (-2147483648) ≤ r → r ≤ 2147483647 → 0 ≤ (M1 81 10) → (M1 81 10) ≤ 0 → 0 ≤ v1 → 0 ≤ 0 - v1 + 9 → 0 ≤ (M 81 10) - 10 → 0 ≤ (M1 81 10) → 0 ≤ 0 - (M1 81 10) → ai_GI ax_T M1 → ai_Fr ax_T ap_X12_tax.2.2.2.1 M M1 → Q (vi r) M1) (k1 : ∀ (r : Int) (M1 : MM), (-1) ≤ r → r ≤ (-1) → 0 ≤ (M1 81 10) → (M1 81 10) ≤ 260 → 0 ≤ 0 - v1 - 1 → 0 ≤ 0 - (M 81 10) + (M1 81 10) → 0 ≤ (M 81 10) - (M1 81 10) → ai_GI ax_T M1 → ai_Fr ax_T ap_X12_tax.2.2.2.1 M M1 → Q (vi r) M1) (k2 : ∀ (r : Int) (M1 : MM), (-1) ≤ r → r ≤ (-1) → 0 ≤ (M1 81 10) → (M1 81 10) ≤ 260 → 0 ≤ v1 - 10 → 0 ≤ 0 - (M 81 10) + (M1 81 10) → 0 ≤ (M 81 10) - (M1 81 10) → ai_GI ax_T M1 → ai_Fr ax_T ap_X12_tax.2.2.2.1 M M1 → Q (vi r) M1) (k3 : ∀ (r : Int) (M1 : MM), (-1) ≤ r → r ≤ (-1) → 0 ≤ (M1 81 10) → (M1 81 10) ≤ 9 → 0 ≤ 0 - (M 81 10) + 9 → 0 ≤ 0 - (M 81 10) + (M1 81 10) → 0 ≤ (M 81 10) - (M1 81 10) → ai_GI ax_T M1 → ai_Fr ax_T ap_X12_tax.2.2.2.1 M M1 → Q (vi r) M1) : CA FF sc YF (d + 2) m_X12_tax [vr 81, vi v1] M Q := by
  refine S sc d (ax_rh [v1, (M 81 10)]) M _ Q rfl rfl (And.intro (ax_r) (And.intro (ax_i (by decide) rfl) (And.intro (ax_o) (And.intro (ax_o) (And.intro (ax_o) (And.intro (ax_o) (And.intro (ax_o) (And.intro (ax_o) trivial)))))))) ⟨(ax_e1 (by decide) h0.1 h0.2 (ax_e1 (by decide) h1.1 h1.2 ax_e0)), (ax_f1 (i := 10) (by decide) (by decide) (by show 0 + 10 = 10; omega) (by decide) rfl ax_f0), ax_c0, ax_m0⟩ G j (fun r M1 g f hq => ?_)
  rcases ax_q2 hq with hq | hq
  · obtain ⟨-, ρ1, e0, hr, kE, kF, kC, kN⟩ := hq
    have hr : r = vi (ρ1 2) := hr
    have e1 : ρ1 0 = v1 := e0 0 (by decide)
    have e2 : ρ1 1 = (M 81 10) := e0 1 (by decide)
    have b0 := kE _ (List.mem_cons_self)
    have b0 : (-2147483648) ≤ ρ1 2 ∧ ρ1 2 ≤ 2147483647 := b0.2
    have b1 := kE _ (List.mem_cons_of_mem _ List.mem_cons_self)
    have b1 : 0 ≤ ρ1 3 ∧ ρ1 3 ≤ 0 := b1.2
    have f0 := (kF _ List.mem_cons_self).2.2.2
    have f0 : M1 81 ((0 + 10 : Int)).toNat = (1 * ρ1 3 + 0) + 0 := f0
    have g0 : ((0 + 10 : Int)) = 10 := by omega
    rw [g0] at f0
    have f0 : (M1 81 10) = ρ1 3 := by have f : (M1 81 10) = (1 * ρ1 3 + 0) + 0 := f0; omega
    have c0 : 0 ≤ (1 * ρ1 0 + 0) + 0 := (kC _ List.mem_cons_self).2
    have c1 : 0 ≤ ((-1) * ρ1 0 + 0) + 9 := (kC _ (List.mem_cons_of_mem _ List.mem_cons_self)).2
    have c2 : 0 ≤ (1 * ρ1 1 + 0) + (-10) := (kC _ (List.mem_cons_of_mem _ (List.mem_cons_of_mem _ List.mem_cons_self))).2
    have c3 : 0 ≤ (1 * ρ1 3 + 0) + 0 := (kC _ (List.mem_cons_of_mem _ (List.mem_cons_of_mem _ (List.mem_cons_of_mem _ List.mem_cons_self)))).2
    have c4 : 0 ≤ ((-1) * ρ1 3 + 0) + 0 := (kC _ (List.mem_cons_of_mem _ (List.mem_cons_of_mem _ (List.mem_cons_of_mem _ (List.mem_cons_of_mem _ List.mem_cons_self))))).2
    rw [hr]
    exact k0 _ _ (by omega) (by omega) (by omega) (by omega) (by omega) (by omega) (by omega) (by omega) (by omega) g f
  · rcases ax_q2 hq with hq | hq
    · obtain ⟨-, ρ1, e0, hr, kE, kF, kC, kN⟩ := hq
      have hr : r = vi (ρ1 2) := hr
      have e1 : ρ1 0 = v1 := e0 0 (by decide)
      have e2 : ρ1 1 = (M 81 10) := e0 1 (by decide)
      have b0 := kE _ (List.mem_cons_self)
      have b0 : (-1) ≤ ρ1 2 ∧ ρ1 2 ≤ (-1) := b0.2
      have b1 := kE _ (List.mem_cons_of_mem _ List.mem_cons_self)
      have b1 : 0 ≤ ρ1 3 ∧ ρ1 3 ≤ 260 := b1.2
      have f0 := (kF _ List.mem_cons_self).2.2.2
      have f0 : M1 81 ((0 + 10 : Int)).toNat = (1 * ρ1 3 + 0) + 0 := f0
      have g0 : ((0 + 10 : Int)) = 10 := by omega
      rw [g0] at f0
      have f0 : (M1 81 10) = ρ1 3 := by have f : (M1 81 10) = (1 * ρ1 3 + 0) + 0 := f0; omega
      have c0 : 0 ≤ ((-1) * ρ1 0 + 0) + (-1) := (kC _ List.mem_cons_self).2
      have c1 : 0 ≤ ((-1) * ρ1 1 + (1 * ρ1 3 + 0)) + 0 := (kC _ (List.mem_cons_of_mem _ List.mem_cons_self)).2
      have c2 : 0 ≤ (1 * ρ1 1 + ((-1) * ρ1 3 + 0)) + 0 := (kC _ (List.mem_cons_of_mem _ (List.mem_cons_of_mem _ List.mem_cons_self))).2
      rw [hr]
      exact k1 _ _ (by omega) (by omega) (by omega) (by omega) (by omega) (by omega) (by omega) g f
    · rcases ax_q2 hq with hq | hq
      · obtain ⟨-, ρ1, e0, hr, kE, kF, kC, kN⟩ := hq
        have hr : r = vi (ρ1 2) := hr
        have e1 : ρ1 0 = v1 := e0 0 (by decide)
        have e2 : ρ1 1 = (M 81 10) := e0 1 (by decide)
        have b0 := kE _ (List.mem_cons_self)
        have b0 : (-1) ≤ ρ1 2 ∧ ρ1 2 ≤ (-1) := b0.2
        have b1 := kE _ (List.mem_cons_of_mem _ List.mem_cons_self)
        have b1 : 0 ≤ ρ1 3 ∧ ρ1 3 ≤ 260 := b1.2
        have f0 := (kF _ List.mem_cons_self).2.2.2
        have f0 : M1 81 ((0 + 10 : Int)).toNat = (1 * ρ1 3 + 0) + 0 := f0
        have g0 : ((0 + 10 : Int)) = 10 := by omega
        rw [g0] at f0
        have f0 : (M1 81 10) = ρ1 3 := by have f : (M1 81 10) = (1 * ρ1 3 + 0) + 0 := f0; omega
        have c0 : 0 ≤ (1 * ρ1 0 + 0) + (-10) := (kC _ List.mem_cons_self).2
        have c1 : 0 ≤ ((-1) * ρ1 1 + (1 * ρ1 3 + 0)) + 0 := (kC _ (List.mem_cons_of_mem _ List.mem_cons_self)).2
        have c2 : 0 ≤ (1 * ρ1 1 + ((-1) * ρ1 3 + 0)) + 0 := (kC _ (List.mem_cons_of_mem _ (List.mem_cons_of_mem _ List.mem_cons_self))).2
        rw [hr]
        exact k2 _ _ (by omega) (by omega) (by omega) (by omega) (by omega) (by omega) (by omega) g f
      · replace hq := ax_q1 hq
        obtain ⟨-, ρ1, e0, hr, kE, kF, kC, kN⟩ := hq
        have hr : r = vi (ρ1 2) := hr
        have e1 : ρ1 0 = v1 := e0 0 (by decide)
        have e2 : ρ1 1 = (M 81 10) := e0 1 (by decide)
        have b0 := kE _ (List.mem_cons_self)
        have b0 : (-1) ≤ ρ1 2 ∧ ρ1 2 ≤ (-1) := b0.2
        have b1 := kE _ (List.mem_cons_of_mem _ List.mem_cons_self)
        have b1 : 0 ≤ ρ1 3 ∧ ρ1 3 ≤ 9 := b1.2
        have f0 := (kF _ List.mem_cons_self).2.2.2
        have f0 : M1 81 ((0 + 10 : Int)).toNat = (1 * ρ1 3 + 0) + 0 := f0
        have g0 : ((0 + 10 : Int)) = 10 := by omega
        rw [g0] at f0
        have f0 : (M1 81 10) = ρ1 3 := by have f : (M1 81 10) = (1 * ρ1 3 + 0) + 0 := f0; omega
        have c0 : 0 ≤ ((-1) * ρ1 1 + 0) + 9 := (kC _ List.mem_cons_self).2
        have c1 : 0 ≤ ((-1) * ρ1 1 + (1 * ρ1 3 + 0)) + 0 := (kC _ (List.mem_cons_of_mem _ List.mem_cons_self)).2
        have c2 : 0 ≤ (1 * ρ1 1 + ((-1) * ρ1 3 + 0)) + 0 := (kC _ (List.mem_cons_of_mem _ (List.mem_cons_of_mem _ List.mem_cons_self))).2
        rw [hr]
        exact k3 _ _ (by omega) (by omega) (by omega) (by omega) (by omega) (by omega) (by omega) g f
theorem mx_tax {sc : List Int} {a0 : Int} (i0 : in32 a0) {M : MM} (G : axG M) : CA FF sc YF 59 m_X12_tax [vr 81, vi a0] M (mxQ M (M 81 61)) := by
  obtain ⟨g, j, W⟩ := G
  exact u_X12_tax (d := 59 - 2) (Q := mxQ M (M 81 61)) (ah_X12_tax axH) (v1 := a0) (by have := i0; unfold in32 at this; omega) (by have := rO_81_10 g; omega) g j (fun r M1 q0 q1 q2 q3 q4 q5 q6 q7 q8 g1 f1 => have z := (mx_fin g1 f1 j W (by decide +kernel) (by decide +kernel)); ⟨⟨r, rfl⟩, z.1, z.2, (ax_frO f1 rfl (by decide +kernel))⟩) (fun r M1 q0 q1 q2 q3 q4 q5 q6 g1 f1 => have z := (mx_fin g1 f1 j W (by decide +kernel) (by decide +kernel)); ⟨⟨r, rfl⟩, z.1, z.2, (ax_frO f1 rfl (by decide +kernel))⟩) (fun r M1 q0 q1 q2 q3 q4 q5 q6 g1 f1 => have z := (mx_fin g1 f1 j W (by decide +kernel) (by decide +kernel)); ⟨⟨r, rfl⟩, z.1, z.2, (ax_frO f1 rfl (by decide +kernel))⟩) (fun r M1 q0 q1 q2 q3 q4 q5 q6 g1 f1 => have z := (mx_fin g1 f1 j W (by decide +kernel) (by decide +kernel)); ⟨⟨r, rfl⟩, z.1, z.2, (ax_frO f1 rfl (by decide +kernel))⟩)
theorem u_X12_hand {J : MM → Prop} (S : ai_SP ax_T J ap_X12_hand) {sc : List Int} {d : Nat} {M : MM} {Q : Vv → MM → Prop} {v1 v2 : Int} (h0 : (-2147483648) ≤ v1 ∧ v1 ≤ 2147483647) (h1 : (-2147483648) ≤ v2 ∧ v2 ≤ 2147483647) (G : ai_GI ax_T M) (j : J M) (k0 : ∀ (r : Int) (M1 : MM), 1 ≤ r → r ≤ 1 → 0 ≤ v1 → 0 ≤ 0 - v1 + 9 → 0 ≤ v2 → 0 ≤ 0 - v2 + 255 → ai_GI ax_T M1 → ai_Fr ax_T ap_X12_hand.2.2.2.1 M M1 → Q (vi r) M1) (k1 : ∀ (r : Int) (M1 : MM), 0 ≤ r → r ≤ 0 → 0 ≤ 0 - v1 - 1 → ai_GI ax_T M1 → ai_Fr ax_T ap_X12_hand.2.2.2.1 M M1 → Q (vi r) M1) (k2 : ∀ (r : Int) (M1 : MM), 0 ≤ r → r ≤ 0 → 0 ≤ v1 - 10 → ai_GI ax_T M1 → ai_Fr ax_T ap_X12_hand.2.2.2.1 M M1 → Q (vi r) M1) (k3 : ∀ (r : Int) (M1 : MM), 0 ≤ r → r ≤ 0 → 0 ≤ 0 - v2 - 1 → ai_GI ax_T M1 → ai_Fr ax_T ap_X12_hand.2.2.2.1 M M1 → Q (vi r) M1) (k4 : ∀ (r : Int) (M1 : MM), 0 ≤ r → r ≤ 0 → 0 ≤ v2 - 256 → ai_GI ax_T M1 → ai_Fr ax_T ap_X12_hand.2.2.2.1 M M1 → Q (vi r) M1) : CA FF sc YF (d + 2) m_X12_hand [vr 81, vi v1, vi v2] M Q := by
  refine S sc d (ax_rh [v1, v2]) M _ Q rfl rfl (And.intro (ax_r) (And.intro (ax_i (by decide) rfl) (And.intro (ax_i (by decide) rfl) trivial))) ⟨(ax_e1 (by decide) h0.1 h0.2 (ax_e1 (by decide) h1.1 h1.2 ax_e0)), ax_f0, ax_c0, ax_m0⟩ G j (fun r M1 g f hq => ?_)
  rcases ax_q2 hq with hq | hq
  · obtain ⟨-, ρ1, e0, hr, kE, kF, kC, kN⟩ := hq
    have hr : r = vi (ρ1 2) := hr
    have e1 : ρ1 0 = v1 := e0 0 (by decide)
    have e2 : ρ1 1 = v2 := e0 1 (by decide)
    have b0 := kE _ (List.mem_cons_self)
    have b0 : 1 ≤ ρ1 2 ∧ ρ1 2 ≤ 1 := b0.2
    have c0 : 0 ≤ (1 * ρ1 0 + 0) + 0 := (kC _ List.mem_cons_self).2
    have c1 : 0 ≤ ((-1) * ρ1 0 + 0) + 9 := (kC _ (List.mem_cons_of_mem _ List.mem_cons_self)).2
    have c2 : 0 ≤ (1 * ρ1 1 + 0) + 0 := (kC _ (List.mem_cons_of_mem _ (List.mem_cons_of_mem _ List.mem_cons_self))).2
    have c3 : 0 ≤ ((-1) * ρ1 1 + 0) + 255 := (kC _ (List.mem_cons_of_mem _ (List.mem_cons_of_mem _ (List.mem_cons_of_mem _ List.mem_cons_self)))).2
    rw [hr]
    exact k0 _ _ (by omega) (by omega) (by omega) (by omega) (by omega) (by omega) g f
  · rcases ax_q2 hq with hq | hq
    · obtain ⟨-, ρ1, e0, hr, kE, kF, kC, kN⟩ := hq
      have hr : r = vi (ρ1 2) := hr
      have e1 : ρ1 0 = v1 := e0 0 (by decide)
      have e2 : ρ1 1 = v2 := e0 1 (by decide)
      have b0 := kE _ (List.mem_cons_self)
      have b0 : 0 ≤ ρ1 2 ∧ ρ1 2 ≤ 0 := b0.2
      have c0 : 0 ≤ ((-1) * ρ1 0 + 0) + (-1) := (kC _ List.mem_cons_self).2
      rw [hr]
      exact k1 _ _ (by omega) (by omega) (by omega) g f
    · rcases ax_q2 hq with hq | hq
      · obtain ⟨-, ρ1, e0, hr, kE, kF, kC, kN⟩ := hq
        have hr : r = vi (ρ1 2) := hr
        have e1 : ρ1 0 = v1 := e0 0 (by decide)
        have e2 : ρ1 1 = v2 := e0 1 (by decide)
        have b0 := kE _ (List.mem_cons_self)
        have b0 : 0 ≤ ρ1 2 ∧ ρ1 2 ≤ 0 := b0.2
        have c0 : 0 ≤ (1 * ρ1 0 + 0) + (-10) := (kC _ List.mem_cons_self).2
        rw [hr]
        exact k2 _ _ (by omega) (by omega) (by omega) g f
      · rcases ax_q2 hq with hq | hq
        · obtain ⟨-, ρ1, e0, hr, kE, kF, kC, kN⟩ := hq
          have hr : r = vi (ρ1 2) := hr
          have e1 : ρ1 0 = v1 := e0 0 (by decide)
          have e2 : ρ1 1 = v2 := e0 1 (by decide)
          have b0 := kE _ (List.mem_cons_self)
          have b0 : 0 ≤ ρ1 2 ∧ ρ1 2 ≤ 0 := b0.2
          have c0 : 0 ≤ ((-1) * ρ1 1 + 0) + (-1) := (kC _ List.mem_cons_self).2
          rw [hr]
          exact k3 _ _ (by omega) (by omega) (by omega) g f
        · replace hq := ax_q1 hq
          obtain ⟨-, ρ1, e0, hr, kE, kF, kC, kN⟩ := hq
          have hr : r = vi (ρ1 2) := hr
          have e1 : ρ1 0 = v1 := e0 0 (by decide)
          have e2 : ρ1 1 = v2 := e0 1 (by decide)
          have b0 := kE _ (List.mem_cons_self)
          have b0 : 0 ≤ ρ1 2 ∧ ρ1 2 ≤ 0 := b0.2
          have c0 : 0 ≤ (1 * ρ1 1 + 0) + (-256) := (kC _ List.mem_cons_self).2
          rw [hr]
          exact k4 _ _ (by omega) (by omega) (by omega) g f
theorem mx_hand {sc : List Int} {a0 a1 : Int} (i0 : in32 a0) (i1 : in32 a1) {M : MM} (G : axG M) : CA FF sc YF 59 m_X12_hand [vr 81, vi a0, vi a1] M (mxA M (ind ((0 ≤ a0 ∧ a0 ≤ 9) ∧ (0 ≤ a1 ∧ a1 ≤ 255))) (M 81 61)) := by
  obtain ⟨g, j, W⟩ := G
  exact u_X12_hand (d := 59 - 2) (Q := mxA M (ind ((0 ≤ a0 ∧ a0 ≤ 9) ∧ (0 ≤ a1 ∧ a1 ≤ 255))) (M 81 61)) (ah_X12_hand axH) (v1 := a0) (v2 := a1) (by have := i0; unfold in32 at this; omega) (by have := i1; unfold in32 at this; omega) g j (fun r M1 q0 q1 q2 q3 q4 q5 g1 f1 => have z := (mx_fin g1 f1 j W (by decide +kernel) (by decide +kernel)); ⟨congrArg vi (show r = ind ((0 ≤ a0 ∧ a0 ≤ 9) ∧ (0 ≤ a1 ∧ a1 ≤ 255)) by unfold ind; split <;> omega), z.1, z.2, (ax_frO f1 rfl (by decide +kernel))⟩) (fun r M1 q0 q1 q2 g1 f1 => have z := (mx_fin g1 f1 j W (by decide +kernel) (by decide +kernel)); ⟨congrArg vi (show r = ind ((0 ≤ a0 ∧ a0 ≤ 9) ∧ (0 ≤ a1 ∧ a1 ≤ 255)) by unfold ind; split <;> omega), z.1, z.2, (ax_frO f1 rfl (by decide +kernel))⟩) (fun r M1 q0 q1 q2 g1 f1 => have z := (mx_fin g1 f1 j W (by decide +kernel) (by decide +kernel)); ⟨congrArg vi (show r = ind ((0 ≤ a0 ∧ a0 ≤ 9) ∧ (0 ≤ a1 ∧ a1 ≤ 255)) by unfold ind; split <;> omega), z.1, z.2, (ax_frO f1 rfl (by decide +kernel))⟩) (fun r M1 q0 q1 q2 g1 f1 => have z := (mx_fin g1 f1 j W (by decide +kernel) (by decide +kernel)); ⟨congrArg vi (show r = ind ((0 ≤ a0 ∧ a0 ≤ 9) ∧ (0 ≤ a1 ∧ a1 ≤ 255)) by unfold ind; split <;> omega), z.1, z.2, (ax_frO f1 rfl (by decide +kernel))⟩) (fun r M1 q0 q1 q2 g1 f1 => have z := (mx_fin g1 f1 j W (by decide +kernel) (by decide +kernel)); ⟨congrArg vi (show r = ind ((0 ≤ a0 ∧ a0 ≤ 9) ∧ (0 ≤ a1 ∧ a1 ≤ 255)) by unfold ind; split <;> omega), z.1, z.2, (ax_frO f1 rfl (by decide +kernel))⟩)
theorem u_X12_ledger {J : MM → Prop} (S : ai_SP ax_T J ap_X12_ledger) {sc : List Int} {d : Nat} {M : MM} {Q : Vv → MM → Prop} {v1 v2 v3 v4 : Int} (h0 : (-2147483648) ≤ v1 ∧ v1 ≤ 2147483647) (h1 : (-2147483648) ≤ v2 ∧ v2 ≤ 2147483647) (h2 : (-2147483648) ≤ v3 ∧ v3 ≤ 2147483647) (h3 : (-2147483648) ≤ v4 ∧ v4 ≤ 2147483647) (G : ai_GI ax_T M) (j : J M) (k0 : ∀ (r : Int) (M1 : MM), (-2) ≤ r → r ≤ 1023 → ai_GI ax_T M1 → ai_Fr ax_T ap_X12_ledger.2.2.2.1 M M1 → Q (vi r) M1) : CA FF sc YF (d + 3) m_X12_ledger [vr 81, vi v1, vi v2, vi v3, vi v4] M Q := by
  refine S sc d (ax_rh [v1, v2, v3, v4]) M _ Q rfl rfl (And.intro (ax_r) (And.intro (ax_i (by decide) rfl) (And.intro (ax_i (by decide) rfl) (And.intro (ax_i (by decide) rfl) (And.intro (ax_i (by decide) rfl) (And.intro (ax_o) (And.intro (ax_o) (And.intro (ax_o) trivial)))))))) ⟨(ax_e1 (by decide) h0.1 h0.2 (ax_e1 (by decide) h1.1 h1.2 (ax_e1 (by decide) h2.1 h2.2 (ax_e1 (by decide) h3.1 h3.2 ax_e0)))), ax_f0, ax_c0, ax_m0⟩ G j (fun r M1 g f hq => ?_)
  replace hq := ax_q1 hq
  obtain ⟨-, ρ1, e0, hr, kE, kF, kC, kN⟩ := hq
  have hr : r = vi (ρ1 4) := hr
  have e1 : ρ1 0 = v1 := e0 0 (by decide)
  have e2 : ρ1 1 = v2 := e0 1 (by decide)
  have e3 : ρ1 2 = v3 := e0 2 (by decide)
  have e4 : ρ1 3 = v4 := e0 3 (by decide)
  have b0 := kE _ (List.mem_cons_self)
  have b0 : (-2) ≤ ρ1 4 ∧ ρ1 4 ≤ 1023 := b0.2
  rw [hr]
  exact k0 _ _ (by omega) (by omega) g f
theorem mx_ledger {sc : List Int} {a0 a1 a2 a3 : Int} (i0 : in32 a0) (i1 : in32 a1) (i2 : in32 a2) (i3 : in32 a3) {M : MM} (G : axG M) : CA FF sc YF 59 m_X12_ledger [vr 81, vi a0, vi a1, vi a2, vi a3] M (mxQ M (M 81 61)) := by
  obtain ⟨g, j, W⟩ := G
  exact u_X12_ledger (d := 59 - 3) (Q := mxQ M (M 81 61)) (ah_X12_ledger axH) (v1 := a0) (v2 := a1) (v3 := a2) (v4 := a3) (by have := i0; unfold in32 at this; omega) (by have := i1; unfold in32 at this; omega) (by have := i2; unfold in32 at this; omega) (by have := i3; unfold in32 at this; omega) g j (fun r M1 q0 q1 g1 f1 => have z := (mx_fin g1 f1 j W (by decide +kernel) (by decide +kernel)); ⟨⟨r, rfl⟩, z.1, z.2, (ax_frO f1 rfl (by decide +kernel))⟩)
theorem u_X12_seed {J : MM → Prop} (S : ai_SP ax_T J ap_X12_seed) {sc : List Int} {d : Nat} {M : MM} {Q : Vv → MM → Prop} {v1 : Int} (h0 : (-2147483648) ≤ v1 ∧ v1 ≤ 2147483647) (G : ai_GI ax_T M) (j : J M) (k0 : ∀ (r : Int) (M1 : MM), 1 ≤ r → r ≤ 1 → 0 ≤ v1 → 0 ≤ 0 - v1 + 65535 → ai_GI ax_T M1 → ai_Fr ax_T ap_X12_seed.2.2.2.1 M M1 → Q (vi r) M1) (k1 : ∀ (r : Int) (M1 : MM), 0 ≤ r → r ≤ 0 → 0 ≤ 0 - v1 - 1 → ai_GI ax_T M1 → ai_Fr ax_T ap_X12_seed.2.2.2.1 M M1 → Q (vi r) M1) (k2 : ∀ (r : Int) (M1 : MM), 0 ≤ r → r ≤ 0 → 0 ≤ v1 - 65536 → ai_GI ax_T M1 → ai_Fr ax_T ap_X12_seed.2.2.2.1 M M1 → Q (vi r) M1) : CA FF sc YF (d + 2) m_X12_seed [vr 81, vi v1] M Q := by
  refine S sc d (ax_rh [v1]) M _ Q rfl rfl (And.intro (ax_r) (And.intro (ax_i (by decide) rfl) trivial)) ⟨(ax_e1 (by decide) h0.1 h0.2 ax_e0), ax_f0, ax_c0, ax_m0⟩ G j (fun r M1 g f hq => ?_)
  rcases ax_q2 hq with hq | hq
  · obtain ⟨-, ρ1, e0, hr, kE, kF, kC, kN⟩ := hq
    have hr : r = vi (ρ1 1) := hr
    have e1 : ρ1 0 = v1 := e0 0 (by decide)
    have b0 := kE _ (List.mem_cons_self)
    have b0 : 1 ≤ ρ1 1 ∧ ρ1 1 ≤ 1 := b0.2
    have c0 : 0 ≤ (1 * ρ1 0 + 0) + 0 := (kC _ List.mem_cons_self).2
    have c1 : 0 ≤ ((-1) * ρ1 0 + 0) + 65535 := (kC _ (List.mem_cons_of_mem _ List.mem_cons_self)).2
    rw [hr]
    exact k0 _ _ (by omega) (by omega) (by omega) (by omega) g f
  · rcases ax_q2 hq with hq | hq
    · obtain ⟨-, ρ1, e0, hr, kE, kF, kC, kN⟩ := hq
      have hr : r = vi (ρ1 1) := hr
      have e1 : ρ1 0 = v1 := e0 0 (by decide)
      have b0 := kE _ (List.mem_cons_self)
      have b0 : 0 ≤ ρ1 1 ∧ ρ1 1 ≤ 0 := b0.2
      have c0 : 0 ≤ ((-1) * ρ1 0 + 0) + (-1) := (kC _ List.mem_cons_self).2
      rw [hr]
      exact k1 _ _ (by omega) (by omega) (by omega) g f
    · replace hq := ax_q1 hq
      obtain ⟨-, ρ1, e0, hr, kE, kF, kC, kN⟩ := hq
      have hr : r = vi (ρ1 1) := hr
      have e1 : ρ1 0 = v1 := e0 0 (by decide)
      have b0 := kE _ (List.mem_cons_self)
      have b0 : 0 ≤ ρ1 1 ∧ ρ1 1 ≤ 0 := b0.2
      have c0 : 0 ≤ (1 * ρ1 0 + 0) + (-65536) := (kC _ List.mem_cons_self).2
      rw [hr]
      exact k2 _ _ (by omega) (by omega) (by omega) g f
theorem mx_seed {sc : List Int} {a0 : Int} (i0 : in32 a0) {M : MM} (G : axG M) : CA FF sc YF 59 m_X12_seed [vr 81, vi a0] M (mxA M (ind (0 ≤ a0 ∧ a0 ≤ 65535)) (M 81 61)) := by
  obtain ⟨g, j, W⟩ := G
  exact u_X12_seed (d := 59 - 2) (Q := mxA M (ind (0 ≤ a0 ∧ a0 ≤ 65535)) (M 81 61)) (ah_X12_seed axH) (v1 := a0) (by have := i0; unfold in32 at this; omega) g j (fun r M1 q0 q1 q2 q3 g1 f1 => have z := (mx_fin g1 f1 j W (by decide +kernel) (by decide +kernel)); ⟨congrArg vi (show r = ind (0 ≤ a0 ∧ a0 ≤ 65535) by unfold ind; split <;> omega), z.1, z.2, (ax_frO f1 rfl (by decide +kernel))⟩) (fun r M1 q0 q1 q2 g1 f1 => have z := (mx_fin g1 f1 j W (by decide +kernel) (by decide +kernel)); ⟨congrArg vi (show r = ind (0 ≤ a0 ∧ a0 ≤ 65535) by unfold ind; split <;> omega), z.1, z.2, (ax_frO f1 rfl (by decide +kernel))⟩) (fun r M1 q0 q1 q2 g1 f1 => have z := (mx_fin g1 f1 j W (by decide +kernel) (by decide +kernel)); ⟨congrArg vi (show r = ind (0 ≤ a0 ∧ a0 ≤ 65535) by unfold ind; split <;> omega), z.1, z.2, (ax_frO f1 rfl (by decide +kernel))⟩)
theorem u_X12_keep {J : MM → Prop} (S : ai_SP ax_T J ap_X12_keep) {sc : List Int} {d : Nat} {M : MM} {Q : Vv → MM → Prop}  (G : ai_GI ax_T M) (j : J M) (k0 : ∀ (r : Int) (M1 : MM), (-2147483648) ≤ r → r ≤ 2147483647 → 1 ≤ (M1 81 61) → (M1 81 61) ≤ 1 → 0 ≤ (M1 81 61) - 1 → ai_GI ax_T M1 → ai_Fr ax_T ap_X12_keep.2.2.2.1 M M1 → Q (vi r) M1) : CA FF sc YF (d + 2) m_X12_keep [vr 81] M Q := by
  refine S sc d (ax_rh []) M _ Q rfl rfl (And.intro (ax_r) trivial) ⟨ax_e0, ax_f0, ax_c0, ax_m0⟩ G j (fun r M1 g f hq => ?_)
  replace hq := ax_q1 hq
  obtain ⟨-, ρ1, e0, hr, kE, kF, kC, kN⟩ := hq
  have hr : r = vi (ρ1 0) := hr
  have b0 := kE _ (List.mem_cons_self)
  have b0 : (-2147483648) ≤ ρ1 0 ∧ ρ1 0 ≤ 2147483647 := b0.2
  have b1 := kE _ (List.mem_cons_of_mem _ List.mem_cons_self)
  have b1 : 1 ≤ ρ1 1 ∧ ρ1 1 ≤ 1 := b1.2
  have f0 := (kF _ List.mem_cons_self).2.2.2
  have f0 : M1 81 ((0 + 61 : Int)).toNat = (1 * ρ1 1 + 0) + 0 := f0
  have g0 : ((0 + 61 : Int)) = 61 := by omega
  rw [g0] at f0
  have f0 : (M1 81 61) = ρ1 1 := by have f : (M1 81 61) = (1 * ρ1 1 + 0) + 0 := f0; omega
  have c0 : 0 ≤ (1 * ρ1 1 + 0) + (-1) := (kC _ List.mem_cons_self).2
  rw [hr]
  exact k0 _ _ (by omega) (by omega) (by omega) (by omega) (by omega) g f
theorem mx_keep {sc : List Int} {M : MM} (G : axG M) : CA FF sc YF 59 m_X12_keep [vr 81] M (mxQ M (1)) := by
  obtain ⟨g, j, W⟩ := G
  exact u_X12_keep (d := 59 - 2) (Q := mxQ M (1)) (ah_X12_keep axH) g j (fun r M1 q0 q1 q2 q3 q4 g1 f1 => have z := (mx_fin g1 f1 j W (by decide +kernel) (by decide +kernel)); ⟨⟨r, rfl⟩, z.1, z.2, (by omega)⟩)
theorem u_X12_undo {J : MM → Prop} (S : ai_SP ax_T J ap_X12_undo) {sc : List Int} {d : Nat} {M : MM} {Q : Vv → MM → Prop} (h0 : 0 ≤ (M 81 61) ∧ (M 81 61) ≤ 1) (G : ai_GI ax_T M) (j : J M) (k0 : ∀ (r : Int) (M1 : MM), 0 ≤ r → r ≤ 1 → 0 ≤ 0 - (M 81 61) + r → 0 ≤ (M 81 61) - r → ai_GI ax_T M1 → ai_Fr ax_T ap_X12_undo.2.2.2.1 M M1 → Q (vi r) M1) : CA FF sc YF (d + 2) m_X12_undo [vr 81] M Q := by
  refine S sc d (ax_rh [(M 81 61)]) M _ Q rfl rfl (And.intro (ax_r) trivial) ⟨(ax_e1 (by decide) h0.1 h0.2 ax_e0), (ax_f1 (i := 61) (by decide) (by decide) (by show 0 + 61 = 61; omega) (by decide) rfl ax_f0), ax_c0, ax_m0⟩ G j (fun r M1 g f hq => ?_)
  replace hq := ax_q1 hq
  obtain ⟨-, ρ1, e0, hr, kE, kF, kC, kN⟩ := hq
  have hr : r = vi (ρ1 1) := hr
  have e1 : ρ1 0 = (M 81 61) := e0 0 (by decide)
  have b0 := kE _ (List.mem_cons_self)
  have b0 : 0 ≤ ρ1 1 ∧ ρ1 1 ≤ 1 := b0.2
  have c0 : 0 ≤ ((-1) * ρ1 0 + (1 * ρ1 1 + 0)) + 0 := (kC _ List.mem_cons_self).2
  have c1 : 0 ≤ (1 * ρ1 0 + ((-1) * ρ1 1 + 0)) + 0 := (kC _ (List.mem_cons_of_mem _ List.mem_cons_self)).2
  rw [hr]
  exact k0 _ _ (by omega) (by omega) (by omega) (by omega) g f
theorem mx_undo {sc : List Int} {M : MM} (G : axG M) : CA FF sc YF 59 m_X12_undo [vr 81] M (mxA M (M 81 61) (M 81 61)) := by
  obtain ⟨g, j, W⟩ := G
  exact u_X12_undo (d := 59 - 2) (Q := mxA M (M 81 61) (M 81 61)) (ah_X12_undo axH) (by have := rO_81_61 g; omega) g j (fun r M1 q0 q1 q2 q3 g1 f1 => have z := (mx_fin g1 f1 j W (by decide +kernel) (by decide +kernel)); ⟨congrArg vi (show r = M 81 61 by omega), z.1, z.2, (ax_frO f1 rfl (by decide +kernel))⟩)
theorem u_X12_check {J : MM → Prop} (S : ai_SP ax_T J ap_X12_check) {sc : List Int} {d : Nat} {M : MM} {Q : Vv → MM → Prop} {v1 : Int} (h0 : (-2147483648) ≤ v1 ∧ v1 ≤ 2147483647) (G : ai_GI ax_T M) (j : J M) (k0 : ∀ (r : Int) (M1 : MM), (-2) ≤ r → r ≤ 9 → ai_GI ax_T M1 → ai_Fr ax_T ap_X12_check.2.2.2.1 M M1 → Q (vi r) M1) : CA FF sc YF (d + 3) m_X12_check [vr 81, vi v1] M Q := by
  refine S sc d (ax_rh [v1]) M _ Q rfl rfl (And.intro (ax_r) (And.intro (ax_i (by decide) rfl) (And.intro (ax_o) trivial))) ⟨(ax_e1 (by decide) h0.1 h0.2 ax_e0), ax_f0, ax_c0, ax_m0⟩ G j (fun r M1 g f hq => ?_)
  replace hq := ax_q1 hq
  obtain ⟨-, ρ1, e0, hr, kE, kF, kC, kN⟩ := hq
  have hr : r = vi (ρ1 1) := hr
  have e1 : ρ1 0 = v1 := e0 0 (by decide)
  have b0 := kE _ (List.mem_cons_self)
  have b0 : (-2) ≤ ρ1 1 ∧ ρ1 1 ≤ 9 := b0.2
  rw [hr]
  exact k0 _ _ (by omega) (by omega) g f
theorem mx_check {sc : List Int} {a0 : Int} (i0 : in32 a0) {M : MM} (G : axG M) : CA FF sc YF 59 m_X12_check [vr 81, vi a0] M (mxQ M (M 81 61)) := by
  obtain ⟨g, j, W⟩ := G
  exact u_X12_check (d := 59 - 3) (Q := mxQ M (M 81 61)) (ah_X12_check axH) (v1 := a0) (by have := i0; unfold in32 at this; omega) g j (fun r M1 q0 q1 g1 f1 => have z := (mx_fin g1 f1 j W (by decide +kernel) (by decide +kernel)); ⟨⟨r, rfl⟩, z.1, z.2, (ax_frO f1 rfl (by decide +kernel))⟩)
theorem u_X12_count {J : MM → Prop} (S : ai_SP ax_T J ap_X12_count) {sc : List Int} {d : Nat} {M : MM} {Q : Vv → MM → Prop} {v1 : Int} (h0 : (-2147483648) ≤ v1 ∧ v1 ≤ 2147483647) (G : ai_GI ax_T M) (j : J M) (k0 : ∀ (r : Int) (M1 : MM), (-2147483648) ≤ r → r ≤ 2147483647 → ai_GI ax_T M1 → ai_Fr ax_T ap_X12_count.2.2.2.1 M M1 → Q (vi r) M1) : CA FF sc YF (d + 4) m_X12_count [vr 81, vi v1] M Q := by
  refine S sc d (ax_rh [v1]) M _ Q rfl rfl (And.intro (ax_r) (And.intro (ax_i (by decide) rfl) trivial)) ⟨(ax_e1 (by decide) h0.1 h0.2 ax_e0), ax_f0, ax_c0, ax_m0⟩ G j (fun r M1 g f hq => ?_)
  replace hq := ax_q1 hq
  obtain ⟨-, ρ1, e0, hr, kE, kF, kC, kN⟩ := hq
  have hr : r = vi (ρ1 1) := hr
  have e1 : ρ1 0 = v1 := e0 0 (by decide)
  have b0 := kE _ (List.mem_cons_self)
  have b0 : (-2147483648) ≤ ρ1 1 ∧ ρ1 1 ≤ 2147483647 := b0.2
  rw [hr]
  exact k0 _ _ (by omega) (by omega) g f
theorem mx_count {sc : List Int} {a0 : Int} (i0 : in32 a0) {M : MM} (G : axG M) : CA FF sc YF 59 m_X12_count [vr 81, vi a0] M (mxQ M (M 81 61)) := by
  obtain ⟨g, j, W⟩ := G
  exact u_X12_count (d := 59 - 4) (Q := mxQ M (M 81 61)) (ah_X12_count axH) (v1 := a0) (by have := i0; unfold in32 at this; omega) g j (fun r M1 q0 q1 g1 f1 => have z := (mx_fin g1 f1 j W (by decide +kernel) (by decide +kernel)); ⟨⟨r, rfl⟩, z.1, z.2, (ax_frO f1 rfl (by decide +kernel))⟩)
