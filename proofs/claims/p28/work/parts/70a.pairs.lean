/-! PART 70a: the class: every public method keeps what stands fast -/
/-- a class's method is done: the rest stands as before, 'kept' is kv -/
def cxQ (M : MM) (kv : Int) : Vv → MM → Prop := fun r M1 => (∃ x, r = vi x) ∧ axG M1 ∧ UpX M M1 ∧ M1 0 14 = kv
def cxA (M : MM) (v kv : Int) : Vv → MM → Prop := fun r M1 => r = vi v ∧ axG M1 ∧ UpX M M1 ∧ M1 0 14 = kv
def cxL (M : MM) (kv : Int) : Vv → MM → Prop := fun r M1 => (∃ x, r = vl x) ∧ axG M1 ∧ UpX M M1 ∧ M1 0 14 = kv
def mxL (M : MM) (kv : Int) : Vv → MM → Prop := fun r M1 => (∃ x, r = vl x) ∧ axG M1 ∧ LoX M M1 ∧ M1 81 61 = kv
def mxQ (M : MM) (kv : Int) : Vv → MM → Prop := fun r M1 => (∃ x, r = vi x) ∧ axG M1 ∧ LoX M M1 ∧ M1 81 61 = kv
def mxA (M : MM) (v kv : Int) : Vv → MM → Prop := fun r M1 => r = vi v ∧ axG M1 ∧ LoX M M1 ∧ M1 81 61 = kv
def cxk (w : Nat) : Bool := Nat.blt w (2 ^ 5184) && (Nat.beq (w &&& 15360) 0)
theorem cxk_b {w : Nat} (h : cxk w = true) {j : Nat} (hj : 10 ≤ j ∧ j ≤ 13) : w.testBit (64 * 0 + j) = false := by
  unfold cxk at h
  rw [Bool.and_eq_true] at h
  have e := Nat.eq_of_beq_eq_true h.2
  have h1 : (w &&& 15360).testBit (64 * 0 + j) = false := by rw [e]; exact Nat.zero_testBit _
  rw [Nat.testBit_and] at h1
  have h2 : Nat.testBit 15360 (64 * 0 + j) = true := by
    obtain rfl | rfl | rfl | rfl : j = 10 ∨ j = 11 ∨ j = 12 ∨ j = 13 := by omega
    all_goals decide
  rw [h2, Bool.and_true] at h1
  exact h1
theorem cx_fin {w : Nat} {M M1 : MM} (g1 : ai_GI ax_T M1) (f : ai_Fr ax_T w M M1) (j : axJ M) (W : axW M) (hw : cxk w = true) : axG M1 ∧ UpX M M1 := by
  have hu : UpX M M1 := upX_fr f (by
    unfold cxk at hw
    rw [Bool.and_eq_true] at hw
    exact Nat.le_of_ble_eq_true hw.1)
  exact ⟨⟨g1, hu.j j, axW_eq (ax_frO f rfl (cxk_b hw (by omega))) (ax_frO f rfl (cxk_b hw (by omega))) (ax_frO f rfl (cxk_b hw (by omega))) (ax_frO f rfl (cxk_b hw (by omega))) W⟩, hu⟩
theorem mx_fin {w : Nat} {M M1 : MM} (g1 : ai_GI ax_T M1) (f : ai_Fr ax_T w M M1) (j : axJ M) (W : axW M) (hw : w &&& (2 ^ 5184 - 1) = 0) (hj : w &&& ax_wJ = 0) : axG M1 ∧ LoX M M1 := by
  have hl : LoX M M1 := loX_fr f hw
  exact ⟨⟨g1, axJ_fr _ _ _ hj f j, hl.w W⟩, hl⟩
theorem u_X11_feed {J : MM → Prop} (S : ai_SP ax_T J ap_X11_feed) {sc : List Int} {d : Nat} {M : MM} {Q : Vv → MM → Prop} {v1 v2 v3 v4 v5 : Int} (h0 : (-2147483648) ≤ v1 ∧ v1 ≤ 2147483647) (h1 : (-2147483648) ≤ v2 ∧ v2 ≤ 2147483647) (h2 : (-2147483648) ≤ v3 ∧ v3 ≤ 2147483647) (h3 : (-2147483648) ≤ v4 ∧ v4 ≤ 2147483647) (h4 : (-2147483648) ≤ v5 ∧ v5 ≤ 2147483647) (h5 : 0 ≤ (M 1 1) ∧ (M 1 1) ≤ 260) (G : ai_GI ax_T M) (j : J M) (k0 : ∀ (r : Int) (M1 : MM), 20 ≤ r → r ≤ 260 → 20 ≤ (M1 1 1) → (M1 1 1) ≤ 260 → 0 ≤ 0 - (M 1 1) + r - 20 → 0 ≤ (M 1 1) - r + 20 → 0 ≤ 0 - r + (M1 1 1) → 0 ≤ r - (M1 1 1) → ai_GI ax_T M1 → ai_Fr ax_T ap_X11_feed.2.2.2.1 M M1 → Q (vi r) M1) (k1 : ∀ (r : Int) (M1 : MM), (-1) ≤ r → r ≤ (-1) → 241 ≤ (M1 1 1) → (M1 1 1) ≤ 260 → 0 ≤ (M 1 1) - 241 → 0 ≤ 0 - (M 1 1) + (M1 1 1) → 0 ≤ (M 1 1) - (M1 1 1) → ai_GI ax_T M1 → ai_Fr ax_T ap_X11_feed.2.2.2.1 M M1 → Q (vi r) M1) : CA FF sc YF (d + 2) m_X11_feed [vr 0, vi v1, vi v2, vi v3, vi v4, vi v5] M Q := by
  refine S sc d (ax_rh [v1, v2, v3, v4, v5, (M 1 1)]) M _ Q rfl rfl (And.intro (ax_r) (And.intro (ax_i (by decide) rfl) (And.intro (ax_i (by decide) rfl) (And.intro (ax_i (by decide) rfl) (And.intro (ax_i (by decide) rfl) (And.intro (ax_i (by decide) rfl) trivial)))))) ⟨(ax_e1 (by decide) h0.1 h0.2 (ax_e1 (by decide) h1.1 h1.2 (ax_e1 (by decide) h2.1 h2.2 (ax_e1 (by decide) h3.1 h3.2 (ax_e1 (by decide) h4.1 h4.2 (ax_e1 (by decide) h5.1 h5.2 ax_e0)))))), (ax_f1 (i := 1) (by decide) (by decide) (by show 0 + 1 = 1; omega) (by decide) rfl ax_f0), ax_c0, ax_m0⟩ G j (fun r M1 g f hq => ?_)
  rcases ax_q2 hq with hq | hq
  · obtain ⟨-, ρ1, e0, hr, kE, kF, kC, kN⟩ := hq
    have hr : r = vi (ρ1 6) := hr
    have e1 : ρ1 0 = v1 := e0 0 (by decide)
    have e2 : ρ1 1 = v2 := e0 1 (by decide)
    have e3 : ρ1 2 = v3 := e0 2 (by decide)
    have e4 : ρ1 3 = v4 := e0 3 (by decide)
    have e5 : ρ1 4 = v5 := e0 4 (by decide)
    have e6 : ρ1 5 = (M 1 1) := e0 5 (by decide)
    have b0 := kE _ (List.mem_cons_self)
    have b0 : 20 ≤ ρ1 6 ∧ ρ1 6 ≤ 260 := b0.2
    have b1 := kE _ (List.mem_cons_of_mem _ List.mem_cons_self)
    have b1 : 20 ≤ ρ1 7 ∧ ρ1 7 ≤ 260 := b1.2
    have f0 := (kF _ List.mem_cons_self).2.2.2
    have f0 : M1 1 ((0 + 1 : Int)).toNat = (1 * ρ1 7 + 0) + 0 := f0
    have g0 : ((0 + 1 : Int)) = 1 := by omega
    rw [g0] at f0
    have f0 : (M1 1 1) = ρ1 7 := by have f : (M1 1 1) = (1 * ρ1 7 + 0) + 0 := f0; omega
    have c0 : 0 ≤ ((-1) * ρ1 5 + (1 * ρ1 6 + 0)) + (-20) := (kC _ List.mem_cons_self).2
    have c1 : 0 ≤ (1 * ρ1 5 + ((-1) * ρ1 6 + 0)) + 20 := (kC _ (List.mem_cons_of_mem _ List.mem_cons_self)).2
    have c2 : 0 ≤ ((-1) * ρ1 6 + (1 * ρ1 7 + 0)) + 0 := (kC _ (List.mem_cons_of_mem _ (List.mem_cons_of_mem _ List.mem_cons_self))).2
    have c3 : 0 ≤ (1 * ρ1 6 + ((-1) * ρ1 7 + 0)) + 0 := (kC _ (List.mem_cons_of_mem _ (List.mem_cons_of_mem _ (List.mem_cons_of_mem _ List.mem_cons_self)))).2
    rw [hr]
    exact k0 _ _ (by omega) (by omega) (by omega) (by omega) (by omega) (by omega) (by omega) (by omega) g f
  · replace hq := ax_q1 hq
    obtain ⟨-, ρ1, e0, hr, kE, kF, kC, kN⟩ := hq
    have hr : r = vi (ρ1 6) := hr
    have e1 : ρ1 0 = v1 := e0 0 (by decide)
    have e2 : ρ1 1 = v2 := e0 1 (by decide)
    have e3 : ρ1 2 = v3 := e0 2 (by decide)
    have e4 : ρ1 3 = v4 := e0 3 (by decide)
    have e5 : ρ1 4 = v5 := e0 4 (by decide)
    have e6 : ρ1 5 = (M 1 1) := e0 5 (by decide)
    have b0 := kE _ (List.mem_cons_self)
    have b0 : (-1) ≤ ρ1 6 ∧ ρ1 6 ≤ (-1) := b0.2
    have b1 := kE _ (List.mem_cons_of_mem _ List.mem_cons_self)
    have b1 : 241 ≤ ρ1 7 ∧ ρ1 7 ≤ 260 := b1.2
    have f0 := (kF _ List.mem_cons_self).2.2.2
    have f0 : M1 1 ((0 + 1 : Int)).toNat = (1 * ρ1 7 + 0) + 0 := f0
    have g0 : ((0 + 1 : Int)) = 1 := by omega
    rw [g0] at f0
    have f0 : (M1 1 1) = ρ1 7 := by have f : (M1 1 1) = (1 * ρ1 7 + 0) + 0 := f0; omega
    have c0 : 0 ≤ (1 * ρ1 5 + 0) + (-241) := (kC _ List.mem_cons_self).2
    have c1 : 0 ≤ ((-1) * ρ1 5 + (1 * ρ1 7 + 0)) + 0 := (kC _ (List.mem_cons_of_mem _ List.mem_cons_self)).2
    have c2 : 0 ≤ (1 * ρ1 5 + ((-1) * ρ1 7 + 0)) + 0 := (kC _ (List.mem_cons_of_mem _ (List.mem_cons_of_mem _ List.mem_cons_self))).2
    rw [hr]
    exact k1 _ _ (by omega) (by omega) (by omega) (by omega) (by omega) (by omega) (by omega) g f
theorem cx_feed {sc : List Int} {a0 a1 a2 a3 a4 : Int} (i0 : in32 a0) (i1 : in32 a1) (i2 : in32 a2) (i3 : in32 a3) (i4 : in32 a4) {M : MM} (G : axG M) : CA FF sc YF 59 m_X11_feed [vr 0, vi a0, vi a1, vi a2, vi a3, vi a4] M (cxQ M (M 0 14)) := by
  obtain ⟨g, j, W⟩ := G
  exact u_X11_feed (d := 59 - 2) (Q := cxQ M (M 0 14)) (ah_X11_feed axH) (v1 := a0) (v2 := a1) (v3 := a2) (v4 := a3) (v5 := a4) (by have := i0; unfold in32 at this; omega) (by have := i1; unfold in32 at this; omega) (by have := i2; unfold in32 at this; omega) (by have := i3; unfold in32 at this; omega) (by have := i4; unfold in32 at this; omega) (by have := rO_1_1 g; omega) g j (fun r M1 q0 q1 q2 q3 q4 q5 q6 q7 g1 f1 => have z := (cx_fin g1 f1 j W (by decide +kernel)); ⟨⟨r, rfl⟩, z.1, z.2, (ax_frO f1 rfl (by decide +kernel))⟩) (fun r M1 q0 q1 q2 q3 q4 q5 q6 g1 f1 => have z := (cx_fin g1 f1 j W (by decide +kernel)); ⟨⟨r, rfl⟩, z.1, z.2, (ax_frO f1 rfl (by decide +kernel))⟩)
theorem cx_quarter {sc : List Int} {a0 : Int} (i0 : in32 a0) {M : MM} (G : axG M) : CA FF sc YF 59 m_X11_quarter [vr 0, vi a0] M (cxQ M (M 0 14)) := by
  obtain ⟨g, j, W⟩ := G
  rcases id W.1 with ⟨e10, e11⟩ | ⟨e10, e11⟩
  · exact sx_quarter_57 (d := 53) ⟨g, j, W⟩ e10 e11 (fun r M1 G1 u k _ => ⟨⟨r, rfl⟩, G1, u, k⟩)
  · exact sx_quarter_61 (d := 53) ⟨g, j, W⟩ e10 e11 (fun r M1 G1 u k _ => ⟨⟨r, rfl⟩, G1, u, k⟩)
theorem cx_walk {sc : List Int} {a0 a1 : Int} (i0 : in32 a0) (i1 : in32 a1) {M : MM} (G : axG M) : CA FF sc YF 59 m_X11_walk [vr 0, vi a0, vi a1] M (cxQ M (M 0 14)) := by
  obtain ⟨g, j, W⟩ := G
  exact sx_walk (d := 53) ⟨g, j, W⟩ (fun r M1 G1 u k _ => ⟨⟨r, rfl⟩, G1, u, k⟩)
theorem cx_law {sc : List Int} {a0 : Int} (i0 : in32 a0) {M : MM} (G : axG M) : CA FF sc YF 59 m_X11_law [vr 0, vi a0] M (cxQ M (M 0 14)) := by
  obtain ⟨g, j, W⟩ := G
  rcases id W.2 with ⟨e12, e13⟩ | ⟨e12, e13⟩
  · exact sx_law_65 (d := 19) ⟨g, j, W⟩ e12 e13 (fun r M1 G1 u k _ => ⟨⟨r, rfl⟩, G1, u, k⟩)
  · exact sx_law_73 (d := 19) ⟨g, j, W⟩ e12 e13 (fun r M1 G1 u k _ => ⟨⟨r, rfl⟩, G1, u, k⟩)
theorem u_X11_stranger_c58 {J : MM → Prop} (S : ai_SP ax_T J ap_X11_stranger_c58) {sc : List Int} {d : Nat} {M : MM} {Q : Vv → MM → Prop} {v1 v2 v3 v4 : Int} (h0 : (-2147483648) ≤ v1 ∧ v1 ≤ 2147483647) (h1 : (-2147483648) ≤ v2 ∧ v2 ≤ 2147483647) (h2 : (-2147483648) ≤ v3 ∧ v3 ≤ 2147483647) (h3 : (-2147483648) ≤ v4 ∧ v4 ≤ 2147483647) (h4 : 58 ≤ (M 0 10) ∧ (M 0 10) ≤ 58) (G : ai_GI ax_T M) (j : J M) (k0 : ∀ (r : Int) (M1 : MM), 0 ≤ r → r ≤ 1 → ai_GI ax_T M1 → ai_Fr ax_T ap_X11_stranger_c58.2.2.2.1 M M1 → Q (vi r) M1) : CA FF sc YF (d + 3) m_X11_stranger [vr 0, vi v1, vi v2, vi v3, vi v4] M Q := by
  refine S sc d (ax_rh [v1, v2, v3, v4, (M 0 10)]) M _ Q rfl rfl (And.intro (ax_r) (And.intro (ax_i (by decide) rfl) (And.intro (ax_i (by decide) rfl) (And.intro (ax_i (by decide) rfl) (And.intro (ax_i (by decide) rfl) (And.intro (ax_o) trivial)))))) ⟨(ax_e1 (by decide) h0.1 h0.2 (ax_e1 (by decide) h1.1 h1.2 (ax_e1 (by decide) h2.1 h2.2 (ax_e1 (by decide) h3.1 h3.2 (ax_e1 (by decide) h4.1 h4.2 ax_e0))))), (ax_f1 (i := 10) (by decide) (by decide) (by show 0 + 10 = 10; omega) (by decide) rfl ax_f0), ax_c0, ax_m0⟩ G j (fun r M1 g f hq => ?_)
  replace hq := ax_q1 hq
  obtain ⟨-, ρ1, e0, hr, kE, kF, kC, kN⟩ := hq
  have hr : r = vi (ρ1 5) := hr
  have e1 : ρ1 0 = v1 := e0 0 (by decide)
  have e2 : ρ1 1 = v2 := e0 1 (by decide)
  have e3 : ρ1 2 = v3 := e0 2 (by decide)
  have e4 : ρ1 3 = v4 := e0 3 (by decide)
  have e5 : ρ1 4 = (M 0 10) := e0 4 (by decide)
  have b0 := kE _ (List.mem_cons_self)
  have b0 : 0 ≤ ρ1 5 ∧ ρ1 5 ≤ 1 := b0.2
  rw [hr]
  exact k0 _ _ (by omega) (by omega) g f
theorem u_X11_stranger_c62 {J : MM → Prop} (S : ai_SP ax_T J ap_X11_stranger_c62) {sc : List Int} {d : Nat} {M : MM} {Q : Vv → MM → Prop} {v1 v2 v3 v4 : Int} (h0 : (-2147483648) ≤ v1 ∧ v1 ≤ 2147483647) (h1 : (-2147483648) ≤ v2 ∧ v2 ≤ 2147483647) (h2 : (-2147483648) ≤ v3 ∧ v3 ≤ 2147483647) (h3 : (-2147483648) ≤ v4 ∧ v4 ≤ 2147483647) (h4 : 62 ≤ (M 0 10) ∧ (M 0 10) ≤ 62) (G : ai_GI ax_T M) (j : J M) (k0 : ∀ (r : Int) (M1 : MM), 0 ≤ r → r ≤ 1 → ai_GI ax_T M1 → ai_Fr ax_T ap_X11_stranger_c62.2.2.2.1 M M1 → Q (vi r) M1) : CA FF sc YF (d + 3) m_X11_stranger [vr 0, vi v1, vi v2, vi v3, vi v4] M Q := by
  refine S sc d (ax_rh [v1, v2, v3, v4, (M 0 10)]) M _ Q rfl rfl (And.intro (ax_r) (And.intro (ax_i (by decide) rfl) (And.intro (ax_i (by decide) rfl) (And.intro (ax_i (by decide) rfl) (And.intro (ax_i (by decide) rfl) (And.intro (ax_o) trivial)))))) ⟨(ax_e1 (by decide) h0.1 h0.2 (ax_e1 (by decide) h1.1 h1.2 (ax_e1 (by decide) h2.1 h2.2 (ax_e1 (by decide) h3.1 h3.2 (ax_e1 (by decide) h4.1 h4.2 ax_e0))))), (ax_f1 (i := 10) (by decide) (by decide) (by show 0 + 10 = 10; omega) (by decide) rfl ax_f0), ax_c0, ax_m0⟩ G j (fun r M1 g f hq => ?_)
  replace hq := ax_q1 hq
  obtain ⟨-, ρ1, e0, hr, kE, kF, kC, kN⟩ := hq
  have hr : r = vi (ρ1 5) := hr
  have e1 : ρ1 0 = v1 := e0 0 (by decide)
  have e2 : ρ1 1 = v2 := e0 1 (by decide)
  have e3 : ρ1 2 = v3 := e0 2 (by decide)
  have e4 : ρ1 3 = v4 := e0 3 (by decide)
  have e5 : ρ1 4 = (M 0 10) := e0 4 (by decide)
  have b0 := kE _ (List.mem_cons_self)
  have b0 : 0 ≤ ρ1 5 ∧ ρ1 5 ≤ 1 := b0.2
  rw [hr]
  exact k0 _ _ (by omega) (by omega) g f
theorem cx_stranger {sc : List Int} {a0 a1 a2 a3 : Int} (i0 : in32 a0) (i1 : in32 a1) (i2 : in32 a2) (i3 : in32 a3) {M : MM} (G : axG M) : CA FF sc YF 59 m_X11_stranger [vr 0, vi a0, vi a1, vi a2, vi a3] M (cxQ M (M 0 14)) := by
  obtain ⟨g, j, W⟩ := G
  rcases id W.1 with ⟨e10, e11⟩ | ⟨e10, e11⟩
  · exact u_X11_stranger_c58 (d := 59 - 3) (Q := cxQ M (M 0 14)) (ah_X11_stranger_c58 axH) (v1 := a0) (v2 := a1) (v3 := a2) (v4 := a3) (by have := i0; unfold in32 at this; omega) (by have := i1; unfold in32 at this; omega) (by have := i2; unfold in32 at this; omega) (by have := i3; unfold in32 at this; omega) (by have := rO_0_10 g; omega) g j (fun r M1 q0 q1 g1 f1 => have z := (cx_fin g1 f1 j W (by decide +kernel)); ⟨⟨r, rfl⟩, z.1, z.2, (ax_frO f1 rfl (by decide +kernel))⟩)
  · exact u_X11_stranger_c62 (d := 59 - 3) (Q := cxQ M (M 0 14)) (ah_X11_stranger_c62 axH) (v1 := a0) (v2 := a1) (v3 := a2) (v4 := a3) (by have := i0; unfold in32 at this; omega) (by have := i1; unfold in32 at this; omega) (by have := i2; unfold in32 at this; omega) (by have := i3; unfold in32 at this; omega) (by have := rO_0_10 g; omega) g j (fun r M1 q0 q1 g1 f1 => have z := (cx_fin g1 f1 j W (by decide +kernel)); ⟨⟨r, rfl⟩, z.1, z.2, (ax_frO f1 rfl (by decide +kernel))⟩)
theorem u_X11_dog {J : MM → Prop} (S : ai_SP ax_T J ap_X11_dog) {sc : List Int} {d : Nat} {M : MM} {Q : Vv → MM → Prop} {v1 v2 : Int} (h0 : (-2147483648) ≤ v1 ∧ v1 ≤ 2147483647) (h1 : 0 ≤ v2 ∧ v2 ≤ 1) (G : ai_GI ax_T M) (j : J M) (k0 : ∀ (r : Int) (M1 : MM), 1 ≤ r → r ≤ 1 → 0 ≤ v1 → 0 ≤ 0 - v1 + 9 → ai_GI ax_T M1 → ai_Fr ax_T ap_X11_dog.2.2.2.1 M M1 → Q (vi r) M1) (k1 : ∀ (r : Int) (M1 : MM), 0 ≤ r → r ≤ 0 → 0 ≤ 0 - v1 - 1 → ai_GI ax_T M1 → ai_Fr ax_T ap_X11_dog.2.2.2.1 M M1 → Q (vi r) M1) (k2 : ∀ (r : Int) (M1 : MM), 0 ≤ r → r ≤ 0 → 0 ≤ v1 - 10 → ai_GI ax_T M1 → ai_Fr ax_T ap_X11_dog.2.2.2.1 M M1 → Q (vi r) M1) : CA FF sc YF (d + 3) m_X11_dog [vr 0, vi v1, vi v2] M Q := by
  refine S sc d (ax_rh [v1, v2]) M _ Q rfl rfl (And.intro (ax_r) (And.intro (ax_i (by decide) rfl) (And.intro (ax_i (by decide) rfl) (And.intro (ax_o) trivial)))) ⟨(ax_e1 (by decide) h0.1 h0.2 (ax_e1 (by decide) h1.1 h1.2 ax_e0)), ax_f0, ax_c0, ax_m0⟩ G j (fun r M1 g f hq => ?_)
  rcases ax_q2 hq with hq | hq
  · obtain ⟨-, ρ1, e0, hr, kE, kF, kC, kN⟩ := hq
    have hr : r = vi (ρ1 2) := hr
    have e1 : ρ1 0 = v1 := e0 0 (by decide)
    have e2 : ρ1 1 = v2 := e0 1 (by decide)
    have b0 := kE _ (List.mem_cons_self)
    have b0 : 1 ≤ ρ1 2 ∧ ρ1 2 ≤ 1 := b0.2
    have c0 : 0 ≤ (1 * ρ1 0 + 0) + 0 := (kC _ List.mem_cons_self).2
    have c1 : 0 ≤ ((-1) * ρ1 0 + 0) + 9 := (kC _ (List.mem_cons_of_mem _ List.mem_cons_self)).2
    rw [hr]
    exact k0 _ _ (by omega) (by omega) (by omega) (by omega) g f
  · rcases ax_q2 hq with hq | hq
    · obtain ⟨-, ρ1, e0, hr, kE, kF, kC, kN⟩ := hq
      have hr : r = vi (ρ1 2) := hr
      have e1 : ρ1 0 = v1 := e0 0 (by decide)
      have e2 : ρ1 1 = v2 := e0 1 (by decide)
      have b0 := kE _ (List.mem_cons_self)
      have b0 : 0 ≤ ρ1 2 ∧ ρ1 2 ≤ 0 := b0.2
      have c0 : 0 ≤ ((-1) * ρ1 0 + 0) + (-1) := (kC _ List.mem_cons_self).2
      rw [hr]
      exact k1 _ _ (by omega) (by omega) (by omega) g f
    · replace hq := ax_q1 hq
      obtain ⟨-, ρ1, e0, hr, kE, kF, kC, kN⟩ := hq
      have hr : r = vi (ρ1 2) := hr
      have e1 : ρ1 0 = v1 := e0 0 (by decide)
      have e2 : ρ1 1 = v2 := e0 1 (by decide)
      have b0 := kE _ (List.mem_cons_self)
      have b0 : 0 ≤ ρ1 2 ∧ ρ1 2 ≤ 0 := b0.2
      have c0 : 0 ≤ (1 * ρ1 0 + 0) + (-10) := (kC _ List.mem_cons_self).2
      rw [hr]
      exact k2 _ _ (by omega) (by omega) (by omega) g f
theorem cx_dog {sc : List Int} {a0 a1 : Int} (i0 : in32 a0) (hb : a1 = 0 ∨ a1 = 1) {M : MM} (G : axG M) : CA FF sc YF 59 m_X11_dog [vr 0, vi a0, vi a1] M (cxA M (ind (0 ≤ a0 ∧ a0 ≤ 9)) (M 0 14)) := by
  obtain ⟨g, j, W⟩ := G
  exact u_X11_dog (d := 59 - 3) (Q := cxA M (ind (0 ≤ a0 ∧ a0 ≤ 9)) (M 0 14)) (ah_X11_dog axH) (v1 := a0) (v2 := a1) (by have := i0; unfold in32 at this; omega) (by omega) g j (fun r M1 q0 q1 q2 q3 g1 f1 => have z := (cx_fin g1 f1 j W (by decide +kernel)); ⟨congrArg vi (show r = ind (0 ≤ a0 ∧ a0 ≤ 9) by unfold ind; split <;> omega), z.1, z.2, (ax_frO f1 rfl (by decide +kernel))⟩) (fun r M1 q0 q1 q2 g1 f1 => have z := (cx_fin g1 f1 j W (by decide +kernel)); ⟨congrArg vi (show r = ind (0 ≤ a0 ∧ a0 ≤ 9) by unfold ind; split <;> omega), z.1, z.2, (ax_frO f1 rfl (by decide +kernel))⟩) (fun r M1 q0 q1 q2 g1 f1 => have z := (cx_fin g1 f1 j W (by decide +kernel)); ⟨congrArg vi (show r = ind (0 ≤ a0 ∧ a0 ≤ 9) by unfold ind; split <;> omega), z.1, z.2, (ax_frO f1 rfl (by decide +kernel))⟩)
theorem u_X11_tells {J : MM → Prop} (S : ai_SP ax_T J ap_X11_tells) {sc : List Int} {d : Nat} {M : MM} {Q : Vv → MM → Prop} {v1 : Int} (h0 : (-2147483648) ≤ v1 ∧ v1 ≤ 2147483647) (G : ai_GI ax_T M) (j : J M) (k0 : ∀ (r : Int) (M1 : MM), 0 ≤ r → r ≤ 1 → ai_GI ax_T M1 → ai_Fr ax_T ap_X11_tells.2.2.2.1 M M1 → Q (vi r) M1) : CA FF sc YF (d + 3) m_X11_tells [vr 0, vi v1] M Q := by
  refine S sc d (ax_rh [v1]) M _ Q rfl rfl (And.intro (ax_r) (And.intro (ax_i (by decide) rfl) trivial)) ⟨(ax_e1 (by decide) h0.1 h0.2 ax_e0), ax_f0, ax_c0, ax_m0⟩ G j (fun r M1 g f hq => ?_)
  replace hq := ax_q1 hq
  obtain ⟨-, ρ1, e0, hr, kE, kF, kC, kN⟩ := hq
  have hr : r = vi (ρ1 1) := hr
  have e1 : ρ1 0 = v1 := e0 0 (by decide)
  have b0 := kE _ (List.mem_cons_self)
  have b0 : 0 ≤ ρ1 1 ∧ ρ1 1 ≤ 1 := b0.2
  rw [hr]
  exact k0 _ _ (by omega) (by omega) g f
theorem cx_tells {sc : List Int} {a0 : Int} (i0 : in32 a0) {M : MM} (G : axG M) : CA FF sc YF 59 m_X11_tells [vr 0, vi a0] M (cxQ M (M 0 14)) := by
  obtain ⟨g, j, W⟩ := G
  exact u_X11_tells (d := 59 - 3) (Q := cxQ M (M 0 14)) (ah_X11_tells axH) (v1 := a0) (by have := i0; unfold in32 at this; omega) g j (fun r M1 q0 q1 g1 f1 => have z := (cx_fin g1 f1 j W (by decide +kernel)); ⟨⟨r, rfl⟩, z.1, z.2, (ax_frO f1 rfl (by decide +kernel))⟩)
theorem u_X11_haunts_c58_66 {J : MM → Prop} (S : ai_SP ax_T J ap_X11_haunts_c58_66) {sc : List Int} {d : Nat} {M : MM} {Q : Vv → MM → Prop} {v1 : Int} (h0 : (-2147483648) ≤ v1 ∧ v1 ≤ 2147483647) (h1 : 58 ≤ (M 0 10) ∧ (M 0 10) ≤ 58) (h2 : 66 ≤ (M 0 12) ∧ (M 0 12) ≤ 66) (G : ai_GI ax_T M) (j : J M) (k0 : ∀ (r : Int) (M1 : MM), (-2147483648) ≤ r → r ≤ 2147483647 → ai_GI ax_T M1 → ai_Fr ax_T ap_X11_haunts_c58_66.2.2.2.1 M M1 → Q (vi r) M1) : CA FF sc YF (d + 7) m_X11_haunts [vr 0, vi v1] M Q := by
  refine S sc d (ax_rh [v1, (M 0 10), (M 0 12)]) M _ Q rfl rfl (And.intro (ax_r) (And.intro (ax_i (by decide) rfl) trivial)) ⟨(ax_e1 (by decide) h0.1 h0.2 (ax_e1 (by decide) h1.1 h1.2 (ax_e1 (by decide) h2.1 h2.2 ax_e0))), (ax_f1 (i := 10) (by decide) (by decide) (by show 0 + 10 = 10; omega) (by decide) rfl (ax_f1 (i := 12) (by decide) (by decide) (by show 0 + 12 = 12; omega) (by decide) rfl ax_f0)), ax_c0, ax_m0⟩ G j (fun r M1 g f hq => ?_)
  replace hq := ax_q1 hq
  obtain ⟨-, ρ1, e0, hr, kE, kF, kC, kN⟩ := hq
  have hr : r = vi (ρ1 3) := hr
  have e1 : ρ1 0 = v1 := e0 0 (by decide)
  have e2 : ρ1 1 = (M 0 10) := e0 1 (by decide)
  have e3 : ρ1 2 = (M 0 12) := e0 2 (by decide)
  have b0 := kE _ (List.mem_cons_self)
  have b0 : (-2147483648) ≤ ρ1 3 ∧ ρ1 3 ≤ 2147483647 := b0.2
  rw [hr]
  exact k0 _ _ (by omega) (by omega) g f
theorem u_X11_haunts_c58_74 {J : MM → Prop} (S : ai_SP ax_T J ap_X11_haunts_c58_74) {sc : List Int} {d : Nat} {M : MM} {Q : Vv → MM → Prop} {v1 : Int} (h0 : (-2147483648) ≤ v1 ∧ v1 ≤ 2147483647) (h1 : 58 ≤ (M 0 10) ∧ (M 0 10) ≤ 58) (h2 : 74 ≤ (M 0 12) ∧ (M 0 12) ≤ 74) (G : ai_GI ax_T M) (j : J M) (k0 : ∀ (r : Int) (M1 : MM), (-2147483648) ≤ r → r ≤ 2147483647 → ai_GI ax_T M1 → ai_Fr ax_T ap_X11_haunts_c58_74.2.2.2.1 M M1 → Q (vi r) M1) : CA FF sc YF (d + 7) m_X11_haunts [vr 0, vi v1] M Q := by
  refine S sc d (ax_rh [v1, (M 0 10), (M 0 12)]) M _ Q rfl rfl (And.intro (ax_r) (And.intro (ax_i (by decide) rfl) trivial)) ⟨(ax_e1 (by decide) h0.1 h0.2 (ax_e1 (by decide) h1.1 h1.2 (ax_e1 (by decide) h2.1 h2.2 ax_e0))), (ax_f1 (i := 10) (by decide) (by decide) (by show 0 + 10 = 10; omega) (by decide) rfl (ax_f1 (i := 12) (by decide) (by decide) (by show 0 + 12 = 12; omega) (by decide) rfl ax_f0)), ax_c0, ax_m0⟩ G j (fun r M1 g f hq => ?_)
  replace hq := ax_q1 hq
  obtain ⟨-, ρ1, e0, hr, kE, kF, kC, kN⟩ := hq
  have hr : r = vi (ρ1 3) := hr
  have e1 : ρ1 0 = v1 := e0 0 (by decide)
  have e2 : ρ1 1 = (M 0 10) := e0 1 (by decide)
  have e3 : ρ1 2 = (M 0 12) := e0 2 (by decide)
  have b0 := kE _ (List.mem_cons_self)
  have b0 : (-2147483648) ≤ ρ1 3 ∧ ρ1 3 ≤ 2147483647 := b0.2
  rw [hr]
  exact k0 _ _ (by omega) (by omega) g f
theorem u_X11_haunts_c62_66 {J : MM → Prop} (S : ai_SP ax_T J ap_X11_haunts_c62_66) {sc : List Int} {d : Nat} {M : MM} {Q : Vv → MM → Prop} {v1 : Int} (h0 : (-2147483648) ≤ v1 ∧ v1 ≤ 2147483647) (h1 : 62 ≤ (M 0 10) ∧ (M 0 10) ≤ 62) (h2 : 66 ≤ (M 0 12) ∧ (M 0 12) ≤ 66) (G : ai_GI ax_T M) (j : J M) (k0 : ∀ (r : Int) (M1 : MM), (-2147483648) ≤ r → r ≤ 2147483647 → ai_GI ax_T M1 → ai_Fr ax_T ap_X11_haunts_c62_66.2.2.2.1 M M1 → Q (vi r) M1) : CA FF sc YF (d + 7) m_X11_haunts [vr 0, vi v1] M Q := by
  refine S sc d (ax_rh [v1, (M 0 10), (M 0 12)]) M _ Q rfl rfl (And.intro (ax_r) (And.intro (ax_i (by decide) rfl) trivial)) ⟨(ax_e1 (by decide) h0.1 h0.2 (ax_e1 (by decide) h1.1 h1.2 (ax_e1 (by decide) h2.1 h2.2 ax_e0))), (ax_f1 (i := 10) (by decide) (by decide) (by show 0 + 10 = 10; omega) (by decide) rfl (ax_f1 (i := 12) (by decide) (by decide) (by show 0 + 12 = 12; omega) (by decide) rfl ax_f0)), ax_c0, ax_m0⟩ G j (fun r M1 g f hq => ?_)
  replace hq := ax_q1 hq
  obtain ⟨-, ρ1, e0, hr, kE, kF, kC, kN⟩ := hq
  have hr : r = vi (ρ1 3) := hr
  have e1 : ρ1 0 = v1 := e0 0 (by decide)
  have e2 : ρ1 1 = (M 0 10) := e0 1 (by decide)
  have e3 : ρ1 2 = (M 0 12) := e0 2 (by decide)
  have b0 := kE _ (List.mem_cons_self)
  have b0 : (-2147483648) ≤ ρ1 3 ∧ ρ1 3 ≤ 2147483647 := b0.2
  rw [hr]
  exact k0 _ _ (by omega) (by omega) g f
theorem u_X11_haunts_c62_74 {J : MM → Prop} (S : ai_SP ax_T J ap_X11_haunts_c62_74) {sc : List Int} {d : Nat} {M : MM} {Q : Vv → MM → Prop} {v1 : Int} (h0 : (-2147483648) ≤ v1 ∧ v1 ≤ 2147483647) (h1 : 62 ≤ (M 0 10) ∧ (M 0 10) ≤ 62) (h2 : 74 ≤ (M 0 12) ∧ (M 0 12) ≤ 74) (G : ai_GI ax_T M) (j : J M) (k0 : ∀ (r : Int) (M1 : MM), (-2147483648) ≤ r → r ≤ 2147483647 → ai_GI ax_T M1 → ai_Fr ax_T ap_X11_haunts_c62_74.2.2.2.1 M M1 → Q (vi r) M1) : CA FF sc YF (d + 7) m_X11_haunts [vr 0, vi v1] M Q := by
  refine S sc d (ax_rh [v1, (M 0 10), (M 0 12)]) M _ Q rfl rfl (And.intro (ax_r) (And.intro (ax_i (by decide) rfl) trivial)) ⟨(ax_e1 (by decide) h0.1 h0.2 (ax_e1 (by decide) h1.1 h1.2 (ax_e1 (by decide) h2.1 h2.2 ax_e0))), (ax_f1 (i := 10) (by decide) (by decide) (by show 0 + 10 = 10; omega) (by decide) rfl (ax_f1 (i := 12) (by decide) (by decide) (by show 0 + 12 = 12; omega) (by decide) rfl ax_f0)), ax_c0, ax_m0⟩ G j (fun r M1 g f hq => ?_)
  replace hq := ax_q1 hq
  obtain ⟨-, ρ1, e0, hr, kE, kF, kC, kN⟩ := hq
  have hr : r = vi (ρ1 3) := hr
  have e1 : ρ1 0 = v1 := e0 0 (by decide)
  have e2 : ρ1 1 = (M 0 10) := e0 1 (by decide)
  have e3 : ρ1 2 = (M 0 12) := e0 2 (by decide)
  have b0 := kE _ (List.mem_cons_self)
  have b0 : (-2147483648) ≤ ρ1 3 ∧ ρ1 3 ≤ 2147483647 := b0.2
  rw [hr]
  exact k0 _ _ (by omega) (by omega) g f
theorem cx_haunts {sc : List Int} {a0 : Int} (i0 : in32 a0) {M : MM} (G : axG M) : CA FF sc YF 59 m_X11_haunts [vr 0, vi a0] M (cxQ M (M 0 14)) := by
  obtain ⟨g, j, W⟩ := G
  rcases id W.1 with ⟨e10, e11⟩ | ⟨e10, e11⟩ <;> rcases id W.2 with ⟨e12, e13⟩ | ⟨e12, e13⟩
  · exact u_X11_haunts_c58_66 (d := 59 - 7) (Q := cxQ M (M 0 14)) (ah_X11_haunts_c58_66 axH) (v1 := a0) (by have := i0; unfold in32 at this; omega) (by have := rO_0_10 g; omega) (by have := rO_0_12 g; omega) g j (fun r M1 q0 q1 g1 f1 => have z := (cx_fin g1 f1 j W (by decide +kernel)); ⟨⟨r, rfl⟩, z.1, z.2, (ax_frO f1 rfl (by decide +kernel))⟩)
  · exact u_X11_haunts_c58_74 (d := 59 - 7) (Q := cxQ M (M 0 14)) (ah_X11_haunts_c58_74 axH) (v1 := a0) (by have := i0; unfold in32 at this; omega) (by have := rO_0_10 g; omega) (by have := rO_0_12 g; omega) g j (fun r M1 q0 q1 g1 f1 => have z := (cx_fin g1 f1 j W (by decide +kernel)); ⟨⟨r, rfl⟩, z.1, z.2, (ax_frO f1 rfl (by decide +kernel))⟩)
  · exact u_X11_haunts_c62_66 (d := 59 - 7) (Q := cxQ M (M 0 14)) (ah_X11_haunts_c62_66 axH) (v1 := a0) (by have := i0; unfold in32 at this; omega) (by have := rO_0_10 g; omega) (by have := rO_0_12 g; omega) g j (fun r M1 q0 q1 g1 f1 => have z := (cx_fin g1 f1 j W (by decide +kernel)); ⟨⟨r, rfl⟩, z.1, z.2, (ax_frO f1 rfl (by decide +kernel))⟩)
  · exact u_X11_haunts_c62_74 (d := 59 - 7) (Q := cxQ M (M 0 14)) (ah_X11_haunts_c62_74 axH) (v1 := a0) (by have := i0; unfold in32 at this; omega) (by have := rO_0_10 g; omega) (by have := rO_0_12 g; omega) g j (fun r M1 q0 q1 g1 f1 => have z := (cx_fin g1 f1 j W (by decide +kernel)); ⟨⟨r, rfl⟩, z.1, z.2, (ax_frO f1 rfl (by decide +kernel))⟩)
theorem u_X11_tried_c58_66 {J : MM → Prop} (S : ai_SP ax_T J ap_X11_tried_c58_66) {sc : List Int} {d : Nat} {M : MM} {Q : Vv → MM → Prop} {v1 v2 : Int} (h0 : (-2147483648) ≤ v1 ∧ v1 ≤ 2147483647) (h1 : (-2147483648) ≤ v2 ∧ v2 ≤ 2147483647) (h2 : 58 ≤ (M 0 10) ∧ (M 0 10) ≤ 58) (h3 : 66 ≤ (M 0 12) ∧ (M 0 12) ≤ 66) (G : ai_GI ax_T M) (j : J M) (k0 : ∀ (r : Int) (M1 : MM), (-2147483648) ≤ r → r ≤ 2147483647 → ai_GI ax_T M1 → ai_Fr ax_T ap_X11_tried_c58_66.2.2.2.1 M M1 → Q (vi r) M1) : CA FF sc YF (d + 7) m_X11_tried [vr 0, vi v1, vi v2] M Q := by
  refine S sc d (ax_rh [v1, v2, (M 0 10), (M 0 12)]) M _ Q rfl rfl (And.intro (ax_r) (And.intro (ax_i (by decide) rfl) (And.intro (ax_i (by decide) rfl) trivial))) ⟨(ax_e1 (by decide) h0.1 h0.2 (ax_e1 (by decide) h1.1 h1.2 (ax_e1 (by decide) h2.1 h2.2 (ax_e1 (by decide) h3.1 h3.2 ax_e0)))), (ax_f1 (i := 10) (by decide) (by decide) (by show 0 + 10 = 10; omega) (by decide) rfl (ax_f1 (i := 12) (by decide) (by decide) (by show 0 + 12 = 12; omega) (by decide) rfl ax_f0)), ax_c0, ax_m0⟩ G j (fun r M1 g f hq => ?_)
  replace hq := ax_q1 hq
  obtain ⟨-, ρ1, e0, hr, kE, kF, kC, kN⟩ := hq
  have hr : r = vi (ρ1 4) := hr
  have e1 : ρ1 0 = v1 := e0 0 (by decide)
  have e2 : ρ1 1 = v2 := e0 1 (by decide)
  have e3 : ρ1 2 = (M 0 10) := e0 2 (by decide)
  have e4 : ρ1 3 = (M 0 12) := e0 3 (by decide)
  have b0 := kE _ (List.mem_cons_self)
  have b0 : (-2147483648) ≤ ρ1 4 ∧ ρ1 4 ≤ 2147483647 := b0.2
  rw [hr]
  exact k0 _ _ (by omega) (by omega) g f
theorem u_X11_tried_c58_74 {J : MM → Prop} (S : ai_SP ax_T J ap_X11_tried_c58_74) {sc : List Int} {d : Nat} {M : MM} {Q : Vv → MM → Prop} {v1 v2 : Int} (h0 : (-2147483648) ≤ v1 ∧ v1 ≤ 2147483647) (h1 : (-2147483648) ≤ v2 ∧ v2 ≤ 2147483647) (h2 : 58 ≤ (M 0 10) ∧ (M 0 10) ≤ 58) (h3 : 74 ≤ (M 0 12) ∧ (M 0 12) ≤ 74) (G : ai_GI ax_T M) (j : J M) (k0 : ∀ (r : Int) (M1 : MM), (-2147483648) ≤ r → r ≤ 2147483647 → ai_GI ax_T M1 → ai_Fr ax_T ap_X11_tried_c58_74.2.2.2.1 M M1 → Q (vi r) M1) : CA FF sc YF (d + 7) m_X11_tried [vr 0, vi v1, vi v2] M Q := by
  refine S sc d (ax_rh [v1, v2, (M 0 10), (M 0 12)]) M _ Q rfl rfl (And.intro (ax_r) (And.intro (ax_i (by decide) rfl) (And.intro (ax_i (by decide) rfl) trivial))) ⟨(ax_e1 (by decide) h0.1 h0.2 (ax_e1 (by decide) h1.1 h1.2 (ax_e1 (by decide) h2.1 h2.2 (ax_e1 (by decide) h3.1 h3.2 ax_e0)))), (ax_f1 (i := 10) (by decide) (by decide) (by show 0 + 10 = 10; omega) (by decide) rfl (ax_f1 (i := 12) (by decide) (by decide) (by show 0 + 12 = 12; omega) (by decide) rfl ax_f0)), ax_c0, ax_m0⟩ G j (fun r M1 g f hq => ?_)
  replace hq := ax_q1 hq
  obtain ⟨-, ρ1, e0, hr, kE, kF, kC, kN⟩ := hq
  have hr : r = vi (ρ1 4) := hr
  have e1 : ρ1 0 = v1 := e0 0 (by decide)
  have e2 : ρ1 1 = v2 := e0 1 (by decide)
  have e3 : ρ1 2 = (M 0 10) := e0 2 (by decide)
  have e4 : ρ1 3 = (M 0 12) := e0 3 (by decide)
  have b0 := kE _ (List.mem_cons_self)
  have b0 : (-2147483648) ≤ ρ1 4 ∧ ρ1 4 ≤ 2147483647 := b0.2
  rw [hr]
  exact k0 _ _ (by omega) (by omega) g f
theorem u_X11_tried_c62_66 {J : MM → Prop} (S : ai_SP ax_T J ap_X11_tried_c62_66) {sc : List Int} {d : Nat} {M : MM} {Q : Vv → MM → Prop} {v1 v2 : Int} (h0 : (-2147483648) ≤ v1 ∧ v1 ≤ 2147483647) (h1 : (-2147483648) ≤ v2 ∧ v2 ≤ 2147483647) (h2 : 62 ≤ (M 0 10) ∧ (M 0 10) ≤ 62) (h3 : 66 ≤ (M 0 12) ∧ (M 0 12) ≤ 66) (G : ai_GI ax_T M) (j : J M) (k0 : ∀ (r : Int) (M1 : MM), (-2147483648) ≤ r → r ≤ 2147483647 → ai_GI ax_T M1 → ai_Fr ax_T ap_X11_tried_c62_66.2.2.2.1 M M1 → Q (vi r) M1) : CA FF sc YF (d + 7) m_X11_tried [vr 0, vi v1, vi v2] M Q := by
  refine S sc d (ax_rh [v1, v2, (M 0 10), (M 0 12)]) M _ Q rfl rfl (And.intro (ax_r) (And.intro (ax_i (by decide) rfl) (And.intro (ax_i (by decide) rfl) trivial))) ⟨(ax_e1 (by decide) h0.1 h0.2 (ax_e1 (by decide) h1.1 h1.2 (ax_e1 (by decide) h2.1 h2.2 (ax_e1 (by decide) h3.1 h3.2 ax_e0)))), (ax_f1 (i := 10) (by decide) (by decide) (by show 0 + 10 = 10; omega) (by decide) rfl (ax_f1 (i := 12) (by decide) (by decide) (by show 0 + 12 = 12; omega) (by decide) rfl ax_f0)), ax_c0, ax_m0⟩ G j (fun r M1 g f hq => ?_)
  replace hq := ax_q1 hq
  obtain ⟨-, ρ1, e0, hr, kE, kF, kC, kN⟩ := hq
  have hr : r = vi (ρ1 4) := hr
  have e1 : ρ1 0 = v1 := e0 0 (by decide)
  have e2 : ρ1 1 = v2 := e0 1 (by decide)
  have e3 : ρ1 2 = (M 0 10) := e0 2 (by decide)
  have e4 : ρ1 3 = (M 0 12) := e0 3 (by decide)
  have b0 := kE _ (List.mem_cons_self)
  have b0 : (-2147483648) ≤ ρ1 4 ∧ ρ1 4 ≤ 2147483647 := b0.2
  rw [hr]
  exact k0 _ _ (by omega) (by omega) g f
theorem u_X11_tried_c62_74 {J : MM → Prop} (S : ai_SP ax_T J ap_X11_tried_c62_74) {sc : List Int} {d : Nat} {M : MM} {Q : Vv → MM → Prop} {v1 v2 : Int} (h0 : (-2147483648) ≤ v1 ∧ v1 ≤ 2147483647) (h1 : (-2147483648) ≤ v2 ∧ v2 ≤ 2147483647) (h2 : 62 ≤ (M 0 10) ∧ (M 0 10) ≤ 62) (h3 : 74 ≤ (M 0 12) ∧ (M 0 12) ≤ 74) (G : ai_GI ax_T M) (j : J M) (k0 : ∀ (r : Int) (M1 : MM), (-2147483648) ≤ r → r ≤ 2147483647 → ai_GI ax_T M1 → ai_Fr ax_T ap_X11_tried_c62_74.2.2.2.1 M M1 → Q (vi r) M1) : CA FF sc YF (d + 7) m_X11_tried [vr 0, vi v1, vi v2] M Q := by
  refine S sc d (ax_rh [v1, v2, (M 0 10), (M 0 12)]) M _ Q rfl rfl (And.intro (ax_r) (And.intro (ax_i (by decide) rfl) (And.intro (ax_i (by decide) rfl) trivial))) ⟨(ax_e1 (by decide) h0.1 h0.2 (ax_e1 (by decide) h1.1 h1.2 (ax_e1 (by decide) h2.1 h2.2 (ax_e1 (by decide) h3.1 h3.2 ax_e0)))), (ax_f1 (i := 10) (by decide) (by decide) (by show 0 + 10 = 10; omega) (by decide) rfl (ax_f1 (i := 12) (by decide) (by decide) (by show 0 + 12 = 12; omega) (by decide) rfl ax_f0)), ax_c0, ax_m0⟩ G j (fun r M1 g f hq => ?_)
  replace hq := ax_q1 hq
  obtain ⟨-, ρ1, e0, hr, kE, kF, kC, kN⟩ := hq
  have hr : r = vi (ρ1 4) := hr
  have e1 : ρ1 0 = v1 := e0 0 (by decide)
  have e2 : ρ1 1 = v2 := e0 1 (by decide)
  have e3 : ρ1 2 = (M 0 10) := e0 2 (by decide)
  have e4 : ρ1 3 = (M 0 12) := e0 3 (by decide)
  have b0 := kE _ (List.mem_cons_self)
  have b0 : (-2147483648) ≤ ρ1 4 ∧ ρ1 4 ≤ 2147483647 := b0.2
  rw [hr]
  exact k0 _ _ (by omega) (by omega) g f
theorem cx_tried {sc : List Int} {a0 a1 : Int} (i0 : in32 a0) (i1 : in32 a1) {M : MM} (G : axG M) : CA FF sc YF 59 m_X11_tried [vr 0, vi a0, vi a1] M (cxQ M (M 0 14)) := by
  obtain ⟨g, j, W⟩ := G
  rcases id W.1 with ⟨e10, e11⟩ | ⟨e10, e11⟩ <;> rcases id W.2 with ⟨e12, e13⟩ | ⟨e12, e13⟩
  · exact u_X11_tried_c58_66 (d := 59 - 7) (Q := cxQ M (M 0 14)) (ah_X11_tried_c58_66 axH) (v1 := a0) (v2 := a1) (by have := i0; unfold in32 at this; omega) (by have := i1; unfold in32 at this; omega) (by have := rO_0_10 g; omega) (by have := rO_0_12 g; omega) g j (fun r M1 q0 q1 g1 f1 => have z := (cx_fin g1 f1 j W (by decide +kernel)); ⟨⟨r, rfl⟩, z.1, z.2, (ax_frO f1 rfl (by decide +kernel))⟩)
  · exact u_X11_tried_c58_74 (d := 59 - 7) (Q := cxQ M (M 0 14)) (ah_X11_tried_c58_74 axH) (v1 := a0) (v2 := a1) (by have := i0; unfold in32 at this; omega) (by have := i1; unfold in32 at this; omega) (by have := rO_0_10 g; omega) (by have := rO_0_12 g; omega) g j (fun r M1 q0 q1 g1 f1 => have z := (cx_fin g1 f1 j W (by decide +kernel)); ⟨⟨r, rfl⟩, z.1, z.2, (ax_frO f1 rfl (by decide +kernel))⟩)
  · exact u_X11_tried_c62_66 (d := 59 - 7) (Q := cxQ M (M 0 14)) (ah_X11_tried_c62_66 axH) (v1 := a0) (v2 := a1) (by have := i0; unfold in32 at this; omega) (by have := i1; unfold in32 at this; omega) (by have := rO_0_10 g; omega) (by have := rO_0_12 g; omega) g j (fun r M1 q0 q1 g1 f1 => have z := (cx_fin g1 f1 j W (by decide +kernel)); ⟨⟨r, rfl⟩, z.1, z.2, (ax_frO f1 rfl (by decide +kernel))⟩)
  · exact u_X11_tried_c62_74 (d := 59 - 7) (Q := cxQ M (M 0 14)) (ah_X11_tried_c62_74 axH) (v1 := a0) (v2 := a1) (by have := i0; unfold in32 at this; omega) (by have := i1; unfold in32 at this; omega) (by have := rO_0_10 g; omega) (by have := rO_0_12 g; omega) g j (fun r M1 q0 q1 g1 f1 => have z := (cx_fin g1 f1 j W (by decide +kernel)); ⟨⟨r, rfl⟩, z.1, z.2, (ax_frO f1 rfl (by decide +kernel))⟩)
theorem u_X11_strangerIs_c58 {J : MM → Prop} (S : ai_SP ax_T J ap_X11_strangerIs_c58) {sc : List Int} {d : Nat} {M : MM} {Q : Vv → MM → Prop} {v1 v2 : Int} (h0 : (-2147483648) ≤ v1 ∧ v1 ≤ 2147483647) (h1 : (-2147483648) ≤ v2 ∧ v2 ≤ 2147483647) (h2 : 58 ≤ (M 0 10) ∧ (M 0 10) ≤ 58) (G : ai_GI ax_T M) (j : J M) (k0 : ∀ (r : Int) (M1 : MM), (-1) ≤ r → r ≤ 1023 → ai_GI ax_T M1 → ai_Fr ax_T ap_X11_strangerIs_c58.2.2.2.1 M M1 → Q (vi r) M1) : CA FF sc YF (d + 3) m_X11_strangerIs [vr 0, vi v1, vi v2] M Q := by
  refine S sc d (ax_rh [v1, v2, (M 0 10)]) M _ Q rfl rfl (And.intro (ax_r) (And.intro (ax_i (by decide) rfl) (And.intro (ax_i (by decide) rfl) trivial))) ⟨(ax_e1 (by decide) h0.1 h0.2 (ax_e1 (by decide) h1.1 h1.2 (ax_e1 (by decide) h2.1 h2.2 ax_e0))), (ax_f1 (i := 10) (by decide) (by decide) (by show 0 + 10 = 10; omega) (by decide) rfl ax_f0), ax_c0, ax_m0⟩ G j (fun r M1 g f hq => ?_)
  replace hq := ax_q1 hq
  obtain ⟨-, ρ1, e0, hr, kE, kF, kC, kN⟩ := hq
  have hr : r = vi (ρ1 3) := hr
  have e1 : ρ1 0 = v1 := e0 0 (by decide)
  have e2 : ρ1 1 = v2 := e0 1 (by decide)
  have e3 : ρ1 2 = (M 0 10) := e0 2 (by decide)
  have b0 := kE _ (List.mem_cons_self)
  have b0 : (-1) ≤ ρ1 3 ∧ ρ1 3 ≤ 1023 := b0.2
  rw [hr]
  exact k0 _ _ (by omega) (by omega) g f
theorem u_X11_strangerIs_c62 {J : MM → Prop} (S : ai_SP ax_T J ap_X11_strangerIs_c62) {sc : List Int} {d : Nat} {M : MM} {Q : Vv → MM → Prop} {v1 v2 : Int} (h0 : (-2147483648) ≤ v1 ∧ v1 ≤ 2147483647) (h1 : (-2147483648) ≤ v2 ∧ v2 ≤ 2147483647) (h2 : 62 ≤ (M 0 10) ∧ (M 0 10) ≤ 62) (G : ai_GI ax_T M) (j : J M) (k0 : ∀ (r : Int) (M1 : MM), (-1) ≤ r → r ≤ 1023 → ai_GI ax_T M1 → ai_Fr ax_T ap_X11_strangerIs_c62.2.2.2.1 M M1 → Q (vi r) M1) : CA FF sc YF (d + 3) m_X11_strangerIs [vr 0, vi v1, vi v2] M Q := by
  refine S sc d (ax_rh [v1, v2, (M 0 10)]) M _ Q rfl rfl (And.intro (ax_r) (And.intro (ax_i (by decide) rfl) (And.intro (ax_i (by decide) rfl) trivial))) ⟨(ax_e1 (by decide) h0.1 h0.2 (ax_e1 (by decide) h1.1 h1.2 (ax_e1 (by decide) h2.1 h2.2 ax_e0))), (ax_f1 (i := 10) (by decide) (by decide) (by show 0 + 10 = 10; omega) (by decide) rfl ax_f0), ax_c0, ax_m0⟩ G j (fun r M1 g f hq => ?_)
  replace hq := ax_q1 hq
  obtain ⟨-, ρ1, e0, hr, kE, kF, kC, kN⟩ := hq
  have hr : r = vi (ρ1 3) := hr
  have e1 : ρ1 0 = v1 := e0 0 (by decide)
  have e2 : ρ1 1 = v2 := e0 1 (by decide)
  have e3 : ρ1 2 = (M 0 10) := e0 2 (by decide)
  have b0 := kE _ (List.mem_cons_self)
  have b0 : (-1) ≤ ρ1 3 ∧ ρ1 3 ≤ 1023 := b0.2
  rw [hr]
  exact k0 _ _ (by omega) (by omega) g f
theorem cx_strangerIs {sc : List Int} {a0 a1 : Int} (i0 : in32 a0) (i1 : in32 a1) {M : MM} (G : axG M) : CA FF sc YF 59 m_X11_strangerIs [vr 0, vi a0, vi a1] M (cxQ M (M 0 14)) := by
  obtain ⟨g, j, W⟩ := G
  rcases id W.1 with ⟨e10, e11⟩ | ⟨e10, e11⟩
  · exact u_X11_strangerIs_c58 (d := 59 - 3) (Q := cxQ M (M 0 14)) (ah_X11_strangerIs_c58 axH) (v1 := a0) (v2 := a1) (by have := i0; unfold in32 at this; omega) (by have := i1; unfold in32 at this; omega) (by have := rO_0_10 g; omega) g j (fun r M1 q0 q1 g1 f1 => have z := (cx_fin g1 f1 j W (by decide +kernel)); ⟨⟨r, rfl⟩, z.1, z.2, (ax_frO f1 rfl (by decide +kernel))⟩)
  · exact u_X11_strangerIs_c62 (d := 59 - 3) (Q := cxQ M (M 0 14)) (ah_X11_strangerIs_c62 axH) (v1 := a0) (v2 := a1) (by have := i0; unfold in32 at this; omega) (by have := i1; unfold in32 at this; omega) (by have := rO_0_10 g; omega) g j (fun r M1 q0 q1 g1 f1 => have z := (cx_fin g1 f1 j W (by decide +kernel)); ⟨⟨r, rfl⟩, z.1, z.2, (ax_frO f1 rfl (by decide +kernel))⟩)
theorem u_X11_houseIs_c58_66 {J : MM → Prop} (S : ai_SP ax_T J ap_X11_houseIs_c58_66) {sc : List Int} {d : Nat} {M : MM} {Q : Vv → MM → Prop} {v1 v2 : Int} (h0 : (-2147483648) ≤ v1 ∧ v1 ≤ 2147483647) (h1 : (-2147483648) ≤ v2 ∧ v2 ≤ 2147483647) (h2 : 58 ≤ (M 0 10) ∧ (M 0 10) ≤ 58) (h3 : 66 ≤ (M 0 12) ∧ (M 0 12) ≤ 66) (G : ai_GI ax_T M) (j : J M) (k0 : ∀ (r : Int) (M1 : MM), (-2) ≤ r → r ≤ 255 → ai_GI ax_T M1 → ai_Fr ax_T ap_X11_houseIs_c58_66.2.2.2.1 M M1 → Q (vi r) M1) : CA FF sc YF (d + 5) m_X11_houseIs [vr 0, vi v1, vi v2] M Q := by
  refine S sc d (ax_rh [v1, v2, (M 0 10), (M 0 12)]) M _ Q rfl rfl (And.intro (ax_r) (And.intro (ax_i (by decide) rfl) (And.intro (ax_i (by decide) rfl) trivial))) ⟨(ax_e1 (by decide) h0.1 h0.2 (ax_e1 (by decide) h1.1 h1.2 (ax_e1 (by decide) h2.1 h2.2 (ax_e1 (by decide) h3.1 h3.2 ax_e0)))), (ax_f1 (i := 10) (by decide) (by decide) (by show 0 + 10 = 10; omega) (by decide) rfl (ax_f1 (i := 12) (by decide) (by decide) (by show 0 + 12 = 12; omega) (by decide) rfl ax_f0)), ax_c0, ax_m0⟩ G j (fun r M1 g f hq => ?_)
  replace hq := ax_q1 hq
  obtain ⟨-, ρ1, e0, hr, kE, kF, kC, kN⟩ := hq
  have hr : r = vi (ρ1 4) := hr
  have e1 : ρ1 0 = v1 := e0 0 (by decide)
  have e2 : ρ1 1 = v2 := e0 1 (by decide)
  have e3 : ρ1 2 = (M 0 10) := e0 2 (by decide)
  have e4 : ρ1 3 = (M 0 12) := e0 3 (by decide)
  have b0 := kE _ (List.mem_cons_self)
  have b0 : (-2) ≤ ρ1 4 ∧ ρ1 4 ≤ 255 := b0.2
  rw [hr]
  exact k0 _ _ (by omega) (by omega) g f
theorem u_X11_houseIs_c58_74 {J : MM → Prop} (S : ai_SP ax_T J ap_X11_houseIs_c58_74) {sc : List Int} {d : Nat} {M : MM} {Q : Vv → MM → Prop} {v1 v2 : Int} (h0 : (-2147483648) ≤ v1 ∧ v1 ≤ 2147483647) (h1 : (-2147483648) ≤ v2 ∧ v2 ≤ 2147483647) (h2 : 58 ≤ (M 0 10) ∧ (M 0 10) ≤ 58) (h3 : 74 ≤ (M 0 12) ∧ (M 0 12) ≤ 74) (G : ai_GI ax_T M) (j : J M) (k0 : ∀ (r : Int) (M1 : MM), (-2) ≤ r → r ≤ 255 → ai_GI ax_T M1 → ai_Fr ax_T ap_X11_houseIs_c58_74.2.2.2.1 M M1 → Q (vi r) M1) : CA FF sc YF (d + 5) m_X11_houseIs [vr 0, vi v1, vi v2] M Q := by
  refine S sc d (ax_rh [v1, v2, (M 0 10), (M 0 12)]) M _ Q rfl rfl (And.intro (ax_r) (And.intro (ax_i (by decide) rfl) (And.intro (ax_i (by decide) rfl) trivial))) ⟨(ax_e1 (by decide) h0.1 h0.2 (ax_e1 (by decide) h1.1 h1.2 (ax_e1 (by decide) h2.1 h2.2 (ax_e1 (by decide) h3.1 h3.2 ax_e0)))), (ax_f1 (i := 10) (by decide) (by decide) (by show 0 + 10 = 10; omega) (by decide) rfl (ax_f1 (i := 12) (by decide) (by decide) (by show 0 + 12 = 12; omega) (by decide) rfl ax_f0)), ax_c0, ax_m0⟩ G j (fun r M1 g f hq => ?_)
  replace hq := ax_q1 hq
  obtain ⟨-, ρ1, e0, hr, kE, kF, kC, kN⟩ := hq
  have hr : r = vi (ρ1 4) := hr
  have e1 : ρ1 0 = v1 := e0 0 (by decide)
  have e2 : ρ1 1 = v2 := e0 1 (by decide)
  have e3 : ρ1 2 = (M 0 10) := e0 2 (by decide)
  have e4 : ρ1 3 = (M 0 12) := e0 3 (by decide)
  have b0 := kE _ (List.mem_cons_self)
  have b0 : (-2) ≤ ρ1 4 ∧ ρ1 4 ≤ 255 := b0.2
  rw [hr]
  exact k0 _ _ (by omega) (by omega) g f
theorem u_X11_houseIs_c62_66 {J : MM → Prop} (S : ai_SP ax_T J ap_X11_houseIs_c62_66) {sc : List Int} {d : Nat} {M : MM} {Q : Vv → MM → Prop} {v1 v2 : Int} (h0 : (-2147483648) ≤ v1 ∧ v1 ≤ 2147483647) (h1 : (-2147483648) ≤ v2 ∧ v2 ≤ 2147483647) (h2 : 62 ≤ (M 0 10) ∧ (M 0 10) ≤ 62) (h3 : 66 ≤ (M 0 12) ∧ (M 0 12) ≤ 66) (G : ai_GI ax_T M) (j : J M) (k0 : ∀ (r : Int) (M1 : MM), (-2) ≤ r → r ≤ 255 → ai_GI ax_T M1 → ai_Fr ax_T ap_X11_houseIs_c62_66.2.2.2.1 M M1 → Q (vi r) M1) : CA FF sc YF (d + 5) m_X11_houseIs [vr 0, vi v1, vi v2] M Q := by
  refine S sc d (ax_rh [v1, v2, (M 0 10), (M 0 12)]) M _ Q rfl rfl (And.intro (ax_r) (And.intro (ax_i (by decide) rfl) (And.intro (ax_i (by decide) rfl) trivial))) ⟨(ax_e1 (by decide) h0.1 h0.2 (ax_e1 (by decide) h1.1 h1.2 (ax_e1 (by decide) h2.1 h2.2 (ax_e1 (by decide) h3.1 h3.2 ax_e0)))), (ax_f1 (i := 10) (by decide) (by decide) (by show 0 + 10 = 10; omega) (by decide) rfl (ax_f1 (i := 12) (by decide) (by decide) (by show 0 + 12 = 12; omega) (by decide) rfl ax_f0)), ax_c0, ax_m0⟩ G j (fun r M1 g f hq => ?_)
  replace hq := ax_q1 hq
  obtain ⟨-, ρ1, e0, hr, kE, kF, kC, kN⟩ := hq
  have hr : r = vi (ρ1 4) := hr
  have e1 : ρ1 0 = v1 := e0 0 (by decide)
  have e2 : ρ1 1 = v2 := e0 1 (by decide)
  have e3 : ρ1 2 = (M 0 10) := e0 2 (by decide)
  have e4 : ρ1 3 = (M 0 12) := e0 3 (by decide)
  have b0 := kE _ (List.mem_cons_self)
  have b0 : (-2) ≤ ρ1 4 ∧ ρ1 4 ≤ 255 := b0.2
  rw [hr]
  exact k0 _ _ (by omega) (by omega) g f
theorem u_X11_houseIs_c62_74 {J : MM → Prop} (S : ai_SP ax_T J ap_X11_houseIs_c62_74) {sc : List Int} {d : Nat} {M : MM} {Q : Vv → MM → Prop} {v1 v2 : Int} (h0 : (-2147483648) ≤ v1 ∧ v1 ≤ 2147483647) (h1 : (-2147483648) ≤ v2 ∧ v2 ≤ 2147483647) (h2 : 62 ≤ (M 0 10) ∧ (M 0 10) ≤ 62) (h3 : 74 ≤ (M 0 12) ∧ (M 0 12) ≤ 74) (G : ai_GI ax_T M) (j : J M) (k0 : ∀ (r : Int) (M1 : MM), (-2) ≤ r → r ≤ 255 → ai_GI ax_T M1 → ai_Fr ax_T ap_X11_houseIs_c62_74.2.2.2.1 M M1 → Q (vi r) M1) : CA FF sc YF (d + 5) m_X11_houseIs [vr 0, vi v1, vi v2] M Q := by
  refine S sc d (ax_rh [v1, v2, (M 0 10), (M 0 12)]) M _ Q rfl rfl (And.intro (ax_r) (And.intro (ax_i (by decide) rfl) (And.intro (ax_i (by decide) rfl) trivial))) ⟨(ax_e1 (by decide) h0.1 h0.2 (ax_e1 (by decide) h1.1 h1.2 (ax_e1 (by decide) h2.1 h2.2 (ax_e1 (by decide) h3.1 h3.2 ax_e0)))), (ax_f1 (i := 10) (by decide) (by decide) (by show 0 + 10 = 10; omega) (by decide) rfl (ax_f1 (i := 12) (by decide) (by decide) (by show 0 + 12 = 12; omega) (by decide) rfl ax_f0)), ax_c0, ax_m0⟩ G j (fun r M1 g f hq => ?_)
  replace hq := ax_q1 hq
  obtain ⟨-, ρ1, e0, hr, kE, kF, kC, kN⟩ := hq
  have hr : r = vi (ρ1 4) := hr
  have e1 : ρ1 0 = v1 := e0 0 (by decide)
  have e2 : ρ1 1 = v2 := e0 1 (by decide)
  have e3 : ρ1 2 = (M 0 10) := e0 2 (by decide)
  have e4 : ρ1 3 = (M 0 12) := e0 3 (by decide)
  have b0 := kE _ (List.mem_cons_self)
  have b0 : (-2) ≤ ρ1 4 ∧ ρ1 4 ≤ 255 := b0.2
  rw [hr]
  exact k0 _ _ (by omega) (by omega) g f
theorem cx_houseIs {sc : List Int} {a0 a1 : Int} (i0 : in32 a0) (i1 : in32 a1) {M : MM} (G : axG M) : CA FF sc YF 59 m_X11_houseIs [vr 0, vi a0, vi a1] M (cxQ M (M 0 14)) := by
  obtain ⟨g, j, W⟩ := G
  rcases id W.1 with ⟨e10, e11⟩ | ⟨e10, e11⟩ <;> rcases id W.2 with ⟨e12, e13⟩ | ⟨e12, e13⟩
  · exact u_X11_houseIs_c58_66 (d := 59 - 5) (Q := cxQ M (M 0 14)) (ah_X11_houseIs_c58_66 axH) (v1 := a0) (v2 := a1) (by have := i0; unfold in32 at this; omega) (by have := i1; unfold in32 at this; omega) (by have := rO_0_10 g; omega) (by have := rO_0_12 g; omega) g j (fun r M1 q0 q1 g1 f1 => have z := (cx_fin g1 f1 j W (by decide +kernel)); ⟨⟨r, rfl⟩, z.1, z.2, (ax_frO f1 rfl (by decide +kernel))⟩)
  · exact u_X11_houseIs_c58_74 (d := 59 - 5) (Q := cxQ M (M 0 14)) (ah_X11_houseIs_c58_74 axH) (v1 := a0) (v2 := a1) (by have := i0; unfold in32 at this; omega) (by have := i1; unfold in32 at this; omega) (by have := rO_0_10 g; omega) (by have := rO_0_12 g; omega) g j (fun r M1 q0 q1 g1 f1 => have z := (cx_fin g1 f1 j W (by decide +kernel)); ⟨⟨r, rfl⟩, z.1, z.2, (ax_frO f1 rfl (by decide +kernel))⟩)
  · exact u_X11_houseIs_c62_66 (d := 59 - 5) (Q := cxQ M (M 0 14)) (ah_X11_houseIs_c62_66 axH) (v1 := a0) (v2 := a1) (by have := i0; unfold in32 at this; omega) (by have := i1; unfold in32 at this; omega) (by have := rO_0_10 g; omega) (by have := rO_0_12 g; omega) g j (fun r M1 q0 q1 g1 f1 => have z := (cx_fin g1 f1 j W (by decide +kernel)); ⟨⟨r, rfl⟩, z.1, z.2, (ax_frO f1 rfl (by decide +kernel))⟩)
  · exact u_X11_houseIs_c62_74 (d := 59 - 5) (Q := cxQ M (M 0 14)) (ah_X11_houseIs_c62_74 axH) (v1 := a0) (v2 := a1) (by have := i0; unfold in32 at this; omega) (by have := i1; unfold in32 at this; omega) (by have := rO_0_10 g; omega) (by have := rO_0_12 g; omega) g j (fun r M1 q0 q1 g1 f1 => have z := (cx_fin g1 f1 j W (by decide +kernel)); ⟨⟨r, rfl⟩, z.1, z.2, (ax_frO f1 rfl (by decide +kernel))⟩)
theorem u_X11_meet_c58 {J : MM → Prop} (S : ai_SP ax_T J ap_X11_meet_c58) {sc : List Int} {d : Nat} {M : MM} {Q : Vv → MM → Prop} {v1 v2 v3 : Int} (h0 : (-2147483648) ≤ v1 ∧ v1 ≤ 2147483647) (h1 : (-2147483648) ≤ v2 ∧ v2 ≤ 2147483647) (h2 : (-2147483648) ≤ v3 ∧ v3 ≤ 2147483647) (h3 : 58 ≤ (M 0 10) ∧ (M 0 10) ≤ 58) (G : ai_GI ax_T M) (j : J M) (k0 : ∀ (r : Int) (M1 : MM), (-2) ≤ r → r ≤ 63 → ai_GI ax_T M1 → ai_Fr ax_T ap_X11_meet_c58.2.2.2.1 M M1 → Q (vi r) M1) : CA FF sc YF (d + 6) m_X11_meet [vr 0, vi v1, vi v2, vi v3] M Q := by
  refine S sc d (ax_rh [v1, v2, v3, (M 0 10)]) M _ Q rfl rfl (And.intro (ax_r) (And.intro (ax_i (by decide) rfl) (And.intro (ax_i (by decide) rfl) (And.intro (ax_i (by decide) rfl) (And.intro (ax_o) trivial))))) ⟨(ax_e1 (by decide) h0.1 h0.2 (ax_e1 (by decide) h1.1 h1.2 (ax_e1 (by decide) h2.1 h2.2 (ax_e1 (by decide) h3.1 h3.2 ax_e0)))), (ax_f1 (i := 10) (by decide) (by decide) (by show 0 + 10 = 10; omega) (by decide) rfl ax_f0), ax_c0, ax_m0⟩ G j (fun r M1 g f hq => ?_)
  replace hq := ax_q1 hq
  obtain ⟨-, ρ1, e0, hr, kE, kF, kC, kN⟩ := hq
  have hr : r = vi (ρ1 4) := hr
  have e1 : ρ1 0 = v1 := e0 0 (by decide)
  have e2 : ρ1 1 = v2 := e0 1 (by decide)
  have e3 : ρ1 2 = v3 := e0 2 (by decide)
  have e4 : ρ1 3 = (M 0 10) := e0 3 (by decide)
  have b0 := kE _ (List.mem_cons_self)
  have b0 : (-2) ≤ ρ1 4 ∧ ρ1 4 ≤ 63 := b0.2
  rw [hr]
  exact k0 _ _ (by omega) (by omega) g f
theorem u_X11_meet_c62 {J : MM → Prop} (S : ai_SP ax_T J ap_X11_meet_c62) {sc : List Int} {d : Nat} {M : MM} {Q : Vv → MM → Prop} {v1 v2 v3 : Int} (h0 : (-2147483648) ≤ v1 ∧ v1 ≤ 2147483647) (h1 : (-2147483648) ≤ v2 ∧ v2 ≤ 2147483647) (h2 : (-2147483648) ≤ v3 ∧ v3 ≤ 2147483647) (h3 : 62 ≤ (M 0 10) ∧ (M 0 10) ≤ 62) (G : ai_GI ax_T M) (j : J M) (k0 : ∀ (r : Int) (M1 : MM), (-2) ≤ r → r ≤ 63 → ai_GI ax_T M1 → ai_Fr ax_T ap_X11_meet_c62.2.2.2.1 M M1 → Q (vi r) M1) : CA FF sc YF (d + 6) m_X11_meet [vr 0, vi v1, vi v2, vi v3] M Q := by
  refine S sc d (ax_rh [v1, v2, v3, (M 0 10)]) M _ Q rfl rfl (And.intro (ax_r) (And.intro (ax_i (by decide) rfl) (And.intro (ax_i (by decide) rfl) (And.intro (ax_i (by decide) rfl) (And.intro (ax_o) trivial))))) ⟨(ax_e1 (by decide) h0.1 h0.2 (ax_e1 (by decide) h1.1 h1.2 (ax_e1 (by decide) h2.1 h2.2 (ax_e1 (by decide) h3.1 h3.2 ax_e0)))), (ax_f1 (i := 10) (by decide) (by decide) (by show 0 + 10 = 10; omega) (by decide) rfl ax_f0), ax_c0, ax_m0⟩ G j (fun r M1 g f hq => ?_)
  replace hq := ax_q1 hq
  obtain ⟨-, ρ1, e0, hr, kE, kF, kC, kN⟩ := hq
  have hr : r = vi (ρ1 4) := hr
  have e1 : ρ1 0 = v1 := e0 0 (by decide)
  have e2 : ρ1 1 = v2 := e0 1 (by decide)
  have e3 : ρ1 2 = v3 := e0 2 (by decide)
  have e4 : ρ1 3 = (M 0 10) := e0 3 (by decide)
  have b0 := kE _ (List.mem_cons_self)
  have b0 : (-2) ≤ ρ1 4 ∧ ρ1 4 ≤ 63 := b0.2
  rw [hr]
  exact k0 _ _ (by omega) (by omega) g f
theorem cx_meet {sc : List Int} {a0 a1 a2 : Int} (i0 : in32 a0) (i1 : in32 a1) (i2 : in32 a2) {M : MM} (G : axG M) : CA FF sc YF 59 m_X11_meet [vr 0, vi a0, vi a1, vi a2] M (cxQ M (M 0 14)) := by
  obtain ⟨g, j, W⟩ := G
  rcases id W.1 with ⟨e10, e11⟩ | ⟨e10, e11⟩
  · exact u_X11_meet_c58 (d := 59 - 6) (Q := cxQ M (M 0 14)) (ah_X11_meet_c58 axH) (v1 := a0) (v2 := a1) (v3 := a2) (by have := i0; unfold in32 at this; omega) (by have := i1; unfold in32 at this; omega) (by have := i2; unfold in32 at this; omega) (by have := rO_0_10 g; omega) g j (fun r M1 q0 q1 g1 f1 => have z := (cx_fin g1 f1 j W (by decide +kernel)); ⟨⟨r, rfl⟩, z.1, z.2, (ax_frO f1 rfl (by decide +kernel))⟩)
  · exact u_X11_meet_c62 (d := 59 - 6) (Q := cxQ M (M 0 14)) (ah_X11_meet_c62 axH) (v1 := a0) (v2 := a1) (v3 := a2) (by have := i0; unfold in32 at this; omega) (by have := i1; unfold in32 at this; omega) (by have := i2; unfold in32 at this; omega) (by have := rO_0_10 g; omega) g j (fun r M1 q0 q1 g1 f1 => have z := (cx_fin g1 f1 j W (by decide +kernel)); ⟨⟨r, rfl⟩, z.1, z.2, (ax_frO f1 rfl (by decide +kernel))⟩)
theorem u_X11_dread_c58_66 {J : MM → Prop} (S : ai_SP ax_T J ap_X11_dread_c58_66) {sc : List Int} {d : Nat} {M : MM} {Q : Vv → MM → Prop} {v1 v2 v3 : Int} (h0 : (-2147483648) ≤ v1 ∧ v1 ≤ 2147483647) (h1 : (-2147483648) ≤ v2 ∧ v2 ≤ 2147483647) (h2 : (-2147483648) ≤ v3 ∧ v3 ≤ 2147483647) (h3 : 58 ≤ (M 0 10) ∧ (M 0 10) ≤ 58) (h4 : 66 ≤ (M 0 12) ∧ (M 0 12) ≤ 66) (G : ai_GI ax_T M) (j : J M) (k0 : ∀ (r : Int) (M1 : MM), (-1) ≤ r → r ≤ 2147483647 → ai_GI ax_T M1 → ai_Fr ax_T ap_X11_dread_c58_66.2.2.2.1 M M1 → Q (vi r) M1) : CA FF sc YF (d + 7) m_X11_dread [vr 0, vi v1, vi v2, vi v3] M Q := by
  refine S sc d (ax_rh [v1, v2, v3, (M 0 10), (M 0 12)]) M _ Q rfl rfl (And.intro (ax_r) (And.intro (ax_i (by decide) rfl) (And.intro (ax_i (by decide) rfl) (And.intro (ax_i (by decide) rfl) trivial)))) ⟨(ax_e1 (by decide) h0.1 h0.2 (ax_e1 (by decide) h1.1 h1.2 (ax_e1 (by decide) h2.1 h2.2 (ax_e1 (by decide) h3.1 h3.2 (ax_e1 (by decide) h4.1 h4.2 ax_e0))))), (ax_f1 (i := 10) (by decide) (by decide) (by show 0 + 10 = 10; omega) (by decide) rfl (ax_f1 (i := 12) (by decide) (by decide) (by show 0 + 12 = 12; omega) (by decide) rfl ax_f0)), ax_c0, ax_m0⟩ G j (fun r M1 g f hq => ?_)
  replace hq := ax_q1 hq
  obtain ⟨-, ρ1, e0, hr, kE, kF, kC, kN⟩ := hq
  have hr : r = vi (ρ1 5) := hr
  have e1 : ρ1 0 = v1 := e0 0 (by decide)
  have e2 : ρ1 1 = v2 := e0 1 (by decide)
  have e3 : ρ1 2 = v3 := e0 2 (by decide)
  have e4 : ρ1 3 = (M 0 10) := e0 3 (by decide)
  have e5 : ρ1 4 = (M 0 12) := e0 4 (by decide)
  have b0 := kE _ (List.mem_cons_self)
  have b0 : (-1) ≤ ρ1 5 ∧ ρ1 5 ≤ 2147483647 := b0.2
  rw [hr]
  exact k0 _ _ (by omega) (by omega) g f
theorem u_X11_dread_c58_74 {J : MM → Prop} (S : ai_SP ax_T J ap_X11_dread_c58_74) {sc : List Int} {d : Nat} {M : MM} {Q : Vv → MM → Prop} {v1 v2 v3 : Int} (h0 : (-2147483648) ≤ v1 ∧ v1 ≤ 2147483647) (h1 : (-2147483648) ≤ v2 ∧ v2 ≤ 2147483647) (h2 : (-2147483648) ≤ v3 ∧ v3 ≤ 2147483647) (h3 : 58 ≤ (M 0 10) ∧ (M 0 10) ≤ 58) (h4 : 74 ≤ (M 0 12) ∧ (M 0 12) ≤ 74) (G : ai_GI ax_T M) (j : J M) (k0 : ∀ (r : Int) (M1 : MM), (-1) ≤ r → r ≤ 2147483647 → ai_GI ax_T M1 → ai_Fr ax_T ap_X11_dread_c58_74.2.2.2.1 M M1 → Q (vi r) M1) : CA FF sc YF (d + 7) m_X11_dread [vr 0, vi v1, vi v2, vi v3] M Q := by
  refine S sc d (ax_rh [v1, v2, v3, (M 0 10), (M 0 12)]) M _ Q rfl rfl (And.intro (ax_r) (And.intro (ax_i (by decide) rfl) (And.intro (ax_i (by decide) rfl) (And.intro (ax_i (by decide) rfl) trivial)))) ⟨(ax_e1 (by decide) h0.1 h0.2 (ax_e1 (by decide) h1.1 h1.2 (ax_e1 (by decide) h2.1 h2.2 (ax_e1 (by decide) h3.1 h3.2 (ax_e1 (by decide) h4.1 h4.2 ax_e0))))), (ax_f1 (i := 10) (by decide) (by decide) (by show 0 + 10 = 10; omega) (by decide) rfl (ax_f1 (i := 12) (by decide) (by decide) (by show 0 + 12 = 12; omega) (by decide) rfl ax_f0)), ax_c0, ax_m0⟩ G j (fun r M1 g f hq => ?_)
  replace hq := ax_q1 hq
  obtain ⟨-, ρ1, e0, hr, kE, kF, kC, kN⟩ := hq
  have hr : r = vi (ρ1 5) := hr
  have e1 : ρ1 0 = v1 := e0 0 (by decide)
  have e2 : ρ1 1 = v2 := e0 1 (by decide)
  have e3 : ρ1 2 = v3 := e0 2 (by decide)
  have e4 : ρ1 3 = (M 0 10) := e0 3 (by decide)
  have e5 : ρ1 4 = (M 0 12) := e0 4 (by decide)
  have b0 := kE _ (List.mem_cons_self)
  have b0 : (-1) ≤ ρ1 5 ∧ ρ1 5 ≤ 2147483647 := b0.2
  rw [hr]
  exact k0 _ _ (by omega) (by omega) g f
theorem u_X11_dread_c62_66 {J : MM → Prop} (S : ai_SP ax_T J ap_X11_dread_c62_66) {sc : List Int} {d : Nat} {M : MM} {Q : Vv → MM → Prop} {v1 v2 v3 : Int} (h0 : (-2147483648) ≤ v1 ∧ v1 ≤ 2147483647) (h1 : (-2147483648) ≤ v2 ∧ v2 ≤ 2147483647) (h2 : (-2147483648) ≤ v3 ∧ v3 ≤ 2147483647) (h3 : 62 ≤ (M 0 10) ∧ (M 0 10) ≤ 62) (h4 : 66 ≤ (M 0 12) ∧ (M 0 12) ≤ 66) (G : ai_GI ax_T M) (j : J M) (k0 : ∀ (r : Int) (M1 : MM), (-1) ≤ r → r ≤ 2147483647 → ai_GI ax_T M1 → ai_Fr ax_T ap_X11_dread_c62_66.2.2.2.1 M M1 → Q (vi r) M1) : CA FF sc YF (d + 7) m_X11_dread [vr 0, vi v1, vi v2, vi v3] M Q := by
  refine S sc d (ax_rh [v1, v2, v3, (M 0 10), (M 0 12)]) M _ Q rfl rfl (And.intro (ax_r) (And.intro (ax_i (by decide) rfl) (And.intro (ax_i (by decide) rfl) (And.intro (ax_i (by decide) rfl) trivial)))) ⟨(ax_e1 (by decide) h0.1 h0.2 (ax_e1 (by decide) h1.1 h1.2 (ax_e1 (by decide) h2.1 h2.2 (ax_e1 (by decide) h3.1 h3.2 (ax_e1 (by decide) h4.1 h4.2 ax_e0))))), (ax_f1 (i := 10) (by decide) (by decide) (by show 0 + 10 = 10; omega) (by decide) rfl (ax_f1 (i := 12) (by decide) (by decide) (by show 0 + 12 = 12; omega) (by decide) rfl ax_f0)), ax_c0, ax_m0⟩ G j (fun r M1 g f hq => ?_)
  replace hq := ax_q1 hq
  obtain ⟨-, ρ1, e0, hr, kE, kF, kC, kN⟩ := hq
  have hr : r = vi (ρ1 5) := hr
  have e1 : ρ1 0 = v1 := e0 0 (by decide)
  have e2 : ρ1 1 = v2 := e0 1 (by decide)
  have e3 : ρ1 2 = v3 := e0 2 (by decide)
  have e4 : ρ1 3 = (M 0 10) := e0 3 (by decide)
  have e5 : ρ1 4 = (M 0 12) := e0 4 (by decide)
  have b0 := kE _ (List.mem_cons_self)
  have b0 : (-1) ≤ ρ1 5 ∧ ρ1 5 ≤ 2147483647 := b0.2
  rw [hr]
  exact k0 _ _ (by omega) (by omega) g f
theorem u_X11_dread_c62_74 {J : MM → Prop} (S : ai_SP ax_T J ap_X11_dread_c62_74) {sc : List Int} {d : Nat} {M : MM} {Q : Vv → MM → Prop} {v1 v2 v3 : Int} (h0 : (-2147483648) ≤ v1 ∧ v1 ≤ 2147483647) (h1 : (-2147483648) ≤ v2 ∧ v2 ≤ 2147483647) (h2 : (-2147483648) ≤ v3 ∧ v3 ≤ 2147483647) (h3 : 62 ≤ (M 0 10) ∧ (M 0 10) ≤ 62) (h4 : 74 ≤ (M 0 12) ∧ (M 0 12) ≤ 74) (G : ai_GI ax_T M) (j : J M) (k0 : ∀ (r : Int) (M1 : MM), (-1) ≤ r → r ≤ 2147483647 → ai_GI ax_T M1 → ai_Fr ax_T ap_X11_dread_c62_74.2.2.2.1 M M1 → Q (vi r) M1) : CA FF sc YF (d + 7) m_X11_dread [vr 0, vi v1, vi v2, vi v3] M Q := by
  refine S sc d (ax_rh [v1, v2, v3, (M 0 10), (M 0 12)]) M _ Q rfl rfl (And.intro (ax_r) (And.intro (ax_i (by decide) rfl) (And.intro (ax_i (by decide) rfl) (And.intro (ax_i (by decide) rfl) trivial)))) ⟨(ax_e1 (by decide) h0.1 h0.2 (ax_e1 (by decide) h1.1 h1.2 (ax_e1 (by decide) h2.1 h2.2 (ax_e1 (by decide) h3.1 h3.2 (ax_e1 (by decide) h4.1 h4.2 ax_e0))))), (ax_f1 (i := 10) (by decide) (by decide) (by show 0 + 10 = 10; omega) (by decide) rfl (ax_f1 (i := 12) (by decide) (by decide) (by show 0 + 12 = 12; omega) (by decide) rfl ax_f0)), ax_c0, ax_m0⟩ G j (fun r M1 g f hq => ?_)
  replace hq := ax_q1 hq
  obtain ⟨-, ρ1, e0, hr, kE, kF, kC, kN⟩ := hq
  have hr : r = vi (ρ1 5) := hr
  have e1 : ρ1 0 = v1 := e0 0 (by decide)
  have e2 : ρ1 1 = v2 := e0 1 (by decide)
  have e3 : ρ1 2 = v3 := e0 2 (by decide)
  have e4 : ρ1 3 = (M 0 10) := e0 3 (by decide)
  have e5 : ρ1 4 = (M 0 12) := e0 4 (by decide)
  have b0 := kE _ (List.mem_cons_self)
  have b0 : (-1) ≤ ρ1 5 ∧ ρ1 5 ≤ 2147483647 := b0.2
  rw [hr]
  exact k0 _ _ (by omega) (by omega) g f
theorem cx_dread {sc : List Int} {a0 a1 a2 : Int} (i0 : in32 a0) (i1 : in32 a1) (i2 : in32 a2) {M : MM} (G : axG M) : CA FF sc YF 59 m_X11_dread [vr 0, vi a0, vi a1, vi a2] M (cxQ M (M 0 14)) := by
  obtain ⟨g, j, W⟩ := G
  rcases id W.1 with ⟨e10, e11⟩ | ⟨e10, e11⟩ <;> rcases id W.2 with ⟨e12, e13⟩ | ⟨e12, e13⟩
  · exact u_X11_dread_c58_66 (d := 59 - 7) (Q := cxQ M (M 0 14)) (ah_X11_dread_c58_66 axH) (v1 := a0) (v2 := a1) (v3 := a2) (by have := i0; unfold in32 at this; omega) (by have := i1; unfold in32 at this; omega) (by have := i2; unfold in32 at this; omega) (by have := rO_0_10 g; omega) (by have := rO_0_12 g; omega) g j (fun r M1 q0 q1 g1 f1 => have z := (cx_fin g1 f1 j W (by decide +kernel)); ⟨⟨r, rfl⟩, z.1, z.2, (ax_frO f1 rfl (by decide +kernel))⟩)
  · exact u_X11_dread_c58_74 (d := 59 - 7) (Q := cxQ M (M 0 14)) (ah_X11_dread_c58_74 axH) (v1 := a0) (v2 := a1) (v3 := a2) (by have := i0; unfold in32 at this; omega) (by have := i1; unfold in32 at this; omega) (by have := i2; unfold in32 at this; omega) (by have := rO_0_10 g; omega) (by have := rO_0_12 g; omega) g j (fun r M1 q0 q1 g1 f1 => have z := (cx_fin g1 f1 j W (by decide +kernel)); ⟨⟨r, rfl⟩, z.1, z.2, (ax_frO f1 rfl (by decide +kernel))⟩)
  · exact u_X11_dread_c62_66 (d := 59 - 7) (Q := cxQ M (M 0 14)) (ah_X11_dread_c62_66 axH) (v1 := a0) (v2 := a1) (v3 := a2) (by have := i0; unfold in32 at this; omega) (by have := i1; unfold in32 at this; omega) (by have := i2; unfold in32 at this; omega) (by have := rO_0_10 g; omega) (by have := rO_0_12 g; omega) g j (fun r M1 q0 q1 g1 f1 => have z := (cx_fin g1 f1 j W (by decide +kernel)); ⟨⟨r, rfl⟩, z.1, z.2, (ax_frO f1 rfl (by decide +kernel))⟩)
  · exact u_X11_dread_c62_74 (d := 59 - 7) (Q := cxQ M (M 0 14)) (ah_X11_dread_c62_74 axH) (v1 := a0) (v2 := a1) (v3 := a2) (by have := i0; unfold in32 at this; omega) (by have := i1; unfold in32 at this; omega) (by have := i2; unfold in32 at this; omega) (by have := rO_0_10 g; omega) (by have := rO_0_12 g; omega) g j (fun r M1 q0 q1 g1 f1 => have z := (cx_fin g1 f1 j W (by decide +kernel)); ⟨⟨r, rfl⟩, z.1, z.2, (ax_frO f1 rfl (by decide +kernel))⟩)
theorem u_X11_unseen_c58 {J : MM → Prop} (S : ai_SP ax_T J ap_X11_unseen_c58) {sc : List Int} {d : Nat} {M : MM} {Q : Vv → MM → Prop} {v1 v2 v3 : Int} (h0 : (-2147483648) ≤ v1 ∧ v1 ≤ 2147483647) (h1 : (-2147483648) ≤ v2 ∧ v2 ≤ 2147483647) (h2 : (-2147483648) ≤ v3 ∧ v3 ≤ 2147483647) (h3 : 58 ≤ (M 0 10) ∧ (M 0 10) ≤ 58) (G : ai_GI ax_T M) (j : J M) (k0 : ∀ (r : Int) (M1 : MM), (-2147483648) ≤ r → r ≤ 2147483647 → ai_GI ax_T M1 → ai_Fr ax_T ap_X11_unseen_c58.2.2.2.1 M M1 → Q (vi r) M1) : CA FF sc YF (d + 5) m_X11_unseen [vr 0, vi v1, vi v2, vi v3] M Q := by
  refine S sc d (ax_rh [v1, v2, v3, (M 0 10)]) M _ Q rfl rfl (And.intro (ax_r) (And.intro (ax_i (by decide) rfl) (And.intro (ax_i (by decide) rfl) (And.intro (ax_i (by decide) rfl) (And.intro (ax_o) trivial))))) ⟨(ax_e1 (by decide) h0.1 h0.2 (ax_e1 (by decide) h1.1 h1.2 (ax_e1 (by decide) h2.1 h2.2 (ax_e1 (by decide) h3.1 h3.2 ax_e0)))), (ax_f1 (i := 10) (by decide) (by decide) (by show 0 + 10 = 10; omega) (by decide) rfl ax_f0), ax_c0, ax_m0⟩ G j (fun r M1 g f hq => ?_)
  replace hq := ax_q1 hq
  obtain ⟨-, ρ1, e0, hr, kE, kF, kC, kN⟩ := hq
  have hr : r = vi (ρ1 4) := hr
  have e1 : ρ1 0 = v1 := e0 0 (by decide)
  have e2 : ρ1 1 = v2 := e0 1 (by decide)
  have e3 : ρ1 2 = v3 := e0 2 (by decide)
  have e4 : ρ1 3 = (M 0 10) := e0 3 (by decide)
  have b0 := kE _ (List.mem_cons_self)
  have b0 : (-2147483648) ≤ ρ1 4 ∧ ρ1 4 ≤ 2147483647 := b0.2
  rw [hr]
  exact k0 _ _ (by omega) (by omega) g f
theorem u_X11_unseen_c62 {J : MM → Prop} (S : ai_SP ax_T J ap_X11_unseen_c62) {sc : List Int} {d : Nat} {M : MM} {Q : Vv → MM → Prop} {v1 v2 v3 : Int} (h0 : (-2147483648) ≤ v1 ∧ v1 ≤ 2147483647) (h1 : (-2147483648) ≤ v2 ∧ v2 ≤ 2147483647) (h2 : (-2147483648) ≤ v3 ∧ v3 ≤ 2147483647) (h3 : 62 ≤ (M 0 10) ∧ (M 0 10) ≤ 62) (G : ai_GI ax_T M) (j : J M) (k0 : ∀ (r : Int) (M1 : MM), (-2147483648) ≤ r → r ≤ 2147483647 → ai_GI ax_T M1 → ai_Fr ax_T ap_X11_unseen_c62.2.2.2.1 M M1 → Q (vi r) M1) : CA FF sc YF (d + 5) m_X11_unseen [vr 0, vi v1, vi v2, vi v3] M Q := by
  refine S sc d (ax_rh [v1, v2, v3, (M 0 10)]) M _ Q rfl rfl (And.intro (ax_r) (And.intro (ax_i (by decide) rfl) (And.intro (ax_i (by decide) rfl) (And.intro (ax_i (by decide) rfl) (And.intro (ax_o) trivial))))) ⟨(ax_e1 (by decide) h0.1 h0.2 (ax_e1 (by decide) h1.1 h1.2 (ax_e1 (by decide) h2.1 h2.2 (ax_e1 (by decide) h3.1 h3.2 ax_e0)))), (ax_f1 (i := 10) (by decide) (by decide) (by show 0 + 10 = 10; omega) (by decide) rfl ax_f0), ax_c0, ax_m0⟩ G j (fun r M1 g f hq => ?_)
  replace hq := ax_q1 hq
  obtain ⟨-, ρ1, e0, hr, kE, kF, kC, kN⟩ := hq
  have hr : r = vi (ρ1 4) := hr
  have e1 : ρ1 0 = v1 := e0 0 (by decide)
  have e2 : ρ1 1 = v2 := e0 1 (by decide)
  have e3 : ρ1 2 = v3 := e0 2 (by decide)
  have e4 : ρ1 3 = (M 0 10) := e0 3 (by decide)
  have b0 := kE _ (List.mem_cons_self)
  have b0 : (-2147483648) ≤ ρ1 4 ∧ ρ1 4 ≤ 2147483647 := b0.2
  rw [hr]
  exact k0 _ _ (by omega) (by omega) g f
theorem cx_unseen {sc : List Int} {a0 a1 a2 : Int} (i0 : in32 a0) (i1 : in32 a1) (i2 : in32 a2) {M : MM} (G : axG M) : CA FF sc YF 59 m_X11_unseen [vr 0, vi a0, vi a1, vi a2] M (cxQ M (M 0 14)) := by
  obtain ⟨g, j, W⟩ := G
  rcases id W.1 with ⟨e10, e11⟩ | ⟨e10, e11⟩
  · exact u_X11_unseen_c58 (d := 59 - 5) (Q := cxQ M (M 0 14)) (ah_X11_unseen_c58 axH) (v1 := a0) (v2 := a1) (v3 := a2) (by have := i0; unfold in32 at this; omega) (by have := i1; unfold in32 at this; omega) (by have := i2; unfold in32 at this; omega) (by have := rO_0_10 g; omega) g j (fun r M1 q0 q1 g1 f1 => have z := (cx_fin g1 f1 j W (by decide +kernel)); ⟨⟨r, rfl⟩, z.1, z.2, (ax_frO f1 rfl (by decide +kernel))⟩)
  · exact u_X11_unseen_c62 (d := 59 - 5) (Q := cxQ M (M 0 14)) (ah_X11_unseen_c62 axH) (v1 := a0) (v2 := a1) (v3 := a2) (by have := i0; unfold in32 at this; omega) (by have := i1; unfold in32 at this; omega) (by have := i2; unfold in32 at this; omega) (by have := rO_0_10 g; omega) g j (fun r M1 q0 q1 g1 f1 => have z := (cx_fin g1 f1 j W (by decide +kernel)); ⟨⟨r, rfl⟩, z.1, z.2, (ax_frO f1 rfl (by decide +kernel))⟩)
theorem u_X11_watch_c58 {J : MM → Prop} (S : ai_SP ax_T J ap_X11_watch_c58) {sc : List Int} {d : Nat} {M : MM} {Q : Vv → MM → Prop} {v1 : Int} (h0 : (-2147483648) ≤ v1 ∧ v1 ≤ 2147483647) (h1 : 58 ≤ (M 0 10) ∧ (M 0 10) ≤ 58) (G : ai_GI ax_T M) (j : J M) (k0 : ∀ (r : Int) (M1 : MM), (-2) ≤ r → r ≤ 2147483647 → ai_GI ax_T M1 → ai_Fr ax_T ap_X11_watch_c58.2.2.2.1 M M1 → Q (vi r) M1) : CA FF sc YF (d + 7) m_X11_watch [vr 0, vi v1] M Q := by
  refine S sc d (ax_rh [v1, (M 0 10)]) M _ Q rfl rfl (And.intro (ax_r) (And.intro (ax_i (by decide) rfl) trivial)) ⟨(ax_e1 (by decide) h0.1 h0.2 (ax_e1 (by decide) h1.1 h1.2 ax_e0)), (ax_f1 (i := 10) (by decide) (by decide) (by show 0 + 10 = 10; omega) (by decide) rfl ax_f0), ax_c0, ax_m0⟩ G j (fun r M1 g f hq => ?_)
  replace hq := ax_q1 hq
  obtain ⟨-, ρ1, e0, hr, kE, kF, kC, kN⟩ := hq
  have hr : r = vi (ρ1 2) := hr
  have e1 : ρ1 0 = v1 := e0 0 (by decide)
  have e2 : ρ1 1 = (M 0 10) := e0 1 (by decide)
  have b0 := kE _ (List.mem_cons_self)
  have b0 : (-2) ≤ ρ1 2 ∧ ρ1 2 ≤ 2147483647 := b0.2
  rw [hr]
  exact k0 _ _ (by omega) (by omega) g f
theorem u_X11_watch_c62 {J : MM → Prop} (S : ai_SP ax_T J ap_X11_watch_c62) {sc : List Int} {d : Nat} {M : MM} {Q : Vv → MM → Prop} {v1 : Int} (h0 : (-2147483648) ≤ v1 ∧ v1 ≤ 2147483647) (h1 : 62 ≤ (M 0 10) ∧ (M 0 10) ≤ 62) (G : ai_GI ax_T M) (j : J M) (k0 : ∀ (r : Int) (M1 : MM), (-2) ≤ r → r ≤ 2147483647 → ai_GI ax_T M1 → ai_Fr ax_T ap_X11_watch_c62.2.2.2.1 M M1 → Q (vi r) M1) : CA FF sc YF (d + 7) m_X11_watch [vr 0, vi v1] M Q := by
  refine S sc d (ax_rh [v1, (M 0 10)]) M _ Q rfl rfl (And.intro (ax_r) (And.intro (ax_i (by decide) rfl) trivial)) ⟨(ax_e1 (by decide) h0.1 h0.2 (ax_e1 (by decide) h1.1 h1.2 ax_e0)), (ax_f1 (i := 10) (by decide) (by decide) (by show 0 + 10 = 10; omega) (by decide) rfl ax_f0), ax_c0, ax_m0⟩ G j (fun r M1 g f hq => ?_)
  replace hq := ax_q1 hq
  obtain ⟨-, ρ1, e0, hr, kE, kF, kC, kN⟩ := hq
  have hr : r = vi (ρ1 2) := hr
  have e1 : ρ1 0 = v1 := e0 0 (by decide)
  have e2 : ρ1 1 = (M 0 10) := e0 1 (by decide)
  have b0 := kE _ (List.mem_cons_self)
  have b0 : (-2) ≤ ρ1 2 ∧ ρ1 2 ≤ 2147483647 := b0.2
  rw [hr]
  exact k0 _ _ (by omega) (by omega) g f
theorem cx_watch {sc : List Int} {a0 : Int} (i0 : in32 a0) {M : MM} (G : axG M) : CA FF sc YF 59 m_X11_watch [vr 0, vi a0] M (cxQ M (M 0 14)) := by
  obtain ⟨g, j, W⟩ := G
  rcases id W.1 with ⟨e10, e11⟩ | ⟨e10, e11⟩
  · exact u_X11_watch_c58 (d := 59 - 7) (Q := cxQ M (M 0 14)) (ah_X11_watch_c58 axH) (v1 := a0) (by have := i0; unfold in32 at this; omega) (by have := rO_0_10 g; omega) g j (fun r M1 q0 q1 g1 f1 => have z := (cx_fin g1 f1 j W (by decide +kernel)); ⟨⟨r, rfl⟩, z.1, z.2, (ax_frO f1 rfl (by decide +kernel))⟩)
  · exact u_X11_watch_c62 (d := 59 - 7) (Q := cxQ M (M 0 14)) (ah_X11_watch_c62 axH) (v1 := a0) (by have := i0; unfold in32 at this; omega) (by have := rO_0_10 g; omega) g j (fun r M1 q0 q1 g1 f1 => have z := (cx_fin g1 f1 j W (by decide +kernel)); ⟨⟨r, rfl⟩, z.1, z.2, (ax_frO f1 rfl (by decide +kernel))⟩)
theorem u_X11_feared_c58_66 {J : MM → Prop} (S : ai_SP ax_T J ap_X11_feared_c58_66) {sc : List Int} {d : Nat} {M : MM} {Q : Vv → MM → Prop} {v1 v2 : Int} (h0 : (-2147483648) ≤ v1 ∧ v1 ≤ 2147483647) (h1 : (-2147483648) ≤ v2 ∧ v2 ≤ 2147483647) (h2 : 58 ≤ (M 0 10) ∧ (M 0 10) ≤ 58) (h3 : 66 ≤ (M 0 12) ∧ (M 0 12) ≤ 66) (G : ai_GI ax_T M) (j : J M) (k0 : ∀ (r : Int) (M1 : MM), (-1000) ≤ r → r ≤ 999 → ai_GI ax_T M1 → ai_Fr ax_T ap_X11_feared_c58_66.2.2.2.1 M M1 → Q (vi r) M1) : CA FF sc YF (d + 7) m_X11_feared [vr 0, vi v1, vi v2] M Q := by
  refine S sc d (ax_rh [v1, v2, (M 0 10), (M 0 12)]) M _ Q rfl rfl (And.intro (ax_r) (And.intro (ax_i (by decide) rfl) (And.intro (ax_i (by decide) rfl) (And.intro (ax_o) (And.intro (ax_o) (And.intro (ax_o) (And.intro (ax_o) trivial))))))) ⟨(ax_e1 (by decide) h0.1 h0.2 (ax_e1 (by decide) h1.1 h1.2 (ax_e1 (by decide) h2.1 h2.2 (ax_e1 (by decide) h3.1 h3.2 ax_e0)))), (ax_f1 (i := 10) (by decide) (by decide) (by show 0 + 10 = 10; omega) (by decide) rfl (ax_f1 (i := 12) (by decide) (by decide) (by show 0 + 12 = 12; omega) (by decide) rfl ax_f0)), ax_c0, ax_m0⟩ G j (fun r M1 g f hq => ?_)
  replace hq := ax_q1 hq
  obtain ⟨-, ρ1, e0, hr, kE, kF, kC, kN⟩ := hq
  have hr : r = vi (ρ1 4) := hr
  have e1 : ρ1 0 = v1 := e0 0 (by decide)
  have e2 : ρ1 1 = v2 := e0 1 (by decide)
  have e3 : ρ1 2 = (M 0 10) := e0 2 (by decide)
  have e4 : ρ1 3 = (M 0 12) := e0 3 (by decide)
  have b0 := kE _ (List.mem_cons_self)
  have b0 : (-1000) ≤ ρ1 4 ∧ ρ1 4 ≤ 999 := b0.2
  rw [hr]
  exact k0 _ _ (by omega) (by omega) g f
theorem u_X11_feared_c58_74 {J : MM → Prop} (S : ai_SP ax_T J ap_X11_feared_c58_74) {sc : List Int} {d : Nat} {M : MM} {Q : Vv → MM → Prop} {v1 v2 : Int} (h0 : (-2147483648) ≤ v1 ∧ v1 ≤ 2147483647) (h1 : (-2147483648) ≤ v2 ∧ v2 ≤ 2147483647) (h2 : 58 ≤ (M 0 10) ∧ (M 0 10) ≤ 58) (h3 : 74 ≤ (M 0 12) ∧ (M 0 12) ≤ 74) (G : ai_GI ax_T M) (j : J M) (k0 : ∀ (r : Int) (M1 : MM), (-1000) ≤ r → r ≤ 999 → ai_GI ax_T M1 → ai_Fr ax_T ap_X11_feared_c58_74.2.2.2.1 M M1 → Q (vi r) M1) : CA FF sc YF (d + 7) m_X11_feared [vr 0, vi v1, vi v2] M Q := by
  refine S sc d (ax_rh [v1, v2, (M 0 10), (M 0 12)]) M _ Q rfl rfl (And.intro (ax_r) (And.intro (ax_i (by decide) rfl) (And.intro (ax_i (by decide) rfl) (And.intro (ax_o) (And.intro (ax_o) (And.intro (ax_o) (And.intro (ax_o) trivial))))))) ⟨(ax_e1 (by decide) h0.1 h0.2 (ax_e1 (by decide) h1.1 h1.2 (ax_e1 (by decide) h2.1 h2.2 (ax_e1 (by decide) h3.1 h3.2 ax_e0)))), (ax_f1 (i := 10) (by decide) (by decide) (by show 0 + 10 = 10; omega) (by decide) rfl (ax_f1 (i := 12) (by decide) (by decide) (by show 0 + 12 = 12; omega) (by decide) rfl ax_f0)), ax_c0, ax_m0⟩ G j (fun r M1 g f hq => ?_)
  replace hq := ax_q1 hq
  obtain ⟨-, ρ1, e0, hr, kE, kF, kC, kN⟩ := hq
  have hr : r = vi (ρ1 4) := hr
  have e1 : ρ1 0 = v1 := e0 0 (by decide)
  have e2 : ρ1 1 = v2 := e0 1 (by decide)
  have e3 : ρ1 2 = (M 0 10) := e0 2 (by decide)
  have e4 : ρ1 3 = (M 0 12) := e0 3 (by decide)
  have b0 := kE _ (List.mem_cons_self)
  have b0 : (-1000) ≤ ρ1 4 ∧ ρ1 4 ≤ 999 := b0.2
  rw [hr]
  exact k0 _ _ (by omega) (by omega) g f
theorem u_X11_feared_c62_66 {J : MM → Prop} (S : ai_SP ax_T J ap_X11_feared_c62_66) {sc : List Int} {d : Nat} {M : MM} {Q : Vv → MM → Prop} {v1 v2 : Int} (h0 : (-2147483648) ≤ v1 ∧ v1 ≤ 2147483647) (h1 : (-2147483648) ≤ v2 ∧ v2 ≤ 2147483647) (h2 : 62 ≤ (M 0 10) ∧ (M 0 10) ≤ 62) (h3 : 66 ≤ (M 0 12) ∧ (M 0 12) ≤ 66) (G : ai_GI ax_T M) (j : J M) (k0 : ∀ (r : Int) (M1 : MM), (-1000) ≤ r → r ≤ 999 → ai_GI ax_T M1 → ai_Fr ax_T ap_X11_feared_c62_66.2.2.2.1 M M1 → Q (vi r) M1) : CA FF sc YF (d + 7) m_X11_feared [vr 0, vi v1, vi v2] M Q := by
  refine S sc d (ax_rh [v1, v2, (M 0 10), (M 0 12)]) M _ Q rfl rfl (And.intro (ax_r) (And.intro (ax_i (by decide) rfl) (And.intro (ax_i (by decide) rfl) (And.intro (ax_o) (And.intro (ax_o) (And.intro (ax_o) (And.intro (ax_o) trivial))))))) ⟨(ax_e1 (by decide) h0.1 h0.2 (ax_e1 (by decide) h1.1 h1.2 (ax_e1 (by decide) h2.1 h2.2 (ax_e1 (by decide) h3.1 h3.2 ax_e0)))), (ax_f1 (i := 10) (by decide) (by decide) (by show 0 + 10 = 10; omega) (by decide) rfl (ax_f1 (i := 12) (by decide) (by decide) (by show 0 + 12 = 12; omega) (by decide) rfl ax_f0)), ax_c0, ax_m0⟩ G j (fun r M1 g f hq => ?_)
  replace hq := ax_q1 hq
  obtain ⟨-, ρ1, e0, hr, kE, kF, kC, kN⟩ := hq
  have hr : r = vi (ρ1 4) := hr
  have e1 : ρ1 0 = v1 := e0 0 (by decide)
  have e2 : ρ1 1 = v2 := e0 1 (by decide)
  have e3 : ρ1 2 = (M 0 10) := e0 2 (by decide)
  have e4 : ρ1 3 = (M 0 12) := e0 3 (by decide)
  have b0 := kE _ (List.mem_cons_self)
  have b0 : (-1000) ≤ ρ1 4 ∧ ρ1 4 ≤ 999 := b0.2
  rw [hr]
  exact k0 _ _ (by omega) (by omega) g f
theorem u_X11_feared_c62_74 {J : MM → Prop} (S : ai_SP ax_T J ap_X11_feared_c62_74) {sc : List Int} {d : Nat} {M : MM} {Q : Vv → MM → Prop} {v1 v2 : Int} (h0 : (-2147483648) ≤ v1 ∧ v1 ≤ 2147483647) (h1 : (-2147483648) ≤ v2 ∧ v2 ≤ 2147483647) (h2 : 62 ≤ (M 0 10) ∧ (M 0 10) ≤ 62) (h3 : 74 ≤ (M 0 12) ∧ (M 0 12) ≤ 74) (G : ai_GI ax_T M) (j : J M) (k0 : ∀ (r : Int) (M1 : MM), (-1000) ≤ r → r ≤ 999 → ai_GI ax_T M1 → ai_Fr ax_T ap_X11_feared_c62_74.2.2.2.1 M M1 → Q (vi r) M1) : CA FF sc YF (d + 7) m_X11_feared [vr 0, vi v1, vi v2] M Q := by
  refine S sc d (ax_rh [v1, v2, (M 0 10), (M 0 12)]) M _ Q rfl rfl (And.intro (ax_r) (And.intro (ax_i (by decide) rfl) (And.intro (ax_i (by decide) rfl) (And.intro (ax_o) (And.intro (ax_o) (And.intro (ax_o) (And.intro (ax_o) trivial))))))) ⟨(ax_e1 (by decide) h0.1 h0.2 (ax_e1 (by decide) h1.1 h1.2 (ax_e1 (by decide) h2.1 h2.2 (ax_e1 (by decide) h3.1 h3.2 ax_e0)))), (ax_f1 (i := 10) (by decide) (by decide) (by show 0 + 10 = 10; omega) (by decide) rfl (ax_f1 (i := 12) (by decide) (by decide) (by show 0 + 12 = 12; omega) (by decide) rfl ax_f0)), ax_c0, ax_m0⟩ G j (fun r M1 g f hq => ?_)
  replace hq := ax_q1 hq
  obtain ⟨-, ρ1, e0, hr, kE, kF, kC, kN⟩ := hq
  have hr : r = vi (ρ1 4) := hr
  have e1 : ρ1 0 = v1 := e0 0 (by decide)
  have e2 : ρ1 1 = v2 := e0 1 (by decide)
  have e3 : ρ1 2 = (M 0 10) := e0 2 (by decide)
  have e4 : ρ1 3 = (M 0 12) := e0 3 (by decide)
  have b0 := kE _ (List.mem_cons_self)
  have b0 : (-1000) ≤ ρ1 4 ∧ ρ1 4 ≤ 999 := b0.2
  rw [hr]
  exact k0 _ _ (by omega) (by omega) g f
theorem cx_feared {sc : List Int} {a0 a1 : Int} (i0 : in32 a0) (i1 : in32 a1) {M : MM} (G : axG M) : CA FF sc YF 59 m_X11_feared [vr 0, vi a0, vi a1] M (cxQ M (M 0 14)) := by
  obtain ⟨g, j, W⟩ := G
  rcases id W.1 with ⟨e10, e11⟩ | ⟨e10, e11⟩ <;> rcases id W.2 with ⟨e12, e13⟩ | ⟨e12, e13⟩
  · exact u_X11_feared_c58_66 (d := 59 - 7) (Q := cxQ M (M 0 14)) (ah_X11_feared_c58_66 axH) (v1 := a0) (v2 := a1) (by have := i0; unfold in32 at this; omega) (by have := i1; unfold in32 at this; omega) (by have := rO_0_10 g; omega) (by have := rO_0_12 g; omega) g j (fun r M1 q0 q1 g1 f1 => have z := (cx_fin g1 f1 j W (by decide +kernel)); ⟨⟨r, rfl⟩, z.1, z.2, (ax_frO f1 rfl (by decide +kernel))⟩)
  · exact u_X11_feared_c58_74 (d := 59 - 7) (Q := cxQ M (M 0 14)) (ah_X11_feared_c58_74 axH) (v1 := a0) (v2 := a1) (by have := i0; unfold in32 at this; omega) (by have := i1; unfold in32 at this; omega) (by have := rO_0_10 g; omega) (by have := rO_0_12 g; omega) g j (fun r M1 q0 q1 g1 f1 => have z := (cx_fin g1 f1 j W (by decide +kernel)); ⟨⟨r, rfl⟩, z.1, z.2, (ax_frO f1 rfl (by decide +kernel))⟩)
  · exact u_X11_feared_c62_66 (d := 59 - 7) (Q := cxQ M (M 0 14)) (ah_X11_feared_c62_66 axH) (v1 := a0) (v2 := a1) (by have := i0; unfold in32 at this; omega) (by have := i1; unfold in32 at this; omega) (by have := rO_0_10 g; omega) (by have := rO_0_12 g; omega) g j (fun r M1 q0 q1 g1 f1 => have z := (cx_fin g1 f1 j W (by decide +kernel)); ⟨⟨r, rfl⟩, z.1, z.2, (ax_frO f1 rfl (by decide +kernel))⟩)
  · exact u_X11_feared_c62_74 (d := 59 - 7) (Q := cxQ M (M 0 14)) (ah_X11_feared_c62_74 axH) (v1 := a0) (v2 := a1) (by have := i0; unfold in32 at this; omega) (by have := i1; unfold in32 at this; omega) (by have := rO_0_10 g; omega) (by have := rO_0_12 g; omega) g j (fun r M1 q0 q1 g1 f1 => have z := (cx_fin g1 f1 j W (by decide +kernel)); ⟨⟨r, rfl⟩, z.1, z.2, (ax_frO f1 rfl (by decide +kernel))⟩)
theorem cx_sightings {sc : List Int} {a0 a1 : Int} (i0 : in32 a0) (i1 : in32 a1) {M : MM} (G : axG M) : CA FF sc YF 59 m_X11_sightings [vr 0, vi a0, vi a1] M (cxQ M (M 0 14)) := by
  obtain ⟨g, j, W⟩ := G
  rcases id W.1 with ⟨e10, e11⟩ | ⟨e10, e11⟩
  · exact sx_sightings_57 (d := 53) ⟨g, j, W⟩ e10 (fun r M1 G1 u k _ => ⟨⟨r, rfl⟩, G1, u, k⟩)
  · exact sx_sightings_61 (d := 53) ⟨g, j, W⟩ e10 (fun r M1 G1 u k _ => ⟨⟨r, rfl⟩, G1, u, k⟩)
theorem u_X11_rotas_c58_66 {J : MM → Prop} (S : ai_SP ax_T J ap_X11_rotas_c58_66) {sc : List Int} {d : Nat} {M : MM} {Q : Vv → MM → Prop} {v1 v2 v3 v4 : Int} (h0 : (-2147483648) ≤ v1 ∧ v1 ≤ 2147483647) (h1 : (-2147483648) ≤ v2 ∧ v2 ≤ 2147483647) (h2 : (-2147483648) ≤ v3 ∧ v3 ≤ 2147483647) (h3 : (-2147483648) ≤ v4 ∧ v4 ≤ 2147483647) (h4 : 58 ≤ (M 0 10) ∧ (M 0 10) ≤ 58) (h5 : 66 ≤ (M 0 12) ∧ (M 0 12) ≤ 66) (G : ai_GI ax_T M) (j : J M) (k0 : ∀ (r : Int) (M1 : MM), (-128) ≤ r → r ≤ 1000000000 → ai_GI ax_T M1 → ai_Fr ax_T ap_X11_rotas_c58_66.2.2.2.1 M M1 → Q (vi r) M1) : CA FF sc YF (d + 5) m_X11_rotas [vr 0, vi v1, vi v2, vi v3, vi v4] M Q := by
  refine S sc d (ax_rh [v1, v2, v3, v4, (M 0 10), (M 0 12)]) M _ Q rfl rfl (And.intro (ax_r) (And.intro (ax_i (by decide) rfl) (And.intro (ax_i (by decide) rfl) (And.intro (ax_i (by decide) rfl) (And.intro (ax_i (by decide) rfl) (And.intro (ax_o) trivial)))))) ⟨(ax_e1 (by decide) h0.1 h0.2 (ax_e1 (by decide) h1.1 h1.2 (ax_e1 (by decide) h2.1 h2.2 (ax_e1 (by decide) h3.1 h3.2 (ax_e1 (by decide) h4.1 h4.2 (ax_e1 (by decide) h5.1 h5.2 ax_e0)))))), (ax_f1 (i := 10) (by decide) (by decide) (by show 0 + 10 = 10; omega) (by decide) rfl (ax_f1 (i := 12) (by decide) (by decide) (by show 0 + 12 = 12; omega) (by decide) rfl ax_f0)), ax_c0, ax_m0⟩ G j (fun r M1 g f hq => ?_)
  replace hq := ax_q1 hq
  obtain ⟨-, ρ1, e0, hr, kE, kF, kC, kN⟩ := hq
  have hr : r = vi (ρ1 6) := hr
  have e1 : ρ1 0 = v1 := e0 0 (by decide)
  have e2 : ρ1 1 = v2 := e0 1 (by decide)
  have e3 : ρ1 2 = v3 := e0 2 (by decide)
  have e4 : ρ1 3 = v4 := e0 3 (by decide)
  have e5 : ρ1 4 = (M 0 10) := e0 4 (by decide)
  have e6 : ρ1 5 = (M 0 12) := e0 5 (by decide)
  have b0 := kE _ (List.mem_cons_self)
  have b0 : (-128) ≤ ρ1 6 ∧ ρ1 6 ≤ 1000000000 := b0.2
  rw [hr]
  exact k0 _ _ (by omega) (by omega) g f
theorem u_X11_rotas_c58_74 {J : MM → Prop} (S : ai_SP ax_T J ap_X11_rotas_c58_74) {sc : List Int} {d : Nat} {M : MM} {Q : Vv → MM → Prop} {v1 v2 v3 v4 : Int} (h0 : (-2147483648) ≤ v1 ∧ v1 ≤ 2147483647) (h1 : (-2147483648) ≤ v2 ∧ v2 ≤ 2147483647) (h2 : (-2147483648) ≤ v3 ∧ v3 ≤ 2147483647) (h3 : (-2147483648) ≤ v4 ∧ v4 ≤ 2147483647) (h4 : 58 ≤ (M 0 10) ∧ (M 0 10) ≤ 58) (h5 : 74 ≤ (M 0 12) ∧ (M 0 12) ≤ 74) (G : ai_GI ax_T M) (j : J M) (k0 : ∀ (r : Int) (M1 : MM), (-128) ≤ r → r ≤ 1000000000 → ai_GI ax_T M1 → ai_Fr ax_T ap_X11_rotas_c58_74.2.2.2.1 M M1 → Q (vi r) M1) : CA FF sc YF (d + 5) m_X11_rotas [vr 0, vi v1, vi v2, vi v3, vi v4] M Q := by
  refine S sc d (ax_rh [v1, v2, v3, v4, (M 0 10), (M 0 12)]) M _ Q rfl rfl (And.intro (ax_r) (And.intro (ax_i (by decide) rfl) (And.intro (ax_i (by decide) rfl) (And.intro (ax_i (by decide) rfl) (And.intro (ax_i (by decide) rfl) (And.intro (ax_o) trivial)))))) ⟨(ax_e1 (by decide) h0.1 h0.2 (ax_e1 (by decide) h1.1 h1.2 (ax_e1 (by decide) h2.1 h2.2 (ax_e1 (by decide) h3.1 h3.2 (ax_e1 (by decide) h4.1 h4.2 (ax_e1 (by decide) h5.1 h5.2 ax_e0)))))), (ax_f1 (i := 10) (by decide) (by decide) (by show 0 + 10 = 10; omega) (by decide) rfl (ax_f1 (i := 12) (by decide) (by decide) (by show 0 + 12 = 12; omega) (by decide) rfl ax_f0)), ax_c0, ax_m0⟩ G j (fun r M1 g f hq => ?_)
  replace hq := ax_q1 hq
  obtain ⟨-, ρ1, e0, hr, kE, kF, kC, kN⟩ := hq
  have hr : r = vi (ρ1 6) := hr
  have e1 : ρ1 0 = v1 := e0 0 (by decide)
  have e2 : ρ1 1 = v2 := e0 1 (by decide)
  have e3 : ρ1 2 = v3 := e0 2 (by decide)
  have e4 : ρ1 3 = v4 := e0 3 (by decide)
  have e5 : ρ1 4 = (M 0 10) := e0 4 (by decide)
  have e6 : ρ1 5 = (M 0 12) := e0 5 (by decide)
  have b0 := kE _ (List.mem_cons_self)
  have b0 : (-128) ≤ ρ1 6 ∧ ρ1 6 ≤ 1000000000 := b0.2
  rw [hr]
  exact k0 _ _ (by omega) (by omega) g f
theorem u_X11_rotas_c62_66 {J : MM → Prop} (S : ai_SP ax_T J ap_X11_rotas_c62_66) {sc : List Int} {d : Nat} {M : MM} {Q : Vv → MM → Prop} {v1 v2 v3 v4 : Int} (h0 : (-2147483648) ≤ v1 ∧ v1 ≤ 2147483647) (h1 : (-2147483648) ≤ v2 ∧ v2 ≤ 2147483647) (h2 : (-2147483648) ≤ v3 ∧ v3 ≤ 2147483647) (h3 : (-2147483648) ≤ v4 ∧ v4 ≤ 2147483647) (h4 : 62 ≤ (M 0 10) ∧ (M 0 10) ≤ 62) (h5 : 66 ≤ (M 0 12) ∧ (M 0 12) ≤ 66) (G : ai_GI ax_T M) (j : J M) (k0 : ∀ (r : Int) (M1 : MM), (-128) ≤ r → r ≤ 1000000000 → ai_GI ax_T M1 → ai_Fr ax_T ap_X11_rotas_c62_66.2.2.2.1 M M1 → Q (vi r) M1) : CA FF sc YF (d + 5) m_X11_rotas [vr 0, vi v1, vi v2, vi v3, vi v4] M Q := by
  refine S sc d (ax_rh [v1, v2, v3, v4, (M 0 10), (M 0 12)]) M _ Q rfl rfl (And.intro (ax_r) (And.intro (ax_i (by decide) rfl) (And.intro (ax_i (by decide) rfl) (And.intro (ax_i (by decide) rfl) (And.intro (ax_i (by decide) rfl) (And.intro (ax_o) trivial)))))) ⟨(ax_e1 (by decide) h0.1 h0.2 (ax_e1 (by decide) h1.1 h1.2 (ax_e1 (by decide) h2.1 h2.2 (ax_e1 (by decide) h3.1 h3.2 (ax_e1 (by decide) h4.1 h4.2 (ax_e1 (by decide) h5.1 h5.2 ax_e0)))))), (ax_f1 (i := 10) (by decide) (by decide) (by show 0 + 10 = 10; omega) (by decide) rfl (ax_f1 (i := 12) (by decide) (by decide) (by show 0 + 12 = 12; omega) (by decide) rfl ax_f0)), ax_c0, ax_m0⟩ G j (fun r M1 g f hq => ?_)
  replace hq := ax_q1 hq
  obtain ⟨-, ρ1, e0, hr, kE, kF, kC, kN⟩ := hq
  have hr : r = vi (ρ1 6) := hr
  have e1 : ρ1 0 = v1 := e0 0 (by decide)
  have e2 : ρ1 1 = v2 := e0 1 (by decide)
  have e3 : ρ1 2 = v3 := e0 2 (by decide)
  have e4 : ρ1 3 = v4 := e0 3 (by decide)
  have e5 : ρ1 4 = (M 0 10) := e0 4 (by decide)
  have e6 : ρ1 5 = (M 0 12) := e0 5 (by decide)
  have b0 := kE _ (List.mem_cons_self)
  have b0 : (-128) ≤ ρ1 6 ∧ ρ1 6 ≤ 1000000000 := b0.2
  rw [hr]
  exact k0 _ _ (by omega) (by omega) g f
theorem u_X11_rotas_c62_74 {J : MM → Prop} (S : ai_SP ax_T J ap_X11_rotas_c62_74) {sc : List Int} {d : Nat} {M : MM} {Q : Vv → MM → Prop} {v1 v2 v3 v4 : Int} (h0 : (-2147483648) ≤ v1 ∧ v1 ≤ 2147483647) (h1 : (-2147483648) ≤ v2 ∧ v2 ≤ 2147483647) (h2 : (-2147483648) ≤ v3 ∧ v3 ≤ 2147483647) (h3 : (-2147483648) ≤ v4 ∧ v4 ≤ 2147483647) (h4 : 62 ≤ (M 0 10) ∧ (M 0 10) ≤ 62) (h5 : 74 ≤ (M 0 12) ∧ (M 0 12) ≤ 74) (G : ai_GI ax_T M) (j : J M) (k0 : ∀ (r : Int) (M1 : MM), (-128) ≤ r → r ≤ 1000000000 → ai_GI ax_T M1 → ai_Fr ax_T ap_X11_rotas_c62_74.2.2.2.1 M M1 → Q (vi r) M1) : CA FF sc YF (d + 5) m_X11_rotas [vr 0, vi v1, vi v2, vi v3, vi v4] M Q := by
  refine S sc d (ax_rh [v1, v2, v3, v4, (M 0 10), (M 0 12)]) M _ Q rfl rfl (And.intro (ax_r) (And.intro (ax_i (by decide) rfl) (And.intro (ax_i (by decide) rfl) (And.intro (ax_i (by decide) rfl) (And.intro (ax_i (by decide) rfl) (And.intro (ax_o) trivial)))))) ⟨(ax_e1 (by decide) h0.1 h0.2 (ax_e1 (by decide) h1.1 h1.2 (ax_e1 (by decide) h2.1 h2.2 (ax_e1 (by decide) h3.1 h3.2 (ax_e1 (by decide) h4.1 h4.2 (ax_e1 (by decide) h5.1 h5.2 ax_e0)))))), (ax_f1 (i := 10) (by decide) (by decide) (by show 0 + 10 = 10; omega) (by decide) rfl (ax_f1 (i := 12) (by decide) (by decide) (by show 0 + 12 = 12; omega) (by decide) rfl ax_f0)), ax_c0, ax_m0⟩ G j (fun r M1 g f hq => ?_)
  replace hq := ax_q1 hq
  obtain ⟨-, ρ1, e0, hr, kE, kF, kC, kN⟩ := hq
  have hr : r = vi (ρ1 6) := hr
  have e1 : ρ1 0 = v1 := e0 0 (by decide)
  have e2 : ρ1 1 = v2 := e0 1 (by decide)
  have e3 : ρ1 2 = v3 := e0 2 (by decide)
  have e4 : ρ1 3 = v4 := e0 3 (by decide)
  have e5 : ρ1 4 = (M 0 10) := e0 4 (by decide)
  have e6 : ρ1 5 = (M 0 12) := e0 5 (by decide)
  have b0 := kE _ (List.mem_cons_self)
  have b0 : (-128) ≤ ρ1 6 ∧ ρ1 6 ≤ 1000000000 := b0.2
  rw [hr]
  exact k0 _ _ (by omega) (by omega) g f
theorem cx_rotas {sc : List Int} {a0 a1 a2 a3 : Int} (i0 : in32 a0) (i1 : in32 a1) (i2 : in32 a2) (i3 : in32 a3) {M : MM} (G : axG M) : CA FF sc YF 59 m_X11_rotas [vr 0, vi a0, vi a1, vi a2, vi a3] M (cxQ M (M 0 14)) := by
  obtain ⟨g, j, W⟩ := G
  rcases id W.1 with ⟨e10, e11⟩ | ⟨e10, e11⟩ <;> rcases id W.2 with ⟨e12, e13⟩ | ⟨e12, e13⟩
  · exact u_X11_rotas_c58_66 (d := 59 - 5) (Q := cxQ M (M 0 14)) (ah_X11_rotas_c58_66 axH) (v1 := a0) (v2 := a1) (v3 := a2) (v4 := a3) (by have := i0; unfold in32 at this; omega) (by have := i1; unfold in32 at this; omega) (by have := i2; unfold in32 at this; omega) (by have := i3; unfold in32 at this; omega) (by have := rO_0_10 g; omega) (by have := rO_0_12 g; omega) g j (fun r M1 q0 q1 g1 f1 => have z := (cx_fin g1 f1 j W (by decide +kernel)); ⟨⟨r, rfl⟩, z.1, z.2, (ax_frO f1 rfl (by decide +kernel))⟩)
  · exact u_X11_rotas_c58_74 (d := 59 - 5) (Q := cxQ M (M 0 14)) (ah_X11_rotas_c58_74 axH) (v1 := a0) (v2 := a1) (v3 := a2) (v4 := a3) (by have := i0; unfold in32 at this; omega) (by have := i1; unfold in32 at this; omega) (by have := i2; unfold in32 at this; omega) (by have := i3; unfold in32 at this; omega) (by have := rO_0_10 g; omega) (by have := rO_0_12 g; omega) g j (fun r M1 q0 q1 g1 f1 => have z := (cx_fin g1 f1 j W (by decide +kernel)); ⟨⟨r, rfl⟩, z.1, z.2, (ax_frO f1 rfl (by decide +kernel))⟩)
  · exact u_X11_rotas_c62_66 (d := 59 - 5) (Q := cxQ M (M 0 14)) (ah_X11_rotas_c62_66 axH) (v1 := a0) (v2 := a1) (v3 := a2) (v4 := a3) (by have := i0; unfold in32 at this; omega) (by have := i1; unfold in32 at this; omega) (by have := i2; unfold in32 at this; omega) (by have := i3; unfold in32 at this; omega) (by have := rO_0_10 g; omega) (by have := rO_0_12 g; omega) g j (fun r M1 q0 q1 g1 f1 => have z := (cx_fin g1 f1 j W (by decide +kernel)); ⟨⟨r, rfl⟩, z.1, z.2, (ax_frO f1 rfl (by decide +kernel))⟩)
  · exact u_X11_rotas_c62_74 (d := 59 - 5) (Q := cxQ M (M 0 14)) (ah_X11_rotas_c62_74 axH) (v1 := a0) (v2 := a1) (v3 := a2) (v4 := a3) (by have := i0; unfold in32 at this; omega) (by have := i1; unfold in32 at this; omega) (by have := i2; unfold in32 at this; omega) (by have := i3; unfold in32 at this; omega) (by have := rO_0_10 g; omega) (by have := rO_0_12 g; omega) g j (fun r M1 q0 q1 g1 f1 => have z := (cx_fin g1 f1 j W (by decide +kernel)); ⟨⟨r, rfl⟩, z.1, z.2, (ax_frO f1 rfl (by decide +kernel))⟩)
theorem u_X11_goes_c58_66 {J : MM → Prop} (S : ai_SP ax_T J ap_X11_goes_c58_66) {sc : List Int} {d : Nat} {M : MM} {Q : Vv → MM → Prop} {v1 v2 : Int} (h0 : (-2147483648) ≤ v1 ∧ v1 ≤ 2147483647) (h1 : (-2147483648) ≤ v2 ∧ v2 ≤ 2147483647) (h2 : 58 ≤ (M 0 10) ∧ (M 0 10) ≤ 58) (h3 : 66 ≤ (M 0 12) ∧ (M 0 12) ≤ 66) (G : ai_GI ax_T M) (j : J M) (k0 : ∀ (r : Int) (M1 : MM), (-1) ≤ r → r ≤ 1023 → ai_GI ax_T M1 → ai_Fr ax_T ap_X11_goes_c58_66.2.2.2.1 M M1 → Q (vi r) M1) : CA FF sc YF (d + 6) m_X11_goes [vr 0, vi v1, vi v2] M Q := by
  refine S sc d (ax_rh [v1, v2, (M 0 10), (M 0 12)]) M _ Q rfl rfl (And.intro (ax_r) (And.intro (ax_i (by decide) rfl) (And.intro (ax_i (by decide) rfl) (And.intro (ax_o) (And.intro (ax_o) trivial))))) ⟨(ax_e1 (by decide) h0.1 h0.2 (ax_e1 (by decide) h1.1 h1.2 (ax_e1 (by decide) h2.1 h2.2 (ax_e1 (by decide) h3.1 h3.2 ax_e0)))), (ax_f1 (i := 10) (by decide) (by decide) (by show 0 + 10 = 10; omega) (by decide) rfl (ax_f1 (i := 12) (by decide) (by decide) (by show 0 + 12 = 12; omega) (by decide) rfl ax_f0)), ax_c0, ax_m0⟩ G j (fun r M1 g f hq => ?_)
  replace hq := ax_q1 hq
  obtain ⟨-, ρ1, e0, hr, kE, kF, kC, kN⟩ := hq
  have hr : r = vi (ρ1 4) := hr
  have e1 : ρ1 0 = v1 := e0 0 (by decide)
  have e2 : ρ1 1 = v2 := e0 1 (by decide)
  have e3 : ρ1 2 = (M 0 10) := e0 2 (by decide)
  have e4 : ρ1 3 = (M 0 12) := e0 3 (by decide)
  have b0 := kE _ (List.mem_cons_self)
  have b0 : (-1) ≤ ρ1 4 ∧ ρ1 4 ≤ 1023 := b0.2
  rw [hr]
  exact k0 _ _ (by omega) (by omega) g f
theorem u_X11_goes_c58_74 {J : MM → Prop} (S : ai_SP ax_T J ap_X11_goes_c58_74) {sc : List Int} {d : Nat} {M : MM} {Q : Vv → MM → Prop} {v1 v2 : Int} (h0 : (-2147483648) ≤ v1 ∧ v1 ≤ 2147483647) (h1 : (-2147483648) ≤ v2 ∧ v2 ≤ 2147483647) (h2 : 58 ≤ (M 0 10) ∧ (M 0 10) ≤ 58) (h3 : 74 ≤ (M 0 12) ∧ (M 0 12) ≤ 74) (G : ai_GI ax_T M) (j : J M) (k0 : ∀ (r : Int) (M1 : MM), (-1) ≤ r → r ≤ 1023 → ai_GI ax_T M1 → ai_Fr ax_T ap_X11_goes_c58_74.2.2.2.1 M M1 → Q (vi r) M1) : CA FF sc YF (d + 6) m_X11_goes [vr 0, vi v1, vi v2] M Q := by
  refine S sc d (ax_rh [v1, v2, (M 0 10), (M 0 12)]) M _ Q rfl rfl (And.intro (ax_r) (And.intro (ax_i (by decide) rfl) (And.intro (ax_i (by decide) rfl) (And.intro (ax_o) (And.intro (ax_o) trivial))))) ⟨(ax_e1 (by decide) h0.1 h0.2 (ax_e1 (by decide) h1.1 h1.2 (ax_e1 (by decide) h2.1 h2.2 (ax_e1 (by decide) h3.1 h3.2 ax_e0)))), (ax_f1 (i := 10) (by decide) (by decide) (by show 0 + 10 = 10; omega) (by decide) rfl (ax_f1 (i := 12) (by decide) (by decide) (by show 0 + 12 = 12; omega) (by decide) rfl ax_f0)), ax_c0, ax_m0⟩ G j (fun r M1 g f hq => ?_)
  replace hq := ax_q1 hq
  obtain ⟨-, ρ1, e0, hr, kE, kF, kC, kN⟩ := hq
  have hr : r = vi (ρ1 4) := hr
  have e1 : ρ1 0 = v1 := e0 0 (by decide)
  have e2 : ρ1 1 = v2 := e0 1 (by decide)
  have e3 : ρ1 2 = (M 0 10) := e0 2 (by decide)
  have e4 : ρ1 3 = (M 0 12) := e0 3 (by decide)
  have b0 := kE _ (List.mem_cons_self)
  have b0 : (-1) ≤ ρ1 4 ∧ ρ1 4 ≤ 1023 := b0.2
  rw [hr]
  exact k0 _ _ (by omega) (by omega) g f
theorem u_X11_goes_c62_66 {J : MM → Prop} (S : ai_SP ax_T J ap_X11_goes_c62_66) {sc : List Int} {d : Nat} {M : MM} {Q : Vv → MM → Prop} {v1 v2 : Int} (h0 : (-2147483648) ≤ v1 ∧ v1 ≤ 2147483647) (h1 : (-2147483648) ≤ v2 ∧ v2 ≤ 2147483647) (h2 : 62 ≤ (M 0 10) ∧ (M 0 10) ≤ 62) (h3 : 66 ≤ (M 0 12) ∧ (M 0 12) ≤ 66) (G : ai_GI ax_T M) (j : J M) (k0 : ∀ (r : Int) (M1 : MM), (-1) ≤ r → r ≤ 1023 → ai_GI ax_T M1 → ai_Fr ax_T ap_X11_goes_c62_66.2.2.2.1 M M1 → Q (vi r) M1) : CA FF sc YF (d + 6) m_X11_goes [vr 0, vi v1, vi v2] M Q := by
  refine S sc d (ax_rh [v1, v2, (M 0 10), (M 0 12)]) M _ Q rfl rfl (And.intro (ax_r) (And.intro (ax_i (by decide) rfl) (And.intro (ax_i (by decide) rfl) (And.intro (ax_o) (And.intro (ax_o) trivial))))) ⟨(ax_e1 (by decide) h0.1 h0.2 (ax_e1 (by decide) h1.1 h1.2 (ax_e1 (by decide) h2.1 h2.2 (ax_e1 (by decide) h3.1 h3.2 ax_e0)))), (ax_f1 (i := 10) (by decide) (by decide) (by show 0 + 10 = 10; omega) (by decide) rfl (ax_f1 (i := 12) (by decide) (by decide) (by show 0 + 12 = 12; omega) (by decide) rfl ax_f0)), ax_c0, ax_m0⟩ G j (fun r M1 g f hq => ?_)
  replace hq := ax_q1 hq
  obtain ⟨-, ρ1, e0, hr, kE, kF, kC, kN⟩ := hq
  have hr : r = vi (ρ1 4) := hr
  have e1 : ρ1 0 = v1 := e0 0 (by decide)
  have e2 : ρ1 1 = v2 := e0 1 (by decide)
  have e3 : ρ1 2 = (M 0 10) := e0 2 (by decide)
  have e4 : ρ1 3 = (M 0 12) := e0 3 (by decide)
  have b0 := kE _ (List.mem_cons_self)
  have b0 : (-1) ≤ ρ1 4 ∧ ρ1 4 ≤ 1023 := b0.2
  rw [hr]
  exact k0 _ _ (by omega) (by omega) g f
theorem u_X11_goes_c62_74 {J : MM → Prop} (S : ai_SP ax_T J ap_X11_goes_c62_74) {sc : List Int} {d : Nat} {M : MM} {Q : Vv → MM → Prop} {v1 v2 : Int} (h0 : (-2147483648) ≤ v1 ∧ v1 ≤ 2147483647) (h1 : (-2147483648) ≤ v2 ∧ v2 ≤ 2147483647) (h2 : 62 ≤ (M 0 10) ∧ (M 0 10) ≤ 62) (h3 : 74 ≤ (M 0 12) ∧ (M 0 12) ≤ 74) (G : ai_GI ax_T M) (j : J M) (k0 : ∀ (r : Int) (M1 : MM), (-1) ≤ r → r ≤ 1023 → ai_GI ax_T M1 → ai_Fr ax_T ap_X11_goes_c62_74.2.2.2.1 M M1 → Q (vi r) M1) : CA FF sc YF (d + 6) m_X11_goes [vr 0, vi v1, vi v2] M Q := by
  refine S sc d (ax_rh [v1, v2, (M 0 10), (M 0 12)]) M _ Q rfl rfl (And.intro (ax_r) (And.intro (ax_i (by decide) rfl) (And.intro (ax_i (by decide) rfl) (And.intro (ax_o) (And.intro (ax_o) trivial))))) ⟨(ax_e1 (by decide) h0.1 h0.2 (ax_e1 (by decide) h1.1 h1.2 (ax_e1 (by decide) h2.1 h2.2 (ax_e1 (by decide) h3.1 h3.2 ax_e0)))), (ax_f1 (i := 10) (by decide) (by decide) (by show 0 + 10 = 10; omega) (by decide) rfl (ax_f1 (i := 12) (by decide) (by decide) (by show 0 + 12 = 12; omega) (by decide) rfl ax_f0)), ax_c0, ax_m0⟩ G j (fun r M1 g f hq => ?_)
  replace hq := ax_q1 hq
  obtain ⟨-, ρ1, e0, hr, kE, kF, kC, kN⟩ := hq
  have hr : r = vi (ρ1 4) := hr
  have e1 : ρ1 0 = v1 := e0 0 (by decide)
  have e2 : ρ1 1 = v2 := e0 1 (by decide)
  have e3 : ρ1 2 = (M 0 10) := e0 2 (by decide)
  have e4 : ρ1 3 = (M 0 12) := e0 3 (by decide)
  have b0 := kE _ (List.mem_cons_self)
  have b0 : (-1) ≤ ρ1 4 ∧ ρ1 4 ≤ 1023 := b0.2
  rw [hr]
  exact k0 _ _ (by omega) (by omega) g f
theorem cx_goes {sc : List Int} {a0 a1 : Int} (i0 : in32 a0) (i1 : in32 a1) {M : MM} (G : axG M) : CA FF sc YF 59 m_X11_goes [vr 0, vi a0, vi a1] M (cxQ M (M 0 14)) := by
  obtain ⟨g, j, W⟩ := G
  rcases id W.1 with ⟨e10, e11⟩ | ⟨e10, e11⟩ <;> rcases id W.2 with ⟨e12, e13⟩ | ⟨e12, e13⟩
  · exact u_X11_goes_c58_66 (d := 59 - 6) (Q := cxQ M (M 0 14)) (ah_X11_goes_c58_66 axH) (v1 := a0) (v2 := a1) (by have := i0; unfold in32 at this; omega) (by have := i1; unfold in32 at this; omega) (by have := rO_0_10 g; omega) (by have := rO_0_12 g; omega) g j (fun r M1 q0 q1 g1 f1 => have z := (cx_fin g1 f1 j W (by decide +kernel)); ⟨⟨r, rfl⟩, z.1, z.2, (ax_frO f1 rfl (by decide +kernel))⟩)
  · exact u_X11_goes_c58_74 (d := 59 - 6) (Q := cxQ M (M 0 14)) (ah_X11_goes_c58_74 axH) (v1 := a0) (v2 := a1) (by have := i0; unfold in32 at this; omega) (by have := i1; unfold in32 at this; omega) (by have := rO_0_10 g; omega) (by have := rO_0_12 g; omega) g j (fun r M1 q0 q1 g1 f1 => have z := (cx_fin g1 f1 j W (by decide +kernel)); ⟨⟨r, rfl⟩, z.1, z.2, (ax_frO f1 rfl (by decide +kernel))⟩)
  · exact u_X11_goes_c62_66 (d := 59 - 6) (Q := cxQ M (M 0 14)) (ah_X11_goes_c62_66 axH) (v1 := a0) (v2 := a1) (by have := i0; unfold in32 at this; omega) (by have := i1; unfold in32 at this; omega) (by have := rO_0_10 g; omega) (by have := rO_0_12 g; omega) g j (fun r M1 q0 q1 g1 f1 => have z := (cx_fin g1 f1 j W (by decide +kernel)); ⟨⟨r, rfl⟩, z.1, z.2, (ax_frO f1 rfl (by decide +kernel))⟩)
  · exact u_X11_goes_c62_74 (d := 59 - 6) (Q := cxQ M (M 0 14)) (ah_X11_goes_c62_74 axH) (v1 := a0) (v2 := a1) (by have := i0; unfold in32 at this; omega) (by have := i1; unfold in32 at this; omega) (by have := rO_0_10 g; omega) (by have := rO_0_12 g; omega) g j (fun r M1 q0 q1 g1 f1 => have z := (cx_fin g1 f1 j W (by decide +kernel)); ⟨⟨r, rfl⟩, z.1, z.2, (ax_frO f1 rfl (by decide +kernel))⟩)
theorem u_X11_odds_c58_66 {J : MM → Prop} (S : ai_SP ax_T J ap_X11_odds_c58_66) {sc : List Int} {d : Nat} {M : MM} {Q : Vv → MM → Prop} {v1 v2 v3 : Int} (h0 : (-2147483648) ≤ v1 ∧ v1 ≤ 2147483647) (h1 : (-2147483648) ≤ v2 ∧ v2 ≤ 2147483647) (h2 : (-2147483648) ≤ v3 ∧ v3 ≤ 2147483647) (h3 : 58 ≤ (M 0 10) ∧ (M 0 10) ≤ 58) (h4 : 66 ≤ (M 0 12) ∧ (M 0 12) ≤ 66) (G : ai_GI ax_T M) (j : J M) (k0 : ∀ (r : Int) (M1 : MM), (-9223372036854775808) ≤ r → r ≤ 9223372036854775807 → ai_GI ax_T M1 → ai_Fr ax_T ap_X11_odds_c58_66.2.2.2.1 M M1 → Q (vl r) M1) : CA FF sc YF (d + 6) m_X11_odds [vr 0, vi v1, vi v2, vi v3] M Q := by
  refine S sc d (ax_rh [v1, v2, v3, (M 0 10), (M 0 12)]) M _ Q rfl rfl (And.intro (ax_r) (And.intro (ax_i (by decide) rfl) (And.intro (ax_i (by decide) rfl) (And.intro (ax_i (by decide) rfl) (And.intro (ax_o) (And.intro (ax_o) (And.intro (ax_o) (And.intro (ax_o) (And.intro (ax_o) (And.intro (ax_o) (And.intro (ax_o) trivial))))))))))) ⟨(ax_e1 (by decide) h0.1 h0.2 (ax_e1 (by decide) h1.1 h1.2 (ax_e1 (by decide) h2.1 h2.2 (ax_e1 (by decide) h3.1 h3.2 (ax_e1 (by decide) h4.1 h4.2 ax_e0))))), (ax_f1 (i := 10) (by decide) (by decide) (by show 0 + 10 = 10; omega) (by decide) rfl (ax_f1 (i := 12) (by decide) (by decide) (by show 0 + 12 = 12; omega) (by decide) rfl ax_f0)), ax_c0, ax_m0⟩ G j (fun r M1 g f hq => ?_)
  replace hq := ax_q1 hq
  obtain ⟨-, ρ1, e0, hr, kE, kF, kC, kN⟩ := hq
  have hr : r = vl (ρ1 5) := hr
  have e1 : ρ1 0 = v1 := e0 0 (by decide)
  have e2 : ρ1 1 = v2 := e0 1 (by decide)
  have e3 : ρ1 2 = v3 := e0 2 (by decide)
  have e4 : ρ1 3 = (M 0 10) := e0 3 (by decide)
  have e5 : ρ1 4 = (M 0 12) := e0 4 (by decide)
  have b0 := kE _ (List.mem_cons_self)
  have b0 : (-9223372036854775808) ≤ ρ1 5 ∧ ρ1 5 ≤ 9223372036854775807 := b0.2
  rw [hr]
  exact k0 _ _ (by omega) (by omega) g f
theorem u_X11_odds_c58_74 {J : MM → Prop} (S : ai_SP ax_T J ap_X11_odds_c58_74) {sc : List Int} {d : Nat} {M : MM} {Q : Vv → MM → Prop} {v1 v2 v3 : Int} (h0 : (-2147483648) ≤ v1 ∧ v1 ≤ 2147483647) (h1 : (-2147483648) ≤ v2 ∧ v2 ≤ 2147483647) (h2 : (-2147483648) ≤ v3 ∧ v3 ≤ 2147483647) (h3 : 58 ≤ (M 0 10) ∧ (M 0 10) ≤ 58) (h4 : 74 ≤ (M 0 12) ∧ (M 0 12) ≤ 74) (G : ai_GI ax_T M) (j : J M) (k0 : ∀ (r : Int) (M1 : MM), (-9223372036854775808) ≤ r → r ≤ 9223372036854775807 → ai_GI ax_T M1 → ai_Fr ax_T ap_X11_odds_c58_74.2.2.2.1 M M1 → Q (vl r) M1) : CA FF sc YF (d + 6) m_X11_odds [vr 0, vi v1, vi v2, vi v3] M Q := by
  refine S sc d (ax_rh [v1, v2, v3, (M 0 10), (M 0 12)]) M _ Q rfl rfl (And.intro (ax_r) (And.intro (ax_i (by decide) rfl) (And.intro (ax_i (by decide) rfl) (And.intro (ax_i (by decide) rfl) (And.intro (ax_o) (And.intro (ax_o) (And.intro (ax_o) (And.intro (ax_o) (And.intro (ax_o) (And.intro (ax_o) (And.intro (ax_o) trivial))))))))))) ⟨(ax_e1 (by decide) h0.1 h0.2 (ax_e1 (by decide) h1.1 h1.2 (ax_e1 (by decide) h2.1 h2.2 (ax_e1 (by decide) h3.1 h3.2 (ax_e1 (by decide) h4.1 h4.2 ax_e0))))), (ax_f1 (i := 10) (by decide) (by decide) (by show 0 + 10 = 10; omega) (by decide) rfl (ax_f1 (i := 12) (by decide) (by decide) (by show 0 + 12 = 12; omega) (by decide) rfl ax_f0)), ax_c0, ax_m0⟩ G j (fun r M1 g f hq => ?_)
  replace hq := ax_q1 hq
  obtain ⟨-, ρ1, e0, hr, kE, kF, kC, kN⟩ := hq
  have hr : r = vl (ρ1 5) := hr
  have e1 : ρ1 0 = v1 := e0 0 (by decide)
  have e2 : ρ1 1 = v2 := e0 1 (by decide)
  have e3 : ρ1 2 = v3 := e0 2 (by decide)
  have e4 : ρ1 3 = (M 0 10) := e0 3 (by decide)
  have e5 : ρ1 4 = (M 0 12) := e0 4 (by decide)
  have b0 := kE _ (List.mem_cons_self)
  have b0 : (-9223372036854775808) ≤ ρ1 5 ∧ ρ1 5 ≤ 9223372036854775807 := b0.2
  rw [hr]
  exact k0 _ _ (by omega) (by omega) g f
theorem u_X11_odds_c62_66 {J : MM → Prop} (S : ai_SP ax_T J ap_X11_odds_c62_66) {sc : List Int} {d : Nat} {M : MM} {Q : Vv → MM → Prop} {v1 v2 v3 : Int} (h0 : (-2147483648) ≤ v1 ∧ v1 ≤ 2147483647) (h1 : (-2147483648) ≤ v2 ∧ v2 ≤ 2147483647) (h2 : (-2147483648) ≤ v3 ∧ v3 ≤ 2147483647) (h3 : 62 ≤ (M 0 10) ∧ (M 0 10) ≤ 62) (h4 : 66 ≤ (M 0 12) ∧ (M 0 12) ≤ 66) (G : ai_GI ax_T M) (j : J M) (k0 : ∀ (r : Int) (M1 : MM), (-9223372036854775808) ≤ r → r ≤ 9223372036854775807 → ai_GI ax_T M1 → ai_Fr ax_T ap_X11_odds_c62_66.2.2.2.1 M M1 → Q (vl r) M1) : CA FF sc YF (d + 6) m_X11_odds [vr 0, vi v1, vi v2, vi v3] M Q := by
  refine S sc d (ax_rh [v1, v2, v3, (M 0 10), (M 0 12)]) M _ Q rfl rfl (And.intro (ax_r) (And.intro (ax_i (by decide) rfl) (And.intro (ax_i (by decide) rfl) (And.intro (ax_i (by decide) rfl) (And.intro (ax_o) (And.intro (ax_o) (And.intro (ax_o) (And.intro (ax_o) (And.intro (ax_o) (And.intro (ax_o) (And.intro (ax_o) trivial))))))))))) ⟨(ax_e1 (by decide) h0.1 h0.2 (ax_e1 (by decide) h1.1 h1.2 (ax_e1 (by decide) h2.1 h2.2 (ax_e1 (by decide) h3.1 h3.2 (ax_e1 (by decide) h4.1 h4.2 ax_e0))))), (ax_f1 (i := 10) (by decide) (by decide) (by show 0 + 10 = 10; omega) (by decide) rfl (ax_f1 (i := 12) (by decide) (by decide) (by show 0 + 12 = 12; omega) (by decide) rfl ax_f0)), ax_c0, ax_m0⟩ G j (fun r M1 g f hq => ?_)
  replace hq := ax_q1 hq
  obtain ⟨-, ρ1, e0, hr, kE, kF, kC, kN⟩ := hq
  have hr : r = vl (ρ1 5) := hr
  have e1 : ρ1 0 = v1 := e0 0 (by decide)
  have e2 : ρ1 1 = v2 := e0 1 (by decide)
  have e3 : ρ1 2 = v3 := e0 2 (by decide)
  have e4 : ρ1 3 = (M 0 10) := e0 3 (by decide)
  have e5 : ρ1 4 = (M 0 12) := e0 4 (by decide)
  have b0 := kE _ (List.mem_cons_self)
  have b0 : (-9223372036854775808) ≤ ρ1 5 ∧ ρ1 5 ≤ 9223372036854775807 := b0.2
  rw [hr]
  exact k0 _ _ (by omega) (by omega) g f
theorem u_X11_odds_c62_74 {J : MM → Prop} (S : ai_SP ax_T J ap_X11_odds_c62_74) {sc : List Int} {d : Nat} {M : MM} {Q : Vv → MM → Prop} {v1 v2 v3 : Int} (h0 : (-2147483648) ≤ v1 ∧ v1 ≤ 2147483647) (h1 : (-2147483648) ≤ v2 ∧ v2 ≤ 2147483647) (h2 : (-2147483648) ≤ v3 ∧ v3 ≤ 2147483647) (h3 : 62 ≤ (M 0 10) ∧ (M 0 10) ≤ 62) (h4 : 74 ≤ (M 0 12) ∧ (M 0 12) ≤ 74) (G : ai_GI ax_T M) (j : J M) (k0 : ∀ (r : Int) (M1 : MM), (-9223372036854775808) ≤ r → r ≤ 9223372036854775807 → ai_GI ax_T M1 → ai_Fr ax_T ap_X11_odds_c62_74.2.2.2.1 M M1 → Q (vl r) M1) : CA FF sc YF (d + 6) m_X11_odds [vr 0, vi v1, vi v2, vi v3] M Q := by
  refine S sc d (ax_rh [v1, v2, v3, (M 0 10), (M 0 12)]) M _ Q rfl rfl (And.intro (ax_r) (And.intro (ax_i (by decide) rfl) (And.intro (ax_i (by decide) rfl) (And.intro (ax_i (by decide) rfl) (And.intro (ax_o) (And.intro (ax_o) (And.intro (ax_o) (And.intro (ax_o) (And.intro (ax_o) (And.intro (ax_o) (And.intro (ax_o) trivial))))))))))) ⟨(ax_e1 (by decide) h0.1 h0.2 (ax_e1 (by decide) h1.1 h1.2 (ax_e1 (by decide) h2.1 h2.2 (ax_e1 (by decide) h3.1 h3.2 (ax_e1 (by decide) h4.1 h4.2 ax_e0))))), (ax_f1 (i := 10) (by decide) (by decide) (by show 0 + 10 = 10; omega) (by decide) rfl (ax_f1 (i := 12) (by decide) (by decide) (by show 0 + 12 = 12; omega) (by decide) rfl ax_f0)), ax_c0, ax_m0⟩ G j (fun r M1 g f hq => ?_)
  replace hq := ax_q1 hq
  obtain ⟨-, ρ1, e0, hr, kE, kF, kC, kN⟩ := hq
  have hr : r = vl (ρ1 5) := hr
  have e1 : ρ1 0 = v1 := e0 0 (by decide)
  have e2 : ρ1 1 = v2 := e0 1 (by decide)
  have e3 : ρ1 2 = v3 := e0 2 (by decide)
  have e4 : ρ1 3 = (M 0 10) := e0 3 (by decide)
  have e5 : ρ1 4 = (M 0 12) := e0 4 (by decide)
  have b0 := kE _ (List.mem_cons_self)
  have b0 : (-9223372036854775808) ≤ ρ1 5 ∧ ρ1 5 ≤ 9223372036854775807 := b0.2
  rw [hr]
  exact k0 _ _ (by omega) (by omega) g f
theorem cx_odds {sc : List Int} {a0 a1 a2 : Int} (i0 : in32 a0) (i1 : in32 a1) (i2 : in32 a2) {M : MM} (G : axG M) : CA FF sc YF 59 m_X11_odds [vr 0, vi a0, vi a1, vi a2] M (cxL M (M 0 14)) := by
  obtain ⟨g, j, W⟩ := G
  rcases id W.1 with ⟨e10, e11⟩ | ⟨e10, e11⟩ <;> rcases id W.2 with ⟨e12, e13⟩ | ⟨e12, e13⟩
  · exact u_X11_odds_c58_66 (d := 59 - 6) (Q := cxL M (M 0 14)) (ah_X11_odds_c58_66 axH) (v1 := a0) (v2 := a1) (v3 := a2) (by have := i0; unfold in32 at this; omega) (by have := i1; unfold in32 at this; omega) (by have := i2; unfold in32 at this; omega) (by have := rO_0_10 g; omega) (by have := rO_0_12 g; omega) g j (fun r M1 q0 q1 g1 f1 => have z := (cx_fin g1 f1 j W (by decide +kernel)); ⟨⟨r, rfl⟩, z.1, z.2, (ax_frO f1 rfl (by decide +kernel))⟩)
  · exact u_X11_odds_c58_74 (d := 59 - 6) (Q := cxL M (M 0 14)) (ah_X11_odds_c58_74 axH) (v1 := a0) (v2 := a1) (v3 := a2) (by have := i0; unfold in32 at this; omega) (by have := i1; unfold in32 at this; omega) (by have := i2; unfold in32 at this; omega) (by have := rO_0_10 g; omega) (by have := rO_0_12 g; omega) g j (fun r M1 q0 q1 g1 f1 => have z := (cx_fin g1 f1 j W (by decide +kernel)); ⟨⟨r, rfl⟩, z.1, z.2, (ax_frO f1 rfl (by decide +kernel))⟩)
  · exact u_X11_odds_c62_66 (d := 59 - 6) (Q := cxL M (M 0 14)) (ah_X11_odds_c62_66 axH) (v1 := a0) (v2 := a1) (v3 := a2) (by have := i0; unfold in32 at this; omega) (by have := i1; unfold in32 at this; omega) (by have := i2; unfold in32 at this; omega) (by have := rO_0_10 g; omega) (by have := rO_0_12 g; omega) g j (fun r M1 q0 q1 g1 f1 => have z := (cx_fin g1 f1 j W (by decide +kernel)); ⟨⟨r, rfl⟩, z.1, z.2, (ax_frO f1 rfl (by decide +kernel))⟩)
  · exact u_X11_odds_c62_74 (d := 59 - 6) (Q := cxL M (M 0 14)) (ah_X11_odds_c62_74 axH) (v1 := a0) (v2 := a1) (v3 := a2) (by have := i0; unfold in32 at this; omega) (by have := i1; unfold in32 at this; omega) (by have := i2; unfold in32 at this; omega) (by have := rO_0_10 g; omega) (by have := rO_0_12 g; omega) g j (fun r M1 q0 q1 g1 f1 => have z := (cx_fin g1 f1 j W (by decide +kernel)); ⟨⟨r, rfl⟩, z.1, z.2, (ax_frO f1 rfl (by decide +kernel))⟩)
theorem u_X11_watered_c58_66 {J : MM → Prop} (S : ai_SP ax_T J ap_X11_watered_c58_66) {sc : List Int} {d : Nat} {M : MM} {Q : Vv → MM → Prop} {v1 : Int} (h0 : (-2147483648) ≤ v1 ∧ v1 ≤ 2147483647) (h1 : 58 ≤ (M 0 10) ∧ (M 0 10) ≤ 58) (h2 : 66 ≤ (M 0 12) ∧ (M 0 12) ≤ 66) (G : ai_GI ax_T M) (j : J M) (k0 : ∀ (r : Int) (M1 : MM), (-2) ≤ r → r ≤ 9 → ai_GI ax_T M1 → ai_Fr ax_T ap_X11_watered_c58_66.2.2.2.1 M M1 → Q (vi r) M1) : CA FF sc YF (d + 7) m_X11_watered [vr 0, vi v1] M Q := by
  refine S sc d (ax_rh [v1, (M 0 10), (M 0 12)]) M _ Q rfl rfl (And.intro (ax_r) (And.intro (ax_i (by decide) rfl) (And.intro (ax_o) (And.intro (ax_o) (And.intro (ax_o) (And.intro (ax_o) (And.intro (ax_o) (And.intro (ax_o) (And.intro (ax_o) trivial))))))))) ⟨(ax_e1 (by decide) h0.1 h0.2 (ax_e1 (by decide) h1.1 h1.2 (ax_e1 (by decide) h2.1 h2.2 ax_e0))), (ax_f1 (i := 10) (by decide) (by decide) (by show 0 + 10 = 10; omega) (by decide) rfl (ax_f1 (i := 12) (by decide) (by decide) (by show 0 + 12 = 12; omega) (by decide) rfl ax_f0)), ax_c0, ax_m0⟩ G j (fun r M1 g f hq => ?_)
  replace hq := ax_q1 hq
  obtain ⟨-, ρ1, e0, hr, kE, kF, kC, kN⟩ := hq
  have hr : r = vi (ρ1 3) := hr
  have e1 : ρ1 0 = v1 := e0 0 (by decide)
  have e2 : ρ1 1 = (M 0 10) := e0 1 (by decide)
  have e3 : ρ1 2 = (M 0 12) := e0 2 (by decide)
  have b0 := kE _ (List.mem_cons_self)
  have b0 : (-2) ≤ ρ1 3 ∧ ρ1 3 ≤ 9 := b0.2
  rw [hr]
  exact k0 _ _ (by omega) (by omega) g f
theorem u_X11_watered_c58_74 {J : MM → Prop} (S : ai_SP ax_T J ap_X11_watered_c58_74) {sc : List Int} {d : Nat} {M : MM} {Q : Vv → MM → Prop} {v1 : Int} (h0 : (-2147483648) ≤ v1 ∧ v1 ≤ 2147483647) (h1 : 58 ≤ (M 0 10) ∧ (M 0 10) ≤ 58) (h2 : 74 ≤ (M 0 12) ∧ (M 0 12) ≤ 74) (G : ai_GI ax_T M) (j : J M) (k0 : ∀ (r : Int) (M1 : MM), (-2) ≤ r → r ≤ 9 → ai_GI ax_T M1 → ai_Fr ax_T ap_X11_watered_c58_74.2.2.2.1 M M1 → Q (vi r) M1) : CA FF sc YF (d + 7) m_X11_watered [vr 0, vi v1] M Q := by
  refine S sc d (ax_rh [v1, (M 0 10), (M 0 12)]) M _ Q rfl rfl (And.intro (ax_r) (And.intro (ax_i (by decide) rfl) (And.intro (ax_o) (And.intro (ax_o) (And.intro (ax_o) (And.intro (ax_o) (And.intro (ax_o) (And.intro (ax_o) (And.intro (ax_o) trivial))))))))) ⟨(ax_e1 (by decide) h0.1 h0.2 (ax_e1 (by decide) h1.1 h1.2 (ax_e1 (by decide) h2.1 h2.2 ax_e0))), (ax_f1 (i := 10) (by decide) (by decide) (by show 0 + 10 = 10; omega) (by decide) rfl (ax_f1 (i := 12) (by decide) (by decide) (by show 0 + 12 = 12; omega) (by decide) rfl ax_f0)), ax_c0, ax_m0⟩ G j (fun r M1 g f hq => ?_)
  replace hq := ax_q1 hq
  obtain ⟨-, ρ1, e0, hr, kE, kF, kC, kN⟩ := hq
  have hr : r = vi (ρ1 3) := hr
  have e1 : ρ1 0 = v1 := e0 0 (by decide)
  have e2 : ρ1 1 = (M 0 10) := e0 1 (by decide)
  have e3 : ρ1 2 = (M 0 12) := e0 2 (by decide)
  have b0 := kE _ (List.mem_cons_self)
  have b0 : (-2) ≤ ρ1 3 ∧ ρ1 3 ≤ 9 := b0.2
  rw [hr]
  exact k0 _ _ (by omega) (by omega) g f
theorem u_X11_watered_c62_66 {J : MM → Prop} (S : ai_SP ax_T J ap_X11_watered_c62_66) {sc : List Int} {d : Nat} {M : MM} {Q : Vv → MM → Prop} {v1 : Int} (h0 : (-2147483648) ≤ v1 ∧ v1 ≤ 2147483647) (h1 : 62 ≤ (M 0 10) ∧ (M 0 10) ≤ 62) (h2 : 66 ≤ (M 0 12) ∧ (M 0 12) ≤ 66) (G : ai_GI ax_T M) (j : J M) (k0 : ∀ (r : Int) (M1 : MM), (-2) ≤ r → r ≤ 9 → ai_GI ax_T M1 → ai_Fr ax_T ap_X11_watered_c62_66.2.2.2.1 M M1 → Q (vi r) M1) : CA FF sc YF (d + 7) m_X11_watered [vr 0, vi v1] M Q := by
  refine S sc d (ax_rh [v1, (M 0 10), (M 0 12)]) M _ Q rfl rfl (And.intro (ax_r) (And.intro (ax_i (by decide) rfl) (And.intro (ax_o) (And.intro (ax_o) (And.intro (ax_o) (And.intro (ax_o) (And.intro (ax_o) (And.intro (ax_o) (And.intro (ax_o) trivial))))))))) ⟨(ax_e1 (by decide) h0.1 h0.2 (ax_e1 (by decide) h1.1 h1.2 (ax_e1 (by decide) h2.1 h2.2 ax_e0))), (ax_f1 (i := 10) (by decide) (by decide) (by show 0 + 10 = 10; omega) (by decide) rfl (ax_f1 (i := 12) (by decide) (by decide) (by show 0 + 12 = 12; omega) (by decide) rfl ax_f0)), ax_c0, ax_m0⟩ G j (fun r M1 g f hq => ?_)
  replace hq := ax_q1 hq
  obtain ⟨-, ρ1, e0, hr, kE, kF, kC, kN⟩ := hq
  have hr : r = vi (ρ1 3) := hr
  have e1 : ρ1 0 = v1 := e0 0 (by decide)
  have e2 : ρ1 1 = (M 0 10) := e0 1 (by decide)
  have e3 : ρ1 2 = (M 0 12) := e0 2 (by decide)
  have b0 := kE _ (List.mem_cons_self)
  have b0 : (-2) ≤ ρ1 3 ∧ ρ1 3 ≤ 9 := b0.2
  rw [hr]
  exact k0 _ _ (by omega) (by omega) g f
theorem u_X11_watered_c62_74 {J : MM → Prop} (S : ai_SP ax_T J ap_X11_watered_c62_74) {sc : List Int} {d : Nat} {M : MM} {Q : Vv → MM → Prop} {v1 : Int} (h0 : (-2147483648) ≤ v1 ∧ v1 ≤ 2147483647) (h1 : 62 ≤ (M 0 10) ∧ (M 0 10) ≤ 62) (h2 : 74 ≤ (M 0 12) ∧ (M 0 12) ≤ 74) (G : ai_GI ax_T M) (j : J M) (k0 : ∀ (r : Int) (M1 : MM), (-2) ≤ r → r ≤ 9 → ai_GI ax_T M1 → ai_Fr ax_T ap_X11_watered_c62_74.2.2.2.1 M M1 → Q (vi r) M1) : CA FF sc YF (d + 7) m_X11_watered [vr 0, vi v1] M Q := by
  refine S sc d (ax_rh [v1, (M 0 10), (M 0 12)]) M _ Q rfl rfl (And.intro (ax_r) (And.intro (ax_i (by decide) rfl) (And.intro (ax_o) (And.intro (ax_o) (And.intro (ax_o) (And.intro (ax_o) (And.intro (ax_o) (And.intro (ax_o) (And.intro (ax_o) trivial))))))))) ⟨(ax_e1 (by decide) h0.1 h0.2 (ax_e1 (by decide) h1.1 h1.2 (ax_e1 (by decide) h2.1 h2.2 ax_e0))), (ax_f1 (i := 10) (by decide) (by decide) (by show 0 + 10 = 10; omega) (by decide) rfl (ax_f1 (i := 12) (by decide) (by decide) (by show 0 + 12 = 12; omega) (by decide) rfl ax_f0)), ax_c0, ax_m0⟩ G j (fun r M1 g f hq => ?_)
  replace hq := ax_q1 hq
  obtain ⟨-, ρ1, e0, hr, kE, kF, kC, kN⟩ := hq
  have hr : r = vi (ρ1 3) := hr
  have e1 : ρ1 0 = v1 := e0 0 (by decide)
  have e2 : ρ1 1 = (M 0 10) := e0 1 (by decide)
  have e3 : ρ1 2 = (M 0 12) := e0 2 (by decide)
  have b0 := kE _ (List.mem_cons_self)
  have b0 : (-2) ≤ ρ1 3 ∧ ρ1 3 ≤ 9 := b0.2
  rw [hr]
  exact k0 _ _ (by omega) (by omega) g f
theorem cx_watered {sc : List Int} {a0 : Int} (i0 : in32 a0) {M : MM} (G : axG M) : CA FF sc YF 59 m_X11_watered [vr 0, vi a0] M (cxQ M (M 0 14)) := by
  obtain ⟨g, j, W⟩ := G
  rcases id W.1 with ⟨e10, e11⟩ | ⟨e10, e11⟩ <;> rcases id W.2 with ⟨e12, e13⟩ | ⟨e12, e13⟩
  · exact u_X11_watered_c58_66 (d := 59 - 7) (Q := cxQ M (M 0 14)) (ah_X11_watered_c58_66 axH) (v1 := a0) (by have := i0; unfold in32 at this; omega) (by have := rO_0_10 g; omega) (by have := rO_0_12 g; omega) g j (fun r M1 q0 q1 g1 f1 => have z := (cx_fin g1 f1 j W (by decide +kernel)); ⟨⟨r, rfl⟩, z.1, z.2, (ax_frO f1 rfl (by decide +kernel))⟩)
  · exact u_X11_watered_c58_74 (d := 59 - 7) (Q := cxQ M (M 0 14)) (ah_X11_watered_c58_74 axH) (v1 := a0) (by have := i0; unfold in32 at this; omega) (by have := rO_0_10 g; omega) (by have := rO_0_12 g; omega) g j (fun r M1 q0 q1 g1 f1 => have z := (cx_fin g1 f1 j W (by decide +kernel)); ⟨⟨r, rfl⟩, z.1, z.2, (ax_frO f1 rfl (by decide +kernel))⟩)
  · exact u_X11_watered_c62_66 (d := 59 - 7) (Q := cxQ M (M 0 14)) (ah_X11_watered_c62_66 axH) (v1 := a0) (by have := i0; unfold in32 at this; omega) (by have := rO_0_10 g; omega) (by have := rO_0_12 g; omega) g j (fun r M1 q0 q1 g1 f1 => have z := (cx_fin g1 f1 j W (by decide +kernel)); ⟨⟨r, rfl⟩, z.1, z.2, (ax_frO f1 rfl (by decide +kernel))⟩)
  · exact u_X11_watered_c62_74 (d := 59 - 7) (Q := cxQ M (M 0 14)) (ah_X11_watered_c62_74 axH) (v1 := a0) (by have := i0; unfold in32 at this; omega) (by have := rO_0_10 g; omega) (by have := rO_0_12 g; omega) g j (fun r M1 q0 q1 g1 f1 => have z := (cx_fin g1 f1 j W (by decide +kernel)); ⟨⟨r, rfl⟩, z.1, z.2, (ax_frO f1 rfl (by decide +kernel))⟩)
theorem u_X11_tax {J : MM → Prop} (S : ai_SP ax_T J ap_X11_tax) {sc : List Int} {d : Nat} {M : MM} {Q : Vv → MM → Prop} {v1 : Int} (h0 : (-2147483648) ≤ v1 ∧ v1 ≤ 2147483647) (h1 : 0 ≤ (M 1 1) ∧ (M 1 1) ≤ 260) (G : ai_GI ax_T M) (j : J M) (k0 : ∀ (r : Int) (M1 : MM), (-2147483648) ≤ r → r ≤ 2147483647 → 0 ≤ (M1 1 1) → (M1 1 1) ≤ 0 → 0 ≤ v1 → 0 ≤ 0 - v1 + 9 → 0 ≤ (M 1 1) - 10 → 0 ≤ (M1 1 1) → 0 ≤ 0 - (M1 1 1) → ai_GI ax_T M1 → ai_Fr ax_T ap_X11_tax.2.2.2.1 M M1 → Q (vi r) M1) (k1 : ∀ (r : Int) (M1 : MM), (-1) ≤ r → r ≤ (-1) → 0 ≤ (M1 1 1) → (M1 1 1) ≤ 260 → 0 ≤ 0 - v1 - 1 → 0 ≤ 0 - (M 1 1) + (M1 1 1) → 0 ≤ (M 1 1) - (M1 1 1) → ai_GI ax_T M1 → ai_Fr ax_T ap_X11_tax.2.2.2.1 M M1 → Q (vi r) M1) (k2 : ∀ (r : Int) (M1 : MM), (-1) ≤ r → r ≤ (-1) → 0 ≤ (M1 1 1) → (M1 1 1) ≤ 260 → 0 ≤ v1 - 10 → 0 ≤ 0 - (M 1 1) + (M1 1 1) → 0 ≤ (M 1 1) - (M1 1 1) → ai_GI ax_T M1 → ai_Fr ax_T ap_X11_tax.2.2.2.1 M M1 → Q (vi r) M1) (k3 : ∀ (r : Int) (M1 : MM), (-1) ≤ r → r ≤ (-1) → 0 ≤ (M1 1 1) → (M1 1 1) ≤ 9 → 0 ≤ 0 - (M 1 1) + 9 → 0 ≤ 0 - (M 1 1) + (M1 1 1) → 0 ≤ (M 1 1) - (M1 1 1) → ai_GI ax_T M1 → ai_Fr ax_T ap_X11_tax.2.2.2.1 M M1 → Q (vi r) M1) : CA FF sc YF (d + 3) m_X11_tax [vr 0, vi v1] M Q := by
  refine S sc d (ax_rh [v1, (M 1 1)]) M _ Q rfl rfl (And.intro (ax_r) (And.intro (ax_i (by decide) rfl) (And.intro (ax_o) trivial))) ⟨(ax_e1 (by decide) h0.1 h0.2 (ax_e1 (by decide) h1.1 h1.2 ax_e0)), (ax_f1 (i := 1) (by decide) (by decide) (by show 0 + 1 = 1; omega) (by decide) rfl ax_f0), ax_c0, ax_m0⟩ G j (fun r M1 g f hq => ?_)
  rcases ax_q2 hq with hq | hq
  · obtain ⟨-, ρ1, e0, hr, kE, kF, kC, kN⟩ := hq
    have hr : r = vi (ρ1 2) := hr
    have e1 : ρ1 0 = v1 := e0 0 (by decide)
    have e2 : ρ1 1 = (M 1 1) := e0 1 (by decide)
    have b0 := kE _ (List.mem_cons_self)
    have b0 : (-2147483648) ≤ ρ1 2 ∧ ρ1 2 ≤ 2147483647 := b0.2
    have b1 := kE _ (List.mem_cons_of_mem _ List.mem_cons_self)
    have b1 : 0 ≤ ρ1 3 ∧ ρ1 3 ≤ 0 := b1.2
    have f0 := (kF _ List.mem_cons_self).2.2.2
    have f0 : M1 1 ((0 + 1 : Int)).toNat = (1 * ρ1 3 + 0) + 0 := f0
    have g0 : ((0 + 1 : Int)) = 1 := by omega
    rw [g0] at f0
    have f0 : (M1 1 1) = ρ1 3 := by have f : (M1 1 1) = (1 * ρ1 3 + 0) + 0 := f0; omega
    have c0 : 0 ≤ (1 * ρ1 0 + 0) + 0 := (kC _ List.mem_cons_self).2
    have c1 : 0 ≤ ((-1) * ρ1 0 + 0) + 9 := (kC _ (List.mem_cons_of_mem _ List.mem_cons_self)).2
    have c2 : 0 ≤ (1 * ρ1 1 + 0) + (-10) := (kC _ (List.mem_cons_of_mem _ (List.mem_cons_of_mem _ List.mem_cons_self))).2
    have c3 : 0 ≤ (1 * ρ1 3 + 0) + 0 := (kC _ (List.mem_cons_of_mem _ (List.mem_cons_of_mem _ (List.mem_cons_of_mem _ List.mem_cons_self)))).2
    have c4 : 0 ≤ ((-1) * ρ1 3 + 0) + 0 := (kC _ (List.mem_cons_of_mem _ (List.mem_cons_of_mem _ (List.mem_cons_of_mem _ (List.mem_cons_of_mem _ List.mem_cons_self))))).2
    rw [hr]
    exact k0 _ _ (by omega) (by omega) (by omega) (by omega) (by omega) (by omega) (by omega) (by omega) (by omega) g f
  · rcases ax_q2 hq with hq | hq
    · obtain ⟨-, ρ1, e0, hr, kE, kF, kC, kN⟩ := hq
      have hr : r = vi (ρ1 2) := hr
      have e1 : ρ1 0 = v1 := e0 0 (by decide)
      have e2 : ρ1 1 = (M 1 1) := e0 1 (by decide)
      have b0 := kE _ (List.mem_cons_self)
      have b0 : (-1) ≤ ρ1 2 ∧ ρ1 2 ≤ (-1) := b0.2
      have b1 := kE _ (List.mem_cons_of_mem _ List.mem_cons_self)
      have b1 : 0 ≤ ρ1 3 ∧ ρ1 3 ≤ 260 := b1.2
      have f0 := (kF _ List.mem_cons_self).2.2.2
      have f0 : M1 1 ((0 + 1 : Int)).toNat = (1 * ρ1 3 + 0) + 0 := f0
      have g0 : ((0 + 1 : Int)) = 1 := by omega
      rw [g0] at f0
      have f0 : (M1 1 1) = ρ1 3 := by have f : (M1 1 1) = (1 * ρ1 3 + 0) + 0 := f0; omega
      have c0 : 0 ≤ ((-1) * ρ1 0 + 0) + (-1) := (kC _ List.mem_cons_self).2
      have c1 : 0 ≤ ((-1) * ρ1 1 + (1 * ρ1 3 + 0)) + 0 := (kC _ (List.mem_cons_of_mem _ List.mem_cons_self)).2
      have c2 : 0 ≤ (1 * ρ1 1 + ((-1) * ρ1 3 + 0)) + 0 := (kC _ (List.mem_cons_of_mem _ (List.mem_cons_of_mem _ List.mem_cons_self))).2
      rw [hr]
      exact k1 _ _ (by omega) (by omega) (by omega) (by omega) (by omega) (by omega) (by omega) g f
    · rcases ax_q2 hq with hq | hq
      · obtain ⟨-, ρ1, e0, hr, kE, kF, kC, kN⟩ := hq
        have hr : r = vi (ρ1 2) := hr
        have e1 : ρ1 0 = v1 := e0 0 (by decide)
        have e2 : ρ1 1 = (M 1 1) := e0 1 (by decide)
        have b0 := kE _ (List.mem_cons_self)
        have b0 : (-1) ≤ ρ1 2 ∧ ρ1 2 ≤ (-1) := b0.2
        have b1 := kE _ (List.mem_cons_of_mem _ List.mem_cons_self)
        have b1 : 0 ≤ ρ1 3 ∧ ρ1 3 ≤ 260 := b1.2
        have f0 := (kF _ List.mem_cons_self).2.2.2
        have f0 : M1 1 ((0 + 1 : Int)).toNat = (1 * ρ1 3 + 0) + 0 := f0
        have g0 : ((0 + 1 : Int)) = 1 := by omega
        rw [g0] at f0
        have f0 : (M1 1 1) = ρ1 3 := by have f : (M1 1 1) = (1 * ρ1 3 + 0) + 0 := f0; omega
        have c0 : 0 ≤ (1 * ρ1 0 + 0) + (-10) := (kC _ List.mem_cons_self).2
        have c1 : 0 ≤ ((-1) * ρ1 1 + (1 * ρ1 3 + 0)) + 0 := (kC _ (List.mem_cons_of_mem _ List.mem_cons_self)).2
        have c2 : 0 ≤ (1 * ρ1 1 + ((-1) * ρ1 3 + 0)) + 0 := (kC _ (List.mem_cons_of_mem _ (List.mem_cons_of_mem _ List.mem_cons_self))).2
        rw [hr]
        exact k2 _ _ (by omega) (by omega) (by omega) (by omega) (by omega) (by omega) (by omega) g f
      · replace hq := ax_q1 hq
        obtain ⟨-, ρ1, e0, hr, kE, kF, kC, kN⟩ := hq
        have hr : r = vi (ρ1 2) := hr
        have e1 : ρ1 0 = v1 := e0 0 (by decide)
        have e2 : ρ1 1 = (M 1 1) := e0 1 (by decide)
        have b0 := kE _ (List.mem_cons_self)
        have b0 : (-1) ≤ ρ1 2 ∧ ρ1 2 ≤ (-1) := b0.2
        have b1 := kE _ (List.mem_cons_of_mem _ List.mem_cons_self)
        have b1 : 0 ≤ ρ1 3 ∧ ρ1 3 ≤ 9 := b1.2
        have f0 := (kF _ List.mem_cons_self).2.2.2
        have f0 : M1 1 ((0 + 1 : Int)).toNat = (1 * ρ1 3 + 0) + 0 := f0
        have g0 : ((0 + 1 : Int)) = 1 := by omega
        rw [g0] at f0
        have f0 : (M1 1 1) = ρ1 3 := by have f : (M1 1 1) = (1 * ρ1 3 + 0) + 0 := f0; omega
        have c0 : 0 ≤ ((-1) * ρ1 1 + 0) + 9 := (kC _ List.mem_cons_self).2
        have c1 : 0 ≤ ((-1) * ρ1 1 + (1 * ρ1 3 + 0)) + 0 := (kC _ (List.mem_cons_of_mem _ List.mem_cons_self)).2
        have c2 : 0 ≤ (1 * ρ1 1 + ((-1) * ρ1 3 + 0)) + 0 := (kC _ (List.mem_cons_of_mem _ (List.mem_cons_of_mem _ List.mem_cons_self))).2
        rw [hr]
        exact k3 _ _ (by omega) (by omega) (by omega) (by omega) (by omega) (by omega) (by omega) g f
theorem cx_tax {sc : List Int} {a0 : Int} (i0 : in32 a0) {M : MM} (G : axG M) : CA FF sc YF 59 m_X11_tax [vr 0, vi a0] M (cxQ M (M 0 14)) := by
  obtain ⟨g, j, W⟩ := G
  exact u_X11_tax (d := 59 - 3) (Q := cxQ M (M 0 14)) (ah_X11_tax axH) (v1 := a0) (by have := i0; unfold in32 at this; omega) (by have := rO_1_1 g; omega) g j (fun r M1 q0 q1 q2 q3 q4 q5 q6 q7 q8 g1 f1 => have z := (cx_fin g1 f1 j W (by decide +kernel)); ⟨⟨r, rfl⟩, z.1, z.2, (ax_frO f1 rfl (by decide +kernel))⟩) (fun r M1 q0 q1 q2 q3 q4 q5 q6 g1 f1 => have z := (cx_fin g1 f1 j W (by decide +kernel)); ⟨⟨r, rfl⟩, z.1, z.2, (ax_frO f1 rfl (by decide +kernel))⟩) (fun r M1 q0 q1 q2 q3 q4 q5 q6 g1 f1 => have z := (cx_fin g1 f1 j W (by decide +kernel)); ⟨⟨r, rfl⟩, z.1, z.2, (ax_frO f1 rfl (by decide +kernel))⟩) (fun r M1 q0 q1 q2 q3 q4 q5 q6 g1 f1 => have z := (cx_fin g1 f1 j W (by decide +kernel)); ⟨⟨r, rfl⟩, z.1, z.2, (ax_frO f1 rfl (by decide +kernel))⟩)
theorem u_X11_hand {J : MM → Prop} (S : ai_SP ax_T J ap_X11_hand) {sc : List Int} {d : Nat} {M : MM} {Q : Vv → MM → Prop} {v1 v2 : Int} (h0 : (-2147483648) ≤ v1 ∧ v1 ≤ 2147483647) (h1 : (-2147483648) ≤ v2 ∧ v2 ≤ 2147483647) (G : ai_GI ax_T M) (j : J M) (k0 : ∀ (r : Int) (M1 : MM), 1 ≤ r → r ≤ 1 → 0 ≤ v1 → 0 ≤ 0 - v1 + 9 → 0 ≤ v2 → 0 ≤ 0 - v2 + 255 → ai_GI ax_T M1 → ai_Fr ax_T ap_X11_hand.2.2.2.1 M M1 → Q (vi r) M1) (k1 : ∀ (r : Int) (M1 : MM), 0 ≤ r → r ≤ 0 → 0 ≤ 0 - v1 - 1 → ai_GI ax_T M1 → ai_Fr ax_T ap_X11_hand.2.2.2.1 M M1 → Q (vi r) M1) (k2 : ∀ (r : Int) (M1 : MM), 0 ≤ r → r ≤ 0 → 0 ≤ v1 - 10 → ai_GI ax_T M1 → ai_Fr ax_T ap_X11_hand.2.2.2.1 M M1 → Q (vi r) M1) (k3 : ∀ (r : Int) (M1 : MM), 0 ≤ r → r ≤ 0 → 0 ≤ 0 - v2 - 1 → ai_GI ax_T M1 → ai_Fr ax_T ap_X11_hand.2.2.2.1 M M1 → Q (vi r) M1) (k4 : ∀ (r : Int) (M1 : MM), 0 ≤ r → r ≤ 0 → 0 ≤ v2 - 256 → ai_GI ax_T M1 → ai_Fr ax_T ap_X11_hand.2.2.2.1 M M1 → Q (vi r) M1) : CA FF sc YF (d + 3) m_X11_hand [vr 0, vi v1, vi v2] M Q := by
  refine S sc d (ax_rh [v1, v2]) M _ Q rfl rfl (And.intro (ax_r) (And.intro (ax_i (by decide) rfl) (And.intro (ax_i (by decide) rfl) trivial))) ⟨(ax_e1 (by decide) h0.1 h0.2 (ax_e1 (by decide) h1.1 h1.2 ax_e0)), ax_f0, ax_c0, ax_m0⟩ G j (fun r M1 g f hq => ?_)
  rcases ax_q2 hq with hq | hq
  · obtain ⟨-, ρ1, e0, hr, kE, kF, kC, kN⟩ := hq
    have hr : r = vi (ρ1 2) := hr
    have e1 : ρ1 0 = v1 := e0 0 (by decide)
    have e2 : ρ1 1 = v2 := e0 1 (by decide)
    have b0 := kE _ (List.mem_cons_self)
    have b0 : 1 ≤ ρ1 2 ∧ ρ1 2 ≤ 1 := b0.2
    have c0 : 0 ≤ (1 * ρ1 0 + 0) + 0 := (kC _ List.mem_cons_self).2
    have c1 : 0 ≤ ((-1) * ρ1 0 + 0) + 9 := (kC _ (List.mem_cons_of_mem _ List.mem_cons_self)).2
    have c2 : 0 ≤ (1 * ρ1 1 + 0) + 0 := (kC _ (List.mem_cons_of_mem _ (List.mem_cons_of_mem _ List.mem_cons_self))).2
    have c3 : 0 ≤ ((-1) * ρ1 1 + 0) + 255 := (kC _ (List.mem_cons_of_mem _ (List.mem_cons_of_mem _ (List.mem_cons_of_mem _ List.mem_cons_self)))).2
    rw [hr]
    exact k0 _ _ (by omega) (by omega) (by omega) (by omega) (by omega) (by omega) g f
  · rcases ax_q2 hq with hq | hq
    · obtain ⟨-, ρ1, e0, hr, kE, kF, kC, kN⟩ := hq
      have hr : r = vi (ρ1 2) := hr
      have e1 : ρ1 0 = v1 := e0 0 (by decide)
      have e2 : ρ1 1 = v2 := e0 1 (by decide)
      have b0 := kE _ (List.mem_cons_self)
      have b0 : 0 ≤ ρ1 2 ∧ ρ1 2 ≤ 0 := b0.2
      have c0 : 0 ≤ ((-1) * ρ1 0 + 0) + (-1) := (kC _ List.mem_cons_self).2
      rw [hr]
      exact k1 _ _ (by omega) (by omega) (by omega) g f
    · rcases ax_q2 hq with hq | hq
      · obtain ⟨-, ρ1, e0, hr, kE, kF, kC, kN⟩ := hq
        have hr : r = vi (ρ1 2) := hr
        have e1 : ρ1 0 = v1 := e0 0 (by decide)
        have e2 : ρ1 1 = v2 := e0 1 (by decide)
        have b0 := kE _ (List.mem_cons_self)
        have b0 : 0 ≤ ρ1 2 ∧ ρ1 2 ≤ 0 := b0.2
        have c0 : 0 ≤ (1 * ρ1 0 + 0) + (-10) := (kC _ List.mem_cons_self).2
        rw [hr]
        exact k2 _ _ (by omega) (by omega) (by omega) g f
      · rcases ax_q2 hq with hq | hq
        · obtain ⟨-, ρ1, e0, hr, kE, kF, kC, kN⟩ := hq
          have hr : r = vi (ρ1 2) := hr
          have e1 : ρ1 0 = v1 := e0 0 (by decide)
          have e2 : ρ1 1 = v2 := e0 1 (by decide)
          have b0 := kE _ (List.mem_cons_self)
          have b0 : 0 ≤ ρ1 2 ∧ ρ1 2 ≤ 0 := b0.2
          have c0 : 0 ≤ ((-1) * ρ1 1 + 0) + (-1) := (kC _ List.mem_cons_self).2
          rw [hr]
          exact k3 _ _ (by omega) (by omega) (by omega) g f
        · replace hq := ax_q1 hq
          obtain ⟨-, ρ1, e0, hr, kE, kF, kC, kN⟩ := hq
          have hr : r = vi (ρ1 2) := hr
          have e1 : ρ1 0 = v1 := e0 0 (by decide)
          have e2 : ρ1 1 = v2 := e0 1 (by decide)
          have b0 := kE _ (List.mem_cons_self)
          have b0 : 0 ≤ ρ1 2 ∧ ρ1 2 ≤ 0 := b0.2
          have c0 : 0 ≤ (1 * ρ1 1 + 0) + (-256) := (kC _ List.mem_cons_self).2
          rw [hr]
          exact k4 _ _ (by omega) (by omega) (by omega) g f
theorem cx_hand {sc : List Int} {a0 a1 : Int} (i0 : in32 a0) (i1 : in32 a1) {M : MM} (G : axG M) : CA FF sc YF 59 m_X11_hand [vr 0, vi a0, vi a1] M (cxA M (ind ((0 ≤ a0 ∧ a0 ≤ 9) ∧ (0 ≤ a1 ∧ a1 ≤ 255))) (M 0 14)) := by
  obtain ⟨g, j, W⟩ := G
  exact u_X11_hand (d := 59 - 3) (Q := cxA M (ind ((0 ≤ a0 ∧ a0 ≤ 9) ∧ (0 ≤ a1 ∧ a1 ≤ 255))) (M 0 14)) (ah_X11_hand axH) (v1 := a0) (v2 := a1) (by have := i0; unfold in32 at this; omega) (by have := i1; unfold in32 at this; omega) g j (fun r M1 q0 q1 q2 q3 q4 q5 g1 f1 => have z := (cx_fin g1 f1 j W (by decide +kernel)); ⟨congrArg vi (show r = ind ((0 ≤ a0 ∧ a0 ≤ 9) ∧ (0 ≤ a1 ∧ a1 ≤ 255)) by unfold ind; split <;> omega), z.1, z.2, (ax_frO f1 rfl (by decide +kernel))⟩) (fun r M1 q0 q1 q2 g1 f1 => have z := (cx_fin g1 f1 j W (by decide +kernel)); ⟨congrArg vi (show r = ind ((0 ≤ a0 ∧ a0 ≤ 9) ∧ (0 ≤ a1 ∧ a1 ≤ 255)) by unfold ind; split <;> omega), z.1, z.2, (ax_frO f1 rfl (by decide +kernel))⟩) (fun r M1 q0 q1 q2 g1 f1 => have z := (cx_fin g1 f1 j W (by decide +kernel)); ⟨congrArg vi (show r = ind ((0 ≤ a0 ∧ a0 ≤ 9) ∧ (0 ≤ a1 ∧ a1 ≤ 255)) by unfold ind; split <;> omega), z.1, z.2, (ax_frO f1 rfl (by decide +kernel))⟩) (fun r M1 q0 q1 q2 g1 f1 => have z := (cx_fin g1 f1 j W (by decide +kernel)); ⟨congrArg vi (show r = ind ((0 ≤ a0 ∧ a0 ≤ 9) ∧ (0 ≤ a1 ∧ a1 ≤ 255)) by unfold ind; split <;> omega), z.1, z.2, (ax_frO f1 rfl (by decide +kernel))⟩) (fun r M1 q0 q1 q2 g1 f1 => have z := (cx_fin g1 f1 j W (by decide +kernel)); ⟨congrArg vi (show r = ind ((0 ≤ a0 ∧ a0 ≤ 9) ∧ (0 ≤ a1 ∧ a1 ≤ 255)) by unfold ind; split <;> omega), z.1, z.2, (ax_frO f1 rfl (by decide +kernel))⟩)
theorem u_X11_ledger {J : MM → Prop} (S : ai_SP ax_T J ap_X11_ledger) {sc : List Int} {d : Nat} {M : MM} {Q : Vv → MM → Prop} {v1 v2 v3 v4 : Int} (h0 : (-2147483648) ≤ v1 ∧ v1 ≤ 2147483647) (h1 : (-2147483648) ≤ v2 ∧ v2 ≤ 2147483647) (h2 : (-2147483648) ≤ v3 ∧ v3 ≤ 2147483647) (h3 : (-2147483648) ≤ v4 ∧ v4 ≤ 2147483647) (G : ai_GI ax_T M) (j : J M) (k0 : ∀ (r : Int) (M1 : MM), (-2) ≤ r → r ≤ 1023 → ai_GI ax_T M1 → ai_Fr ax_T ap_X11_ledger.2.2.2.1 M M1 → Q (vi r) M1) : CA FF sc YF (d + 3) m_X11_ledger [vr 0, vi v1, vi v2, vi v3, vi v4] M Q := by
  refine S sc d (ax_rh [v1, v2, v3, v4]) M _ Q rfl rfl (And.intro (ax_r) (And.intro (ax_i (by decide) rfl) (And.intro (ax_i (by decide) rfl) (And.intro (ax_i (by decide) rfl) (And.intro (ax_i (by decide) rfl) (And.intro (ax_o) trivial)))))) ⟨(ax_e1 (by decide) h0.1 h0.2 (ax_e1 (by decide) h1.1 h1.2 (ax_e1 (by decide) h2.1 h2.2 (ax_e1 (by decide) h3.1 h3.2 ax_e0)))), ax_f0, ax_c0, ax_m0⟩ G j (fun r M1 g f hq => ?_)
  replace hq := ax_q1 hq
  obtain ⟨-, ρ1, e0, hr, kE, kF, kC, kN⟩ := hq
  have hr : r = vi (ρ1 4) := hr
  have e1 : ρ1 0 = v1 := e0 0 (by decide)
  have e2 : ρ1 1 = v2 := e0 1 (by decide)
  have e3 : ρ1 2 = v3 := e0 2 (by decide)
  have e4 : ρ1 3 = v4 := e0 3 (by decide)
  have b0 := kE _ (List.mem_cons_self)
  have b0 : (-2) ≤ ρ1 4 ∧ ρ1 4 ≤ 1023 := b0.2
  rw [hr]
  exact k0 _ _ (by omega) (by omega) g f
theorem cx_ledger {sc : List Int} {a0 a1 a2 a3 : Int} (i0 : in32 a0) (i1 : in32 a1) (i2 : in32 a2) (i3 : in32 a3) {M : MM} (G : axG M) : CA FF sc YF 59 m_X11_ledger [vr 0, vi a0, vi a1, vi a2, vi a3] M (cxQ M (M 0 14)) := by
  obtain ⟨g, j, W⟩ := G
  exact u_X11_ledger (d := 59 - 3) (Q := cxQ M (M 0 14)) (ah_X11_ledger axH) (v1 := a0) (v2 := a1) (v3 := a2) (v4 := a3) (by have := i0; unfold in32 at this; omega) (by have := i1; unfold in32 at this; omega) (by have := i2; unfold in32 at this; omega) (by have := i3; unfold in32 at this; omega) g j (fun r M1 q0 q1 g1 f1 => have z := (cx_fin g1 f1 j W (by decide +kernel)); ⟨⟨r, rfl⟩, z.1, z.2, (ax_frO f1 rfl (by decide +kernel))⟩)
theorem u_X11_seed {J : MM → Prop} (S : ai_SP ax_T J ap_X11_seed) {sc : List Int} {d : Nat} {M : MM} {Q : Vv → MM → Prop} {v1 : Int} (h0 : (-2147483648) ≤ v1 ∧ v1 ≤ 2147483647) (G : ai_GI ax_T M) (j : J M) (k0 : ∀ (r : Int) (M1 : MM), 1 ≤ r → r ≤ 1 → 0 ≤ v1 → 0 ≤ 0 - v1 + 65535 → ai_GI ax_T M1 → ai_Fr ax_T ap_X11_seed.2.2.2.1 M M1 → Q (vi r) M1) (k1 : ∀ (r : Int) (M1 : MM), 0 ≤ r → r ≤ 0 → 0 ≤ 0 - v1 - 1 → ai_GI ax_T M1 → ai_Fr ax_T ap_X11_seed.2.2.2.1 M M1 → Q (vi r) M1) (k2 : ∀ (r : Int) (M1 : MM), 0 ≤ r → r ≤ 0 → 0 ≤ v1 - 65536 → ai_GI ax_T M1 → ai_Fr ax_T ap_X11_seed.2.2.2.1 M M1 → Q (vi r) M1) : CA FF sc YF (d + 2) m_X11_seed [vr 0, vi v1] M Q := by
  refine S sc d (ax_rh [v1]) M _ Q rfl rfl (And.intro (ax_r) (And.intro (ax_i (by decide) rfl) trivial)) ⟨(ax_e1 (by decide) h0.1 h0.2 ax_e0), ax_f0, ax_c0, ax_m0⟩ G j (fun r M1 g f hq => ?_)
  rcases ax_q2 hq with hq | hq
  · obtain ⟨-, ρ1, e0, hr, kE, kF, kC, kN⟩ := hq
    have hr : r = vi (ρ1 1) := hr
    have e1 : ρ1 0 = v1 := e0 0 (by decide)
    have b0 := kE _ (List.mem_cons_self)
    have b0 : 1 ≤ ρ1 1 ∧ ρ1 1 ≤ 1 := b0.2
    have c0 : 0 ≤ (1 * ρ1 0 + 0) + 0 := (kC _ List.mem_cons_self).2
    have c1 : 0 ≤ ((-1) * ρ1 0 + 0) + 65535 := (kC _ (List.mem_cons_of_mem _ List.mem_cons_self)).2
    rw [hr]
    exact k0 _ _ (by omega) (by omega) (by omega) (by omega) g f
  · rcases ax_q2 hq with hq | hq
    · obtain ⟨-, ρ1, e0, hr, kE, kF, kC, kN⟩ := hq
      have hr : r = vi (ρ1 1) := hr
      have e1 : ρ1 0 = v1 := e0 0 (by decide)
      have b0 := kE _ (List.mem_cons_self)
      have b0 : 0 ≤ ρ1 1 ∧ ρ1 1 ≤ 0 := b0.2
      have c0 : 0 ≤ ((-1) * ρ1 0 + 0) + (-1) := (kC _ List.mem_cons_self).2
      rw [hr]
      exact k1 _ _ (by omega) (by omega) (by omega) g f
    · replace hq := ax_q1 hq
      obtain ⟨-, ρ1, e0, hr, kE, kF, kC, kN⟩ := hq
      have hr : r = vi (ρ1 1) := hr
      have e1 : ρ1 0 = v1 := e0 0 (by decide)
      have b0 := kE _ (List.mem_cons_self)
      have b0 : 0 ≤ ρ1 1 ∧ ρ1 1 ≤ 0 := b0.2
      have c0 : 0 ≤ (1 * ρ1 0 + 0) + (-65536) := (kC _ List.mem_cons_self).2
      rw [hr]
      exact k2 _ _ (by omega) (by omega) (by omega) g f
theorem cx_seed {sc : List Int} {a0 : Int} (i0 : in32 a0) {M : MM} (G : axG M) : CA FF sc YF 59 m_X11_seed [vr 0, vi a0] M (cxA M (ind (0 ≤ a0 ∧ a0 ≤ 65535)) (M 0 14)) := by
  obtain ⟨g, j, W⟩ := G
  exact u_X11_seed (d := 59 - 2) (Q := cxA M (ind (0 ≤ a0 ∧ a0 ≤ 65535)) (M 0 14)) (ah_X11_seed axH) (v1 := a0) (by have := i0; unfold in32 at this; omega) g j (fun r M1 q0 q1 q2 q3 g1 f1 => have z := (cx_fin g1 f1 j W (by decide +kernel)); ⟨congrArg vi (show r = ind (0 ≤ a0 ∧ a0 ≤ 65535) by unfold ind; split <;> omega), z.1, z.2, (ax_frO f1 rfl (by decide +kernel))⟩) (fun r M1 q0 q1 q2 g1 f1 => have z := (cx_fin g1 f1 j W (by decide +kernel)); ⟨congrArg vi (show r = ind (0 ≤ a0 ∧ a0 ≤ 65535) by unfold ind; split <;> omega), z.1, z.2, (ax_frO f1 rfl (by decide +kernel))⟩) (fun r M1 q0 q1 q2 g1 f1 => have z := (cx_fin g1 f1 j W (by decide +kernel)); ⟨congrArg vi (show r = ind (0 ≤ a0 ∧ a0 ≤ 65535) by unfold ind; split <;> omega), z.1, z.2, (ax_frO f1 rfl (by decide +kernel))⟩)
theorem u_X11_keep {J : MM → Prop} (S : ai_SP ax_T J ap_X11_keep) {sc : List Int} {d : Nat} {M : MM} {Q : Vv → MM → Prop}  (G : ai_GI ax_T M) (j : J M) (k0 : ∀ (r : Int) (M1 : MM), (-2147483648) ≤ r → r ≤ 2147483647 → 1 ≤ (M1 0 14) → (M1 0 14) ≤ 1 → 0 ≤ (M1 0 14) - 1 → ai_GI ax_T M1 → ai_Fr ax_T ap_X11_keep.2.2.2.1 M M1 → Q (vi r) M1) : CA FF sc YF (d + 2) m_X11_keep [vr 0] M Q := by
  refine S sc d (ax_rh []) M _ Q rfl rfl (And.intro (ax_r) trivial) ⟨ax_e0, ax_f0, ax_c0, ax_m0⟩ G j (fun r M1 g f hq => ?_)
  replace hq := ax_q1 hq
  obtain ⟨-, ρ1, e0, hr, kE, kF, kC, kN⟩ := hq
  have hr : r = vi (ρ1 0) := hr
  have b0 := kE _ (List.mem_cons_self)
  have b0 : (-2147483648) ≤ ρ1 0 ∧ ρ1 0 ≤ 2147483647 := b0.2
  have b1 := kE _ (List.mem_cons_of_mem _ List.mem_cons_self)
  have b1 : 1 ≤ ρ1 1 ∧ ρ1 1 ≤ 1 := b1.2
  have f0 := (kF _ List.mem_cons_self).2.2.2
  have f0 : M1 0 ((0 + 14 : Int)).toNat = (1 * ρ1 1 + 0) + 0 := f0
  have g0 : ((0 + 14 : Int)) = 14 := by omega
  rw [g0] at f0
  have f0 : (M1 0 14) = ρ1 1 := by have f : (M1 0 14) = (1 * ρ1 1 + 0) + 0 := f0; omega
  have c0 : 0 ≤ (1 * ρ1 1 + 0) + (-1) := (kC _ List.mem_cons_self).2
  rw [hr]
  exact k0 _ _ (by omega) (by omega) (by omega) (by omega) (by omega) g f
theorem cx_keep {sc : List Int} {M : MM} (G : axG M) : CA FF sc YF 59 m_X11_keep [vr 0] M (cxQ M (1)) := by
  obtain ⟨g, j, W⟩ := G
  exact u_X11_keep (d := 59 - 2) (Q := cxQ M (1)) (ah_X11_keep axH) g j (fun r M1 q0 q1 q2 q3 q4 g1 f1 => have z := (cx_fin g1 f1 j W (by decide +kernel)); ⟨⟨r, rfl⟩, z.1, z.2, (by omega)⟩)
theorem u_X11_undo {J : MM → Prop} (S : ai_SP ax_T J ap_X11_undo) {sc : List Int} {d : Nat} {M : MM} {Q : Vv → MM → Prop} (h0 : 0 ≤ (M 0 14) ∧ (M 0 14) ≤ 1) (G : ai_GI ax_T M) (j : J M) (k0 : ∀ (r : Int) (M1 : MM), 0 ≤ r → r ≤ 1 → 0 ≤ 0 - (M 0 14) + r → 0 ≤ (M 0 14) - r → ai_GI ax_T M1 → ai_Fr ax_T ap_X11_undo.2.2.2.1 M M1 → Q (vi r) M1) : CA FF sc YF (d + 2) m_X11_undo [vr 0] M Q := by
  refine S sc d (ax_rh [(M 0 14)]) M _ Q rfl rfl (And.intro (ax_r) trivial) ⟨(ax_e1 (by decide) h0.1 h0.2 ax_e0), (ax_f1 (i := 14) (by decide) (by decide) (by show 0 + 14 = 14; omega) (by decide) rfl ax_f0), ax_c0, ax_m0⟩ G j (fun r M1 g f hq => ?_)
  replace hq := ax_q1 hq
  obtain ⟨-, ρ1, e0, hr, kE, kF, kC, kN⟩ := hq
  have hr : r = vi (ρ1 1) := hr
  have e1 : ρ1 0 = (M 0 14) := e0 0 (by decide)
  have b0 := kE _ (List.mem_cons_self)
  have b0 : 0 ≤ ρ1 1 ∧ ρ1 1 ≤ 1 := b0.2
  have c0 : 0 ≤ ((-1) * ρ1 0 + (1 * ρ1 1 + 0)) + 0 := (kC _ List.mem_cons_self).2
  have c1 : 0 ≤ (1 * ρ1 0 + ((-1) * ρ1 1 + 0)) + 0 := (kC _ (List.mem_cons_of_mem _ List.mem_cons_self)).2
  rw [hr]
  exact k0 _ _ (by omega) (by omega) (by omega) (by omega) g f
theorem cx_undo {sc : List Int} {M : MM} (G : axG M) : CA FF sc YF 59 m_X11_undo [vr 0] M (cxA M (M 0 14) (M 0 14)) := by
  obtain ⟨g, j, W⟩ := G
  exact u_X11_undo (d := 59 - 2) (Q := cxA M (M 0 14) (M 0 14)) (ah_X11_undo axH) (by have := rO_0_14 g; omega) g j (fun r M1 q0 q1 q2 q3 g1 f1 => have z := (cx_fin g1 f1 j W (by decide +kernel)); ⟨congrArg vi (show r = M 0 14 by omega), z.1, z.2, (ax_frO f1 rfl (by decide +kernel))⟩)
theorem u_X11_check {J : MM → Prop} (S : ai_SP ax_T J ap_X11_check) {sc : List Int} {d : Nat} {M : MM} {Q : Vv → MM → Prop} {v1 : Int} (h0 : (-2147483648) ≤ v1 ∧ v1 ≤ 2147483647) (h1 : 0 ≤ (M 1 1) ∧ (M 1 1) ≤ 260) (G : ai_GI ax_T M) (j : J M) (k0 : ∀ (r : Int) (M1 : MM), (-1) ≤ r → r ≤ 9 → 0 ≤ (M1 1 1) → (M1 1 1) ≤ 0 → 0 ≤ v1 → 0 ≤ 0 - v1 + 10 → 0 ≤ 0 - 4 * v1 + (M 1 1) → 0 ≤ (M1 1 1) → 0 ≤ 0 - (M1 1 1) → ai_GI ax_T M1 → ai_Fr ax_T ap_X11_check.2.2.2.1 M M1 → Q (vi r) M1) (k1 : ∀ (r : Int) (M1 : MM), (-2) ≤ r → r ≤ (-2) → 0 ≤ (M1 1 1) → (M1 1 1) ≤ 260 → 0 ≤ 0 - v1 - 1 → 0 ≤ 0 - (M 1 1) + (M1 1 1) → 0 ≤ (M 1 1) - (M1 1 1) → ai_GI ax_T M1 → ai_Fr ax_T ap_X11_check.2.2.2.1 M M1 → Q (vi r) M1) (k2 : ∀ (r : Int) (M1 : MM), (-2) ≤ r → r ≤ (-2) → 0 ≤ (M1 1 1) → (M1 1 1) ≤ 260 → 0 ≤ v1 - 11 → 0 ≤ 0 - (M 1 1) + (M1 1 1) → 0 ≤ (M 1 1) - (M1 1 1) → ai_GI ax_T M1 → ai_Fr ax_T ap_X11_check.2.2.2.1 M M1 → Q (vi r) M1) (k3 : ∀ (r : Int) (M1 : MM), (-2) ≤ r → r ≤ (-2) → 0 ≤ (M1 1 1) → (M1 1 1) ≤ 40 → 0 ≤ 4 * v1 - (M 1 1) - 1 → 0 ≤ 0 - (M 1 1) + (M1 1 1) → 0 ≤ (M 1 1) - (M1 1 1) → ai_GI ax_T M1 → ai_Fr ax_T ap_X11_check.2.2.2.1 M M1 → Q (vi r) M1) : CA FF sc YF (d + 3) m_X11_check [vr 0, vi v1] M Q := by
  refine S sc d (ax_rh [v1, (M 1 1)]) M _ Q rfl rfl (And.intro (ax_r) (And.intro (ax_i (by decide) rfl) (And.intro (ax_o) (And.intro (ax_o) trivial)))) ⟨(ax_e1 (by decide) h0.1 h0.2 (ax_e1 (by decide) h1.1 h1.2 ax_e0)), (ax_f1 (i := 1) (by decide) (by decide) (by show 0 + 1 = 1; omega) (by decide) rfl ax_f0), ax_c0, ax_m0⟩ G j (fun r M1 g f hq => ?_)
  rcases ax_q2 hq with hq | hq
  · obtain ⟨-, ρ1, e0, hr, kE, kF, kC, kN⟩ := hq
    have hr : r = vi (ρ1 2) := hr
    have e1 : ρ1 0 = v1 := e0 0 (by decide)
    have e2 : ρ1 1 = (M 1 1) := e0 1 (by decide)
    have b0 := kE _ (List.mem_cons_self)
    have b0 : (-1) ≤ ρ1 2 ∧ ρ1 2 ≤ 9 := b0.2
    have b1 := kE _ (List.mem_cons_of_mem _ List.mem_cons_self)
    have b1 : 0 ≤ ρ1 3 ∧ ρ1 3 ≤ 0 := b1.2
    have f0 := (kF _ List.mem_cons_self).2.2.2
    have f0 : M1 1 ((0 + 1 : Int)).toNat = (1 * ρ1 3 + 0) + 0 := f0
    have g0 : ((0 + 1 : Int)) = 1 := by omega
    rw [g0] at f0
    have f0 : (M1 1 1) = ρ1 3 := by have f : (M1 1 1) = (1 * ρ1 3 + 0) + 0 := f0; omega
    have c0 : 0 ≤ (1 * ρ1 0 + 0) + 0 := (kC _ List.mem_cons_self).2
    have c1 : 0 ≤ ((-1) * ρ1 0 + 0) + 10 := (kC _ (List.mem_cons_of_mem _ List.mem_cons_self)).2
    have c2 : 0 ≤ ((-4) * ρ1 0 + (1 * ρ1 1 + 0)) + 0 := (kC _ (List.mem_cons_of_mem _ (List.mem_cons_of_mem _ List.mem_cons_self))).2
    have c3 : 0 ≤ (1 * ρ1 3 + 0) + 0 := (kC _ (List.mem_cons_of_mem _ (List.mem_cons_of_mem _ (List.mem_cons_of_mem _ List.mem_cons_self)))).2
    have c4 : 0 ≤ ((-1) * ρ1 3 + 0) + 0 := (kC _ (List.mem_cons_of_mem _ (List.mem_cons_of_mem _ (List.mem_cons_of_mem _ (List.mem_cons_of_mem _ List.mem_cons_self))))).2
    rw [hr]
    exact k0 _ _ (by omega) (by omega) (by omega) (by omega) (by omega) (by omega) (by omega) (by omega) (by omega) g f
  · rcases ax_q2 hq with hq | hq
    · obtain ⟨-, ρ1, e0, hr, kE, kF, kC, kN⟩ := hq
      have hr : r = vi (ρ1 2) := hr
      have e1 : ρ1 0 = v1 := e0 0 (by decide)
      have e2 : ρ1 1 = (M 1 1) := e0 1 (by decide)
      have b0 := kE _ (List.mem_cons_self)
      have b0 : (-2) ≤ ρ1 2 ∧ ρ1 2 ≤ (-2) := b0.2
      have b1 := kE _ (List.mem_cons_of_mem _ List.mem_cons_self)
      have b1 : 0 ≤ ρ1 3 ∧ ρ1 3 ≤ 260 := b1.2
      have f0 := (kF _ List.mem_cons_self).2.2.2
      have f0 : M1 1 ((0 + 1 : Int)).toNat = (1 * ρ1 3 + 0) + 0 := f0
      have g0 : ((0 + 1 : Int)) = 1 := by omega
      rw [g0] at f0
      have f0 : (M1 1 1) = ρ1 3 := by have f : (M1 1 1) = (1 * ρ1 3 + 0) + 0 := f0; omega
      have c0 : 0 ≤ ((-1) * ρ1 0 + 0) + (-1) := (kC _ List.mem_cons_self).2
      have c1 : 0 ≤ ((-1) * ρ1 1 + (1 * ρ1 3 + 0)) + 0 := (kC _ (List.mem_cons_of_mem _ List.mem_cons_self)).2
      have c2 : 0 ≤ (1 * ρ1 1 + ((-1) * ρ1 3 + 0)) + 0 := (kC _ (List.mem_cons_of_mem _ (List.mem_cons_of_mem _ List.mem_cons_self))).2
      rw [hr]
      exact k1 _ _ (by omega) (by omega) (by omega) (by omega) (by omega) (by omega) (by omega) g f
    · rcases ax_q2 hq with hq | hq
      · obtain ⟨-, ρ1, e0, hr, kE, kF, kC, kN⟩ := hq
        have hr : r = vi (ρ1 2) := hr
        have e1 : ρ1 0 = v1 := e0 0 (by decide)
        have e2 : ρ1 1 = (M 1 1) := e0 1 (by decide)
        have b0 := kE _ (List.mem_cons_self)
        have b0 : (-2) ≤ ρ1 2 ∧ ρ1 2 ≤ (-2) := b0.2
        have b1 := kE _ (List.mem_cons_of_mem _ List.mem_cons_self)
        have b1 : 0 ≤ ρ1 3 ∧ ρ1 3 ≤ 260 := b1.2
        have f0 := (kF _ List.mem_cons_self).2.2.2
        have f0 : M1 1 ((0 + 1 : Int)).toNat = (1 * ρ1 3 + 0) + 0 := f0
        have g0 : ((0 + 1 : Int)) = 1 := by omega
        rw [g0] at f0
        have f0 : (M1 1 1) = ρ1 3 := by have f : (M1 1 1) = (1 * ρ1 3 + 0) + 0 := f0; omega
        have c0 : 0 ≤ (1 * ρ1 0 + 0) + (-11) := (kC _ List.mem_cons_self).2
        have c1 : 0 ≤ ((-1) * ρ1 1 + (1 * ρ1 3 + 0)) + 0 := (kC _ (List.mem_cons_of_mem _ List.mem_cons_self)).2
        have c2 : 0 ≤ (1 * ρ1 1 + ((-1) * ρ1 3 + 0)) + 0 := (kC _ (List.mem_cons_of_mem _ (List.mem_cons_of_mem _ List.mem_cons_self))).2
        rw [hr]
        exact k2 _ _ (by omega) (by omega) (by omega) (by omega) (by omega) (by omega) (by omega) g f
      · replace hq := ax_q1 hq
        obtain ⟨-, ρ1, e0, hr, kE, kF, kC, kN⟩ := hq
        have hr : r = vi (ρ1 2) := hr
        have e1 : ρ1 0 = v1 := e0 0 (by decide)
        have e2 : ρ1 1 = (M 1 1) := e0 1 (by decide)
        have b0 := kE _ (List.mem_cons_self)
        have b0 : (-2) ≤ ρ1 2 ∧ ρ1 2 ≤ (-2) := b0.2
        have b1 := kE _ (List.mem_cons_of_mem _ List.mem_cons_self)
        have b1 : 0 ≤ ρ1 3 ∧ ρ1 3 ≤ 40 := b1.2
        have f0 := (kF _ List.mem_cons_self).2.2.2
        have f0 : M1 1 ((0 + 1 : Int)).toNat = (1 * ρ1 3 + 0) + 0 := f0
        have g0 : ((0 + 1 : Int)) = 1 := by omega
        rw [g0] at f0
        have f0 : (M1 1 1) = ρ1 3 := by have f : (M1 1 1) = (1 * ρ1 3 + 0) + 0 := f0; omega
        have c0 : 0 ≤ (4 * ρ1 0 + ((-1) * ρ1 1 + 0)) + (-1) := (kC _ List.mem_cons_self).2
        have c1 : 0 ≤ ((-1) * ρ1 1 + (1 * ρ1 3 + 0)) + 0 := (kC _ (List.mem_cons_of_mem _ List.mem_cons_self)).2
        have c2 : 0 ≤ (1 * ρ1 1 + ((-1) * ρ1 3 + 0)) + 0 := (kC _ (List.mem_cons_of_mem _ (List.mem_cons_of_mem _ List.mem_cons_self))).2
        rw [hr]
        exact k3 _ _ (by omega) (by omega) (by omega) (by omega) (by omega) (by omega) (by omega) g f
theorem cx_check {sc : List Int} {a0 : Int} (i0 : in32 a0) {M : MM} (G : axG M) : CA FF sc YF 59 m_X11_check [vr 0, vi a0] M (cxQ M (M 0 14)) := by
  obtain ⟨g, j, W⟩ := G
  exact u_X11_check (d := 59 - 3) (Q := cxQ M (M 0 14)) (ah_X11_check axH) (v1 := a0) (by have := i0; unfold in32 at this; omega) (by have := rO_1_1 g; omega) g j (fun r M1 q0 q1 q2 q3 q4 q5 q6 q7 q8 g1 f1 => have z := (cx_fin g1 f1 j W (by decide +kernel)); ⟨⟨r, rfl⟩, z.1, z.2, (ax_frO f1 rfl (by decide +kernel))⟩) (fun r M1 q0 q1 q2 q3 q4 q5 q6 g1 f1 => have z := (cx_fin g1 f1 j W (by decide +kernel)); ⟨⟨r, rfl⟩, z.1, z.2, (ax_frO f1 rfl (by decide +kernel))⟩) (fun r M1 q0 q1 q2 q3 q4 q5 q6 g1 f1 => have z := (cx_fin g1 f1 j W (by decide +kernel)); ⟨⟨r, rfl⟩, z.1, z.2, (ax_frO f1 rfl (by decide +kernel))⟩) (fun r M1 q0 q1 q2 q3 q4 q5 q6 g1 f1 => have z := (cx_fin g1 f1 j W (by decide +kernel)); ⟨⟨r, rfl⟩, z.1, z.2, (ax_frO f1 rfl (by decide +kernel))⟩)
theorem u_X11_count_c58_66 {J : MM → Prop} (S : ai_SP ax_T J ap_X11_count_c58_66) {sc : List Int} {d : Nat} {M : MM} {Q : Vv → MM → Prop} {v1 : Int} (h0 : (-2147483648) ≤ v1 ∧ v1 ≤ 2147483647) (h1 : 58 ≤ (M 0 10) ∧ (M 0 10) ≤ 58) (h2 : 66 ≤ (M 0 12) ∧ (M 0 12) ≤ 66) (G : ai_GI ax_T M) (j : J M) (k0 : ∀ (r : Int) (M1 : MM), (-2147483648) ≤ r → r ≤ 2147483647 → ai_GI ax_T M1 → ai_Fr ax_T ap_X11_count_c58_66.2.2.2.1 M M1 → Q (vi r) M1) : CA FF sc YF (d + 3) m_X11_count [vr 0, vi v1] M Q := by
  refine S sc d (ax_rh [v1, (M 0 10), (M 0 12)]) M _ Q rfl rfl (And.intro (ax_r) (And.intro (ax_i (by decide) rfl) trivial)) ⟨(ax_e1 (by decide) h0.1 h0.2 (ax_e1 (by decide) h1.1 h1.2 (ax_e1 (by decide) h2.1 h2.2 ax_e0))), (ax_f1 (i := 10) (by decide) (by decide) (by show 0 + 10 = 10; omega) (by decide) rfl (ax_f1 (i := 12) (by decide) (by decide) (by show 0 + 12 = 12; omega) (by decide) rfl ax_f0)), ax_c0, ax_m0⟩ G j (fun r M1 g f hq => ?_)
  replace hq := ax_q1 hq
  obtain ⟨-, ρ1, e0, hr, kE, kF, kC, kN⟩ := hq
  have hr : r = vi (ρ1 3) := hr
  have e1 : ρ1 0 = v1 := e0 0 (by decide)
  have e2 : ρ1 1 = (M 0 10) := e0 1 (by decide)
  have e3 : ρ1 2 = (M 0 12) := e0 2 (by decide)
  have b0 := kE _ (List.mem_cons_self)
  have b0 : (-2147483648) ≤ ρ1 3 ∧ ρ1 3 ≤ 2147483647 := b0.2
  rw [hr]
  exact k0 _ _ (by omega) (by omega) g f
theorem u_X11_count_c58_74 {J : MM → Prop} (S : ai_SP ax_T J ap_X11_count_c58_74) {sc : List Int} {d : Nat} {M : MM} {Q : Vv → MM → Prop} {v1 : Int} (h0 : (-2147483648) ≤ v1 ∧ v1 ≤ 2147483647) (h1 : 58 ≤ (M 0 10) ∧ (M 0 10) ≤ 58) (h2 : 74 ≤ (M 0 12) ∧ (M 0 12) ≤ 74) (G : ai_GI ax_T M) (j : J M) (k0 : ∀ (r : Int) (M1 : MM), (-2147483648) ≤ r → r ≤ 2147483647 → ai_GI ax_T M1 → ai_Fr ax_T ap_X11_count_c58_74.2.2.2.1 M M1 → Q (vi r) M1) : CA FF sc YF (d + 3) m_X11_count [vr 0, vi v1] M Q := by
  refine S sc d (ax_rh [v1, (M 0 10), (M 0 12)]) M _ Q rfl rfl (And.intro (ax_r) (And.intro (ax_i (by decide) rfl) trivial)) ⟨(ax_e1 (by decide) h0.1 h0.2 (ax_e1 (by decide) h1.1 h1.2 (ax_e1 (by decide) h2.1 h2.2 ax_e0))), (ax_f1 (i := 10) (by decide) (by decide) (by show 0 + 10 = 10; omega) (by decide) rfl (ax_f1 (i := 12) (by decide) (by decide) (by show 0 + 12 = 12; omega) (by decide) rfl ax_f0)), ax_c0, ax_m0⟩ G j (fun r M1 g f hq => ?_)
  replace hq := ax_q1 hq
  obtain ⟨-, ρ1, e0, hr, kE, kF, kC, kN⟩ := hq
  have hr : r = vi (ρ1 3) := hr
  have e1 : ρ1 0 = v1 := e0 0 (by decide)
  have e2 : ρ1 1 = (M 0 10) := e0 1 (by decide)
  have e3 : ρ1 2 = (M 0 12) := e0 2 (by decide)
  have b0 := kE _ (List.mem_cons_self)
  have b0 : (-2147483648) ≤ ρ1 3 ∧ ρ1 3 ≤ 2147483647 := b0.2
  rw [hr]
  exact k0 _ _ (by omega) (by omega) g f
theorem u_X11_count_c62_66 {J : MM → Prop} (S : ai_SP ax_T J ap_X11_count_c62_66) {sc : List Int} {d : Nat} {M : MM} {Q : Vv → MM → Prop} {v1 : Int} (h0 : (-2147483648) ≤ v1 ∧ v1 ≤ 2147483647) (h1 : 62 ≤ (M 0 10) ∧ (M 0 10) ≤ 62) (h2 : 66 ≤ (M 0 12) ∧ (M 0 12) ≤ 66) (G : ai_GI ax_T M) (j : J M) (k0 : ∀ (r : Int) (M1 : MM), (-2147483648) ≤ r → r ≤ 2147483647 → ai_GI ax_T M1 → ai_Fr ax_T ap_X11_count_c62_66.2.2.2.1 M M1 → Q (vi r) M1) : CA FF sc YF (d + 3) m_X11_count [vr 0, vi v1] M Q := by
  refine S sc d (ax_rh [v1, (M 0 10), (M 0 12)]) M _ Q rfl rfl (And.intro (ax_r) (And.intro (ax_i (by decide) rfl) trivial)) ⟨(ax_e1 (by decide) h0.1 h0.2 (ax_e1 (by decide) h1.1 h1.2 (ax_e1 (by decide) h2.1 h2.2 ax_e0))), (ax_f1 (i := 10) (by decide) (by decide) (by show 0 + 10 = 10; omega) (by decide) rfl (ax_f1 (i := 12) (by decide) (by decide) (by show 0 + 12 = 12; omega) (by decide) rfl ax_f0)), ax_c0, ax_m0⟩ G j (fun r M1 g f hq => ?_)
  replace hq := ax_q1 hq
  obtain ⟨-, ρ1, e0, hr, kE, kF, kC, kN⟩ := hq
  have hr : r = vi (ρ1 3) := hr
  have e1 : ρ1 0 = v1 := e0 0 (by decide)
  have e2 : ρ1 1 = (M 0 10) := e0 1 (by decide)
  have e3 : ρ1 2 = (M 0 12) := e0 2 (by decide)
  have b0 := kE _ (List.mem_cons_self)
  have b0 : (-2147483648) ≤ ρ1 3 ∧ ρ1 3 ≤ 2147483647 := b0.2
  rw [hr]
  exact k0 _ _ (by omega) (by omega) g f
theorem u_X11_count_c62_74 {J : MM → Prop} (S : ai_SP ax_T J ap_X11_count_c62_74) {sc : List Int} {d : Nat} {M : MM} {Q : Vv → MM → Prop} {v1 : Int} (h0 : (-2147483648) ≤ v1 ∧ v1 ≤ 2147483647) (h1 : 62 ≤ (M 0 10) ∧ (M 0 10) ≤ 62) (h2 : 74 ≤ (M 0 12) ∧ (M 0 12) ≤ 74) (G : ai_GI ax_T M) (j : J M) (k0 : ∀ (r : Int) (M1 : MM), (-2147483648) ≤ r → r ≤ 2147483647 → ai_GI ax_T M1 → ai_Fr ax_T ap_X11_count_c62_74.2.2.2.1 M M1 → Q (vi r) M1) : CA FF sc YF (d + 3) m_X11_count [vr 0, vi v1] M Q := by
  refine S sc d (ax_rh [v1, (M 0 10), (M 0 12)]) M _ Q rfl rfl (And.intro (ax_r) (And.intro (ax_i (by decide) rfl) trivial)) ⟨(ax_e1 (by decide) h0.1 h0.2 (ax_e1 (by decide) h1.1 h1.2 (ax_e1 (by decide) h2.1 h2.2 ax_e0))), (ax_f1 (i := 10) (by decide) (by decide) (by show 0 + 10 = 10; omega) (by decide) rfl (ax_f1 (i := 12) (by decide) (by decide) (by show 0 + 12 = 12; omega) (by decide) rfl ax_f0)), ax_c0, ax_m0⟩ G j (fun r M1 g f hq => ?_)
  replace hq := ax_q1 hq
  obtain ⟨-, ρ1, e0, hr, kE, kF, kC, kN⟩ := hq
  have hr : r = vi (ρ1 3) := hr
  have e1 : ρ1 0 = v1 := e0 0 (by decide)
  have e2 : ρ1 1 = (M 0 10) := e0 1 (by decide)
  have e3 : ρ1 2 = (M 0 12) := e0 2 (by decide)
  have b0 := kE _ (List.mem_cons_self)
  have b0 : (-2147483648) ≤ ρ1 3 ∧ ρ1 3 ≤ 2147483647 := b0.2
  rw [hr]
  exact k0 _ _ (by omega) (by omega) g f
theorem cx_count {sc : List Int} {a0 : Int} (i0 : in32 a0) {M : MM} (G : axG M) : CA FF sc YF 59 m_X11_count [vr 0, vi a0] M (cxQ M (M 0 14)) := by
  obtain ⟨g, j, W⟩ := G
  rcases id W.1 with ⟨e10, e11⟩ | ⟨e10, e11⟩ <;> rcases id W.2 with ⟨e12, e13⟩ | ⟨e12, e13⟩
  · exact u_X11_count_c58_66 (d := 59 - 3) (Q := cxQ M (M 0 14)) (ah_X11_count_c58_66 axH) (v1 := a0) (by have := i0; unfold in32 at this; omega) (by have := rO_0_10 g; omega) (by have := rO_0_12 g; omega) g j (fun r M1 q0 q1 g1 f1 => have z := (cx_fin g1 f1 j W (by decide +kernel)); ⟨⟨r, rfl⟩, z.1, z.2, (ax_frO f1 rfl (by decide +kernel))⟩)
  · exact u_X11_count_c58_74 (d := 59 - 3) (Q := cxQ M (M 0 14)) (ah_X11_count_c58_74 axH) (v1 := a0) (by have := i0; unfold in32 at this; omega) (by have := rO_0_10 g; omega) (by have := rO_0_12 g; omega) g j (fun r M1 q0 q1 g1 f1 => have z := (cx_fin g1 f1 j W (by decide +kernel)); ⟨⟨r, rfl⟩, z.1, z.2, (ax_frO f1 rfl (by decide +kernel))⟩)
  · exact u_X11_count_c62_66 (d := 59 - 3) (Q := cxQ M (M 0 14)) (ah_X11_count_c62_66 axH) (v1 := a0) (by have := i0; unfold in32 at this; omega) (by have := rO_0_10 g; omega) (by have := rO_0_12 g; omega) g j (fun r M1 q0 q1 g1 f1 => have z := (cx_fin g1 f1 j W (by decide +kernel)); ⟨⟨r, rfl⟩, z.1, z.2, (ax_frO f1 rfl (by decide +kernel))⟩)
  · exact u_X11_count_c62_74 (d := 59 - 3) (Q := cxQ M (M 0 14)) (ah_X11_count_c62_74 axH) (v1 := a0) (by have := i0; unfold in32 at this; omega) (by have := rO_0_10 g; omega) (by have := rO_0_12 g; omega) g j (fun r M1 q0 q1 g1 f1 => have z := (cx_fin g1 f1 j W (by decide +kernel)); ⟨⟨r, rfl⟩, z.1, z.2, (ax_frO f1 rfl (by decide +kernel))⟩)
