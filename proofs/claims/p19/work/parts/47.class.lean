/-! PART 47: by hand: quarter and law of the class -/
theorem axH : ax_H axJ := ⟨axJ_fr, hd_X12_mayHaunt, hd_X12_byLaw, hd_X12_isSeen, hd_X12_laysCosts, hd_X12_gcd⟩
def axW (M : MM) : Prop := ((M 0 10 = 58 ∧ M 0 11 = 62) ∨ (M 0 10 = 62 ∧ M 0 11 = 58)) ∧ ((M 0 12 = 66 ∧ M 0 13 = 74) ∨ (M 0 12 = 74 ∧ M 0 13 = 66))
/-- what stands fast about the two objects between calls -/
def axG (M : MM) : Prop := ai_GI ax_T M ∧ axJ M ∧ axW M
/-- the reference's cells are as they were -/
def UpX (M M1 : MM) : Prop := ∀ k, 81 ≤ k → ∀ j, M1 k j = M k j
/-- the class's cells are as they were -/
def LoX (M M1 : MM) : Prop := ∀ k, k < 81 → ∀ j, (ai_un ax_T k = true ∨ j < 64) → M1 k j = M k j
theorem upX_fr {w : Nat} {M M1 : MM} (h : ai_Fr ax_T w M M1) (hw : w < 2 ^ 5184) : UpX M M1 := fun k hk j => h k j (by
  refine Nat.testBit_lt_two_pow (Nat.lt_of_lt_of_le hw (Nat.pow_le_pow_right (by decide) ?_))
  unfold ai_sl
  split <;> omega)
theorem loX_fr {w : Nat} {M M1 : MM} (h : ai_Fr ax_T w M M1) (hw : w &&& (2 ^ 5184 - 1) = 0) : LoX M M1 := fun k hk j hj => h k j (by
  have hs : ai_sl ax_T k j < 5184 := by
    unfold ai_sl
    split
    · omega
    · rename_i hu
      rcases hj with hj | hj
      · rw [hu] at hj
        cases hj
      · omega
  have h1 : (w &&& (2 ^ 5184 - 1)).testBit (ai_sl ax_T k j) = false := by rw [hw]; exact Nat.zero_testBit _
  rw [Nat.testBit_and, Nat.testBit_two_pow_sub_one, decide_eq_true hs, Bool.and_true] at h1
  exact h1)
theorem UpX.rf {M : MM} : UpX M M := fun _ _ _ => rfl
theorem UpX.tr {M M1 M2 : MM} (h : UpX M M1) (g : UpX M1 M2) : UpX M M2 := fun k hk j => (g k hk j).trans (h k hk j)
theorem UpX.st {M M1 : MM} {k j : Nat} {v : Int} (h : UpX M M1) (hk : k < 81) : UpX M (stM M1 k j v) := fun k' h' j' => (stN (by omega)).trans (h k' h' j')
theorem UpX.j {M M1 : MM} (h : UpX M M1) (j : axJ M) : axJ M1 := axJ_eq ⟨h 81 (by decide) 19, funext (h 97 (by decide)), funext (h 98 (by decide)), funext (h 99 (by decide)), funext (h 100 (by decide)), funext (h 101 (by decide))⟩ j
theorem LoX.rf {M : MM} : LoX M M := fun _ _ _ _ => rfl
theorem LoX.tr {M M1 M2 : MM} (h : LoX M M1) (g : LoX M1 M2) : LoX M M2 := fun k hk j hj => (g k hk j hj).trans (h k hk j hj)
theorem LoX.st {M M1 : MM} {k j : Nat} {v : Int} (h : LoX M M1) (hk : 81 ≤ k) : LoX M (stM M1 k j v) := fun k' h' j' hj => (stN (by omega)).trans (h k' h' j' hj)
theorem LoX.w {M M1 : MM} (h : LoX M M1) (w : axW M) : axW M1 := by
  unfold axW
  rw [h 0 (by decide) 10 (.inr (by decide)), h 0 (by decide) 11 (.inr (by decide)), h 0 (by decide) 12 (.inr (by decide)), h 0 (by decide) 13 (.inr (by decide))]
  exact w
theorem axW_eq {M M1 : MM} (h10 : M1 0 10 = M 0 10) (h11 : M1 0 11 = M 0 11) (h12 : M1 0 12 = M 0 12) (h13 : M1 0 13 = M 0 13) (w : axW M) : axW M1 := by
  unfold axW
  rw [h10, h11, h12, h13]
  exact w
/-- what becomes of the tape: taken, or as it was -/
def szX (ok : Prop) (M M1 : MM) : Prop := (¬ ok ∧ M1 1 1 = M 1 1) ∨ (ok ∧ M1 1 1 = 0)
def szM (ok : Prop) (M M1 : MM) : Prop := (¬ ok ∧ M1 81 10 = M 81 10) ∨ (ok ∧ M1 81 10 = 0)
theorem s_hasText {sc : List Int} {d : Nat} {Q : Vv → MM → Prop} (n m : Int) (M : MM) (k0 : ¬ (1 ≤ n ∧ n ≤ m ∧ n ≤ M 1 1) → Q (vi 0) M) (k1 : (1 ≤ n ∧ n ≤ m ∧ n ≤ M 1 1) → ∀ x : Int, x = 1 → Q (vi x) M) : CA FF sc YF (d + 1) m_X7_hasText [vr 1, vi n, vi m] M Q := ca_X7_hasText n m M (brP (fun _ => k0 (by omega)) fun _ => brP (fun _ => k0 (by omega)) fun _ => brP (fun _ => k0 (by omega)) fun _ => k1 (by omega) 1 rfl)
theorem u_X9_read_57_1 {J : MM → Prop} (S : ai_SP ax_T J ap_X9_read_57_1) {sc : List Int} {d : Nat} {M : MM} {Q : Vv → MM → Prop} {v2 : Int} (h0 : 1 ≤ v2 ∧ v2 ≤ 120) (G : ai_GI ax_T M) (j : J M) (k0 : ∀ (r : Int) (M1 : MM), (-1000000000) ≤ r → r ≤ 63 → ai_GI ax_T M1 → ai_Fr ax_T ap_X9_read_57_1.2.2.2.1 M M1 → Q (vi r) M1) : CA FF sc YF (d + 4) m_X9_read [vr 57, vr 1, vi v2] M Q := by
  refine S sc d (ax_rh [v2]) M _ Q rfl rfl (And.intro (ax_r) (And.intro (ax_r) (And.intro (ax_i (by decide) rfl) (And.intro (ax_o) (And.intro (ax_o) (And.intro (ax_o) (And.intro (ax_o) trivial))))))) ⟨(ax_e1 (by decide) h0.1 h0.2 ax_e0), ax_f0, ax_c0, ax_m0⟩ G j (fun r M1 g f hq => ?_)
  replace hq := ax_q1 hq
  obtain ⟨-, ρ1, e0, hr, kE, kF, kC, kN⟩ := hq
  have hr : r = vi (ρ1 1) := hr
  have e1 : ρ1 0 = v2 := e0 0 (by decide)
  have b0 := kE _ (List.mem_cons_self)
  have b0 : (-1000000000) ≤ ρ1 1 ∧ ρ1 1 ≤ 63 := b0.2
  rw [hr]
  exact k0 _ _ (by omega) (by omega) g f
theorem u_X8_dropFromWalls_46_57 {J : MM → Prop} (S : ai_SP ax_T J ap_X8_dropFromWalls_46_57) {sc : List Int} {d : Nat} {M : MM} {Q : Vv → MM → Prop}  (G : ai_GI ax_T M) (j : J M) (k0 : ∀ (r : Int) (M1 : MM), 0 ≤ r → r ≤ 0 → ai_GI ax_T M1 → ai_Fr ax_T ap_X8_dropFromWalls_46_57.2.2.2.1 M M1 → Q (vi r) M1) : CA FF sc YF (d + 3) m_X8_dropFromWalls [vr 46, vr 57] M Q := by
  refine S sc d (ax_rh []) M _ Q rfl rfl (And.intro (ax_r) (And.intro (ax_r) (And.intro (ax_o) trivial))) ⟨ax_e0, ax_f0, ax_c0, ax_m0⟩ G j (fun r M1 g f hq => ?_)
  replace hq := ax_q1 hq
  obtain ⟨-, ρ1, e0, hr, kE, kF, kC, kN⟩ := hq
  have hr : r = vi (ρ1 0) := hr
  have b0 := kE _ (List.mem_cons_self)
  have b0 : 0 ≤ ρ1 0 ∧ ρ1 0 ≤ 0 := b0.2
  rw [hr]
  exact k0 _ _ (by omega) (by omega) g f
theorem u_X9_read_61_1 {J : MM → Prop} (S : ai_SP ax_T J ap_X9_read_61_1) {sc : List Int} {d : Nat} {M : MM} {Q : Vv → MM → Prop} {v2 : Int} (h0 : 1 ≤ v2 ∧ v2 ≤ 120) (G : ai_GI ax_T M) (j : J M) (k0 : ∀ (r : Int) (M1 : MM), (-1000000000) ≤ r → r ≤ 63 → ai_GI ax_T M1 → ai_Fr ax_T ap_X9_read_61_1.2.2.2.1 M M1 → Q (vi r) M1) : CA FF sc YF (d + 4) m_X9_read [vr 61, vr 1, vi v2] M Q := by
  refine S sc d (ax_rh [v2]) M _ Q rfl rfl (And.intro (ax_r) (And.intro (ax_r) (And.intro (ax_i (by decide) rfl) (And.intro (ax_o) (And.intro (ax_o) (And.intro (ax_o) (And.intro (ax_o) trivial))))))) ⟨(ax_e1 (by decide) h0.1 h0.2 ax_e0), ax_f0, ax_c0, ax_m0⟩ G j (fun r M1 g f hq => ?_)
  replace hq := ax_q1 hq
  obtain ⟨-, ρ1, e0, hr, kE, kF, kC, kN⟩ := hq
  have hr : r = vi (ρ1 1) := hr
  have e1 : ρ1 0 = v2 := e0 0 (by decide)
  have b0 := kE _ (List.mem_cons_self)
  have b0 : (-1000000000) ≤ ρ1 1 ∧ ρ1 1 ≤ 63 := b0.2
  rw [hr]
  exact k0 _ _ (by omega) (by omega) g f
theorem u_X8_dropFromWalls_46_61 {J : MM → Prop} (S : ai_SP ax_T J ap_X8_dropFromWalls_46_61) {sc : List Int} {d : Nat} {M : MM} {Q : Vv → MM → Prop}  (G : ai_GI ax_T M) (j : J M) (k0 : ∀ (r : Int) (M1 : MM), 0 ≤ r → r ≤ 0 → ai_GI ax_T M1 → ai_Fr ax_T ap_X8_dropFromWalls_46_61.2.2.2.1 M M1 → Q (vi r) M1) : CA FF sc YF (d + 3) m_X8_dropFromWalls [vr 46, vr 61] M Q := by
  refine S sc d (ax_rh []) M _ Q rfl rfl (And.intro (ax_r) (And.intro (ax_r) (And.intro (ax_o) trivial))) ⟨ax_e0, ax_f0, ax_c0, ax_m0⟩ G j (fun r M1 g f hq => ?_)
  replace hq := ax_q1 hq
  obtain ⟨-, ρ1, e0, hr, kE, kF, kC, kN⟩ := hq
  have hr : r = vi (ρ1 0) := hr
  have b0 := kE _ (List.mem_cons_self)
  have b0 : 0 ≤ ρ1 0 ∧ ρ1 0 ≤ 0 := b0.2
  rw [hr]
  exact k0 _ _ (by omega) (by omega) g f
theorem u_X1_read_22_1_65 {J : MM → Prop} (S : ai_SP ax_T J ap_X1_read_22_1_65) {sc : List Int} {d : Nat} {M : MM} {Q : Vv → MM → Prop} {v2 : Int} (h0 : 1 ≤ v2 ∧ v2 ≤ 240) (G : ai_GI ax_T M) (j : J M) (k0 : ∀ (r : Int) (M1 : MM), (-2147483648) ≤ r → r ≤ 2147483647 → ai_GI ax_T M1 → ai_Fr ax_T ap_X1_read_22_1_65.2.2.2.1 M M1 → Q (vi r) M1) : CA FF sc YF (d + 30) m_X1_read [vr 22, vr 1, vi v2, vr 65] M Q := by
  refine S sc d (ax_rh [v2]) M _ Q rfl rfl (And.intro (ax_r) (And.intro (ax_r) (And.intro (ax_i (by decide) rfl) (And.intro (ax_r) (And.intro (ax_o) (And.intro (ax_o) trivial)))))) ⟨(ax_e1 (by decide) h0.1 h0.2 ax_e0), ax_f0, ax_c0, ax_m0⟩ G j (fun r M1 g f hq => ?_)
  replace hq := ax_q1 hq
  obtain ⟨-, ρ1, e0, hr, kE, kF, kC, kN⟩ := hq
  have hr : r = vi (ρ1 1) := hr
  have e1 : ρ1 0 = v2 := e0 0 (by decide)
  have b0 := kE _ (List.mem_cons_self)
  have b0 : (-2147483648) ≤ ρ1 1 ∧ ρ1 1 ≤ 2147483647 := b0.2
  rw [hr]
  exact k0 _ _ (by omega) (by omega) g f
theorem u_X1_read_22_1_73 {J : MM → Prop} (S : ai_SP ax_T J ap_X1_read_22_1_73) {sc : List Int} {d : Nat} {M : MM} {Q : Vv → MM → Prop} {v2 : Int} (h0 : 1 ≤ v2 ∧ v2 ≤ 240) (G : ai_GI ax_T M) (j : J M) (k0 : ∀ (r : Int) (M1 : MM), (-2147483648) ≤ r → r ≤ 2147483647 → ai_GI ax_T M1 → ai_Fr ax_T ap_X1_read_22_1_73.2.2.2.1 M M1 → Q (vi r) M1) : CA FF sc YF (d + 30) m_X1_read [vr 22, vr 1, vi v2, vr 73] M Q := by
  refine S sc d (ax_rh [v2]) M _ Q rfl rfl (And.intro (ax_r) (And.intro (ax_r) (And.intro (ax_i (by decide) rfl) (And.intro (ax_r) (And.intro (ax_o) (And.intro (ax_o) trivial)))))) ⟨(ax_e1 (by decide) h0.1 h0.2 ax_e0), ax_f0, ax_c0, ax_m0⟩ G j (fun r M1 g f hq => ?_)
  replace hq := ax_q1 hq
  obtain ⟨-, ρ1, e0, hr, kE, kF, kC, kN⟩ := hq
  have hr : r = vi (ρ1 1) := hr
  have e1 : ρ1 0 = v2 := e0 0 (by decide)
  have b0 := kE _ (List.mem_cons_self)
  have b0 : (-2147483648) ≤ ρ1 1 ∧ ρ1 1 ≤ 2147483647 := b0.2
  rw [hr]
  exact k0 _ _ (by omega) (by omega) g f
theorem sx_quarter_57 {sc : List Int} {d : Nat} {Q : Vv → MM → Prop} {n : Int} {M : MM} (G : axG M) (e10 : M 0 10 = 58) (e11 : M 0 11 = 62) (k : ∀ (r : Int) (M1 : MM), axG M1 → UpX M M1 → M1 0 14 = M 0 14 → szX (1 ≤ n ∧ n ≤ 120 ∧ n ≤ M 1 1) M M1 → Q (vi r) M1) : CA FF sc YF (d + 6) m_X11_quarter [vr 0, vi n] M Q := by
  obtain ⟨g, j, w⟩ := G
  refine ca_X11_quarter n M (s_hasText n 120 M (fun h => ?_) fun h x hx => ?_)
  · exact k _ M ⟨g, j, w⟩ UpX.rf rfl (.inl ⟨h, rfl⟩)
  · refine brT (by omega) ?_
    rw [e11]
    refine gA (by decide) (gB rfl (u_X9_read_61_1 (ah_X9_read_61_1 axH) (v2 := n) ⟨h.1, h.2.1⟩ g j fun r M3 _ _ g3 f3 => ?_))
    have u3 : UpX M M3 := upX_fr f3 (by decide +kernel)
    have a10 : M3 0 10 = 58 := (ax_frO f3 rfl (by decide +kernel)).trans e10
    have a11 : M3 0 11 = 62 := (ax_frO f3 rfl (by decide +kernel)).trans e11
    have a12 : M3 0 12 = M 0 12 := ax_frO f3 rfl (by decide +kernel)
    have a13 : M3 0 13 = M 0 13 := ax_frO f3 rfl (by decide +kernel)
    have a14 : M3 0 14 = M 0 14 := ax_frO f3 rfl (by decide +kernel)
    have g5 : ai_GI ax_T (stM M3 1 1 0) := sO_1_1 g3 (by decide) (by decide)
    have u5 : UpX M (stM M3 1 1 0) := u3.st (by decide)
    have b : ∀ i, stM M3 1 1 0 0 i = M3 0 i := fun i => stN (by decide)
    refine ca_X7_empty M3 (brP (fun _ => ?_) fun _ => ?_)
    · refine k r _ ⟨g5, u5.j j, axW_eq ((b 10).trans (a10.trans e10.symm)) ((b 11).trans (a11.trans e11.symm)) ((b 12).trans a12) ((b 13).trans a13) w⟩ u5 ((b 14).trans a14) (.inr ⟨h, if_pos ⟨rfl, rfl⟩⟩)
    · rw [b 10, b 11, a10, a11]
      refine gA (by decide) (gA (by decide) (gA (show (0 : Int) < 62 by decide) ?_))
      have g6 : ai_GI ax_T (stM (stM (stM M3 1 1 0) 0 10 62) 0 11 58) := sO_0_11 (sO_0_10 g5 (by decide) (by decide)) (by decide) (by decide)
      have u6 : UpX M (stM (stM (stM M3 1 1 0) 0 10 62) 0 11 58) := (u5.st (by decide)).st (by decide)
      refine u_X8_dropFromWalls_46_61 (ah_X8_dropFromWalls_46_61 axH) (M := stM (stM (stM M3 1 1 0) 0 10 62) 0 11 58) g6 (u6.j j) fun r' M7 _ _ g7 f7 => ?_
      have u7 : UpX M M7 := u6.tr (upX_fr f7 (by decide +kernel))
      have c10 : M7 0 10 = 62 := (ax_frO f7 rfl (by decide +kernel)).trans rfl
      have c11 : M7 0 11 = 58 := (ax_frO f7 rfl (by decide +kernel)).trans rfl
      have c12 : M7 0 12 = M 0 12 := (ax_frO f7 rfl (by decide +kernel)).trans a12
      have c13 : M7 0 13 = M 0 13 := (ax_frO f7 rfl (by decide +kernel)).trans a13
      have c14 : M7 0 14 = M 0 14 := (ax_frO f7 rfl (by decide +kernel)).trans a14
      have c1 : M7 1 1 = 0 := (ax_frO f7 rfl (by decide +kernel)).trans rfl
      exact k r M7 ⟨g7, u7.j j, ⟨.inr ⟨c10, c11⟩, by rw [c12, c13]; exact w.2⟩⟩ u7 c14 (.inr ⟨h, c1⟩)
theorem sx_quarter_61 {sc : List Int} {d : Nat} {Q : Vv → MM → Prop} {n : Int} {M : MM} (G : axG M) (e10 : M 0 10 = 62) (e11 : M 0 11 = 58) (k : ∀ (r : Int) (M1 : MM), axG M1 → UpX M M1 → M1 0 14 = M 0 14 → szX (1 ≤ n ∧ n ≤ 120 ∧ n ≤ M 1 1) M M1 → Q (vi r) M1) : CA FF sc YF (d + 6) m_X11_quarter [vr 0, vi n] M Q := by
  obtain ⟨g, j, w⟩ := G
  refine ca_X11_quarter n M (s_hasText n 120 M (fun h => ?_) fun h x hx => ?_)
  · exact k _ M ⟨g, j, w⟩ UpX.rf rfl (.inl ⟨h, rfl⟩)
  · refine brT (by omega) ?_
    rw [e11]
    refine gA (by decide) (gB rfl (u_X9_read_57_1 (ah_X9_read_57_1 axH) (v2 := n) ⟨h.1, h.2.1⟩ g j fun r M3 _ _ g3 f3 => ?_))
    have u3 : UpX M M3 := upX_fr f3 (by decide +kernel)
    have a10 : M3 0 10 = 62 := (ax_frO f3 rfl (by decide +kernel)).trans e10
    have a11 : M3 0 11 = 58 := (ax_frO f3 rfl (by decide +kernel)).trans e11
    have a12 : M3 0 12 = M 0 12 := ax_frO f3 rfl (by decide +kernel)
    have a13 : M3 0 13 = M 0 13 := ax_frO f3 rfl (by decide +kernel)
    have a14 : M3 0 14 = M 0 14 := ax_frO f3 rfl (by decide +kernel)
    have g5 : ai_GI ax_T (stM M3 1 1 0) := sO_1_1 g3 (by decide) (by decide)
    have u5 : UpX M (stM M3 1 1 0) := u3.st (by decide)
    have b : ∀ i, stM M3 1 1 0 0 i = M3 0 i := fun i => stN (by decide)
    refine ca_X7_empty M3 (brP (fun _ => ?_) fun _ => ?_)
    · refine k r _ ⟨g5, u5.j j, axW_eq ((b 10).trans (a10.trans e10.symm)) ((b 11).trans (a11.trans e11.symm)) ((b 12).trans a12) ((b 13).trans a13) w⟩ u5 ((b 14).trans a14) (.inr ⟨h, if_pos ⟨rfl, rfl⟩⟩)
    · rw [b 10, b 11, a10, a11]
      refine gA (by decide) (gA (by decide) (gA (show (0 : Int) < 58 by decide) ?_))
      have g6 : ai_GI ax_T (stM (stM (stM M3 1 1 0) 0 10 58) 0 11 62) := sO_0_11 (sO_0_10 g5 (by decide) (by decide)) (by decide) (by decide)
      have u6 : UpX M (stM (stM (stM M3 1 1 0) 0 10 58) 0 11 62) := (u5.st (by decide)).st (by decide)
      refine u_X8_dropFromWalls_46_57 (ah_X8_dropFromWalls_46_57 axH) (M := stM (stM (stM M3 1 1 0) 0 10 58) 0 11 62) g6 (u6.j j) fun r' M7 _ _ g7 f7 => ?_
      have u7 : UpX M M7 := u6.tr (upX_fr f7 (by decide +kernel))
      have c10 : M7 0 10 = 58 := (ax_frO f7 rfl (by decide +kernel)).trans rfl
      have c11 : M7 0 11 = 62 := (ax_frO f7 rfl (by decide +kernel)).trans rfl
      have c12 : M7 0 12 = M 0 12 := (ax_frO f7 rfl (by decide +kernel)).trans a12
      have c13 : M7 0 13 = M 0 13 := (ax_frO f7 rfl (by decide +kernel)).trans a13
      have c14 : M7 0 14 = M 0 14 := (ax_frO f7 rfl (by decide +kernel)).trans a14
      have c1 : M7 1 1 = 0 := (ax_frO f7 rfl (by decide +kernel)).trans rfl
      exact k r M7 ⟨g7, u7.j j, ⟨.inl ⟨c10, c11⟩, by rw [c12, c13]; exact w.2⟩⟩ u7 c14 (.inr ⟨h, c1⟩)
theorem sx_law_65 {sc : List Int} {d : Nat} {Q : Vv → MM → Prop} {n : Int} {M : MM} (G : axG M) (e12 : M 0 12 = 66) (e13 : M 0 13 = 74) (k : ∀ (r : Int) (M1 : MM), axG M1 → UpX M M1 → M1 0 14 = M 0 14 → szX (1 ≤ n ∧ n ≤ 240 ∧ n ≤ M 1 1) M M1 → Keep kpL M M1 → Q (vi r) M1) : CA FF sc YF (d + 40) m_X11_law [vr 0, vi n] M Q := by
  obtain ⟨g, j, w⟩ := G
  refine ca_X11_law n M (s_hasText n 240 M (fun h => ?_) fun h x hx => ?_)
  · exact k _ M ⟨g, j, w⟩ UpX.rf rfl (.inl ⟨h, rfl⟩) Keep.rf
  · refine brT (by omega) ?_
    rw [e13]
    refine gA (by decide) (u_X1_read_22_1_73 (ah_X1_read_22_1_73 axH) (v2 := n) ⟨h.1, h.2.1⟩ g j fun r M3 _ _ g3 f3 => ?_)
    have u3 : UpX M M3 := upX_fr f3 (by decide +kernel)
    have a10 : M3 0 10 = M 0 10 := ax_frO f3 rfl (by decide +kernel)
    have a11 : M3 0 11 = M 0 11 := ax_frO f3 rfl (by decide +kernel)
    have a12 : M3 0 12 = 66 := (ax_frO f3 rfl (by decide +kernel)).trans e12
    have a13 : M3 0 13 = 74 := (ax_frO f3 rfl (by decide +kernel)).trans e13
    have a14 : M3 0 14 = M 0 14 := ax_frO f3 rfl (by decide +kernel)
    have g5 : ai_GI ax_T (stM M3 1 1 0) := sO_1_1 g3 (by decide) (by decide)
    have u5 : UpX M (stM M3 1 1 0) := u3.st (by decide)
    have b : ∀ i, stM M3 1 1 0 0 i = M3 0 i := fun i => stN (by decide)
    refine ca_X7_empty M3 (brP (fun _ => ?_) fun _ => ?_)
    · refine k r _ ⟨g5, u5.j j, axW_eq ((b 10).trans a10) ((b 11).trans a11) ((b 12).trans (a12.trans e12.symm)) ((b 13).trans (a13.trans e13.symm)) w⟩ u5 ((b 14).trans a14) (.inr ⟨h, if_pos ⟨rfl, rfl⟩⟩) ((Keep.of_fr f3 (by decide +kernel)).st (by decide +kernel))
    · rw [b 12, b 13, a12, a13]
      refine gA (by decide) (gA (by decide) ?_)
      have g6 : ai_GI ax_T (stM (stM (stM M3 1 1 0) 0 12 74) 0 13 66) := sO_0_13 (sO_0_12 g5 (by decide) (by decide)) (by decide) (by decide)
      have u6 : UpX M (stM (stM (stM M3 1 1 0) 0 12 74) 0 13 66) := (u5.st (by decide)).st (by decide)
      exact k r (stM (stM (stM M3 1 1 0) 0 12 74) 0 13 66) ⟨g6, u6.j j, ⟨by rw [show stM (stM (stM M3 1 1 0) 0 12 74) 0 13 66 0 10 = M 0 10 from a10, show stM (stM (stM M3 1 1 0) 0 12 74) 0 13 66 0 11 = M 0 11 from a11]; exact w.1, .inr ⟨rfl, rfl⟩⟩⟩ u6 a14 (.inr ⟨h, rfl⟩) ((((Keep.of_fr f3 (by decide +kernel)).st (by decide +kernel)).st (by decide +kernel)).st (by decide +kernel))
theorem sx_law_73 {sc : List Int} {d : Nat} {Q : Vv → MM → Prop} {n : Int} {M : MM} (G : axG M) (e12 : M 0 12 = 74) (e13 : M 0 13 = 66) (k : ∀ (r : Int) (M1 : MM), axG M1 → UpX M M1 → M1 0 14 = M 0 14 → szX (1 ≤ n ∧ n ≤ 240 ∧ n ≤ M 1 1) M M1 → Keep kpL M M1 → Q (vi r) M1) : CA FF sc YF (d + 40) m_X11_law [vr 0, vi n] M Q := by
  obtain ⟨g, j, w⟩ := G
  refine ca_X11_law n M (s_hasText n 240 M (fun h => ?_) fun h x hx => ?_)
  · exact k _ M ⟨g, j, w⟩ UpX.rf rfl (.inl ⟨h, rfl⟩) Keep.rf
  · refine brT (by omega) ?_
    rw [e13]
    refine gA (by decide) (u_X1_read_22_1_65 (ah_X1_read_22_1_65 axH) (v2 := n) ⟨h.1, h.2.1⟩ g j fun r M3 _ _ g3 f3 => ?_)
    have u3 : UpX M M3 := upX_fr f3 (by decide +kernel)
    have a10 : M3 0 10 = M 0 10 := ax_frO f3 rfl (by decide +kernel)
    have a11 : M3 0 11 = M 0 11 := ax_frO f3 rfl (by decide +kernel)
    have a12 : M3 0 12 = 74 := (ax_frO f3 rfl (by decide +kernel)).trans e12
    have a13 : M3 0 13 = 66 := (ax_frO f3 rfl (by decide +kernel)).trans e13
    have a14 : M3 0 14 = M 0 14 := ax_frO f3 rfl (by decide +kernel)
    have g5 : ai_GI ax_T (stM M3 1 1 0) := sO_1_1 g3 (by decide) (by decide)
    have u5 : UpX M (stM M3 1 1 0) := u3.st (by decide)
    have b : ∀ i, stM M3 1 1 0 0 i = M3 0 i := fun i => stN (by decide)
    refine ca_X7_empty M3 (brP (fun _ => ?_) fun _ => ?_)
    · refine k r _ ⟨g5, u5.j j, axW_eq ((b 10).trans a10) ((b 11).trans a11) ((b 12).trans (a12.trans e12.symm)) ((b 13).trans (a13.trans e13.symm)) w⟩ u5 ((b 14).trans a14) (.inr ⟨h, if_pos ⟨rfl, rfl⟩⟩) ((Keep.of_fr f3 (by decide +kernel)).st (by decide +kernel))
    · rw [b 12, b 13, a12, a13]
      refine gA (by decide) (gA (by decide) ?_)
      have g6 : ai_GI ax_T (stM (stM (stM M3 1 1 0) 0 12 66) 0 13 74) := sO_0_13 (sO_0_12 g5 (by decide) (by decide)) (by decide) (by decide)
      have u6 : UpX M (stM (stM (stM M3 1 1 0) 0 12 66) 0 13 74) := (u5.st (by decide)).st (by decide)
      exact k r (stM (stM (stM M3 1 1 0) 0 12 66) 0 13 74) ⟨g6, u6.j j, ⟨by rw [show stM (stM (stM M3 1 1 0) 0 12 66) 0 13 74 0 10 = M 0 10 from a10, show stM (stM (stM M3 1 1 0) 0 12 66) 0 13 74 0 11 = M 0 11 from a11]; exact w.1, .inl ⟨rfl, rfl⟩⟩⟩ u6 a14 (.inr ⟨h, rfl⟩) ((((Keep.of_fr f3 (by decide +kernel)).st (by decide +kernel)).st (by decide +kernel)).st (by decide +kernel))
