/-! PART 52: by hand: rotas of the reference -/
theorem u_X12_differs {J : MM → Prop} (S : ai_SP ax_T J ap_X12_differs) {sc : List Int} {d : Nat} {M : MM} {Q : Vv → MM → Prop} {v1 : Int} (h0 : 0 ≤ v1 ∧ v1 ≤ 1023) (G : ai_GI ax_T M) (j : J M) (k0 : ∀ (r : Int) (M1 : MM), (-1000000000) ≤ r → r ≤ 3 → ai_GI ax_T M1 → ai_Fr ax_T ap_X12_differs.2.2.2.1 M M1 → Q (vi r) M1) : CA FF sc YF (d + 2) m_X12_differs [vr 81, vi v1] M Q := by
  refine S sc d (ax_rh [v1]) M _ Q rfl rfl (And.intro (ax_r) (And.intro (ax_i (by decide) rfl) (And.intro (ax_o) (And.intro (ax_o) (And.intro (ax_o) trivial))))) ⟨(ax_e1 (by decide) h0.1 h0.2 ax_e0), ax_f0, ax_c0, ax_m0⟩ G j (fun r M1 g f hq => ?_)
  replace hq := ax_q1 hq
  obtain ⟨-, ρ1, e0, hr, kE, kF, kC, kN⟩ := hq
  have hr : r = vi (ρ1 1) := hr
  have e1 : ρ1 0 = v1 := e0 0 (by decide)
  have b0 := kE _ (List.mem_cons_self)
  have b0 : (-1000000000) ≤ ρ1 1 ∧ ρ1 1 ≤ 3 := b0.2
  rw [hr]
  exact k0 _ _ (by omega) (by omega) g f
theorem u_X12_sumOf {J : MM → Prop} (S : ai_SP ax_T J ap_X12_sumOf) {sc : List Int} {d : Nat} {M : MM} {Q : Vv → MM → Prop} {v1 : Int} (h0 : 0 ≤ v1 ∧ v1 ≤ 1023) (G : ai_GI ax_T M) (j : J M) (k0 : ∀ (r : Int) (M1 : MM), 0 ≤ r → r ≤ 15 → ai_GI ax_T M1 → ai_Fr ax_T ap_X12_sumOf.2.2.2.1 M M1 → Q (vi r) M1) : CA FF sc YF (d + 2) m_X12_sumOf [vr 81, vi v1] M Q := by
  refine S sc d (ax_rh [v1]) M _ Q rfl rfl (And.intro (ax_r) (And.intro (ax_i (by decide) rfl) (And.intro (ax_o) (And.intro (ax_o) trivial)))) ⟨(ax_e1 (by decide) h0.1 h0.2 ax_e0), ax_f0, ax_c0, ax_m0⟩ G j (fun r M1 g f hq => ?_)
  replace hq := ax_q1 hq
  obtain ⟨-, ρ1, e0, hr, kE, kF, kC, kN⟩ := hq
  have hr : r = vi (ρ1 1) := hr
  have e1 : ρ1 0 = v1 := e0 0 (by decide)
  have b0 := kE _ (List.mem_cons_self)
  have b0 : 0 ≤ ρ1 1 ∧ ρ1 1 ≤ 15 := b0.2
  rw [hr]
  exact k0 _ _ (by omega) (by omega) g f
def stI (k c l : Int) : Int := 6144 * k + 6 * c + l
def mnB (M0 : MM) (k c l i : Int) : Prop := i ≠ l ∧ bAnd (bShr c (2 * i)) 3 < M0 81 58 ∧ mh M0 (M0 118 i.toNat) (w32 (M0 82 34 + k)) ≠ 0
def nxB (M0 M : MM) (k c l i : Int) : Prop := mnB M0 k c l i ∧ M 116 (stI (k + 1) (c + bShl 1 (2 * i)) i).toNat ≠ 0
def tpB (M0 M : MM) (k c l : Int) : Prop := M 116 (stI k c l).toNat ≠ 0 → ∃ i, (0 ≤ i ∧ i < M0 81 57) ∧ nxB M0 M k c l i
def lrI (M0 M : MM) : Prop := ai_GI ax_T M ∧ ∀ c, c ≠ 108 → c ≠ 109 → c ≠ 116 → c ≠ 117 → ∀ j, M c j = M0 c j
/-- the states that are done hold what they should -/
def TB (M0 M : MM) (n S k c l : Int) : Prop := ∀ k' c' l', (0 ≤ k' ∧ k' < n) → (0 ≤ c' ∧ c' < S) → (0 ≤ l' ∧ l' ≤ 5) → (k < k' ∨ (k' = k ∧ (c' < c ∨ (c' = c ∧ l' < l)))) → tpB M0 M k' c' l'
def cs4 (m : Int) : Int := bShl 1 (2 * m)
theorem cs4_at {m : Int} (h : 0 ≤ m ∧ m ≤ 5) : (m = 0 ∧ cs4 m = 1) ∨ (m = 1 ∧ cs4 m = 4) ∨ (m = 2 ∧ cs4 m = 16) ∨ (m = 3 ∧ cs4 m = 64) ∨ (m = 4 ∧ cs4 m = 256) ∨ (m = 5 ∧ cs4 m = 1024) := by
  obtain rfl | rfl | rfl | rfl | rfl | rfl : m = 0 ∨ m = 1 ∨ m = 2 ∨ m = 3 ∨ m = 4 ∨ m = 5 := by omega
  all_goals decide
theorem cnt_at {c i : Int} (hc : 0 ≤ c ∧ c < 1024) (hi : 0 ≤ i ∧ i ≤ 4) : bAnd (bShr c (2 * i)) 3 = c / cs4 i % 4 := by
  have h1 := rows_shr (2 * i).toNat (by omega) c.toNat (by omega)
  rw [Int.toNat_of_nonneg (a := 2 * i) (by omega), Int.toNat_of_nonneg hc.1] at h1
  rw [h1]
  have h2 := rows_and (c.toNat / 2 ^ (2 * i).toNat) (Nat.lt_of_le_of_lt (Nat.div_le_self _ _) (by omega))
  rw [h2, Int.natCast_emod, Int.natCast_ediv, Int.toNat_of_nonneg hc.1]
  obtain ⟨rfl, e⟩ | ⟨rfl, e⟩ | ⟨rfl, e⟩ | ⟨rfl, e⟩ | ⟨rfl, e⟩ | ⟨rfl, e⟩ := cs4_at (m := i) ⟨hi.1, by omega⟩
  all_goals (rw [e]; rfl)
theorem cs4_add {m c i : Int} (hm : 0 ≤ m ∧ m ≤ 5) (hi : 0 ≤ i ∧ i < m) (hc : 0 ≤ c ∧ c < cs4 m) (hd : bAnd (bShr c (2 * i)) 3 < 3) : 0 ≤ c + bShl 1 (2 * i) ∧ c + bShl 1 (2 * i) < cs4 m ∧ cs4 m ≤ 1024 := by
  have hcm := cs4_at hm
  have hci := cs4_at (m := i) ⟨hi.1, by omega⟩
  rw [cnt_at ⟨hc.1, by omega⟩ ⟨hi.1, by omega⟩] at hd
  show 0 ≤ c + cs4 i ∧ c + cs4 i < cs4 m ∧ cs4 m ≤ 1024
  generalize cs4 m = S at hcm hc ⊢
  generalize cs4 i = T at hci hd ⊢
  rcases hci with ⟨h1, rfl⟩ | ⟨h1, rfl⟩ | ⟨h1, rfl⟩ | ⟨h1, rfl⟩ | ⟨h1, rfl⟩ | ⟨h1, rfl⟩ <;> rcases hcm with ⟨h2, rfl⟩ | ⟨h2, rfl⟩ | ⟨h2, rfl⟩ | ⟨h2, rfl⟩ | ⟨h2, rfl⟩ | ⟨h2, rfl⟩ <;> omega
theorem stI_r {k c l : Int} (hk : 0 ≤ k ∧ k ≤ 14) (hc : 0 ≤ c ∧ c ≤ 1023) (hl : 0 ≤ l ∧ l ≤ 5) : 0 ≤ stI k c l ∧ stI k c l < 92160 := by
  unfold stI
  omega
theorem stI_ne {k c l k' c' l' : Int} (hk : 0 ≤ k) (hk' : 0 ≤ k') (hc : 0 ≤ c ∧ c ≤ 1023) (hl : 0 ≤ l ∧ l ≤ 5) (hc' : 0 ≤ c' ∧ c' ≤ 1023) (hl' : 0 ≤ l' ∧ l' ≤ 5) (h : ¬ (k = k' ∧ c = c' ∧ l = l')) : (stI k c l).toNat ≠ (stI k' c' l').toNat := by
  unfold stI
  intro q
  apply h
  omega
theorem mh_eq {M M0 : MM} (h : M 81 19 = M0 81 19 ∧ M 97 = M0 97 ∧ M 98 = M0 98 ∧ M 99 = M0 99 ∧ M 100 = M0 100 ∧ M 101 = M0 101) (a b : Int) : mh M a b = mh M0 a b := by
  unfold mh
  rw [h.1, h.2.1, h.2.2.1, h.2.2.2.2.1, h.2.2.2.2.2]
theorem lrI.J {M0 M : MM} (I : lrI M0 M) : M 81 19 = M0 81 19 ∧ M 97 = M0 97 ∧ M 98 = M0 98 ∧ M 99 = M0 99 ∧ M 100 = M0 100 ∧ M 101 = M0 101 := ⟨I.2 81 (by decide) (by decide) (by decide) (by decide) 19, funext (I.2 97 (by decide) (by decide) (by decide) (by decide)), funext (I.2 98 (by decide) (by decide) (by decide) (by decide)), funext (I.2 99 (by decide) (by decide) (by decide) (by decide)), funext (I.2 100 (by decide) (by decide) (by decide) (by decide)), funext (I.2 101 (by decide) (by decide) (by decide) (by decide))⟩
section RTS
variable {sc : List Int} {d : Nat} {Q : Vv → MM → Prop} {M0 : MM}
theorem s_rotaState {k c l : Int} {M : MM} (hk : 0 ≤ k ∧ k ≤ 14) (hc : 0 ≤ c ∧ c ≤ 1023) (hl : 0 ≤ l ∧ l ≤ 5) (q : ∀ x : Int, x = stI k c l → Q (vi x) M) : CA FF sc YF (d + 1) m_X12_rotaState [vi k, vi c, vi l] M Q := by
  refine ca_X12_rotaState k c l M ?_
  rw [ew32 (z := 6144 * k) (by omega) (by omega), ew32 (z := 6 * c) (by omega) (by omega), ew32 (z := 6144 * k + 6 * c) (by omega) (by omega), ew32 (z := 6144 * k + 6 * c + l) (by omega) (by omega)]
  exact q _ rfl
theorem s_mayNext {M : MM} (J : axJ M0) (I : lrI M0 M) {k c l i : Int} (hi : 0 ≤ i ∧ i < 5) (k0 : ∀ M1, lrI M0 M1 → M1 116 = M 116 → ¬ mnB M0 k c l i → ∀ x : Int, x = 0 → Q (vi x) M1) (k1 : ∀ M1, lrI M0 M1 → M1 116 = M 116 → mnB M0 k c l i → ∀ x : Int, x = 1 → Q (vi x) M1) : CA FF sc YF (d + 5) m_X12_mayNext [vr 81, vi k, vi c, vi l, vi i] M Q := by
  refine ca_X12_mayNext k c l i M (brP (fun h => k0 M I rfl (fun q => q.1 h) 0 rfl) fun h => ca_X12_countIn c i M ?_)
  rw [ew32 (z := 2 * i) (by omega) (by omega)]
  have e58 : M 81 58 = M0 81 58 := I.2 81 (by decide) (by decide) (by decide) (by decide) 58
  have e118 : M 118 i.toNat = M0 118 i.toNat := I.2 118 (by decide) (by decide) (by decide) (by decide) _
  have e34 : M 82 34 = M0 82 34 := I.2 82 (by decide) (by decide) (by decide) (by decide) 34
  show brA (decide (M 81 58 ≤ bAnd (bShr c (2 * i)) 3)) _ _
  rw [e58, e118, e34]
  refine brP (fun h2 => k0 M I rfl (fun q => by have := q.2.1; omega) 0 rfl) fun h2 => gI hi.1 (by omega) ?_
  have g := rA_118 I.1 i.toNat
  rw [e118] at g
  refine s_mayHaunt ⟨by omega, by omega⟩ (in_w32 _) I.1 (axJ_eq I.J J) fun M1 G1 h1 hx => ?_
  rw [mh_eq I.J]
  have I1 : lrI M0 M1 := ⟨G1, fun c c8 c9 c16 c17 j => (h1 c c8 c9 j).trans (I.2 c c8 c9 c16 c17 j)⟩
  have e116 : M1 116 = M 116 := funext (h1 116 (by decide) (by decide))
  exact brP (fun h3 => k0 M1 I1 e116 (fun q => q.2.2 h3) 0 rfl) fun h3 => k1 M1 I1 e116 ⟨h, by omega, h3⟩ 1 rfl
theorem tpB_eq {M M1 : MM} (e : M1 116 = M 116) {k c l : Int} (h : tpB M0 M k c l) : tpB M0 M1 k c l := by
  unfold tpB nxB
  rw [e]
  exact h
theorem TB.eq {M M1 : MM} (e : M1 116 = M 116) {n S k c l : Int} (h : TB M0 M n S k c l) : TB M0 M1 n S k c l := fun k' c' l' a b c d => tpB_eq e (h k' c' l' a b c d)
/-- one more state -/
theorem TB.one {M M1 : MM} {n S k c l v : Int} (hm : 0 ≤ M0 81 57 ∧ M0 81 57 ≤ 5) (hS : S = cs4 (M0 81 57)) (h58 : M0 81 58 ≤ 3) (hk : 0 ≤ k) (hc : 0 ≤ c ∧ c < S) (hl : 0 ≤ l ∧ l ≤ 5) (e : ∀ j, M1 116 j = if j = (stI k c l).toNat then v else M 116 j) (h : TB M0 M n S k c l) (hv : k < n → v ≠ 0 → ∃ i, (0 ≤ i ∧ i < M0 81 57) ∧ nxB M0 M k c l i) : TB M0 M1 n S k c (l + 1) := by
  have h4 := cs4_at hm
  have hS2 : S ≤ 1024 := by omega
  have nx : ∀ k' c' l' i, k ≤ k' → (0 ≤ c' ∧ c' < S) → (0 ≤ i ∧ i < M0 81 57) → nxB M0 M k' c' l' i → nxB M0 M1 k' c' l' i := fun k' c' l' i hk' hc' hi q => by
    refine ⟨q.1, ?_⟩
    have hd := q.1.2.1
    have ha := cs4_add hm hi (by rw [← hS]; exact hc') (by omega)
    rw [e, if_neg (stI_ne (by omega) hk (by omega) (by omega) (by omega) hl (by omega))]
    exact q.2
  intro k' c' l' a b cc dd
  by_cases hcur : k' = k ∧ c' = c ∧ l' = l
  · obtain ⟨rfl, rfl, rfl⟩ := hcur
    intro q
    rw [e, if_pos rfl] at q
    obtain ⟨i, hi, hn⟩ := hv a.2 q
    exact ⟨i, hi, nx _ _ _ i (Int.le_refl _) b hi hn⟩
  · intro q
    rw [e, if_neg (stI_ne a.1 hk (by omega) cc (by omega) hl hcur)] at q
    obtain ⟨i, hi, hn⟩ := h k' c' l' a b cc (by omega) q
    exact ⟨i, hi, nx _ _ _ i (by omega) b hi hn⟩
end RTS
section RTL2
variable {sc : List Int} {d : Nat} {Q : Vv → MM → Prop} {M0 : MM}
def lrH (M0 : MM) (n S : Int) : Prop := axJ M0 ∧ (0 ≤ M0 81 57 ∧ M0 81 57 ≤ 5) ∧ S = cs4 (M0 81 57) ∧ M0 81 58 ≤ 3 ∧ (0 ≤ n ∧ n ≤ 14)
def rvP (M0 M : MM) (n k c l v : Int) : Prop := k < n → v ≠ 0 → ∃ i, (0 ≤ i ∧ i < M0 81 57) ∧ nxB M0 M k c l i
theorem nxB_eq {M M1 : MM} (e : M1 116 = M 116) {k c l i : Int} (h : nxB M0 M k c l i) : nxB M0 M1 k c l i := by
  unfold nxB
  rw [e]
  exact h
theorem lr96 {n S k c l : Int} (H : lrH M0 n S) (hk : 0 ≤ k ∧ k ≤ 14) (hc : 0 ≤ c ∧ c < S) (hl : 0 ≤ l ∧ l ≤ 5) (K : ∀ (o6 o7 o8 o9 o10 : Option Vv) (M : MM), lrI M0 M → TB M0 M n S k c (l + 1) → WP FF sc YF (d + 2) m_X12_laysRotas 18 [] [some (vr 81), some (vi n), some (vi S), some (vi k), some (vi c), some (vi (l + 1)), o6, o7, o8, o9, o10] M Q) (v6 v8 v9 : Int) (o10 : Option Vv) (M : MM) (I : lrI M0 M) (hT : TB M0 M n S k c l) (h6 : 0 ≤ v6 ∧ v6 ≤ 6000000000) (h8 : -1000000000 ≤ v8 ∧ v8 ≤ 1000000000) (hv : rvP M0 M n k c l v6) : WP FF sc YF (d + 2) m_X12_laysRotas 96 [] [some (vr 81), some (vi n), some (vi S), some (vi k), some (vi c), some (vi l), some (vl v6), none, some (vi v8), some (vi v9), o10] M Q := by
  obtain ⟨J, hm, hS, h58, hn⟩ := H
  have h4 := cs4_at hm
  have hc2 : 0 ≤ c ∧ c ≤ 1023 := by omega
  have hr := stI_r hk hc2 hl
  have h110 : ∀ s2 : Int, 0 ≤ s2 → s2 ≤ 1000000000 → (s2 ≠ 0 → v6 ≠ 0) → WP FF sc YF (d + 2) m_X12_laysRotas 110 [vi s2, vi (stI k c l), vr 116] [some (vr 81), some (vi n), some (vi S), some (vi k), some (vi c), some (vi l), some (vl v6), none, some (vi v8), some (vi v9), o10] M Q := fun s2 a b ab => by
    refine rg_X12_laysRotas_110 n S k c l v6 v8 v9 o10 116 (stI k c l) s2 M (gK rfl hr.1 (show _ < (92160 : Int) from hr.2) (s_rotaState hk hc2 hl fun x hx => gI (by omega) (by omega) ?_))
    subst hx
    rw [ew32 (z := l + 1) (by omega) (by omega)]
    refine K _ _ _ _ _ _ ⟨sA_117 (sA_116 I.1 a b) h8.1 h8.2, fun c c8 c9 c16 c17 j => by rw [stN c17, stN c16]; exact I.2 c c8 c9 c16 c17 j⟩ ?_
    refine TB.one hm hS h58 hk.1 hc hl (v := s2) (fun j => ?_) hT (fun a b => hv a (ab b))
    rw [stN (by decide), stM_at]
    by_cases q : j = (stI k c l).toNat
    · rw [if_pos ⟨rfl, q⟩, if_pos q]
    · rw [if_neg (fun z => q z.2), if_neg q]
  refine rg_X12_laysRotas_96 n S k c l v6 v8 v9 o10 M (s_rotaState hk hc2 hl fun x hx => ?_)
  subst hx
  have hf := flcm3 v6 1000000000
  refine brP (fun h => ?_) fun h => h110 1000000000 (by decide) (by decide) (fun _ => by omega)
  show WP _ _ _ _ _ _ [vi (w32 v6), _, _] _ _ _
  rw [ew32 (z := v6) (by omega) (by omega)]
  exact h110 v6 h6.1 (by omega) id
theorem lr39 {n S k c l : Int} (H : lrH M0 n S) (hk : 0 ≤ k ∧ k ≤ n) (hc : 0 ≤ c ∧ c < S) (hl : 0 ≤ l ∧ l ≤ 5) (K : ∀ (o6 o7 o8 o9 o10 : Option Vv) (M : MM), lrI M0 M → TB M0 M n S k c (l + 1) → WP FF sc YF (d + 6) m_X12_laysRotas 18 [] [some (vr 81), some (vi n), some (vi S), some (vi k), some (vi c), some (vi (l + 1)), o6, o7, o8, o9, o10] M Q) : ∀ (m : Nat) (i v6 v8 : Int) (o10 : Option Vv) (M : MM), (M0 81 57 - i).toNat ≤ m → 0 ≤ i → i ≤ 5 → lrI M0 M → TB M0 M n S k c l → (0 ≤ v6 ∧ v6 ≤ 1000000000 * i + 1000000000) → (-1000000000 ≤ v8 ∧ v8 ≤ 1000000000) → rvP M0 M n k c l v6 → WP FF sc YF (d + 6) m_X12_laysRotas 39 [] [some (vr 81), some (vi n), some (vi S), some (vi k), some (vi c), some (vi l), some (vl v6), none, some (vi v8), some (vi i), o10] M Q := by
  have H' := H
  obtain ⟨J, hm, hS, h58, hn⟩ := H
  have h4 := cs4_at hm
  intro m
  induction m with
  | zero =>
    intro i v6 v8 o10 M hmi hi hi5 I hT h6 h8 hv
    have e57 : M 81 57 = M0 81 57 := I.2 81 (by decide) (by decide) (by decide) (by decide) 57
    exact rg_X12_laysRotas_39 n S k c l v6 v8 i o10 M (brT (by omega) (lr96 (d := d + 4) H' ⟨hk.1, by omega⟩ hc hl K v6 v8 i o10 M I hT (by omega) h8 hv))
  | succ m ih =>
    intro i v6 v8 o10 M hmi hi hi5 I hT h6 h8 hv
    have e57 : M 81 57 = M0 81 57 := I.2 81 (by decide) (by decide) (by decide) (by decide) 57
    have out := lr96 (d := d + 4) H' ⟨hk.1, by omega⟩ hc hl K v6 v8 i o10 M I hT (by omega) h8 hv
    refine rg_X12_laysRotas_39 n S k c l v6 v8 i o10 M (brP (fun _ => out) fun him => brP (fun _ => out) fun hkn => u_X12_sumOf (ah_X12_sumOf axH) (v1 := c) (by omega) I.1 (axJ_eq I.J J) fun r M1 _ _ _ f => ?_)
    have e : M1 = M := ax_same f
    subst e
    refine brP (fun _ => out) fun _ => s_mayNext J I ⟨hi, by omega⟩ (fun M3 I3 e3 hmn x hx => brF (by omega) ?_) fun M3 I3 e3 hmn x hx => brT (by omega) ?_
    · rw [ew32 (z := i + 1) (by omega) (by omega)]
      exact ih (i + 1) v6 v8 o10 M3 (by omega) (by omega) (by omega) I3 (hT.eq e3) (by omega) h8 (fun a b => by
        obtain ⟨i', hi', hn'⟩ := hv a b
        exact ⟨i', hi', nxB_eq e3 hn'⟩)
    · have ha := cs4_add hm (i := i) ⟨hi, by omega⟩ (by rw [← hS]; exact hc) (by have := hmn.2.1; omega)
      rw [ew32 (z := k + 1) (by omega) (by omega), ew32 (z := 2 * i) (by omega) (by omega), ew32 (z := c + bShl 1 (2 * i)) (by omega) (by omega)]
      refine s_rotaState (k := k + 1) (by omega) (c := c + bShl 1 (2 * i)) (by omega) (l := i) (by omega) fun x hx => ?_
      have hr := stI_r (k := k + 1) (c := c + bShl 1 (2 * i)) (l := i) (by omega) (by omega) (by omega)
      rw [← hx] at hr
      have gx := rA_116 I3.1 x.toNat
      have gy := rA_117 I3.1 x.toNat
      have hv' : rvP M0 M3 n k c l (v6 + M3 116 x.toNat) := fun a b => by
        by_cases h0 : v6 = 0
        · exact ⟨i, ⟨hi, by omega⟩, hmn, by rw [← hx]; omega⟩
        · obtain ⟨i', hi', hn'⟩ := hv a h0
          exact ⟨i', hi', nxB_eq e3 hn'⟩
      have go : ∀ (v8' : Int) (o10 : Option Vv), (-1000000000 ≤ v8' ∧ v8' ≤ 1000000000) → WP FF sc YF (d + 6) m_X12_laysRotas 39 [] [some (vr 81), some (vi n), some (vi S), some (vi k), some (vi c), some (vi l), some (vl (w64 (v6 + M3 116 x.toNat))), none, some (vi v8'), some (vi (w32 (i + 1))), o10] M3 Q := fun v8' o10 h8' => by
        rw [ew32 (z := i + 1) (by omega) (by omega), ew64 (z := v6 + M3 116 x.toNat) (by omega) (by omega)]
        exact ih (i + 1) _ v8' o10 M3 (by omega) (by omega) (by omega) I3 (hT.eq e3) (by omega) h8' hv'
      exact gI (by omega) (by omega) (gI (by omega) (by omega) (brP (fun _ => go v8 _ h8) fun _ => gI (by omega) (by omega) (ca_X12_min _ _ _ (brP (fun _ => go _ _ gy) fun _ => go _ _ h8))))
theorem lr18 {n S k c : Int} (H : lrH M0 n S) (hk : 0 ≤ k ∧ k ≤ n) (hc : 0 ≤ c ∧ c < S) (K : ∀ (l : Int) (o6 o7 o8 o9 o10 : Option Vv) (M : MM), lrI M0 M → TB M0 M n S k (c + 1) 0 → WP FF sc YF (d + 6) m_X12_laysRotas 13 [] [some (vr 81), some (vi n), some (vi S), some (vi k), some (vi (c + 1)), some (vi l), o6, o7, o8, o9, o10] M Q) : ∀ (m : Nat) (l : Int) (o6 o7 o8 o9 o10 : Option Vv) (M : MM), (6 - l).toNat ≤ m → 0 ≤ l → l ≤ 6 → lrI M0 M → TB M0 M n S k c l → WP FF sc YF (d + 6) m_X12_laysRotas 18 [] [some (vr 81), some (vi n), some (vi S), some (vi k), some (vi c), some (vi l), o6, o7, o8, o9, o10] M Q := by
  have H' := H
  obtain ⟨J, hm, hS, h58, hn⟩ := H
  have h4 := cs4_at hm
  intro m
  induction m with
  | zero =>
    intro l o6 o7 o8 o9 o10 M hml hl hl6 I hT
    refine rg_X12_laysRotas_18 n S k c l o6 o7 o8 o9 o10 M (brT (by omega) ?_)
    rw [ew32 (z := c + 1) (by omega) (by omega)]
    exact K l _ _ _ _ _ M I (fun k' c' l' a b cc dd => hT k' c' l' a b cc (by omega))
  | succ m ih =>
    intro l o6 o7 o8 o9 o10 M hml hl hl6 I hT
    refine rg_X12_laysRotas_18 n S k c l o6 o7 o8 o9 o10 M (brP (fun h => ?_) fun h => ?_)
    · rw [ew32 (z := c + 1) (by omega) (by omega)]
      exact K l _ _ _ _ _ M I (fun k' c' l' a b cc dd => hT k' c' l' a b cc (by omega))
    · have nx := fun (o6 o7 o8 o9 o10 : Option Vv) (M : MM) (I : lrI M0 M) (hT : TB M0 M n S k c (l + 1)) => ih (l + 1) o6 o7 o8 o9 o10 M (by omega) (by omega) (by omega) I hT
      have h27 : ∀ s0 : Int, (s0 = 0 ∨ (s0 = 1 ∧ k = n)) → WP FF sc YF (d + 6) m_X12_laysRotas 27 [vl s0] [some (vr 81), some (vi n), some (vi S), some (vi k), some (vi c), some (vi l), o6, o7, o8, o9, o10] M Q := fun s0 hs => by
        refine rg_X12_laysRotas_27 n S k c l o6 o7 o8 o9 o10 s0 M (brP (fun hkn => ?_) fun hkn => u_X12_differs (ah_X12_differs axH) (v1 := c) (by omega) I.1 (axJ_eq I.J J) fun r M1 r1 r2 _ f => ?_)
        · exact lr39 (d := d) H' hk hc ⟨hl, by omega⟩ nx 5 0 s0 1000000000 o10 M (by omega) (by omega) (by omega) I hT (by omega) (by omega) (fun a b => by omega)
        · have e : M1 = M := ax_same f
          subst e
          exact lr39 (d := d) H' hk hc ⟨hl, by omega⟩ nx 5 0 s0 r o10 M1 (by omega) (by omega) (by omega) I hT (by omega) (by omega) (fun a b => by omega)
      exact brP (fun _ => h27 0 (.inl rfl)) fun hkn => h27 1 (.inr ⟨rfl, by omega⟩)
theorem lr13 {n S k : Int} (H : lrH M0 n S) (hk : 0 ≤ k ∧ k ≤ n) (K : ∀ (c : Int) (o5 o6 o7 o8 o9 o10 : Option Vv) (M : MM), lrI M0 M → TB M0 M n S (k - 1) 0 0 → WP FF sc YF (d + 6) m_X12_laysRotas 9 [] [some (vr 81), some (vi n), some (vi S), some (vi (k - 1)), some (vi c), o5, o6, o7, o8, o9, o10] M Q) : ∀ (m : Nat) (c : Int) (o5 o6 o7 o8 o9 o10 : Option Vv) (M : MM), (S - c).toNat ≤ m → 0 ≤ c → lrI M0 M → TB M0 M n S k c 0 → WP FF sc YF (d + 6) m_X12_laysRotas 13 [] [some (vr 81), some (vi n), some (vi S), some (vi k), some (vi c), o5, o6, o7, o8, o9, o10] M Q := by
  have H' := H
  obtain ⟨J, hm, hS, h58, hn⟩ := H
  have h4 := cs4_at hm
  intro m
  induction m with
  | zero =>
    intro c o5 o6 o7 o8 o9 o10 M hmc hc I hT
    refine rg_X12_laysRotas_13 n S k c o5 o6 o7 o8 o9 o10 M (brT (by omega) ?_)
    rw [ew32 (z := k + (-1)) (by omega) (by omega)]
    exact K c _ _ _ _ _ _ M I (fun k' c' l' a b cc dd => hT k' c' l' a b cc (by omega))
  | succ m ih =>
    intro c o5 o6 o7 o8 o9 o10 M hmc hc I hT
    refine rg_X12_laysRotas_13 n S k c o5 o6 o7 o8 o9 o10 M (brP (fun h => ?_) fun h => ?_)
    · rw [ew32 (z := k + (-1)) (by omega) (by omega)]
      exact K c _ _ _ _ _ _ M I (fun k' c' l' a b cc dd => hT k' c' l' a b cc (by omega))
    · exact lr18 (d := d) H' hk ⟨hc, by omega⟩ (fun l o6 o7 o8 o9 o10 M I hT => ih (c + 1) _ o6 o7 o8 o9 o10 M (by omega) (by omega) I hT) 6 0 o6 o7 o8 o9 o10 M (by omega) (by omega) (by omega) I hT
theorem lr9 {n S : Int} (H : lrH M0 n S) (q : ∀ M, lrI M0 M → TB M0 M n S (-1) 0 0 → Q (vi 0) M) : ∀ (m : Nat) (k : Int) (o4 o5 o6 o7 o8 o9 o10 : Option Vv) (M : MM), (k + 1).toNat ≤ m → -1 ≤ k → k ≤ n → lrI M0 M → TB M0 M n S k 0 0 → WP FF sc YF (d + 6) m_X12_laysRotas 9 [] [some (vr 81), some (vi n), some (vi S), some (vi k), o4, o5, o6, o7, o8, o9, o10] M Q := by
  have H' := H
  obtain ⟨J, hm, hS, h58, hn⟩ := H
  have h4 := cs4_at hm
  intro m
  induction m with
  | zero =>
    intro k o4 o5 o6 o7 o8 o9 o10 M hmk hk hkn I hT
    have hk1 : k = -1 := by omega
    subst hk1
    exact rg_X12_laysRotas_9 n S (-1) o4 o5 o6 o7 o8 o9 o10 M (brT (by decide) (q M I hT))
  | succ m ih =>
    intro k o4 o5 o6 o7 o8 o9 o10 M hmk hk hkn I hT
    refine rg_X12_laysRotas_9 n S k o4 o5 o6 o7 o8 o9 o10 M (brP (fun h => ?_) fun h => ?_)
    · have hk1 : k = -1 := by omega
      subst hk1
      exact q M I hT
    · exact lr13 (d := d) H' ⟨by omega, hkn⟩ (fun c o5 o6 o7 o8 o9 o10 M I hT => ih (k - 1) _ o5 o6 o7 o8 o9 o10 M (by omega) (by omega) (by omega) I hT) S.toNat 0 o5 o6 o7 o8 o9 o10 M (by omega) (by omega) I hT
theorem s_laysRotas {M : MM} {n : Int} (G : ai_GI ax_T M) (J : axJ M) (hn : 1 ≤ n ∧ n ≤ 14) (h58 : M 81 58 ≤ 3) (q : ∀ M1, lrI M M1 → TB M M1 n (cs4 (M 81 57)) (-1) 0 0 → Q (vi 0) M1) : CA FF sc YF (d + 6) m_X12_laysRotas [vr 81, vi n] M Q := by
  have g57 := rO_81_57 G
  refine ca_X12_laysRotas n M ?_
  rw [ew32 (z := 2 * M 81 57) (by omega) (by omega)]
  exact lr9 (M0 := M) (S := cs4 (M 81 57)) ⟨J, g57, rfl, h58, by omega⟩ q (n + 1).toNat n none none none none none none none M (by omega) (by omega) (Int.le_refl _) ⟨G, fun _ _ _ _ _ _ => rfl⟩ (fun k' c' l' a b cc dd => by omega)
end RTL2
def btv (v k : Int) : Int := bAnd (bShr v k) 1
theorem btv_r (v k : Int) : 0 ≤ btv v k ∧ btv v k ≤ 1 := fbAnd (bShr v k) (b := 1) (hi := 1) (by decide) (by decide) (by decide)
def bsum (v : Int) (n : Nat) : Int := match n with
  | 0 => 0
  | n + 1 => bsum v n + btv v n
theorem bsum_r (v : Int) : ∀ n, 0 ≤ bsum v n ∧ bsum v n ≤ n := by
  intro n
  induction n with
  | zero => exact ⟨Int.le_refl _, Int.le_refl _⟩
  | succ n ih =>
    have := btv_r v n
    show 0 ≤ bsum v n + btv v n ∧ bsum v n + btv v n ≤ ((n + 1 : Nat) : Int)
    omega
theorem bsum_mono (v : Int) : ∀ m n, bsum v n ≤ bsum v (n + m) := by
  intro m
  induction m with
  | zero => intro n; exact Int.le_refl _
  | succ m ih =>
    intro n
    have h1 := ih n
    have h2 := btv_r v ((n + m : Nat) : Int)
    show bsum v n ≤ bsum v (n + m) + btv v ((n + m : Nat) : Int)
    omega
section RTM
variable {sc : List Int} {d : Nat} {Q : Vv → MM → Prop}
theorem bits_wp {v : Int} {M : MM} (k : Q (vi (bsum v 10)) M) : ∀ (m n : Nat), n + m = 10 → WP FF sc YF (d + 1) m_X12_bits 4 [] [some (vi v), some (vi (bsum v n)), some (vi (n : Int))] M Q := by
  intro m
  induction m with
  | zero =>
    intro n hn
    have e : n = 10 := by omega
    subst e
    exact rg_X12_bits_4 v _ _ M (brT (by decide) k)
  | succ m ih =>
    intro n hn
    have h1 := bsum_r v n
    have h2 := btv_r v n
    refine rg_X12_bits_4 v _ _ M (brF (by omega) ?_)
    have e1 : w32 (bsum v n + bAnd (bShr v n) 1) = bsum v (n + 1) := by
      show w32 (bsum v n + btv v n) = bsum v n + btv v n
      exact ew32 (by omega) (by omega)
    have e2 : w32 ((n : Int) + 1) = ((n + 1 : Nat) : Int) := by rw [ew32 (by omega) (by omega)]; rfl
    rw [e1, e2]
    exact ih (n + 1) (by omega)
theorem s_bits {v : Int} {M : MM} (k : Q (vi (bsum v 10)) M) : CA FF sc YF (d + 1) m_X12_bits [vi v] M Q := ca_X12_bits v M (bits_wp k 10 0 rfl)
theorem s_hasV {v k : Int} {M : MM} (k0 : btv v k = 0 → ∀ x : Int, x = 0 → Q (vi x) M) (k1 : btv v k = 1 → ∀ x : Int, x = 1 → Q (vi x) M) : CA FF sc YF (d + 1) m_X12_has [vi v, vi k] M Q := by
  have h := btv_r v k
  refine ca_X12_has v k M (brP (fun q => k0 ?_ 0 rfl) fun q => k1 (Classical.not_not.mp q) 1 rfl)
  have q : btv v k ≠ 1 := q
  omega
theorem fi_11 {M0 : MM} {A : Nat → Int} {n S k c l what : Int} (H : lrH M0 n S) (hk : 0 ≤ k ∧ k < n) (hc : 0 ≤ c ∧ c < S) (is : Int) (his : 0 ≤ is ∧ is < M0 81 57) (hmn : mnB M0 k c l is) (hA : A (stI (k + 1) (c + bShl 1 (2 * is)) is).toNat ≠ 0) (K : ∀ (i : Int) (M : MM), lrI M0 M → M 116 = A → (0 ≤ i ∧ i < M0 81 57) → (0 ≤ c + bShl 1 (2 * i) ∧ c + bShl 1 (2 * i) < S) → A (stI (k + 1) (c + bShl 1 (2 * i)) i).toNat ≠ 0 → WP FF sc YF (d + 6) m_X12_firstIn 6 [] [some (vr 81), some (vi what), some (vi (c + bShl 1 (2 * i))), some (vi i), some (vi (k + 1)), some (vi i)] M Q) : ∀ (m : Nat) (i : Int) (M : MM), (is - i).toNat ≤ m → 0 ≤ i → i ≤ is → lrI M0 M → M 116 = A → WP FF sc YF (d + 6) m_X12_firstIn 11 [] [some (vr 81), some (vi what), some (vi c), some (vi l), some (vi k), some (vi i)] M Q := by
  obtain ⟨J, hm, hS, h58, hn⟩ := H
  have h4 := cs4_at hm
  intro m
  induction m with
  | zero =>
    intro i M hmi hi hii I e
    have hi2 : i = is := by omega
    subst hi2
    refine rg_X12_firstIn_11 what c l k i M (s_mayNext J I ⟨hi, by omega⟩ (fun M1 I1 e1 hn1 x hx => absurd hmn hn1) fun M1 I1 e1 hn1 x hx => brF (by omega) ?_)
    have ha := cs4_add hm (i := i) his (by rw [← hS]; exact hc) (by have := hn1.2.1; omega)
    rw [ew32 (z := k + 1) (by omega) (by omega), ew32 (z := 2 * i) (by omega) (by omega), ew32 (z := c + bShl 1 (2 * i)) (by omega) (by omega)]
    refine s_rotaState (k := k + 1) (by omega) (c := c + bShl 1 (2 * i)) (by omega) (l := i) (by omega) fun x hx => ?_
    have hr := stI_r (k := k + 1) (c := c + bShl 1 (2 * i)) (l := i) (by omega) (by omega) (by omega)
    have eA : M1 116 = A := e1.trans e
    subst hx
    show gAnd _ (brA (decide (M1 116 _ ≠ 0)) _ _)
    rw [eA]
    exact gI hr.1 hr.2 (brT hA (K i M1 I1 eA his (by omega) hA))
  | succ m ih =>
    intro i M hmi hi hii I e
    refine rg_X12_firstIn_11 what c l k i M (s_mayNext J I ⟨hi, by omega⟩ (fun M1 I1 e1 hn1 x hx => brT hx ?_) fun M1 I1 e1 hn1 x hx => brF (by omega) ?_)
    · have hne : i ≠ is := fun q => by
        subst q
        exact hn1 hmn
      rw [ew32 (z := i + 1) (by omega) (by omega)]
      exact ih (i + 1) M1 (by omega) (by omega) (by omega) I1 (e1.trans e)
    · have ha := cs4_add hm (i := i) ⟨hi, by omega⟩ (by rw [← hS]; exact hc) (by have := hn1.2.1; omega)
      rw [ew32 (z := k + 1) (by omega) (by omega), ew32 (z := 2 * i) (by omega) (by omega), ew32 (z := c + bShl 1 (2 * i)) (by omega) (by omega), ew32 (z := i + 1) (by omega) (by omega)]
      refine s_rotaState (k := k + 1) (by omega) (c := c + bShl 1 (2 * i)) (by omega) (l := i) (by omega) fun x hx => ?_
      have hr := stI_r (k := k + 1) (c := c + bShl 1 (2 * i)) (l := i) (by omega) (by omega) (by omega)
      have eA : M1 116 = A := e1.trans e
      subst hx
      show gAnd _ (brA (decide (M1 116 _ ≠ 0)) _ _)
      rw [eA]
      refine gI hr.1 hr.2 (brP (fun hz => K i M1 I1 eA ⟨hi, by omega⟩ (by omega) hz) fun hz => ?_)
      have hne : i ≠ is := fun q => by
        subst q
        exact hz hA
      exact ih (i + 1) M1 (by omega) (by omega) (by omega) I1 eA
theorem fi_6 {M0 : MM} {A : Nat → Int} {n S what : Int} (H : lrH M0 n S) (hw : 0 ≤ what ∧ what < n) (hT : ∀ k c l, (0 ≤ k ∧ k < n) → (0 ≤ c ∧ c < S) → (0 ≤ l ∧ l ≤ 5) → A (stI k c l).toNat ≠ 0 → ∃ i, (0 ≤ i ∧ i < M0 81 57) ∧ mnB M0 k c l i ∧ A (stI (k + 1) (c + bShl 1 (2 * i)) i).toNat ≠ 0) (q : ∀ r M, lrI M0 M → Q (vi r) M) : ∀ (m : Nat) (k c l : Int) (o5 : Option Vv) (M : MM), (what + 1 - k).toNat ≤ m → 0 ≤ k → k ≤ what + 1 → (0 ≤ c ∧ c < S) → (0 ≤ l ∧ l ≤ 5) → (1 ≤ k → l ≤ 4) → A (stI k c l).toNat ≠ 0 → lrI M0 M → M 116 = A → WP FF sc YF (d + 6) m_X12_firstIn 6 [] [some (vr 81), some (vi what), some (vi c), some (vi l), some (vi k), o5] M Q := by
  have H' := H
  obtain ⟨J, hm, hS, h58, hn⟩ := H
  have h4 := cs4_at hm
  intro m
  induction m with
  | zero =>
    intro k c l o5 M hmk hk hkw hc hl hl4 hA I e
    exact rg_X12_firstIn_6 what c l k o5 M (brT (by omega) (gI hl.1 (by omega) (q _ M I)))
  | succ m ih =>
    intro k c l o5 M hmk hk hkw hc hl hl4 hA I e
    refine rg_X12_firstIn_6 what c l k o5 M (brP (fun _ => gI hl.1 (by omega) (q _ M I)) fun hlt => ?_)
    obtain ⟨is, his, hmn, hA2⟩ := hT k c l ⟨hk, by omega⟩ hc hl hA
    exact fi_11 H' ⟨hk, by omega⟩ hc is his hmn hA2 (fun i M I e hi hci hAi => ih (k + 1) _ i _ M (by omega) (by omega) (by omega) hci (by omega) (by omega) hAi I e) (is - 0).toNat 0 M (by omega) (by omega) his.1 I e
def rtw : Nat := 239071196106412134018988001666611088256870577144793600944765730247353436956128432441807596872255525554307579891443161428720569998627961404981372254127708995701028050327019441998911160250659991067649461580530632306819171250624971635714123610535998757900034392227364654241653598918049180398239196404501130443179495378649310070367753493651834476295433999023477850833534580881666760031437190102555559512928138869576750690518632666898364883203952360747775095781319233285995049823153558748325735604912105578532593923447626478984724414500247797788750962069050334485283325233504868893538323739036468305035438846486689220399695625236337219023765804369406861205643102023362094244126845231826978237753386106648476393854482706643873524200115550118653124916793164894815991841887174118564712836066099190180740055413020616599535549718905348664512780141551743278168519584420686183437808296713467170137536684074980061991053492738324328058124900657513902388594059833494780364121063529788295080574284115050072766673718164643593283675047504460622434444310421592683096460415664430361539912064220710168297325639140340361832736592413137341977611733451830985678504054622059972032265991165138678690749597291170654673612641439754213378568533265066735544058179017737069102504548230957740945139582087796196488822249240205230003443994530740881152618418819218466913464375957017477242090700355833628085169577008259217605606297542230561610147704894813712319934472277190550249566701069238232938209652572311005004301668237224117050861515467816462845279990327497621873865882814026166663780743417842108180038252126856658577798694064594107526781752014073934211871774767722839050536614449214592630090161364392937939413861477737973005680401956422057114032833569703636270267538885211452412798835214626968324071023532977151471607512000691331305727661701429237302380493866509346262409726440362291975247034739068918572028563216770796496948553692480360931089347671569902283913470080325199521519064582199323057388484199804185665388816080090999820966033378979859094263189128642892700070366773578337743551338752131903255526428555976385472971545842746136672032297622958519526696776635691235284494525606664090796939121013361482131289193827149822559935952527490673593752087066903935186251122654334045498585980102929501126656
theorem lrI.fr {M0 M : MM} (I : lrI M0 M) : ai_Fr ax_T rtw M0 M := fun k j hs => by
  have h : ∀ c, (c = 108 ∨ c = 109 ∨ c = 116 ∨ c = 117) → k ≠ c := fun c hc q => by
    subst q
    rcases hc with rfl | rfl | rfl | rfl <;> (rw [ax_slA rfl] at hs; exact absurd hs (by decide +kernel))
  exact I.2 k (h 108 (by omega)) (h 109 (by omega)) (h 116 (by omega)) (h 117 (by omega)) j
theorem rt_wp {n houses ec what : Int} {M0 : MM} (J : axJ M0) (hn : 1 ≤ n ∧ n ≤ 14) (he : 1 ≤ ec ∧ ec ≤ 3) (hb : bsum houses 10 ≤ 5) (hw : (100 ≤ what ∧ what ≤ 101) ∨ (0 ≤ what ∧ what ≤ n - 1)) (q : ∀ r M, ai_GI ax_T M → ai_Fr ax_T rtw M0 M → Q (vi r) M) : ∀ (m h : Nat) (M : MM), h + m = 10 → ai_GI ax_T M → ai_Fr ax_T rtw M0 M → M 81 57 = bsum houses h → M 81 58 = ec → WP FF sc YF (d + 8) m_X12_rotas 49 [] [some (vr 81), some (vi n), some (vi houses), some (vi ec), some (vi what), some (vi (h : Int))] M Q := by
  intro m
  induction m with
  | zero =>
    intro h M hm G f e57 e58
    have JM : axJ M := ax_j axH f (by decide +kernel) J
    have g57 := rO_81_57 G
    have h4 := cs4_at g57
    refine rg_X12_rotas_49 n houses ec what _ M (brT (by omega) (s_laysRotas G JM hn (by omega) fun M1 I1 hT => ?_))
    have fin : ∀ r M2, lrI M M2 → Q (vi r) M2 := fun r M2 I2 => q r M2 I2.1 (ax_frT f I2.fr)
    refine s_rotaState (k := 0) (by omega) (c := 0) (by omega) (l := 5) (by omega) fun x hx => ?_
    have hx5 : x = 5 := by rw [hx]; rfl
    refine brP (fun h100 => gI (by omega) (by omega) (brP (fun hne => brP (fun h101 => ?_) fun _ => gI (by omega) (by omega) (fin _ M1 I1)) fun _ => fin _ M1 I1)) fun _ => gI (by omega) (by omega) (fin _ M1 I1)
    rw [hx] at hne
    refine ca_X12_firstIn what M1 (fi_6 (Q := cI fun r5 M4 => Q (vi r5) M4) (what := what) (M0 := M) (A := M1 116) (n := n) (S := cs4 (M 81 57)) ⟨JM, g57, rfl, by omega, by omega⟩ (by omega) (fun k c l a b cc dd => ?_) (fun r M2 I2 => fin r M2 I2) (what + 1).toNat 0 0 5 none M1 (by omega) (by omega) (by omega) (by omega) (by omega) (fun z => by omega) hne I1 rfl)
    exact hT k c l a b cc (.inl (by omega)) dd
  | succ m ih =>
    intro h M hm G f e57 e58
    have b1 := bsum_r houses h
    have b2 := btv_r houses h
    have b3 := bsum_mono houses m (h + 1)
    have e10 : h + 1 + m = 10 := by omega
    rw [e10] at b3
    have b4 : bsum houses (h + 1) = bsum houses h + btv houses h := rfl
    have eh : ∀ _ : Unit, w32 ((h : Int) + 1) = ((h + 1 : Nat) : Int) := fun _ => by rw [ew32 (by omega) (by omega)]; rfl
    refine rg_X12_rotas_49 n houses ec what _ M (brF (by omega) (s_hasV (fun hb0 x hx => brF (by omega) ?_) fun hb1 x hx => brT (by omega) (s_hasSpotM (fun x hx => brF (by omega) (q _ M G f)) fun hh _ x hx => brT (by omega) (gI (by omega) (by omega) ?_))))
    · rw [eh ()]
      exact ih (h + 1) M (by omega) G f (by omega) e58
    · rw [eh (), stN (k := 118) (k' := 81) (by decide)]
      rw [ew32 (z := M 81 57 + 1) (by omega) (by omega)]
      refine ih (h + 1) _ (by omega) (sO_81_57 (sA_118 G (by omega) (by omega)) (by omega) (by omega)) (ax_frS (ax_frS f (by rw [ax_slA rfl]; decide +kernel)) (by decide +kernel)) ?_ ?_
      · rw [stE]
        omega
      · rw [stO (by decide), stN (by decide)]
        exact e58
theorem sm_rotas {n houses ec what : Int} {M : MM} (G : axG M) (k : ∀ (r : Int) (M1 : MM), axG M1 → LoX M M1 → M1 81 61 = M 81 61 → M1 81 10 = M 81 10 → Keep kpR M M1 → Q (vi r) M1) : CA FF sc YF (d + 8) m_X12_rotas [vr 81, vi n, vi houses, vi ec, vi what] M Q := by
  obtain ⟨g, j, w⟩ := G
  have no : ∀ r : Int, Q (vi r) M := fun r => k r M ⟨g, j, w⟩ LoX.rf rfl rfl Keep.rf
  have fin : ∀ r M1, ai_GI ax_T M1 → ai_Fr ax_T rtw M M1 → Q (vi r) M1 := fun r M1 G1 f1 => by
    have l : LoX M M1 := loX_fr f1 (by decide +kernel)
    exact k r M1 ⟨G1, ax_j axH f1 (by decide +kernel) j, l.w w⟩ l (ax_frO f1 rfl (by decide +kernel)) (ax_frO f1 rfl (by decide +kernel)) (Keep.of_fr f1 (by decide +kernel))
  refine ca_X12_rotas n houses ec what M (s_in n 1 14 M (brI0 (fun _ => no _) fun h1 => s_in houses 1 1023 M (brI0 (fun _ => no _) fun h2 => s_bits (brP (fun _ => no _) fun h3 => s_in ec 1 3 M (brI0 (fun _ => no _) fun h4 => s_in what 100 101 M (brI1 (fun h5 => ?_) fun _ => ?_))))))
  · refine rg_X12_rotas_31 n houses ec what none M (brP (fun _ => ?_) fun _ => no _)
    exact rt_wp (M0 := M) j h1 h4 (by omega) (.inl h5) fin 10 0 _ rfl (sO_81_58 (sO_81_57 g (by decide) (by decide)) (by omega) (by omega)) (ax_frS (ax_frS ax_fr0 (by decide +kernel)) (by decide +kernel)) ((stO (by decide)).trans stE) stE
  · rw [ew32 (z := n - 1) (by omega) (by omega)]
    refine s_in what 0 (n - 1) M (brI0 (fun _ => no _) fun h5 => rg_X12_rotas_31 n houses ec what none M (brP (fun _ => ?_) fun _ => no _))
    exact rt_wp (M0 := M) j h1 h4 (by omega) (.inr h5) fin 10 0 _ rfl (sO_81_58 (sO_81_57 g (by decide) (by decide)) (by omega) (by omega)) (ax_frS (ax_frS ax_fr0 (by decide +kernel)) (by decide +kernel)) ((stO (by decide)).trans stE) stE
end RTM
