/-! PART 46: by hand: laysCosts -/
theorem u_X12_seers {J : MM → Prop} (S : ai_SP ax_T J ap_X12_seers) {sc : List Int} {d : Nat} {M : MM} {Q : Vv → MM → Prop} {v1 : Int} (h0 : 0 ≤ v1 ∧ v1 ≤ 63) (G : ai_GI ax_T M) (j : J M) (k0 : ∀ (r : Int) (M1 : MM), 0 ≤ r → r ≤ 10 → ai_GI ax_T M1 → ai_Fr ax_T ap_X12_seers.2.2.2.1 M M1 → Q (vi r) M1) : CA FF sc YF (d + 4) m_X12_seers [vr 81, vi v1] M Q := by
  refine S sc d (ax_rh [v1]) M _ Q rfl rfl (And.intro (ax_r) (And.intro (ax_i (by decide) rfl) (And.intro (ax_o) (And.intro (ax_o) trivial)))) ⟨(ax_e1 (by decide) h0.1 h0.2 ax_e0), ax_f0, ax_c0, ax_m0⟩ G j (fun r M1 g f hq => ?_)
  replace hq := ax_q1 hq
  obtain ⟨-, ρ1, e0, hr, kE, kF, kC, kN⟩ := hq
  have hr : r = vi (ρ1 1) := hr
  have e1 : ρ1 0 = v1 := e0 0 (by decide)
  have b0 := kE _ (List.mem_cons_self)
  have b0 : 0 ≤ ρ1 1 ∧ ρ1 1 ≤ 10 := b0.2
  rw [hr]
  exact k0 _ _ (by omega) (by omega) g f
theorem seers_SP : ai_SP ax_T axJ ap_X12_seers := ai_chk_ok axJ_fr (ax_c hd_X12_isSeen ax_n) ak_X12_seers
theorem ax_same {M M1 : MM} (h : ai_Fr ax_T 0 M M1) : M1 = M := funext fun k => funext fun j => h k j (Nat.zero_testBit _)
theorem s_seers {sc : List Int} {d : Nat} {Q : Vv → MM → Prop} {M : MM} {v : Int} (hv : 0 ≤ v ∧ v ≤ 63) (G : ai_GI ax_T M) (j : axJ M) (k : ∀ r : Int, 0 ≤ r → r ≤ 10 → Q (vi r) M) : CA FF sc YF (d + 4) m_X12_seers [vr 81, vi v] M Q := u_X12_seers seers_SP hv G j fun r M1 h1 h2 _ f => by
  have e : M1 = M := ax_same f
  rw [e]
  exact k r h1 h2
theorem bes_r (v w : Int) : bes v w = -1 ∨ (0 ≤ bes v w ∧ bes v w ≤ 63) := by
  unfold bes
  split
  · exact .inr (by omega)
  · exact .inl rfl
/-- the sum of the first rows -/
def csum (M : MM) (n : Nat) : Int := match n with
  | 0 => 0
  | n + 1 => csum M n + M 114 n
theorem csum_st (M : MM) (j : Nat) (v : Int) : ∀ n, csum (stM M 114 j v) n = csum M n + (if j < n then v - M 114 j else 0) := by
  intro n
  induction n with
  | zero => rfl
  | succ n ih =>
    show csum (stM M 114 j v) n + stM M 114 j v 114 n = csum M n + M 114 n + _
    rw [ih]
    by_cases h : j = n
    · subst h
      have e : stM M 114 j v 114 j = v := if_pos ⟨rfl, rfl⟩
      rw [e, if_neg (Nat.lt_irrefl j), if_pos (Nat.lt_succ_self j)]
      omega
    · have e : stM M 114 j v 114 n = M 114 n := if_neg (fun q => h q.2.symm)
      rw [e]
      by_cases h2 : j < n
      · rw [if_pos h2, if_pos (by omega)]
        omega
      · rw [if_neg h2, if_neg (by omega)]
        omega
theorem csum_nn {M : MM} (G : ai_GI ax_T M) : ∀ n, 0 ≤ csum M n := by
  intro n
  induction n with
  | zero => exact Int.le_refl _
  | succ n ih =>
    have := rA_114 G n
    show 0 ≤ csum M n + M 114 n
    omega
def lcI (M0 : MM) (s : Int) (M : MM) (g : Int) : Prop := ai_GI ax_T M ∧ (∀ c, c ≠ 114 → ∀ j, M c j = M0 c j) ∧ csum M 64 ≤ s ∧ (g = 0 ∨ (g = 1 ∧ csum M 64 < s))
section LCS
variable {sc : List Int} {d : Nat} {Q : Vv → MM → Prop}
theorem lc_in (v1 v2 v4 : Int) {M0 : MM} (J : axJ M0) (s : Int) (h4 : 0 ≤ v4 ∧ v4 < 64) (K : ∀ (g v5 : Int) (o6 o7 : Option Vv) (M : MM), lcI M0 s M g → WP FF sc YF (d + 5) m_X12_laysCosts 33 [] [some (vr 81), some (vi v1), some (vi v2), some (vi g), some (vi (v4 + 1)), some (vi v5), o6, o7] M Q) : ∀ (n : Nat) (g v5 : Int) (o6 o7 : Option Vv) (M : MM), (4 - v5).toNat ≤ n → 0 ≤ v5 → v5 ≤ 4 → lcI M0 s M g → WP FF sc YF (d + 5) m_X12_laysCosts 38 [] [some (vr 81), some (vi v1), some (vi v2), some (vi g), some (vi v4), some (vi v5), o6, o7] M Q := by
  have e4 : ∀ _ : Unit, w32 (v4 + 1) = v4 + 1 := fun _ => ew32 (by omega) (by omega)
  intro n
  induction n with
  | zero =>
    intro g v5 o6 o7 M hn h5 h5' hI
    refine rg_X12_laysCosts_38 v1 v2 g v4 v5 o6 o7 M (brT (by omega) ?_)
    rw [e4 ()]
    exact K g v5 o6 o7 M hI
  | succ n ih =>
    intro g v5 o6 o7 M hn h5 h5' hI
    refine rg_X12_laysCosts_38 v1 v2 g v4 v5 o6 o7 M (brP (fun _ => ?_) fun hv5 => gI h4.1 h4.2 (brP (fun _ => ?_) fun hfar => ?_))
    · rw [e4 ()]
      exact K g v5 o6 o7 M hI
    · rw [e4 ()]
      exact K g v5 o6 o7 M hI
    · have e5 : ∀ _ : Unit, w32 (v5 + 1) = v5 + 1 := fun _ => ew32 (by omega) (by omega)
      refine s_beside v4 v5 M ⟨h4.1, by omega⟩ ?_
      have hb := bes_r v4 v5
      generalize bes v4 v5 = r2 at hb
      refine brP (fun hr => ?_) fun hr => gI (by omega) (by omega) ?_
      · rw [e5 ()]
        exact ih g (v5 + 1) _ o7 M (by omega) (by omega) (by omega) hI
      · have h76 : ∀ s0 s1 : Int, 0 ≤ s0 → s0 ≤ 1000 → s1 = M 114 v4.toNat + 1 → WP FF sc YF (d + 5) m_X12_laysCosts 76 [vi s0, vi s1] [some (vr 81), some (vi v1), some (vi v2), some (vi g), some (vi v4), some (vi v5), some (vi r2), o7] M Q := by
          intro s0 s1 h0 h0' h1
          have g1 := rA_114 hI.1 v4.toNat
          have g2 := rA_114 hI.1 r2.toNat
          refine rg_X12_laysCosts_76 v1 v2 g v4 v5 r2 o7 s1 s0 M (gI (by omega) (by omega) ?_)
          rw [ew32 (z := s1 + s0) (by omega) (by omega), e5 ()]
          refine brP (fun hlt => gI (by omega) (by omega) ?_) fun _ => ih g (v5 + 1) _ _ M (by omega) (by omega) (by omega) hI
          refine ih 1 (v5 + 1) _ _ _ (by omega) (by omega) (by omega) ⟨sA_114 hI.1 (by omega) (by omega), fun c hc j => by rw [stN hc]; exact hI.2.1 c hc j, ?_, .inr ⟨rfl, ?_⟩⟩
          · rw [csum_st, if_pos (by omega)]
            have := hI.2.2.1
            omega
          · rw [csum_st, if_pos (by omega)]
            have := hI.2.2.1
            omega
        have g1 := rA_114 hI.1 v4.toNat
        refine brP (fun _ => gI h4.1 h4.2 ?_) fun _ => ?_
        · rw [ew32 (z := M 114 v4.toNat + 1) (by omega) (by omega)]
          have J1 : axJ M := axJ_eq ⟨hI.2.1 81 (by decide) 19, funext (hI.2.1 97 (by decide)), funext (hI.2.1 98 (by decide)), funext (hI.2.1 99 (by decide)), funext (hI.2.1 100 (by decide)), funext (hI.2.1 101 (by decide))⟩ J
          refine brP (fun _ => h76 0 _ (by omega) (by omega) rfl) fun _ => s_seers (by omega) hI.1 J1 fun r hr1 hr2 => ?_
          show WP _ _ _ _ _ _ [vi (w32 (100 * r)), _] _ _ _
          rw [ew32 (z := 100 * r) (by omega) (by omega)]
          exact h76 (100 * r) _ (by omega) (by omega) rfl
        · rw [e5 ()]
          exact ih g (v5 + 1) _ o7 M (by omega) (by omega) (by omega) hI
theorem lc_mid (v1 v2 : Int) {M0 : MM} (J : axJ M0) (s : Int) (K : ∀ (g v4 : Int) (o5 o6 o7 : Option Vv) (M : MM), lcI M0 s M g → WP FF sc YF (d + 5) m_X12_laysCosts 27 [] [some (vr 81), some (vi v1), some (vi v2), some (vi g), some (vi v4), o5, o6, o7] M Q) : ∀ (n : Nat) (g v4 : Int) (o5 o6 o7 : Option Vv) (M : MM), (64 - v4).toNat ≤ n → 0 ≤ v4 → lcI M0 s M g → WP FF sc YF (d + 5) m_X12_laysCosts 33 [] [some (vr 81), some (vi v1), some (vi v2), some (vi g), some (vi v4), o5, o6, o7] M Q := by
  intro n
  induction n with
  | zero =>
    intro g v4 o5 o6 o7 M hn h4 hI
    exact rg_X12_laysCosts_33 v1 v2 g v4 o5 o6 o7 M (brT (by omega) (K g v4 o5 o6 o7 M hI))
  | succ n ih =>
    intro g v4 o5 o6 o7 M hn h4 hI
    refine rg_X12_laysCosts_33 v1 v2 g v4 o5 o6 o7 M (brP (fun _ => K g v4 o5 o6 o7 M hI) fun h => ?_)
    exact lc_in v1 v2 v4 J s ⟨h4, by omega⟩ (fun g v5 o6 o7 M hI => ih g (v4 + 1) _ o6 o7 M (by omega) (by omega) hI) 4 g 0 o6 o7 M (by omega) (by omega) (by omega) hI
theorem lc_out (v1 v2 : Int) {M0 : MM} (J : axJ M0) (k : ∀ M, ai_GI ax_T M → (∀ c, c ≠ 114 → ∀ j, M c j = M0 c j) → Q (vi 0) M) : ∀ (n : Nat) (g : Int) (o4 o5 o6 o7 : Option Vv) (M : MM), (g = 0 ∨ csum M 64 < n) → ai_GI ax_T M → (∀ c, c ≠ 114 → ∀ j, M c j = M0 c j) → WP FF sc YF (d + 5) m_X12_laysCosts 27 [] [some (vr 81), some (vi v1), some (vi v2), some (vi g), o4, o5, o6, o7] M Q := by
  intro n
  induction n with
  | zero =>
    intro g o4 o5 o6 o7 M hn G hM
    have := csum_nn G 64
    exact rg_X12_laysCosts_27 v1 v2 g o4 o5 o6 o7 M (brT (by omega) (k M G hM))
  | succ n ih =>
    intro g o4 o5 o6 o7 M hn G hM
    refine rg_X12_laysCosts_27 v1 v2 g o4 o5 o6 o7 M (brP (fun _ => k M G hM) fun hg => ?_)
    refine lc_mid v1 v2 J (csum M 64) (fun g v4 o5 o6 o7 M' hI => ih g _ o5 o6 o7 M' ?_ hI.1 hI.2.1) 64 0 0 o5 o6 o7 M (by omega) (by omega) ⟨G, hM, Int.le_refl _, .inl rfl⟩
    rcases hI.2.2.2 with h | h
    · exact .inl h
    · exact .inr (by omega)
theorem lc_ini (v1 v2 : Int) {M0 : MM} (J : axJ M0) (K : ∀ (o4 o5 o6 o7 : Option Vv) (M : MM), ai_GI ax_T M → (∀ c, c ≠ 114 → ∀ j, M c j = M0 c j) → WP FF sc YF (d + 5) m_X12_laysCosts 27 [] [some (vr 81), some (vi v1), some (vi v2), some (vi 1), o4, o5, o6, o7] M Q) : ∀ (n : Nat) (v3 : Int) (o4 o5 o6 o7 : Option Vv) (M : MM), (64 - v3).toNat ≤ n → 0 ≤ v3 → ai_GI ax_T M → (∀ c, c ≠ 114 → ∀ j, M c j = M0 c j) → WP FF sc YF (d + 5) m_X12_laysCosts 2 [] [some (vr 81), some (vi v1), some (vi v2), some (vi v3), o4, o5, o6, o7] M Q := by
  intro n
  induction n with
  | zero =>
    intro v3 o4 o5 o6 o7 M hn h3 G hM
    exact rg_X12_laysCosts_2 v1 v2 v3 o4 o5 o6 o7 M (brT (by omega) (K o4 o5 o6 o7 M G hM))
  | succ n ih =>
    intro v3 o4 o5 o6 o7 M hn h3 G hM
    refine rg_X12_laysCosts_2 v1 v2 v3 o4 o5 o6 o7 M (brP (fun _ => K o4 o5 o6 o7 M G hM) fun h => ?_)
    have st : ∀ v : Int, 0 ≤ v → v ≤ 1000000000 → WP FF sc YF (d + 5) m_X12_laysCosts 2 [] [some (vr 81), some (vi v1), some (vi v2), some (vi (w32 (v3 + 1))), o4, o5, o6, o7] (stM M 114 v3.toNat v) Q := by
      intro v h1 h2
      rw [ew32 (z := v3 + 1) (by omega) (by omega)]
      exact ih (v3 + 1) o4 o5 o6 o7 _ (by omega) (by omega) (sA_114 G h1 h2) (fun c hc j => by rw [stN hc]; exact hM c hc j)
    have J1 : axJ M := axJ_eq ⟨hM 81 (by decide) 19, funext (hM 97 (by decide)), funext (hM 98 (by decide)), funext (hM 99 (by decide)), funext (hM 100 (by decide)), funext (hM 101 (by decide))⟩ J
    refine brP (fun _ => gI h3 (by omega) (st _ (by decide) (by decide))) fun _ => brP (fun _ => gI h3 (by omega) (st _ (by decide) (by decide))) fun _ => s_seers (by omega) G J1 fun r h1 h2 => ?_
    refine gI h3 (by omega) ?_
    rw [ew32 (z := 100 * r) (by omega) (by omega)]
    exact st _ (by omega) (by omega)
theorem s_laysCosts {v1 v2 : Int} {M : MM} (G : ai_GI ax_T M) (J : axJ M) (k : ∀ M1, ai_GI ax_T M1 → (∀ c, c ≠ 114 → ∀ j, M1 c j = M c j) → Q (vi 0) M1) : CA FF sc YF (d + 5) m_X12_laysCosts [vr 81, vi v1, vi v2] M Q := ca_X12_laysCosts v1 v2 M (lc_ini v1 v2 J (fun o4 o5 o6 o7 M1 G1 h1 => lc_out v1 v2 J k (csum M1 64 + 1).toNat 1 o4 o5 o6 o7 M1 (.inr (by have := csum_nn G1 64; omega)) G1 h1) 64 0 none none none none M (by omega) (by omega) G (fun _ _ _ => rfl))
end LCS
theorem hd_X12_laysCosts : ai_SP ax_T axJ ap_X12_laysCosts := ax_hand rfl (fun sc d ρ M Q hK hG hJ hQ => by
  show CA FF sc YF (d + 1 + 5) m_X12_laysCosts [vr 81, vi (ρ 0), vi (ρ 1)] M Q
  refine s_laysCosts hG hJ fun M1 G1 h1 => hQ _ _ G1 (fun k j hs => ?_) (ax_poI (lo := 0) (hi := 0) (by omega) (by omega))
  refine h1 k (fun q => ?_) j
  subst q
  rw [ax_slA rfl] at hs
  exact absurd hs (by decide +kernel))
