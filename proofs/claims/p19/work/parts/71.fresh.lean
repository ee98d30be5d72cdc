/-! PART 71: the fresh pair: what stands fast holds of it -/
/-- the two objects between calls: what stands fast, and both keep or neither does -/
def Gd (M : MM) : Prop := axG M ∧ M 0 14 = M 81 61
def okR (k j : Nat) : Bool := decide ((ai_rg ax_T k j).1 ≤ M0 k j) && decide (M0 k j ≤ (ai_rg ax_T k j).2)
theorem okR_all : ∀ k, k < 121 → ∀ j, j < 63 → okR k j = true := by decide +kernel
def shR (k : Nat) : Bool := match ax_T[k]? with
  | some p => p.1 || Nat.ble p.2.length 62
  | none => true
theorem shR_all : ∀ k, k < 121 → shR k = true := by decide +kernel
theorem rg_far {k j : Nat} (hk : k < 121) (hj : 62 ≤ j) : ai_rg ax_T k j = ai_rg ax_T k 62 := by
  have h := shR_all k hk
  unfold shR at h
  unfold ai_rg
  split at h
  · rename_i p hp
    rw [hp]
    dsimp only
    cases e : p.1
    · rw [e, Bool.false_or] at h
      have hl := Nat.le_of_ble_eq_true h
      dsimp only
      rw [List.getElem?_eq_none (by omega), List.getElem?_eq_none hl]
    · rfl
  · rename_i hp
    rw [hp]
theorem gd_far {l : List Int} {j : Nat} (h : l.length ≤ j) : l.getD j 0 = 0 := by
  rw [List.getD_eq_getElem?_getD, List.getElem?_eq_none h]
  rfl
theorem M0_far {k j : Nat} (hj : 62 ≤ j) : M0 k j = 0 := by
  unfold M0
  split
  all_goals first | rfl | exact gd_far (Nat.le_trans (by decide) hj)
theorem rg_none {k j : Nat} (h : 121 ≤ k) : ai_rg ax_T k j = ai_big := by
  have hl : ax_T.length ≤ k := Nat.le_trans (Nat.le_of_ble_eq_true (by decide +kernel)) h
  unfold ai_rg
  rw [List.getElem?_eq_none hl]
theorem gi_fresh {M : MM} (hC : FrC M) (hM : FrM M) (hz : ∀ k, 121 ≤ k → ∀ j, M k j = 0) (hI : Inv FF YF M) : ai_GI ax_T M := fun k j => by
  rcases Nat.lt_or_ge k 121 with h | h
  · by_cases h2 : k = 60 ∨ k = 64
    · have h64 : in64 (M k j) := by
        rcases h2 with rfl | rfl
        · exact ((hI.1 60 (3, 64) rfl j).2.2 rfl)
        · exact ((hI.1 64 (3, 64) rfl j).2.2 rfl)
      have e : ai_rg ax_T k j = ai_big := by
        rcases h2 with rfl | rfl <;> rfl
      rw [e]
      have h1 := h64.1
      have h2 := h64.2
      show (-9223372036854775808 : Int) ≤ M k j ∧ M k j ≤ 9223372036854775807
      omega
    · have e : M k j = M0 k j := by
        rcases Nat.lt_or_ge k 81 with q | q
        · exact hC k q (by omega) (by omega) j
        · exact hM k q h j
      rw [e]
      rcases Nat.lt_or_ge j 63 with q | q
      · have h3 := okR_all k h j q
        unfold okR at h3
        rw [Bool.and_eq_true, decide_eq_true_eq, decide_eq_true_eq] at h3
        exact h3
      · rw [rg_far h (by omega), M0_far (by omega)]
        have h3 := okR_all k h 62 (by decide)
        unfold okR at h3
        rw [Bool.and_eq_true, decide_eq_true_eq, decide_eq_true_eq, M0_far (Nat.le_refl _)] at h3
        exact h3
  · rw [rg_none h, hz k h j]
    decide
theorem gd_fresh {M : MM} (hC : FrC M) (hM : FrM M) (hz : ∀ k, 121 ≤ k → ∀ j, M k j = 0) (hI : Inv FF YF M) : Gd M := by
  have e19 : M 81 19 = 0 := hM.at 81 19 0 (by decide) rfl
  refine ⟨⟨gi_fresh hC hM hz hI, fun q hq => by omega, .inl ⟨hC.at 0 10 58 (by decide) rfl, hC.at 0 11 62 (by decide) rfl⟩, .inl ⟨hC.at 0 12 66 (by decide) rfl, hC.at 0 13 74 (by decide) rfl⟩⟩, ?_⟩
  rw [hC.at 0 14 0 (by decide) rfl, hM.at 81 61 0 (by decide) rfl]
