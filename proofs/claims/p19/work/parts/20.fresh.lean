/-! PART 20: a fresh pair of objects; what is fixed in it -/
theorem TK_121 : TK 121 = YF := by decide +kernel
def FrC (M : MM) : Prop := ∀ k, k < 81 → k ≠ 60 → k ≠ 64 → ∀ j, M k j = M0 k j
def FrM (M : MM) : Prop := ∀ k, 81 ≤ k → k < 121 → ∀ j, M k j = M0 k j
/-- the class's methods leave the reference's cells alone -/
def Up (M M' : MM) : Prop := ∀ k, 81 ≤ k → ∀ j, M' k j = M k j
theorem FrC.at {M : MM} (h : FrC M) (k j : Nat) (v : Int) (hk : k < 81 ∧ k ≠ 60 ∧ k ≠ 64) (hv : M0 k j = v) : M k j = v := (h k hk.1 hk.2.1 hk.2.2 j).trans hv
theorem FrM.at {M : MM} (h : FrM M) (k j : Nat) (v : Int) (hk : 81 ≤ k ∧ k < 121) (hv : M0 k j = v) : M k j = v := (h k hk.1 hk.2 j).trans hv
theorem FrM.up {M M' : MM} (h : FrM M) (hu : Up M M') : FrM M' := fun k h1 h2 j => (hu k h1 j).trans (h k h1 h2 j)
theorem gd_len {l : List Nat} {j t : Nat} (h : l.getD j 0 = t + 1) : j < l.length := by
  rcases Nat.lt_or_ge j l.length with q | q
  · exact q
  · rw [List.getD_eq_getElem?_getD, List.getElem?_eq_none q] at h
    cases h
theorem FF_dom {k j t : Nat} (h : FF k j = t + 1) : k < 121 ∧ j < 62 := by
  unfold FF at h
  split at h
  · exact ⟨by omega, Nat.lt_of_lt_of_le (gd_len h) (by decide)⟩
  · exact ⟨by omega, Nat.lt_of_lt_of_le (gd_len h) (by decide)⟩
  · exact ⟨by omega, Nat.lt_of_lt_of_le (gd_len h) (by decide)⟩
  · exact ⟨by omega, Nat.lt_of_lt_of_le (gd_len h) (by decide)⟩
  · exact ⟨by omega, Nat.lt_of_lt_of_le (gd_len h) (by decide)⟩
  · exact ⟨by omega, Nat.lt_of_lt_of_le (gd_len h) (by decide)⟩
  · exact ⟨by omega, Nat.lt_of_lt_of_le (gd_len h) (by decide)⟩
  · exact ⟨by omega, Nat.lt_of_lt_of_le (gd_len h) (by decide)⟩
  · exact ⟨by omega, Nat.lt_of_lt_of_le (gd_len h) (by decide)⟩
  · exact ⟨by omega, Nat.lt_of_lt_of_le (gd_len h) (by decide)⟩
  · exact ⟨by omega, Nat.lt_of_lt_of_le (gd_len h) (by decide)⟩
  · exact ⟨by omega, Nat.lt_of_lt_of_le (gd_len h) (by decide)⟩
  · exact ⟨by omega, Nat.lt_of_lt_of_le (gd_len h) (by decide)⟩
  · exact ⟨by omega, Nat.lt_of_lt_of_le (gd_len h) (by decide)⟩
  · exact ⟨by omega, Nat.lt_of_lt_of_le (gd_len h) (by decide)⟩
  · exact ⟨by omega, Nat.lt_of_lt_of_le (gd_len h) (by decide)⟩
  · exact ⟨by omega, Nat.lt_of_lt_of_le (gd_len h) (by decide)⟩
  · cases h
theorem FF_chk : ∀ k, k < 121 → ∀ j, j < 62 → FF k j = 0 ∨ (k ≠ 60 ∧ k ≠ 64 ∧ M0 k j = (FF k j : Int) ∧ ((YF[k]?).map (fun p => (decide (10 ≤ p.1) && isRty (tcl (p.1 - 10) j)) || decide (p.1 = 4))) = some true) := by decide +kernel
theorem inv_FF {M : MM} (hI : Inv F0z YF M) (hC : FrC M) (hM : FrM M) : Inv FF YF M := by
  refine ⟨hI.1, fun k j t h => ?_⟩
  obtain ⟨hk, hj⟩ := FF_dom h
  rcases FF_chk k hk j hj with h0 | ⟨h1, h2, h3, h4⟩
  · rw [h0] at h
    cases h
  · refine ⟨?_, ?_⟩
    · have e : M k j = M0 k j := by
        rcases Nat.lt_or_ge k 81 with q | q
        · exact hC k q h1 h2 j
        · exact hM k q hk j
      rw [e, h3, h]
      omega
    · cases hY : YF[k]? with
      | none => rw [hY] at h4; cases h4
      | some p =>
        rw [hY] at h4
        have h5 := Option.some.inj h4
        dsimp only at h5
        rw [Bool.or_eq_true, Bool.and_eq_true, decide_eq_true_eq, decide_eq_true_eq] at h5
        exact ⟨p, rfl, h5⟩
theorem CY.inv {F : Nat → Nat → Nat} {sc : List Int} {Y : YY} {d m : Nat} {as : List Vv} {M : MM} {Q : Vv → YY → MM → Prop} (hRT : ∀ (m : Nat) (R : Rec), RTL[m]? = some R → okC RTL R = true) (hX : okX (xar sc)) (hI : Inv F Y M) (has : okVs as) (hx : ∀ z ∈ as, isXv z = false) (h : CY F sc d m as Y M Q) : CY F sc d m as Y M (fun r Y' M' => Q r Y' M' ∧ Inv F Y' M') := by
  obtain ⟨h1, h2, n, r, Y', M', h3, h4⟩ := h
  have K : Kp F Y M [] (entLL (PP RTL m).1 as) := ⟨hI, fun _ q => (by cases q), okLv_ent has hx⟩
  exact ⟨h1, h2, n, r, Y', M', h3, h4, (exec_keeps hRT hX _ _ _ _ _ _ _ _ _ _ _ h3 K).1⟩
theorem WY.of {F : Nat → Nat → Nat} {sc : List Int} {Y : YY} {d m i : Nat} {st : List Vv} {L : LL} {M : MM} {Q : Vv → YY → MM → Prop} (h : WP F sc Y d m i st L M (fun r M' => Q r Y M')) : WY F sc d m i st L Y M Q := by
  obtain ⟨n, r, M', h1, h2⟩ := h
  exact ⟨n, r, Y, M', h1, h2⟩
theorem inv_0 (M : MM) : Inv F0z [] M := ⟨fun k p h => by simp at h, fun k j t h => by cases h⟩
theorem inv_zr {Y : YY} {M : MM} {k c : Nat} (hI : Inv F0z Y M) (hk : k = Y.length) : Inv F0z (Y ++ [(c, 0)]) (zrM M k) := by
  subst hk
  exact hI.app (fun k hk j => if_neg (by omega)) (fun k p hp _ j => by
    have h : k < 1 := (List.getElem?_eq_some_iff.mp hp).1
    exact if_pos (by omega))
