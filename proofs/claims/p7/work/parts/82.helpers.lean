/-! PART 82: small methods on the two fresh objects -/
theorem up0 {M : MM} : Up M M := fun _ _ _ => rfl
theorem Up.tr {M M1 M2 : MM} (h : Up M M1) (g : Up M1 M2) : Up M M2 := fun k hk j => (g k hk j).trans (h k hk j)
theorem up_st {M M' : MM} {k j : Nat} {v : Int} (hk : k < 81) (h : Up M M') : Up M (stM M' k j v) := fun k' h' j' => (stN (by omega)).trans (h k' h' j')
theorem ind01 {p : Prop} [Decidable p] : (decide (ind p = 0) || decide (ind p = 1)) = true := by
  by_cases h : p
  · rw [show ind p = 1 from if_pos h]
    rfl
  · rw [show ind p = 0 from if_neg h]
    rfl
theorem iv0 {p : Prop} [Decidable p] (h : ¬ p) : vi 0 = vi (ind p) := congrArg vi (if_neg h).symm
theorem iv1 {p : Prop} [Decidable p] (h : p) : vi 1 = vi (ind p) := congrArg vi (if_pos h).symm
theorem zshr (b : Int) : bShr 0 b = 0 := by
  show (i32 0 >>> (i32 b &&& 31)).toInt = 0
  rw [show i32 0 = 0 by decide, Int32.zero_shiftRight]
  decide
theorem zshl (b : Int) : bShl 0 b = 0 := by
  show (i32 0 <<< (i32 b &&& 31)).toInt = 0
  rw [show i32 0 = 0 by decide, Int32.zero_shiftLeft]
  decide
theorem zand (b : Int) : bAnd 0 b = 0 := by
  show (i32 0 &&& i32 b).toInt = 0
  rw [show i32 0 = 0 by decide, Int32.zero_and]
  decide
theorem andz (b : Int) : bAnd b 0 = 0 := by
  show (i32 b &&& i32 0).toInt = 0
  rw [show i32 0 = 0 by decide, Int32.and_zero]
  decide
theorem and_m1 {b : Int} (h : in32 b) : bAnd b (-1) = b := by
  show (i32 b &&& i32 (-1)).toInt = b
  rw [show i32 (-1) = -1 by decide, Int32.and_neg_one]
  exact t_i32' h
theorem hb0 (b : Int) : ¬ bAnd (bShr 0 b) 1 = 1 := by
  rw [zshr]
  decide
section HP
variable {F : Nat → Nat → Nat} {Y : YY} {sc : List Int} {d : Nat} {Q : Vv → MM → Prop}
theorem s_isHouse (a : Int) (M : MM) (k : Q (vi (ind (0 ≤ a ∧ a ≤ 9))) M) : CA F sc Y (d + 2) m_X11_isHouse [vi a] M Q := ca_X11_isHouse a M (s_isIn a 0 9 M (gB ind01 k))
theorem s_isStranger (a : Int) (M : MM) (k : Q (vi (ind (0 ≤ a ∧ a ≤ 9))) M) : CA F sc Y (d + 2) m_X11_isStranger [vi a] M Q := ca_X11_isStranger a M (s_isIn a 0 9 M (gB ind01 k))
theorem s_in (a l h : Int) (M : MM) (k : Q (vi (ind (l ≤ a ∧ a ≤ h))) M) : CA F sc Y (d + 1) m_X12_in [vi a, vi l, vi h] M Q := by
  refine ca_X12_in a l h M (brP (fun h1 => ?_) (fun h1 => brP (fun h2 => ?_) (fun h2 => ?_)))
  · rw [show ind (l ≤ a ∧ a ≤ h) = 0 from if_neg (by omega)] at k
    exact k
  · rw [show ind (l ≤ a ∧ a ≤ h) = 0 from if_neg (by omega)] at k
    exact k
  · rw [show ind (l ≤ a ∧ a ≤ h) = 1 from if_pos (by omega)] at k
    exact k
theorem s_isTen (a : Int) (M : MM) (k : Q (vi (ind (0 ≤ a ∧ a ≤ 9))) M) : CA F sc Y (d + 1) m_X12_isTen [vi a] M Q := by
  refine ca_X12_isTen a M (brP (fun h1 => ?_) (fun h1 => brP (fun h2 => ?_) (fun h2 => ?_)))
  · rw [show ind (0 ≤ a ∧ a ≤ 9) = 0 from if_neg (by omega)] at k
    exact k
  · rw [show ind (0 ≤ a ∧ a ≤ 9) = 0 from if_neg (by omega)] at k
    exact k
  · rw [show ind (0 ≤ a ∧ a ≤ 9) = 1 from if_pos (by omega)] at k
    exact k
theorem s_hasBit (a b : Int) (M : MM) (k : Q (vi (ind (bAnd (bShr a b) 1 = 1))) M) : CA F sc Y (d + 1) m_X11_hasBit [vi a, vi b] M Q := by
  refine ca_X11_hasBit a b M (brP (fun h1 => ?_) (fun h1 => ?_))
  · rw [show ind (bAnd (bShr a b) 1 = 1) = 0 from if_neg h1] at k
    exact k
  · rw [show ind (bAnd (bShr a b) 1 = 1) = 1 from if_pos (Classical.not_not.mp h1)] at k
    exact k
theorem s_has (a b : Int) (M : MM) (k : Q (vi (ind (bAnd (bShr a b) 1 = 1))) M) : CA F sc Y (d + 1) m_X12_has [vi a, vi b] M Q := by
  refine ca_X12_has a b M (brP (fun h1 => ?_) (fun h1 => ?_))
  · rw [show ind (bAnd (bShr a b) 1 = 1) = 0 from if_neg h1] at k
    exact k
  · rw [show ind (bAnd (bShr a b) 1 = 1) = 1 from if_pos (Classical.not_not.mp h1)] at k
    exact k
theorem s_hasBit0 {a : Int} (b : Int) (M : MM) (ha : a = 0) (k : Q (vi 0) M) : CA F sc Y (d + 1) m_X11_hasBit [vi a, vi b] M Q := by
  subst ha
  refine s_hasBit 0 b M ?_
  rw [show ind (bAnd (bShr 0 b) 1 = 1) = 0 from if_neg (hb0 b)]
  exact k
theorem s_has0 {a : Int} (b : Int) (M : MM) (ha : a = 0) (k : Q (vi 0) M) : CA F sc Y (d + 1) m_X12_has [vi a, vi b] M Q := by
  subst ha
  refine s_has 0 b M ?_
  rw [show ind (bAnd (bShr 0 b) 1 = 1) = 0 from if_neg (hb0 b)]
  exact k
end HP
theorem M0_59 (j : Nat) (h : j < 10) : M0 59 j = -1 := by
  obtain rfl | rfl | rfl | rfl | rfl | rfl | rfl | rfl | rfl | rfl : j = 0 ∨ j = 1 ∨ j = 2 ∨ j = 3 ∨ j = 4 ∨ j = 5 ∨ j = 6 ∨ j = 7 ∨ j = 8 ∨ j = 9 := by omega
  all_goals rfl
theorem M0_47 (j : Nat) (h : j < 10) : M0 47 j = -1 := by
  obtain rfl | rfl | rfl | rfl | rfl | rfl | rfl | rfl | rfl | rfl : j = 0 ∨ j = 1 ∨ j = 2 ∨ j = 3 ∨ j = 4 ∨ j = 5 ∨ j = 6 ∨ j = 7 ∨ j = 8 ∨ j = 9 := by omega
  all_goals rfl
theorem M0_86 (j : Nat) (h : j < 10) : M0 86 j = -2 := by
  obtain rfl | rfl | rfl | rfl | rfl | rfl | rfl | rfl | rfl | rfl : j = 0 ∨ j = 1 ∨ j = 2 ∨ j = 3 ∨ j = 4 ∨ j = 5 ∨ j = 6 ∨ j = 7 ∨ j = 8 ∨ j = 9 := by omega
  all_goals rfl
theorem M0_82 (j : Nat) (h : j < 35) : M0 82 j = 0 := by
  revert h
  revert j
  decide +kernel
section HF
variable {sc : List Int} {d : Nat} {Q : Vv → MM → Prop} {M : MM}
theorem f_10 (hC : FrC M) : M 0 10 = 58 := hC.at 0 10 58 (by decide) rfl
theorem f_12 (hC : FrC M) : M 0 12 = 66 := hC.at 0 12 66 (by decide) rfl
theorem f_59 (hC : FrC M) {v : Int} (h : 0 ≤ v ∧ v ≤ 9) : M 59 v.toNat = -1 := hC.at 59 _ _ (by decide) (M0_59 _ (by omega))
theorem f_47 (hC : FrC M) {v : Int} (h : 0 ≤ v ∧ v ≤ 9) : M 47 v.toNat = -1 := hC.at 47 _ _ (by decide) (M0_47 _ (by omega))
theorem f_86 (hM : FrM M) {v : Int} (h : 0 ≤ v ∧ v ≤ 9) : M 86 v.toNat = -2 := hM.at 86 _ _ (by decide) (M0_86 _ (by omega))
theorem s_hasText_f (hC : FrC M) (n m : Int) (k : Q (vi 0) M) : CA FF sc YF (d + 1) m_X7_hasText [vr 1, vi n, vi m] M Q := by
  have e : M 1 1 = 0 := hC.at 1 1 0 (by decide) rfl
  exact ca_X7_hasText n m M (brP (fun _ => k) fun h1 => brP (fun _ => k) fun h2 => brT (by omega) k)
theorem s_hasSpot_f (hC : FrC M) (v : Int) (k : Q (vi 0) M) : CA FF sc YF (d + 3) m_X11_hasSpot [vr 0, vi v] M Q := by
  refine ca_X11_hasSpot v M (s_isHouse v M (brI0 (fun _ => k) fun hp => ?_))
  have e := f_10 hC
  rw [e]
  exact gA (by decide) (gB rfl (gK rfl hp.1 (show v < 10 by omega) (brT (f_59 hC hp) k)))
theorem s_hasSpot_m (hM : FrM M) (v : Int) (k : Q (vi 0) M) : CA FF sc YF (d + 2) m_X12_hasSpot [vr 81, vi v] M Q := by
  refine ca_X12_hasSpot v M (s_isTen v M (brI0 (fun _ => k) fun hp => gI hp.1 (by omega) (brT ?_ k)))
  rw [f_86 hM hp]
  decide
theorem s_isTold_f (hC : FrC M) {v : Int} (h : 0 ≤ v ∧ v ≤ 9) (k : Q (vi 0) M) : CA FF sc YF (d + 1) m_X8_isTold [vr 46, vi v] M Q := ca_X8_isTold v M (gI h.1 (by omega) (brT (f_47 hC h) k))
theorem s_isTold_m (hM : FrM M) (v : Int) (k : Q (vi 0) M) : CA FF sc YF (d + 2) m_X12_isTold [vr 81, vi v] M Q := ca_X12_isTold v M (s_isTen v M (brI0 (fun _ => k) fun _ => s_has0 v M (hM.at 82 30 0 (by decide) rfl) (k)))
end HF
