/-! PART 53: the codes while THE LAW is read: what each step keeps -/
def cop (v : Int) : Int := v / 1048576
def carg (v : Int) : Int := v % 1048576
theorem cop_mk {o v : Int} (h : 0 ≤ v ∧ v < 1048576) : cop (1048576 * o + v) = o := by
  unfold cop
  omega
theorem carg_mk {o v : Int} (h : 0 ≤ v ∧ v < 1048576) : carg (1048576 * o + v) = v := by
  unfold carg
  omega
theorem carg_r (v : Int) : 0 ≤ carg v ∧ carg v < 1048576 := ⟨Int.emod_nonneg _ (by decide), Int.emod_lt_of_pos _ (by decide)⟩
def isIf (v : Int) : Prop := cop v = 11 ∨ cop v = 12
def opB (v : Int) : Bool := decide (2 ≤ cop v) && decide (cop v ≤ 6)
def emB (v : Int) : Bool := opB v || decide (cop v = 10)
def cntW (p : Int → Bool) (W : Nat → Int) (n : Nat) : Nat := match n with
  | 0 => 0
  | n + 1 => cntW p W n + (match p (W n) with
    | true => 1
    | false => 0)
theorem cntW_eq (p : Int → Bool) {W W' : Nat → Int} : ∀ n, (∀ i, i < n → W' i = W i) → cntW p W' n = cntW p W n := by
  intro n
  induction n with
  | zero => intro _; rfl
  | succ n ih =>
    intro h
    unfold cntW
    rw [ih (fun i hi => h i (by omega)), h n (by omega)]
theorem cntW_0 (p : Int → Bool) {W : Nat → Int} : ∀ n, (∀ i, i < n → p (W i) = false) → cntW p W n = 0 := by
  intro n
  induction n with
  | zero => intro _; rfl
  | succ n ih =>
    intro h
    unfold cntW
    rw [ih (fun i hi => h i (by omega)), h n (by omega)]
    rfl
theorem cntW_t {p : Int → Bool} {W : Nat → Int} {n : Nat} (h : p (W n) = true) : cntW p W (n + 1) = cntW p W n + 1 := by
  show cntW p W n + _ = _
  rw [h]
theorem cntW_f {p : Int → Bool} {W : Nat → Int} {n : Nat} (h : p (W n) = false) : cntW p W (n + 1) = cntW p W n := by
  show cntW p W n + _ = _
  rw [h]
  rfl
/-- a code ahead of place c: a jump leads to a place that is there, or still waits for one -/
def rdK (C W : Nat → Int) (dp : Nat → Nat) (c w k : Nat) : Prop := 0 ≤ C k ∧ ((cop (C k) = 0 ∧ dp (k + 1) = dp k + 1) ∨ (cop (C k) = 1 ∧ carg (C k) < 10 ∧ dp (k + 1) = dp k + 1) ∨ (cop (C k) = 10 ∧ 1 ≤ dp k ∧ dp (k + 1) = dp k) ∨ (isIf (C k) ∧ 1 ≤ dp k ∧ dp (k + 1) + 1 = dp k ∧ (((k : Int) < carg (C k) ∧ carg (C k) ≤ c ∧ dp (carg (C k)).toNat = dp k) ∨ ∃ i, i < w ∧ isIf (W i) ∧ carg (W i) = k)) ∨ ((2 ≤ cop (C k) ∧ cop (C k) ≤ 9) ∧ 2 ≤ dp k ∧ dp (k + 1) + 1 = dp k))
def rdC (C W : Nat → Int) (a c w D : Nat) : Prop := ∃ dp : Nat → Nat, dp a = 0 ∧ dp c = D ∧ (∀ k, a ≤ k → k < c → rdK C W dp c w k) ∧ ∀ i, i < w → isIf (W i) → (a : Int) ≤ carg (W i) ∧ carg (W i) < c ∧ isIf (C (carg (W i)).toNat) ∧ dp (carg (W i)).toNat = 1
def upN (dp : Nat → Nat) (n v : Nat) : Nat → Nat := fun k => if k = n then v else dp k
theorem upN_at (dp : Nat → Nat) (n v : Nat) : upN dp n v n = v := if_pos rfl
theorem upN_ne {dp : Nat → Nat} {n v k : Nat} (h : k ≠ n) : upN dp n v k = dp k := if_neg h
/-- one more code, no jump -/
theorem rdC.push {C C' W : Nat → Int} {a c w D D' : Nat} {x : Int} (h : rdC C W a c w D) (hac : a ≤ c) (hC : ∀ j, C' j = if j = c then x else C j) (hx : 0 ≤ x ∧ ((cop x = 0 ∧ D' = D + 1) ∨ (cop x = 1 ∧ carg x < 10 ∧ D' = D + 1) ∨ (cop x = 10 ∧ 1 ≤ D ∧ D' = D) ∨ ((2 ≤ cop x ∧ cop x ≤ 9) ∧ 2 ≤ D ∧ D' + 1 = D))) : rdC C' W a (c + 1) w D' := by
  obtain ⟨dp, h0, h1, h2, h3⟩ := h
  refine ⟨upN dp (c + 1) D', ?_, upN_at _ _ _, fun k hk hk2 => ?_, fun i hi hif => ?_⟩
  · rw [upN_ne (by omega)]
    exact h0
  · by_cases e : k = c
    · subst e
      have eC : C' k = x := by rw [hC, if_pos rfl]
      have e1 : upN dp (k + 1) D' k = D := by rw [upN_ne (by omega)]; exact h1
      have e2 : upN dp (k + 1) D' (k + 1) = D' := upN_at _ _ _
      unfold rdK
      rw [eC, e1, e2]
      refine ⟨hx.1, ?_⟩
      rcases hx.2 with q | q | q | q
      · exact .inl q
      · exact .inr (.inl q)
      · exact .inr (.inr (.inl q))
      · exact .inr (.inr (.inr (.inr q)))
    · have hb := h2 k hk (by omega)
      have eC : C' k = C k := by rw [hC, if_neg e]
      have e1 : upN dp (c + 1) D' k = dp k := upN_ne (by omega)
      have e2 : upN dp (c + 1) D' (k + 1) = dp (k + 1) := upN_ne (by omega)
      unfold rdK at hb ⊢
      rw [eC, e1, e2]
      refine ⟨hb.1, ?_⟩
      rcases hb.2 with q | q | q | ⟨q1, q2, q3, q4⟩ | q
      · exact .inl q
      · exact .inr (.inl q)
      · exact .inr (.inr (.inl q))
      · refine .inr (.inr (.inr (.inl ⟨q1, q2, q3, ?_⟩)))
        rcases q4 with ⟨z1, z2, z3⟩ | q4
        · refine .inl ⟨z1, by omega, ?_⟩
          rw [upN_ne (by omega)]
          exact z3
        · exact .inr q4
      · exact .inr (.inr (.inr (.inr q)))
  · obtain ⟨z1, z2, z3, z4⟩ := h3 i hi hif
    refine ⟨z1, by omega, ?_, ?_⟩
    · rw [hC, if_neg (by omega)]
      exact z3
    · rw [upN_ne (by omega)]
      exact z4
/-- one more that waits, no jump -/
theorem rdC.wpush {C W W' : Nat → Int} {a c w D : Nat} {y : Int} (h : rdC C W a c w D) (hW : ∀ j, W' j = if j = w then y else W j) (hy : ¬ isIf y) : rdC C W' a c (w + 1) D := by
  obtain ⟨dp, h0, h1, h2, h3⟩ := h
  refine ⟨dp, h0, h1, fun k hk hk2 => ?_, fun i hi hif => ?_⟩
  · have hb := h2 k hk hk2
    refine ⟨hb.1, ?_⟩
    rcases hb.2 with q | q | q | ⟨q1, q2, q3, q4⟩ | q
    · exact .inl q
    · exact .inr (.inl q)
    · exact .inr (.inr (.inl q))
    · refine .inr (.inr (.inr (.inl ⟨q1, q2, q3, ?_⟩)))
      rcases q4 with q4 | ⟨i, hi, hif, he⟩
      · exact .inl q4
      · refine .inr ⟨i, by omega, ?_, ?_⟩ <;> (rw [hW, if_neg (by omega)]; assumption)
    · exact .inr (.inr (.inr (.inr q)))
  · by_cases e : i = w
    · subst e
      rw [hW, if_pos rfl] at hif
      exact absurd hif hy
    · rw [hW, if_neg e] at hif ⊢
      exact h3 i (by omega) hif
/-- one fewer that waits, no jump -/
theorem rdC.wpop {C W : Nat → Int} {a c w D : Nat} (h : rdC C W a c (w + 1) D) (hy : ¬ isIf (W w)) : rdC C W a c w D := by
  obtain ⟨dp, h0, h1, h2, h3⟩ := h
  refine ⟨dp, h0, h1, fun k hk hk2 => ?_, fun i hi hif => h3 i (by omega) hif⟩
  have hb := h2 k hk hk2
  refine ⟨hb.1, ?_⟩
  rcases hb.2 with q | q | q | ⟨q1, q2, q3, q4⟩ | q
  · exact .inl q
  · exact .inr (.inl q)
  · exact .inr (.inr (.inl q))
  · refine .inr (.inr (.inr (.inl ⟨q1, q2, q3, ?_⟩)))
    rcases q4 with q4 | ⟨i, hi, hif, he⟩
    · exact .inl q4
    · refine .inr ⟨i, ?_, hif, he⟩
      have : i ≠ w := fun q => by
        subst q
        exact hy hif
      omega
  · exact .inr (.inr (.inr (.inr q)))
/-- a jump is noted, and waits for its place -/
theorem rdC.jump {C C' W W' : Nat → Int} {a c w : Nat} {x y : Int} (h : rdC C W a c w 1) (hac : a ≤ c) (hC : ∀ j, C' j = if j = c then x else C j) (hW : ∀ j, W' j = if j = w then y else W j) (hx : 0 ≤ x ∧ isIf x) (hy : isIf y ∧ carg y = c) : rdC C' W' a (c + 1) (w + 1) 0 := by
  obtain ⟨dp, h0, h1, h2, h3⟩ := h
  have lift : ∀ {k : Nat}, (∃ i, i < w ∧ isIf (W i) ∧ carg (W i) = k) → ∃ i, i < w + 1 ∧ isIf (W' i) ∧ carg (W' i) = k := fun ⟨i, hi, hif, he⟩ => by
    refine ⟨i, by omega, ?_, ?_⟩ <;> (rw [hW, if_neg (by omega)]; assumption)
  refine ⟨upN dp (c + 1) 0, ?_, upN_at _ _ _, fun k hk hk2 => ?_, fun i hi hif => ?_⟩
  · rw [upN_ne (by omega)]
    exact h0
  · by_cases e : k = c
    · subst e
      have eC : C' k = x := by rw [hC, if_pos rfl]
      have e1 : upN dp (k + 1) 0 k = 1 := by rw [upN_ne (by omega)]; exact h1
      have e2 : upN dp (k + 1) 0 (k + 1) = 0 := upN_at _ _ _
      unfold rdK
      rw [eC, e1, e2]
      refine ⟨hx.1, .inr (.inr (.inr (.inl ⟨hx.2, by omega, rfl, .inr ⟨w, by omega, ?_, ?_⟩⟩)))⟩ <;> (rw [hW, if_pos rfl])
      · exact hy.1
      · exact hy.2
    · have hb := h2 k hk (by omega)
      have eC : C' k = C k := by rw [hC, if_neg e]
      have e1 : upN dp (c + 1) 0 k = dp k := upN_ne (by omega)
      have e2 : upN dp (c + 1) 0 (k + 1) = dp (k + 1) := upN_ne (by omega)
      unfold rdK at hb ⊢
      rw [eC, e1, e2]
      refine ⟨hb.1, ?_⟩
      rcases hb.2 with q | q | q | ⟨q1, q2, q3, q4⟩ | q
      · exact .inl q
      · exact .inr (.inl q)
      · exact .inr (.inr (.inl q))
      · refine .inr (.inr (.inr (.inl ⟨q1, q2, q3, ?_⟩)))
        rcases q4 with ⟨z1, z2, z3⟩ | q4
        · refine .inl ⟨z1, by omega, ?_⟩
          rw [upN_ne (by omega)]
          exact z3
        · exact .inr (lift q4)
      · exact .inr (.inr (.inr (.inr q)))
  · by_cases e : i = w
    · subst e
      rw [hW, if_pos rfl] at hif ⊢
      rw [hy.2]
      have et : ((c : Int)).toNat = c := by omega
      rw [et, hC, if_pos rfl]
      refine ⟨by omega, by omega, hx.2, ?_⟩
      rw [upN_ne (by omega)]
      exact h1
    · rw [hW, if_neg e] at hif ⊢
      obtain ⟨z1, z2, z3, z4⟩ := h3 i (by omega) hif
      refine ⟨z1, by omega, ?_, ?_⟩
      · rw [hC, if_neg (by omega)]
        exact z3
      · rw [upN_ne (by omega)]
        exact z4
/-- a jump has its place -/
theorem rdC.land {C C' W : Nat → Int} {a c w : Nat} {x : Int} (h : rdC C W a c (w + 1) 1) (hi : isIf (W w)) (hc : c < 1048576) (hC : ∀ j, C' j = if j = (carg (W w)).toNat then x else C j) (hx : 0 ≤ x ∧ cop x = cop (C (carg (W w)).toNat) ∧ carg x = c) : rdC C' W a c w 1 := by
  obtain ⟨dp, h0, h1, h2, h3⟩ := h
  obtain ⟨f1, f2, f3, f4⟩ := h3 w (by omega) hi
  refine ⟨dp, h0, h1, fun k hk hk2 => ?_, fun i hi2 hif => ?_⟩
  · have hb := h2 k hk hk2
    by_cases e : k = (carg (W w)).toNat
    · have eC : C' k = x := by rw [hC, if_pos e]
      rw [← e] at f3 f4 hx
      unfold rdK
      rw [eC]
      have hxi : isIf x := by
        unfold isIf at f3 ⊢
        rw [hx.2.1]
        exact f3
      have hd : dp (k + 1) + 1 = dp k := by
        have hf := f3
        unfold isIf at hf
        rcases hb.2 with q | q | q | ⟨q1, q2, q3, q4⟩ | q
        · omega
        · omega
        · omega
        · exact q3
        · omega
      refine ⟨hx.1, .inr (.inr (.inr (.inl ⟨hxi, by omega, hd, .inl ⟨?_, ?_, ?_⟩⟩)))⟩
      · rw [hx.2.2]
        omega
      · rw [hx.2.2]
        exact Int.le_refl _
      · rw [hx.2.2, show ((c : Int)).toNat = c by omega, h1, f4]
    · have eC : C' k = C k := by rw [hC, if_neg e]
      unfold rdK at hb ⊢
      rw [eC]
      refine ⟨hb.1, ?_⟩
      rcases hb.2 with q | q | q | ⟨q1, q2, q3, q4⟩ | q
      · exact .inl q
      · exact .inr (.inl q)
      · exact .inr (.inr (.inl q))
      · refine .inr (.inr (.inr (.inl ⟨q1, q2, q3, ?_⟩)))
        rcases q4 with q4 | ⟨i, hi2, hif, he⟩
        · exact .inl q4
        · refine .inr ⟨i, ?_, hif, he⟩
          have : i ≠ w := fun q => by
            subst q
            apply e
            omega
          omega
      · exact .inr (.inr (.inr (.inr q)))
  · obtain ⟨z1, z2, z3, z4⟩ := h3 i (by omega) hif
    refine ⟨z1, z2, ?_, z4⟩
    rw [hC]
    split
    · rename_i e
      unfold isIf at f3 ⊢
      rw [hx.2.1]
      exact f3
    · exact z3
/-- at the end, with nothing that waits -/
theorem rdC.seg {C : Nat → Int} {W : Nat → Int} {a c : Nat} (h : rdC C W a c 0 1) (hac : a ≤ c) (hc : c ≤ 260) : cvG C a c := by
  obtain ⟨dp, h0, h1, h2, -⟩ := h
  have hne : a ≠ c := fun q => by
    subst q
    rw [h0] at h1
    cases h1
  refine ⟨by omega, hc, dp, h0, h1, fun k hk hk2 => ?_⟩
  have hb := h2 k hk hk2
  refine ⟨hb.1, ?_⟩
  rcases hb.2 with q | q | q | ⟨q1, q2, q3, q4⟩ | q
  · exact .inl q
  · exact .inr (.inl q)
  · exact .inr (.inr (.inl q))
  · refine .inr (.inr (.inr (.inl ⟨q1, q2, q3, ?_⟩)))
    rcases q4 with q4 | ⟨i, hi, -⟩
    · exact q4
    · omega
  · exact .inr (.inr (.inr (.inr q)))
theorem rdC.zero (C W : Nat → Int) (a : Nat) : rdC C W a a 0 0 := ⟨fun _ => 0, rfl, rfl, fun k h1 h2 => by omega, fun i hi => by omega⟩
theorem cvG_eq {C C' : Nat → Int} {a b : Nat} (h : cvG C a b) (e : ∀ k, k < b → C' k = C k) : cvG C' a b := by
  obtain ⟨h1, h2, dp, h3, h4, h5⟩ := h
  refine ⟨h1, h2, dp, h3, h4, fun k hk hk2 => ?_⟩
  have := h5 k hk hk2
  unfold cvK at this ⊢
  rw [e k hk2]
  exact this
