/-! PART 61: the tape of both: what feed writes -/
theorem pc_X11_feed {sc : List Int} {n : Nat} {Q : Vv → MM → Prop} (v1 : Int) (v2 : Int) (v3 : Int) (v4 : Int) (v5 : Int) (M : MM) (h : ∀ n1, n1 < n → brA (decide ((w32 ((M 1 1) + 20)) ≤ 260))
  (PC sc n1 m_X7_add [vr 1, vi v1] M (fun _ M1 =>
   PC sc n1 m_X7_add [vr 1, vi v2] M1 (fun _ M2 =>
    PC sc n1 m_X7_add [vr 1, vi v3] M2 (fun _ M3 =>
     PC sc n1 m_X7_add [vr 1, vi v4] M3 (fun _ M4 =>
      PC sc n1 m_X7_add [vr 1, vi v5] M4 (fun _ M5 =>
       Q (vi (M5 1 1)) M5))))))
  (Q (vi ((-1))) M)) : PC sc n m_X11_feed [vr 0, vi v1, vi v2, vi v3, vi v4, vi v5] M Q := pc_go rfl (fun j => false) 38 h
theorem pc_X7_add {sc : List Int} {n : Nat} {Q : Vv → MM → Prop} (v1 : Int) (M : MM) (h : ∀ n1, n1 < n → PW sc n1 m_X7_add 2 [] [some (vr 1), some (vi v1), some (vi 24)] M Q) : PC sc n m_X7_add [vr 1, vi v1] M Q := pc_go rfl (fun j => Nat.beq j 2) 32 h
theorem pw_X7_add_2 {sc : List Int} {n : Nat} {Q : Vv → MM → Prop} (v1 : Int) (v2 : Int) (M : MM) (h : ∀ n1, n1 < n → brA (decide (v2 < 0))
  (Q (vi 0) M)
  (brA (decide (260 ≤ (M 1 1)))
   (PW sc n1 m_X7_add 2 [] [some (vr 1), some (vi v1), some (vi (w32 (v2 + (-8))))] M Q)
   (gIm (decide (0 ≤ (M 1 1)) && decide ((M 1 1) < 260)) (PW sc n1 m_X7_add 2 [] [some (vr 1), some (vi v1), some (vi (w32 (v2 + (-8))))] (stM (stM M 2 ((M 1 1).toNat) (bAnd (bShr v1 v2) 255)) 1 1 (w32 ((M 1 1) + 1))) Q)))) : PW sc n m_X7_add 2 [] [some (vr 1), some (vi v1), some (vi v2)] M Q := pw_go rfl (fun j => Nat.beq j 2) 32 h
theorem pc_X12_feed {sc : List Int} {n : Nat} {Q : Vv → MM → Prop} (v1 : Int) (v2 : Int) (v3 : Int) (v4 : Int) (v5 : Int) (M : MM) (h : ∀ n1, n1 < n → brA (decide ((w32 ((M 81 10) + 20)) ≤ 260))
  (PC sc n1 m_X12_types [vr 81, vi v1] M (fun _ M1 =>
   PC sc n1 m_X12_types [vr 81, vi v2] M1 (fun _ M2 =>
    PC sc n1 m_X12_types [vr 81, vi v3] M2 (fun _ M3 =>
     PC sc n1 m_X12_types [vr 81, vi v4] M3 (fun _ M4 =>
      PC sc n1 m_X12_types [vr 81, vi v5] M4 (fun _ M5 =>
       Q (vi (M5 81 10)) M5))))))
  (Q (vi ((-1))) M)) : PC sc n m_X12_feed [vr 81, vi v1, vi v2, vi v3, vi v4, vi v5] M Q := pc_go rfl (fun j => false) 31 h
theorem pc_X12_types {sc : List Int} {n : Nat} {Q : Vv → MM → Prop} (v1 : Int) (M : MM) (h : ∀ n1, n1 < n → PW sc n1 m_X12_types 2 [] [some (vr 81), some (vi v1), some (vi 3)] M Q) : PC sc n m_X12_types [vr 81, vi v1] M Q := pc_go rfl (fun j => Nat.beq j 2) 29 h
theorem pw_X12_types_2 {sc : List Int} {n : Nat} {Q : Vv → MM → Prop} (v1 : Int) (v2 : Int) (M : MM) (h : ∀ n1, n1 < n → brA (decide (v2 < 0))
  (Q (vi 0) M)
  (gIm (decide (0 ≤ (M 81 10)) && decide ((M 81 10) < 260)) (PW sc n1 m_X12_types 2 [] [some (vr 81), some (vi v1), some (vi (w32 (v2 + (-1))))] (stM (stM M 90 ((M 81 10).toNat) (w8 (w8 (bShr v1 (w32 (8 * v2)))))) 81 10 (w32 ((M 81 10) + 1))) Q))) : PW sc n m_X12_types 2 [] [some (vr 81), some (vi v1), some (vi v2)] M Q := pw_go rfl (fun j => Nat.beq j 2) 29 h
def byC (v : Int) (i : Nat) : Int := bAnd (bShr v (24 - 8 * (i : Int))) 255
def byM (v : Int) (i : Nat) : Int := w8 (w8 (bShr v (24 - 8 * (i : Int))))
theorem in32_bShr (x y : Int) : in32 (bShr x y) := in_t32 _
theorem bAnd255 {x : Int} (hx : in32 x) : bAnd x 255 = x % 256 := by
  have e2 := nat32 (b := 255) (by decide) (by decide)
  have h3 : ((i32 x) &&& (i32 255)).toBitVec.toNat = (i32 x).toBitVec.toNat % 256 := by
    rw [Int32.toBitVec_and, BitVec.toNat_and, e2]
    exact Nat.and_two_pow_sub_one_eq_mod _ 8
  have h4 : (i32 x).toBitVec.toInt = x := t_i32' hx
  rw [BitVec.toInt_eq_toNat_cond] at h4
  have h5 : bAnd x 255 = (((i32 x).toBitVec.toNat % 256 : Nat) : Int) := int_of_nat32 h3 (by omega)
  rw [h5]
  split at h4 <;> omega
theorem w8_mod (x : Int) : w8 x % 256 = x % 256 := by
  unfold w8
  exact Int.bmod_emod
theorem byCM (v : Int) (i : Nat) : byC v i = byM v i % 256 := by
  unfold byC byM
  rw [bAnd255 (in32_bShr _ _), w8_mod, w8_mod]
/- bytes 4 of v from s on -/
def fdV (g : Int → Nat → Int) (f : Nat → Int) (s : Nat) (v : Int) (j : Nat) : Int := if s ≤ j ∧ j < s + 4 then g v (j - s) else f j
def tpI (g : Int → Nat → Int) (ca cs js : Nat) (M0 : MM) (s : Nat) (v : Int) (i : Nat) (M : MM) : Prop := M cs js = ((s + i : Nat) : Int) ∧ (∀ j, M ca j = if s ≤ j ∧ j < s + i then g v (j - s) else M0 ca j) ∧ ∀ c j, c ≠ ca → ¬ (c = cs ∧ j = js) → M c j = M0 c j
theorem tpI.step {g : Int → Nat → Int} {ca cs js : Nat} {M0 : MM} {s : Nat} {v : Int} {i : Nat} {M : MM} (h : tpI g ca cs js M0 s v i M) (hc : cs ≠ ca) {x z : Int} (hx : x = g v i) (hz : z = ((s + i + 1 : Nat) : Int)) : tpI g ca cs js M0 s v (i + 1) (stM (stM M ca (s + i) x) cs js z) := by
  subst hx hz
  refine ⟨stE, fun j => ?_, fun c j h1 h2 => ?_⟩
  · rw [stN (Ne.symm hc), stM_at, h.2.1 j]
    by_cases q : j = s + i
    · subst q
      rw [if_pos ⟨rfl, rfl⟩, if_pos ⟨by omega, by omega⟩, Nat.add_sub_cancel_left]
    · rw [if_neg (fun z => q z.2)]
      by_cases q2 : s ≤ j ∧ j < s + i
      · rw [if_pos q2, if_pos (by omega)]
      · rw [if_neg q2, if_neg (by omega)]
  · rw [stM_at, if_neg h2, stN h1]
    exact h.2.2 c j h1 h2
/- one int is added -/
def tp1 (g : Int → Nat → Int) (ca cs js : Nat) (s : Nat) (v : Int) (M M1 : MM) : Prop := M1 cs js = ((s + 4 : Nat) : Int) ∧ M1 ca = fdV g (M ca) s v ∧ ∀ c j, c ≠ ca → ¬ (c = cs ∧ j = js) → M1 c j = M c j
section TPE
variable {sc : List Int} {Q : Vv → MM → Prop}
set_option maxRecDepth 20000 in
theorem f_add_w {v : Int} {M0 : MM} {s : Nat} (hs : s + 4 ≤ 260) (k : ∀ M1, tp1 byC 2 1 1 s v M0 M1 → Q (vi 0) M1) : ∀ (m i n : Nat) (M : MM), i + m = 4 → tpI byC 2 1 1 M0 s v i M → PW sc n m_X7_add 2 [] [some (vr 1), some (vi v), some (vi (24 - 8 * (i : Int)))] M Q := by
  intro m
  induction m with
  | zero =>
    intro i n M hi I
    have hi : i = 4 := hi
    subst hi
    refine pw_X7_add_2 v _ M fun n1 _ => brT (by omega) (k M ⟨I.1, funext fun j => I.2.1 j, I.2.2⟩)
  | succ m ih =>
    intro i n M hi I
    have e1 := I.1
    refine pw_X7_add_2 v _ M fun n1 _ => brF (by omega) (brF (by omega) (gMB ?_))
    rw [e1, show (((s + i : Nat) : Int)).toNat = s + i by omega, ew32 (z := ((s + i : Nat) : Int) + 1) (by omega) (by omega), ew32 (z := 24 - 8 * (i : Int) + -8) (by omega) (by omega)]
    rw [show (24 - 8 * (i : Int) + -8) = 24 - 8 * ((i + 1 : Nat) : Int) by omega]
    exact ih (i + 1) n1 _ (by omega) (I.step (by decide) rfl (by omega))
set_option maxRecDepth 20000 in
theorem f_add {v : Int} {M : MM} {s n : Nat} (h1 : M 1 1 = (s : Int)) (hs : s + 4 ≤ 260) (k : ∀ M1, tp1 byC 2 1 1 s v M M1 → Q (vi 0) M1) : PC sc n m_X7_add [vr 1, vi v] M Q := pc_X7_add v M fun n1 _ => f_add_w hs k 4 0 n1 M rfl ⟨h1, fun j => by rw [if_neg (by omega)], fun _ _ _ _ => rfl⟩
set_option maxRecDepth 20000 in
theorem f_types_w {v : Int} {M0 : MM} {s : Nat} (hs : s + 4 ≤ 260) (k : ∀ M1, tp1 byM 90 81 10 s v M0 M1 → Q (vi 0) M1) : ∀ (m i n : Nat) (M : MM), i + m = 4 → tpI byM 90 81 10 M0 s v i M → PW sc n m_X12_types 2 [] [some (vr 81), some (vi v), some (vi (3 - (i : Int)))] M Q := by
  intro m
  induction m with
  | zero =>
    intro i n M hi I
    have hi : i = 4 := hi
    subst hi
    refine pw_X12_types_2 v _ M fun n1 _ => brT (by omega) (k M ⟨I.1, funext fun j => I.2.1 j, I.2.2⟩)
  | succ m ih =>
    intro i n M hi I
    have e1 := I.1
    refine pw_X12_types_2 v _ M fun n1 _ => brF (by omega) (gMB ?_)
    rw [e1, show (((s + i : Nat) : Int)).toNat = s + i by omega, ew32 (z := ((s + i : Nat) : Int) + 1) (by omega) (by omega), ew32 (z := 3 - (i : Int) + -1) (by omega) (by omega), ew32 (z := 8 * (3 - (i : Int))) (by omega) (by omega)]
    rw [show (3 - (i : Int) + -1) = 3 - ((i + 1 : Nat) : Int) by omega, show 8 * (3 - (i : Int)) = 24 - 8 * (i : Int) by omega]
    exact ih (i + 1) n1 _ (by omega) (I.step (by decide) rfl (by omega))
set_option maxRecDepth 20000 in
theorem f_types {v : Int} {M : MM} {s n : Nat} (h1 : M 81 10 = (s : Int)) (hs : s + 4 ≤ 260) (k : ∀ M1, tp1 byM 90 81 10 s v M M1 → Q (vi 0) M1) : PC sc n m_X12_types [vr 81, vi v] M Q := pc_X12_types v M fun n1 _ => f_types_w hs k 4 0 n1 M rfl ⟨h1, fun j => by rw [if_neg (by omega)], fun _ _ _ _ => rfl⟩
/- five ints are added -/
def fd5 (g : Int → Nat → Int) (f : Nat → Int) (s : Nat) (a b c d e : Int) : Nat → Int := fdV g (fdV g (fdV g (fdV g (fdV g f s a) (s + 4) b) (s + 8) c) (s + 12) d) (s + 16) e
theorem fdV_m {f f' : Nat → Int} (h : ∀ j, f j = f' j % 256) (s : Nat) (v : Int) : ∀ j, fdV byC f s v j = fdV byM f' s v j % 256 := fun j => by
  unfold fdV
  split
  · exact byCM _ _
  · exact h j
theorem fd5_m {f f' : Nat → Int} (h : ∀ j, f j = f' j % 256) (s : Nat) (a b c d e : Int) : ∀ j, fd5 byC f s a b c d e j = fd5 byM f' s a b c d e j % 256 := fdV_m (fdV_m (fdV_m (fdV_m (fdV_m h _ _) _ _) _ _) _ _) _ _
set_option maxRecDepth 20000 in
theorem f_feedC {a b c d e : Int} {M : MM} {s n : Nat} (h1 : M 1 1 = (s : Int)) (hs : s ≤ 260) (k0 : 240 < s → Q (vi (-1)) M) (k1 : s ≤ 240 → ∀ M1, M1 1 1 = ((s + 20 : Nat) : Int) → M1 2 = fd5 byC (M 2) s a b c d e → (∀ c j, c ≠ 2 → ¬ (c = 1 ∧ j = 1) → M1 c j = M c j) → Q (vi ((s + 20 : Nat) : Int)) M1) : PC sc n m_X11_feed [vr 0, vi a, vi b, vi c, vi d, vi e] M Q := by
  refine pc_X11_feed a b c d e M fun n1 _ => ?_
  rw [h1, ew32 (z := (s : Int) + 20) (by omega) (by omega)]
  refine brP (fun h => ?_) fun h => k0 (by omega)
  refine f_add h1 (by omega) fun M1 t1 => f_add t1.1 (by omega) fun M2 t2 => f_add t2.1 (by omega) fun M3 t3 => f_add t3.1 (by omega) fun M4 t4 => f_add t4.1 (by omega) fun M5 t5 => ?_
  rw [t5.1]
  refine k1 (by omega) M5 t5.1 ?_ fun c j h2 h3 => by rw [t5.2.2 c j h2 h3, t4.2.2 c j h2 h3, t3.2.2 c j h2 h3, t2.2.2 c j h2 h3, t1.2.2 c j h2 h3]
  rw [t5.2.1, t4.2.1, t3.2.1, t2.2.1, t1.2.1]
  rfl
set_option maxRecDepth 20000 in
theorem f_feedM {a b c d e : Int} {M : MM} {s n : Nat} (h1 : M 81 10 = (s : Int)) (hs : s ≤ 260) (k0 : 240 < s → Q (vi (-1)) M) (k1 : s ≤ 240 → ∀ M1, M1 81 10 = ((s + 20 : Nat) : Int) → M1 90 = fd5 byM (M 90) s a b c d e → (∀ c j, c ≠ 90 → ¬ (c = 81 ∧ j = 10) → M1 c j = M c j) → Q (vi ((s + 20 : Nat) : Int)) M1) : PC sc n m_X12_feed [vr 81, vi a, vi b, vi c, vi d, vi e] M Q := by
  refine pc_X12_feed a b c d e M fun n1 _ => ?_
  rw [h1, ew32 (z := (s : Int) + 20) (by omega) (by omega)]
  refine brP (fun h => ?_) fun h => k0 (by omega)
  refine f_types h1 (by omega) fun M1 t1 => f_types t1.1 (by omega) fun M2 t2 => f_types t2.1 (by omega) fun M3 t3 => f_types t3.1 (by omega) fun M4 t4 => f_types t4.1 (by omega) fun M5 t5 => ?_
  rw [t5.1]
  refine k1 (by omega) M5 t5.1 ?_ fun c j h2 h3 => by rw [t5.2.2 c j h2 h3, t4.2.2 c j h2 h3, t3.2.2 c j h2 h3, t2.2.2 c j h2 h3, t1.2.2 c j h2 h3]
  rw [t5.2.1, t4.2.1, t3.2.1, t2.2.1, t1.2.1]
  rfl
/- the tapes are alike -/
def rT (M : MM) : Prop := M 1 1 = M 81 10 ∧ ∀ j, M 2 j = M 90 j % 256
end TPE
