/-! PART 62: the text of a QUARTER, read by the class -/
theorem pc_X9_read {sc : List Int} {n : Nat} {T : Nat} (hT : T = 57 ∨ T = 61) {Q : Vv → MM → Prop} (v2 : Int) (M : MM) (h : ∀ n1, n1 < n → PC sc n1 m_X9_clear [vr T] M (fun _ M1 =>
  PW sc n1 m_X9_read 6 [] [some (vr T), some (vr 1), some (vi v2), some (vi 0), some (vi 0), none, none] M1 Q)) : PC sc n m_X9_read [vr T, vr 1, vi v2] M Q := by
  rcases hT with rfl | rfl <;> exact pc_go rfl (fun j => Nat.beq j 6 || Nat.beq j 35) 82 h
theorem pw_X9_read_6 {sc : List Int} {n : Nat} {T : Nat} (hT : T = 57 ∨ T = 61) {Q : Vv → MM → Prop} (v2 : Int) (v3 : Int) (v4 : Int) (o5 : Option Vv) (o6 : Option Vv) (M : MM) (h : ∀ n1, n1 < n → brA (decide (v2 ≤ v4))
  (brA (decide (v3 ≠ 0))
   (PC sc n1 m_X11_faultAt [vi 1, vi v2] M (cI fun r2 M1 =>
    Q (vi r2) M1))
   (brA (decide ((M T 3) < 8))
    (PC sc n1 m_X11_faultAt [vi 1, vi v2] M (cI fun r4 M3 =>
     Q (vi r4) M3))
    (brA (decide (7 ≤ (M T 4)))
     (PC sc n1 m_X9_look [vr T] M (fun _ M5 =>
      PC sc n1 m_X9_housesWithSpots [vr T] M5 (cI fun r7 M6 =>
       PC sc n1 m_J6_bitCount_0f7a4 [vi r7] M6 (cI fun r9 M8 =>
        Q (vi r9) M8))))
     (PC sc n1 m_X11_faultAt [vi 1, vi v2] M (cI fun r11 M10 =>
      Q (vi r11) M10)))))
  (PC sc n1 m_X7_at [vr 1, vi v4] M (cI fun r13 M12 =>
   brA (decide (v3 ≠ 0))
    (PW sc n1 m_X9_read 35 [] [some (vr T), some (vr 1), some (vi v2), some (vi v3), some (vi v4), some (vi r13), o6] M12 Q)
    (brA (decide (r13 < 50))
     (PW sc n1 m_X9_read 35 [] [some (vr T), some (vr 1), some (vi v2), some (vi v3), some (vi v4), some (vi r13), o6] M12 Q)
     (brA (decide (56 < r13))
      (PW sc n1 m_X9_read 35 [] [some (vr T), some (vr 1), some (vi v2), some (vi v3), some (vi v4), some (vi r13), o6] M12 Q)
      (brA (decide ((w32 ((M12 T 3) + (w32 (r13 - 48)))) ≤ 8))
       (PW sc n1 m_X9_read 6 [] [some (vr T), some (vr 1), some (vi v2), some (vi (w32 (r13 - 48))), some (vi (w32 (v4 + 1))), some (vi r13), o6] M12 Q)
       (PC sc n1 m_X11_faultAt [vi 6, vi v4] M12 (cI fun r15 M14 =>
        Q (vi r15) M14)))))))) : PW sc n m_X9_read 6 [] [some (vr T), some (vr 1), some (vi v2), some (vi v3), some (vi v4), o5, o6] M Q := by
  rcases hT with rfl | rfl <;> exact pw_go rfl (fun j => Nat.beq j 6 || Nat.beq j 35) 82 h
theorem pw_X9_read_35 {sc : List Int} {n : Nat} {T : Nat} (hT : T = 57 ∨ T = 61) {Q : Vv → MM → Prop} (v2 : Int) (v3 : Int) (v4 : Int) (v5 : Int) (o6 : Option Vv) (M : MM) (h : ∀ n1, n1 < n → brA (decide (v5 ≠ 47))
  (PC sc n1 m_X9_put [vr T, vi v5, vi v3, vi v4] M (cI fun r2 M1 =>
   brA (decide (0 ≤ r2))
    (PW sc n1 m_X9_read 6 [] [some (vr T), some (vr 1), some (vi v2), some (vi 0), some (vi (w32 (v4 + 1))), some (vi v5), some (vi r2)] M1 Q)
    (Q (vi r2) M1)))
  (PC sc n1 m_X9_endRow [vr T, vi v3, vi v4] M (cI fun r4 M3 =>
   brA (decide (0 ≤ r4))
    (PW sc n1 m_X9_read 6 [] [some (vr T), some (vr 1), some (vi v2), some (vi 0), some (vi (w32 (v4 + 1))), some (vi v5), some (vi r4)] M3 Q)
    (Q (vi r4) M3)))) : PW sc n m_X9_read 35 [] [some (vr T), some (vr 1), some (vi v2), some (vi v3), some (vi v4), some (vi v5), o6] M Q := by
  rcases hT with rfl | rfl <;> exact pw_go rfl (fun j => Nat.beq j 6 || Nat.beq j 35) 82 h
theorem pc_X9_put {sc : List Int} {n : Nat} {T : Nat} (hT : T = 57 ∨ T = 61) {Q : Vv → MM → Prop} (v1 : Int) (v2 : Int) (v3 : Int) (M : MM) (h : ∀ n1, n1 < n → brA (decide (v1 < 97))
  (PW sc n1 m_X9_put 8 [] [some (vr T), some (vi v1), some (vi v2), some (vi v3), none, none, none] M Q)
  (brA (decide (107 ≤ v1))
   (PW sc n1 m_X9_put 8 [] [some (vr T), some (vi v1), some (vi v2), some (vi v3), none, none, none] M Q)
   (brA (decide (v2 ≠ 0))
    (PC sc n1 m_X11_faultAt [vi 1, vi v3] M (cI fun r2 M1 =>
     Q (vi r2) M1))
    (PW sc n1 m_X9_put 14 [] [some (vr T), some (vi v1), some (vi v2), some (vi v3), some (vi 1), none, none] M Q)))) : PC sc n m_X9_put [vr T, vi v1, vi v2, vi v3] M Q := by
  rcases hT with rfl | rfl <;> exact pc_go rfl (fun j => Nat.beq j 8 || Nat.beq j 14 || Nat.beq j 26 || Nat.beq j 49) 87 h
theorem pw_X9_put_8 {sc : List Int} {n : Nat} {T : Nat} (hT : T = 57 ∨ T = 61) {Q : Vv → MM → Prop} (v1 : Int) (v2 : Int) (v3 : Int) (o4 : Option Vv) (o5 : Option Vv) (o6 : Option Vv) (M : MM) (h : ∀ n1, n1 < n → PW sc n1 m_X9_put 14 [] [some (vr T), some (vi v1), some (vi v2), some (vi v3), some (vi 0), o5, o6] M Q) : PW sc n m_X9_put 8 [] [some (vr T), some (vi v1), some (vi v2), some (vi v3), o4, o5, o6] M Q := by
  rcases hT with rfl | rfl <;> exact pw_go rfl (fun j => Nat.beq j 8 || Nat.beq j 14 || Nat.beq j 26 || Nat.beq j 49) 87 h
theorem pw_X9_put_14 {sc : List Int} {n : Nat} {T : Nat} (hT : T = 57 ∨ T = 61) {Q : Vv → MM → Prop} (v1 : Int) (v2 : Int) (v3 : Int) (v4 : Int) (o5 : Option Vv) (o6 : Option Vv) (M : MM) (h : ∀ n1, n1 < n → brA (decide (v4 ≠ 0))
  (PW sc n1 m_X9_put 26 [] [some (vr T), some (vi v1), some (vi v2), some (vi v3), some (vi v4), o5, o6] M Q)
  (brA (decide (v1 = 46))
   (PW sc n1 m_X9_put 26 [] [some (vr T), some (vi v1), some (vi v2), some (vi v3), some (vi v4), o5, o6] M Q)
   (brA (decide (v1 = 35))
    (PW sc n1 m_X9_put 26 [] [some (vr T), some (vi v1), some (vi v2), some (vi v3), some (vi v4), o5, o6] M Q)
    (PC sc n1 m_X11_faultAt [vi 1, vi v3] M (cI fun r2 M1 =>
     Q (vi r2) M1))))) : PW sc n m_X9_put 14 [] [some (vr T), some (vi v1), some (vi v2), some (vi v3), some (vi v4), o5, o6] M Q := by
  rcases hT with rfl | rfl <;> exact pw_go rfl (fun j => Nat.beq j 8 || Nat.beq j 14 || Nat.beq j 26 || Nat.beq j 49) 87 h
theorem pw_X9_put_26 {sc : List Int} {n : Nat} {T : Nat} (hT : T = 57 ∨ T = 61) {Q : Vv → MM → Prop} (v1 : Int) (v2 : Int) (v3 : Int) (v4 : Int) (o5 : Option Vv) (o6 : Option Vv) (M : MM) (h : ∀ n1, n1 < n → brA (decide ((M T 3) < 8))
  (brA (decide (v4 = 0))
   (PW sc n1 m_X9_put 49 [] [some (vr T), some (vi v1), some (vi v2), some (vi v3), some (vi v4), some (vi (mMax v2 1)), some (vi 0)] M Q)
   (PC sc n1 m_X9_putHouse [vr T, vi (w32 (v1 - 97)), vi v3] M (cI fun r2 M1 =>
    Q (vi r2) M1)))
  (PC sc n1 m_X11_faultAt [vi 6, vi v3] M (cI fun r4 M3 =>
   Q (vi r4) M3))) : PW sc n m_X9_put 26 [] [some (vr T), some (vi v1), some (vi v2), some (vi v3), some (vi v4), o5, o6] M Q := by
  rcases hT with rfl | rfl <;> exact pw_go rfl (fun j => Nat.beq j 8 || Nat.beq j 14 || Nat.beq j 26 || Nat.beq j 49) 87 h
theorem pw_X9_put_49 {sc : List Int} {n : Nat} {T : Nat} (hT : T = 57 ∨ T = 61) {Q : Vv → MM → Prop} (v1 : Int) (v2 : Int) (v3 : Int) (v4 : Int) (v5 : Int) (v6 : Int) (M : MM) (h : ∀ n1, n1 < n → brA (decide (v5 ≤ v6))
  (Q (vi 0) M)
  (brA (decide (8 ≤ (M T 3)))
   (Q (vi 0) M)
   (brA (decide (v1 ≠ 35))
    (gIm (decide (0 ≤ (w32 ((w32 (8 * (M T 4))) + (M T 3)))) && decide ((w32 ((w32 (8 * (M T 4))) + (M T 3))) < 64)) (PW sc n1 m_X9_put 49 [] [some (vr T), some (vi v1), some (vi v2), some (vi v3), some (vi v4), some (vi v5), some (vi (w32 (v6 + 1)))] (stM (stM M ((T + 1)) ((w32 ((w32 (8 * (M T 4))) + (M T 3))).toNat) 0) T 3 (w32 ((M T 3) + 1))) Q))
    (gIm (decide (0 ≤ (w32 ((w32 (8 * (M T 4))) + (M T 3)))) && decide ((w32 ((w32 (8 * (M T 4))) + (M T 3))) < 64)) (PW sc n1 m_X9_put 49 [] [some (vr T), some (vi v1), some (vi v2), some (vi v3), some (vi v4), some (vi v5), some (vi (w32 (v6 + 1)))] (stM (stM M ((T + 1)) ((w32 ((w32 (8 * (M T 4))) + (M T 3))).toNat) 1) T 3 (w32 ((M T 3) + 1))) Q))))) : PW sc n m_X9_put 49 [] [some (vr T), some (vi v1), some (vi v2), some (vi v3), some (vi v4), some (vi v5), some (vi v6)] M Q := by
  rcases hT with rfl | rfl <;> exact pw_go rfl (fun j => Nat.beq j 8 || Nat.beq j 14 || Nat.beq j 26 || Nat.beq j 49) 87 h
theorem pc_X9_putHouse {sc : List Int} {n : Nat} {T : Nat} (hT : T = 57 ∨ T = 61) {Q : Vv → MM → Prop} (v1 : Int) (v2 : Int) (M : MM) (h : ∀ n1, n1 < n → gIm (decide (0 ≤ v1) && decide (v1 < 10)) (brA (decide ((M ((T + 2)) v1.toNat) = ((-1))))
  (gIm (decide (0 ≤ v1) && decide (v1 < 10)) (gIm (decide (0 ≤ v1) && decide (v1 < 10)) (gIm (decide (0 ≤ ((stM M ((T + 2)) (v1.toNat) (w32 ((w32 (8 * (M T 4))) + (M T 3)))) ((T + 2)) v1.toNat)) && decide (((stM M ((T + 2)) (v1.toNat) (w32 ((w32 (8 * (M T 4))) + (M T 3)))) ((T + 2)) v1.toNat) < 64)) (Q (vi 0) (stM (stM (stM M ((T + 2)) (v1.toNat) (w32 ((w32 (8 * (M T 4))) + (M T 3)))) ((T + 1)) (((stM M ((T + 2)) (v1.toNat) (w32 ((w32 (8 * (M T 4))) + (M T 3)))) ((T + 2)) v1.toNat).toNat) (w32 (2 + v1))) T 3 (w32 ((M T 3) + 1)))))))
  (PC sc n1 m_X11_faultAt [vi 7, vi v2] M (cI fun r2 M1 =>
   Q (vi r2) M1)))) : PC sc n m_X9_putHouse [vr T, vi v1, vi v2] M Q := by
  rcases hT with rfl | rfl <;> exact pc_go rfl (fun j => false) 44 h
theorem pc_X9_endRow {sc : List Int} {n : Nat} {T : Nat} (hT : T = 57 ∨ T = 61) {Q : Vv → MM → Prop} (v1 : Int) (v2 : Int) (M : MM) (h : ∀ n1, n1 < n → brA (decide (v1 ≠ 0))
  (PC sc n1 m_X11_faultAt [vi 1, vi v2] M (cI fun r2 M1 =>
   Q (vi r2) M1))
  (brA (decide ((M T 3) < 8))
   (PC sc n1 m_X11_faultAt [vi 1, vi v2] M (cI fun r4 M3 =>
    Q (vi r4) M3))
   (brA (decide ((M T 4) < 7))
    (Q (vi 0) (stM (stM M T 3 0) T 4 (w32 ((M T 4) + 1))))
    (PC sc n1 m_X11_faultAt [vi 1, vi v2] M (cI fun r6 M5 =>
     Q (vi r6) M5))))) : PC sc n m_X9_endRow [vr T, vi v1, vi v2] M Q := by
  rcases hT with rfl | rfl <;> exact pc_go rfl (fun j => false) 30 h
theorem pc_X9_clear {sc : List Int} {n : Nat} {T : Nat} (hT : T = 57 ∨ T = 61) {Q : Vv → MM → Prop}  (M : MM) (h : ∀ n1, n1 < n → PW sc n1 m_X9_clear 2 [] [some (vr T), some (vi 0)] M Q) : PC sc n m_X9_clear [vr T] M Q := by
  rcases hT with rfl | rfl <;> exact pc_go rfl (fun j => Nat.beq j 2 || Nat.beq j 14) 36 h
theorem pw_X9_clear_2 {sc : List Int} {n : Nat} {T : Nat} (hT : T = 57 ∨ T = 61) {Q : Vv → MM → Prop} (v1 : Int) (M : MM) (h : ∀ n1, n1 < n → brA (decide (64 ≤ v1))
  (PW sc n1 m_X9_clear 14 [] [some (vr T), some (vi 0)] M Q)
  (gIm (decide (0 ≤ v1) && decide (v1 < 64)) (PW sc n1 m_X9_clear 2 [] [some (vr T), some (vi (w32 (v1 + 1)))] (stM M ((T + 1)) (v1.toNat) 0) Q))) : PW sc n m_X9_clear 2 [] [some (vr T), some (vi v1)] M Q := by
  rcases hT with rfl | rfl <;> exact pw_go rfl (fun j => Nat.beq j 2 || Nat.beq j 14) 36 h
theorem pw_X9_clear_14 {sc : List Int} {n : Nat} {T : Nat} (hT : T = 57 ∨ T = 61) {Q : Vv → MM → Prop} (v1 : Int) (M : MM) (h : ∀ n1, n1 < n → brA (decide (10 ≤ v1))
  (Q (vi 0) (stM (stM M T 3 0) T 4 0))
  (gIm (decide (0 ≤ v1) && decide (v1 < 10)) (PW sc n1 m_X9_clear 14 [] [some (vr T), some (vi (w32 (v1 + 1)))] (stM M ((T + 2)) (v1.toNat) ((-1))) Q))) : PW sc n m_X9_clear 14 [] [some (vr T), some (vi v1)] M Q := by
  rcases hT with rfl | rfl <;> exact pw_go rfl (fun j => Nat.beq j 2 || Nat.beq j 14) 36 h
theorem pc_X11_faultAt {sc : List Int} {n : Nat} {Q : Vv → MM → Prop} (v0 : Int) (v1 : Int) (M : MM) (h : ∀ n1, n1 < n → Q (vi (w32 ((w32 (((-1000)) * v0)) - v1))) M) : PC sc n m_X11_faultAt [vi v0, vi v1] M Q := pc_go rfl (fun j => false) 11 h
theorem pc_X7_at {sc : List Int} {n : Nat} {Q : Vv → MM → Prop} (v1 : Int) (M : MM) (h : ∀ n1, n1 < n → brA (decide (v1 < 0))
  (Q (vi ((-1))) M)
  (brA (decide ((M 1 1) ≤ v1))
   (Q (vi ((-1))) M)
   (gIm (decide (0 ≤ v1) && decide (v1 < 260)) (Q (vi (M 2 v1.toNat)) M)))) : PC sc n m_X7_at [vr 1, vi v1] M Q := pc_go rfl (fun j => false) 18 h
theorem pc_X7_hasText {sc : List Int} {n : Nat} {Q : Vv → MM → Prop} (v1 : Int) (v2 : Int) (M : MM) (h : ∀ n1, n1 < n → brA (decide (v1 < 1))
  (Q (vi 0) M)
  (brA (decide (v2 < v1))
   (Q (vi 0) M)
   (brA (decide ((M 1 1) < v1))
    (Q (vi 0) M)
    (Q (vi 1) M)))) : PC sc n m_X7_hasText [vr 1, vi v1, vi v2] M Q := pc_go rfl (fun j => false) 19 h
theorem pc_X7_empty {sc : List Int} {n : Nat} {Q : Vv → MM → Prop}  (M : MM) (h : ∀ n1, n1 < n → Q (vi 0) (stM M 1 1 0)) : PC sc n m_X7_empty [vr 1] M Q := pc_go rfl (fun j => false) 9 h
theorem stK {M : MM} {k j c : Nat} {v : Int} (h : c ≠ k) : stM M k j v c = M c := funext fun _ => stN h
theorem stF {M : MM} {k j : Nat} {v : Int} : stM M k j v k = fun i => if i = j then v else M k i := funext fun i => by
  rw [stM_at]
  by_cases q : i = j
  · rw [if_pos ⟨rfl, q⟩, if_pos q]
  · rw [if_neg (fun z => q z.2), if_neg q]
/- K from b on, m places: v -/
def upK (K : Nat → Int) (b m : Nat) (v : Int) : Nat → Int := fun j => if b ≤ j ∧ j < b + m then v else K j
theorem upK_0 (K : Nat → Int) (b : Nat) (v : Int) : upK K b 0 v = K := funext fun j => if_neg (by omega)
theorem upK_s (K : Nat → Int) (b m : Nat) (v : Int) : (fun i => if i = b + m then v else upK K b m v i) = upK K b (m + 1) v := funext fun j => by
  unfold upK
  by_cases q : j = b + m
  · rw [if_pos q, if_pos (by omega)]
  · rw [if_neg q]
    by_cases q2 : b ≤ j ∧ j < b + m
    · rw [if_pos q2, if_pos (by omega)]
    · rw [if_neg q2, if_neg (by omega)]
theorem upK_1 (K : Nat → Int) (b : Nat) (v : Int) : (fun i => if i = b then v else K i) = upK K b 1 v := by
  have h := upK_s K b 0 v
  rw [upK_0] at h
  exact h
/- a letter, a dot or a # is put: fault or 0, spots, houses, x -/
def qp (c : Int) (dg p x y : Nat) (K H : Nat → Int) : Int × (Nat → Int) × (Nat → Int) × Nat :=
  if 97 ≤ c ∧ c < 107 then (if dg ≠ 0 then (-1000 - (p : Int), K, H, x) else if 8 ≤ x then (-6000 - (p : Int), K, H, x) else if H (c - 97).toNat ≠ -1 then (-7000 - (p : Int), K, H, x) else (0, upK K (8 * y + x) 1 (c - 95), upK H (c - 97).toNat 1 ((8 * y + x : Nat) : Int), x + 1))
  else if c = 46 ∨ c = 35 then (if 8 ≤ x then (-6000 - (p : Int), K, H, x) else (0, upK K (8 * y + x) (if dg = 0 then 1 else dg) (if c = 35 then 1 else 0), H, x + (if dg = 0 then 1 else dg)))
  else (-1000 - (p : Int), K, H, x)
/- the text of a QUARTER: fault or 0, spots, houses -/
def qz (t : Nat → Int) (N m p dg x y : Nat) (K H : Nat → Int) : Int × (Nat → Int) × (Nat → Int) := match m with
  | 0 => if dg ≠ 0 ∨ x < 8 ∨ y < 7 then (-1000 - (N : Int), K, H) else (0, K, H)
  | m + 1 => if dg = 0 ∧ 50 ≤ t p ∧ t p ≤ 56 then (if (x : Int) + (t p - 48) ≤ 8 then qz t N m (p + 1) (t p - 48).toNat x y K H else (-6000 - (p : Int), K, H))
    else if t p = 47 then (if dg ≠ 0 ∨ x < 8 ∨ 7 ≤ y then (-1000 - (p : Int), K, H) else qz t N m (p + 1) 0 0 (y + 1) K H)
    else if (qp (t p) dg p x y K H).1 < 0 then ((qp (t p) dg p x y K H).1, (qp (t p) dg p x y K H).2.1, (qp (t p) dg p x y K H).2.2.1) else qz t N m (p + 1) 0 (qp (t p) dg p x y K H).2.2.2 y (qp (t p) dg p x y K H).2.1 (qp (t p) dg p x y K H).2.2.1
theorem qz_succ (t : Nat → Int) (N m p dg x y : Nat) (K H : Nat → Int) : qz t N (m + 1) p dg x y K H = (if dg = 0 ∧ 50 ≤ t p ∧ t p ≤ 56 then (if (x : Int) + (t p - 48) ≤ 8 then qz t N m (p + 1) (t p - 48).toNat x y K H else (-6000 - (p : Int), K, H))
    else if t p = 47 then (if dg ≠ 0 ∨ x < 8 ∨ 7 ≤ y then (-1000 - (p : Int), K, H) else qz t N m (p + 1) 0 0 (y + 1) K H)
    else if (qp (t p) dg p x y K H).1 < 0 then ((qp (t p) dg p x y K H).1, (qp (t p) dg p x y K H).2.1, (qp (t p) dg p x y K H).2.2.1) else qz t N m (p + 1) 0 (qp (t p) dg p x y K H).2.2.2 y (qp (t p) dg p x y K H).2.1 (qp (t p) dg p x y K H).2.2.1) := rfl
/- what a Town's reading leaves alone -/
def frT (T : Nat) (M0 M : MM) : Prop := ∀ c, (c < T ∨ T + 3 < c) → M c = M0 c
theorem frT.st {T : Nat} {M0 M : MM} (h : frT T M0 M) {k j : Nat} {v : Int} (hk : T ≤ k ∧ k ≤ T + 3) : frT T M0 (stM M k j v) := fun c hc => (stK (by omega)).trans (h c hc)
/- a Town being read -/
def twI (T : Nat) (M0 M : MM) (x y : Nat) (K H : Nat → Int) : Prop := frT T M0 M ∧ M T 3 = (x : Int) ∧ M T 4 = (y : Int) ∧ M (T + 1) = K ∧ M (T + 2) = H
section QTC
variable {sc : List Int} {Q : Vv → MM → Prop} {T : Nat} {M0 : MM}
set_option maxRecDepth 20000 in
theorem p_fault {a b : Int} {n : Nat} {M : MM} (ha : 1 ≤ a ∧ a ≤ 7) (hb : 0 ≤ b ∧ b ≤ 260) (k : Q (vi (-1000 * a - b)) M) : PC sc n m_X11_faultAt [vi a, vi b] M Q := pc_X11_faultAt a b M fun n1 _ => by
  rw [ew32 (z := -1000 * a) (by omega) (by omega), ew32 (by omega) (by omega)]
  exact k
set_option maxRecDepth 20000 in
theorem f_putLoop (hT : T = 57 ∨ T = 61) {c dg p o4 : Int} {x y many : Nat} {H K0 : Nat → Int} (hy : y ≤ 7) (hx : x + many ≤ 8) (k : ∀ M1, twI T M0 M1 (x + many) y (upK K0 (8 * y + x) many (if c = 35 then 1 else 0)) H → Q (vi 0) M1) : ∀ (m i n : Nat) (M : MM), i + m = many → twI T M0 M (x + i) y (upK K0 (8 * y + x) i (if c = 35 then 1 else 0)) H → PW sc n m_X9_put 49 [] [some (vr T), some (vi c), some (vi dg), some (vi p), some (vi o4), some (vi (many : Int)), some (vi (i : Int))] M Q := by
  intro m
  induction m with
  | zero =>
    intro i n M hi I
    have hi : i = many := hi
    subst hi
    exact pw_X9_put_49 hT c dg p o4 _ _ M fun n1 _ => brT (by omega) (k M I)
  | succ m ih =>
    intro i n M hi I
    obtain ⟨f, e3, e4, eK, eH⟩ := I
    refine pw_X9_put_49 hT c dg p o4 _ _ M fun n1 _ => brF (by omega) (brF (by omega) ?_)
    rw [e3, e4, ew32 (z := 8 * (y : Int)) (by omega) (by omega), ew32 (z := 8 * (y : Int) + ((x + i : Nat) : Int)) (by omega) (by omega), show (8 * (y : Int) + ((x + i : Nat) : Int)).toNat = 8 * y + x + i by omega, ew32 (z := (i : Int) + 1) (by omega) (by omega)]
    have nx : ∀ v : Int, v = (if c = 35 then 1 else 0) → PW sc n1 m_X9_put 49 [] [some (vr T), some (vi c), some (vi dg), some (vi p), some (vi o4), some (vi (many : Int)), some (vi ((i : Int) + 1))] (stM (stM M (T + 1) (8 * y + x + i) v) T 3 (w32 (((x + i : Nat) : Int) + 1))) Q := fun v hv => by
      rw [ew32 (z := ((x + i : Nat) : Int) + 1) (by omega) (by omega)]
      refine ih (i + 1) n1 _ (by omega) ⟨(f.st (by omega)).st (by omega), ?_, ?_, ?_, ?_⟩
      · rw [stE]
        omega
      · rw [stO (by decide), stN (by omega)]
        exact e4
      · rw [stK (by omega), stF, eK, hv]
        exact upK_s _ _ _ _
      · rw [stK (by omega), stK (by omega)]
        exact eH
    exact brP (fun h => gMB (nx 0 (by rw [if_neg h]))) fun h => gMB (nx 1 (by rw [if_pos (Classical.not_not.mp h)]))
set_option maxRecDepth 20000 in
theorem f_put (hT : T = 57 ∨ T = 61) {c : Int} {dg p x y n : Nat} {K H : Nat → Int} {M : MM} (hy : y ≤ 7) (hx : x + dg ≤ 8) (hd : dg = 0 ∨ 2 ≤ dg) (hp : p ≤ 120) (I : twI T M0 M x y K H) (k0 : (qp c dg p x y K H).1 < 0 → ∀ M1, frT T M0 M1 → Q (vi (qp c dg p x y K H).1) M1) (k1 : ¬ (qp c dg p x y K H).1 < 0 → (qp c dg p x y K H).2.2.2 ≤ 8 → ∀ M1, twI T M0 M1 (qp c dg p x y K H).2.2.2 y (qp c dg p x y K H).2.1 (qp c dg p x y K H).2.2.1 → ∀ z : Int, z = 0 → Q (vi z) M1) : PC sc n m_X9_put [vr T, vi c, vi (dg : Int), vi (p : Int)] M Q := by
  obtain ⟨f, e3, e4, eK, eH⟩ := id I
  have hmax : mMax (dg : Int) 1 = ((if dg = 0 then 1 else dg : Nat) : Int) := by
    unfold mMax
    split <;> split <;> omega
  have h26 : ∀ n (z : Int) (o5 o6 : Option Vv), (z = 0 ∧ (c = 46 ∨ c = 35)) ∨ (z = 1 ∧ dg = 0 ∧ 97 ≤ c ∧ c < 107) → PW sc n m_X9_put 26 [] [some (vr T), some (vi c), some (vi (dg : Int)), some (vi (p : Int)), some (vi z), o5, o6] M Q := fun n z o5 o6 hz => by
    refine pw_X9_put_26 hT c _ _ z o5 o6 M fun n1 _ => ?_
    rw [e3]
    rcases hz with ⟨hz, hc⟩ | ⟨hz, hd0, hc⟩
    · have hq : qp c dg p x y K H = (if 8 ≤ x then (-6000 - (p : Int), K, H, x) else (0, upK K (8 * y + x) (if dg = 0 then 1 else dg) (if c = 35 then 1 else 0), H, x + (if dg = 0 then 1 else dg))) := by
        unfold qp
        rw [if_neg (by omega), if_pos hc]
      refine brP (fun h8 => brT hz ?_) fun h8 => p_fault (by omega) (by omega) ?_
      · rw [if_neg (by omega)] at hq
        rw [hq] at k1
        rw [hmax]
        have hle : x + (if dg = 0 then 1 else dg) ≤ 8 := by split <;> omega
        exact f_putLoop hT hy hle (fun M1 I1 => k1 (by show ¬ (0 : Int) < 0; omega) hle M1 I1 0 rfl) _ 0 n1 M (Nat.zero_add _) ⟨f, e3, e4, by rw [upK_0]; exact eK, eH⟩
      · rw [if_pos (by omega)] at hq
        rw [hq] at k0
        have k0 := k0 (by show -6000 - (p : Int) < 0; omega) M f
        exact k0
    · subst hd0
      have hq : qp c 0 p x y K H = (if 8 ≤ x then (-6000 - (p : Int), K, H, x) else if H (c - 97).toNat ≠ -1 then (-7000 - (p : Int), K, H, x) else (0, upK K (8 * y + x) 1 (c - 95), upK H (c - 97).toNat 1 ((8 * y + x : Nat) : Int), x + 1)) := by
        unfold qp
        rw [if_pos hc, if_neg (by omega)]
      refine brP (fun h8 => brF (by omega) ?_) fun h8 => p_fault (by omega) (by omega) ?_
      · rw [if_neg (by omega)] at hq
        rw [ew32 (z := c - 97) (by omega) (by omega)]
        refine pc_X9_putHouse hT _ _ M fun n2 _ => gMB ?_
        rw [e3, e4, eH, ew32 (z := 8 * (y : Int)) (by omega) (by omega), ew32 (z := 8 * (y : Int) + (x : Int)) (by omega) (by omega), ew32 (z := 2 + (c - 97)) (by omega) (by omega)]
        refine brP (fun g => gMB (gMB (gMB ?_))) fun g => p_fault (by omega) (by omega) ?_
        · rw [if_neg (fun z => z g)] at hq
          rw [hq] at k1
          rw [stE, show (8 * (y : Int) + (x : Int)).toNat = 8 * y + x by omega, ew32 (z := (x : Int) + 1) (by omega) (by omega)]
          refine k1 (by show ¬ (0 : Int) < 0; omega) (show x + 1 ≤ 8 by omega) _ ⟨((f.st (by omega)).st (by omega)).st (by omega), ?_, ?_, ?_, ?_⟩ 0 rfl
          · rw [stE]
            show (x : Int) + 1 = ((x + 1 : Nat) : Int)
            omega
          · rw [stO (by decide), stN (by omega), stN (by omega)]
            exact e4
          · rw [stK (by omega), stF, stK (by omega), eK]
            show _ = upK K (8 * y + x) 1 (c - 95)
            rw [← upK_1, show (2 + (c - 97)) = c - 95 by omega]
          · rw [stK (by omega), stK (by omega), stF, eH]
            show _ = upK H (c - 97).toNat 1 ((8 * y + x : Nat) : Int)
            rw [← upK_1, show (8 * (y : Int) + (x : Int)) = ((8 * y + x : Nat) : Int) by omega]
        · rw [if_pos g] at hq
          rw [hq] at k0
          exact k0 (by show -7000 - (p : Int) < 0; omega) M f
      · rw [if_pos (by omega)] at hq
        rw [hq] at k0
        exact k0 (by show -6000 - (p : Int) < 0; omega) M f
  have h8 : ∀ n (o4 o5 o6 : Option Vv), ¬ (97 ≤ c ∧ c < 107) → PW sc n m_X9_put 8 [] [some (vr T), some (vi c), some (vi (dg : Int)), some (vi (p : Int)), o4, o5, o6] M Q := fun n o4 o5 o6 hc => by
    refine pw_X9_put_8 hT c _ _ o4 o5 o6 M fun n1 _ => pw_X9_put_14 hT c _ _ 0 o5 o6 M fun n2 _ => brF (by omega) (brP (fun g => h26 _ _ _ _ (.inl ⟨rfl, .inl g⟩)) fun g => brP (fun g2 => h26 _ _ _ _ (.inl ⟨rfl, .inr g2⟩)) fun g2 => p_fault (by omega) (by omega) ?_)
    have hq : qp c dg p x y K H = (-1000 - (p : Int), K, H, x) := by
      unfold qp
      rw [if_neg hc, if_neg (by omega)]
    rw [hq] at k0
    exact k0 (by show -1000 - (p : Int) < 0; omega) M f
  refine pc_X9_put hT c _ _ M fun n1 _ => brP (fun h => h8 _ _ _ _ (by omega)) fun h => brP (fun h2 => h8 _ _ _ _ (by omega)) fun h2 => brP (fun h3 => p_fault (by omega) (by omega) ?_) fun h3 => pw_X9_put_14 hT c _ _ 1 _ _ M fun n2 _ => brT (by omega) (h26 _ _ _ _ (.inr ⟨rfl, by omega, by omega, by omega⟩))
  have hq : qp c dg p x y K H = (-1000 - (p : Int), K, H, x) := by
    unfold qp
    rw [if_pos (by omega), if_pos (by omega)]
  rw [hq] at k0
  exact k0 (by show -1000 - (p : Int) < 0; omega) M f
set_option maxRecDepth 20000 in
theorem p_at {v : Int} {n : Nat} {M : MM} (h : 0 ≤ v ∧ v < M 1 1) (k : Q (vi (M 2 v.toNat)) M) : PC sc n m_X7_at [vr 1, vi v] M Q := pc_X7_at v M fun n1 _ => brF (by omega) (brF (by omega) (gMB k))
/- how a Town's text is read, up to its end -/
set_option maxRecDepth 20000 in
theorem f_rdLoop (hT : T = 57 ∨ T = 61) {t : Nat → Int} {N : Nat} (hN : N ≤ 120) (ht : ∀ i, M0 2 i = t i) (hs : (N : Int) ≤ M0 1 1) : ∀ (m p dg x y n : Nat) (K H : Nat → Int) (o5 o6 : Option Vv) (M : MM), p + m = N → y ≤ 7 → x + dg ≤ 8 → (dg = 0 ∨ 2 ≤ dg) → twI T M0 M x y K H → ((qz t N m p dg x y K H).1 < 0 → ∀ M1, frT T M0 M1 → Q (vi (qz t N m p dg x y K H).1) M1) → (¬ (qz t N m p dg x y K H).1 < 0 → ∀ n1 M1, frT T M0 M1 → M1 (T + 1) = (qz t N m p dg x y K H).2.1 → M1 (T + 2) = (qz t N m p dg x y K H).2.2 → PC sc n1 m_X9_look [vr T] M1 (fun _ M5 => PC sc n1 m_X9_housesWithSpots [vr T] M5 (cI fun r7 M6 => PC sc n1 m_J6_bitCount_0f7a4 [vi r7] M6 (cI fun r9 M8 => Q (vi r9) M8)))) → PW sc n m_X9_read 6 [] [some (vr T), some (vr 1), some (vi (N : Int)), some (vi (dg : Int)), some (vi (p : Int)), o5, o6] M Q := by
  intro m
  induction m with
  | zero =>
    intro p dg x y n K H o5 o6 M hp hy hx hd I k0 k1
    obtain ⟨f, e3, e4, eK, eH⟩ := id I
    refine pw_X9_read_6 hT _ _ _ o5 o6 M fun n1 _ => ?_
    rw [e3, e4]
    have hz : qz t N 0 p dg x y K H = (if dg ≠ 0 ∨ x < 8 ∨ y < 7 then (-1000 - (N : Int), K, H) else (0, K, H)) := rfl
    have bad : dg ≠ 0 ∨ x < 8 ∨ y < 7 → Q (vi (-1000 * 1 - (N : Int))) M := fun hb => by
      rw [if_pos hb] at hz
      rw [hz] at k0
      exact k0 (by show -1000 - (N : Int) < 0; omega) M f
    refine brT (by omega) (brP (fun h => p_fault (by omega) (by omega) (bad (by omega))) fun h => brP (fun h2 => p_fault (by omega) (by omega) (bad (by omega))) fun h2 => brP (fun h3 => ?_) fun h3 => p_fault (by omega) (by omega) (bad (by omega)))
    rw [if_neg (by omega)] at hz
    rw [hz] at k1
    exact k1 (by show ¬ (0 : Int) < 0; omega) n1 M f eK eH
  | succ m ih =>
    intro p dg x y n K H o5 o6 M hp hy hx hd I k0 k1
    obtain ⟨f, e3, e4, eK, eH⟩ := id I
    have et : M 2 p = t p := by rw [f 2 (by omega)]; exact ht p
    have es : M 1 1 = M0 1 1 := by rw [f 1 (by omega)]
    have hz := qz_succ t N m p dg x y K H
    refine pw_X9_read_6 hT _ _ _ o5 o6 M fun n1 _ => brF (by omega) (p_at (by omega) ?_)
    rw [show ((p : Int)).toNat = p by omega, et]
    have hp1 : ∀ _ : Unit, w32 ((p : Int) + 1) = ((p + 1 : Nat) : Int) := fun _ => ew32 (by omega) (by omega)
    have h35 : ∀ (o5 o6 : Option Vv), ¬ (dg = 0 ∧ 50 ≤ t p ∧ t p ≤ 56) → PW sc n1 m_X9_read 35 [] [some (vr T), some (vr 1), some (vi (N : Int)), some (vi (dg : Int)), some (vi (p : Int)), some (vi (t p)), o6] M Q := fun o5 o6 hc => by
      rw [if_neg hc] at hz
      refine pw_X9_read_35 hT _ _ _ _ o6 M fun n2 _ => ?_
      rw [hp1 ()]
      refine brP (fun h => ?_) fun h => ?_
      · rw [if_neg h] at hz
        refine f_put hT hy hx hd (by omega) I (fun q M1 f1 => ?_) fun q q8 M1 I1 z hz0 => ?_
        · rw [if_pos q] at hz
          rw [hz] at k0
          exact brF (by omega) (k0 q M1 f1)
        · rw [if_neg q] at hz
          rw [hz] at k0 k1
          exact brT (by omega) (ih (p + 1) 0 _ y n2 _ _ _ _ M1 (by omega) hy (by omega) (.inl rfl) I1 k0 k1)
      · have h := Classical.not_not.mp h
        rw [if_pos h] at hz
        have bad : dg ≠ 0 ∨ x < 8 ∨ 7 ≤ y → brA (decide (0 ≤ -1000 * 1 - (p : Int))) (PW sc n2 m_X9_read 6 [] [some (vr T), some (vr 1), some (vi (N : Int)), some (vi 0), some (vi ((p + 1 : Nat) : Int)), some (vi (t p)), some (vi (-1000 * 1 - (p : Int)))] M Q) (Q (vi (-1000 * 1 - (p : Int))) M) := fun hb => by
          rw [if_pos hb] at hz
          rw [hz] at k0
          exact brF (by omega) (k0 (by show -1000 - (p : Int) < 0; omega) M f)
        refine pc_X9_endRow hT _ _ M fun n3 _ => ?_
        rw [e3, e4, ew32 (z := (y : Int) + 1) (by omega) (by omega)]
        refine brP (fun g => p_fault (by omega) (by omega) (bad (by omega))) fun g => brP (fun g2 => p_fault (by omega) (by omega) (bad (by omega))) fun g2 => brP (fun g3 => ?_) fun g3 => p_fault (by omega) (by omega) (bad (by omega))
        rw [if_neg (by omega)] at hz
        rw [hz] at k0 k1
        have I2 : twI T M0 (stM (stM M T 3 0) T 4 ((y : Int) + 1)) 0 (y + 1) K H := by
          refine ⟨(f.st (by omega)).st (by omega), ?_, ?_, ?_, ?_⟩
          · rw [stO (by decide), stE]
            rfl
          · rw [stE]
            omega
          · rw [stK (by omega), stK (by omega)]
            exact eK
          · rw [stK (by omega), stK (by omega)]
            exact eH
        exact ih (p + 1) 0 0 (y + 1) n2 K H _ _ _ (by omega) (by omega) (by omega) (.inl rfl) I2 k0 k1
    refine brP (fun h => h35 o5 o6 (by omega)) fun h => brP (fun h2 => h35 o5 o6 (by omega)) fun h2 => brP (fun h3 => h35 o5 o6 (by omega)) fun h3 => ?_
    rw [if_pos (by omega)] at hz
    rw [e3, ew32 (z := t p - 48) (by omega) (by omega), ew32 (z := (x : Int) + (t p - 48)) (by omega) (by omega), hp1 ()]
    refine brP (fun g => ?_) fun g => p_fault (by omega) (by omega) ?_
    · rw [if_pos g] at hz
      rw [hz] at k0 k1
      rw [show t p - 48 = (((t p - 48).toNat : Nat) : Int) by omega]
      exact ih (p + 1) _ x y n1 K H _ _ M (by omega) hy (by omega) (by omega) I k0 k1
    · rw [if_neg g] at hz
      rw [hz] at k0
      exact k0 (by show -6000 - (p : Int) < 0; omega) M f
set_option maxRecDepth 20000 in
theorem f_clear (hT : T = 57 ∨ T = 61) {n : Nat} {M : MM} (k : ∀ M1, twI T M M1 0 0 (upK (M (T + 1)) 0 64 0) (upK (M (T + 2)) 0 10 (-1)) → Q (vi 0) M1) : PC sc n m_X9_clear [vr T] M Q := by
  have l2 : ∀ (m i n : Nat) (M1 : MM), i + m = 10 → frT T M M1 → M1 (T + 1) = upK (M (T + 1)) 0 64 0 → M1 (T + 2) = upK (M (T + 2)) 0 i (-1) → PW sc n m_X9_clear 14 [] [some (vr T), some (vi (i : Int))] M1 Q := by
    intro m
    induction m with
    | zero =>
      intro i n M1 hi f h1 h2
      have hi : i = 10 := hi
      subst hi
      refine pw_X9_clear_14 hT _ M1 fun n1 _ => brT (by omega) (k _ ⟨(f.st (by omega)).st (by omega), ?_, stE, ?_, ?_⟩)
      · rw [stO (by decide), stE]
        rfl
      · rw [stK (by omega), stK (by omega)]
        exact h1
      · rw [stK (by omega), stK (by omega)]
        exact h2
    | succ m ih =>
      intro i n M1 hi f h1 h2
      refine pw_X9_clear_14 hT _ M1 fun n1 _ => brF (by omega) (gMB ?_)
      rw [show ((i : Int)).toNat = i by omega, show w32 ((i : Int) + 1) = ((i + 1 : Nat) : Int) from ew32 (by omega) (by omega)]
      refine ih (i + 1) n1 _ (by omega) (f.st (by omega)) ?_ ?_
      · rw [stK (by omega)]
        exact h1
      · rw [stF, h2]
        have := upK_s (M (T + 2)) 0 i (-1)
        rw [Nat.zero_add] at this
        exact this
  have l1 : ∀ (m i n : Nat) (M1 : MM), i + m = 64 → frT T M M1 → M1 (T + 1) = upK (M (T + 1)) 0 i 0 → M1 (T + 2) = M (T + 2) → PW sc n m_X9_clear 2 [] [some (vr T), some (vi (i : Int))] M1 Q := by
    intro m
    induction m with
    | zero =>
      intro i n M1 hi f h1 h2
      have hi : i = 64 := hi
      subst hi
      refine pw_X9_clear_2 hT _ M1 fun n1 _ => brT (by omega) (l2 10 0 n1 M1 rfl f h1 ?_)
      rw [upK_0]
      exact h2
    | succ m ih =>
      intro i n M1 hi f h1 h2
      refine pw_X9_clear_2 hT _ M1 fun n1 _ => brF (by omega) (gMB ?_)
      rw [show ((i : Int)).toNat = i by omega, show w32 ((i : Int) + 1) = ((i + 1 : Nat) : Int) from ew32 (by omega) (by omega)]
      refine ih (i + 1) n1 _ (by omega) (f.st (by omega)) ?_ ?_
      · rw [stF, h1]
        have := upK_s (M (T + 1)) 0 i 0
        rw [Nat.zero_add] at this
        exact this
      · rw [stK (by omega)]
        exact h2
  exact pc_X9_clear hT M fun n1 _ => l1 64 0 n1 M rfl (fun _ _ => rfl) (by rw [upK_0]) rfl
end QTC
