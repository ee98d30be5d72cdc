/-! PART 63: what one sees from each spot: the class's rows of bits, the reference's walk along a line -/
theorem pc_X9_look {sc : List Int} {n : Nat} {T : Nat} (hT : T = 57 ∨ T = 61) {Q : Vv → MM → Prop}  (M : MM) (h : ∀ n1, n1 < n → PW sc n1 m_X9_look 2 [] [some (vr T), some (vi 0), none] M Q) : PC sc n m_X9_look [vr T] M Q := by
  rcases hT with rfl | rfl <;> exact pc_go rfl (fun j => Nat.beq j 2 || Nat.beq j 14) 38 h
theorem pw_X9_look_2 {sc : List Int} {n : Nat} {T : Nat} (hT : T = 57 ∨ T = 61) {Q : Vv → MM → Prop} (v1 : Int) (o2 : Option Vv) (M : MM) (h : ∀ n1, n1 < n → brA (decide (64 ≤ v1))
  (Q (vi 0) M)
  (gIm (decide (0 ≤ v1) && decide (v1 < 64)) (PW sc n1 m_X9_look 14 [] [some (vr T), some (vi v1), some (vi 0)] (stM M ((T + 3)) (v1.toNat) (bShlL 1 v1)) Q))) : PW sc n m_X9_look 2 [] [some (vr T), some (vi v1), o2] M Q := by
  rcases hT with rfl | rfl <;> exact pw_go rfl (fun j => Nat.beq j 2 || Nat.beq j 14) 38 h
theorem pw_X9_look_14 {sc : List Int} {n : Nat} {T : Nat} (hT : T = 57 ∨ T = 61) {Q : Vv → MM → Prop} (v1 : Int) (v2 : Int) (M : MM) (h : ∀ n1, n1 < n → brA (decide (4 ≤ v2))
  (PW sc n1 m_X9_look 2 [] [some (vr T), some (vi (w32 (v1 + 1))), some (vi v2)] M Q)
  (gIm (decide (0 ≤ v1) && decide (v1 < 64)) (PC sc n1 m_X9_lookAlong [vr T, vi v1, vi v2] M (cJ fun r2 M1 =>
   gIm (decide (0 ≤ v1) && decide (v1 < 64)) (PW sc n1 m_X9_look 14 [] [some (vr T), some (vi v1), some (vi (w32 (v2 + 1)))] (stM M1 ((T + 3)) (v1.toNat) (bOrL (M ((T + 3)) v1.toNat) r2)) Q))))) : PW sc n m_X9_look 14 [] [some (vr T), some (vi v1), some (vi v2)] M Q := by
  rcases hT with rfl | rfl <;> exact pw_go rfl (fun j => Nat.beq j 2 || Nat.beq j 14) 38 h
theorem pc_X9_lookAlong {sc : List Int} {n : Nat} {T : Nat} (hT : T = 57 ∨ T = 61) {Q : Vv → MM → Prop} (v1 : Int) (v2 : Int) (M : MM) (h : ∀ n1, n1 < n → gIm (decide (0 ≤ v2) && decide (v2 < 5)) (gIm (decide (0 ≤ v2) && decide (v2 < 5)) (PW sc n1 m_X9_lookAlong 20 [] [some (vr T), some (vi v1), some (vi v2), some (vl 0), none, some (vi (w32 ((Int.tmod v1 8) + (([0, 1, 0, -1, 0] : List Int).getD v2.toNat 0)))), some (vi (w32 ((w32 (Int.tdiv v1 8)) + (([1, 0, -1, 0, 0] : List Int).getD v2.toNat 0)))), some (vi 1), none] M Q))) : PC sc n m_X9_lookAlong [vr T, vi v1, vi v2] M Q := by
  rcases hT with rfl | rfl <;> exact pc_go rfl (fun j => Nat.beq j 20) 75 h
theorem pw_X9_lookAlong_20 {sc : List Int} {n : Nat} {T : Nat} (hT : T = 57 ∨ T = 61) {Q : Vv → MM → Prop} (v1 : Int) (v2 : Int) (v3 : Int) (v5 : Int) (v6 : Int) (v7 : Int) (o8 : Option Vv) (M : MM) (h : ∀ n1, n1 < n → brA (decide (8 ≤ v7))
  (Q (vl v3) M)
  (PC sc n1 m_X11_isIn [vi v5, vi 0, vi 7] M (cI fun r2 M1 =>
   brA (decide (r2 = 0))
    (Q (vl v3) M1)
    (PC sc n1 m_X11_isIn [vi v6, vi 0, vi 7] M1 (cI fun r4 M3 =>
     brA (decide (r4 ≠ 0))
      (gIm (decide (0 ≤ (w32 ((w32 (8 * v6)) + v5))) && decide ((w32 ((w32 (8 * v6)) + v5)) < 64)) (brA (decide ((M3 ((T + 1)) (w32 ((w32 (8 * v6)) + v5)).toNat) = 0))
       (gIm (decide (0 ≤ v2) && decide (v2 < 5)) (gIm (decide (0 ≤ v2) && decide (v2 < 5)) (PW sc n1 m_X9_lookAlong 20 [] [some (vr T), some (vi v1), some (vi v2), some (vl (bOrL v3 (bShlL 1 (w32 ((w32 (8 * v6)) + v5))))), none, some (vi (w32 (v5 + (([0, 1, 0, -1, 0] : List Int).getD v2.toNat 0)))), some (vi (w32 (v6 + (([1, 0, -1, 0, 0] : List Int).getD v2.toNat 0)))), some (vi (w32 (v7 + 1))), some (vi (w32 ((w32 (8 * v6)) + v5)))] M3 Q)))
       (Q (vl (bOrL v3 (bShlL 1 (w32 ((w32 (8 * v6)) + v5))))) M3)))
      (Q (vl v3) M3)))))) : PW sc n m_X9_lookAlong 20 [] [some (vr T), some (vi v1), some (vi v2), some (vl v3), none, some (vi v5), some (vi v6), some (vi v7), o8] M Q := by
  rcases hT with rfl | rfl <;> exact pw_go rfl (fun j => Nat.beq j 20) 75 h
theorem pc_X11_isIn {sc : List Int} {n : Nat} {Q : Vv → MM → Prop} (v0 : Int) (v1 : Int) (v2 : Int) (M : MM) (h : ∀ n1, n1 < n → brA (decide (v0 < v1))
  (Q (vi 0) M)
  (brA (decide (v2 < v0))
   (Q (vi 0) M)
   (Q (vi 1) M))) : PC sc n m_X11_isIn [vi v0, vi v1, vi v2] M Q := pc_go rfl (fun j => false) 15 h
theorem pc_X12_isSeen {sc : List Int} {n : Nat} {Q : Vv → MM → Prop} (v1 : Int) (v2 : Int) (M : MM) (h : ∀ n1, n1 < n → brA (decide (v1 ≠ v2))
  (brA (decide ((Int.tmod v1 8) = (Int.tmod v2 8)))
   (PW sc n1 m_X12_isSeen 21 [] [some (vr 81), some (vi v1), some (vi v2), none, none] M Q)
   (brA (decide ((w32 (Int.tdiv v1 8)) = (w32 (Int.tdiv v2 8))))
    (PW sc n1 m_X12_isSeen 21 [] [some (vr 81), some (vi v1), some (vi v2), none, none] M Q)
    (Q (vi 0) M)))
  (Q (vi 1) M)) : PC sc n m_X12_isSeen [vr 81, vi v1, vi v2] M Q := pc_go rfl (fun j => Nat.beq j 21 || Nat.beq j 46) 68 h
theorem pw_X12_isSeen_21 {sc : List Int} {n : Nat} {Q : Vv → MM → Prop} (v1 : Int) (v2 : Int) (o3 : Option Vv) (o4 : Option Vv) (M : MM) (h : ∀ n1, n1 < n → brA (decide ((Int.tmod v1 8) ≠ (Int.tmod v2 8)))
  (brA (decide (v2 ≤ v1))
   (PC sc n1 m_X12_beside [vi v1, vi 3] M (cI fun r2 M1 =>
    PW sc n1 m_X12_isSeen 46 [] [some (vr 81), some (vi v1), some (vi v2), some (vi 3), some (vi r2)] M1 Q))
   (PC sc n1 m_X12_beside [vi v1, vi 1] M (cI fun r4 M3 =>
    PW sc n1 m_X12_isSeen 46 [] [some (vr 81), some (vi v1), some (vi v2), some (vi 1), some (vi r4)] M3 Q)))
  (brA (decide (v2 ≤ v1))
   (PC sc n1 m_X12_beside [vi v1, vi 2] M (cI fun r6 M5 =>
    PW sc n1 m_X12_isSeen 46 [] [some (vr 81), some (vi v1), some (vi v2), some (vi 2), some (vi r6)] M5 Q))
   (PC sc n1 m_X12_beside [vi v1, vi 0] M (cI fun r8 M7 =>
    PW sc n1 m_X12_isSeen 46 [] [some (vr 81), some (vi v1), some (vi v2), some (vi 0), some (vi r8)] M7 Q)))) : PW sc n m_X12_isSeen 21 [] [some (vr 81), some (vi v1), some (vi v2), o3, o4] M Q := pw_go rfl (fun j => Nat.beq j 21 || Nat.beq j 46) 68 h
theorem pw_X12_isSeen_46 {sc : List Int} {n : Nat} {Q : Vv → MM → Prop} (v1 : Int) (v2 : Int) (v3 : Int) (v4 : Int) (M : MM) (h : ∀ n1, n1 < n → brA (decide (v4 = v2))
  (Q (vi 1) M)
  (gIm (decide (0 ≤ v4) && decide (v4 < 64)) (brA (decide ((M 85 v4.toNat) = 0))
   (PC sc n1 m_X12_beside [vi v4, vi v3] M (cI fun r2 M1 =>
    PW sc n1 m_X12_isSeen 46 [] [some (vr 81), some (vi v1), some (vi v2), some (vi v3), some (vi r2)] M1 Q))
   (Q (vi 0) M)))) : PW sc n m_X12_isSeen 46 [] [some (vr 81), some (vi v1), some (vi v2), some (vi v3), some (vi v4)] M Q := pw_go rfl (fun j => Nat.beq j 21 || Nat.beq j 46) 68 h
theorem pc_X9_sees {sc : List Int} {n : Nat} {T : Nat} (hT : T = 57 ∨ T = 61) {Q : Vv → MM → Prop} (v1 : Int) (v2 : Int) (M : MM) (h : ∀ n1, n1 < n → brA (decide (v1 < 0))
  (Q (vi 0) M)
  (brA (decide (64 ≤ v1))
   (Q (vi 0) M)
   (brA (decide (v2 < 0))
    (Q (vi 0) M)
    (brA (decide (v2 < 64))
     (gIm (decide (0 ≤ v1) && decide (v1 < 64)) (brA (decide ((lcm3 (bAndL (bShrL (M ((T + 3)) v1.toNat) v2) 1) 1) ≠ 0))
      (Q (vi 0) M)
      (Q (vi 1) M)))
     (Q (vi 0) M))))) : PC sc n m_X9_sees [vr T, vi v1, vi v2] M Q := by
  rcases hT with rfl | rfl <;> exact pc_go rfl (fun j => false) 32 h
theorem pc_X9_housesWithSpots {sc : List Int} {n : Nat} {T : Nat} (hT : T = 57 ∨ T = 61) {Q : Vv → MM → Prop}  (M : MM) (h : ∀ n1, n1 < n → PW sc n1 m_X9_housesWithSpots 4 [] [some (vr T), some (vi 0), some (vi 0)] M Q) : PC sc n m_X9_housesWithSpots [vr T] M Q := by
  rcases hT with rfl | rfl <;> exact pc_go rfl (fun j => Nat.beq j 4) 28 h
theorem pw_X9_housesWithSpots_4 {sc : List Int} {n : Nat} {T : Nat} (hT : T = 57 ∨ T = 61) {Q : Vv → MM → Prop} (v1 : Int) (v2 : Int) (M : MM) (h : ∀ n1, n1 < n → brA (decide (10 ≤ v2))
  (Q (vi v1) M)
  (gIm (decide (0 ≤ v2) && decide (v2 < 10)) (brA (decide ((M ((T + 2)) v2.toNat) = ((-1))))
   (PW sc n1 m_X9_housesWithSpots 4 [] [some (vr T), some (vi v1), some (vi (w32 (v2 + 1)))] M Q)
   (PW sc n1 m_X9_housesWithSpots 4 [] [some (vr T), some (vi (bOr v1 (bShl 1 v2))), some (vi (w32 (v2 + 1)))] M Q)))) : PW sc n m_X9_housesWithSpots 4 [] [some (vr T), some (vi v1), some (vi v2)] M Q := by
  rcases hT with rfl | rfl <;> exact pw_go rfl (fun j => Nat.beq j 4) 28 h
def dX (w : Nat) : Int := ([0, 1, 0, -1, 0] : List Int).getD w 0
def dY (w : Nat) : Int := ([1, 0, -1, 0, 0] : List Int).getD w 0
theorem dXY_r : ∀ w, w < 5 → (-1 ≤ dX w ∧ dX w ≤ 1) ∧ (-1 ≤ dY w ∧ dY w ≤ 1) := by decide
/- is the spot t one of the next n on a line, up to the first that is no lane -/
def lkV (K : Nat → Int) (w : Nat) (t : Int) (n : Nat) (x y : Int) : Bool := match n with
  | 0 => false
  | n + 1 => if (0 ≤ x ∧ x ≤ 7) ∧ (0 ≤ y ∧ y ≤ 7) then (if 8 * y + x = t then true else if K (8 * y + x).toNat = 0 then lkV K w t n (x + dX w) (y + dY w) else false) else false
theorem lkV_s (K : Nat → Int) (w : Nat) (t : Int) (n : Nat) (x y : Int) : lkV K w t (n + 1) x y = (if (0 ≤ x ∧ x ≤ 7) ∧ (0 ≤ y ∧ y ≤ 7) then (if 8 * y + x = t then true else if K (8 * y + x).toNat = 0 then lkV K w t n (x + dX w) (y + dY w) else false) else false) := rfl
def lkF (K : Nat → Int) (w : Nat) (s t : Int) : Bool := lkV K w t 7 (s % 8 + dX w) (s / 8 + dY w)
/- one sees t from s -/
def seeB (K : Nat → Int) (s t : Int) : Bool := decide (t = s) || (lkF K 0 s t || (lkF K 1 s t || (lkF K 2 s t || lkF K 3 s t)))
theorem lkV_K {K K' : Nat → Int} (h : ∀ j, j < 64 → K j = K' j) (w : Nat) (t : Int) : ∀ n x y, lkV K w t n x y = lkV K' w t n x y := by
  intro n
  induction n with
  | zero => intro x y; rfl
  | succ n ih =>
    intro x y
    rw [lkV_s, lkV_s, ih]
    by_cases q : (0 ≤ x ∧ x ≤ 7) ∧ (0 ≤ y ∧ y ≤ 7)
    · rw [if_pos q, if_pos q, h _ (by omega)]
    · rw [if_neg q, if_neg q]
theorem seeB_K {K K' : Nat → Int} (h : ∀ j, j < 64 → K j = K' j) (s t : Int) : seeB K s t = seeB K' s t := by
  unfold seeB lkF
  rw [lkV_K h, lkV_K h, lkV_K h, lkV_K h]
section SGC
variable {sc : List Int} {Q : Vv → MM → Prop} {T : Nat}
set_option maxRecDepth 20000 in
theorem p_isIn {a l h : Int} {n : Nat} {M : MM} (k0 : ¬ (l ≤ a ∧ a ≤ h) → ∀ x : Int, x = 0 → Q (vi x) M) (k1 : (l ≤ a ∧ a ≤ h) → ∀ x : Int, x = 1 → Q (vi x) M) : PC sc n m_X11_isIn [vi a, vi l, vi h] M Q := pc_X11_isIn a l h M fun n1 _ => brP (fun q => k0 (by omega) 0 rfl) fun q => brP (fun q2 => k0 (by omega) 0 rfl) fun q2 => k1 (by omega) 1 rfl
set_option maxRecDepth 20000 in
theorem f_lkLoop (hT : T = 57 ∨ T = 61) {s w : Nat} (hw : w < 4) {M : MM} : ∀ (m i n : Nat) (acc x y : Int) (o8 : Option Vv), i + m = 8 → (-1 ≤ x ∧ x ≤ 8) → (-1 ≤ y ∧ y ≤ 8) → (∀ r, (∀ t : Nat, t < 64 → bil r t = (bil acc t || lkV (M (T + 1)) w t m x y)) → Q (vl r) M) → PW sc n m_X9_lookAlong 20 [] [some (vr T), some (vi (s : Int)), some (vi (w : Int)), some (vl acc), none, some (vi x), some (vi y), some (vi (i : Int)), o8] M Q := by
  intro m
  induction m with
  | zero =>
    intro i n acc x y o8 hi hx hy k
    exact pw_X9_lookAlong_20 hT _ _ acc x y _ o8 M fun n1 _ => brT (by omega) (k acc fun t ht => (Bool.or_false _).symm)
  | succ m ih =>
    intro i n acc x y o8 hi hx hy k
    have hd := dXY_r w (by omega)
    have hwt : ((w : Int)).toNat = w := by omega
    have no : ¬ ((0 ≤ x ∧ x ≤ 7) ∧ (0 ≤ y ∧ y ≤ 7)) → Q (vl acc) M := fun q => k acc fun t ht => by
      rw [lkV_s, if_neg q, Bool.or_false]
    refine pw_X9_lookAlong_20 hT _ _ acc x y _ o8 M fun n1 _ => brF (by omega) (p_isIn (fun q z hz => brT hz (no fun g => q g.1)) fun q z hz => brF (by omega) (p_isIn (fun q2 z2 hz2 => brF (by omega) (no fun g => q2 g.2)) fun q2 z2 hz2 => brT (by omega) ?_))
    rw [ew32 (z := 8 * y) (by omega) (by omega), ew32 (z := 8 * y + x) (by omega) (by omega)]
    have hsp : (8 * y + x) = (((8 * y + x).toNat : Nat) : Int) := by omega
    have hset : ∀ t : Nat, t < 64 → bil (bOrL acc (bShlL 1 (8 * y + x))) t = (bil acc t || decide (8 * y + x = t)) := fun t ht => by
      rw [bil_or, hsp, bil_shl (by omega) ht]
      congr 1
      by_cases e : t = (8 * y + x).toNat
      · rw [decide_eq_true e, decide_eq_true (by omega)]
      · rw [decide_eq_false e, decide_eq_false (by omega)]
    have hk : ∀ r, (∀ t : Nat, t < 64 → bil r t = ((bil acc t || decide (8 * y + x = t)) || (if M (T + 1) (8 * y + x).toNat = 0 then lkV (M (T + 1)) w t m (x + dX w) (y + dY w) else false))) → Q (vl r) M := fun r hr => k r fun t ht => by
      rw [hr t ht, lkV_s, if_pos (show (0 ≤ x ∧ x ≤ 7) ∧ (0 ≤ y ∧ y ≤ 7) from ⟨q, q2⟩), Bool.or_assoc]
      congr 1
      by_cases e : 8 * y + x = t
      · rw [if_pos e, decide_eq_true e, Bool.true_or]
      · rw [if_neg e, decide_eq_false e, Bool.false_or]
    refine gMB (brP (fun h0 => gMB (gMB ?_)) fun h0 => ?_)
    · have ex : w32 (x + ([0, 1, 0, -1, 0] : List Int).getD ((w : Int)).toNat 0) = x + dX w := by
        rw [hwt]
        exact ew32 (z := x + dX w) (by omega) (by omega)
      have ey : w32 (y + ([1, 0, -1, 0, 0] : List Int).getD ((w : Int)).toNat 0) = y + dY w := by
        rw [hwt]
        exact ew32 (z := y + dY w) (by omega) (by omega)
      rw [ex, ey, show w32 ((i : Int) + 1) = ((i + 1 : Nat) : Int) from ew32 (by omega) (by omega)]
      refine ih (i + 1) n1 _ _ _ _ (by omega) (by omega) (by omega) fun r hr => hk r fun t ht => ?_
      rw [hr t ht, hset t ht, if_pos h0]
    · refine hk _ fun t ht => ?_
      rw [hset t ht, if_neg h0, Bool.or_false]
set_option maxRecDepth 20000 in
theorem f_lookAlong (hT : T = 57 ∨ T = 61) {s w n : Nat} (hs : s < 64) (hw : w < 4) {M : MM} (k : ∀ r, (∀ t : Nat, t < 64 → bil r t = lkF (M (T + 1)) w s t) → Q (vl r) M) : PC sc n m_X9_lookAlong [vr T, vi (s : Int), vi (w : Int)] M Q := by
  have hd := dXY_r w (by omega)
  have hwt : ((w : Int)).toNat = w := by omega
  refine pc_X9_lookAlong hT _ _ M fun n1 _ => gMB (gMB ?_)
  have ex : w32 (Int.tmod (s : Int) 8 + ([0, 1, 0, -1, 0] : List Int).getD ((w : Int)).toNat 0) = (s : Int) % 8 + dX w := by
    rw [hwt, etmod (by omega)]
    exact ew32 (z := (s : Int) % 8 + dX w) (by omega) (by omega)
  have ey : w32 (w32 (Int.tdiv (s : Int) 8) + ([1, 0, -1, 0, 0] : List Int).getD ((w : Int)).toNat 0) = (s : Int) / 8 + dY w := by
    rw [hwt, etdiv (by omega) (by omega) (by decide)]
    exact ew32 (z := (s : Int) / 8 + dY w) (by omega) (by omega)
  rw [ex, ey]
  refine f_lkLoop hT hw 7 1 n1 0 _ _ none rfl (by omega) (by omega) fun r hr => k r fun t ht => ?_
  rw [hr t ht, bil_zero, Bool.false_or]
  rfl
/- of the spots below s: what their rows say -/
def lkI (T : Nat) (K : Nat → Int) (M0 M : MM) (s : Nat) : Prop := (∀ c, c ≠ T + 3 → M c = M0 c) ∧ ∀ f t : Nat, f < s → t < 64 → bil (M (T + 3) f) t = seeB K f t
def lkW (K : Nat → Int) (s t : Int) (w : Nat) : Bool := decide (t = s) || (match w with
  | 0 => false
  | 1 => lkF K 0 s t
  | 2 => lkF K 0 s t || lkF K 1 s t
  | 3 => lkF K 0 s t || (lkF K 1 s t || lkF K 2 s t)
  | _ => lkF K 0 s t || (lkF K 1 s t || (lkF K 2 s t || lkF K 3 s t)))
theorem lkW_s (K : Nat → Int) (s t : Int) {w : Nat} (hw : w < 4) : (lkW K s t w || lkF K w s t) = lkW K s t (w + 1) := by
  obtain rfl | rfl | rfl | rfl : w = 0 ∨ w = 1 ∨ w = 2 ∨ w = 3 := by omega
  all_goals (unfold lkW; cases decide (t = s) <;> cases lkF K 0 s t <;> cases lkF K 1 s t <;> cases lkF K 2 s t <;> cases lkF K 3 s t <;> rfl)
set_option maxRecDepth 20000 in
theorem f_look (hT : T = 57 ∨ T = 61) {K : Nat → Int} {M0 : MM} {n : Nat} (hK : M0 (T + 1) = K) (k : ∀ M1, lkI T K M0 M1 64 → Q (vi 0) M1) : PC sc n m_X9_look [vr T] M0 Q := by
  have out : ∀ (m s n : Nat) (o2 : Option Vv) (M : MM), s + m = 64 → lkI T K M0 M s → PW sc n m_X9_look 2 [] [some (vr T), some (vi (s : Int)), o2] M Q := by
    intro m
    induction m with
    | zero =>
      intro s n o2 M hs I
      have hs : s = 64 := hs
      subst hs
      exact pw_X9_look_2 hT _ o2 M fun n1 _ => brT (by omega) (k M I)
    | succ m ih =>
      intro s n o2 M hs I
      have st : ((s : Int)).toNat = s := by omega
      have inn : ∀ (q w n : Nat) (M1 : MM), w + q = 4 → (∀ c, c ≠ T + 3 → M1 c = M0 c) → (∀ f t : Nat, f < s → t < 64 → bil (M1 (T + 3) f) t = seeB K f t) → (∀ t : Nat, t < 64 → bil (M1 (T + 3) s) t = lkW K s t w) → PW sc n m_X9_look 14 [] [some (vr T), some (vi (s : Int)), some (vi (w : Int))] M1 Q := by
        intro q
        induction q with
        | zero =>
          intro w n M1 hw f h1 h2
          have hw : w = 4 := hw
          subst hw
          refine pw_X9_look_14 hT _ _ M1 fun n1 _ => brT (by omega) ?_
          rw [show w32 ((s : Int) + 1) = ((s + 1 : Nat) : Int) from ew32 (by omega) (by omega)]
          refine ih (s + 1) n1 _ M1 (by omega) ⟨f, fun f' t hf ht => ?_⟩
          by_cases e : f' = s
          · subst e
            exact h2 t ht
          · exact h1 f' t (by omega) ht
        | succ q ihq =>
          intro w n M1 hw f h1 h2
          refine pw_X9_look_14 hT _ _ M1 fun n1 _ => brF (by omega) (gMB (f_lookAlong hT (by omega) (by omega) fun r hr => gMB ?_))
          rw [f (T + 1) (by omega), hK] at hr
          rw [show w32 ((w : Int) + 1) = ((w + 1 : Nat) : Int) from ew32 (by omega) (by omega), st]
          refine ihq (w + 1) n1 _ (by omega) (fun c hc => (stK hc).trans (f c hc)) (fun f' t hf ht => ?_) fun t ht => ?_
          · rw [stO (by omega)]
            exact h1 f' t hf ht
          · rw [stE, bil_or, h2 t ht, hr t ht]
            exact lkW_s K s t (by omega)
      refine pw_X9_look_2 hT _ o2 M fun n1 _ => brF (by omega) (gMB ?_)
      rw [st]
      refine inn 4 0 n1 _ rfl (fun c hc => (stK hc).trans (I.1 c hc)) (fun f' t hf ht => ?_) fun t ht => ?_
      · rw [stO (by omega)]
        exact I.2 f' t hf ht
      · rw [stE, bil_shl (by omega) ht]
        show _ = (decide ((t : Int) = (s : Int)) || false)
        rw [Bool.or_false]
        by_cases e : t = s
        · rw [decide_eq_true e, decide_eq_true (by omega)]
        · rw [decide_eq_false e, decide_eq_false (by omega)]
  exact pc_X9_look hT M0 fun n1 _ => out 64 0 n1 none M0 rfl ⟨fun _ _ => rfl, fun f t hf => by omega⟩
/- sees, of a Town whose rows are laid -/
set_option maxRecDepth 20000 in
theorem f_sees (hT : T = 57 ∨ T = 61) {K : Nat → Int} {M : MM} {n : Nat} {s t : Int} (hs : 0 ≤ s ∧ s < 64) (hS : ∀ f t : Nat, f < 64 → t < 64 → bil (M (T + 3) f) t = seeB K f t) (k0 : ¬ ((0 ≤ t ∧ t < 64) ∧ seeB K s t = true) → ∀ x : Int, x = 0 → Q (vi x) M) (k1 : (0 ≤ t ∧ t < 64) → seeB K s t = true → ∀ x : Int, x = 1 → Q (vi x) M) : PC sc n m_X9_sees [vr T, vi s, vi t] M Q := by
  refine pc_X9_sees hT s t M fun n1 _ => brF (by omega) (brF (by omega) (brP (fun h => k0 (by omega) 0 rfl) fun h => brP (fun h2 => gMB ?_) fun h2 => k0 (by omega) 0 rfl))
  have h3 := hS s.toNat t.toNat (by omega) (by omega)
  rw [show ((s.toNat : Nat) : Int) = s by omega, show ((t.toNat : Nat) : Int) = t by omega] at h3
  have e : bAndL (bShrL (M (T + 3) s.toNat) t) 1 = if seeB K s t then 1 else 0 := by
    have := bil_see (M (T + 3) s.toNat) (k := t.toNat) (by omega)
    rw [show ((t.toNat : Nat) : Int) = t by omega] at this
    rw [this, h3]
  rw [e]
  refine brP (fun q => k0 (fun z => q (lcm_see.mpr z.2)) 0 rfl) fun q => k1 (by omega) (lcm_see.mp (Classical.not_not.mp q)) 1 rfl
end SGC
/-! the reference's walk along a line -/
def seeV (K : Nat → Int) (w t : Int) (n : Nat) (a : Int) : Int := match n with
  | 0 => 0
  | n + 1 => if a = t then 1 else if K a.toNat = 0 then seeV K w t n (bes a w) else 0
theorem seeV_s (K : Nat → Int) (w t : Int) (n : Nat) (a : Int) : seeV K w t (n + 1) a = (if a = t then 1 else if K a.toNat = 0 then seeV K w t n (bes a w) else 0) := rfl
theorem dXY_c {w : Nat} (hw : w < 4) : (w = 0 ∧ dX w = 0 ∧ dY w = 1) ∨ (w = 1 ∧ dX w = 1 ∧ dY w = 0) ∨ (w = 2 ∧ dX w = 0 ∧ dY w = -1) ∨ (w = 3 ∧ dX w = -1 ∧ dY w = 0) := by
  obtain rfl | rfl | rfl | rfl : w = 0 ∨ w = 1 ∨ w = 2 ∨ w = 3 := by omega
  · exact .inl ⟨rfl, rfl, rfl⟩
  · exact .inr (.inl ⟨rfl, rfl, rfl⟩)
  · exact .inr (.inr (.inl ⟨rfl, rfl, rfl⟩))
  · exact .inr (.inr (.inr ⟨rfl, rfl, rfl⟩))
theorem bes_dXY {w : Nat} (hw : w < 4) {v : Int} (hv : 0 ≤ v ∧ v ≤ 63) : bes v w = if (0 ≤ v % 8 + dX w ∧ v % 8 + dX w ≤ 7) ∧ (0 ≤ v / 8 + dY w ∧ v / 8 + dY w ≤ 7) then 8 * (v / 8 + dY w) + (v % 8 + dX w) else -1 := by
  obtain rfl | rfl | rfl | rfl : w = 0 ∨ w = 1 ∨ w = 2 ∨ w = 3 := by omega
  all_goals rfl
/- the right way: both see the same -/
theorem see_lk {K : Nat → Int} {w : Nat} (hw : w < 4) {t : Int} (ht : 0 ≤ t ∧ t ≤ 63) : ∀ (n : Nat) (a : Int), lineOk w a t → (t - a).natAbs ≤ 8 * n → ((w = 1 ∨ w = 3) → (t - a).natAbs ≤ n) → (lkV K w t (n + 1) (a % 8) (a / 8) = true ↔ seeV K w t (n + 1) a = 1) := by
  intro n
  induction n with
  | zero =>
    intro a hl h1 h2
    have ha := hl.1
    have e : a = t := by omega
    rw [lkV_s, if_pos (by omega), if_pos (by omega), seeV_s, if_pos e]
    exact ⟨fun _ => rfl, fun _ => rfl⟩
  | succ n ih =>
    intro a hl h1 h2
    have ha := hl.1
    rw [lkV_s, if_pos (by omega), seeV_s]
    by_cases e : a = t
    · rw [if_pos (by omega), if_pos e]
      exact ⟨fun _ => rfl, fun _ => rfl⟩
    · rw [if_neg (by omega), if_neg e, show 8 * (a / 8) + a % 8 = a by omega]
      by_cases q : K a.toNat = 0
      · rw [if_pos q, if_pos q]
        have hx := line_next hl ht e
        have hb := bes_dXY hw ha
        have hb0 := hx.1.1
        by_cases g : (0 ≤ a % 8 + dX w ∧ a % 8 + dX w ≤ 7) ∧ (0 ≤ a / 8 + dY w ∧ a / 8 + dY w ≤ 7)
        · rw [if_pos g] at hb
          have i1 := ih (bes a w) hx.1 (by
            have hl2 := hl.2
            have hx2 := hx.2
            have hc := dXY_c hw
            omega) (fun z => by
            have := h2 z
            have := hx.2
            omega)
          rw [show bes a w % 8 = a % 8 + dX w by omega, show bes a w / 8 = a / 8 + dY w by omega] at i1
          exact i1
        · rw [if_neg g] at hb
          omega
      · rw [if_neg q, if_neg q]
        exact ⟨fun h => (by cases h), fun h => (by cases h)⟩
/- another way doesn't come there -/
theorem lk_on {K : Nat → Int} {w : Nat} (hw : w < 4) {t : Int} : ∀ (n : Nat) (x y : Int), lkV K w t n x y = true → (0 ≤ t ∧ t ≤ 63) ∧ ((w = 0 ∧ t % 8 = x ∧ y ≤ t / 8) ∨ (w = 1 ∧ t / 8 = y ∧ x ≤ t % 8) ∨ (w = 2 ∧ t % 8 = x ∧ t / 8 ≤ y) ∨ (w = 3 ∧ t / 8 = y ∧ t % 8 ≤ x)) := by
  intro n
  induction n with
  | zero => intro x y h; cases h
  | succ n ih =>
    intro x y h
    rw [lkV_s] at h
    by_cases q : (0 ≤ x ∧ x ≤ 7) ∧ (0 ≤ y ∧ y ≤ 7)
    · rw [if_pos q] at h
      by_cases e : 8 * y + x = t
      · subst e
        omega
      · rw [if_neg e] at h
        by_cases z : K (8 * y + x).toNat = 0
        · rw [if_pos z] at h
          have i1 := ih _ _ h
          have hd : w = 0 ∨ w = 1 ∨ w = 2 ∨ w = 3 := by omega
          rcases hd with rfl | rfl | rfl | rfl
          · have e1 : dX 0 = 0 := rfl
            have e2 : dY 0 = 1 := rfl
            rw [e1, e2] at i1
            omega
          · have e1 : dX 1 = 1 := rfl
            have e2 : dY 1 = 0 := rfl
            rw [e1, e2] at i1
            omega
          · have e1 : dX 2 = 0 := rfl
            have e2 : dY 2 = -1 := rfl
            rw [e1, e2] at i1
            omega
          · have e1 : dX 3 = -1 := rfl
            have e2 : dY 3 = 0 := rfl
            rw [e1, e2] at i1
            omega
        · rw [if_neg z] at h
          cases h
    · rw [if_neg q] at h
      cases h
theorem lkF_no {K : Nat → Int} {w : Nat} (hw : w < 4) {s t : Int} (hs : 0 ≤ s ∧ s ≤ 63) (h : ¬ ((w = 0 ∧ t % 8 = s % 8 ∧ s < t) ∨ (w = 1 ∧ t / 8 = s / 8 ∧ s < t) ∨ (w = 2 ∧ t % 8 = s % 8 ∧ t < s) ∨ (w = 3 ∧ t / 8 = s / 8 ∧ t < s))) : lkF K w s t = false := by
  cases e : lkF K w s t
  · rfl
  · have i1 := lk_on hw _ _ _ e
    have hd : w = 0 ∨ w = 1 ∨ w = 2 ∨ w = 3 := by omega
    exfalso
    rcases hd with rfl | rfl | rfl | rfl
    · have e1 : dX 0 = 0 := rfl
      have e2 : dY 0 = 1 := rfl
      rw [e1, e2] at i1
      omega
    · have e1 : dX 1 = 1 := rfl
      have e2 : dY 1 = 0 := rfl
      rw [e1, e2] at i1
      omega
    · have e1 : dX 2 = 0 := rfl
      have e2 : dY 2 = -1 := rfl
      rw [e1, e2] at i1
      omega
    · have e1 : dX 3 = -1 := rfl
      have e2 : dY 3 = 0 := rfl
      rw [e1, e2] at i1
      omega
section SGM
variable {sc : List Int} {Q : Vv → MM → Prop}
set_option maxRecDepth 20000 in
theorem p_beside {v w : Int} {n : Nat} {M : MM} (hv : 0 ≤ v ∧ v ≤ 63) (k : Q (vi (bes v w)) M) : PC sc n m_X12_beside [vi v, vi w] M Q := PC.of (s_beside (d := 0) v w M hv k)
set_option maxRecDepth 20000 in
theorem f_seeLoop {s t : Int} {w : Nat} {M : MM} (hw : w < 4) (ht : 0 ≤ t ∧ t ≤ 63) : ∀ (m n : Nat) (a : Int), lineOk w a t → (t - a).natAbs ≤ 8 * m → ((w = 1 ∨ w = 3) → (t - a).natAbs ≤ m) → Q (vi (seeV (M 85) w t (m + 1) a)) M → PW sc n m_X12_isSeen 46 [] [some (vr 81), some (vi s), some (vi t), some (vi (w : Int)), some (vi a)] M Q := by
  intro m
  induction m with
  | zero =>
    intro n a hl h1 h2 k
    have e : a = t := by omega
    rw [seeV_s, if_pos e] at k
    exact pw_X12_isSeen_46 s t _ a M fun n1 _ => brT e k
  | succ m ih =>
    intro n a hl h1 h2 k
    rw [seeV_s] at k
    refine pw_X12_isSeen_46 s t _ a M fun n1 _ => brP (fun e => ?_) fun e => gMB (brP (fun g => p_beside hl.1 ?_) fun g => ?_)
    · rw [if_pos e] at k
      exact k
    · rw [if_neg e, if_pos g] at k
      have ha := hl.1
      have hx := line_next hl ht e
      have hb0 := hx.1.1
      refine ih n1 _ hx.1 ?_ (fun z => ?_) k
      · have hl2 := hl.2
        have hx2 := hx.2
        have hc := dXY_c hw
        have hb := bes_dXY hw ha
        split at hb <;> omega
      · have := h2 z
        have := hx.2
        omega
    · rw [if_neg e, if_neg g] at k
      exact k
set_option maxRecDepth 20000 in
theorem f_isSeen {s t : Int} {n : Nat} {M : MM} (hs : 0 ≤ s ∧ s ≤ 63) (ht : 0 ≤ t ∧ t ≤ 63) (k0 : seeB (M 85) s t = false → ∀ x : Int, x = 0 → Q (vi x) M) (k1 : seeB (M 85) s t = true → ∀ x : Int, x = 1 → Q (vi x) M) : PC sc n m_X12_isSeen [vr 81, vi s, vi t] M Q := by
  have em : ∀ {v : Int}, 0 ≤ v ∧ v ≤ 63 → Int.tmod v 8 = v % 8 := fun h => etmod h.1
  have ed : ∀ {v : Int}, 0 ≤ v ∧ v ≤ 63 → w32 (Int.tdiv v 8) = v / 8 := fun h => etdiv h.1 (by omega) (by decide)
  refine pc_X12_isSeen s t M fun n1 _ => ?_
  rw [em hs, em ht, ed hs, ed ht]
  have way : ∀ (w : Nat), w < 4 → ((w = 0 ∧ t % 8 = s % 8 ∧ s < t) ∨ (w = 1 ∧ t / 8 = s / 8 ∧ s < t) ∨ (w = 2 ∧ t % 8 = s % 8 ∧ t < s) ∨ (w = 3 ∧ t / 8 = s / 8 ∧ t < s)) → ∀ n, PC sc n m_X12_beside [vi s, vi (w : Int)] M (cI fun r M1 => PW sc n m_X12_isSeen 46 [] [some (vr 81), some (vi s), some (vi t), some (vi (w : Int)), some (vi r)] M1 Q) := fun w hw hc n => by
    have hl : lineOk w s t := by
      rcases hc with ⟨q, h1, h2⟩ | ⟨q, h1, h2⟩ | ⟨q, h1, h2⟩ | ⟨q, h1, h2⟩
      · exact ⟨hs, .inl ⟨by omega, by omega, by omega⟩⟩
      · exact ⟨hs, .inr (.inr (.inl ⟨by omega, by omega, by omega⟩))⟩
      · exact ⟨hs, .inr (.inl ⟨by omega, by omega, by omega⟩)⟩
      · exact ⟨hs, .inr (.inr (.inr ⟨by omega, by omega, by omega⟩))⟩
    have hne : s ≠ t := by omega
    have hx := line_next hl ht hne
    have hx0 := hx.1.1
    have hb := bes_dXY hw hs
    have hd : w = 0 ∨ w = 1 ∨ w = 2 ∨ w = 3 := by omega
    have hg : (0 ≤ s % 8 + dX w ∧ s % 8 + dX w ≤ 7) ∧ (0 ≤ s / 8 + dY w ∧ s / 8 + dY w ≤ 7) := by
      by_cases g : (0 ≤ s % 8 + dX w ∧ s % 8 + dX w ≤ 7) ∧ (0 ≤ s / 8 + dY w ∧ s / 8 + dY w ≤ 7)
      · exact g
      · rw [if_neg g] at hb
        omega
    rw [if_pos hg] at hb
    have hcc := dXY_c hw
    have h1 : (t - bes s w).natAbs ≤ 8 * 6 := by
      have hx2 := hx.2
      omega
    have h2 : (w = 1 ∨ w = 3) → (t - bes s w).natAbs ≤ 6 := fun z => by
      have := hx.2
      omega
    have hsee := see_lk (K := M 85) hw ht 6 (bes s w) hx.1 h1 h2
    rw [show bes s w % 8 = s % 8 + dX w by omega, show bes s w / 8 = s / 8 + dY w by omega] at hsee
    have hall : seeB (M 85) s t = lkF (M 85) w s t := by
      have n0 : ∀ u : Nat, u < 4 → u ≠ w → lkF (M 85) u s t = false := fun u hu hn => lkF_no hu hs (by omega)
      unfold seeB
      rw [decide_eq_false (by omega), Bool.false_or]
      rcases hd with rfl | rfl | rfl | rfl
      · rw [n0 1 (by omega) (by omega), n0 2 (by omega) (by omega), n0 3 (by omega) (by omega), Bool.or_false, Bool.or_false, Bool.or_false]
      · rw [n0 0 (by omega) (by omega), n0 2 (by omega) (by omega), n0 3 (by omega) (by omega), Bool.or_false, Bool.or_false, Bool.false_or]
      · rw [n0 0 (by omega) (by omega), n0 1 (by omega) (by omega), n0 3 (by omega) (by omega), Bool.or_false, Bool.false_or, Bool.false_or]
      · rw [n0 0 (by omega) (by omega), n0 1 (by omega) (by omega), n0 2 (by omega) (by omega), Bool.false_or, Bool.false_or, Bool.false_or]
    refine p_beside hs (f_seeLoop (w := w) hw ht 6 n _ hx.1 h1 h2 ?_)
    have hr : seeV (M 85) w t 7 (bes s w) = 1 ∨ seeV (M 85) w t 7 (bes s w) = 0 := by
      have : ∀ (n : Nat) (a : Int), seeV (M 85) w t n a = 1 ∨ seeV (M 85) w t n a = 0 := by
        intro n
        induction n with
        | zero => intro a; exact .inr rfl
        | succ n ih =>
          intro a
          rw [seeV_s]
          split
          · exact .inl rfl
          · split
            · exact ih _
            · exact .inr rfl
      exact this _ _
    rw [hall] at k0 k1
    rcases hr with q | q
    · exact k1 (hsee.mpr q) _ q
    · refine k0 ?_ _ q
      cases z : lkF (M 85) w s t
      · rfl
      · exact absurd ((hsee.mp z).symm.trans q) (by decide)
  have h21 : ∀ (n : Nat) (o3 o4 : Option Vv), s ≠ t → (s % 8 = t % 8 ∨ s / 8 = t / 8) → PW sc n m_X12_isSeen 21 [] [some (vr 81), some (vi s), some (vi t), o3, o4] M Q := fun n o3 o4 hne hl => by
    refine pw_X12_isSeen_21 s t o3 o4 M fun n1 _ => ?_
    rw [em hs, em ht]
    exact brP (fun q => brP (fun g => way 3 (by decide) (by omega) n1) fun g => way 1 (by decide) (by omega) n1) fun q => brP (fun g => way 2 (by decide) (by omega) n1) fun g => way 0 (by decide) (by omega) n1
  refine brP (fun hne => brP (fun g => h21 _ _ _ hne (.inl g)) fun g => brP (fun g2 => h21 _ _ _ hne (.inr g2)) fun g2 => k0 ?_ 0 rfl) fun he => k1 ?_ 1 rfl
  · unfold seeB
    rw [decide_eq_false (by omega), lkF_no (by decide) hs (by omega), lkF_no (by decide) hs (by omega), lkF_no (by decide) hs (by omega), lkF_no (by decide) hs (by omega)]
    rfl
  · unfold seeB
    rw [decide_eq_true (by omega), Bool.true_or]
end SGM
