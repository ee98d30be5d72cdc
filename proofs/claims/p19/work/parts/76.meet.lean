/-! PART 76: MEET: both sides by one function of the walks and the town -/
theorem pc_X11_meet {sc : List Int} {n : Nat} {Q : Vv → MM → Prop} (v1 : Int) (v2 : Int) (v3 : Int) (M : MM) (h : ∀ n1, n1 < n → PC sc n1 m_X11_hasSpot [vr 0, vi v1] M (cI fun r2 M1 =>
  brA (decide (r2 = 0))
   (Q (vi ((-1))) M1)
   (PC sc n1 m_X11_hasSpot [vr 0, vi v2] M1 (cI fun r4 M3 =>
    brA (decide (r4 = 0))
     (Q (vi ((-1))) M3)
     (brA (decide (v1 = v2))
      (Q (vi ((-1))) M3)
      (PC sc n1 m_X11_isIn [vi v3, vi 0, vi 2] M3 (cI fun r6 M5 =>
       brA (decide (r6 ≠ 0))
        (gIm (decide (0 < M5 0 10)) (PC sc n1 m_X10_meeting [vr 3, vr ((M5 0 10).toNat - 1), vi v1, vi v2] M5 (cI fun r8 M7 =>
         brA (decide (r8 = ((-2))))
          (Q (vi r8) M7)
          (brA (decide (v3 ≠ 0))
           (brA (decide (v3 ≠ 1))
            (PC sc n1 m_X10_otherIn [vr 3, vi v2, vi r8] M7 (cI fun r10 M9 =>
             Q (vi r10) M9))
            (PC sc n1 m_X10_oneIn [vr 3, vi v1, vi r8] M7 (cI fun r12 M11 =>
             Q (vi r12) M11)))
           (Q (vi r8) M7)))))
        (Q (vi ((-1))) M5)))))))) : PC sc n m_X11_meet [vr 0, vi v1, vi v2, vi v3] M Q := pc_go rfl (fun j => false) 53 h
theorem pc_X10_meeting {sc : List Int} {n : Nat} {T : Nat} (hT : T = 57 ∨ T = 61) {Q : Vv → MM → Prop} (v2 : Int) (v3 : Int) (M : MM) (h : ∀ n1, n1 < n → PC sc n1 m_X10_trace [vr 3, vr T, vi v2, vr 16] M (cI fun r2 M1 =>
  PC sc n1 m_X10_trace [vr 3, vr T, vi v3, vr 17] M1 (cI fun r4 M3 =>
   PW sc n1 m_X10_meeting 16 [] [some (vr 3), some (vr T), some (vi v2), some (vi v3), some (vi (mMax r2 r4)), some (vi 0), none, none] M3 Q))) : PC sc n m_X10_meeting [vr 3, vr T, vi v2, vi v3] M Q := by
  rcases hT with rfl | rfl <;> exact pc_go rfl (fun j => Nat.beq j 16) 63 h
theorem pw_X10_meeting_16 {sc : List Int} {n : Nat} {T : Nat} (hT : T = 57 ∨ T = 61) {Q : Vv → MM → Prop} (v2 : Int) (v3 : Int) (v4 : Int) (v5 : Int) (o6 : Option Vv) (o7 : Option Vv) (M : MM) (h : ∀ n1, n1 < n → brA (decide (v4 < v5))
  (Q (vi ((-2))) M)
  (PC sc n1 m_X10_oneIn [vr 3, vi v2, vi v5] M (cI fun r2 M1 =>
   PC sc n1 m_X10_otherIn [vr 3, vi v3, vi v5] M1 (cI fun r4 M3 =>
    brA (decide (r2 ≠ r4))
     (brA (decide (v5 ≤ 0))
      (PW sc n1 m_X10_meeting 16 [] [some (vr 3), some (vr T), some (vi v2), some (vi v3), some (vi v4), some (vi (w32 (v5 + 1))), some (vi r2), some (vi r4)] M3 Q)
      (PC sc n1 m_X10_otherIn [vr 3, vi v3, vi (w32 (v5 - 1))] M3 (cI fun r6 M5 =>
       brA (decide (r2 ≠ r6))
        (PW sc n1 m_X10_meeting 16 [] [some (vr 3), some (vr T), some (vi v2), some (vi v3), some (vi v4), some (vi (w32 (v5 + 1))), some (vi r2), some (vi r4)] M5 Q)
        (PC sc n1 m_X10_oneIn [vr 3, vi v2, vi (w32 (v5 - 1))] M5 (cI fun r8 M7 =>
         brA (decide (r4 ≠ r8))
          (PW sc n1 m_X10_meeting 16 [] [some (vr 3), some (vr T), some (vi v2), some (vi v3), some (vi v4), some (vi (w32 (v5 + 1))), some (vi r2), some (vi r4)] M7 Q)
          (Q (vi v5) M7))))))
     (Q (vi v5) M3))))) : PW sc n m_X10_meeting 16 [] [some (vr 3), some (vr T), some (vi v2), some (vi v3), some (vi v4), some (vi v5), o6, o7] M Q := by
  rcases hT with rfl | rfl <;> exact pw_go rfl (fun j => Nat.beq j 16) 63 h
theorem pc_X10_trace {sc : List Int} {n : Nat} {T : Nat} (hT : T = 57 ∨ T = 61) {Q : Vv → MM → Prop} (v2 : Int) (v3 : Nat) (M : MM) (h : ∀ n1, n1 < n → gIm (decide (0 ≤ v2) && decide (v2 < 10)) (gIm ((kd YF v3 == 0) && (decide (0 ≤ 0) && decide (0 < ln YF v3))) (PW sc n1 m_X10_trace 9 [] [some (vr 3), some (vr T), some (vi v2), some (vr v3), some (vi 0)] (stM M v3 0 (M ((T + 2)) v2.toNat)) Q))) : PC sc n m_X10_trace [vr 3, vr T, vi v2, vr v3] M Q := by
  rcases hT with rfl | rfl <;> exact pc_go rfl (fun j => Nat.beq j 9) 43 h
theorem pw_X10_trace_9 {sc : List Int} {n : Nat} {T : Nat} (hT : T = 57 ∨ T = 61) {Q : Vv → MM → Prop} (v2 : Int) (v3 : Nat) (v4 : Int) (M : MM) (h : ∀ n1, n1 < n → gIm (decide (0 ≤ v2) && decide (v2 < 10)) (brA (decide ((M 4 v2.toNat) ≤ v4))
  (gIm (decide (0 ≤ v2) && decide (v2 < 10)) (Q (vi (M 4 v2.toNat)) M))
  (gIm ((kd YF v3 == 0) && (decide (0 ≤ v4) && decide (v4 < ln YF v3))) (gIm (decide (0 ≤ v2) && (decide (v2 < 10) && rfK (FF 5 v2.toNat) (M 5 v2.toNat))) (gIm ((kd YF (rfO (FF 5 v2.toNat) (M 5 v2.toNat)) == 0) && (decide (0 ≤ v4) && decide (v4 < ln YF (rfO (FF 5 v2.toNat) (M 5 v2.toNat))))) (PC sc n1 m_X9_after [vr T, vi (M v3 v4.toNat), vi (M (rfO (FF 5 v2.toNat) (M 5 v2.toNat)) v4.toNat)] M (cI fun r2 M1 =>
   gIm ((kd YF v3 == 0) && (decide (0 ≤ (w32 (v4 + 1))) && decide ((w32 (v4 + 1)) < ln YF v3))) (PW sc n1 m_X10_trace 9 [] [some (vr 3), some (vr T), some (vi v2), some (vr v3), some (vi (w32 (v4 + 1)))] (stM M1 v3 ((w32 (v4 + 1)).toNat) r2) Q)))))))) : PW sc n m_X10_trace 9 [] [some (vr 3), some (vr T), some (vi v2), some (vr v3), some (vi v4)] M Q := by
  rcases hT with rfl | rfl <;> exact pw_go rfl (fun j => Nat.beq j 9) 43 h
theorem pc_X10_oneIn {sc : List Int} {n : Nat} {Q : Vv → MM → Prop} (v1 : Int) (v2 : Int) (M : MM) (h : ∀ n1, n1 < n → gIm (decide (0 ≤ v1) && decide (v1 < 10)) (gIm (decide (0 ≤ (mMin v2 (M 4 v1.toNat))) && decide ((mMin v2 (M 4 v1.toNat)) < 61)) (Q (vi (M 16 (mMin v2 (M 4 v1.toNat)).toNat)) M))) : PC sc n m_X10_oneIn [vr 3, vi v1, vi v2] M Q := pc_go rfl (fun j => false) 15 h
theorem pc_X10_otherIn {sc : List Int} {n : Nat} {Q : Vv → MM → Prop} (v1 : Int) (v2 : Int) (M : MM) (h : ∀ n1, n1 < n → gIm (decide (0 ≤ v1) && decide (v1 < 10)) (gIm (decide (0 ≤ (mMin v2 (M 4 v1.toNat))) && decide ((mMin v2 (M 4 v1.toNat)) < 61)) (Q (vi (M 17 (mMin v2 (M 4 v1.toNat)).toNat)) M))) : PC sc n m_X10_otherIn [vr 3, vi v1, vi v2] M Q := pc_go rfl (fun j => false) 15 h
theorem pc_X9_after {sc : List Int} {n : Nat} {T : Nat} (hT : T = 57 ∨ T = 61) {Q : Vv → MM → Prop} (v1 : Int) (v2 : Int) (M : MM) (h : ∀ n1, n1 < n → brA (decide (v1 < 0))
  (Q (vi v1) M)
  (brA (decide (64 ≤ v1))
   (Q (vi v1) M)
   (brA (decide (v2 < 0))
    (Q (vi v1) M)
    (brA (decide (v2 < 4))
     (gIm (decide (0 ≤ v2) && decide (v2 < 5)) (gIm (decide (0 ≤ v2) && decide (v2 < 5)) (PC sc n1 m_X11_isIn [vi (w32 ((Int.tmod v1 8) + (([0, 1, 0, -1, 0] : List Int).getD v2.toNat 0))), vi 0, vi 7] M (cI fun r2 M1 =>
      brA (decide (r2 = 0))
       (Q (vi v1) M1)
       (PC sc n1 m_X11_isIn [vi (w32 ((w32 (Int.tdiv v1 8)) + (([1, 0, -1, 0, 0] : List Int).getD v2.toNat 0))), vi 0, vi 7] M1 (cI fun r4 M3 =>
        brA (decide (r4 ≠ 0))
         (PC sc n1 m_X9_isWall [vr T, vi (w32 ((w32 (8 * (w32 ((w32 (Int.tdiv v1 8)) + (([1, 0, -1, 0, 0] : List Int).getD v2.toNat 0))))) + (w32 ((Int.tmod v1 8) + (([0, 1, 0, -1, 0] : List Int).getD v2.toNat 0)))))] M3 (cI fun r6 M5 =>
          brA (decide (r6 = 0))
           (Q (vi (w32 ((w32 (8 * (w32 ((w32 (Int.tdiv v1 8)) + (([1, 0, -1, 0, 0] : List Int).getD v2.toNat 0))))) + (w32 ((Int.tmod v1 8) + (([0, 1, 0, -1, 0] : List Int).getD v2.toNat 0)))))) M5)
           (Q (vi v1) M5)))
         (Q (vi v1) M3)))))))
     (Q (vi v1) M))))) : PC sc n m_X9_after [vr T, vi v1, vi v2] M Q := by
  rcases hT with rfl | rfl <;> exact pc_go rfl (fun j => false) 59 h
theorem pc_X11_hasSpot {sc : List Int} {n : Nat} {Q : Vv → MM → Prop} (v1 : Int) (M : MM) (h : ∀ n1, n1 < n → PC sc n1 m_X11_isHouse [vi v1] M (cI fun r2 M1 =>
  brA (decide (r2 = 0))
   (Q (vi 0) M1)
   (gIm (decide (0 < M1 0 10)) (gIm ((kd YF ((M1 0 10).toNat - 1) == 18) && rfK (FF ((M1 0 10).toNat - 1) 1) (M1 ((M1 0 10).toNat - 1) 1)) (gIm ((kd YF (rfO (FF ((M1 0 10).toNat - 1) 1) (M1 ((M1 0 10).toNat - 1) 1)) == 0) && (decide (0 ≤ v1) && decide (v1 < ln YF (rfO (FF ((M1 0 10).toNat - 1) 1) (M1 ((M1 0 10).toNat - 1) 1))))) (brA (decide ((M1 (rfO (FF ((M1 0 10).toNat - 1) 1) (M1 ((M1 0 10).toNat - 1) 1)) v1.toNat) = ((-1))))
    (Q (vi 0) M1)
    (Q (vi 1) M1))))))) : PC sc n m_X11_hasSpot [vr 0, vi v1] M Q := pc_go rfl (fun j => false) 19 h
theorem pc_X12_meet {sc : List Int} {n : Nat} {Q : Vv → MM → Prop} (v1 : Int) (v2 : Int) (v3 : Int) (M : MM) (h : ∀ n1, n1 < n → PC sc n1 m_X12_hasSpot [vr 81, vi v1] M (cI fun r2 M1 =>
  brA (decide (r2 = 0))
   (Q (vi ((-1))) M1)
   (PC sc n1 m_X12_hasSpot [vr 81, vi v2] M1 (cI fun r4 M3 =>
    brA (decide (r4 = 0))
     (Q (vi ((-1))) M3)
     (brA (decide (v1 = v2))
      (Q (vi ((-1))) M3)
      (PC sc n1 m_X12_in [vi v3, vi 0, vi 2] M3 (cI fun r6 M5 =>
       brA (decide (r6 ≠ 0))
        (gIm (decide (0 ≤ v1) && decide (v1 < 10)) (gIm (decide (0 ≤ v2) && decide (v2 < 10)) (PW sc n1 m_X12_meet 30 [] [some (vr 81), some (vi v1), some (vi v2), some (vi v3), some (vi (M5 86 v1.toNat)), some (vi (M5 86 v2.toNat)), some (vi 1), none, none] M5 Q)))
        (Q (vi ((-1))) M5)))))))) : PC sc n m_X12_meet [vr 81, vi v1, vi v2, vi v3] M Q := pc_go rfl (fun j => Nat.beq j 30 || Nat.beq j 62) 86 h
theorem pw_X12_meet_30 {sc : List Int} {n : Nat} {Q : Vv → MM → Prop} (v1 : Int) (v2 : Int) (v3 : Int) (v4 : Int) (v5 : Int) (v6 : Int) (o7 : Option Vv) (o8 : Option Vv) (M : MM) (h : ∀ n1, n1 < n → gIm (decide (0 ≤ v1) && decide (v1 < 10)) (gIm (decide (0 ≤ v2) && decide (v2 < 10)) (PC sc n1 m_X12_max [vi (M 88 v1.toNat), vi (M 88 v2.toNat)] M (cI fun r2 M1 =>
  brA (decide (r2 < v6))
   (Q (vi ((-2))) M1)
   (PC sc n1 m_X12_goesOn [vr 81, vi v1, vi v4, vi v6] M1 (cI fun r4 M3 =>
    PC sc n1 m_X12_goesOn [vr 81, vi v2, vi v5, vi v6] M3 (cI fun r6 M5 =>
     brA (decide (r4 = r6))
      (PW sc n1 m_X12_meet 62 [] [some (vr 81), some (vi v1), some (vi v2), some (vi v3), some (vi v4), some (vi v5), some (vi v6), some (vi r4), some (vi r6)] M5 Q)
      (brA (decide (r4 ≠ v5))
       (PW sc n1 m_X12_meet 30 [] [some (vr 81), some (vi v1), some (vi v2), some (vi v3), some (vi r4), some (vi r6), some (vi (w32 (v6 + 1))), some (vi r4), some (vi r6)] M5 Q)
       (brA (decide (r6 ≠ v4))
        (PW sc n1 m_X12_meet 30 [] [some (vr 81), some (vi v1), some (vi v2), some (vi v3), some (vi r4), some (vi r6), some (vi (w32 (v6 + 1))), some (vi r4), some (vi r6)] M5 Q)
        (PW sc n1 m_X12_meet 62 [] [some (vr 81), some (vi v1), some (vi v2), some (vi v3), some (vi v4), some (vi v5), some (vi v6), some (vi r4), some (vi r6)] M5 Q)))))))))) : PW sc n m_X12_meet 30 [] [some (vr 81), some (vi v1), some (vi v2), some (vi v3), some (vi v4), some (vi v5), some (vi v6), o7, o8] M Q := pw_go rfl (fun j => Nat.beq j 30 || Nat.beq j 62) 86 h
theorem pw_X12_meet_62 {sc : List Int} {n : Nat} {Q : Vv → MM → Prop} (v1 : Int) (v2 : Int) (v3 : Int) (v4 : Int) (v5 : Int) (v6 : Int) (v7 : Int) (v8 : Int) (M : MM) (h : ∀ n1, n1 < n → brA (decide (v3 ≠ 0))
  (brA (decide (v3 ≠ 1))
   (Q (vi v8) M)
   (Q (vi v7) M))
  (Q (vi v6) M)) : PW sc n m_X12_meet 62 [] [some (vr 81), some (vi v1), some (vi v2), some (vi v3), some (vi v4), some (vi v5), some (vi v6), some (vi v7), some (vi v8)] M Q := pw_go rfl (fun j => Nat.beq j 30 || Nat.beq j 62) 86 h
theorem pc_X12_goesOn {sc : List Int} {n : Nat} {Q : Vv → MM → Prop} (v1 : Int) (v2 : Int) (v3 : Int) (M : MM) (h : ∀ n1, n1 < n → gIm (decide (0 ≤ v1) && decide (v1 < 10)) (brA (decide (v3 ≤ (M 88 v1.toNat)))
  (gIm (decide (0 ≤ (w32 ((w32 ((w32 (60 * v1)) + v3)) - 1))) && decide ((w32 ((w32 ((w32 (60 * v1)) + v3)) - 1)) < 600)) (PC sc n1 m_X12_stepTo [vr 81, vi v2, vi (M 89 (w32 ((w32 ((w32 (60 * v1)) + v3)) - 1)).toNat)] M (cI fun r2 M1 =>
   Q (vi r2) M1)))
  (Q (vi v2) M))) : PC sc n m_X12_goesOn [vr 81, vi v1, vi v2, vi v3] M Q := pc_go rfl (fun j => false) 27 h
theorem pc_X12_stepTo {sc : List Int} {n : Nat} {Q : Vv → MM → Prop} (v1 : Int) (v2 : Int) (M : MM) (h : ∀ n1, n1 < n → PC sc n1 m_X12_beside [vi v1, vi v2] M (cI fun r2 M1 =>
  brA (decide (r2 = ((-1))))
   (Q (vi v1) M1)
   (gIm (decide (0 ≤ r2) && decide (r2 < 64)) (brA (decide ((M1 85 r2.toNat) ≠ 1))
    (Q (vi r2) M1)
    (Q (vi v1) M1))))) : PC sc n m_X12_stepTo [vr 81, vi v1, vi v2] M Q := pc_go rfl (fun j => false) 22 h
theorem pc_X12_hasSpot {sc : List Int} {n : Nat} {Q : Vv → MM → Prop} (v1 : Int) (M : MM) (h : ∀ n1, n1 < n → PC sc n1 m_X12_isTen [vi v1] M (cI fun r2 M1 =>
  brA (decide (r2 = 0))
   (Q (vi 0) M1)
   (gIm (decide (0 ≤ v1) && decide (v1 < 10)) (brA (decide ((M1 86 v1.toNat) < 0))
    (Q (vi 0) M1)
    (Q (vi 1) M1))))) : PC sc n m_X12_hasSpot [vr 81, vi v1] M Q := pc_go rfl (fun j => false) 17 h
theorem pc_X12_max {sc : List Int} {n : Nat} {Q : Vv → MM → Prop} (v0 : Int) (v1 : Int) (M : MM) (h : ∀ n1, n1 < n → brA (decide (v0 ≤ v1))
  (Q (vi v1) M)
  (Q (vi v0) M)) : PC sc n m_X12_max [vi v0, vi v1] M Q := pc_go rfl (fun j => false) 12 h
/- where a step leads -/
def stpV (K : Nat → Int) (s w : Int) : Int := if bes s w = -1 then s else if K (bes s w).toNat = 1 then s else bes s w
theorem bes_q {s w : Int} : bes s w = -1 ∨ (0 ≤ bes s w ∧ bes s w ≤ 63) := by
  unfold bes
  by_cases h : (0 ≤ besX s w ∧ besX s w ≤ 7) ∧ (0 ≤ besY s w ∧ besY s w ≤ 7)
  · rw [if_pos h]
    exact .inr (by omega)
  · rw [if_neg h]
    exact .inl rfl
theorem stpV_r {K : Nat → Int} {s w : Int} (h : 0 ≤ s ∧ s ≤ 63) : 0 ≤ stpV K s w ∧ stpV K s w ≤ 63 := by
  unfold stpV
  have hr := bes_q (s := s) (w := w)
  by_cases h1 : bes s w = -1
  · rw [if_pos h1]
    exact h
  · rw [if_neg h1]
    by_cases h2 : K (bes s w).toNat = 1
    · rw [if_pos h2]
      exact h
    · rw [if_neg h2]
      omega
theorem stpV_K {K K' : Nat → Int} (hK : ∀ j, j < 64 → K j = K' j) (s w : Int) : stpV K s w = stpV K' s w := by
  unfold stpV
  have hr := bes_q (s := s) (w := w)
  by_cases h1 : bes s w = -1
  · rw [if_pos h1, if_pos h1]
  · rw [if_neg h1, if_neg h1, hK _ (by omega)]
theorem stpV_4 {K : Nat → Int} {s : Int} : stpV K s 4 = s := by
  unfold stpV bes besX besY
  rw [if_neg (show ¬ (4 : Int) = 1 by decide), if_neg (show ¬ (4 : Int) = 3 by decide), if_neg (show ¬ (4 : Int) = 0 by decide), if_neg (show ¬ (4 : Int) = 2 by decide)]
  by_cases h : (0 ≤ s % 8 + 0 ∧ s % 8 + 0 ≤ 7) ∧ (0 ≤ s / 8 + 0 ∧ s / 8 + 0 ≤ 7)
  · rw [if_pos h, show 8 * (s / 8 + 0) + (s % 8 + 0) = s by omega]
    split
    · rfl
    · split <;> rfl
  · rw [if_neg h, if_pos rfl]
/- where one is at a minute of the walk -/
def posV (K D : Nat → Int) (sz : Nat) (a : Int) (m : Nat) : Int := match m with
  | 0 => a
  | m + 1 => if m < sz then stpV K (posV K D sz a m) (D m) else posV K D sz a m
theorem posV_s (K D : Nat → Int) (sz : Nat) (a : Int) (m : Nat) : posV K D sz a (m + 1) = if m < sz then stpV K (posV K D sz a m) (D m) else posV K D sz a m := rfl
theorem posV_r {K D : Nat → Int} {sz : Nat} {a : Int} (h : 0 ≤ a ∧ a ≤ 63) : ∀ m, 0 ≤ posV K D sz a m ∧ posV K D sz a m ≤ 63
  | 0 => h
  | m + 1 => by
    rw [posV_s]
    split
    · exact stpV_r (posV_r h m)
    · exact posV_r h m
theorem posV_K {K K' D D' : Nat → Int} {sz : Nat} (hK : ∀ j, j < 64 → K j = K' j) (hD : ∀ j, j < sz → D j = D' j) (a : Int) : ∀ m, posV K D sz a m = posV K' D' sz a m
  | 0 => rfl
  | m + 1 => by
    rw [posV_s, posV_s, posV_K hK hD a m]
    by_cases h : m < sz
    · rw [if_pos h, if_pos h, hD m h, stpV_K hK]
    · rw [if_neg h, if_neg h]
theorem posV_hi {K D : Nat → Int} {sz : Nat} {a : Int} : ∀ m, posV K D sz a (sz + m) = posV K D sz a sz
  | 0 => rfl
  | m + 1 => by
    show posV K D sz a ((sz + m) + 1) = _
    rw [posV_s, if_neg (by omega)]
    exact posV_hi m
theorem posV_min (K D : Nat → Int) (sz : Nat) (a : Int) (m : Nat) : posV K D sz a (if sz < m then sz else m) = posV K D sz a m := by
  by_cases h : sz < m
  · rw [if_pos h, show m = sz + (m - sz) by omega, posV_hi]
  · rw [if_neg h]
abbrev mtP (pa pb : Nat → Int) (t : Nat) : Prop := pa t = pb t ∨ (pa t = pb (t - 1) ∧ pb t = pa (t - 1))
/- the first minute of a meeting, from t on, n minutes at most -/
def mtV (pa pb : Nat → Int) (n t : Nat) : Int := match n with
  | 0 => -2
  | n + 1 => if mtP pa pb t then (t : Int) else mtV pa pb n (t + 1)
theorem mtV_s (pa pb : Nat → Int) (n t : Nat) : mtV pa pb (n + 1) t = if mtP pa pb t then (t : Int) else mtV pa pb n (t + 1) := rfl
theorem mtV_eq {pa pb pa' pb' : Nat → Int} (ha : ∀ m, pa m = pa' m) (hb : ∀ m, pb m = pb' m) (n t : Nat) : mtV pa pb n t = mtV pa' pb' n t := by
  rw [show pa = pa' from funext ha, show pb = pb' from funext hb]
section MTX
variable {sc : List Int} {Q : Vv → MM → Prop} {T : Nat}
set_option maxRecDepth 20000 in
theorem f_after (hT : T = 57 ∨ T = 61) {s w : Int} (hs : 0 ≤ s ∧ s ≤ 63) (hw : 0 ≤ w ∧ w ≤ 4) {n : Nat} {M : MM} (k : Q (vi (stpV (M (T + 1)) s w)) M) : PC sc n m_X9_after [vr T, vi s, vi w] M Q := by
  refine pc_X9_after hT s w M fun n1 _ => brF (by omega) (brF (by omega) (brF (by omega) (brP (fun h4 => gMB (gMB ?_)) fun h4 => ?_)))
  · obtain ⟨wn, hwn⟩ : ∃ wn : Nat, w = (wn : Int) := ⟨w.toNat, by omega⟩
    subst hwn
    have hw4 : wn < 4 := by omega
    have hd := dXY_r wn (by omega)
    have ex : w32 (Int.tmod s 8 + ([0, 1, 0, -1, 0] : List Int).getD ((wn : Int)).toNat 0) = s % 8 + dX wn := by
      rw [show ((wn : Int)).toNat = wn by omega, etmod (by omega)]
      exact ew32 (z := s % 8 + dX wn) (by omega) (by omega)
    have ey : w32 (w32 (Int.tdiv s 8) + ([1, 0, -1, 0, 0] : List Int).getD ((wn : Int)).toNat 0) = s / 8 + dY wn := by
      rw [show ((wn : Int)).toNat = wn by omega, etdiv (by omega) (by omega) (by decide)]
      exact ew32 (z := s / 8 + dY wn) (by omega) (by omega)
    have hb := bes_dXY hw4 (v := s) hs
    rw [ex, ey]
    clear ex ey
    have no : ¬ ((0 ≤ s % 8 + dX wn ∧ s % 8 + dX wn ≤ 7) ∧ (0 ≤ s / 8 + dY wn ∧ s / 8 + dY wn ≤ 7)) → Q (vi s) M := fun z => by
      rw [if_neg z] at hb
      unfold stpV at k
      rw [hb, if_pos rfl] at k
      exact k
    refine p_isIn (fun h z hz => cI_i (brT hz (no fun y => h y.1))) fun h1 z hz => cI_i (brF (by omega) (p_isIn (fun h z hz => cI_i (brF (by omega) (no fun y => h y.2))) fun h2 z hz => cI_i (brT (by omega) ?_)))
    rw [if_pos ⟨h1, h2⟩] at hb
    rw [show w32 (8 * (s / 8 + dY wn)) = 8 * (s / 8 + dY wn) from ew32 (by omega) (by omega), show w32 (8 * (s / 8 + dY wn) + (s % 8 + dX wn)) = bes s wn from (ew32 (by omega) (by omega)).trans hb.symm]
    unfold stpV at k
    rw [if_neg (by omega)] at k
    refine f_isWall hT (fun h z hz => cI_i (brT hz ?_)) fun h z hz => cI_i (brF (by omega) ?_)
    · unfold wl at h
      rw [if_neg (fun y => h (.inr (.inr y)))] at k
      exact k
    · unfold wl at h
      rw [if_pos (by
        rcases h with h | h | h
        · omega
        · omega
        · exact h)] at k
      exact k
  · have e4 : w = 4 := by omega
    subst e4
    rw [stpV_4] at k
    exact k
set_option maxRecDepth 20000 in
theorem f_trace (hT : T = 57 ∨ T = 61) {h v3 : Nat} (hh : h < 10) (hv : v3 = 16 ∨ v3 = 17 ∨ v3 = 36) {sz : Nat} {a : Int} {n : Nat} {M : MM} (ha : 0 ≤ a ∧ a ≤ 63) (e2 : M (T + 2) h = a) (e4 : M 4 h = (sz : Int)) (hsz : sz ≤ 60) (hD : ∀ j, 0 ≤ M (6 + h) j ∧ M (6 + h) j ≤ 4) (k : ∀ M1, (∀ c, c ≠ v3 → M1 c = M c) → (∀ i, i ≤ sz → M1 v3 i = posV (M (T + 1)) (M (6 + h)) sz a i) → Q (vi (sz : Int)) M1) : PC sc n m_X10_trace [vr 3, vr T, vi (h : Int), vr v3] M Q := by
  obtain ⟨f1, f2, f3, f4, f5, f6⟩ := FF5 h hh
  have hT2 : T + 1 ≠ v3 ∧ T + 2 ≠ v3 ∧ 4 ≠ v3 ∧ 6 + h ≠ v3 ∧ 5 ≠ v3 := by omega
  have lp : ∀ (m i n : Nat) (M1 : MM), i + m = sz → (∀ c, c ≠ v3 → M1 c = M c) → (∀ j, j ≤ i → M1 v3 j = posV (M (T + 1)) (M (6 + h)) sz a j) → PW sc n m_X10_trace 9 [] [some (vr 3), some (vr T), some (vi (h : Int)), some (vr v3), some (vi (i : Int))] M1 Q := by
    intro m
    induction m with
    | zero =>
      intro i n M1 hi a1 a2
      have hi : i = sz := hi
      subst hi
      refine pw_X10_trace_9 hT _ _ _ M1 fun n2 _ => gMB ?_
      rw [show ((h : Int)).toNat = h by omega, a1 4 hT2.2.2.1, e4]
      exact brT (Int.le_refl _) (gMB (k M1 a1 a2))
    | succ m ih =>
      intro i n M1 hi a1 a2
      refine pw_X10_trace_9 hT _ _ _ M1 fun n2 _ => gMB ?_
      have hr := posV_r (K := M (T + 1)) (D := M (6 + h)) (sz := sz) ha i
      have e1 : M1 v3 i = posV (M (T + 1)) (M (6 + h)) sz a i := a2 i (Nat.le_refl _)
      rw [show ((h : Int)).toNat = h by omega, show ((i : Int)).toNat = i by omega, a1 4 hT2.2.2.1, e4, e1, f1]
      refine brF (by omega) (gMB (gMB (gMB ?_)))
      show PC sc n2 m_X9_after [vr T, vi (posV (M (T + 1)) (M (6 + h)) sz a i), vi (M1 (h + 6) i)] M1 _
      rw [Nat.add_comm h 6, a1 (6 + h) hT2.2.2.2.1]
      refine f_after hT hr (hD i) (cI_i (gMB ?_))
      rw [show w32 ((i : Int) + 1) = ((i + 1 : Nat) : Int) from ew32 (by omega) (by omega), show (((i + 1 : Nat) : Int)).toNat = i + 1 by omega, a1 (T + 1) hT2.1]
      refine ih (i + 1) n2 _ (by omega) (fun c hc => (stK hc).trans (a1 c hc)) fun j hj => ?_
      by_cases e : j = i + 1
      · subst e
        rw [stE, posV_s, if_pos (by omega)]
      · rw [stO e]
        exact a2 j (by omega)
  refine pc_X10_trace hT _ _ M fun n1 _ => gMB (gMB ?_)
  rw [show ((h : Int)).toNat = h by omega, e2]
  refine lp sz 0 n1 _ (Nat.zero_add _) (fun c hc => stK hc) fun j hj => ?_
  have hj : j = 0 := by omega
  subst hj
  exact stE
end MTX
section MTY
variable {sc : List Int} {Q : Vv → MM → Prop} {T : Nat}
set_option maxRecDepth 20000 in
theorem f_hasSpotC (hT : T = 57 ∨ T = 61) {h : Int} {n : Nat} {M : MM} (e10 : M 0 10 = (T : Int) + 1) (k0 : ¬ ((0 ≤ h ∧ h ≤ 9) ∧ M (T + 2) h.toNat ≠ -1) → ∀ x : Int, x = 0 → Q (vi x) M) (k1 : (0 ≤ h ∧ h ≤ 9) ∧ M (T + 2) h.toNat ≠ -1 → ∀ x : Int, x = 1 → Q (vi x) M) : PC sc n m_X11_hasSpot [vr 0, vi h] M Q := by
  have hr : ∀ x, rfO (FF T 1) x = T + 2 := fun x => by rcases hT with e | e <;> (subst e; rfl)
  refine pc_X11_hasSpot h M fun n1 _ => p_isHouse (fun g x hx => cI_i (brT hx (k0 (fun z => g z.1) 0 rfl))) fun g x hx => cI_i (brF (by omega) ?_)
  rw [e10, show ((T : Int) + 1).toNat - 1 = T by omega, hr]
  exact gMB (gMB (gMB (brP (fun q => k0 (fun z => z.2 q) 0 rfl) fun q => k1 ⟨g, q⟩ 1 rfl)))
set_option maxRecDepth 20000 in
theorem f_hasSpotM {h : Int} {n : Nat} {M : MM} (k0 : ¬ ((0 ≤ h ∧ h ≤ 9) ∧ 0 ≤ M 86 h.toNat) → ∀ x : Int, x = 0 → Q (vi x) M) (k1 : (0 ≤ h ∧ h ≤ 9) ∧ 0 ≤ M 86 h.toNat → ∀ x : Int, x = 1 → Q (vi x) M) : PC sc n m_X12_hasSpot [vr 81, vi h] M Q := pc_X12_hasSpot h M fun n1 _ => p_isTen (fun g x hx => cI_i (brT hx (k0 (fun z => g z.1) 0 rfl))) fun g x hx => cI_i (brF (by omega) (gMB (brP (fun q => k0 (fun z => by omega) 0 rfl) fun q => k1 ⟨g, by omega⟩ 1 rfl)))
/- MEET's answer out of the two ways -/
def mtA (pa pb : Nat → Int) (over : Nat) (what : Int) : Int := if mtV pa pb over 1 = -2 ∨ what = 0 then mtV pa pb over 1 else if what = 1 then pa (mtV pa pb over 1).toNat else pb (mtV pa pb over 1).toNat
theorem mtV_r (pa pb : Nat → Int) : ∀ n t : Nat, mtV pa pb n t = -2 ∨ ((t : Int) ≤ mtV pa pb n t ∧ mtV pa pb n t < (t : Int) + n)
  | 0, _ => .inl rfl
  | n + 1, t => by
    rw [mtV_s]
    by_cases h : mtP pa pb t
    · rw [if_pos h]
      exact .inr (by omega)
    · rw [if_neg h]
      rcases mtV_r pa pb n (t + 1) with q | q
      · exact .inl q
      · exact .inr (by omega)
set_option maxRecDepth 20000 in
theorem f_meetingC (hT : T = 57 ∨ T = 61) {h j : Nat} (hh : h < 10) (hj : j < 10) {sa sb : Nat} {a b : Int} {n : Nat} {M : MM} (ha : 0 ≤ a ∧ a ≤ 63) (hb : 0 ≤ b ∧ b ≤ 63) (hab : a ≠ b) (ea : M (T + 2) h = a) (eb : M (T + 2) j = b) (la : M 4 h = (sa : Int)) (lb : M 4 j = (sb : Int)) (hsa : sa ≤ 60) (hsb : sb ≤ 60) (hDa : ∀ i, 0 ≤ M (6 + h) i ∧ M (6 + h) i ≤ 4) (hDb : ∀ i, 0 ≤ M (6 + j) i ∧ M (6 + j) i ≤ 4) (k : ∀ M1, M1 4 = M 4 → (∀ i, i ≤ sa → M1 16 i = posV (M (T + 1)) (M (6 + h)) sa a i) → (∀ i, i ≤ sb → M1 17 i = posV (M (T + 1)) (M (6 + j)) sb b i) → Q (vi (mtV (posV (M (T + 1)) (M (6 + h)) sa a) (posV (M (T + 1)) (M (6 + j)) sb b) (max sa sb) 1)) M1) : PC sc n m_X10_meeting [vr 3, vr T, vi (h : Int), vi (j : Int)] M Q := by
  refine pc_X10_meeting hT _ _ M fun n1 _ => f_trace hT hh (.inl rfl) ha ea la hsa hDa fun M1 f1 p1 => cI_i (f_trace hT hj (.inr (.inl rfl)) hb (by rw [f1 (T + 2) (by omega)]; exact eb) (by rw [f1 4 (by decide)]; exact lb) hsb (by rw [f1 (6 + j) (by omega)]; exact hDb) fun M2 f2 p2 => cI_i ?_)
  rw [f1 (T + 1) (by omega), f1 (6 + j) (by omega)] at p2
  have p1 : ∀ i, i ≤ sa → M2 16 i = posV (M (T + 1)) (M (6 + h)) sa a i := fun i hi => by
    rw [f2 16 (by decide)]
    exact p1 i hi
  have e4 : M2 4 = M 4 := (f2 4 (by decide)).trans (f1 4 (by decide))
  have K := k M2 e4 p1 p2
  clear k f1 f2
  obtain ⟨pa, hpa⟩ : ∃ pa, pa = posV (M (T + 1)) (M (6 + h)) sa a := ⟨_, rfl⟩
  obtain ⟨pb, hpb⟩ : ∃ pb, pb = posV (M (T + 1)) (M (6 + j)) sb b := ⟨_, rfl⟩
  have one : ∀ (Q : Vv → MM → Prop) (n m : Nat), (∀ x : Int, x = pa m → Q (vi x) M2) → PC sc n m_X10_oneIn [vr 3, vi (h : Int), vi (m : Int)] M2 Q := fun Q n m k => by
    refine pc_X10_oneIn _ _ M2 fun n2 _ => ?_
    rw [show ((h : Int)).toNat = h by omega, e4, la, show mMin (m : Int) (sa : Int) = ((if sa < m then sa else m : Nat) : Int) by unfold mMin; split <;> split <;> omega]
    refine gMB (gMB (k _ ?_))
    rw [show ((((if sa < m then sa else m : Nat) : Nat) : Int)).toNat = (if sa < m then sa else m : Nat) by omega, p1 _ (by split <;> omega), posV_min, hpa]
  have two : ∀ (Q : Vv → MM → Prop) (n m : Nat), (∀ x : Int, x = pb m → Q (vi x) M2) → PC sc n m_X10_otherIn [vr 3, vi (j : Int), vi (m : Int)] M2 Q := fun Q n m k => by
    refine pc_X10_otherIn _ _ M2 fun n2 _ => ?_
    rw [show ((j : Int)).toNat = j by omega, e4, lb, show mMin (m : Int) (sb : Int) = ((if sb < m then sb else m : Nat) : Int) by unfold mMin; split <;> split <;> omega]
    refine gMB (gMB (k _ ?_))
    rw [show ((((if sb < m then sb else m : Nat) : Nat) : Int)).toNat = (if sb < m then sb else m : Nat) by omega, p2 _ (by split <;> omega), posV_min, hpb]
  rw [← hpa, ← hpb] at K
  have hm : mMax (sa : Int) (sb : Int) = ((max sa sb : Nat) : Int) := by
    unfold mMax
    split <;> omega
  rw [hm]
  have lp : ∀ (m t n : Nat) (o6 o7 : Option Vv), t + m = max sa sb + 1 → 1 ≤ t → Q (vi (mtV pa pb m t)) M2 → PW sc n m_X10_meeting 16 [] [some (vr 3), some (vr T), some (vi (h : Int)), some (vi (j : Int)), some (vi ((max sa sb : Nat) : Int)), some (vi (t : Int)), o6, o7] M2 Q := by
    intro m
    induction m with
    | zero =>
      intro t n o6 o7 ht h1 K
      exact pw_X10_meeting_16 hT _ _ _ _ o6 o7 M2 fun n2 _ => brT (by omega) K
    | succ m ih =>
      intro t n o6 o7 ht h1 K
      rw [mtV_s] at K
      refine pw_X10_meeting_16 hT _ _ _ _ o6 o7 M2 fun n2 _ => brF (by omega) (one _ _ _ fun x hx => cI_i (two _ _ _ fun y hy => cI_i (brP (fun hne => brF (by omega) ?_) fun heq => ?_)))
      · rw [show w32 ((t : Int) - 1) = ((t - 1 : Nat) : Int) from (ew32 (by omega) (by omega)).trans (by omega), show w32 ((t : Int) + 1) = ((t + 1 : Nat) : Int) from ew32 (by omega) (by omega)]
        refine two _ _ _ fun z hz => cI_i (brP (fun g => ?_) fun g => one _ _ _ fun u hu => cI_i (brP (fun g2 => ?_) fun g2 => ?_))
        · rw [if_neg (fun y => by
            rcases y with y | y
            · exact hne (by rw [hx, hy]; exact y)
            · exact g (by rw [hx, hz]; exact y.1))] at K
          exact ih (t + 1) n2 _ _ (by omega) (by omega) K
        · rw [if_neg (fun y => by
            rcases y with y | y
            · exact hne (by rw [hx, hy]; exact y)
            · exact g2 (by rw [hy, hu]; exact y.2))] at K
          exact ih (t + 1) n2 _ _ (by omega) (by omega) K
        · rw [if_pos (.inr ⟨by rw [← hx, ← hz]; exact Classical.not_not.mp g, by rw [← hy, ← hu]; exact Classical.not_not.mp g2⟩)] at K
          exact K
      · rw [if_pos (.inl (by rw [← hx, ← hy]; exact Classical.not_not.mp heq))] at K
        exact K
  refine pw_X10_meeting_16 hT _ _ _ _ _ _ M2 fun n2 _ => brF (by omega) ?_
  rw [show (0 : Int) = ((0 : Nat) : Int) from rfl]
  refine one _ _ _ fun x hx => cI_i (two _ _ _ fun y hy => cI_i (brT (fun z => hab ?_) (brT (Int.le_refl _) ?_)))
  · have z1 : pa 0 = a := by rw [hpa]; rfl
    have z2 : pb 0 = b := by rw [hpb]; rfl
    omega
  · rw [show w32 (((0 : Nat) : Int) + 1) = ((1 : Nat) : Int) from ew32 (by omega) (by omega)]
    exact lp (max sa sb) 1 n2 _ _ (by omega) (by omega) K
set_option maxRecDepth 20000 in
theorem f_meetC (hT : T = 57 ∨ T = 61) {h j w : Int} {n : Nat} {M : MM} (e10 : M 0 10 = (T : Int) + 1) (hr : ∀ i, -1 ≤ M (T + 2) i ∧ M (T + 2) i ≤ 63) (h4 : ∀ i, 0 ≤ M 4 i ∧ M 4 i ≤ 60) (hD : ∀ g, g < 10 → ∀ i, 0 ≤ M (6 + g) i ∧ M (6 + g) i ≤ 4) (hne : ∀ g g' : Nat, g < 10 → g' < 10 → g ≠ g' → M (T + 2) g ≠ -1 → M (T + 2) g ≠ M (T + 2) g') (k0 : ¬ (((0 ≤ h ∧ h ≤ 9) ∧ M (T + 2) h.toNat ≠ -1) ∧ ((0 ≤ j ∧ j ≤ 9) ∧ M (T + 2) j.toNat ≠ -1) ∧ h ≠ j ∧ (0 ≤ w ∧ w ≤ 2)) → ∀ M1, Q (vi (-1)) M1) (k1 : (((0 ≤ h ∧ h ≤ 9) ∧ M (T + 2) h.toNat ≠ -1) ∧ ((0 ≤ j ∧ j ≤ 9) ∧ M (T + 2) j.toNat ≠ -1) ∧ h ≠ j ∧ (0 ≤ w ∧ w ≤ 2)) → ∀ M1, Q (vi (mtA (posV (M (T + 1)) (M (6 + h.toNat)) (M 4 h.toNat).toNat (M (T + 2) h.toNat)) (posV (M (T + 1)) (M (6 + j.toNat)) (M 4 j.toNat).toNat (M (T + 2) j.toNat)) (max (M 4 h.toNat).toNat (M 4 j.toNat).toNat) w)) M1) : PC sc n m_X11_meet [vr 0, vi h, vi j, vi w] M Q := by
  refine pc_X11_meet h j w M fun n1 _ => f_hasSpotC hT e10 (fun g x hx => cI_i (brT hx (k0 (fun z => g z.1) _))) fun g1 x hx => cI_i (brF (by omega) (f_hasSpotC hT e10 (fun g x hx => cI_i (brT hx (k0 (fun z => g z.2.1) _))) fun g2 x hx => cI_i (brF (by omega) (brP (fun g => k0 (fun z => z.2.2.1 g) _) fun g3 => p_isIn (fun g x hx => cI_i (brF (by omega) (k0 (fun z => g z.2.2.2) _))) fun g4 x hx => cI_i (brT (by omega) ?_)))))
  have K := k1 ⟨g1, g2, g3, g4⟩
  clear k0 k1
  obtain ⟨hn, hhn⟩ : ∃ hn : Nat, h = (hn : Int) := ⟨h.toNat, by omega⟩
  obtain ⟨jn, hjn⟩ : ∃ jn : Nat, j = (jn : Int) := ⟨j.toNat, by omega⟩
  subst hhn hjn
  rw [show ((hn : Int)).toNat = hn by omega, show ((jn : Int)).toNat = jn by omega] at K
  rw [show ((hn : Int)).toNat = hn by omega] at g1
  rw [show ((jn : Int)).toNat = jn by omega] at g2
  have ra := hr hn
  have rb := hr jn
  have l1 := h4 hn
  have l2 := h4 jn
  rw [e10, show ((T : Int) + 1).toNat - 1 = T by omega]
  refine gMB (f_meetingC hT (by omega) (by omega) (a := M (T + 2) hn) (b := M (T + 2) jn) (sa := (M 4 hn).toNat) (sb := (M 4 jn).toNat) (by omega) (by omega) (hne hn jn (by omega) (by omega) (by omega) g1.2) rfl rfl (by omega) (by omega) (by omega) (by omega) (hD hn (by omega)) (hD jn (by omega)) fun M1 e4 p1 p2 => cI_i ?_)
  obtain ⟨pa, hpa⟩ : ∃ pa, pa = posV (M (T + 1)) (M (6 + hn)) (M 4 hn).toNat (M (T + 2) hn) := ⟨_, rfl⟩
  obtain ⟨pb, hpb⟩ : ∃ pb, pb = posV (M (T + 1)) (M (6 + jn)) (M 4 jn).toNat (M (T + 2) jn) := ⟨_, rfl⟩
  have q1 : ∀ m, posV (M (T + 1)) (M (6 + hn)) (M 4 hn).toNat (M (T + 2) hn) (if (M 4 hn).toNat < m then (M 4 hn).toNat else m) = pa m := fun m => by rw [posV_min, hpa]
  have q2 : ∀ m, posV (M (T + 1)) (M (6 + jn)) (M 4 jn).toNat (M (T + 2) jn) (if (M 4 jn).toNat < m then (M 4 jn).toNat else m) = pb m := fun m => by rw [posV_min, hpb]
  rw [← hpa, ← hpb] at K ⊢
  have K := K M1
  have hmr := mtV_r pa pb (max (M 4 hn).toNat (M 4 jn).toNat) 1
  unfold mtA at K
  refine brP (fun g => ?_) fun g => ?_
  · rw [if_pos (.inl g)] at K
    exact K
  · obtain ⟨tm, htm⟩ : ∃ tm : Nat, mtV pa pb (max (M 4 hn).toNat (M 4 jn).toNat) 1 = (tm : Int) := ⟨(mtV pa pb (max (M 4 hn).toNat (M 4 jn).toNat) 1).toNat, by omega⟩
    rw [htm] at K g ⊢
    rw [show ((tm : Int)).toNat = tm by omega] at K
    refine brP (fun gw => brP (fun gw2 => ?_) fun gw2 => ?_) fun gw => ?_
    · rw [if_neg (by omega), if_neg gw2] at K
      refine pc_X10_otherIn _ _ M1 fun n2 _ => ?_
      rw [show ((jn : Int)).toNat = jn by omega, e4, show mMin (tm : Int) (M 4 jn) = ((if (M 4 jn).toNat < tm then (M 4 jn).toNat else tm : Nat) : Int) by unfold mMin; split <;> split <;> omega]
      refine gMB (gMB (cI_i ?_))
      rw [show ((((if (M 4 jn).toNat < tm then (M 4 jn).toNat else tm : Nat) : Nat) : Int)).toNat = (if (M 4 jn).toNat < tm then (M 4 jn).toNat else tm : Nat) by omega, p2 _ (by split <;> omega), q2]
      exact K
    · rw [if_neg (by omega), if_pos (by omega)] at K
      refine pc_X10_oneIn _ _ M1 fun n2 _ => ?_
      rw [show ((hn : Int)).toNat = hn by omega, e4, show mMin (tm : Int) (M 4 hn) = ((if (M 4 hn).toNat < tm then (M 4 hn).toNat else tm : Nat) : Int) by unfold mMin; split <;> split <;> omega]
      refine gMB (gMB (cI_i ?_))
      rw [show ((((if (M 4 hn).toNat < tm then (M 4 hn).toNat else tm : Nat) : Nat) : Int)).toNat = (if (M 4 hn).toNat < tm then (M 4 hn).toNat else tm : Nat) by omega, p1 _ (by split <;> omega), q1]
      exact K
    · rw [if_pos (.inr (by omega))] at K
      exact K
/-! the reference -/
set_option maxRecDepth 20000 in
theorem p_stepTo {s w : Int} {n : Nat} {M : MM} (hs : 0 ≤ s ∧ s ≤ 63) (k : Q (vi (stpV (M 85) s w)) M) : PC sc n m_X12_stepTo [vr 81, vi s, vi w] M Q := by
  unfold stpV at k
  refine pc_X12_stepTo s w M fun n1 _ => p_beside hs (cI_i (brP (fun g => ?_) fun g => gMB (brP (fun g2 => ?_) fun g2 => ?_)))
  · rw [if_pos g] at k
    exact k
  · rw [if_neg g, if_neg g2] at k
    exact k
  · rw [if_neg g, if_pos (Classical.not_not.mp g2)] at k
    exact k
set_option maxRecDepth 20000 in
theorem p_goesOn {h m sz : Nat} {s : Int} {D : Nat → Int} {n : Nat} {M : MM} (hh : h < 10) (hm : 1 ≤ m ∧ m ≤ 60) (hs : 0 ≤ s ∧ s ≤ 63) (e88 : M 88 h = (sz : Int)) (hsz : sz ≤ 60) (hD : D = fun i => M 89 (60 * h + i)) (k : Q (vi (if m - 1 < sz then stpV (M 85) s (D (m - 1)) else s)) M) : PC sc n m_X12_goesOn [vr 81, vi (h : Int), vi s, vi (m : Int)] M Q := by
  refine pc_X12_goesOn _ s _ M fun n1 _ => gMB ?_
  rw [show ((h : Int)).toNat = h by omega, e88, show w32 (60 * (h : Int)) = 60 * (h : Int) from ew32 (by omega) (by omega), show w32 (60 * (h : Int) + (m : Int)) = 60 * (h : Int) + (m : Int) from ew32 (by omega) (by omega), show w32 (60 * (h : Int) + (m : Int) - 1) = 60 * (h : Int) + (m : Int) - 1 from ew32 (by omega) (by omega), show (60 * (h : Int) + (m : Int) - 1).toNat = 60 * h + (m - 1) by omega]
  refine brP (fun g => gMB (p_stepTo hs (cI_i ?_))) fun g => ?_
  · rw [if_pos (by omega), hD] at k
    exact k
  · rw [if_neg (by omega)] at k
    exact k
set_option maxRecDepth 20000 in
theorem f_meetM {h j w : Int} {n : Nat} {M : MM} (hr : ∀ i, M 86 i ≤ 63) (h88 : ∀ i, 0 ≤ M 88 i ∧ M 88 i ≤ 60) (k0 : ¬ (((0 ≤ h ∧ h ≤ 9) ∧ 0 ≤ M 86 h.toNat) ∧ ((0 ≤ j ∧ j ≤ 9) ∧ 0 ≤ M 86 j.toNat) ∧ h ≠ j ∧ (0 ≤ w ∧ w ≤ 2)) → Q (vi (-1)) M) (k1 : (((0 ≤ h ∧ h ≤ 9) ∧ 0 ≤ M 86 h.toNat) ∧ ((0 ≤ j ∧ j ≤ 9) ∧ 0 ≤ M 86 j.toNat) ∧ h ≠ j ∧ (0 ≤ w ∧ w ≤ 2)) → Q (vi (mtA (posV (M 85) (fun i => M 89 (60 * h.toNat + i)) (M 88 h.toNat).toNat (M 86 h.toNat)) (posV (M 85) (fun i => M 89 (60 * j.toNat + i)) (M 88 j.toNat).toNat (M 86 j.toNat)) (max (M 88 h.toNat).toNat (M 88 j.toNat).toNat) w)) M) : PC sc n m_X12_meet [vr 81, vi h, vi j, vi w] M Q := by
  refine pc_X12_meet h j w M fun n1 _ => f_hasSpotM (fun g x hx => cI_i (brT hx (k0 (fun z => g z.1)))) fun g1 x hx => cI_i (brF (by omega) (f_hasSpotM (fun g x hx => cI_i (brT hx (k0 (fun z => g z.2.1)))) fun g2 x hx => cI_i (brF (by omega) (brP (fun g => k0 (fun z => z.2.2.1 g)) fun g3 => p_in (fun g x hx => cI_i (brF (by omega) (k0 (fun z => g z.2.2.2)))) fun g4 x hx => cI_i (brT (by omega) (gMB (gMB ?_)))))))
  have K := k1 ⟨g1, g2, g3, g4⟩
  clear k0 k1
  obtain ⟨hn, hhn⟩ : ∃ hn : Nat, h = (hn : Int) := ⟨h.toNat, by omega⟩
  obtain ⟨jn, hjn⟩ : ∃ jn : Nat, j = (jn : Int) := ⟨j.toNat, by omega⟩
  subst hhn hjn
  rw [show ((hn : Int)).toNat = hn by omega, show ((jn : Int)).toNat = jn by omega] at K ⊢
  rw [show ((hn : Int)).toNat = hn by omega] at g1
  rw [show ((jn : Int)).toNat = jn by omega] at g2
  have ra := hr hn
  have rb := hr jn
  have l1 := h88 hn
  have l2 := h88 jn
  obtain ⟨pa, hpa⟩ : ∃ pa, pa = posV (M 85) (fun i => M 89 (60 * hn + i)) (M 88 hn).toNat (M 86 hn) := ⟨_, rfl⟩
  obtain ⟨pb, hpb⟩ : ∃ pb, pb = posV (M 85) (fun i => M 89 (60 * jn + i)) (M 88 jn).toNat (M 86 jn) := ⟨_, rfl⟩
  have ha : ∀ m, 0 ≤ pa m ∧ pa m ≤ 63 := fun m => by rw [hpa]; exact posV_r (by omega) m
  have hb : ∀ m, 0 ≤ pb m ∧ pb m ≤ 63 := fun m => by rw [hpb]; exact posV_r (by omega) m
  have sa : ∀ m, 1 ≤ m → pa m = (if m - 1 < (M 88 hn).toNat then stpV (M 85) (pa (m - 1)) ((fun i => M 89 (60 * hn + i)) (m - 1)) else pa (m - 1)) := fun m hm => by
    obtain ⟨m', e⟩ : ∃ m', m = m' + 1 := ⟨m - 1, by omega⟩
    subst e
    rw [hpa]
    exact posV_s _ _ _ _ _
  have sb : ∀ m, 1 ≤ m → pb m = (if m - 1 < (M 88 jn).toNat then stpV (M 85) (pb (m - 1)) ((fun i => M 89 (60 * jn + i)) (m - 1)) else pb (m - 1)) := fun m hm => by
    obtain ⟨m', e⟩ : ∃ m', m = m' + 1 := ⟨m - 1, by omega⟩
    subst e
    rw [hpb]
    exact posV_s _ _ _ _ _
  have za : pa 0 = M 86 hn := by rw [hpa]; rfl
  have zb : pb 0 = M 86 jn := by rw [hpb]; rfl
  rw [← hpa, ← hpb] at K
  rw [← za, ← zb]
  obtain ⟨ov, hov⟩ : ∃ ov, ov = max (M 88 hn).toNat (M 88 jn).toNat := ⟨_, rfl⟩
  rw [← hov] at K
  have lp : ∀ (m t n : Nat) (o7 o8 : Option Vv), t + m = ov + 1 → 1 ≤ t → mtV pa pb ov 1 = mtV pa pb m t → PW sc n m_X12_meet 30 [] [some (vr 81), some (vi (hn : Int)), some (vi (jn : Int)), some (vi w), some (vi (pa (t - 1))), some (vi (pb (t - 1))), some (vi (t : Int)), o7, o8] M Q := by
    intro m
    induction m with
    | zero =>
      intro t n o7 o8 ht h1 e
      refine pw_X12_meet_30 _ _ _ _ _ _ o7 o8 M fun n2 _ => gMB (gMB (pc_X12_max _ _ M fun n3 _ => ?_))
      have e : mtV pa pb ov 1 = -2 := e
      unfold mtA at K
      rw [if_pos (.inl e), e] at K
      rw [show ((hn : Int)).toNat = hn by omega, show ((jn : Int)).toNat = jn by omega]
      exact brP (fun g => cI_i (brT (by omega) K)) fun g => cI_i (brT (by omega) K)
    | succ m ih =>
      intro t n o7 o8 ht h1 e
      rw [mtV_s] at e
      have hm : ∀ n', PW sc n' m_X12_meet 62 [] [some (vr 81), some (vi (hn : Int)), some (vi (jn : Int)), some (vi w), some (vi (pa (t - 1))), some (vi (pb (t - 1))), some (vi (t : Int)), some (vi (pa t)), some (vi (pb t))] M Q ∨ ¬ mtP pa pb t := fun n' => by
        by_cases g : mtP pa pb t
        · rw [if_pos g] at e
          unfold mtA at K
          rw [e, show ((t : Int)).toNat = t by omega] at K
          refine .inl (pw_X12_meet_62 _ _ _ _ _ _ _ _ M fun n3 _ => brP (fun gw => brP (fun gw2 => ?_) fun gw2 => ?_) fun gw => ?_)
          · rw [if_neg (by omega), if_neg gw2] at K
            exact K
          · rw [if_neg (by omega), if_pos (by omega)] at K
            exact K
          · rw [if_pos (.inr (by omega))] at K
            exact K
        · exact .inr g
      have nx : ¬ mtP pa pb t → ∀ n', PW sc n' m_X12_meet 30 [] [some (vr 81), some (vi (hn : Int)), some (vi (jn : Int)), some (vi w), some (vi (pa t)), some (vi (pb t)), some (vi ((t + 1 : Nat) : Int)), some (vi (pa t)), some (vi (pb t))] M Q := fun g n' => by
        rw [if_neg g] at e
        exact ih (t + 1) n' _ _ (by omega) (by omega) e
      have go : ∀ n' : Nat, PC sc n' m_X12_goesOn [vr 81, vi (hn : Int), vi (pa (t - 1)), vi (t : Int)] M (cI fun r4 M3 => PC sc n' m_X12_goesOn [vr 81, vi (jn : Int), vi (pb (t - 1)), vi (t : Int)] M3 (cI fun r6 M5 => brA (decide (r4 = r6)) (PW sc n' m_X12_meet 62 [] [some (vr 81), some (vi (hn : Int)), some (vi (jn : Int)), some (vi w), some (vi (pa (t - 1))), some (vi (pb (t - 1))), some (vi (t : Int)), some (vi r4), some (vi r6)] M5 Q) (brA (decide (r4 ≠ pb (t - 1))) (PW sc n' m_X12_meet 30 [] [some (vr 81), some (vi (hn : Int)), some (vi (jn : Int)), some (vi w), some (vi r4), some (vi r6), some (vi (w32 ((t : Int) + 1))), some (vi r4), some (vi r6)] M5 Q) (brA (decide (r6 ≠ pa (t - 1))) (PW sc n' m_X12_meet 30 [] [some (vr 81), some (vi (hn : Int)), some (vi (jn : Int)), some (vi w), some (vi r4), some (vi r6), some (vi (w32 ((t : Int) + 1))), some (vi r4), some (vi r6)] M5 Q) (PW sc n' m_X12_meet 62 [] [some (vr 81), some (vi (hn : Int)), some (vi (jn : Int)), some (vi w), some (vi (pa (t - 1))), some (vi (pb (t - 1))), some (vi (t : Int)), some (vi r4), some (vi r6)] M5 Q))))) := fun n' => by
        refine p_goesOn (sz := (M 88 hn).toNat) (by omega) (by omega) (ha _) (by omega) (by omega) rfl (cI_i ?_)
        rw [← sa t h1]
        refine p_goesOn (sz := (M 88 jn).toNat) (by omega) (by omega) (hb _) (by omega) (by omega) rfl (cI_i ?_)
        rw [← sb t h1, show w32 ((t : Int) + 1) = ((t + 1 : Nat) : Int) from ew32 (by omega) (by omega)]
        refine brP (fun g => (hm n').resolve_right fun z => z (.inl g)) fun g => brP (fun g2 => nx (fun z => ?_) n') fun g2 => brP (fun g3 => nx (fun z => ?_) n') fun g3 => (hm n').resolve_right fun z => z (.inr ⟨Classical.not_not.mp g2, Classical.not_not.mp g3⟩)
        · rcases z with z | z
          · exact g z
          · exact g2 z.1
        · rcases z with z | z
          · exact g z
          · exact g3 z.2
      refine pw_X12_meet_30 _ _ _ _ _ _ o7 o8 M fun n2 _ => gMB (gMB (pc_X12_max _ _ M fun n3 _ => ?_))
      rw [show ((hn : Int)).toNat = hn by omega, show ((jn : Int)).toNat = jn by omega]
      exact brP (fun g => cI_i (brF (by omega) (go n2))) fun g => cI_i (brF (by omega) (go n2))
  exact lp ov 1 n1 none none (by omega) (Nat.le_refl _) rfl
end MTY
