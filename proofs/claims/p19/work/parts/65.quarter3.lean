/-! PART 65: QUARTER: the reference -/
theorem pc_X12_quarter {sc : List Int} {n : Nat} {Q : Vv → MM → Prop} (v1 : Int) (M : MM) (h : ∀ n1, n1 < n → PC sc n1 m_X12_in [vi v1, vi 1, vi 120] M (cI fun r2 M1 =>
  brA (decide (r2 = 0))
   (Q (vi ((-1))) M1)
   (brA (decide (v1 ≤ (M1 81 10)))
    (PW sc n1 m_X12_quarter 19 [] [some (vr 81), some (vi v1), some (vi 0), none, none] (stM (stM M1 81 11 0) 81 12 v1) Q)
    (Q (vi ((-1))) M1)))) : PC sc n m_X12_quarter [vr 81, vi v1] M Q := pc_go rfl (fun j => Nat.beq j 19 || Nat.beq j 35 || Nat.beq j 54 || Nat.beq j 67 || Nat.beq j 79 || Nat.beq j 94 || Nat.beq j 120) 161 h
theorem pw_X12_quarter_19 {sc : List Int} {n : Nat} {Q : Vv → MM → Prop} (v1 : Int) (v2 : Int) (o3 : Option Vv) (o4 : Option Vv) (M : MM) (h : ∀ n1, n1 < n → brA (decide (10 ≤ v2))
  (PC sc n1 m_X12_readsRow [vr 81, vi 0] M (cI fun r2 M1 =>
   PW sc n1 m_X12_quarter 35 [] [some (vr 81), some (vi v1), some (vi r2), some (vi 1), o4] M1 Q))
  (gIm (decide (0 ≤ v2) && decide (v2 < 10)) (PW sc n1 m_X12_quarter 19 [] [some (vr 81), some (vi v1), some (vi (w32 (v2 + 1))), o3, o4] (stM M 103 (v2.toNat) ((-2))) Q))) : PW sc n m_X12_quarter 19 [] [some (vr 81), some (vi v1), some (vi v2), o3, o4] M Q := pw_go rfl (fun j => Nat.beq j 19 || Nat.beq j 35 || Nat.beq j 54 || Nat.beq j 67 || Nat.beq j 79 || Nat.beq j 94 || Nat.beq j 120) 161 h
theorem pw_X12_quarter_35 {sc : List Int} {n : Nat} {Q : Vv → MM → Prop} (v1 : Int) (v2 : Int) (v3 : Int) (o4 : Option Vv) (M : MM) (h : ∀ n1, n1 < n → brA (decide (8 ≤ v3))
  (PW sc n1 m_X12_quarter 54 [] [some (vr 81), some (vi v1), some (vi v2), some (vi v3), o4] M Q)
  (brA (decide (v2 = 0))
   (PW sc n1 m_X12_quarter 54 [] [some (vr 81), some (vi v1), some (vi v2), some (vi v3), o4] M Q)
   (PC sc n1 m_X12_takes [vr 81, vi 47] M (cI fun r2 M1 =>
    brA (decide (r2 = 0))
     (PW sc n1 m_X12_quarter 35 [] [some (vr 81), some (vi v1), some (vi 0), some (vi (w32 (v3 + 1))), o4] M1 Q)
     (PC sc n1 m_X12_readsRow [vr 81, vi v3] M1 (cI fun r4 M3 =>
      brA (decide (r4 = 0))
       (PW sc n1 m_X12_quarter 35 [] [some (vr 81), some (vi v1), some (vi 0), some (vi (w32 (v3 + 1))), o4] M3 Q)
       (PW sc n1 m_X12_quarter 35 [] [some (vr 81), some (vi v1), some (vi 1), some (vi (w32 (v3 + 1))), o4] M3 Q))))))) : PW sc n m_X12_quarter 35 [] [some (vr 81), some (vi v1), some (vi v2), some (vi v3), o4] M Q := pw_go rfl (fun j => Nat.beq j 19 || Nat.beq j 35 || Nat.beq j 54 || Nat.beq j 67 || Nat.beq j 79 || Nat.beq j 94 || Nat.beq j 120) 161 h
theorem pw_X12_quarter_54 {sc : List Int} {n : Nat} {Q : Vv → MM → Prop} (v1 : Int) (v2 : Int) (v3 : Int) (o4 : Option Vv) (M : MM) (h : ∀ n1, n1 < n → brA (decide (v2 = 0))
  (PW sc n1 m_X12_quarter 67 [] [some (vr 81), some (vi v1), some (vi v2), some (vi v3), o4] M Q)
  (brA (decide ((M 81 12) ≤ (M 81 11)))
   (PW sc n1 m_X12_quarter 67 [] [some (vr 81), some (vi v1), some (vi v2), some (vi v3), o4] M Q)
   (PC sc n1 m_X12_wrongAt [vr 81, vi 1, vi (M 81 11)] M (cI fun r2 M1 =>
    PW sc n1 m_X12_quarter 67 [] [some (vr 81), some (vi v1), some (vi r2), some (vi v3), o4] M1 Q)))) : PW sc n m_X12_quarter 54 [] [some (vr 81), some (vi v1), some (vi v2), some (vi v3), o4] M Q := pw_go rfl (fun j => Nat.beq j 19 || Nat.beq j 35 || Nat.beq j 54 || Nat.beq j 67 || Nat.beq j 79 || Nat.beq j 94 || Nat.beq j 120) 161 h
theorem pw_X12_quarter_67 {sc : List Int} {n : Nat} {Q : Vv → MM → Prop} (v1 : Int) (v2 : Int) (v3 : Int) (o4 : Option Vv) (M : MM) (h : ∀ n1, n1 < n → brA (decide (v2 ≠ 0))
  (PW sc n1 m_X12_quarter 79 [] [some (vr 81), some (vi v1), some (vi v2), some (vi 0), some (vi 0)] (stM M 81 10 0) Q)
  (Q (vi (M 81 13)) (stM M 81 10 0))) : PW sc n m_X12_quarter 67 [] [some (vr 81), some (vi v1), some (vi v2), some (vi v3), o4] M Q := pw_go rfl (fun j => Nat.beq j 19 || Nat.beq j 35 || Nat.beq j 54 || Nat.beq j 67 || Nat.beq j 79 || Nat.beq j 94 || Nat.beq j 120) 161 h
theorem pw_X12_quarter_79 {sc : List Int} {n : Nat} {Q : Vv → MM → Prop} (v1 : Int) (v2 : Int) (v3 : Int) (v4 : Int) (M : MM) (h : ∀ n1, n1 < n → brA (decide (64 ≤ v4))
  (PW sc n1 m_X12_quarter 94 [] [some (vr 81), some (vi v1), some (vi v2), some (vi v3), some (vi 0)] M Q)
  (gIm (decide (0 ≤ v4) && decide (v4 < 64)) (gIm (decide (0 ≤ v4) && decide (v4 < 64)) (PW sc n1 m_X12_quarter 79 [] [some (vr 81), some (vi v1), some (vi v2), some (vi v3), some (vi (w32 (v4 + 1)))] (stM M 85 (v4.toNat) (M 102 v4.toNat)) Q)))) : PW sc n m_X12_quarter 79 [] [some (vr 81), some (vi v1), some (vi v2), some (vi v3), some (vi v4)] M Q := pw_go rfl (fun j => Nat.beq j 19 || Nat.beq j 35 || Nat.beq j 54 || Nat.beq j 67 || Nat.beq j 79 || Nat.beq j 94 || Nat.beq j 120) 161 h
theorem pw_X12_quarter_94 {sc : List Int} {n : Nat} {Q : Vv → MM → Prop} (v1 : Int) (v2 : Int) (v3 : Int) (v4 : Int) (M : MM) (h : ∀ n1, n1 < n → brA (decide (10 ≤ v4))
  (PW sc n1 m_X12_quarter 120 [] [some (vr 81), some (vi v1), some (vi v2), some (vi v3), some (vi 0)] M Q)
  (gIm (decide (0 ≤ v4) && decide (v4 < 10)) (gIm (decide (0 ≤ v4) && decide (v4 < 10)) (gIm (decide (0 ≤ v4) && decide (v4 < 10)) (brA (decide (((stM M 86 (v4.toNat) (M 103 v4.toNat)) 86 v4.toNat) < 0))
   (PW sc n1 m_X12_quarter 94 [] [some (vr 81), some (vi v1), some (vi v2), some (vi (w32 (v3 + 0))), some (vi (w32 (v4 + 1)))] (stM M 86 (v4.toNat) (M 103 v4.toNat)) Q)
   (PW sc n1 m_X12_quarter 94 [] [some (vr 81), some (vi v1), some (vi v2), some (vi (w32 (v3 + 1))), some (vi (w32 (v4 + 1)))] (stM M 86 (v4.toNat) (M 103 v4.toNat)) Q)))))) : PW sc n m_X12_quarter 94 [] [some (vr 81), some (vi v1), some (vi v2), some (vi v3), some (vi v4)] M Q := pw_go rfl (fun j => Nat.beq j 19 || Nat.beq j 35 || Nat.beq j 54 || Nat.beq j 67 || Nat.beq j 79 || Nat.beq j 94 || Nat.beq j 120) 161 h
theorem pw_X12_quarter_120 {sc : List Int} {n : Nat} {Q : Vv → MM → Prop} (v1 : Int) (v2 : Int) (v3 : Int) (v4 : Int) (M : MM) (h : ∀ n1, n1 < n → brA (decide (10 ≤ v4))
  (Q (vi v3) M)
  (PC sc n1 m_X12_isTold [vr 81, vi v4] M (cI fun r2 M1 =>
   brA (decide (r2 = 0))
    (PW sc n1 m_X12_quarter 120 [] [some (vr 81), some (vi v1), some (vi v2), some (vi v3), some (vi (w32 (v4 + 1)))] M1 Q)
    (gIm (decide (0 ≤ (w32 (0 + v4))) && decide ((w32 (0 + v4)) < 36)) (gIm (decide (0 ≤ (M1 82 (w32 (0 + v4)).toNat)) && decide ((M1 82 (w32 (0 + v4)).toNat) < 64)) (brA (decide ((M1 85 (M1 82 (w32 (0 + v4)).toNat).toNat) ≠ 1))
     (PW sc n1 m_X12_quarter 120 [] [some (vr 81), some (vi v1), some (vi v2), some (vi v3), some (vi (w32 (v4 + 1)))] M1 Q)
     (PW sc n1 m_X12_quarter 120 [] [some (vr 81), some (vi v1), some (vi v2), some (vi v3), some (vi (w32 (v4 + 1)))] (stM M1 82 30 (bAnd (M1 82 30) (bXor (bShl 1 v4) ((-1))))) Q))))))) : PW sc n m_X12_quarter 120 [] [some (vr 81), some (vi v1), some (vi v2), some (vi v3), some (vi v4)] M Q := pw_go rfl (fun j => Nat.beq j 19 || Nat.beq j 35 || Nat.beq j 54 || Nat.beq j 67 || Nat.beq j 79 || Nat.beq j 94 || Nat.beq j 120) 161 h
theorem pc_X12_readsRow {sc : List Int} {n : Nat} {Q : Vv → MM → Prop} (v1 : Int) (M : MM) (h : ∀ n1, n1 < n → PW sc n1 m_X12_readsRow 2 [] [some (vr 81), some (vi v1), some (vi 0), none, none, none] M Q) : PC sc n m_X12_readsRow [vr 81, vi v1] M Q := pc_go rfl (fun j => Nat.beq j 2 || Nat.beq j 27 || Nat.beq j 63 || Nat.beq j 95) 155 h
theorem pw_X12_readsRow_2 {sc : List Int} {n : Nat} {Q : Vv → MM → Prop} (v1 : Int) (v2 : Int) (o3 : Option Vv) (o4 : Option Vv) (o5 : Option Vv) (M : MM) (h : ∀ n1, n1 < n → brA (decide (8 ≤ v2))
  (PC sc n1 m_X12_here [vr 81] M (cI fun r2 M1 =>
   PC sc n1 m_X12_isSpotAt [vi r2] M1 (cI fun r4 M3 =>
    brA (decide (r4 = 0))
     (Q (vi 1) M3)
     (PC sc n1 m_X12_wrongAt [vr 81, vi 6, vi (M3 81 11)] M3 (cI fun r6 M5 =>
      brA (decide (r6 = 0))
       (Q (vi 0) M5)
       (Q (vi 1) M5))))))
  (PC sc n1 m_X12_here [vr 81] M (cI fun r8 M7 =>
   PC sc n1 m_X12_isSpotAt [vi r8] M7 (cI fun r10 M9 =>
    brA (decide (r10 ≠ 0))
     (PC sc n1 m_X12_in [vi r8, vi 50, vi 56] M9 (cI fun r12 M11 =>
      brA (decide (r12 = 0))
       (PW sc n1 m_X12_readsRow 27 [vi 1] [some (vr 81), some (vi v1), some (vi v2), some (vi r8), o4, o5] M11 Q)
       (PW sc n1 m_X12_readsRow 27 [vi (w32 (r8 - 48))] [some (vr 81), some (vi v1), some (vi v2), some (vi r8), o4, o5] M11 Q)))
     (PC sc n1 m_X12_wrongAt [vr 81, vi 1, vi (M9 81 11)] M9 (cI fun r14 M13 =>
      gIm (decide (r14 = 0) || decide (r14 = 1)) (Q (vi r14) M13))))))) : PW sc n m_X12_readsRow 2 [] [some (vr 81), some (vi v1), some (vi v2), o3, o4, o5] M Q := pw_go rfl (fun j => Nat.beq j 2 || Nat.beq j 27 || Nat.beq j 63 || Nat.beq j 95) 155 h
theorem pw_X12_readsRow_27 {sc : List Int} {n : Nat} {Q : Vv → MM → Prop} (v1 : Int) (v2 : Int) (v3 : Int) (o4 : Option Vv) (o5 : Option Vv) (s0 : Int) (M : MM) (h : ∀ n1, n1 < n → brA (decide ((w32 (v2 + s0)) ≤ 8))
  (brA (decide (s0 ≤ 1))
   (PW sc n1 m_X12_readsRow 63 [] [some (vr 81), some (vi v1), some (vi v2), some (vi v3), some (vi s0), o5] M Q)
   (PC sc n1 m_X12_here [vr 81] (stM M 81 11 (w32 ((M 81 11) + 1))) (cI fun r2 M1 =>
    brA (decide (r2 = 46))
     (PW sc n1 m_X12_readsRow 63 [] [some (vr 81), some (vi v1), some (vi v2), some (vi r2), some (vi s0), o5] M1 Q)
     (brA (decide (r2 = 35))
      (PW sc n1 m_X12_readsRow 63 [] [some (vr 81), some (vi v1), some (vi v2), some (vi r2), some (vi s0), o5] M1 Q)
      (PC sc n1 m_X12_wrongAt [vr 81, vi 1, vi (M1 81 11)] M1 (cI fun r4 M3 =>
       gIm (decide (r4 = 0) || decide (r4 = 1)) (Q (vi r4) M3)))))))
  (PC sc n1 m_X12_wrongAt [vr 81, vi 6, vi (M 81 11)] M (cI fun r6 M5 =>
   gIm (decide (r6 = 0) || decide (r6 = 1)) (Q (vi r6) M5)))) : PW sc n m_X12_readsRow 27 [vi s0] [some (vr 81), some (vi v1), some (vi v2), some (vi v3), o4, o5] M Q := pw_go rfl (fun j => Nat.beq j 2 || Nat.beq j 27 || Nat.beq j 63 || Nat.beq j 95) 155 h
theorem pw_X12_readsRow_63 {sc : List Int} {n : Nat} {Q : Vv → MM → Prop} (v1 : Int) (v2 : Int) (v3 : Int) (v4 : Int) (o5 : Option Vv) (M : MM) (h : ∀ n1, n1 < n → PC sc n1 m_X12_in [vi v3, vi 97, vi 106] M (cI fun r2 M1 =>
  brA (decide (r2 = 0))
   (PW sc n1 m_X12_readsRow 95 [] [some (vr 81), some (vi v1), some (vi v2), some (vi v3), some (vi v4), some (vi 0)] M1 Q)
   (gIm (decide (0 ≤ (w32 (v3 - 97))) && decide ((w32 (v3 - 97)) < 10)) (brA (decide ((M1 103 (w32 (v3 - 97)).toNat) = ((-2))))
    (gIm (decide (0 ≤ (w32 (v3 - 97))) && decide ((w32 (v3 - 97)) < 10)) (PW sc n1 m_X12_readsRow 95 [] [some (vr 81), some (vi v1), some (vi v2), some (vi v3), some (vi v4), some (vi 0)] (stM M1 103 ((w32 (v3 - 97)).toNat) (w32 ((w32 (8 * v1)) + v2))) Q))
    (PC sc n1 m_X12_wrongAt [vr 81, vi 7, vi (M1 81 11)] M1 (cI fun r4 M3 =>
     gIm (decide (r4 = 0) || decide (r4 = 1)) (Q (vi r4) M3))))))) : PW sc n m_X12_readsRow 63 [] [some (vr 81), some (vi v1), some (vi v2), some (vi v3), some (vi v4), o5] M Q := pw_go rfl (fun j => Nat.beq j 2 || Nat.beq j 27 || Nat.beq j 63 || Nat.beq j 95) 155 h
theorem pw_X12_readsRow_95 {sc : List Int} {n : Nat} {Q : Vv → MM → Prop} (v1 : Int) (v2 : Int) (v3 : Int) (v4 : Int) (v5 : Int) (M : MM) (h : ∀ n1, n1 < n → brA (decide (v4 ≤ v5))
  (PW sc n1 m_X12_readsRow 2 [] [some (vr 81), some (vi v1), some (vi (w32 (v2 + v4))), some (vi v3), some (vi v4), some (vi v5)] (stM M 81 11 (w32 ((M 81 11) + 1))) Q)
  (brA (decide (v3 ≠ 46))
   (brA (decide (v3 ≠ 35))
    (gIm (decide (0 ≤ (w32 ((w32 ((w32 (8 * v1)) + v2)) + v5))) && decide ((w32 ((w32 ((w32 (8 * v1)) + v2)) + v5)) < 64)) (PW sc n1 m_X12_readsRow 95 [] [some (vr 81), some (vi v1), some (vi v2), some (vi v3), some (vi v4), some (vi (w32 (v5 + 1)))] (stM M 102 ((w32 ((w32 ((w32 (8 * v1)) + v2)) + v5)).toNat) (w32 ((w32 (2 + v3)) - 97))) Q))
    (gIm (decide (0 ≤ (w32 ((w32 ((w32 (8 * v1)) + v2)) + v5))) && decide ((w32 ((w32 ((w32 (8 * v1)) + v2)) + v5)) < 64)) (PW sc n1 m_X12_readsRow 95 [] [some (vr 81), some (vi v1), some (vi v2), some (vi v3), some (vi v4), some (vi (w32 (v5 + 1)))] (stM M 102 ((w32 ((w32 ((w32 (8 * v1)) + v2)) + v5)).toNat) 1) Q)))
   (gIm (decide (0 ≤ (w32 ((w32 ((w32 (8 * v1)) + v2)) + v5))) && decide ((w32 ((w32 ((w32 (8 * v1)) + v2)) + v5)) < 64)) (PW sc n1 m_X12_readsRow 95 [] [some (vr 81), some (vi v1), some (vi v2), some (vi v3), some (vi v4), some (vi (w32 (v5 + 1)))] (stM M 102 ((w32 ((w32 ((w32 (8 * v1)) + v2)) + v5)).toNat) 0) Q)))) : PW sc n m_X12_readsRow 95 [] [some (vr 81), some (vi v1), some (vi v2), some (vi v3), some (vi v4), some (vi v5)] M Q := pw_go rfl (fun j => Nat.beq j 2 || Nat.beq j 27 || Nat.beq j 63 || Nat.beq j 95) 155 h
theorem pc_X12_isSpotAt {sc : List Int} {n : Nat} {Q : Vv → MM → Prop} (v0 : Int) (M : MM) (h : ∀ n1, n1 < n → brA (decide (v0 = 46))
  (Q (vi 1) M)
  (brA (decide (v0 = 35))
   (Q (vi 1) M)
   (PC sc n1 m_X12_in [vi v0, vi 97, vi 106] M (cI fun r2 M1 =>
    brA (decide (r2 ≠ 0))
     (Q (vi 1) M1)
     (PC sc n1 m_X12_in [vi v0, vi 50, vi 56] M1 (cI fun r4 M3 =>
      brA (decide (r4 = 0))
       (Q (vi 0) M3)
       (Q (vi 1) M3))))))) : PC sc n m_X12_isSpotAt [vi v0] M Q := pc_go rfl (fun j => false) 25 h
theorem pc_X12_here {sc : List Int} {n : Nat} {Q : Vv → MM → Prop}  (M : MM) (h : ∀ n1, n1 < n → brA (decide ((M 81 12) ≤ (M 81 11)))
  (Q (vi ((-1))) M)
  (gIm (decide (0 ≤ (M 81 11)) && decide ((M 81 11) < 260)) (Q (vi (bAnd (M 90 (M 81 11).toNat) 255)) M))) : PC sc n m_X12_here [vr 81] M Q := pc_go rfl (fun j => false) 20 h
theorem pc_X12_wrongAt {sc : List Int} {n : Nat} {Q : Vv → MM → Prop} (v1 : Int) (v2 : Int) (M : MM) (h : ∀ n1, n1 < n → Q (vi 0) (stM M 81 13 (w32 ((w32 (((-1000)) * v1)) - v2)))) : PC sc n m_X12_wrongAt [vr 81, vi v1, vi v2] M Q := pc_go rfl (fun j => false) 14 h
theorem pc_X12_takes {sc : List Int} {n : Nat} {Q : Vv → MM → Prop} (v1 : Int) (M : MM) (h : ∀ n1, n1 < n → PC sc n1 m_X12_here [vr 81] M (cI fun r2 M1 =>
  brA (decide (r2 = v1))
   (Q (vi 1) (stM M1 81 11 (w32 ((M1 81 11) + 1))))
   (PC sc n1 m_X12_wrongAt [vr 81, vi 1, vi (M1 81 11)] M1 (cI fun r4 M3 =>
    gIm (decide (r4 = 0) || decide (r4 = 1)) (Q (vi r4) M3))))) : PC sc n m_X12_takes [vr 81, vi v1] M Q := pc_go rfl (fun j => false) 23 h
theorem pc_X12_isTold {sc : List Int} {n : Nat} {Q : Vv → MM → Prop} (v1 : Int) (M : MM) (h : ∀ n1, n1 < n → PC sc n1 m_X12_isTen [vi v1] M (cI fun r2 M1 =>
  brA (decide (r2 = 0))
   (Q (vi 0) M1)
   (PC sc n1 m_X12_has [vi (M1 82 30), vi v1] M1 (cI fun r4 M3 =>
    brA (decide (r4 = 0))
     (Q (vi 0) M3)
     (Q (vi 1) M3))))) : PC sc n m_X12_isTold [vr 81, vi v1] M Q := pc_go rfl (fun j => false) 19 h
theorem pc_X12_in {sc : List Int} {n : Nat} {Q : Vv → MM → Prop} (v0 : Int) (v1 : Int) (v2 : Int) (M : MM) (h : ∀ n1, n1 < n → brA (decide (v0 < v1))
  (Q (vi 0) M)
  (brA (decide (v2 < v0))
   (Q (vi 0) M)
   (Q (vi 1) M))) : PC sc n m_X12_in [vi v0, vi v1, vi v2] M Q := pc_go rfl (fun j => false) 15 h
theorem pc_X12_has {sc : List Int} {n : Nat} {Q : Vv → MM → Prop} (v0 : Int) (v1 : Int) (M : MM) (h : ∀ n1, n1 < n → brA (decide ((bAnd (bShr v0 v1) 1) ≠ 1))
  (Q (vi 0) M)
  (Q (vi 1) M)) : PC sc n m_X12_has [vi v0, vi v1] M Q := pc_go rfl (fun j => false) 16 h
theorem pc_X12_isTen {sc : List Int} {n : Nat} {Q : Vv → MM → Prop} (v0 : Int) (M : MM) (h : ∀ n1, n1 < n → brA (decide (v0 < 0))
  (Q (vi 0) M)
  (brA (decide (10 ≤ v0))
   (Q (vi 0) M)
   (Q (vi 1) M))) : PC sc n m_X12_isTen [vi v0] M Q := pc_go rfl (fun j => false) 14 h
/- what the reference's readers of a QUARTER leave alone -/
def frM (M0 M : MM) : Prop := (∀ c, c ≠ 81 → c ≠ 102 → c ≠ 103 → M c = M0 c) ∧ ∀ j, j ≠ 11 → j ≠ 12 → j ≠ 13 → M 81 j = M0 81 j
theorem frM.rf (M : MM) : frM M M := ⟨fun _ _ _ _ => rfl, fun _ _ _ _ => rfl⟩
theorem frM.st1 {M0 M : MM} (h : frM M0 M) {j : Nat} {v : Int} (hj : j = 11 ∨ j = 12 ∨ j = 13) : frM M0 (stM M 81 j v) := ⟨fun c h1 h2 h3 => (stK h1).trans (h.1 c h1 h2 h3), fun i h1 h2 h3 => by
  rw [stO (by omega)]
  exact h.2 i h1 h2 h3⟩
theorem frM.st2 {M0 M : MM} (h : frM M0 M) {k j : Nat} {v : Int} (hk : k = 102 ∨ k = 103) : frM M0 (stM M k j v) := ⟨fun c h1 h2 h3 => (stK (by omega)).trans (h.1 c h1 h2 h3), fun i h1 h2 h3 => (stN (by omega)).trans (h.2 i h1 h2 h3)⟩
def hm (v : Int) : Int := if v = -1 then -2 else v
/- the reference in a text, at place p, spots of rows below y and x of row y are read -/
def qmI (N p y x : Nat) (K H : Nat → Int) (M0 M : MM) : Prop := frM M0 M ∧ (M 81 11 = (p : Int) ∧ M 81 12 = (N : Int)) ∧ (∀ j, j < 8 * y + x → M 102 j = K j) ∧ ∀ h, h < 10 → (M 103 h = hm (H h) ∧ (H h = -1 ∨ 0 ≤ H h))
theorem qmI.pl {N p p' y x : Nat} {K H : Nat → Int} {M0 M : MM} (I : qmI N p y x K H M0 M) {v : Int} (hv : v = (p' : Int)) : qmI N p' y x K H M0 (stM M 81 11 v) := by
  subst hv
  refine ⟨I.1.st1 (.inl rfl), ⟨stE, (stO (by decide)).trans I.2.1.2⟩, fun j hj => (stN (by decide)).trans (I.2.2.1 j hj), fun h hh => ?_⟩
  rw [stN (by decide)]
  exact I.2.2.2 h hh
def isSp (c : Int) : Prop := c = 46 ∨ c = 35 ∨ (97 ≤ c ∧ c ≤ 106) ∨ (50 ≤ c ∧ c ≤ 56)
section QTM
variable {sc : List Int} {Q : Vv → MM → Prop}
set_option maxRecDepth 20000 in
theorem p_in {a l h : Int} {n : Nat} {M : MM} (k0 : ¬ (l ≤ a ∧ a ≤ h) → ∀ x : Int, x = 0 → Q (vi x) M) (k1 : (l ≤ a ∧ a ≤ h) → ∀ x : Int, x = 1 → Q (vi x) M) : PC sc n m_X12_in [vi a, vi l, vi h] M Q := pc_X12_in a l h M fun n1 _ => brP (fun q => k0 (by omega) 0 rfl) fun q => brP (fun q2 => k0 (by omega) 0 rfl) fun q2 => k1 (by omega) 1 rfl
set_option maxRecDepth 20000 in
theorem p_isTen {a : Int} {n : Nat} {M : MM} (k0 : ¬ (0 ≤ a ∧ a ≤ 9) → ∀ x : Int, x = 0 → Q (vi x) M) (k1 : (0 ≤ a ∧ a ≤ 9) → ∀ x : Int, x = 1 → Q (vi x) M) : PC sc n m_X12_isTen [vi a] M Q := pc_X12_isTen a M fun n1 _ => brP (fun q => k0 (by omega) 0 rfl) fun q => brP (fun q2 => k0 (by omega) 0 rfl) fun q2 => k1 (by omega) 1 rfl
set_option maxRecDepth 20000 in
theorem p_has {v : Int} {k n : Nat} (hk : k < 32) {M : MM} (k0 : bit v k = false → ∀ x : Int, x = 0 → Q (vi x) M) (k1 : bit v k = true → ∀ x : Int, x = 1 → Q (vi x) M) : PC sc n m_X12_has [vi v, vi (k : Int)] M Q := pc_X12_has _ _ M fun n1 _ => by
  have h := btv_iff v hk
  refine brP (fun q => k0 ?_ 0 rfl) fun q => k1 (h.mp (Classical.not_not.mp q)) 1 rfl
  cases z : bit v k
  · rfl
  · exact absurd (h.mpr z) q
set_option maxRecDepth 20000 in
theorem p_here {N p n : Nat} {M : MM} {t : Nat → Int} (h1 : M 81 11 = (p : Int)) (h2 : M 81 12 = (N : Int)) (ht : ∀ i, bAnd (M 90 i) 255 = t i) (k0 : N ≤ p → ∀ x : Int, x = -1 → Q (vi x) M) (k1 : p < N → ∀ x : Int, x = t p → Q (vi x) M) : PC sc n m_X12_here [vr 81] M Q := pc_X12_here M fun n1 _ => by
  rw [h1, h2, show ((p : Int)).toNat = p by omega, ht]
  exact brP (fun q => k0 (by omega) _ rfl) fun q => gMB (k1 (by omega) _ rfl)
set_option maxRecDepth 20000 in
theorem p_wrong {a b : Int} {n : Nat} {M : MM} (ha : 1 ≤ a ∧ a ≤ 7) (hb : 0 ≤ b ∧ b ≤ 260) (k : ∀ x : Int, x = 0 → Q (vi x) (stM M 81 13 (-1000 * a - b))) : PC sc n m_X12_wrongAt [vr 81, vi a, vi b] M Q := pc_X12_wrongAt a b M fun n1 _ => by
  rw [ew32 (z := -1000 * a) (by omega) (by omega), ew32 (z := -1000 * a - b) (by omega) (by omega)]
  exact k 0 rfl
set_option maxRecDepth 20000 in
theorem p_isSpotAt {c : Int} {n : Nat} {M : MM} (k0 : ¬ isSp c → ∀ x : Int, x = 0 → Q (vi x) M) (k1 : isSp c → ∀ x : Int, x = 1 → Q (vi x) M) : PC sc n m_X12_isSpotAt [vi c] M Q := pc_X12_isSpotAt c M fun n1 _ => brP (fun q => k1 (.inl q) 1 rfl) fun q => brP (fun q2 => k1 (.inr (.inl q2)) 1 rfl) fun q2 => p_in (fun q3 x hx => brF (by omega) (p_in (fun q4 y hy => brT hy (k0 (by unfold isSp; omega) 0 rfl)) fun q4 y hy => brF (by omega) (k1 (.inr (.inr (.inr q4))) 1 rfl))) fun q3 x hx => brT (by omega) (k1 (.inr (.inr (.inl q3))) 1 rfl)
/- the end of a row: what the text comes to there -/
theorem qz_row {t : Nat → Int} {N p y : Nat} {K H : Nat → Int} (hp : p < N) (h : isSp (t p)) : (qz t N (N - p) p 0 8 y K H).1 = -6000 - (p : Int) := by
  obtain ⟨m, hm⟩ : ∃ m, N - p = m + 1 := ⟨N - p - 1, by omega⟩
  rw [hm, qz_succ]
  unfold isSp at h
  by_cases q : 50 ≤ t p ∧ t p ≤ 56
  · rw [if_pos ⟨rfl, q⟩, if_neg (by omega)]
  · rw [if_neg (fun z => q z.2), if_neg (by omega)]
    have e : (qp (t p) 0 p 8 y K H).1 = -6000 - (p : Int) := by
      unfold qp
      by_cases q2 : 97 ≤ t p ∧ t p < 107
      · rw [if_pos q2, if_neg (by omega), if_pos (by omega)]
      · rw [if_neg q2, if_pos (by omega), if_pos (by omega)]
    rw [if_pos (by rw [e]; omega)]
    exact e
/- what is neither spot nor / is fault 1 -/
theorem qz_bad {t : Nat → Int} {N p x y : Nat} {K H : Nat → Int} (hp : p < N) (h : ¬ isSp (t p)) (h2 : t p = 47 → x < 8 ∨ 7 ≤ y) : (qz t N (N - p) p 0 x y K H).1 = -1000 - (p : Int) := by
  obtain ⟨m, hm⟩ : ∃ m, N - p = m + 1 := ⟨N - p - 1, by omega⟩
  rw [hm, qz_succ]
  unfold isSp at h
  rw [if_neg (by omega)]
  by_cases q : t p = 47
  · rw [if_pos q, if_pos (by have := h2 q; omega)]
  · rw [if_neg q]
    have e : qp (t p) 0 p x y K H = (-1000 - (p : Int), K, H, x) := by
      unfold qp
      rw [if_neg (by omega), if_neg (by omega)]
    rw [e, if_pos (by show -1000 - (p : Int) < 0; omega)]
theorem qz_end {t : Nat → Int} {N p x y : Nat} {K H : Nat → Int} (hp : N ≤ p) (dg : Nat) (h : dg ≠ 0 ∨ x < 8 ∨ y < 7) : (qz t N (N - p) p dg x y K H).1 = -1000 - (N : Int) := by
  rw [show N - p = 0 by omega]
  show (if dg ≠ 0 ∨ x < 8 ∨ y < 7 then (-1000 - (N : Int), K, H) else (0, K, H)).1 = _
  rw [if_pos h]
/- a dot or a # -/
theorem qz_dot {t : Nat → Int} {N p dg x y : Nat} {K H : Nat → Int} (hp : p < N) (h : t p = 46 ∨ t p = 35) (hx : x < 8) : qz t N (N - p) p dg x y K H = qz t N (N - (p + 1)) (p + 1) 0 (x + (if dg = 0 then 1 else dg)) y (upK K (8 * y + x) (if dg = 0 then 1 else dg) (if t p = 35 then 1 else 0)) H := by
  obtain ⟨m, hm⟩ : ∃ m, N - p = m + 1 := ⟨N - p - 1, by omega⟩
  rw [hm, qz_succ, if_neg (by omega), if_neg (by omega), show N - (p + 1) = m by omega]
  have e : qp (t p) dg p x y K H = (0, upK K (8 * y + x) (if dg = 0 then 1 else dg) (if t p = 35 then 1 else 0), H, x + (if dg = 0 then 1 else dg)) := by
    unfold qp
    rw [if_neg (by omega), if_pos h, if_neg (by omega)]
  rw [e]
  show (if (0 : Int) < 0 then _ else _) = _
  rw [if_neg (by omega)]
theorem qz_let {t : Nat → Int} {N p x y : Nat} {K H : Nat → Int} (hp : p < N) (h : 97 ≤ t p ∧ t p < 107) (hx : x < 8) : (H (t p - 97).toNat ≠ -1 → (qz t N (N - p) p 0 x y K H).1 = -7000 - (p : Int)) ∧ (H (t p - 97).toNat = -1 → qz t N (N - p) p 0 x y K H = qz t N (N - (p + 1)) (p + 1) 0 (x + 1) y (upK K (8 * y + x) 1 (t p - 95)) (upK H (t p - 97).toNat 1 ((8 * y + x : Nat) : Int))) := by
  obtain ⟨m, hm⟩ : ∃ m, N - p = m + 1 := ⟨N - p - 1, by omega⟩
  rw [hm, qz_succ, if_neg (by omega), if_neg (by omega), show N - (p + 1) = m by omega]
  refine ⟨fun q => ?_, fun q => ?_⟩
  · have e : qp (t p) 0 p x y K H = (-7000 - (p : Int), K, H, x) := by
      unfold qp
      rw [if_pos h, if_neg (by omega), if_neg (by omega), if_pos q]
    rw [e, if_pos (by show -7000 - (p : Int) < 0; omega)]
  · have e : qp (t p) 0 p x y K H = (0, upK K (8 * y + x) 1 (t p - 95), upK H (t p - 97).toNat 1 ((8 * y + x : Nat) : Int), x + 1) := by
      unfold qp
      rw [if_pos h, if_neg (by omega), if_neg (by omega), if_neg (fun z => z q)]
    rw [e]
    show (if (0 : Int) < 0 then _ else _) = _
    rw [if_neg (by omega)]
theorem qz_dig {t : Nat → Int} {N p x y : Nat} {K H : Nat → Int} (hp : p < N) (h : 50 ≤ t p ∧ t p ≤ 56) : (¬ (x : Int) + (t p - 48) ≤ 8 → (qz t N (N - p) p 0 x y K H).1 = -6000 - (p : Int)) ∧ ((x : Int) + (t p - 48) ≤ 8 → qz t N (N - p) p 0 x y K H = qz t N (N - (p + 1)) (p + 1) (t p - 48).toNat x y K H) := by
  obtain ⟨m, hm⟩ : ∃ m, N - p = m + 1 := ⟨N - p - 1, by omega⟩
  rw [hm, qz_succ, if_pos ⟨rfl, h⟩, show N - (p + 1) = m by omega]
  exact ⟨fun q => by rw [if_neg q], fun q => by rw [if_pos q]⟩
theorem qz_dig2 {t : Nat → Int} {N p dg x y : Nat} {K H : Nat → Int} (hp : p < N) (hd : dg ≠ 0) (h : ¬ (t p = 46 ∨ t p = 35)) : (qz t N (N - p) p dg x y K H).1 = -1000 - (p : Int) := by
  obtain ⟨m, hm⟩ : ∃ m, N - p = m + 1 := ⟨N - p - 1, by omega⟩
  rw [hm, qz_succ, if_neg (fun z => hd z.1)]
  by_cases q : t p = 47
  · rw [if_pos q, if_pos (.inl hd)]
  · rw [if_neg q]
    have e : (qp (t p) dg p x y K H).1 = -1000 - (p : Int) := by
      unfold qp
      by_cases q2 : 97 ≤ t p ∧ t p < 107
      · rw [if_pos q2, if_pos hd]
      · rw [if_neg q2, if_neg h]
    rw [if_pos (by rw [e]; omega)]
    exact e
section ROW
variable {t : Nat → Int} {N : Nat} {M0 : MM}
/- the loop that lays like spots -/
set_option maxRecDepth 20000 in
theorem f_rowFill {y x p times : Nat} {c : Int} {K H : Nat → Int} (hy : y ≤ 7) (hx : x + times ≤ 8) (hc : 0 ≤ c ∧ c ≤ 255) {v : Int} (hv : v = (if c = 46 then 0 else if c = 35 then 1 else c - 95)) (hp : p ≤ 120) (k : ∀ n (o3 o4 o5 : Int) M1, qmI N (p + 1) y (x + times) (upK K (8 * y + x) times v) H M0 M1 → PW sc n m_X12_readsRow 2 [] [some (vr 81), some (vi (y : Int)), some (vi ((x + times : Nat) : Int)), some (vi o3), some (vi o4), some (vi o5)] M1 Q) : ∀ (m i n : Nat) (M : MM), i + m = times → qmI N p y (x + i) (upK K (8 * y + x) i v) H M0 M → PW sc n m_X12_readsRow 95 [] [some (vr 81), some (vi (y : Int)), some (vi (x : Int)), some (vi c), some (vi (times : Int)), some (vi (i : Int))] M Q := by
  intro m
  induction m with
  | zero =>
    intro i n M hi I
    have hi : i = times := hi
    subst hi
    refine pw_X12_readsRow_95 _ _ c _ _ M fun n1 _ => brT (by omega) ?_
    rw [I.2.1.1, show w32 ((p : Int) + 1) = ((p + 1 : Nat) : Int) from ew32 (by omega) (by omega), show w32 ((x : Int) + (i : Int)) = ((x + i : Nat) : Int) from ew32 (by omega) (by omega)]
    exact k n1 _ _ _ _ (I.pl rfl)
  | succ m ih =>
    intro i n M hi I
    refine pw_X12_readsRow_95 _ _ c _ _ M fun n1 _ => brF (by omega) ?_
    have ew : ∀ _ : Unit, w32 (w32 (w32 (8 * (y : Int)) + (x : Int)) + (i : Int)) = ((8 * y + x + i : Nat) : Int) := fun _ => by
      rw [ew32 (z := 8 * (y : Int)) (by omega) (by omega), ew32 (z := 8 * (y : Int) + (x : Int)) (by omega) (by omega)]
      exact ew32 (by omega) (by omega)
    rw [ew (), show (((8 * y + x + i : Nat) : Int)).toNat = 8 * y + x + i by omega, show w32 ((i : Int) + 1) = ((i + 1 : Nat) : Int) from ew32 (by omega) (by omega), ew32 (z := 2 + c) (by omega) (by omega), ew32 (z := 2 + c - 97) (by omega) (by omega)]
    have nx : ∀ z : Int, z = v → PW sc n1 m_X12_readsRow 95 [] [some (vr 81), some (vi (y : Int)), some (vi (x : Int)), some (vi c), some (vi (times : Int)), some (vi ((i + 1 : Nat) : Int))] (stM M 102 (8 * y + x + i) z) Q := fun z hz => by
      refine ih (i + 1) n1 _ (by omega) ⟨I.1.st2 (.inl rfl), ⟨(stN (by decide)).trans I.2.1.1, (stN (by decide)).trans I.2.1.2⟩, fun j hj => ?_, fun h hh => ?_⟩
      · rw [stF, ← upK_s]
        dsimp only
        by_cases q : j = 8 * y + x + i
        · rw [if_pos q, if_pos q]
          exact hz
        · rw [if_neg q, if_neg q]
          exact I.2.2.1 j (by omega)
      · rw [stN (by decide)]
        exact I.2.2.2 h hh
    refine brP (fun h => brP (fun h2 => gMB (nx _ ?_)) fun h2 => gMB (nx _ ?_)) fun h => gMB (nx _ ?_)
    · rw [hv, if_neg h, if_neg h2]
      omega
    · rw [hv, if_neg h, if_pos (Classical.not_not.mp h2)]
    · rw [hv, if_pos (Classical.not_not.mp h)]
set_option maxRecDepth 20000 in
theorem f_row (ht : ∀ i, bAnd (M0 90 i) 255 = t i) (htr : ∀ i, 0 ≤ t i ∧ t i ≤ 255) (hN : N ≤ 120) {y : Nat} (hy : y ≤ 7) : ∀ (m x p n : Nat) (K H : Nat → Int) (o3 o4 o5 : Option Vv) (M : MM), x + m = 8 → p ≤ N → qmI N p y x K H M0 M → (∀ M1, frM M0 M1 → M1 81 13 = (qz t N (N - p) p 0 x y K H).1 → (qz t N (N - p) p 0 x y K H).1 < 0 → ∀ z : Int, z = 0 → Q (vi z) M1) → (∀ (p' : Nat) (K' H' : Nat → Int) (M1 : MM), qz t N (N - p') p' 0 8 y K' H' = qz t N (N - p) p 0 x y K H → p' ≤ N → (p' < N → ¬ isSp (t p')) → qmI N p' y 8 K' H' M0 M1 → ∀ z : Int, z = 1 → Q (vi z) M1) → PW sc n m_X12_readsRow 2 [] [some (vr 81), some (vi (y : Int)), some (vi (x : Int)), o3, o4, o5] M Q := by
  intro m
  induction m using Nat.strongRecOn with
  | ind m ih =>
    intro x p n K H o3 o4 o5 M hx hp I k0 k1
    have htM : ∀ M1, frM M0 M1 → ∀ i, bAnd (M1 90 i) 255 = t i := fun M1 f i => by rw [f.1 90 (by decide) (by decide) (by decide)]; exact ht i
    have bad : ∀ (M1 : MM) (v : Int), frM M0 M1 → v = (qz t N (N - p) p 0 x y K H).1 → v < 0 → ∀ z : Int, z = 0 → Q (vi z) (stM M1 81 13 v) := fun M1 v f hv h0 => k0 _ (f.st1 (.inr (.inr rfl))) (by rw [stE]; exact hv) (by omega)
    refine pw_X12_readsRow_2 _ _ o3 o4 o5 M fun n1 _ => brP (fun h8 => ?_) fun h8 => ?_
    · have hx8 : x = 8 := by omega
      subst hx8
      refine p_here I.2.1.1 I.2.1.2 (htM M I.1) (fun q c hc => p_isSpotAt (fun _ z hz => brT hz (k1 p K H M rfl hp (fun z => by omega) I 1 rfl)) fun h z hz => by unfold isSp at h; omega) fun q c hc => ?_
      subst hc
      refine p_isSpotAt (fun hs z hz => brT hz (k1 p K H M rfl hp (fun _ => hs) I 1 rfl)) fun hs z hz => brF (by omega) ?_
      rw [I.2.1.1]
      refine p_wrong (by omega) (by omega) fun w hw => brT hw (bad M _ I.1 ?_ (by omega) 0 rfl)
      rw [qz_row q hs]
      omega
    · refine p_here I.2.1.1 I.2.1.2 (htM M I.1) (fun q c hc => p_isSpotAt (fun _ z hz => brF (by omega) ?_) fun h z hz => by unfold isSp at h; omega) fun q c hc => ?_
      · rw [I.2.1.1]
        refine p_wrong (by omega) (by omega) fun w hw => gMB (bad M _ I.1 ?_ (by omega) w hw)
        rw [qz_end q 0 (by omega)]
        omega
      subst hc
      refine p_isSpotAt (fun hs z hz => brF (by omega) ?_) fun hs z hz => brT (by omega) ?_
      · rw [I.2.1.1]
        refine p_wrong (by omega) (by omega) fun w hw => gMB (bad M _ I.1 ?_ (by omega) w hw)
        rw [qz_bad q hs (fun _ => .inl (by omega))]
        omega
      have h63 : ∀ (n : Nat) (p2 times : Nat) (c : Int) (o5 : Option Vv) (M1 : MM), qmI N p2 y x K H M0 M1 → p2 < N → x + times ≤ 8 → c = t p2 → ((p2 = p ∧ times = 1 ∧ ¬ (50 ≤ c ∧ c ≤ 56) ∧ isSp c) ∨ (2 ≤ times ∧ (c = 46 ∨ c = 35) ∧ qz t N (N - p) p 0 x y K H = qz t N (N - p2) p2 times x y K H)) → PW sc n m_X12_readsRow 63 [] [some (vr 81), some (vi (y : Int)), some (vi (x : Int)), some (vi c), some (vi (times : Int)), o5] M1 Q := by
        intro n p2 times c o5 M1 I1 hp2 hxt hc hcase
        have hcr := htr p2
        have fin : ∀ (H2 : Nat → Int) (n : Nat) (M2 : MM) (v : Int), v = (if c = 46 then 0 else if c = 35 then 1 else c - 95) → 1 ≤ times → qmI N p2 y x K H2 M0 M2 → qz t N (N - p) p 0 x y K H = qz t N (N - (p2 + 1)) (p2 + 1) 0 (x + times) y (upK K (8 * y + x) times v) H2 → PW sc n m_X12_readsRow 95 [] [some (vr 81), some (vi (y : Int)), some (vi (x : Int)), some (vi c), some (vi (times : Int)), some (vi 0)] M2 Q := by
          intro H2 n M2 v hv ht1 I2 hz
          refine f_rowFill (M0 := M0) (K := K) (H := H2) (p := p2) hy hxt (by omega) hv (by omega) (fun n o3 o4 o5 M3 I3 => ?_) times 0 n M2 (Nat.zero_add _) (by rw [upK_0]; exact I2)
          rw [hz] at k0 k1
          exact ih (8 - (x + times)) (by omega) (x + times) (p2 + 1) n _ H2 _ _ _ M3 (by omega) (by omega) I3 k0 k1
        refine pw_X12_readsRow_63 _ _ c _ o5 M1 fun n2 _ => p_in (fun hl z hz => brT hz ?_) fun hl z hz => brF (by omega) (gMB ?_)
        · have hd : c = 46 ∨ c = 35 := by
            rcases hcase with ⟨-, -, h1, h2⟩ | ⟨-, h, -⟩
            · unfold isSp at h2
              omega
            · exact h
          refine fin H n2 M1 (if c = 35 then 1 else 0) ?_ (by omega) I1 ?_
          · rcases hd with h | h
            · rw [if_neg (by omega), if_pos h]
            · rw [if_pos h, if_neg (by omega), if_pos h]
          · rcases hcase with ⟨h1, h2, -, -⟩ | ⟨h1, h2, h3⟩
            · subst h1 h2
              rw [qz_dot hp2 (by omega) (by omega), if_pos rfl, ← hc]
            · rw [h3, qz_dot hp2 (by omega) (by omega), if_neg (by omega), ← hc]
        · have hs1 : p2 = p ∧ times = 1 := by
            rcases hcase with ⟨h1, h2, -, -⟩ | ⟨h1, h2, h3⟩
            · exact ⟨h1, h2⟩
            · omega
          obtain ⟨h1, h2⟩ := hs1
          subst h1 h2
          have hlet := qz_let (t := t) (N := N) (x := x) (y := y) (K := K) (H := H) hp2 (by omega) (by omega)
          rw [← hc] at hlet
          have hH := I1.2.2.2 (c - 97).toNat (by omega)
          unfold hm at hH
          rw [ew32 (z := c - 97) (by omega) (by omega), hH.1]
          refine brP (fun g => gMB ?_) fun g => ?_
          · have hn : H (c - 97).toNat = -1 := by
              split at g <;> omega
            rw [ew32 (z := 8 * (y : Int)) (by omega) (by omega), ew32 (z := 8 * (y : Int) + (x : Int)) (by omega) (by omega)]
            refine fin (upK H (c - 97).toNat 1 ((8 * y + x : Nat) : Int)) n2 _ (c - 95) ?_ (by omega) ⟨I1.1.st2 (.inr rfl), ⟨(stN (by decide)).trans I1.2.1.1, (stN (by decide)).trans I1.2.1.2⟩, fun j hj => (stN (by decide)).trans (I1.2.2.1 j hj), fun h hh => ?_⟩ (hlet.2 hn)
            · rw [if_neg (by omega), if_neg (by omega)]
            · rw [stF, ← upK_1]
              dsimp only
              by_cases e : h = (c - 97).toNat
              · rw [if_pos e, if_pos e]
                unfold hm
                rw [if_neg (by omega)]
                omega
              · rw [if_neg e, if_neg e]
                exact I1.2.2.2 h hh
          · rw [I1.2.1.1]
            have hn : H (c - 97).toNat ≠ -1 := fun z => by
              rw [if_pos z] at g
              exact g rfl
            refine p_wrong (by omega) (by omega) fun w hw => gMB (bad M1 _ I1.1 ?_ (by omega) w hw)
            rw [hlet.1 hn]
            omega
      have hcr := htr p
      refine p_in (fun hd w hw => brT hw ?_) fun hd w hw => brF (by omega) ?_
      · refine pw_X12_readsRow_27 _ _ _ _ _ 1 M fun n2 _ => ?_
        rw [ew32 (z := (x : Int) + 1) (by omega) (by omega)]
        exact brT (by omega) (brT (by omega) (h63 n2 p 1 _ _ M I q (by omega) rfl (.inl ⟨rfl, rfl, hd, hs⟩)))
      · rw [ew32 (z := t p - 48) (by omega) (by omega)]
        refine pw_X12_readsRow_27 _ _ _ _ _ _ M fun n2 _ => ?_
        rw [ew32 (z := (x : Int) + (t p - 48)) (by omega) (by omega)]
        have hdg := qz_dig (t := t) (N := N) (x := x) (y := y) (K := K) (H := H) q hd
        refine brP (fun g => brF (by omega) ?_) fun g => ?_
        · have hz := hdg.2 g
          rw [I.2.1.1, show w32 ((p : Int) + 1) = ((p + 1 : Nat) : Int) from ew32 (by omega) (by omega)]
          have I1 : qmI N (p + 1) y x K H M0 (stM M 81 11 ((p + 1 : Nat) : Int)) := I.pl rfl
          have bad2 : (qz t N (N - (p + 1)) (p + 1) (t p - 48).toNat x y K H).1 = -1000 - ((p + 1 : Nat) : Int) → ∀ z : Int, z = 0 → Q (vi z) (stM (stM M 81 11 ((p + 1 : Nat) : Int)) 81 13 (-1000 * 1 - ((p + 1 : Nat) : Int))) := fun e z hz2 => bad _ _ I1.1 (by rw [hz, e]; omega) (by omega) z hz2
          refine p_here I1.2.1.1 I1.2.1.2 (htM _ I1.1) (fun q2 c hc => brF (by omega) (brF (by omega) ?_)) fun q2 c hc => ?_
          · rw [I1.2.1.1]
            refine p_wrong (by omega) (by omega) fun w hw => gMB (bad2 ?_ w hw)
            rw [qz_end q2 _ (.inl (by omega))]
            omega
          subst hc
          have go : t (p + 1) = 46 ∨ t (p + 1) = 35 → ∀ o5 : Option Vv, PW sc n2 m_X12_readsRow 63 [] [some (vr 81), some (vi (y : Int)), some (vi (x : Int)), some (vi (t (p + 1))), some (vi (t p - 48)), o5] (stM M 81 11 ((p + 1 : Nat) : Int)) Q := fun hdot o5 => by
            have := h63 n2 (p + 1) (t p - 48).toNat _ o5 _ I1 q2 (by omega) rfl (.inr ⟨by omega, hdot, hz⟩)
            rw [show (((t p - 48).toNat : Nat) : Int) = t p - 48 by omega] at this
            exact this
          refine brP (fun g2 => go (.inl g2) _) fun g2 => brP (fun g3 => go (.inr g3) _) fun g3 => ?_
          rw [I1.2.1.1]
          refine p_wrong (by omega) (by omega) fun w hw => gMB (bad2 ?_ w hw)
          exact qz_dig2 q2 (by omega) (by omega)
        · rw [I.2.1.1]
          refine p_wrong (by omega) (by omega) fun w hw => gMB (bad M _ I.1 ?_ (by omega) w hw)
          rw [hdg.1 g]
          omega
end ROW
end QTM
