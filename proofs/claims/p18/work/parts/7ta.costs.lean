/-! PART 7ta: least costs of ways; unseen -/
theorem pc_X11_unseen {sc : List Int} {n : Nat} {Q : Vv → MM → Prop} (v1 : Int) (v2 : Int) (v3 : Int) (M : MM) (h : ∀ n1, n1 < n → PC sc n1 m_X11_hasSpot [vr 0, vi v1] M (cI fun r2 M1 =>
  brA (decide (r2 = 0))
   (Q (vi ((-1))) M1)
   (PC sc n1 m_X11_isIn [vi v2, vi 0, vi 63] M1 (cI fun r4 M3 =>
    brA (decide (r4 = 0))
     (Q (vi ((-1))) M3)
     (PC sc n1 m_X11_isIn [vi v3, vi 0, vi 1] M3 (cI fun r6 M5 =>
      brA (decide (r6 ≠ 0))
       (gIm (decide (0 < M5 0 10)) (gIm (decide (0 < M5 0 10)) (gIm ((kd YF ((M5 0 10).toNat - 1) == 18) && rfK (FF ((M5 0 10).toNat - 1) 1) (M5 ((M5 0 10).toNat - 1) 1)) (gIm ((kd YF (rfO (FF ((M5 0 10).toNat - 1) 1) (M5 ((M5 0 10).toNat - 1) 1)) == 0) && (decide (0 ≤ v1) && decide (v1 < ln YF (rfO (FF ((M5 0 10).toNat - 1) 1) (M5 ((M5 0 10).toNat - 1) 1))))) (PC sc n1 m_X3_hide [vr 32, vr ((M5 0 10).toNat - 1), vr 46, vi (M5 (rfO (FF ((M5 0 10).toNat - 1) 1) (M5 ((M5 0 10).toNat - 1) 1)) v1.toNat), vi v2] M5 (cI fun r8 M7 =>
        brA (decide (r8 ≠ ((-1))))
         (brA (decide (v3 ≠ 0))
          (Q (vi (Int.tmod r8 100)) M7)
          (Q (vi (w32 (Int.tdiv r8 100))) M7))
         (Q (vi ((-2))) M7)))))))
       (Q (vi ((-1))) M5))))))) : PC sc n m_X11_unseen [vr 0, vi v1, vi v2, vi v3] M Q := pc_go rfl (fun j => false) 50 h
theorem pc_X3_hide {sc : List Int} {n : Nat} {T : Nat} (hT : T = 57 ∨ T = 61) {Q : Vv → MM → Prop} (v3 : Int) (v4 : Int) (M : MM) (h : ∀ n1, n1 < n → PW sc n1 m_X3_hide 2 [] [some (vr 32), some (vr T), some (vr 46), some (vi v3), some (vi v4), some (vi 0), none, none, none, none] M Q) : PC sc n m_X3_hide [vr 32, vr T, vr 46, vi v3, vi v4] M Q := by
  rcases hT with rfl | rfl <;> exact pc_go rfl (fun j => Nat.beq j 2 || Nat.beq j 37 || Nat.beq j 54) 105 h
theorem pw_X3_hide_2 {sc : List Int} {n : Nat} {T : Nat} (hT : T = 57 ∨ T = 61) {Q : Vv → MM → Prop} (v3 : Int) (v4 : Int) (v5 : Int) (o6 : Option Vv) (o7 : Option Vv) (o8 : Option Vv) (o9 : Option Vv) (M : MM) (h : ∀ n1, n1 < n → brA (decide (64 ≤ v5))
  (gIm (decide (0 ≤ v3) && decide (v3 < 64)) (gIm (decide (0 ≤ v3) && decide (v3 < 64)) (PW sc n1 m_X3_hide 37 [] [some (vr 32), some (vr T), some (vr 46), some (vi v3), some (vi v4), some (vi 0), o6, o7, o8, o9] (stM M 34 (v3.toNat) (M 35 v3.toNat)) Q)))
  (gIm (decide (0 ≤ v5) && decide (v5 < 64)) (gIm (decide (0 ≤ v5) && decide (v5 < 64)) (PC sc n1 m_X3_watchersOf [vr T, vr 46, vi v5] (stM (stM M 34 (v5.toNat) ((-1))) 36 (v5.toNat) 0) (cI fun r2 M1 =>
   gIm (decide (0 ≤ v5) && decide (v5 < 64)) (PW sc n1 m_X3_hide 2 [] [some (vr 32), some (vr T), some (vr 46), some (vi v3), some (vi v4), some (vi (w32 (v5 + 1))), o6, o7, o8, o9] (stM M1 35 (v5.toNat) (w32 (100 * r2))) Q)))))) : PW sc n m_X3_hide 2 [] [some (vr 32), some (vr T), some (vr 46), some (vi v3), some (vi v4), some (vi v5), o6, o7, o8, o9] M Q := by
  rcases hT with rfl | rfl <;> exact pw_go rfl (fun j => Nat.beq j 2 || Nat.beq j 37 || Nat.beq j 54) 105 h
theorem pw_X3_hide_37 {sc : List Int} {n : Nat} {T : Nat} (hT : T = 57 ∨ T = 61) {Q : Vv → MM → Prop} (v3 : Int) (v4 : Int) (v5 : Int) (o6 : Option Vv) (o7 : Option Vv) (o8 : Option Vv) (o9 : Option Vv) (M : MM) (h : ∀ n1, n1 < n → brA (decide (64 ≤ v5))
  (gIm (decide (0 ≤ v4) && decide (v4 < 64)) (Q (vi (M 34 v4.toNat)) M))
  (PC sc n1 m_X3_cheapestOpen [vr 32] M (cI fun r2 M1 =>
   brA (decide (r2 ≠ ((-1))))
    (gIm (decide (0 ≤ r2) && decide (r2 < 64)) (PW sc n1 m_X3_hide 54 [] [some (vr 32), some (vr T), some (vr 46), some (vi v3), some (vi v4), some (vi v5), some (vi r2), some (vi 0), o8, o9] (stM M1 36 (r2.toNat) 1) Q))
    (gIm (decide (0 ≤ v4) && decide (v4 < 64)) (Q (vi (M1 34 v4.toNat)) M1))))) : PW sc n m_X3_hide 37 [] [some (vr 32), some (vr T), some (vr 46), some (vi v3), some (vi v4), some (vi v5), o6, o7, o8, o9] M Q := by
  rcases hT with rfl | rfl <;> exact pw_go rfl (fun j => Nat.beq j 2 || Nat.beq j 37 || Nat.beq j 54) 105 h
theorem pw_X3_hide_54 {sc : List Int} {n : Nat} {T : Nat} (hT : T = 57 ∨ T = 61) {Q : Vv → MM → Prop} (v3 : Int) (v4 : Int) (v5 : Int) (v6 : Int) (v7 : Int) (o8 : Option Vv) (o9 : Option Vv) (M : MM) (h : ∀ n1, n1 < n → brA (decide (4 ≤ v7))
  (PW sc n1 m_X3_hide 37 [] [some (vr 32), some (vr T), some (vr 46), some (vi v3), some (vi v4), some (vi (w32 (v5 + 1))), some (vi v6), some (vi v7), o8, o9] M Q)
  (PC sc n1 m_X9_after [vr T, vi v6, vi v7] M (cI fun r2 M1 =>
   gIm (decide (0 ≤ v6) && decide (v6 < 64)) (gIm (decide (0 ≤ r2) && decide (r2 < 64)) (gIm (decide (0 ≤ r2) && decide (r2 < 64)) (brA (decide ((M1 34 r2.toNat) = ((-1))))
    (gIm (decide (0 ≤ r2) && decide (r2 < 64)) (PW sc n1 m_X3_hide 54 [] [some (vr 32), some (vr T), some (vr 46), some (vi v3), some (vi v4), some (vi v5), some (vi v6), some (vi (w32 (v7 + 1))), some (vi r2), some (vi (w32 ((w32 ((M1 34 v6.toNat) + (M1 35 r2.toNat))) + 1)))] (stM M1 34 (r2.toNat) (w32 ((w32 ((M1 34 v6.toNat) + (M1 35 r2.toNat))) + 1))) Q))
    (gIm (decide (0 ≤ r2) && decide (r2 < 64)) (brA (decide ((M1 34 r2.toNat) ≤ (w32 ((w32 ((M1 34 v6.toNat) + (M1 35 r2.toNat))) + 1))))
     (PW sc n1 m_X3_hide 54 [] [some (vr 32), some (vr T), some (vr 46), some (vi v3), some (vi v4), some (vi v5), some (vi v6), some (vi (w32 (v7 + 1))), some (vi r2), some (vi (w32 ((w32 ((M1 34 v6.toNat) + (M1 35 r2.toNat))) + 1)))] M1 Q)
     (gIm (decide (0 ≤ r2) && decide (r2 < 64)) (PW sc n1 m_X3_hide 54 [] [some (vr 32), some (vr T), some (vr 46), some (vi v3), some (vi v4), some (vi v5), some (vi v6), some (vi (w32 (v7 + 1))), some (vi r2), some (vi (w32 ((w32 ((M1 34 v6.toNat) + (M1 35 r2.toNat))) + 1)))] (stM M1 34 (r2.toNat) (w32 ((w32 ((M1 34 v6.toNat) + (M1 35 r2.toNat))) + 1))) Q)))))))))) : PW sc n m_X3_hide 54 [] [some (vr 32), some (vr T), some (vr 46), some (vi v3), some (vi v4), some (vi v5), some (vi v6), some (vi v7), o8, o9] M Q := by
  rcases hT with rfl | rfl <;> exact pw_go rfl (fun j => Nat.beq j 2 || Nat.beq j 37 || Nat.beq j 54) 105 h
theorem pc_X3_cheapestOpen {sc : List Int} {n : Nat} {Q : Vv → MM → Prop}  (M : MM) (h : ∀ n1, n1 < n → PW sc n1 m_X3_cheapestOpen 4 [] [some (vr 32), some (vi ((-1))), some (vi 0)] M Q) : PC sc n m_X3_cheapestOpen [vr 32] M Q := pc_go rfl (fun j => Nat.beq j 4) 41 h
theorem pw_X3_cheapestOpen_4 {sc : List Int} {n : Nat} {Q : Vv → MM → Prop} (v1 : Int) (v2 : Int) (M : MM) (h : ∀ n1, n1 < n → brA (decide (64 ≤ v2))
  (Q (vi v1) M)
  (gIm (decide (0 ≤ v2) && decide (v2 < 64)) (brA (decide ((M 34 v2.toNat) = ((-1))))
   (PW sc n1 m_X3_cheapestOpen 4 [] [some (vr 32), some (vi v1), some (vi (w32 (v2 + 1)))] M Q)
   (gIm (decide (0 ≤ v2) && decide (v2 < 64)) (brA (decide ((M 36 v2.toNat) ≠ 0))
    (PW sc n1 m_X3_cheapestOpen 4 [] [some (vr 32), some (vi v1), some (vi (w32 (v2 + 1)))] M Q)
    (brA (decide (v1 = ((-1))))
     (PW sc n1 m_X3_cheapestOpen 4 [] [some (vr 32), some (vi v2), some (vi (w32 (v2 + 1)))] M Q)
     (gIm (decide (0 ≤ v2) && decide (v2 < 64)) (gIm (decide (0 ≤ v1) && decide (v1 < 64)) (brA (decide ((M 34 v1.toNat) ≤ (M 34 v2.toNat)))
      (PW sc n1 m_X3_cheapestOpen 4 [] [some (vr 32), some (vi v1), some (vi (w32 (v2 + 1)))] M Q)
      (PW sc n1 m_X3_cheapestOpen 4 [] [some (vr 32), some (vi v2), some (vi (w32 (v2 + 1)))] M Q)))))))))) : PW sc n m_X3_cheapestOpen 4 [] [some (vr 32), some (vi v1), some (vi v2)] M Q := pw_go rfl (fun j => Nat.beq j 4) 41 h
theorem pc_X3_watchersOf {sc : List Int} {n : Nat} {T : Nat} (hT : T = 57 ∨ T = 61) {Q : Vv → MM → Prop} (v2 : Int) (M : MM) (h : ∀ n1, n1 < n → PW sc n1 m_X3_watchersOf 4 [] [some (vr T), some (vr 46), some (vi v2), some (vi 0), some (vi 0)] M Q) : PC sc n m_X3_watchersOf [vr T, vr 46, vi v2] M Q := by
  rcases hT with rfl | rfl <;> exact pc_go rfl (fun j => Nat.beq j 4) 23 h
theorem pw_X3_watchersOf_4 {sc : List Int} {n : Nat} {T : Nat} (hT : T = 57 ∨ T = 61) {Q : Vv → MM → Prop} (v2 : Int) (v3 : Int) (v4 : Int) (M : MM) (h : ∀ n1, n1 < n → brA (decide (10 ≤ v4))
  (Q (vi v3) M)
  (PC sc n1 m_X8_sees [vr 46, vr T, vi v4, vi v2] M (cI fun r2 M1 =>
   brA (decide (r2 = 0))
    (PW sc n1 m_X3_watchersOf 4 [] [some (vr T), some (vr 46), some (vi v2), some (vi v3), some (vi (w32 (v4 + 1)))] M1 Q)
    (PW sc n1 m_X3_watchersOf 4 [] [some (vr T), some (vr 46), some (vi v2), some (vi (w32 (v3 + 1))), some (vi (w32 (v4 + 1)))] M1 Q)))) : PW sc n m_X3_watchersOf 4 [] [some (vr T), some (vr 46), some (vi v2), some (vi v3), some (vi v4)] M Q := by
  rcases hT with rfl | rfl <;> exact pw_go rfl (fun j => Nat.beq j 4) 23 h
theorem pc_X12_unseen {sc : List Int} {n : Nat} {Q : Vv → MM → Prop} (v1 : Int) (v2 : Int) (v3 : Int) (M : MM) (h : ∀ n1, n1 < n → PC sc n1 m_X12_hasSpot [vr 81, vi v1] M (cI fun r2 M1 =>
  brA (decide (r2 = 0))
   (Q (vi ((-1))) M1)
   (PC sc n1 m_X12_in [vi v2, vi 0, vi 63] M1 (cI fun r4 M3 =>
    brA (decide (r4 = 0))
     (Q (vi ((-1))) M3)
     (PC sc n1 m_X12_in [vi v3, vi 0, vi 1] M3 (cI fun r6 M5 =>
      brA (decide (r6 ≠ 0))
       (gIm (decide (0 ≤ v1) && decide (v1 < 10)) (PC sc n1 m_X12_laysCosts [vr 81, vi (M5 86 v1.toNat), vi 1] M5 (fun _ M7 =>
        gIm (decide (0 ≤ v2) && decide (v2 < 64)) (brA (decide ((M7 114 v2.toNat) ≠ 1000000000))
         (brA (decide (v3 ≠ 0))
          (gIm (decide (0 ≤ v2) && decide (v2 < 64)) (Q (vi (Int.tmod (M7 114 v2.toNat) 100)) M7))
          (gIm (decide (0 ≤ v2) && decide (v2 < 64)) (Q (vi (w32 (Int.tdiv (M7 114 v2.toNat) 100))) M7)))
         (Q (vi ((-2))) M7)))))
       (Q (vi ((-1))) M5))))))) : PC sc n m_X12_unseen [vr 81, vi v1, vi v2, vi v3] M Q := pc_go rfl (fun j => false) 52 h
theorem pc_X12_laysCosts {sc : List Int} {n : Nat} {Q : Vv → MM → Prop} (v1 : Int) (v2 : Int) (M : MM) (h : ∀ n1, n1 < n → PW sc n1 m_X12_laysCosts 2 [] [some (vr 81), some (vi v1), some (vi v2), some (vi 0), none, none, none, none] M Q) : PC sc n m_X12_laysCosts [vr 81, vi v1, vi v2] M Q := pc_go rfl (fun j => Nat.beq j 2 || Nat.beq j 27 || Nat.beq j 33 || Nat.beq j 38 || Nat.beq j 76) 103 h
theorem pw_X12_laysCosts_2 {sc : List Int} {n : Nat} {Q : Vv → MM → Prop} (v1 : Int) (v2 : Int) (v3 : Int) (o4 : Option Vv) (o5 : Option Vv) (o6 : Option Vv) (o7 : Option Vv) (M : MM) (h : ∀ n1, n1 < n → brA (decide (64 ≤ v3))
  (PW sc n1 m_X12_laysCosts 27 [] [some (vr 81), some (vi v1), some (vi v2), some (vi 1), o4, o5, o6, o7] M Q)
  (brA (decide (v3 ≠ v1))
   (gIm (decide (0 ≤ v3) && decide (v3 < 64)) (PW sc n1 m_X12_laysCosts 2 [] [some (vr 81), some (vi v1), some (vi v2), some (vi (w32 (v3 + 1))), o4, o5, o6, o7] (stM M 114 (v3.toNat) 1000000000) Q))
   (brA (decide (v2 = 0))
    (gIm (decide (0 ≤ v3) && decide (v3 < 64)) (PW sc n1 m_X12_laysCosts 2 [] [some (vr 81), some (vi v1), some (vi v2), some (vi (w32 (v3 + 1))), o4, o5, o6, o7] (stM M 114 (v3.toNat) 0) Q))
    (PC sc n1 m_X12_seers [vr 81, vi v3] M (cI fun r2 M1 =>
     gIm (decide (0 ≤ v3) && decide (v3 < 64)) (PW sc n1 m_X12_laysCosts 2 [] [some (vr 81), some (vi v1), some (vi v2), some (vi (w32 (v3 + 1))), o4, o5, o6, o7] (stM M1 114 (v3.toNat) (w32 (100 * r2))) Q)))))) : PW sc n m_X12_laysCosts 2 [] [some (vr 81), some (vi v1), some (vi v2), some (vi v3), o4, o5, o6, o7] M Q := pw_go rfl (fun j => Nat.beq j 2 || Nat.beq j 27 || Nat.beq j 33 || Nat.beq j 38 || Nat.beq j 76) 103 h
theorem pw_X12_laysCosts_27 {sc : List Int} {n : Nat} {Q : Vv → MM → Prop} (v1 : Int) (v2 : Int) (v3 : Int) (o4 : Option Vv) (o5 : Option Vv) (o6 : Option Vv) (o7 : Option Vv) (M : MM) (h : ∀ n1, n1 < n → brA (decide (v3 = 0))
  (Q (vi 0) M)
  (PW sc n1 m_X12_laysCosts 33 [] [some (vr 81), some (vi v1), some (vi v2), some (vi 0), some (vi 0), o5, o6, o7] M Q)) : PW sc n m_X12_laysCosts 27 [] [some (vr 81), some (vi v1), some (vi v2), some (vi v3), o4, o5, o6, o7] M Q := pw_go rfl (fun j => Nat.beq j 2 || Nat.beq j 27 || Nat.beq j 33 || Nat.beq j 38 || Nat.beq j 76) 103 h
theorem pw_X12_laysCosts_33 {sc : List Int} {n : Nat} {Q : Vv → MM → Prop} (v1 : Int) (v2 : Int) (v3 : Int) (v4 : Int) (o5 : Option Vv) (o6 : Option Vv) (o7 : Option Vv) (M : MM) (h : ∀ n1, n1 < n → brA (decide (64 ≤ v4))
  (PW sc n1 m_X12_laysCosts 27 [] [some (vr 81), some (vi v1), some (vi v2), some (vi v3), some (vi v4), o5, o6, o7] M Q)
  (PW sc n1 m_X12_laysCosts 38 [] [some (vr 81), some (vi v1), some (vi v2), some (vi v3), some (vi v4), some (vi 0), o6, o7] M Q)) : PW sc n m_X12_laysCosts 33 [] [some (vr 81), some (vi v1), some (vi v2), some (vi v3), some (vi v4), o5, o6, o7] M Q := pw_go rfl (fun j => Nat.beq j 2 || Nat.beq j 27 || Nat.beq j 33 || Nat.beq j 38 || Nat.beq j 76) 103 h
theorem pw_X12_laysCosts_38 {sc : List Int} {n : Nat} {Q : Vv → MM → Prop} (v1 : Int) (v2 : Int) (v3 : Int) (v4 : Int) (v5 : Int) (o6 : Option Vv) (o7 : Option Vv) (M : MM) (h : ∀ n1, n1 < n → brA (decide (4 ≤ v5))
  (PW sc n1 m_X12_laysCosts 33 [] [some (vr 81), some (vi v1), some (vi v2), some (vi v3), some (vi (w32 (v4 + 1))), some (vi v5), o6, o7] M Q)
  (gIm (decide (0 ≤ v4) && decide (v4 < 64)) (brA (decide (1000000000 ≤ (M 114 v4.toNat)))
   (PW sc n1 m_X12_laysCosts 33 [] [some (vr 81), some (vi v1), some (vi v2), some (vi v3), some (vi (w32 (v4 + 1))), some (vi v5), o6, o7] M Q)
   (PC sc n1 m_X12_beside [vi v4, vi v5] M (cI fun r2 M1 =>
    brA (decide (r2 = ((-1))))
     (PW sc n1 m_X12_laysCosts 38 [] [some (vr 81), some (vi v1), some (vi v2), some (vi v3), some (vi v4), some (vi (w32 (v5 + 1))), some (vi r2), o7] M1 Q)
     (gIm (decide (0 ≤ r2) && decide (r2 < 64)) (brA (decide ((M1 85 r2.toNat) ≠ 1))
      (gIm (decide (0 ≤ v4) && decide (v4 < 64)) (brA (decide (v2 = 0))
       (PW sc n1 m_X12_laysCosts 76 [vi 0, vi (w32 ((M1 114 v4.toNat) + 1))] [some (vr 81), some (vi v1), some (vi v2), some (vi v3), some (vi v4), some (vi v5), some (vi r2), o7] M1 Q)
       (PC sc n1 m_X12_seers [vr 81, vi r2] M1 (cI fun r4 M3 =>
        PW sc n1 m_X12_laysCosts 76 [vi (w32 (100 * r4)), vi (w32 ((M1 114 v4.toNat) + 1))] [some (vr 81), some (vi v1), some (vi v2), some (vi v3), some (vi v4), some (vi v5), some (vi r2), o7] M3 Q))))
      (PW sc n1 m_X12_laysCosts 38 [] [some (vr 81), some (vi v1), some (vi v2), some (vi v3), some (vi v4), some (vi (w32 (v5 + 1))), some (vi r2), o7] M1 Q)))))))) : PW sc n m_X12_laysCosts 38 [] [some (vr 81), some (vi v1), some (vi v2), some (vi v3), some (vi v4), some (vi v5), o6, o7] M Q := pw_go rfl (fun j => Nat.beq j 2 || Nat.beq j 27 || Nat.beq j 33 || Nat.beq j 38 || Nat.beq j 76) 103 h
theorem pw_X12_laysCosts_76 {sc : List Int} {n : Nat} {Q : Vv → MM → Prop} (v1 : Int) (v2 : Int) (v3 : Int) (v4 : Int) (v5 : Int) (v6 : Int) (o7 : Option Vv) (s0 : Int) (s1 : Int) (M : MM) (h : ∀ n1, n1 < n → gIm (decide (0 ≤ v6) && decide (v6 < 64)) (brA (decide ((w32 (s0 + s1)) < (M 114 v6.toNat)))
  (gIm (decide (0 ≤ v6) && decide (v6 < 64)) (PW sc n1 m_X12_laysCosts 38 [] [some (vr 81), some (vi v1), some (vi v2), some (vi 1), some (vi v4), some (vi (w32 (v5 + 1))), some (vi v6), some (vi (w32 (s0 + s1)))] (stM M 114 (v6.toNat) (w32 (s0 + s1))) Q))
  (PW sc n1 m_X12_laysCosts 38 [] [some (vr 81), some (vi v1), some (vi v2), some (vi v3), some (vi v4), some (vi (w32 (v5 + 1))), some (vi v6), some (vi (w32 (s0 + s1)))] M Q))) : PW sc n m_X12_laysCosts 76 [vi s1, vi s0] [some (vr 81), some (vi v1), some (vi v2), some (vi v3), some (vi v4), some (vi v5), some (vi v6), o7] M Q := pw_go rfl (fun j => Nat.beq j 2 || Nat.beq j 27 || Nat.beq j 33 || Nat.beq j 38 || Nat.beq j 76) 103 h
theorem pc_X12_seers {sc : List Int} {n : Nat} {Q : Vv → MM → Prop} (v1 : Int) (M : MM) (h : ∀ n1, n1 < n → PW sc n1 m_X12_seers 4 [] [some (vr 81), some (vi v1), some (vi 0), some (vi 0)] M Q) : PC sc n m_X12_seers [vr 81, vi v1] M Q := pc_go rfl (fun j => Nat.beq j 4) 34 h
theorem pw_X12_seers_4 {sc : List Int} {n : Nat} {Q : Vv → MM → Prop} (v1 : Int) (v2 : Int) (v3 : Int) (M : MM) (h : ∀ n1, n1 < n → brA (decide (10 ≤ v3))
  (Q (vi v2) M)
  (PC sc n1 m_X12_isThere [vr 81, vi v3] M (cI fun r2 M1 =>
   brA (decide (r2 = 0))
    (PW sc n1 m_X12_seers 4 [] [some (vr 81), some (vi v1), some (vi v2), some (vi (w32 (v3 + 1)))] M1 Q)
    (gIm (decide (0 ≤ (w32 (0 + v3))) && decide ((w32 (0 + v3)) < 36)) (PC sc n1 m_X12_isSeen [vr 81, vi (M1 82 (w32 (0 + v3)).toNat), vi v1] M1 (cI fun r4 M3 =>
     brA (decide (r4 = 0))
      (PW sc n1 m_X12_seers 4 [] [some (vr 81), some (vi v1), some (vi v2), some (vi (w32 (v3 + 1)))] M3 Q)
      (PW sc n1 m_X12_seers 4 [] [some (vr 81), some (vi v1), some (vi (w32 (v2 + 1))), some (vi (w32 (v3 + 1)))] M3 Q))))))) : PW sc n m_X12_seers 4 [] [some (vr 81), some (vi v1), some (vi v2), some (vi v3)] M Q := pw_go rfl (fun j => Nat.beq j 4) 34 h
/- a way of so many STEPS that comes to this cost -/
def rcW (K c : Nat → Int) (a : Nat) (c0 : Int) (n s : Nat) (v : Int) : Prop := match n with
  | 0 => s = a ∧ v = c0
  | n + 1 => ∃ (s' w : Nat) (v' : Int), rcW K c a c0 n s' v' ∧ s' < 64 ∧ w < 4 ∧ (stpV K s' w).toNat = s ∧ v = v' + c s + 1
/- the least costs, -1 where none can come -/
def lcR (K c : Nat → Int) (a : Nat) (c0 : Int) (C : Nat → Int) : Prop := (0 ≤ C a ∧ C a ≤ c0) ∧ (∀ s w : Nat, s < 64 → w < 4 → 0 ≤ C s → 0 ≤ C (stpV K s w).toNat ∧ C (stpV K s w).toNat ≤ C s + c (stpV K s w).toNat + 1) ∧ ∀ s, s < 64 → C s = -1 ∨ (0 ≤ C s ∧ ∃ n, rcW K c a c0 n s (C s))
theorem lcR_le {K c : Nat → Int} {a : Nat} {c0 : Int} {C : Nat → Int} (h : lcR K c a c0 C) : ∀ (n s : Nat) (v : Int), rcW K c a c0 n s v → 0 ≤ C s ∧ C s ≤ v := by
  intro n
  induction n with
  | zero =>
    intro s v ⟨e1, e2⟩
    subst e1 e2
    exact h.1
  | succ n ih =>
    intro s v ⟨s', w, v', a1, a2, a3, a4, a5⟩
    have z := ih s' v' a1
    have y := h.2.1 s' w a2 a3 z.1
    rw [a4] at y
    omega
theorem lcR_eq {K c c' : Nat → Int} {a : Nat} {c0 : Int} {C C' : Nat → Int} (hc : c = c') (h : lcR K c a c0 C) (h' : lcR K c' a c0 C') : ∀ s, s < 64 → C s = C' s := fun s hs => by
  subst hc
  rcases h.2.2 s hs with e | ⟨e1, n, e2⟩
  · rcases h'.2.2 s hs with e' | ⟨e1', n', e2'⟩
    · rw [e, e']
    · have := lcR_le h n' s _ e2'
      omega
  · have z := lcR_le h' n s _ e2
    rcases h'.2.2 s hs with e' | ⟨e1', n', e2'⟩
    · omega
    · have := lcR_le h n' s _ e2'
      omega
/- how many see a spot -/
def snS (M : MM) (s : Int) : Int := faV (sgV (M 82) (M 85) s) (fun _ => 1) 10 0 0
theorem snS_r (M : MM) (s : Int) : 0 ≤ snS M s ∧ snS M s ≤ 10 := faV_r (b := 1) (fun _ => by omega) 10 0 0
theorem snS_eq {M M1 : MM} (h2 : M1 82 = M 82) (h5 : M1 85 = M 85) (s : Int) : snS M1 s = snS M s := by
  unfold snS
  rw [h2, h5]
def coV (M : MM) (b : Int) (s : Nat) : Int := if b = 0 then 0 else 100 * snS M (s : Int)
theorem coV_r (M : MM) (b : Int) (s : Nat) : 0 ≤ coV M b s ∧ coV M b s ≤ 1000 := by
  have := snS_r M (s : Int)
  unfold coV
  split <;> omega
/- how many places hold 1 -/
def clN (f : Nat → Int) (n : Nat) : Nat := match n with
  | 0 => 0
  | n + 1 => clN f n + (if f n = 1 then 1 else 0)
theorem clN_s (f : Nat → Int) (n : Nat) : clN f (n + 1) = clN f n + (if f n = 1 then 1 else 0) := rfl
theorem clN_le (f : Nat → Int) : ∀ n, clN f n ≤ n := by
  intro n
  induction n with
  | zero => exact Nat.le_refl _
  | succ n ih =>
    rw [clN_s]
    split <;> omega
theorem clN_all (f : Nat → Int) : ∀ n, clN f n = n → ∀ s, s < n → f s = 1 := by
  intro n
  induction n with
  | zero => intro _ s hs; exact absurd hs (Nat.not_lt_zero s)
  | succ n ih =>
    intro h s hs
    have l := clN_le f n
    rw [clN_s] at h
    by_cases e : f n = 1
    · rw [if_pos e] at h
      by_cases c : s = n
      · subst c
        exact e
      · exact ih (by omega) s (by omega)
    · rw [if_neg e] at h
      omega
theorem clN_lt {f : Nat → Int} {n s : Nat} (hs : s < n) (h : f s ≠ 1) : clN f n < n := by
  have l := clN_le f n
  rcases Nat.lt_or_ge (clN f n) n with z | z
  · exact z
  · exact absurd (clN_all f n (by omega) s hs) h
theorem clN_st {f g : Nat → Int} {u : Nat} (h0 : f u ≠ 1) (h1 : g u = 1) (h : ∀ s, s ≠ u → g s = f s) : ∀ n, clN g n = clN f n + (if u < n then 1 else 0) := by
  intro n
  induction n with
  | zero => rfl
  | succ n ih =>
    rw [clN_s, clN_s, ih]
    by_cases e : n = u
    · subst e
      rw [if_pos h1, if_neg h0, if_neg (Nat.lt_irrefl n), if_pos (Nat.lt_succ_self n)]
    · rw [h n e]
      by_cases c : u < n
      · rw [if_pos c, if_pos (show u < n + 1 by omega)] <;> exact Nat.add_right_comm _ _ _
      · rw [if_neg c, if_neg (show ¬ u < n + 1 by omega)] <;> exact Nat.add_right_comm _ _ _
theorem clN_0 {f : Nat → Int} : ∀ n, (∀ s, s < n → f s ≠ 1) → clN f n = 0 := by
  intro n
  induction n with
  | zero => intro _; rfl
  | succ n ih =>
    intro h
    rw [clN_s, ih fun s hs => h s (by omega), if_neg (h n (Nat.lt_succ_self n))]
section CST
variable {sc : List Int} {Q : Vv → MM → Prop} {L T : Nat}
set_option maxRecDepth 20000 in
theorem f_seersM {M0 : MM} (G : axG M0) {M : MM} (e82 : M 82 = M0 82) (e85 : M 85 = M0 85) {s : Int} (hs : 0 ≤ s ∧ s ≤ 63) {n : Nat} (k : Q (vi (snS M0 s)) M) : PC sc n m_X12_seers [vr 81, vi s] M Q := by
  have lp : ∀ (m i n : Nat) (acc : Int), i + m = 10 → 0 ≤ acc → acc ≤ (i : Int) → Q (vi (faV (sgV (M0 82) (M0 85) s) (fun _ => 1) m i acc)) M → PW sc n m_X12_seers 4 [] [some (vr 81), some (vi s), some (vi acc), some (vi (i : Int))] M Q := by
    intro m
    induction m with
    | zero =>
      intro i n acc hi _ _ k
      have hi : i = 10 := hi
      subst hi
      exact pw_X12_seers_4 _ _ _ M fun n1 _ => brT (by decide) k
    | succ m ih =>
      intro i n acc hi h0 h1 k
      rw [faV_s] at k
      have hi10 : i < 10 := by omega
      have rg := r82s G.1 i hi10
      refine pw_X12_seers_4 _ _ _ M fun n1 _ => brF (by omega) ?_
      rw [show w32 ((i : Int) + 1) = ((i + 1 : Nat) : Int) from ew32 (by omega) (by omega), show w32 (0 + (i : Int)) = (i : Int) by rw [Int.zero_add]; exact ew32 (by omega) (by omega), show ((i : Int)).toNat = i by omega, show w32 (acc + 1) = acc + 1 from ew32 (by omega) (by omega)]
      have no : sgV (M0 82) (M0 85) s i = false → ∀ n, PW sc n m_X12_seers 4 [] [some (vr 81), some (vi s), some (vi acc), some (vi ((i + 1 : Nat) : Int))] M Q := fun z n => ih (i + 1) n acc (by omega) h0 (by omega) (by rw [z, if_neg (by decide)] at k; exact k)
      refine p_isThereM hi10 (fun q x hx => cI_i (brT hx (no (sgV_f fun z => q (by rw [e82]; exact ⟨z.1, z.2.1⟩)) n1))) fun b1 b2 x hx => cI_i (brF (by omega) (gMB ?_))
      rw [e82] at b1 b2 ⊢
      refine f_isSeen ⟨rg.1, rg.2⟩ hs (fun b3 x hx => cI_i (brT hx (no (sgV_f fun z => ?_) n1))) fun b3 x hx => cI_i (brF (by omega) (ih (i + 1) n1 _ (by omega) (by omega) (by omega) ?_))
      · rw [e85] at b3
        exact absurd (b3.symm.trans z.2.2) (by decide)
      · rw [e85] at b3
        rw [if_pos (sgV_t b1 b2 b3)] at k
        exact k
  exact pc_X12_seers _ M fun n1 _ => lp 10 0 n1 0 rfl (by decide) (by decide) k
/- the reference's row: what none can come to costs far too much -/
def cvV (x : Int) : Int := if x < 0 then 1000000000 else x
def rchV (N : Nat → Int) (s : Nat) : Int := if N s < 1000000000 then 1 else 0
/- within the reference's search -/
def lyI (K c : Nat → Int) (a : Nat) (c0 : Int) (N : Nat → Int) : Prop := (0 ≤ N a ∧ N a ≤ c0) ∧ ∀ s, s < 64 → (0 ≤ N s ∧ N s ≤ 1000000000) ∧ (N s < 1000000000 → N s ≤ 1001 * (clN (rchV N) 64 : Int) ∧ ∃ n, rcW K c a c0 n s (N s))
def lyX (K c N : Nat → Int) (s w : Nat) : Prop := N s < 1000000000 → N (stpV K s w).toNat ≤ N s + c (stpV K s w).toNat + 1
theorem lyI_st {K c : Nat → Int} {a : Nat} {c0 : Int} {N N' : Nat → Int} (I : lyI K c a c0 N) (hc : ∀ s, 0 ≤ c s ∧ c s ≤ 1000) {s w p : Nat} (hs : s < 64) (hw : w < 4) (hN : N s < 1000000000) (hp : (stpV K s w).toNat = p) (hp64 : p < 64) (e : N' p = N s + c p + 1) (o : ∀ j, j ≠ p → N' j = N j) (lt : N s + c p + 1 < N p) : lyI K c a c0 N' := by
  obtain ⟨⟨i1, i2⟩, i3⟩ := I
  have cp := hc p
  have ys := i3 s hs
  have yp := i3 p hp64
  have bs := ys.2 hN
  have hw' : ∃ n, rcW K c a c0 n p (N' p) := by
    obtain ⟨n, hn⟩ := bs.2
    exact ⟨n + 1, s, w, N s, hn, hs, hw, hp, e⟩
  have cnt : clN (rchV N) 64 ≤ clN (rchV N') 64 ∧ N' p ≤ 1001 * (clN (rchV N') 64 : Int) := by
    by_cases z : N p < 1000000000
    · have er : rchV N' = rchV N := by
        funext j
        unfold rchV
        by_cases q : j = p
        · subst q
          rw [if_pos z, if_pos (by omega)]
        · rw [o j q]
      rw [er]
      have := (yp.2 z).1
      exact ⟨Nat.le_refl _, by omega⟩
    · have h := clN_st (f := rchV N) (g := rchV N') (u := p) (by unfold rchV; rw [if_neg z]; decide) (by unfold rchV; rw [if_pos (by omega)]) (fun j q => by unfold rchV; rw [o j q]) 64
      rw [if_pos hp64] at h
      rw [h]
      exact ⟨by omega, by omega⟩
  refine ⟨?_, fun j hj => ?_⟩
  · by_cases q : a = p
    · subst q
      rw [e]
      omega
    · rw [o a q]
      exact ⟨i1, i2⟩
  · by_cases q : j = p
    · subst q
      exact ⟨by omega, fun _ => ⟨cnt.2, hw'⟩⟩
    · rw [o j q]
      have y := i3 j hj
      refine ⟨y.1, fun z => ⟨?_, (y.2 z).2⟩⟩
      have := (y.2 z).1
      have c1 : (clN (rchV N) 64 : Int) ≤ (clN (rchV N') 64 : Int) := by have := cnt.1; omega
      omega
theorem stp_st {K : Nat → Int} {s w : Int} (h : bes s w = -1 ∨ K (bes s w).toNat = 1) : stpV K s w = s := by
  unfold stpV
  rcases h with h | h
  · rw [if_pos h]
  · by_cases z : bes s w = -1
    · rw [if_pos z]
    · rw [if_neg z, if_pos h]
theorem stp_go {K : Nat → Int} {s w : Int} (h1 : bes s w ≠ -1) (h2 : K (bes s w).toNat ≠ 1) : stpV K s w = bes s w := by
  unfold stpV
  rw [if_neg h1, if_neg h2]
/- what a search has found, as the least costs -/
theorem ly_lc {K c : Nat → Int} {a : Nat} {c0 : Int} {N : Nat → Int} (hc : ∀ s, 0 ≤ c s ∧ c s ≤ 1000) (h0 : c0 ≤ 1000) (I : lyI K c a c0 N) (X : ∀ s w : Nat, s < 64 → w < 4 → lyX K c N s w) : lcR K c a c0 (fun s => if N s < 1000000000 then N s else -1) := by
  obtain ⟨⟨i1, i2⟩, i3⟩ := I
  have l64 := clN_le (rchV N) 64
  refine ⟨?_, fun s w hs hw hn => ?_, fun s hs => ?_⟩
  · show 0 ≤ (if N a < 1000000000 then N a else -1) ∧ (if N a < 1000000000 then N a else -1) ≤ c0
    rw [if_pos (by omega)]
    exact ⟨i1, i2⟩
  · have hn : 0 ≤ (if N s < 1000000000 then N s else -1) := hn
    have hlt : N s < 1000000000 := by
      by_cases z : N s < 1000000000
      · exact z
      · rw [if_neg z] at hn
        omega
    have z := X s w hs hw hlt
    have hp : 0 ≤ stpV K (s : Int) (w : Int) ∧ stpV K (s : Int) (w : Int) ≤ 63 := stpV_r ⟨by omega, by omega⟩
    have rp := hc (stpV K (s : Int) (w : Int)).toNat
    have y := i3 (stpV K (s : Int) (w : Int)).toNat (by omega)
    have ys := ((i3 s hs).2 hlt).1
    show 0 ≤ (if N (stpV K (s : Int) (w : Int)).toNat < 1000000000 then N (stpV K (s : Int) (w : Int)).toNat else -1) ∧ (if N (stpV K (s : Int) (w : Int)).toNat < 1000000000 then N (stpV K (s : Int) (w : Int)).toNat else -1) ≤ (if N s < 1000000000 then N s else -1) + c (stpV K (s : Int) (w : Int)).toNat + 1
    rw [if_pos hlt, if_pos (by omega)]
    exact ⟨y.1.1, z⟩
  · show (if N s < 1000000000 then N s else -1) = -1 ∨ (0 ≤ (if N s < 1000000000 then N s else -1) ∧ ∃ n, rcW K c a c0 n s (if N s < 1000000000 then N s else -1))
    by_cases z : N s < 1000000000
    · rw [if_pos z]
      exact .inr ⟨(i3 s hs).1.1, ((i3 s hs).2 z).2⟩
    · rw [if_neg z]
      exact .inl rfl
set_option maxRecDepth 20000 in
theorem f_laysM {M0 : MM} (G : axG M0) {M : MM} (e82 : M 82 = M0 82) (e85 : M 85 = M0 85) {a : Nat} (ha : a < 64) {b : Int} {n : Nat} (k : ∀ (M1 : MM) (C : Nat → Int), (∀ c, c ≠ 114 → M1 c = M c) → lcR (M0 85) (coV M0 b) a (coV M0 b a) C → (∀ s, s < 64 → M1 114 s = cvV (C s) ∧ -1 ≤ C s ∧ C s < 1000000) → Q (vi 0) M1) : PC sc n m_X12_laysCosts [vr 81, vi (a : Int), vi b] M Q := by
  have rc := coV_r M0 b
  have ra := rc a
  have main : ∀ n : Nat, (∀ (v3 : Int) (o4 o5 o6 o7 : Option Vv) (M1 : MM), (∀ c, c ≠ 114 → M1 c = M c) → lyI (M0 85) (coV M0 b) a (coV M0 b a) (M1 114) → (v3 = 0 → ∀ s w : Nat, s < 64 → w < 4 → lyX (M0 85) (coV M0 b) (M1 114) s w) → PW sc n m_X12_laysCosts 27 [] [some (vr 81), some (vi (a : Int)), some (vi b), some (vi v3), o4, o5, o6, o7] M1 Q) ∧ (∀ (v3 : Int) (s : Nat) (o5 o6 o7 : Option Vv) (M1 : MM), s ≤ 64 → (∀ c, c ≠ 114 → M1 c = M c) → lyI (M0 85) (coV M0 b) a (coV M0 b a) (M1 114) → (v3 = 0 → ∀ s' w : Nat, s' < s → w < 4 → lyX (M0 85) (coV M0 b) (M1 114) s' w) → PW sc n m_X12_laysCosts 33 [] [some (vr 81), some (vi (a : Int)), some (vi b), some (vi v3), some (vi (s : Int)), o5, o6, o7] M1 Q) ∧ (∀ (v3 : Int) (s j : Nat) (o6 o7 : Option Vv) (M1 : MM), s < 64 → j ≤ 4 → (∀ c, c ≠ 114 → M1 c = M c) → lyI (M0 85) (coV M0 b) a (coV M0 b a) (M1 114) → (v3 = 0 → ∀ s' w : Nat, (s' < s ∨ (s' = s ∧ w < j)) → w < 4 → lyX (M0 85) (coV M0 b) (M1 114) s' w) → PW sc n m_X12_laysCosts 38 [] [some (vr 81), some (vi (a : Int)), some (vi b), some (vi v3), some (vi (s : Int)), some (vi (j : Int)), o6, o7] M1 Q) := by
    intro n
    induction n using Nat.strongRecOn with
    | ind n ih =>
      refine ⟨fun v3 o4 o5 o6 o7 M1 F I X => ?_, fun v3 s o5 o6 o7 M1 hs F I X => ?_, fun v3 s j o6 o7 M1 hs hj F I X => ?_⟩
      · refine pw_X12_laysCosts_27 _ _ _ _ _ _ _ M1 fun n1 h1 => brP (fun h3 => ?_) fun h3 => (ih n1 h1).2.1 0 0 _ _ _ M1 (by decide) F I fun _ s' w z => absurd z (Nat.not_lt_zero s')
        have l64 := clN_le (rchV (M1 114)) 64
        refine k M1 (fun s => if M1 114 s < 1000000000 then M1 114 s else -1) F (ly_lc rc ra.2 I (X h3)) fun s hs => ?_
        have y := I.2 s hs
        show M1 114 s = cvV (if M1 114 s < 1000000000 then M1 114 s else -1) ∧ -1 ≤ (if M1 114 s < 1000000000 then M1 114 s else -1) ∧ (if M1 114 s < 1000000000 then M1 114 s else -1) < 1000000
        unfold cvV
        by_cases z : M1 114 s < 1000000000
        · have := (y.2 z).1
          rw [if_pos z, if_neg (by omega)]
          exact ⟨rfl, by omega, by omega⟩
        · rw [if_neg z, if_pos (by decide)]
          exact ⟨by omega, by decide, by decide⟩
      · refine pw_X12_laysCosts_33 _ _ _ _ _ _ _ M1 fun n1 h1 => brP (fun h => (ih n1 h1).1 v3 _ _ _ _ M1 F I fun h3 s' w z hw => X h3 s' w (by omega) hw) fun h => (ih n1 h1).2.2 v3 s 0 _ _ M1 (by omega) (by decide) F I fun h3 s' w z hw => X h3 s' w (by omega) hw
      · have nxt : ∀ (n1 : Nat) (o5 o6 o7 : Option Vv), n1 < n → (∀ w : Nat, w < 4 → ¬ w < j → v3 = 0 → lyX (M0 85) (coV M0 b) (M1 114) s w) → PW sc n1 m_X12_laysCosts 33 [] [some (vr 81), some (vi (a : Int)), some (vi b), some (vi v3), some (vi (w32 ((s : Int) + 1))), o5, o6, o7] M1 Q := fun n1 o5 o6 o7 h1 h => by
          rw [show w32 ((s : Int) + 1) = ((s + 1 : Nat) : Int) from ew32 (by omega) (by omega)]
          refine (ih n1 h1).2.1 v3 (s + 1) _ _ _ M1 (by omega) F I fun h3 s' w z hw => ?_
          by_cases e : s' = s
          · subst e
            by_cases q : w < j
            · exact X h3 s' w (.inr ⟨rfl, q⟩) hw
            · exact h w hw q h3
          · exact X h3 s' w (.inl (by omega)) hw
        have nxj : ∀ (n1 : Nat) (o6 o7 : Option Vv), n1 < n → j < 4 → (v3 = 0 → lyX (M0 85) (coV M0 b) (M1 114) s j) → PW sc n1 m_X12_laysCosts 38 [] [some (vr 81), some (vi (a : Int)), some (vi b), some (vi v3), some (vi (s : Int)), some (vi (w32 ((j : Int) + 1))), o6, o7] M1 Q := fun n1 o6 o7 h1 hj4 h => by
          rw [show w32 ((j : Int) + 1) = ((j + 1 : Nat) : Int) from ew32 (by omega) (by omega)]
          refine (ih n1 h1).2.2 v3 s (j + 1) _ _ M1 hs (by omega) F I fun h3 s' w z hw => ?_
          by_cases e : s' = s ∧ w = j
          · obtain ⟨e1, e2⟩ := e
            subst e1 e2
            exact h h3
          · exact X h3 s' w (by omega) hw
        refine pw_X12_laysCosts_38 _ _ _ _ _ _ _ M1 fun n1 h1 => brP (fun h => nxt n1 _ _ _ h1 fun w hw q => absurd hw (by omega)) fun h => gMB ?_
        have hj4 : j < 4 := by omega
        have ys := I.2 s hs
        rw [show ((s : Int)).toNat = s by omega]
        refine brP (fun big => nxt n1 _ _ _ h1 fun w _ _ _ lt => absurd lt (by omega)) fun big => p_beside ⟨by omega, by omega⟩ (cI_i ?_)
        have hN : M1 114 s < 1000000000 := by omega
        have self : stpV (M0 85) (s : Int) (j : Int) = (s : Int) → lyX (M0 85) (coV M0 b) (M1 114) s j := fun e _ => by
          have r := rc s
          rw [e, show ((s : Int)).toNat = s by omega]
          omega
        refine brP (fun c1 => nxj n1 _ _ h1 hj4 fun _ => self (stp_st (.inl c1))) fun c1 => gMB ?_
        have rb := (bes_q (s := (s : Int)) (w := (j : Int))).resolve_left c1
        have e85' : M1 85 = M0 85 := (F 85 (by decide)).trans e85
        rw [e85']
        refine brP (fun c2 => gMB ?_) fun c2 => nxj n1 _ _ h1 hj4 fun _ => self (stp_st (.inr (Classical.not_not.mp c2)))
        have est := stp_go c1 c2
        obtain ⟨p, hp⟩ : ∃ p : Nat, bes (s : Int) (j : Int) = (p : Int) := ⟨(bes (s : Int) (j : Int)).toNat, by omega⟩
        rw [hp] at est rb ⊢
        have hp64 : p < 64 := by omega
        have rp := rc p
        have h76 : ∀ (n2 : Nat) (s0 s1 : Int), n2 < n → w32 (s1 + s0) = M1 114 s + coV M0 b p + 1 → PW sc n2 m_X12_laysCosts 76 [vi s0, vi s1] [some (vr 81), some (vi (a : Int)), some (vi b), some (vi v3), some (vi (s : Int)), some (vi (j : Int)), some (vi (p : Int)), o7] M1 Q := fun n2 s0 s1 h2 es => by
          refine pw_X12_laysCosts_76 _ _ _ _ _ _ _ _ _ M1 fun n3 h3 => gMB ?_
          rw [show ((p : Int)).toNat = p by omega, es]
          refine brP (fun lt => gMB ?_) fun ge => nxj n3 _ _ (by omega) hj4 fun _ _ => ?_
          · rw [show w32 ((j : Int) + 1) = ((j + 1 : Nat) : Int) from ew32 (by omega) (by omega)]
            refine (ih n3 (by omega)).2.2 1 s (j + 1) _ _ _ hs (by omega) (fun c hc => (stK hc).trans (F c hc)) (lyI_st I rc hs hj4 hN (by rw [est]; omega) hp64 stE (fun i hi => stO hi) lt) fun h => absurd h (by decide)
          · rw [est, show ((p : Int)).toNat = p by omega]
            omega
        have e1 : w32 (M1 114 s + 1) = M1 114 s + 1 := ew32 (by omega) (by omega)
        refine brP (fun hb => h76 n1 _ _ h1 ?_) fun hb => f_seersM G ((F 82 (by decide)).trans e82) e85' ⟨by omega, by omega⟩ (cI_i (h76 n1 _ _ h1 ?_))
        · unfold coV
          rw [if_pos hb, e1, ew32 (by omega) (by omega)]
          omega
        · have r := snS_r M0 (p : Int)
          unfold coV
          rw [if_neg hb, e1, show w32 (100 * snS M0 (p : Int)) = 100 * snS M0 (p : Int) from ew32 (by omega) (by omega), ew32 (by omega) (by omega)]
          omega
  have l2 : ∀ (m s n : Nat) (o4 o5 o6 o7 : Option Vv) (M1 : MM), s + m = 64 → (∀ c, c ≠ 114 → M1 c = M c) → (∀ j, j < s → M1 114 j = if j = a then coV M0 b a else 1000000000) → PW sc n m_X12_laysCosts 2 [] [some (vr 81), some (vi (a : Int)), some (vi b), some (vi (s : Int)), o4, o5, o6, o7] M1 Q := by
    intro m
    induction m with
    | zero =>
      intro s n o4 o5 o6 o7 M1 hs F e
      have hs : s = 64 := hs
      subst hs
      refine pw_X12_laysCosts_2 _ _ _ _ _ _ _ M1 fun n1 _ => brT (by decide) ((main n1).1 1 _ _ _ _ M1 F ⟨?_, fun s hs => ?_⟩ fun h => absurd h (by decide))
      · rw [e a ha, if_pos rfl]
        omega
      · have c1 : 1 ≤ clN (rchV (M1 114)) 64 := by
          have z := clN_st (f := fun _ => 0) (g := fun j => if j = a then 1 else 0) (u := a) (by decide) (if_pos rfl) (fun j hj => if_neg hj) 64
          have z0 := clN_0 (f := fun _ => (0 : Int)) 64 (fun _ _ => by decide)
          rw [z0, if_pos ha] at z
          have er : ∀ n, n ≤ 64 → clN (rchV (M1 114)) n = clN (fun j => if j = a then 1 else 0) n := by
            intro n
            induction n with
            | zero => intro _; rfl
            | succ n ihn =>
              intro hn
              rw [clN_s, clN_s, ihn (by omega)]
              have ev : rchV (M1 114) n = if n = a then 1 else 0 := by
                unfold rchV
                rw [e n (by omega)]
                by_cases q : n = a
                · rw [if_pos q, if_pos q, if_pos (by omega)]
                · rw [if_neg q, if_neg q, if_neg (by decide)]
              rw [ev]
          rw [er 64 (Nat.le_refl _), z]
          exact Nat.le_refl _
        rw [e s hs]
        by_cases q : s = a
        · subst q
          rw [if_pos rfl]
          exact ⟨by omega, fun _ => ⟨by omega, 0, rfl, rfl⟩⟩
        · rw [if_neg q]
          exact ⟨by decide, fun z => absurd z (by decide)⟩
    | succ m ih =>
      intro s n o4 o5 o6 o7 M1 hs F e
      refine pw_X12_laysCosts_2 _ _ _ _ _ _ _ M1 fun n1 _ => brF (by omega) ?_
      rw [show ((s : Int)).toNat = s by omega, show w32 ((s : Int) + 1) = ((s + 1 : Nat) : Int) from ew32 (by omega) (by omega)]
      have st : ∀ v : Int, (v = if s = a then coV M0 b a else 1000000000) → ∀ n, PW sc n m_X12_laysCosts 2 [] [some (vr 81), some (vi (a : Int)), some (vi b), some (vi ((s + 1 : Nat) : Int)), o4, o5, o6, o7] (stM M1 114 s v) Q := fun v hv n => ih (s + 1) n _ _ _ _ _ (by omega) (fun c hc => (stK hc).trans (F c hc)) fun j hj => by
        by_cases q : j = s
        · subst q
          rw [stE]
          exact hv
        · rw [stO q]
          exact e j (by omega)
      refine brP (fun q => gMB (st _ (by rw [if_neg (by omega)]) n1)) fun q => ?_
      have q : s = a := by omega
      refine brP (fun hb => gMB (st _ ?_ n1)) fun hb => f_seersM G ((F 82 (by decide)).trans e82) ((F 85 (by decide)).trans e85) ⟨by omega, by omega⟩ (cI_i (gMB (st _ ?_ n1)))
      · unfold coV
        rw [if_pos q, if_pos hb]
      · have r := snS_r M0 (s : Int)
        unfold coV
        rw [if_pos q, if_neg hb, ew32 (by omega) (by omega), q]
  exact pc_X12_laysCosts _ _ M fun n1 _ => l2 64 0 n1 none none none none M rfl (fun _ _ => rfl) fun j hj => absurd hj (Nat.not_lt_zero j)
/- the class's search between two choices -/
def hiI (K c : Nat → Int) (a i : Nat) (S E : Nat → Int) : Prop := (0 ≤ S a ∧ S a ≤ c a) ∧ (∀ s, s < 64 → S s = -1 ∨ (0 ≤ S s ∧ S s ≤ 1001 * ((i + 1 : Nat) : Int) ∧ ∃ n, rcW K c a (c a) n s (S s))) ∧ (∀ s, s < 64 → E s = 0 ∨ E s = 1) ∧ (∀ s w : Nat, s < 64 → w < 4 → E s = 1 → 0 ≤ S (stpV K s w).toNat ∧ S (stpV K s w).toNat ≤ S s + c (stpV K s w).toNat + 1) ∧ (∀ s t, s < 64 → t < 64 → E s = 1 → E t = 0 → 0 ≤ S t → S s ≤ S t) ∧ (∀ s, s < 64 → E s = 1 → 0 ≤ S s) ∧ clN E 64 = i
/- the class's search within a choice -/
def hiJ (K c : Nat → Int) (a i u j : Nat) (S E : Nat → Int) : Prop := (0 ≤ S a ∧ S a ≤ c a) ∧ (∀ s, s < 64 → S s = -1 ∨ (0 ≤ S s ∧ S s ≤ 1001 * ((i + 2 : Nat) : Int) ∧ ∃ n, rcW K c a (c a) n s (S s))) ∧ (∀ s, s < 64 → E s = 0 ∨ E s = 1) ∧ (∀ s w : Nat, s < 64 → w < 4 → E s = 1 → (s ≠ u ∨ w < j) → 0 ≤ S (stpV K s w).toNat ∧ S (stpV K s w).toNat ≤ S s + c (stpV K s w).toNat + 1) ∧ (∀ s t, s < 64 → t < 64 → E s = 1 → E t = 0 → 0 ≤ S t → S s ≤ S t) ∧ (∀ s, s < 64 → E s = 1 → 0 ≤ S s ∧ S s ≤ S u) ∧ clN E 64 = i + 1 ∧ E u = 1 ∧ S u ≤ 1001 * ((i + 1 : Nat) : Int)
theorem hiJ_no {K c : Nat → Int} {a i u j p : Nat} {S E : Nat → Int} (I : hiJ K c a i u j S E) (hp : (stpV K (u : Int) (j : Int)).toNat = p) (h : 0 ≤ S p ∧ S p ≤ S u + c p + 1) : hiJ K c a i u (j + 1) S E := by
  obtain ⟨h2, h1, h5, h3, h4, h0, hc, he, hu⟩ := I
  refine ⟨h2, h1, h5, fun s w hs hw e q => ?_, h4, h0, hc, he, hu⟩
  by_cases z : s = u ∧ w = j
  · obtain ⟨z1, z2⟩ := z
    subst z1 z2
    rw [hp]
    exact h
  · exact h3 s w hs hw e (by omega)
theorem hiJ_st {K c : Nat → Int} (hc0 : ∀ s, 0 ≤ c s ∧ c s ≤ 1000) {a i u j p : Nat} {S S' E : Nat → Int} (hu64 : u < 64) (hj : j < 4) (I : hiJ K c a i u j S E) (hp : (stpV K (u : Int) (j : Int)).toNat = p) (hp64 : p < 64) (h : S p = -1 ∨ S u + c p + 1 < S p) (e : S' p = S u + c p + 1) (o : ∀ s, s ≠ p → S' s = S s) : hiJ K c a i u (j + 1) S' E := by
  obtain ⟨h2, h1, h5, h3, h4, h0, hc, he, hu⟩ := I
  have cp := hc0 p
  have su := h0 u hu64 he
  have hpu : p ≠ u := fun z => by
    subst z
    rcases h with h | h <;> omega
  have ep : E p = 0 := by
    rcases h5 p hp64 with z | z
    · exact z
    · have := h0 p hp64 z
      rcases h with h | h <;> omega
  have eu := o u (fun z => hpu z.symm)
  have ns : ∀ s, E s = 1 → s ≠ p := fun s z q => by
    subst q
    omega
  refine ⟨?_, fun s hs => ?_, h5, fun s w hs hw es q => ?_, fun s t hs ht es et t0 => ?_, fun s hs es => ?_, hc, he, by rw [eu]; exact hu⟩
  · by_cases q : a = p
    · subst q
      rcases h with h | h
      · omega
      · omega
    · rw [o a q]
      exact h2
  · by_cases q : s = p
    · subst q
      refine .inr ⟨by omega, by omega, ?_⟩
      rcases h1 u hu64 with z | ⟨-, -, n, hn⟩
      · omega
      · exact ⟨n + 1, u, j, S u, hn, hu64, hj, hp, e⟩
    · rw [o s q]
      exact h1 s hs
  · rw [o s (ns s es)]
    by_cases q2 : (stpV K (s : Int) (w : Int)).toNat = p
    · rw [q2, e]
      by_cases z : s = u ∧ w = j
      · obtain ⟨z1, z2⟩ := z
        subst z1 z2
        omega
      · have y := h3 s w hs hw es (by omega)
        rw [q2] at y
        rcases h with h | h <;> omega
    · rw [o _ q2]
      by_cases z : s = u ∧ w = j
      · obtain ⟨z1, z2⟩ := z
        subst z1 z2
        exact absurd hp q2
      · exact h3 s w hs hw es (by omega)
  · rw [o s (ns s es)]
    by_cases q : t = p
    · subst q
      have := h0 s hs es
      omega
    · rw [o t q] at t0 ⊢
      exact h4 s t hs ht es et t0
  · rw [o s (ns s es), eu]
    exact h0 s hs es
theorem hiJ_to {K c : Nat → Int} {a i u : Nat} {S E : Nat → Int} (I : hiJ K c a i u 4 S E) : hiI K c a (i + 1) S E := by
  obtain ⟨h2, h1, h5, h3, h4, h0, hc, he, hu⟩ := I
  exact ⟨h2, h1, h5, fun s w hs hw e => h3 s w hs hw e (.inr hw), h4, fun s hs e => (h0 s hs e).1, hc⟩
theorem hiI_to {K c : Nat → Int} {a i u : Nat} {S E E' : Nat → Int} (hu : u < 64) (I : hiI K c a i S E) (e0 : E u = 0) (s0 : S u ≠ -1) (mn : ∀ t, t < 64 → S t ≠ -1 → E t = 0 → S u ≤ S t) (e : E' u = 1) (o : ∀ s, s ≠ u → E' s = E s) : hiJ K c a i u 0 S E' := by
  obtain ⟨h2, h1, h5, h3, h4, h0, hc⟩ := I
  have su : 0 ≤ S u ∧ S u ≤ 1001 * ((i + 1 : Nat) : Int) := by
    rcases h1 u hu with z | ⟨z1, z2, -⟩
    · exact absurd z s0
    · exact ⟨z1, z2⟩
  refine ⟨h2, fun s hs => ?_, fun s hs => ?_, fun s w hs hw es q => ?_, fun s t hs ht es et t0 => ?_, fun s hs es => ?_, ?_, e, su.2⟩
  · rcases h1 s hs with z | ⟨z1, z2, z3⟩
    · exact .inl z
    · exact .inr ⟨z1, by omega, z3⟩
  · by_cases q : s = u
    · subst q
      exact .inr e
    · rw [o s q]
      exact h5 s hs
  · have q : s ≠ u := by omega
    rw [o s q] at es
    exact h3 s w hs hw es
  · have qt : t ≠ u := fun z => by
      subst z
      omega
    rw [o t qt] at et
    by_cases q : s = u
    · subst q
      exact mn t ht (by omega) et
    · rw [o s q] at es
      exact h4 s t hs ht es et t0
  · by_cases q : s = u
    · subst q
      exact ⟨su.1, Int.le_refl _⟩
    · rw [o s q] at es
      exact ⟨h0 s hs es, h4 s u hs hu es e0 su.1⟩
  · rw [clN_st (f := E) (g := E') (u := u) (by omega) e o 64, hc, if_pos hu]
theorem hiI_lc {K c : Nat → Int} {a i : Nat} {S E : Nat → Int} (I : hiI K c a i S E) (all : ∀ s, s < 64 → S s ≠ -1 → E s = 1) : lcR K c a (c a) S := by
  obtain ⟨h2, h1, h5, h3, h4, h0, hc⟩ := I
  refine ⟨h2, fun s w hs hw s0 => h3 s w hs hw (all s hs (by omega)), fun s hs => ?_⟩
  rcases h1 s hs with z | ⟨z1, -, z3⟩
  · exact .inl z
  · exact .inr ⟨z1, z3⟩
set_option maxRecDepth 20000 in
theorem f_watchersC (hT : T = 57 ∨ T = 61) {M0 : MM} (W : nwO M0 46 (M0 82)) (hS : ∀ f t : Nat, f < 64 → t < 64 → bil (M0 (T + 3) f) t = seeB (M0 85) f t) {M : MM} (F : ∀ c, (c < 32 ∨ 36 < c) → M c = M0 c) {s : Int} (hs : 0 ≤ s ∧ s ≤ 63) {n : Nat} (k : Q (vi (snS M0 s)) M) : PC sc n m_X3_watchersOf [vr T, vr 46, vi s] M Q := by
  have lp : ∀ (m i n : Nat) (acc : Int), i + m = 10 → 0 ≤ acc → acc ≤ (i : Int) → Q (vi (faV (sgV (M0 82) (M0 85) s) (fun _ => 1) m i acc)) M → PW sc n m_X3_watchersOf 4 [] [some (vr T), some (vr 46), some (vi s), some (vi acc), some (vi (i : Int))] M Q := by
    intro m
    induction m with
    | zero =>
      intro i n acc hi _ _ k
      have hi : i = 10 := hi
      subst hi
      exact pw_X3_watchersOf_4 hT _ _ _ M fun n1 _ => brT (by decide) k
    | succ m ih =>
      intro i n acc hi h0 h1 k
      rw [faV_s] at k
      have hi10 : i < 10 := by omega
      have w1 : nwG (M 47) (M 48) (M 49) (M 50) (M0 82) i := by
        rw [F 47 (by decide), F 48 (by decide), F 49 (by decide), F 50 (by decide)]
        exact W.1 i hi10
      refine pw_X3_watchersOf_4 hT _ _ _ M fun n1 _ => brF (by omega) ?_
      rw [show w32 ((i : Int) + 1) = ((i + 1 : Nat) : Int) from ew32 (by omega) (by omega), show w32 (acc + 1) = acc + 1 from ew32 (by omega) (by omega)]
      refine f_seesK hT hi10 w1 (K := M0 85) (by rw [F (T + 3) (by omega)]; exact hS) hs (fun no x hx => cI_i (brT hx (ih (i + 1) n1 acc (by omega) h0 (by omega) ?_))) fun b1 b2 b3 x hx => cI_i (brF (by omega) (ih (i + 1) n1 _ (by omega) (by omega) (by omega) ?_))
      · rw [no, if_neg (by decide)] at k
        exact k
      · rw [if_pos (sgV_t b1 b2 b3)] at k
        exact k
  exact pc_X3_watchersOf hT _ M fun n1 _ => lp 10 0 n1 0 rfl (by decide) (by decide) k
set_option maxRecDepth 20000 in
theorem f_cheapest {M : MM} {n : Nat} (k0 : (∀ s, s < 64 → M 34 s ≠ -1 → M 36 s ≠ 0) → Q (vi (-1)) M) (k1 : ∀ u : Nat, u < 64 → M 34 u ≠ -1 → M 36 u = 0 → (∀ t, t < 64 → M 34 t ≠ -1 → M 36 t = 0 → M 34 u ≤ M 34 t) → Q (vi (u : Int)) M) : PC sc n m_X3_cheapestOpen [vr 32] M Q := by
  have lp : ∀ (m i n : Nat) (b : Int), i + m = 64 → ((b = -1 ∧ ∀ s, s < i → M 34 s ≠ -1 → M 36 s ≠ 0) ∨ ∃ u : Nat, u < i ∧ b = (u : Int) ∧ M 34 u ≠ -1 ∧ M 36 u = 0 ∧ ∀ t, t < i → M 34 t ≠ -1 → M 36 t = 0 → M 34 u ≤ M 34 t) → PW sc n m_X3_cheapestOpen 4 [] [some (vr 32), some (vi b), some (vi (i : Int))] M Q := by
    intro m
    induction m with
    | zero =>
      intro i n b hi I
      have hi : i = 64 := hi
      subst hi
      refine pw_X3_cheapestOpen_4 _ _ M fun n1 _ => brT (by decide) ?_
      rcases I with ⟨e, z⟩ | ⟨u, u1, e, z1, z2, z3⟩
      · rw [e]
        exact k0 z
      · rw [e]
        exact k1 u u1 z1 z2 z3
    | succ m ih =>
      intro i n b hi I
      refine pw_X3_cheapestOpen_4 _ _ M fun n1 _ => brF (by omega) (gMB ?_)
      rw [show ((i : Int)).toNat = i by omega, show w32 ((i : Int) + 1) = ((i + 1 : Nat) : Int) from ew32 (by omega) (by omega)]
      have skip : (M 34 i = -1 ∨ M 36 i ≠ 0) → PW sc n1 m_X3_cheapestOpen 4 [] [some (vr 32), some (vi b), some (vi ((i + 1 : Nat) : Int))] M Q := fun c => by
        refine ih (i + 1) n1 b (by omega) ?_
        rcases I with ⟨e, z⟩ | ⟨u, u1, e, z1, z2, z3⟩
        · refine .inl ⟨e, fun s hs h1 => ?_⟩
          by_cases q : s = i
          · subst q
            rcases c with c | c
            · exact absurd c h1
            · exact c
          · exact z s (by omega) h1
        · refine .inr ⟨u, by omega, e, z1, z2, fun t ht h1 h2 => ?_⟩
          by_cases q : t = i
          · subst q
            rcases c with c | c
            · exact absurd c h1
            · exact absurd h2 c
          · exact z3 t (by omega) h1 h2
      refine brP (fun c => skip (.inl c)) fun c => gMB (brP (fun c2 => skip (.inr c2)) fun c2 => ?_)
      have c2 : M 36 i = 0 := Classical.not_not.mp c2
      refine brP (fun eb => ?_) fun eb => ?_
      · refine ih (i + 1) n1 _ (by omega) (.inr ⟨i, by omega, rfl, c, c2, fun t ht h1 h2 => ?_⟩)
        by_cases q : t = i
        · subst q
          exact Int.le_refl _
        · rcases I with ⟨e, z⟩ | ⟨u, u1, e, -⟩
          · exact absurd h2 (z t (by omega) h1)
          · omega
      · rcases I with ⟨e, -⟩ | ⟨u, u1, e, z1, z2, z3⟩
        · exact absurd e eb
        · subst e
          rw [show ((u : Int)).toNat = u by omega]
          refine gMB (gMB (brP (fun le => ih (i + 1) n1 _ (by omega) (.inr ⟨u, by omega, rfl, z1, z2, fun t ht h1 h2 => ?_⟩)) fun gt => ih (i + 1) n1 _ (by omega) (.inr ⟨i, by omega, rfl, c, c2, fun t ht h1 h2 => ?_⟩)))
          · by_cases q : t = i
            · subst q
              exact le
            · exact z3 t (by omega) h1 h2
          · by_cases q : t = i
            · subst q
              exact Int.le_refl _
            · have := z3 t (by omega) h1 h2
              omega
  exact pc_X3_cheapestOpen M fun n1 _ => lp 64 0 n1 (-1) rfl (.inl ⟨rfl, fun s hs => absurd hs (Nat.not_lt_zero s)⟩)
set_option maxRecDepth 20000 in
theorem f_hideC (hT : T = 57 ∨ T = 61) {M0 : MM} (W : nwO M0 46 (M0 82)) (hS : ∀ f t : Nat, f < 64 → t < 64 → bil (M0 (T + 3) f) t = seeB (M0 85) f t) (hK : ∀ j, j < 64 → M0 (T + 1) j = M0 85 j) {a t : Nat} (ha : a < 64) (ht : t < 64) {n : Nat} (k : ∀ (M1 : MM) (C : Nat → Int), lcR (M0 85) (coV M0 1) a (coV M0 1 a) C → (∀ s, s < 64 → -1 ≤ C s ∧ C s < 1000000) → Q (vi (C t)) M1) : PC sc n m_X3_hide [vr 32, vr T, vr 46, vi (a : Int), vi (t : Int)] M0 Q := by
  have rc := coV_r M0 1
  have fin : ∀ (i : Nat) (M : MM), i ≤ 64 → hiI (M0 85) (coV M0 1) a i (M 34) (M 36) → (∀ s, s < 64 → M 34 s ≠ -1 → M 36 s = 1) → Q (vi (M 34 t)) M := fun i M hi I all => k M (M 34) (hiI_lc I all) fun s hs => by
    rcases I.2.1 s hs with z | ⟨z1, z2, -⟩ <;> omega
  have l37 : ∀ (m i n : Nat) (o6 o7 o8 o9 : Option Vv) (M : MM), i + m = 64 → (∀ c, (c < 32 ∨ 36 < c) → M c = M0 c) → (∀ s, s < 64 → M 35 s = coV M0 1 s) → hiI (M0 85) (coV M0 1) a i (M 34) (M 36) → PW sc n m_X3_hide 37 [] [some (vr 32), some (vr T), some (vr 46), some (vi (a : Int)), some (vi (t : Int)), some (vi (i : Int)), o6, o7, o8, o9] M Q := by
    intro m
    induction m with
    | zero =>
      intro i n o6 o7 o8 o9 M hi F e35 I
      have hi : i = 64 := hi
      subst hi
      refine pw_X3_hide_37 hT _ _ _ _ _ _ _ M fun n1 _ => brT (by decide) (gMB ?_)
      rw [show ((t : Int)).toNat = t by omega]
      exact fin 64 M (Nat.le_refl _) I fun s hs _ => clN_all _ 64 I.2.2.2.2.2.2 s hs
    | succ m ih =>
      intro i n o6 o7 o8 o9 M hi F e35 I
      refine pw_X3_hide_37 hT _ _ _ _ _ _ _ M fun n1 _ => brF (by omega) (f_cheapest (fun none' => cI_i (brF (by decide) (gMB ?_))) fun u hu u1 u2 u3 => cI_i (brT (by omega) (gMB ?_)))
      · rw [show ((t : Int)).toNat = t by omega]
        refine fin i M (by omega) I fun s hs h1 => ?_
        have := none' s hs h1
        rcases I.2.2.1 s hs with z | z
        · exact absurd z this
        · exact z
      · rw [show ((u : Int)).toNat = u by omega]
        have l54 : ∀ (q j n : Nat) (o8 o9 : Option Vv) (M1 : MM), j + q = 4 → (∀ c, (c < 32 ∨ 36 < c) → M1 c = M0 c) → (∀ s, s < 64 → M1 35 s = coV M0 1 s) → hiJ (M0 85) (coV M0 1) a i u j (M1 34) (M1 36) → PW sc n m_X3_hide 54 [] [some (vr 32), some (vr T), some (vr 46), some (vi (a : Int)), some (vi (t : Int)), some (vi (i : Int)), some (vi (u : Int)), some (vi (j : Int)), o8, o9] M1 Q := by
          intro q
          induction q with
          | zero =>
            intro j n o8 o9 M1 hj F1 e35 J
            have hj : j = 4 := hj
            subst hj
            refine pw_X3_hide_54 hT _ _ _ _ _ _ _ M1 fun n1 _ => brT (by decide) ?_
            rw [show w32 ((i : Int) + 1) = ((i + 1 : Nat) : Int) from ew32 (by omega) (by omega)]
            exact ih (i + 1) n1 _ _ _ _ M1 (by omega) F1 e35 (hiJ_to J)
          | succ q ihq =>
            intro j n o8 o9 M1 hj F1 e35 J
            refine pw_X3_hide_54 hT _ _ _ _ _ _ _ M1 fun n1 _ => brF (by omega) (f_after hT ⟨by omega, by omega⟩ ⟨by omega, by omega⟩ (cI_i ?_))
            have hp : 0 ≤ stpV (M0 85) (u : Int) (j : Int) ∧ stpV (M0 85) (u : Int) (j : Int) ≤ 63 := stpV_r ⟨by omega, by omega⟩
            obtain ⟨p, hpe⟩ : ∃ p : Nat, stpV (M0 85) (u : Int) (j : Int) = (p : Int) := ⟨(stpV (M0 85) (u : Int) (j : Int)).toNat, by omega⟩
            have eK : stpV (M1 (T + 1)) (u : Int) (j : Int) = (p : Int) := by
              rw [F1 (T + 1) (by omega), stpV_K hK]
              exact hpe
            have hp64 : p < 64 := by omega
            have hpt : (stpV (M0 85) (u : Int) (j : Int)).toNat = p := by omega
            have su := J.2.2.2.2.2.1 u hu J.2.2.2.2.2.2.2.1
            have sb := J.2.2.2.2.2.2.2.2
            have rp := rc p
            rw [eK, show ((p : Int)).toNat = p by omega, show ((u : Int)).toNat = u by omega, show w32 ((j : Int) + 1) = ((j + 1 : Nat) : Int) from ew32 (by omega) (by omega), e35 p hp64, show w32 (M1 34 u + coV M0 1 p) = M1 34 u + coV M0 1 p from ew32 (by omega) (by omega), show w32 (M1 34 u + coV M0 1 p + 1) = M1 34 u + coV M0 1 p + 1 from ew32 (by omega) (by omega)]
            have upd : (M1 34 p = -1 ∨ M1 34 u + coV M0 1 p + 1 < M1 34 p) → ∀ (n : Nat) (o8 o9 : Option Vv), PW sc n m_X3_hide 54 [] [some (vr 32), some (vr T), some (vr 46), some (vi (a : Int)), some (vi (t : Int)), some (vi (i : Int)), some (vi (u : Int)), some (vi ((j + 1 : Nat) : Int)), o8, o9] (stM M1 34 p (M1 34 u + coV M0 1 p + 1)) Q := fun c n o8 o9 => ihq (j + 1) n _ _ _ (by omega) (fun c hc => (stK (by omega)).trans (F1 c hc)) (fun s hs => by rw [stK (by decide)]; exact e35 s hs) (by
              rw [show stM M1 34 p (M1 34 u + coV M0 1 p + 1) 36 = M1 36 from stK (by decide)]
              exact hiJ_st rc hu (by omega) J hpt hp64 c stE fun s hs => stO hs)
            refine gMB (gMB (gMB (brP (fun c => gMB (upd (.inl c) _ _ _)) fun c => gMB (brP (fun le => ?_) fun gt => gMB (upd (.inr (by omega)) _ _ _)))))
            refine ihq (j + 1) n1 _ _ M1 (by omega) F1 e35 (hiJ_no J hpt ⟨?_, le⟩)
            rcases J.2.1 p hp64 with z | ⟨z, -⟩
            · exact absurd z c
            · exact z
        refine l54 4 0 n1 _ _ _ rfl (fun c hc => (stK (by omega)).trans (F c hc)) (fun s hs => by rw [stK (by decide)]; exact e35 s hs) ?_
        rw [show stM M 36 u 1 34 = M 34 from stK (by decide)]
        exact hiI_to hu I u2 u1 u3 stE fun s hs => stO hs
  have l2 : ∀ (m s n : Nat) (o6 o7 o8 o9 : Option Vv) (M : MM), s + m = 64 → (∀ c, (c < 32 ∨ 36 < c) → M c = M0 c) → (∀ j, j < s → M 34 j = -1 ∧ M 36 j = 0 ∧ M 35 j = coV M0 1 j) → PW sc n m_X3_hide 2 [] [some (vr 32), some (vr T), some (vr 46), some (vi (a : Int)), some (vi (t : Int)), some (vi (s : Int)), o6, o7, o8, o9] M Q := by
    intro m
    induction m with
    | zero =>
      intro s n o6 o7 o8 o9 M hs F e
      have hs : s = 64 := hs
      subst hs
      refine pw_X3_hide_2 hT _ _ _ _ _ _ _ M fun n1 _ => brT (by decide) (gMB (gMB ?_))
      rw [show ((a : Int)).toNat = a by omega, (e a ha).2.2]
      refine l37 64 0 n1 _ _ _ _ _ rfl (fun c hc => (stK (by omega)).trans (F c hc)) (fun s hs => by rw [stK (by decide)]; exact (e s hs).2.2) ?_
      rw [show stM M 34 a (coV M0 1 a) 36 = M 36 from stK (by decide)]
      have ra := rc a
      refine ⟨by rw [stE]; omega, fun s hs => ?_, fun s hs => .inl (e s hs).2.1, fun s w hs hw z => ?_, fun s t hs ht z => ?_, fun s hs z => ?_, clN_0 64 fun s hs z => ?_⟩
      · by_cases q : s = a
        · subst q
          rw [stE]
          exact .inr ⟨ra.1, by omega, 0, rfl, rfl⟩
        · rw [stO q]
          exact .inl (e s hs).1
      · rw [(e s hs).2.1] at z
        exact absurd z (by decide)
      · rw [(e s hs).2.1] at z
        exact absurd z (by decide)
      · rw [(e s hs).2.1] at z
        exact absurd z (by decide)
      · rw [(e s hs).2.1] at z
        exact absurd z (by decide)
    | succ m ih =>
      intro s n o6 o7 o8 o9 M hs F e
      refine pw_X3_hide_2 hT _ _ _ _ _ _ _ M fun n1 _ => brF (by omega) (gMB (gMB ?_))
      rw [show ((s : Int)).toNat = s by omega, show w32 ((s : Int) + 1) = ((s + 1 : Nat) : Int) from ew32 (by omega) (by omega)]
      have r := snS_r M0 (s : Int)
      refine f_watchersC hT W hS (fun c hc => (stK (by omega)).trans ((stK (by omega)).trans (F c hc))) ⟨by omega, by omega⟩ (cI_i (gMB (ih (s + 1) n1 _ _ _ _ _ (by omega) (fun c hc => (stK (by omega)).trans ((stK (by omega)).trans ((stK (by omega)).trans (F c hc)))) fun j hj => ?_)))
      have ev : w32 (100 * snS M0 (s : Int)) = coV M0 1 s := by
        unfold coV
        rw [if_neg (by decide)]
        exact ew32 (by omega) (by omega)
      rw [ev]
      by_cases q : j = s
      · subst q
        refine ⟨?_, ?_, stE⟩
        · rw [stK (by decide), stK (by decide)]
          exact stE
        · rw [stK (by decide)]
          exact stE
      · rw [stK (k := 35) (c := 34) (by decide), stK (k := 36) (c := 34) (by decide), stO q, stK (k := 35) (c := 36) (by decide), stO q, stK (k := 34) (c := 36) (by decide), stO q, stK (k := 36) (c := 35) (by decide), stK (k := 34) (c := 35) (by decide)]
        exact e j (by omega)
  exact pc_X3_hide hT _ _ M0 fun n1 _ => l2 64 0 n1 none none none none M0 rfl (fun _ _ => rfl) fun j hj => absurd hj (Nat.not_lt_zero j)
abbrev unOk (M : MM) (h s w : Int) : Prop := ((0 ≤ h ∧ h ≤ 9) ∧ 0 ≤ M 86 h.toNat) ∧ (0 ≤ s ∧ s ≤ 63) ∧ (0 ≤ w ∧ w ≤ 1)
def unV (x w : Int) : Int := if x = -1 then -2 else if w = 0 then x / 100 else Int.tmod x 100
/- what unseen tells -/
def unX (M : MM) (h s w x : Int) : Prop := (¬ unOk M h s w → x = -1) ∧ (unOk M h s w → ∃ C : Nat → Int, lcR (M 85) (coV M 1) (M 86 h.toNat).toNat (coV M 1 (M 86 h.toNat).toNat) C ∧ x = unV (C s.toNat) w)
theorem unX_1 {M : MM} {h s w x y : Int} (a : unX M h s w x) (b : unX M h s w y) : y = x := by
  by_cases ok : unOk M h s w
  · obtain ⟨C, d1, d2⟩ := a.2 ok
    obtain ⟨E, e1, e2⟩ := b.2 ok
    rw [d2, e2, lcR_eq rfl e1 d1 s.toNat (by have := ok.2.1; omega)]
  · rw [a.1 ok, b.1 ok]
theorem coV_up {M M1 : MM} (u : UpX M M1) (b : Int) : coV M1 b = coV M b := by
  funext s
  unfold coV
  rw [snS_eq (u.f 82 (by decide)) (u.f 85 (by decide))]
theorem unX_up {M M1 : MM} (u : UpX M M1) {h s w x : Int} (a : unX M h s w x) : unX M1 h s w x := by
  unfold unX unOk at a ⊢
  rw [u.f 86 (by decide), u.f 85 (by decide), coV_up u]
  exact a
set_option maxRecDepth 20000 in
theorem f_unseenC {M0 : MM} (G : GdA M0) {h s w : Int} {n : Nat} : PC sc n m_X11_unseen [vr 0, vi h, vi s, vi w] M0 (fun r _ => ∃ x, r = vi x ∧ unX M0 h s w x) := by
  obtain ⟨T, hT, v0, v1, hr, hh, hS⟩ := G.1.tw
  obtain ⟨-, W, -⟩ := id G.2.2.1
  have hr2 : ∀ x, rfO (FF T 1) x = T + 2 := fun x => by rcases hT with e | e <;> (subst e; rfl)
  have no : ¬ unOk M0 h s w → ∃ x, vi (-1) = vi x ∧ unX M0 h s w x := fun z => ⟨-1, rfl, fun _ => rfl, fun y => absurd y z⟩
  refine pc_X11_unseen _ _ _ M0 fun n1 _ => f_hasSpotC hT v0 (fun z x hx => cI_i (brT hx (no fun y => z ⟨y.1.1, (hh _ (by have := y.1.1; omega)).1.mp y.1.2⟩))) fun h1 x hx => cI_i (brF (by omega) (p_isIn (fun z x hx => cI_i (brT hx (no fun y => z y.2.1))) fun h2 x hx => cI_i (brF (by omega) (p_isIn (fun z x hx => cI_i (brF (by omega) (no fun y => z y.2.2))) fun h3 x hx => cI_i (brT (by omega) ?_)))))
  obtain ⟨i, hi⟩ : ∃ i : Nat, h = (i : Int) := ⟨h.toNat, by omega⟩
  subst hi
  obtain ⟨t, ht⟩ : ∃ t : Nat, s = (t : Int) := ⟨s.toNat, by omega⟩
  subst ht
  have hi : i < 10 := by omega
  have et : ((i : Int)).toNat = i := by omega
  have hs2 : M0 (T + 2) i ≠ -1 := by
    have := h1.2
    rw [et] at this
    exact this
  have h86 : 0 ≤ M0 86 i := (hh i hi).1.mpr hs2
  have r86 := rA_86 G.1.1.1 i
  have e2 : M0 (T + 2) i = M0 86 i := (hh i hi).2 hs2
  have ok : unOk M0 (i : Int) (t : Int) w := ⟨⟨by omega, by rw [et]; exact h86⟩, h2, h3⟩
  rw [v0, show ((T : Int) + 1).toNat - 1 = T by omega, hr2, et, e2]
  obtain ⟨a, ea⟩ : ∃ a : Nat, M0 86 i = (a : Int) := ⟨(M0 86 i).toNat, by omega⟩
  rw [ea]
  refine gMB (gMB (gMB (gMB (f_hideC hT W (hS ⟨i, hi, h86⟩) v1 (by omega) (by omega) fun M1 C hC rC => cI_i ?_))))
  have rt := rC t (by omega)
  have fin : ∀ x, x = unV (C t) w → ∃ y, vi x = vi y ∧ unX M0 (i : Int) (t : Int) w y := fun x hx => ⟨x, rfl, fun z => absurd ok z, fun _ => ⟨C, by rw [et, ea, show ((a : Int)).toNat = a by omega]; exact hC, by rw [show ((t : Int)).toNat = t by omega]; exact hx⟩⟩
  refine brP (fun c => brP (fun hw => fin _ ?_) fun hw => fin _ ?_) fun c => fin _ ?_
  · unfold unV
    rw [if_neg c, if_neg hw]
  · unfold unV
    rw [if_neg c, if_pos (Classical.not_not.mp hw)]
    exact etdiv (by omega) (by omega) (by decide)
  · unfold unV
    rw [if_pos (Classical.not_not.mp c)]
set_option maxRecDepth 20000 in
theorem f_unseenM {M0 : MM} (G : axG M0) {h s w : Int} {n : Nat} : PC sc n m_X12_unseen [vr 81, vi h, vi s, vi w] M0 (fun r _ => ∃ x, r = vi x ∧ unX M0 h s w x) := by
  have no : ¬ unOk M0 h s w → ∃ x, vi (-1) = vi x ∧ unX M0 h s w x := fun z => ⟨-1, rfl, fun _ => rfl, fun y => absurd y z⟩
  refine pc_X12_unseen _ _ _ M0 fun n1 _ => f_hasSpotM (fun z x hx => cI_i (brT hx (no fun y => z y.1))) fun h1 x hx => cI_i (brF (by omega) (p_in (fun z x hx => cI_i (brT hx (no fun y => z y.2.1))) fun h2 x hx => cI_i (brF (by omega) (p_in (fun z x hx => cI_i (brF (by omega) (no fun y => z y.2.2))) fun h3 x hx => cI_i (brT (by omega) (gMB ?_))))))
  have ok : unOk M0 h s w := ⟨h1, h2, h3⟩
  obtain ⟨i, hi⟩ : ∃ i : Nat, h = (i : Int) := ⟨h.toNat, by omega⟩
  subst hi
  obtain ⟨t, ht⟩ : ∃ t : Nat, s = (t : Int) := ⟨s.toNat, by omega⟩
  subst ht
  have et : ((i : Int)).toNat = i := by omega
  have h86 : 0 ≤ M0 86 i := by
    have := h1.2
    rw [et] at this
    exact this
  have r86 := rA_86 G.1 i
  obtain ⟨a, ea⟩ : ∃ a : Nat, M0 86 i = (a : Int) := ⟨(M0 86 i).toNat, by omega⟩
  rw [et, ea]
  refine f_laysM G rfl rfl (by omega) fun M1 C F hC rC => gMB ?_
  obtain ⟨r1, r2, r3⟩ := rC t (by omega)
  rw [show ((t : Int)).toNat = t by omega, r1]
  have fin : ∀ x, x = unV (C t) w → ∃ y, vi x = vi y ∧ unX M0 (i : Int) (t : Int) w y := fun x hx => ⟨x, rfl, fun z => absurd ok z, fun _ => ⟨C, by rw [et, ea, show ((a : Int)).toNat = a by omega]; exact hC, by rw [show ((t : Int)).toNat = t by omega]; exact hx⟩⟩
  unfold cvV
  by_cases c : C t < 0
  · rw [if_pos c]
    refine brF (by decide) (fin _ ?_)
    unfold unV
    rw [if_pos (by omega)]
  · rw [if_neg c]
    refine brT (by omega) (brP (fun hw => gMB (fin _ ?_)) fun hw => gMB (fin _ ?_))
    · unfold unV
      rw [if_neg (by omega), if_neg hw]
    · unfold unV
      rw [if_neg (by omega), if_pos (Classical.not_not.mp hw)]
      exact etdiv (by omega) (by omega) (by decide)
theorem csQ_unseen {M : MM} {h s w : Int} (i0 : in32 h) (i1 : in32 s) (i2 : in32 w) (G : GdA M) : CA FF sc YF 59 m_X11_unseen [vr 0, vi h, vi s, vi w] M (fun r M1 => ∃ x, r = vi x ∧ GdA M1 ∧ unX M1 h s w x) := csR G (by decide +kernel) (cf_unseen i0 i1 i2 G.1.1) (P := fun M x => unX M h s w x) (fun n => f_unseenC G) fun M1 x u => unX_up u
theorem msQ_unseen {M : MM} {h s w x : Int} (i0 : in32 h) (i1 : in32 s) (i2 : in32 w) (G : GdA M ∧ unX M h s w x) : CA FF sc YF 59 m_X12_unseen [vr 81, vi h, vi s, vi w] M (fun r M1 => ∃ y, r = vi y ∧ GdA M1 ∧ y = x) := msR (P := fun M x => unX M h s w x) G (by decide +kernel) (mf_unseen i0 i1 i2 G.1.1.1) (fun n => f_unseenM G.1.1.1) fun y b => unX_1 G.2 b
end CST
