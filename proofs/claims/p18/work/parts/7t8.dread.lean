/-! PART 7t8: FEAR of all who see a spot; the answers of dread -/
theorem pc_X11_dread {sc : List Int} {n : Nat} {Q : Vv → MM → Prop} (v1 : Int) (v2 : Int) (v3 : Int) (M : MM) (h : ∀ n1, n1 < n → PC sc n1 m_X11_hasSpot [vr 0, vi v1] M (cI fun r2 M1 =>
  brA (decide (r2 = 0))
   (Q (vi ((-1))) M1)
   (PC sc n1 m_X11_isIn [vi v2, vi 1, vi 40] M1 (cI fun r4 M3 =>
    brA (decide (r4 = 0))
     (Q (vi ((-1))) M3)
     (PC sc n1 m_X11_isIn [vi v3, vi 0, vi 1] M3 (cI fun r6 M5 =>
      brA (decide (r6 ≠ 0))
       (gIm (decide (0 < M5 0 10)) (gIm (decide (0 < M5 0 12)) (PC sc n1 m_X3_frighten [vr 32, vr ((M5 0 10).toNat - 1), vr ((M5 0 12).toNat - 1), vr 46, vi v1, vi v2] M5 (fun _ M7 =>
        brA (decide (v3 ≠ 0))
         (Q (vi (M7 32 2)) M7)
         (Q (vi (M7 32 1)) M7)))))
       (Q (vi ((-1))) M5))))))) : PC sc n m_X11_dread [vr 0, vi v1, vi v2, vi v3] M Q := pc_go rfl (fun j => false) 42 h
theorem pc_X3_frighten {sc : List Int} {n : Nat} {T : Nat} (hT : T = 57 ∨ T = 61) {L : Nat} (hL : L = 65 ∨ L = 73) {Q : Vv → MM → Prop} (v4 : Int) (v5 : Int) (M : MM) (h : ∀ n1, n1 < n → PW sc n1 m_X3_frighten 2 [] [some (vr 32), some (vr T), some (vr L), some (vr 46), some (vi v4), some (vi v5), some (vi 0), none] M Q) : PC sc n m_X3_frighten [vr 32, vr T, vr L, vr 46, vi v4, vi v5] M Q := by
  rcases hT with rfl | rfl <;> rcases hL with rfl | rfl <;> exact pc_go rfl (fun j => Nat.beq j 2 || Nat.beq j 32 || Nat.beq j 40) 84 h
theorem pw_X3_frighten_2 {sc : List Int} {n : Nat} {T : Nat} (hT : T = 57 ∨ T = 61) {L : Nat} (hL : L = 65 ∨ L = 73) {Q : Vv → MM → Prop} (v4 : Int) (v5 : Int) (v6 : Int) (o7 : Option Vv) (M : MM) (h : ∀ n1, n1 < n → brA (decide (64 ≤ v6))
  (gIm (decide (0 ≤ v4) && decide (v4 < 10)) (gIm (decide (0 ≤ v4) && decide (v4 < 10)) (PC sc n1 m_X3_fearOn [vr 32, vr T, vr L, vr 46, vi v4, vi (M ((T + 2)) v4.toNat), vi 0] M (cI fun r2 M1 =>
   gIm (decide (0 ≤ (M ((T + 2)) v4.toNat)) && decide ((M ((T + 2)) v4.toNat) < 64)) (PW sc n1 m_X3_frighten 32 [] [some (vr 32), some (vr T), some (vr L), some (vr 46), some (vi v4), some (vi v5), some (vi 1), o7] (stM M1 34 ((M ((T + 2)) v4.toNat).toNat) r2) Q)))))
  (gIm (decide (0 ≤ v6) && decide (v6 < 64)) (PW sc n1 m_X3_frighten 2 [] [some (vr 32), some (vr T), some (vr L), some (vr 46), some (vi v4), some (vi v5), some (vi (w32 (v6 + 1))), o7] (stM M 34 (v6.toNat) ((-1))) Q))) : PW sc n m_X3_frighten 2 [] [some (vr 32), some (vr T), some (vr L), some (vr 46), some (vi v4), some (vi v5), some (vi v6), o7] M Q := by
  rcases hT with rfl | rfl <;> rcases hL with rfl | rfl <;> exact pw_go rfl (fun j => Nat.beq j 2 || Nat.beq j 32 || Nat.beq j 40) 84 h
theorem pw_X3_frighten_32 {sc : List Int} {n : Nat} {T : Nat} (hT : T = 57 ∨ T = 61) {L : Nat} (hL : L = 65 ∨ L = 73) {Q : Vv → MM → Prop} (v4 : Int) (v5 : Int) (v6 : Int) (o7 : Option Vv) (M : MM) (h : ∀ n1, n1 < n → brA (decide (v5 ≤ v6))
  (PC sc n1 m_X3_chooseMost [vr 32] M (fun _ M1 =>
   Q (vi 0) M1))
  (PC sc n1 m_X3_stepOn [vr 32, vr T] M (fun _ M2 =>
   PW sc n1 m_X3_frighten 40 [] [some (vr 32), some (vr T), some (vr L), some (vr 46), some (vi v4), some (vi v5), some (vi v6), some (vi 0)] M2 Q))) : PW sc n m_X3_frighten 32 [] [some (vr 32), some (vr T), some (vr L), some (vr 46), some (vi v4), some (vi v5), some (vi v6), o7] M Q := by
  rcases hT with rfl | rfl <;> rcases hL with rfl | rfl <;> exact pw_go rfl (fun j => Nat.beq j 2 || Nat.beq j 32 || Nat.beq j 40) 84 h
theorem pw_X3_frighten_40 {sc : List Int} {n : Nat} {T : Nat} (hT : T = 57 ∨ T = 61) {L : Nat} (hL : L = 65 ∨ L = 73) {Q : Vv → MM → Prop} (v4 : Int) (v5 : Int) (v6 : Int) (v7 : Int) (M : MM) (h : ∀ n1, n1 < n → brA (decide (64 ≤ v7))
  (PW sc n1 m_X3_frighten 32 [] [some (vr 32), some (vr T), some (vr L), some (vr 46), some (vi v4), some (vi v5), some (vi (w32 (v6 + 1))), some (vi v7)] M Q)
  (gIm (decide (0 ≤ v7) && decide (v7 < 64)) (brA (decide ((M 35 v7.toNat) ≠ ((-1))))
   (gIm (decide (0 ≤ v7) && decide (v7 < 64)) (PC sc n1 m_X3_fearOn [vr 32, vr T, vr L, vr 46, vi v4, vi v7, vi v6] M (cI fun r2 M1 =>
    gIm (decide (0 ≤ v7) && decide (v7 < 64)) (PW sc n1 m_X3_frighten 40 [] [some (vr 32), some (vr T), some (vr L), some (vr 46), some (vi v4), some (vi v5), some (vi v6), some (vi (w32 (v7 + 1)))] (stM M1 34 (v7.toNat) (w32 ((M 35 v7.toNat) + r2))) Q))))
   (gIm (decide (0 ≤ v7) && decide (v7 < 64)) (PW sc n1 m_X3_frighten 40 [] [some (vr 32), some (vr T), some (vr L), some (vr 46), some (vi v4), some (vi v5), some (vi v6), some (vi (w32 (v7 + 1)))] (stM M 34 (v7.toNat) ((-1))) Q))))) : PW sc n m_X3_frighten 40 [] [some (vr 32), some (vr T), some (vr L), some (vr 46), some (vi v4), some (vi v5), some (vi v6), some (vi v7)] M Q := by
  rcases hT with rfl | rfl <;> rcases hL with rfl | rfl <;> exact pw_go rfl (fun j => Nat.beq j 2 || Nat.beq j 32 || Nat.beq j 40) 84 h
theorem pc_X3_stepOn {sc : List Int} {n : Nat} {T : Nat} (hT : T = 57 ∨ T = 61) {Q : Vv → MM → Prop}  (M : MM) (h : ∀ n1, n1 < n → PW sc n1 m_X3_stepOn 2 [] [some (vr 32), some (vr T), some (vi 0), none, none] M Q) : PC sc n m_X3_stepOn [vr 32, vr T] M Q := by
  rcases hT with rfl | rfl <;> exact pc_go rfl (fun j => Nat.beq j 2 || Nat.beq j 17 || Nat.beq j 22) 53 h
theorem pw_X3_stepOn_2 {sc : List Int} {n : Nat} {T : Nat} (hT : T = 57 ∨ T = 61) {Q : Vv → MM → Prop} (v2 : Int) (o3 : Option Vv) (o4 : Option Vv) (M : MM) (h : ∀ n1, n1 < n → brA (decide (64 ≤ v2))
  (PW sc n1 m_X3_stepOn 17 [] [some (vr 32), some (vr T), some (vi 0), o3, o4] M Q)
  (gIm (decide (0 ≤ v2) && decide (v2 < 64)) (gIm (decide (0 ≤ v2) && decide (v2 < 64)) (PW sc n1 m_X3_stepOn 2 [] [some (vr 32), some (vr T), some (vi (w32 (v2 + 1))), o3, o4] (stM M 35 (v2.toNat) (M 34 v2.toNat)) Q)))) : PW sc n m_X3_stepOn 2 [] [some (vr 32), some (vr T), some (vi v2), o3, o4] M Q := by
  rcases hT with rfl | rfl <;> exact pw_go rfl (fun j => Nat.beq j 2 || Nat.beq j 17 || Nat.beq j 22) 53 h
theorem pw_X3_stepOn_17 {sc : List Int} {n : Nat} {T : Nat} (hT : T = 57 ∨ T = 61) {Q : Vv → MM → Prop} (v2 : Int) (o3 : Option Vv) (o4 : Option Vv) (M : MM) (h : ∀ n1, n1 < n → brA (decide (64 ≤ v2))
  (Q (vi 0) M)
  (PW sc n1 m_X3_stepOn 22 [] [some (vr 32), some (vr T), some (vi v2), some (vi 0), o4] M Q)) : PW sc n m_X3_stepOn 17 [] [some (vr 32), some (vr T), some (vi v2), o3, o4] M Q := by
  rcases hT with rfl | rfl <;> exact pw_go rfl (fun j => Nat.beq j 2 || Nat.beq j 17 || Nat.beq j 22) 53 h
theorem pw_X3_stepOn_22 {sc : List Int} {n : Nat} {T : Nat} (hT : T = 57 ∨ T = 61) {Q : Vv → MM → Prop} (v2 : Int) (v3 : Int) (o4 : Option Vv) (M : MM) (h : ∀ n1, n1 < n → brA (decide (4 ≤ v3))
  (PW sc n1 m_X3_stepOn 17 [] [some (vr 32), some (vr T), some (vi (w32 (v2 + 1))), some (vi v3), o4] M Q)
  (PC sc n1 m_X9_after [vr T, vi v2, vi v3] M (cI fun r2 M1 =>
   gIm (decide (0 ≤ r2) && decide (r2 < 64)) (gIm (decide (0 ≤ v2) && decide (v2 < 64)) (gIm (decide (0 ≤ r2) && decide (r2 < 64)) (PW sc n1 m_X3_stepOn 22 [] [some (vr 32), some (vr T), some (vi v2), some (vi (w32 (v3 + 1))), some (vi r2)] (stM M1 35 (r2.toNat) (mMax (M1 35 r2.toNat) (M1 34 v2.toNat))) Q)))))) : PW sc n m_X3_stepOn 22 [] [some (vr 32), some (vr T), some (vi v2), some (vi v3), o4] M Q := by
  rcases hT with rfl | rfl <;> exact pw_go rfl (fun j => Nat.beq j 2 || Nat.beq j 17 || Nat.beq j 22) 53 h
theorem pc_X3_fearOn {sc : List Int} {n : Nat} {T : Nat} (hT : T = 57 ∨ T = 61) {L : Nat} (hL : L = 65 ∨ L = 73) {Q : Vv → MM → Prop} (v4 : Int) (v5 : Int) (v6 : Int) (M : MM) (h : ∀ n1, n1 < n → PW sc n1 m_X3_fearOn 4 [] [some (vr 32), some (vr T), some (vr L), some (vr 46), some (vi v4), some (vi v5), some (vi v6), some (vi 0), some (vi 0)] M Q) : PC sc n m_X3_fearOn [vr 32, vr T, vr L, vr 46, vi v4, vi v5, vi v6] M Q := by
  rcases hT with rfl | rfl <;> rcases hL with rfl | rfl <;> exact pc_go rfl (fun j => Nat.beq j 4) 37 h
theorem pw_X3_fearOn_4 {sc : List Int} {n : Nat} {T : Nat} (hT : T = 57 ∨ T = 61) {L : Nat} (hL : L = 65 ∨ L = 73) {Q : Vv → MM → Prop} (v4 : Int) (v5 : Int) (v6 : Int) (v7 : Int) (v8 : Int) (M : MM) (h : ∀ n1, n1 < n → brA (decide (10 ≤ v8))
  (Q (vi v7) M)
  (PC sc n1 m_X8_sees [vr 46, vr T, vi v8, vi v5] M (cI fun r2 M1 =>
   brA (decide (r2 = 0))
    (PW sc n1 m_X3_fearOn 4 [] [some (vr 32), some (vr T), some (vr L), some (vr 46), some (vi v4), some (vi v5), some (vi v6), some (vi v7), some (vi (w32 (v8 + 1)))] M1 Q)
    (gIm (decide (0 ≤ v8) && decide (v8 < 10)) (PC sc n1 m_X11_stepsBetween [vi (M1 47 v8.toNat), vi v5] M1 (cI fun r4 M3 =>
     PC sc n1 m_X0_fearOf [vr L, vr 46, vi v4, vi v8, vi r4, vi v6] M3 (cI fun r6 M5 =>
      PW sc n1 m_X3_fearOn 4 [] [some (vr 32), some (vr T), some (vr L), some (vr 46), some (vi v4), some (vi v5), some (vi v6), some (vi (w32 (v7 + r6))), some (vi (w32 (v8 + 1)))] M5 Q))))))) : PW sc n m_X3_fearOn 4 [] [some (vr 32), some (vr T), some (vr L), some (vr 46), some (vi v4), some (vi v5), some (vi v6), some (vi v7), some (vi v8)] M Q := by
  rcases hT with rfl | rfl <;> rcases hL with rfl | rfl <;> exact pw_go rfl (fun j => Nat.beq j 4) 37 h
theorem pc_X8_seesk {sc : List Int} {n : Nat} {T : Nat} (hT : T = 57 ∨ T = 61) {Q : Vv → MM → Prop} (v2 : Int) (v3 : Int) (M : MM) (h : ∀ n1, n1 < n → PC sc n1 m_X8_isTold [vr 46, vi v2] M (cI fun r2 M1 =>
  brA (decide (r2 = 0))
   (Q (vi 0) M1)
   (gIm (decide (0 ≤ v2) && decide (v2 < 10)) (brA (decide ((M1 50 v2.toNat) ≠ 0))
    (Q (vi 0) M1)
    (gIm (decide (0 ≤ v2) && decide (v2 < 10)) (PC sc n1 m_X9_sees [vr T, vi (M1 47 v2.toNat), vi v3] M1 (cI fun r4 M3 =>
     brA (decide (r4 = 0))
      (Q (vi 0) M3)
      (Q (vi 1) M3)))))))) : PC sc n m_X8_sees [vr 46, vr T, vi v2, vi v3] M Q := by
  rcases hT with rfl | rfl <;> exact pc_go rfl (fun j => false) 26 h
theorem pc_X12_dread {sc : List Int} {n : Nat} {Q : Vv → MM → Prop} (v1 : Int) (v2 : Int) (v3 : Int) (M : MM) (h : ∀ n1, n1 < n → PC sc n1 m_X12_hasSpot [vr 81, vi v1] M (cI fun r2 M1 =>
  brA (decide (r2 = 0))
   (Q (vi ((-1))) M1)
   (PC sc n1 m_X12_in [vi v2, vi 1, vi 40] M1 (cI fun r4 M3 =>
    brA (decide (r4 = 0))
     (Q (vi ((-1))) M3)
     (PC sc n1 m_X12_in [vi v3, vi 0, vi 1] M3 (cI fun r6 M5 =>
      brA (decide (r6 ≠ 0))
       (PW sc n1 m_X12_dread 18 [] [some (vr 81), some (vi v1), some (vi v2), some (vi v3), some (vi 0), none, none, none] M5 Q)
       (Q (vi ((-1))) M5))))))) : PC sc n m_X12_dread [vr 81, vi v1, vi v2, vi v3] M Q := pc_go rfl (fun j => Nat.beq j 18 || Nat.beq j 42 || Nat.beq j 47 || Nat.beq j 59 || Nat.beq j 64 || Nat.beq j 96 || Nat.beq j 128) 158 h
theorem pw_X12_dread_18 {sc : List Int} {n : Nat} {Q : Vv → MM → Prop} (v1 : Int) (v2 : Int) (v3 : Int) (v4 : Int) (o5 : Option Vv) (o6 : Option Vv) (o7 : Option Vv) (M : MM) (h : ∀ n1, n1 < n → brA (decide (64 ≤ v4))
  (PW sc n1 m_X12_dread 42 [] [some (vr 81), some (vi v1), some (vi v2), some (vi v3), some (vi 1), o5, o6, o7] M Q)
  (gIm (decide (0 ≤ v1) && decide (v1 < 10)) (brA (decide (v4 ≠ (M 86 v1.toNat)))
   (gIm (decide (0 ≤ v4) && decide (v4 < 64)) (PW sc n1 m_X12_dread 18 [] [some (vr 81), some (vi v1), some (vi v2), some (vi v3), some (vi (w32 (v4 + 1))), o5, o6, o7] (stM M 112 (v4.toNat) ((-1000000000))) Q))
   (PC sc n1 m_X12_fearAt [vr 81, vi v1, vi v4, vi 0] M (cI fun r2 M1 =>
    gIm (decide (0 ≤ v4) && decide (v4 < 64)) (PW sc n1 m_X12_dread 18 [] [some (vr 81), some (vi v1), some (vi v2), some (vi v3), some (vi (w32 (v4 + 1))), o5, o6, o7] (stM M1 112 (v4.toNat) r2) Q)))))) : PW sc n m_X12_dread 18 [] [some (vr 81), some (vi v1), some (vi v2), some (vi v3), some (vi v4), o5, o6, o7] M Q := pw_go rfl (fun j => Nat.beq j 18 || Nat.beq j 42 || Nat.beq j 47 || Nat.beq j 59 || Nat.beq j 64 || Nat.beq j 96 || Nat.beq j 128) 158 h
theorem pw_X12_dread_42 {sc : List Int} {n : Nat} {Q : Vv → MM → Prop} (v1 : Int) (v2 : Int) (v3 : Int) (v4 : Int) (o5 : Option Vv) (o6 : Option Vv) (o7 : Option Vv) (M : MM) (h : ∀ n1, n1 < n → brA (decide (v2 ≤ v4))
  (PW sc n1 m_X12_dread 128 [] [some (vr 81), some (vi v1), some (vi v2), some (vi v3), some (vi 0), some (vi 1), o6, o7] M Q)
  (PW sc n1 m_X12_dread 47 [] [some (vr 81), some (vi v1), some (vi v2), some (vi v3), some (vi v4), some (vi 0), o6, o7] M Q)) : PW sc n m_X12_dread 42 [] [some (vr 81), some (vi v1), some (vi v2), some (vi v3), some (vi v4), o5, o6, o7] M Q := pw_go rfl (fun j => Nat.beq j 18 || Nat.beq j 42 || Nat.beq j 47 || Nat.beq j 59 || Nat.beq j 64 || Nat.beq j 96 || Nat.beq j 128) 158 h
theorem pw_X12_dread_47 {sc : List Int} {n : Nat} {Q : Vv → MM → Prop} (v1 : Int) (v2 : Int) (v3 : Int) (v4 : Int) (v5 : Int) (o6 : Option Vv) (o7 : Option Vv) (M : MM) (h : ∀ n1, n1 < n → brA (decide (64 ≤ v5))
  (PW sc n1 m_X12_dread 59 [] [some (vr 81), some (vi v1), some (vi v2), some (vi v3), some (vi v4), some (vi 0), o6, o7] M Q)
  (gIm (decide (0 ≤ v5) && decide (v5 < 64)) (PW sc n1 m_X12_dread 47 [] [some (vr 81), some (vi v1), some (vi v2), some (vi v3), some (vi v4), some (vi (w32 (v5 + 1))), o6, o7] (stM M 113 (v5.toNat) ((-1000000000))) Q))) : PW sc n m_X12_dread 47 [] [some (vr 81), some (vi v1), some (vi v2), some (vi v3), some (vi v4), some (vi v5), o6, o7] M Q := pw_go rfl (fun j => Nat.beq j 18 || Nat.beq j 42 || Nat.beq j 47 || Nat.beq j 59 || Nat.beq j 64 || Nat.beq j 96 || Nat.beq j 128) 158 h
theorem pw_X12_dread_59 {sc : List Int} {n : Nat} {Q : Vv → MM → Prop} (v1 : Int) (v2 : Int) (v3 : Int) (v4 : Int) (v5 : Int) (o6 : Option Vv) (o7 : Option Vv) (M : MM) (h : ∀ n1, n1 < n → brA (decide (64 ≤ v5))
  (PW sc n1 m_X12_dread 96 [] [some (vr 81), some (vi v1), some (vi v2), some (vi v3), some (vi v4), some (vi 0), o6, o7] M Q)
  (PW sc n1 m_X12_dread 64 [] [some (vr 81), some (vi v1), some (vi v2), some (vi v3), some (vi v4), some (vi v5), some (vi 0), o7] M Q)) : PW sc n m_X12_dread 59 [] [some (vr 81), some (vi v1), some (vi v2), some (vi v3), some (vi v4), some (vi v5), o6, o7] M Q := pw_go rfl (fun j => Nat.beq j 18 || Nat.beq j 42 || Nat.beq j 47 || Nat.beq j 59 || Nat.beq j 64 || Nat.beq j 96 || Nat.beq j 128) 158 h
theorem pw_X12_dread_64 {sc : List Int} {n : Nat} {Q : Vv → MM → Prop} (v1 : Int) (v2 : Int) (v3 : Int) (v4 : Int) (v5 : Int) (v6 : Int) (o7 : Option Vv) (M : MM) (h : ∀ n1, n1 < n → brA (decide (5 ≤ v6))
  (PW sc n1 m_X12_dread 59 [] [some (vr 81), some (vi v1), some (vi v2), some (vi v3), some (vi v4), some (vi (w32 (v5 + 1))), some (vi v6), o7] M Q)
  (gIm (decide (0 ≤ v5) && decide (v5 < 64)) (brA (decide ((M 112 v5.toNat) < 0))
   (PW sc n1 m_X12_dread 59 [] [some (vr 81), some (vi v1), some (vi v2), some (vi v3), some (vi v4), some (vi (w32 (v5 + 1))), some (vi v6), o7] M Q)
   (PC sc n1 m_X12_stepTo [vr 81, vi v5, vi v6] M (cI fun r2 M1 =>
    gIm (decide (0 ≤ r2) && decide (r2 < 64)) (gIm (decide (0 ≤ v5) && decide (v5 < 64)) (PC sc n1 m_X12_max [vi (M1 113 r2.toNat), vi (M1 112 v5.toNat)] M1 (cI fun r4 M3 =>
     gIm (decide (0 ≤ r2) && decide (r2 < 64)) (PW sc n1 m_X12_dread 64 [] [some (vr 81), some (vi v1), some (vi v2), some (vi v3), some (vi v4), some (vi v5), some (vi (w32 (v6 + 1))), some (vi r2)] (stM M3 113 (r2.toNat) r4) Q))))))))) : PW sc n m_X12_dread 64 [] [some (vr 81), some (vi v1), some (vi v2), some (vi v3), some (vi v4), some (vi v5), some (vi v6), o7] M Q := pw_go rfl (fun j => Nat.beq j 18 || Nat.beq j 42 || Nat.beq j 47 || Nat.beq j 59 || Nat.beq j 64 || Nat.beq j 96 || Nat.beq j 128) 158 h
theorem pw_X12_dread_96 {sc : List Int} {n : Nat} {Q : Vv → MM → Prop} (v1 : Int) (v2 : Int) (v3 : Int) (v4 : Int) (v5 : Int) (o6 : Option Vv) (o7 : Option Vv) (M : MM) (h : ∀ n1, n1 < n → brA (decide (64 ≤ v5))
  (PW sc n1 m_X12_dread 42 [] [some (vr 81), some (vi v1), some (vi v2), some (vi v3), some (vi (w32 (v4 + 1))), some (vi v5), o6, o7] M Q)
  (gIm (decide (0 ≤ v5) && decide (v5 < 64)) (brA (decide (0 ≤ (M 113 v5.toNat)))
   (gIm (decide (0 ≤ v5) && decide (v5 < 64)) (PC sc n1 m_X12_fearAt [vr 81, vi v1, vi v5, vi v4] M (cI fun r2 M1 =>
    gIm (decide (0 ≤ v5) && decide (v5 < 64)) (PW sc n1 m_X12_dread 96 [] [some (vr 81), some (vi v1), some (vi v2), some (vi v3), some (vi v4), some (vi (w32 (v5 + 1))), o6, o7] (stM M1 112 (v5.toNat) (w32 ((M 113 v5.toNat) + r2))) Q))))
   (gIm (decide (0 ≤ v5) && decide (v5 < 64)) (PW sc n1 m_X12_dread 96 [] [some (vr 81), some (vi v1), some (vi v2), some (vi v3), some (vi v4), some (vi (w32 (v5 + 1))), o6, o7] (stM M 112 (v5.toNat) ((-1000000000))) Q))))) : PW sc n m_X12_dread 96 [] [some (vr 81), some (vi v1), some (vi v2), some (vi v3), some (vi v4), some (vi v5), o6, o7] M Q := pw_go rfl (fun j => Nat.beq j 18 || Nat.beq j 42 || Nat.beq j 47 || Nat.beq j 59 || Nat.beq j 64 || Nat.beq j 96 || Nat.beq j 128) 158 h
theorem pw_X12_dread_128 {sc : List Int} {n : Nat} {Q : Vv → MM → Prop} (v1 : Int) (v2 : Int) (v3 : Int) (v4 : Int) (v5 : Int) (o6 : Option Vv) (o7 : Option Vv) (M : MM) (h : ∀ n1, n1 < n → brA (decide (64 ≤ v5))
  (brA (decide (v3 ≠ 0))
   (Q (vi v4) M)
   (gIm (decide (0 ≤ v4) && decide (v4 < 64)) (Q (vi (M 112 v4.toNat)) M)))
  (gIm (decide (0 ≤ v5) && decide (v5 < 64)) (gIm (decide (0 ≤ v4) && decide (v4 < 64)) (brA (decide ((M 112 v5.toNat) ≤ (M 112 v4.toNat)))
   (PW sc n1 m_X12_dread 128 [] [some (vr 81), some (vi v1), some (vi v2), some (vi v3), some (vi v4), some (vi (w32 (v5 + 1))), o6, o7] M Q)
   (PW sc n1 m_X12_dread 128 [] [some (vr 81), some (vi v1), some (vi v2), some (vi v3), some (vi v5), some (vi (w32 (v5 + 1))), o6, o7] M Q))))) : PW sc n m_X12_dread 128 [] [some (vr 81), some (vi v1), some (vi v2), some (vi v3), some (vi v4), some (vi v5), o6, o7] M Q := pw_go rfl (fun j => Nat.beq j 18 || Nat.beq j 42 || Nat.beq j 47 || Nat.beq j 59 || Nat.beq j 64 || Nat.beq j 96 || Nat.beq j 128) 158 h
theorem pc_X12_fearAt {sc : List Int} {n : Nat} {Q : Vv → MM → Prop} (v1 : Int) (v2 : Int) (v3 : Int) (M : MM) (h : ∀ n1, n1 < n → PW sc n1 m_X12_fearAt 4 [] [some (vr 81), some (vi v1), some (vi v2), some (vi v3), some (vi 0), some (vi 0)] M Q) : PC sc n m_X12_fearAt [vr 81, vi v1, vi v2, vi v3] M Q := pc_go rfl (fun j => Nat.beq j 4) 39 h
theorem pw_X12_fearAt_4 {sc : List Int} {n : Nat} {Q : Vv → MM → Prop} (v1 : Int) (v2 : Int) (v3 : Int) (v4 : Int) (v5 : Int) (M : MM) (h : ∀ n1, n1 < n → brA (decide (10 ≤ v5))
  (Q (vi v4) M)
  (PC sc n1 m_X12_isThere [vr 81, vi v5] M (cI fun r2 M1 =>
   brA (decide (r2 = 0))
    (PW sc n1 m_X12_fearAt 4 [] [some (vr 81), some (vi v1), some (vi v2), some (vi v3), some (vi v4), some (vi (w32 (v5 + 1)))] M1 Q)
    (gIm (decide (0 ≤ (w32 (0 + v5))) && decide ((w32 (0 + v5)) < 36)) (PC sc n1 m_X12_isSeen [vr 81, vi (M1 82 (w32 (0 + v5)).toNat), vi v2] M1 (cI fun r4 M3 =>
     brA (decide (r4 = 0))
      (PW sc n1 m_X12_fearAt 4 [] [some (vr 81), some (vi v1), some (vi v2), some (vi v3), some (vi v4), some (vi (w32 (v5 + 1)))] M3 Q)
      (PC sc n1 m_X12_fearOf [vr 81, vi v1, vi v5, vi v2, vi v3] M3 (cI fun r6 M5 =>
       PW sc n1 m_X12_fearAt 4 [] [some (vr 81), some (vi v1), some (vi v2), some (vi v3), some (vi (w32 (v4 + r6))), some (vi (w32 (v5 + 1)))] M5 Q)))))))) : PW sc n m_X12_fearAt 4 [] [some (vr 81), some (vi v1), some (vi v2), some (vi v3), some (vi v4), some (vi v5)] M Q := pw_go rfl (fun j => Nat.beq j 4) 39 h
/- who is there, has not paid and sees the spot -/
def sgV (R K : Nat → Int) (s : Int) (g : Nat) : Bool := (bit (R 30) g && !bit (R 31) g) && seeB K (R g) s
theorem sgV_t {R K : Nat → Int} {s : Int} {g : Nat} (h1 : bit (R 30) g = true) (h2 : bit (R 31) g = false) (h3 : seeB K (R g) s = true) : sgV R K s g = true := by
  unfold sgV
  rw [h1, h2, h3]
  rfl
theorem sgV_f {R K : Nat → Int} {s : Int} {g : Nat} (h : ¬ (bit (R 30) g = true ∧ bit (R 31) g = false ∧ seeB K (R g) s = true)) : sgV R K s g = false := by
  unfold sgV
  cases h1 : bit (R 30) g
  · rfl
  · cases h2 : bit (R 31) g
    · cases h3 : seeB K (R g) s
      · rfl
      · exact absurd ⟨h1, h2, h3⟩ h
    · rfl
def faV (p : Nat → Bool) (f : Nat → Int) (n i : Nat) (acc : Int) : Int := match n with
  | 0 => acc
  | n + 1 => if p i = true then faV p f n (i + 1) (acc + f i) else faV p f n (i + 1) acc
theorem faV_s (p : Nat → Bool) (f : Nat → Int) (n i : Nat) (acc : Int) : faV p f (n + 1) i acc = if p i = true then faV p f n (i + 1) (acc + f i) else faV p f n (i + 1) acc := rfl
theorem faV_r {p : Nat → Bool} {f : Nat → Int} {b : Int} (hf : ∀ i, 0 ≤ f i ∧ f i ≤ b) : ∀ (n i : Nat) (acc : Int), acc ≤ faV p f n i acc ∧ faV p f n i acc ≤ acc + b * n := by
  intro n
  induction n with
  | zero => intro i acc; exact ⟨Int.le_refl _, by show acc ≤ acc + b * 0; omega⟩
  | succ n ih =>
    intro i acc
    have h := hf i
    have e : b * ((n + 1 : Nat) : Int) = b * n + b := by rw [Int.natCast_add, Int.mul_add]; show b * n + b * 1 = _; omega
    rw [faV_s, e]
    split
    · have z := ih (i + 1) (acc + f i)
      omega
    · have z := ih (i + 1) acc
      omega
/- the FEAR of all who see the spot -/
def faS (M : MM) (h : Int) (s t : Int) : Int := faV (sgV (M 82) (M 85) s) (fun g => fwV M (M 82) h g s (M 82 (10 + g)) t) 10 0 0
theorem faS_r (M : MM) (h s t : Int) : 0 ≤ faS M h s t ∧ faS M h s t ≤ 990 := faV_r (b := 99) (fun i => fwV_r M (M 82) h i s (M 82 (10 + i)) t) 10 0 0
theorem faS_up {M M1 : MM} (u : UpX M M1) (h s t : Int) : faS M1 h s t = faS M h s t := by
  unfold faS
  rw [fwV_eq (u 81 (by decide) 19) (fun c _ _ => u.f c (by omega)), u.f 82 (by decide), u.f 85 (by decide)]
section DRD
variable {sc : List Int} {Q : Vv → MM → Prop} {L T : Nat}
set_option maxRecDepth 20000 in
theorem f_seesK (hT : T = 57 ∨ T = 61) {R K : Nat → Int} {M : MM} {g n : Nat} (hg : g < 10) (W : nwG (M 47) (M 48) (M 49) (M 50) R g) (hS : ∀ f t : Nat, f < 64 → t < 64 → bil (M (T + 3) f) t = seeB K f t) {s : Int} (hs : 0 ≤ s ∧ s ≤ 63) (k0 : sgV R K s g = false → ∀ x : Int, x = 0 → Q (vi x) M) (k1 : bit (R 30) g = true → bit (R 31) g = false → seeB K (R g) s = true → ∀ x : Int, x = 1 → Q (vi x) M) : PC sc n m_X8_sees [vr 46, vr T, vi (g : Int), vi s] M Q := by
  obtain ⟨c1, c2⟩ := W
  refine pc_X8_seesk hT _ _ M fun n1 _ => p_isToldK hg (fun h x hx => cI_i (brT hx (k0 (sgV_f fun z => ?_) 0 rfl))) fun h x hx => cI_i (brF (by omega) ?_)
  · obtain ⟨⟨d1, d2, d3⟩, -⟩ := c1 z.1
    omega
  · rw [show ((g : Int)).toNat = g by omega]
    have b1 : bit (R 30) g = true := by
      cases e : bit (R 30) g
      · exact absurd (c2 e).1 h
      · rfl
    obtain ⟨⟨d1, d2, d3⟩, d4, d5, d6⟩ := c1 b1
    rw [d6, d1]
    cases e : bit (R 31) g
    · refine gMB (brF (by rw [if_neg (by decide)]; decide) (gMB (f_sees hT ⟨d2, d3⟩ hS (fun q x hx => cI_i (brT hx (k0 (sgV_f fun z => q ⟨by omega, z.2.2⟩) 0 rfl))) fun _ q x hx => cI_i (brF (by omega) (k1 b1 e q 1 rfl)))))
    · exact gMB (brT (by rw [if_pos rfl]; decide) (k0 (sgV_f fun z => by rw [e] at z; exact absurd z.2.1 (by decide)) 0 rfl))
/- what the searches over spots leave as it was, class -/
def drF (L : Nat) (M0 M : MM) : Prop := (∀ c, (c < 32 ∨ 36 < c) → c ≠ L → c ≠ L + 6 → c ≠ L + 7 → M c = M0 c) ∧ ∀ j, j ≠ 9 → j ≠ 10 → M L j = M0 L j
theorem drF.lq {M0 M M1 : MM} (f : drF L M0 M) (g : lqF L M M1) : drF L M0 M1 := ⟨fun c c1 c2 c3 c4 => (g.1 c c2 c3 c4).trans (f.1 c c1 c2 c3 c4), fun j j1 j2 => (g.2 j j1 j2).trans (f.2 j j1 j2)⟩
theorem drF.st (hL : L = 65 ∨ L = 73) {M0 M : MM} (f : drF L M0 M) {k j : Nat} {v : Int} (hk : 32 ≤ k ∧ k ≤ 36) : drF L M0 (stM M k j v) := ⟨fun c c1 c2 c3 c4 => (stK (by omega)).trans (f.1 c c1 c2 c3 c4), fun i i1 i2 => (stN (by omega)).trans (f.2 i i1 i2)⟩
theorem drF.cg (hL : L = 65 ∨ L = 73) {M0 M M1 : MM} (f : drF L M0 M) (g : ∀ c, (c < 32 ∨ 36 < c) → M1 c = M c) : drF L M0 M1 := ⟨fun c c1 c2 c3 c4 => (g c c1).trans (f.1 c c1 c2 c3 c4), fun i i1 i2 => by rw [g L (by omega)]; exact f.2 i i1 i2⟩
theorem drF.R (hL : L = 65 ∨ L = 73) {M0 M : MM} {q : LC} {cl : CL} (f : drF L M0 M) (R : rL1 M0 L q cl) : rL1 M L q cl := R.eq (f.2 0 (by decide) (by decide)) (f.2 6 (by decide) (by decide)) (fun c c1 c2 j _ => by rw [f.1 c (by omega) (by omega) (by omega) (by omega)]) (by rw [f.1 81 (by omega) (by omega) (by omega) (by omega)]) fun c c1 c2 j => by rw [f.1 c (by omega) (by omega) (by omega) (by omega)]
theorem lqF.rf {M : MM} : lqF L M M := ⟨fun _ _ _ _ => rfl, fun _ _ _ => rfl⟩
set_option maxRecDepth 20000 in
theorem f_fearOnC (hL : L = 65 ∨ L = 73) (hT : T = 57 ∨ T = 61) {q : LC} {cl : CL} {M0 : MM} (R0 : rL1 M0 L q cl) (W : nwO M0 46 (M0 82)) (hS : ∀ f t : Nat, f < 64 → t < 64 → bil (M0 (T + 3) f) t = seeB (M0 85) f t) {M : MM} (F : drF L M0 M) {h s t : Int} (hs : 0 ≤ s ∧ s ≤ 63) {n : Nat} (k : ∀ M1, lqF L M M1 → Q (vi (faS M0 h s t)) M1) : PC sc n m_X3_fearOn [vr 32, vr T, vr L, vr 46, vi h, vi s, vi t] M Q := by
  have lp : ∀ (m i n : Nat) (acc : Int) (M1 : MM), i + m = 10 → lqF L M M1 → 0 ≤ acc → acc ≤ 99 * (i : Int) → faS M0 h s t = faV (sgV (M0 82) (M0 85) s) (fun g => fwV M0 (M0 82) h g s (M0 82 (10 + g)) t) m i acc → PW sc n m_X3_fearOn 4 [] [some (vr 32), some (vr T), some (vr L), some (vr 46), some (vi h), some (vi s), some (vi t), some (vi acc), some (vi (i : Int))] M1 Q := by
    intro m
    induction m with
    | zero =>
      intro i n acc M1 hi F1 _ _ e
      have hi : i = 10 := hi
      subst hi
      have e : faS M0 h s t = acc := e
      refine pw_X3_fearOn_4 hT hL _ _ _ _ _ M1 fun n1 _ => brT (by decide) ?_
      rw [← e]
      exact k M1 F1
    | succ m ih =>
      intro i n acc M1 hi F1 h0 h1 e
      rw [faV_s] at e
      have hi10 : i < 10 := by omega
      have F2 := F.lq F1
      have o : ∀ c, (c < 32 ∨ 36 < c) → c ≠ L → c ≠ L + 6 → c ≠ L + 7 → M1 c = M0 c := F2.1
      have o46 : ∀ c, 46 ≤ c → c ≤ 50 → M1 c = M0 c := fun c c1 c2 => o c (by omega) (by omega) (by omega) (by omega)
      have w0 := W.1 i hi10
      have w1 : nwG (M1 47) (M1 48) (M1 49) (M1 50) (M0 82) i := by
        rw [o46 47 (by decide) (by decide), o46 48 (by decide) (by decide), o46 49 (by decide) (by decide), o46 50 (by decide) (by decide)]
        exact w0
      refine pw_X3_fearOn_4 hT hL _ _ _ _ _ M1 fun n1 _ => brF (by omega) ?_
      rw [show w32 ((i : Int) + 1) = ((i + 1 : Nat) : Int) from ew32 (by omega) (by omega)]
      refine f_seesK hT hi10 w1 (K := M0 85) (by rw [o (T + 3) (by omega) (by omega) (by omega) (by omega)]; exact hS) hs (fun no x hx => cI_i (brT hx (ih (i + 1) n1 acc M1 (by omega) F1 h0 (by omega) ?_))) fun b1 b2 b3 x hx => cI_i (brF (by omega) (gMB ?_))
      · rw [no, if_neg (by decide)] at e
        exact e
      · rw [if_pos (sgV_t b1 b2 b3)] at e
        obtain ⟨⟨y1, -, -⟩, y3, y4, -⟩ := w1.1 b1
        have y1 : M1 (46 + 1) i = M0 82 i := y1
        rw [show ((i : Int)).toNat = i by omega]
        refine f_stepsBetween (cI_i (f_fearOfC hL (.inr (.inl rfl)) (F2.R hL R0) .rf fun M2 f2 => cI_i ?_))
        have ew : bl M1 (Fst h (M1 46 6) (i : Int) (faO (M1 (46 + 1) i) s) (M1 (46 + 2) ((i : Int)).toNat) (M1 (46 + 3) ((i : Int)).toNat) t) 102 99 = fwV M0 (M0 82) h i s (M0 82 (10 + i)) t := by
          rw [show ((i : Int)).toNat = i by omega, y1, show M1 (46 + 2) i = M0 82 (10 + i) from y3, show M1 (46 + 3) i = M0 82 (20 + i) from y4, o46 46 (by decide) (by decide), show M0 46 6 = M0 82 34 from W.2.1.2.1]
          exact bl_eq (by rw [o 81 (by decide) (by omega) (by omega) (by omega)]) (fun c c1 c2 => o c (by omega) (by omega) (by omega) (by omega)) _ _ _
        rw [ew]
        have hw := fwV_r M0 (M0 82) h i s (M0 82 (10 + i)) t
        rw [show w32 (acc + fwV M0 (M0 82) h i s (M0 82 (10 + i)) t) = acc + fwV M0 (M0 82) h i s (M0 82 (10 + i)) t from ew32 (by omega) (by omega)]
        exact ih (i + 1) n1 _ M2 (by omega) (F1.tr f2) (by omega) (by omega) e
  exact pc_X3_fearOn hT hL _ _ _ M fun n1 _ => lp 10 0 n1 0 M rfl .rf (by decide) (by decide) rfl
set_option maxRecDepth 20000 in
theorem f_fearAtM {M0 : MM} (G : axG M0) {M : MM} (F : ∀ c, (c < 108 ∨ 113 < c) → M c = M0 c) {h s t : Int} (hs : 0 ≤ s ∧ s ≤ 63) {n : Nat} (k : ∀ M1, (∀ c, c ≠ 108 → c ≠ 109 → M1 c = M c) → Q (vi (faS M0 h s t)) M1) : PC sc n m_X12_fearAt [vr 81, vi h, vi s, vi t] M Q := by
  have lp : ∀ (m i n : Nat) (acc : Int) (M1 : MM), i + m = 10 → (∀ c, c ≠ 108 → c ≠ 109 → M1 c = M c) → 0 ≤ acc → acc ≤ 99 * (i : Int) → faS M0 h s t = faV (sgV (M0 82) (M0 85) s) (fun g => fwV M0 (M0 82) h g s (M0 82 (10 + g)) t) m i acc → PW sc n m_X12_fearAt 4 [] [some (vr 81), some (vi h), some (vi s), some (vi t), some (vi acc), some (vi (i : Int))] M1 Q := by
    intro m
    induction m with
    | zero =>
      intro i n acc M1 hi F1 _ _ e
      have hi : i = 10 := hi
      subst hi
      have e : faS M0 h s t = acc := e
      refine pw_X12_fearAt_4 _ _ _ _ _ M1 fun n1 _ => brT (by decide) ?_
      rw [← e]
      exact k M1 F1
    | succ m ih =>
      intro i n acc M1 hi F1 h0 h1 e
      rw [faV_s] at e
      have hi10 : i < 10 := by omega
      have o : ∀ c, (c < 108 ∨ 113 < c) → M1 c = M0 c := fun c hc => (F1 c (by omega) (by omega)).trans (F c hc)
      have rg := r82s G.1 i hi10
      refine pw_X12_fearAt_4 _ _ _ _ _ M1 fun n1 _ => brF (by omega) ?_
      rw [show w32 ((i : Int) + 1) = ((i + 1 : Nat) : Int) from ew32 (by omega) (by omega), show w32 (0 + (i : Int)) = (i : Int) by rw [Int.zero_add]; exact ew32 (by omega) (by omega), show ((i : Int)).toNat = i by omega]
      have no : sgV (M0 82) (M0 85) s i = false → ∀ n, PW sc n m_X12_fearAt 4 [] [some (vr 81), some (vi h), some (vi s), some (vi t), some (vi acc), some (vi ((i + 1 : Nat) : Int))] M1 Q := fun z n => ih (i + 1) n acc M1 (by omega) F1 h0 (by omega) (by rw [z, if_neg (by decide)] at e; exact e)
      refine p_isThereM hi10 (fun q x hx => cI_i (brT hx (no (sgV_f fun z => q ?_) n1))) fun b1 b2 x hx => cI_i (brF (by omega) (gMB ?_))
      · rw [o 82 (by decide)]
        exact ⟨z.1, z.2.1⟩
      rw [o 82 (by decide)] at b1 b2 ⊢
      refine f_isSeen ⟨rg.1, rg.2⟩ hs (fun b3 x hx => cI_i (brT hx (no (sgV_f fun z => ?_) n1))) fun b3 x hx => cI_i (brF (by omega) ?_)
      · rw [o 85 (by decide)] at b3
        exact absurd (b3.symm.trans z.2.2) (by decide)
      rw [o 85 (by decide)] at b3
      rw [if_pos (sgV_t b1 b2 b3)] at e
      refine f_fearOfM hi10 ((lwJ.of G).eq (by rw [o 81 (by decide)]) fun c c1 c2 => o c (by omega)) fun M2 f2 => cI_i ?_
      have ew : bl M1 (Fst h (M1 82 34) (i : Int) (faO (M1 82 i) s) (M1 82 (10 + i)) (M1 82 (20 + i)) t) 102 99 = fwV M0 (M0 82) h i s (M0 82 (10 + i)) t := by
        rw [o 82 (by decide)]
        exact bl_eq (by rw [o 81 (by decide)]) (fun c c1 c2 => o c (by omega)) _ _ _
      rw [ew]
      have hw := fwV_r M0 (M0 82) h i s (M0 82 (10 + i)) t
      rw [show w32 (acc + fwV M0 (M0 82) h i s (M0 82 (10 + i)) t) = acc + fwV M0 (M0 82) h i s (M0 82 (10 + i)) t from ew32 (by omega) (by omega)]
      exact ih (i + 1) n1 _ M2 (by omega) (fun c c1 c2 => (f2 c c1 c2).trans (F1 c c1 c2)) (by omega) (by omega) e
  exact pc_X12_fearAt _ _ _ M fun n1 _ => lp 10 0 n1 0 M rfl (fun _ _ _ => rfl) (by decide) (by decide) rfl
end DRD
/- what one more STEP (or none) can come to -/
def stU (K D N : Nat → Int) : Prop := (∀ s w : Nat, s < 64 → w < 5 → 0 ≤ D s → D s ≤ N (stpV K s w).toNat) ∧ ∀ t, t < 64 → N t = -1 ∨ ∃ s w : Nat, s < 64 ∧ w < 5 ∧ (stpV K s w).toNat = t ∧ N t = D s ∧ 0 ≤ D s
theorem stU_le {K D D' N N' : Nat → Int} (hD : ∀ s, s < 64 → D s = D' s) (h : stU K D N) (h' : stU K D' N') : ∀ t, t < 64 → N t ≤ N' t := fun t ht => by
  rcases h.2 t ht with e | ⟨s, w, s1, s2, s3, s4, s5⟩
  · rcases h'.2 t ht with e' | ⟨s, w, s1, s2, s3, s4, s5⟩ <;> omega
  · have z := h'.1 s w s1 s2 (by rw [← hD s s1]; exact s5)
    rw [s3, ← hD s s1] at z
    omega
theorem stU_eq {K D D' N N' : Nat → Int} (hD : ∀ s, s < 64 → D s = D' s) (h : stU K D N) (h' : stU K D' N') : ∀ t, t < 64 → N t = N' t := fun t ht => Int.le_antisymm (stU_le hD h h' t ht) (stU_le (fun s hs => (hD s hs).symm) h' h t ht)
/- the FEAR that a way can make, by the spot in which it ends -/
def drR (M : MM) (h : Nat) (n : Nat) (D : Nat → Int) : Prop := match n with
  | 0 => ∀ s : Nat, s < 64 → D s = if (s : Int) = M 86 h then faS M (h : Int) (s : Int) 0 else -1
  | n + 1 => ∃ D' N : Nat → Int, drR M h n D' ∧ stU (M 85) D' N ∧ ∀ s : Nat, s < 64 → D s = if N s = -1 then -1 else N s + faS M (h : Int) (s : Int) ((n + 1 : Nat) : Int)
theorem drR_eq {M : MM} {h : Nat} : ∀ (n : Nat) (D D' : Nat → Int), drR M h n D → drR M h n D' → ∀ s, s < 64 → D s = D' s := by
  intro n
  induction n with
  | zero => intro D D' e e' s hs; rw [e s hs, e' s hs]
  | succ n ih =>
    intro D D' ⟨E, N, a, b, c⟩ ⟨E', N', a', b', c'⟩ s hs
    rw [c s hs, c' s hs, stU_eq (ih E E' a a') b b' s hs]
theorem drR_r {M : MM} {h : Nat} : ∀ (n : Nat) (D : Nat → Int), drR M h n D → ∀ s, s < 64 → -1 ≤ D s ∧ D s ≤ 990 * ((n + 1 : Nat) : Int) := by
  intro n
  induction n with
  | zero =>
    intro D e s hs
    have r := faS_r M (h : Int) (s : Int) 0
    rw [e s hs]
    split <;> omega
  | succ n ih =>
    intro D ⟨E, N, a, b, c⟩ s hs
    have r := faS_r M (h : Int) (s : Int) ((n + 1 : Nat) : Int)
    rw [c s hs]
    rcases b.2 s hs with e | ⟨s', w, s1, s2, s3, s4, s5⟩
    · rw [if_pos e]
      omega
    · have z := ih E a s' s1
      rw [if_neg (by omega)]
      omega
theorem drR_h {M : MM} {h : Nat} (hh : 0 ≤ M 86 h ∧ M 86 h ≤ 63) : ∀ (n : Nat) (D : Nat → Int), drR M h n D → 0 ≤ D (M 86 h).toNat := by
  intro n
  induction n with
  | zero =>
    intro D e
    have r := faS_r M (h : Int) (((M 86 h).toNat : Nat) : Int) 0
    rw [e _ (by omega), if_pos (by omega)]
    exact r.1
  | succ n ih =>
    intro D ⟨E, N, a, b, c⟩
    have r := faS_r M (h : Int) (((M 86 h).toNat : Nat) : Int) ((n + 1 : Nat) : Int)
    have z := ih E a
    have y := b.1 (M 86 h).toNat 4 (by omega) (by decide) z
    rw [show stpV (M 85) (((M 86 h).toNat : Nat) : Int) ((4 : Nat) : Int) = (((M 86 h).toNat : Nat) : Int) from stpV_4, show ((((M 86 h).toNat : Nat) : Int)).toNat = (M 86 h).toNat by omega] at y
    rw [c _ (by omega), if_neg (by omega)]
    omega
theorem drR_up {M M1 : MM} (u : UpX M M1) {h : Nat} : ∀ (n : Nat) (D : Nat → Int), drR M h n D → drR M1 h n D := by
  intro n
  induction n with
  | zero =>
    intro D e s hs
    rw [u.f 86 (by decide), faS_up u]
    exact e s hs
  | succ n ih =>
    intro D ⟨E, N, a, b, c⟩
    refine ⟨E, N, ih E a, by rw [u.f 85 (by decide)]; exact b, fun s hs => ?_⟩
    rw [faS_up u]
    exact c s hs
section DRC
variable {sc : List Int} {Q : Vv → MM → Prop} {L T : Nat}
def stJ (K D : Nat → Int) (M : MM) (i j : Nat) (M1 : MM) : Prop := (∀ c, c ≠ 35 → M1 c = M c) ∧ (∀ s, s < 64 → D s ≤ M1 35 s) ∧ (∀ s w : Nat, s < 64 → w < 4 → (s < i ∨ (s = i ∧ w < j)) → D s ≤ M1 35 (stpV K s w).toNat) ∧ ∀ t, t < 64 → M1 35 t = -1 ∨ ∃ s w : Nat, s < 64 ∧ w < 5 ∧ (stpV K s w).toNat = t ∧ M1 35 t = D s ∧ 0 ≤ D s
/- one more STEP, class -/
set_option maxRecDepth 20000 in
theorem f_stepOnC (hT : T = 57 ∨ T = 61) {K D : Nat → Int} {M : MM} (hK : ∀ j, j < 64 → M (T + 1) j = K j) (h34 : ∀ s, s < 64 → M 34 s = D s) (hD : ∀ s, s < 64 → -1 ≤ D s) {n : Nat} (k : ∀ M1, (∀ c, c ≠ 35 → M1 c = M c) → stU K D (M1 35) → Q (vi 0) M1) : PC sc n m_X3_stepOn [vr 32, vr T] M Q := by
  have l22 : ∀ (i : Nat), i < 64 → (∀ (n : Nat) (o3 o4 : Option Vv) (M1 : MM), stJ K D M (i + 1) 0 M1 → PW sc n m_X3_stepOn 17 [] [some (vr 32), some (vr T), some (vi ((i + 1 : Nat) : Int)), o3, o4] M1 Q) → ∀ (m j n : Nat) (o4 : Option Vv) (M1 : MM), j + m = 4 → stJ K D M i j M1 → PW sc n m_X3_stepOn 22 [] [some (vr 32), some (vr T), some (vi (i : Int)), some (vi (j : Int)), o4] M1 Q := by
    intro i hi kk m
    induction m with
    | zero =>
      intro j n o4 M1 hj I
      have hj : j = 4 := hj
      subst hj
      refine pw_X3_stepOn_22 hT _ _ _ M1 fun n1 _ => brT (by decide) ?_
      rw [show w32 ((i : Int) + 1) = ((i + 1 : Nat) : Int) from ew32 (by omega) (by omega)]
      exact kk _ _ _ M1 ⟨I.1, I.2.1, fun s w s1 w1 sw => I.2.2.1 s w s1 w1 (by omega), I.2.2.2⟩
    | succ m ih =>
      intro j n o4 M1 hj ⟨I1, I2, I3, I4⟩
      have hp : 0 ≤ stpV K (i : Int) (j : Int) ∧ stpV K (i : Int) (j : Int) ≤ 63 := stpV_r ⟨by omega, by omega⟩
      obtain ⟨p, hpe⟩ : ∃ p : Nat, stpV K (i : Int) (j : Int) = (p : Int) := ⟨(stpV K (i : Int) (j : Int)).toNat, by omega⟩
      refine pw_X3_stepOn_22 hT _ _ _ M1 fun n1 _ => brF (by omega) (f_after hT ⟨by omega, by omega⟩ ⟨by omega, by omega⟩ (cI_i ?_))
      have eK : stpV (M1 (T + 1)) (i : Int) (j : Int) = (p : Int) := by
        rw [I1 (T + 1) (by omega), stpV_K hK]
        exact hpe
      rw [eK, show ((p : Int)).toNat = p by omega, show ((i : Int)).toNat = i by omega, show w32 ((j : Int) + 1) = ((j + 1 : Nat) : Int) from ew32 (by omega) (by omega), I1 34 (by decide), h34 i hi]
      have hDi := hD i hi
      have grow : ∀ t, M1 35 t ≤ stM M1 35 p (mMax (M1 35 p) (D i)) 35 t := fun t => by
        by_cases e : t = p
        · subst e
          rw [stE]
          unfold mMax
          split <;> omega
        · rw [stO e]
          exact Int.le_refl _
      refine gMB (gMB (gMB (ih (j + 1) n1 _ _ (by omega) ⟨fun c hc => (stK hc).trans (I1 c hc), fun s hs => Int.le_trans (I2 s hs) (grow s), fun s w s1 w1 sw => ?_, fun t ht => ?_⟩)))
      · by_cases e : s = i ∧ w = j
        · obtain ⟨e1, e2⟩ := e
          subst e1 e2
          rw [hpe, show ((p : Int)).toNat = p by omega, stE]
          unfold mMax
          split <;> omega
        · exact Int.le_trans (I3 s w s1 w1 (by omega)) (grow _)
      · by_cases e : t = p
        · subst e
          rw [stE]
          unfold mMax
          by_cases c : M1 35 t < D i
          · rw [if_pos c]
            have z := I2 t ht
            by_cases c2 : D i = -1
            · exact .inl c2
            · exact .inr ⟨i, j, hi, by omega, by omega, rfl, by omega⟩
          · rw [if_neg c]
            exact I4 t ht
        · rw [stO e]
          exact I4 t ht
  have l17 : ∀ (m i n : Nat) (o3 o4 : Option Vv) (M1 : MM), i + m = 64 → stJ K D M i 0 M1 → PW sc n m_X3_stepOn 17 [] [some (vr 32), some (vr T), some (vi (i : Int)), o3, o4] M1 Q := by
    intro m
    induction m with
    | zero =>
      intro i n o3 o4 M1 hi ⟨I1, I2, I3, I4⟩
      have hi : i = 64 := hi
      subst hi
      refine pw_X3_stepOn_17 hT _ _ _ M1 fun n1 _ => brT (by decide) (k M1 I1 ⟨fun s w s1 w1 _ => ?_, I4⟩)
      by_cases e : w = 4
      · subst e
        rw [show stpV K (s : Int) ((4 : Nat) : Int) = (s : Int) from stpV_4, show ((s : Int)).toNat = s by omega]
        exact I2 s s1
      · exact I3 s w s1 (by omega) (by omega)
    | succ m ih =>
      intro i n o3 o4 M1 hi I
      exact pw_X3_stepOn_17 hT _ _ _ M1 fun n1 _ => brF (by omega) (l22 i (by omega) (fun n o3 o4 M2 I2 => ih (i + 1) n o3 o4 M2 (by omega) I2) 4 0 n1 _ M1 rfl I)
  have l2 : ∀ (m i n : Nat) (o3 o4 : Option Vv) (M1 : MM), i + m = 64 → (∀ c, c ≠ 35 → M1 c = M c) → (∀ s, s < i → M1 35 s = D s) → PW sc n m_X3_stepOn 2 [] [some (vr 32), some (vr T), some (vi (i : Int)), o3, o4] M1 Q := by
    intro m
    induction m with
    | zero =>
      intro i n o3 o4 M1 hi a1 a2
      have hi : i = 64 := hi
      subst hi
      refine pw_X3_stepOn_2 hT _ _ _ M1 fun n1 _ => brT (by decide) (l17 64 0 n1 _ _ M1 rfl ⟨a1, fun s hs => by rw [a2 s hs]; exact Int.le_refl _, fun s w _ _ sw => by omega, fun t ht => ?_⟩)
      have z := hD t ht
      rw [a2 t ht]
      by_cases c : D t = -1
      · exact .inl c
      · refine .inr ⟨t, 4, ht, by decide, ?_, rfl, by omega⟩
        rw [show stpV K (t : Int) ((4 : Nat) : Int) = (t : Int) from stpV_4]
        omega
    | succ m ih =>
      intro i n o3 o4 M1 hi a1 a2
      refine pw_X3_stepOn_2 hT _ _ _ M1 fun n1 _ => brF (by omega) ?_
      rw [show ((i : Int)).toNat = i by omega, show w32 ((i : Int) + 1) = ((i + 1 : Nat) : Int) from ew32 (by omega) (by omega), a1 34 (by decide), h34 i (by omega)]
      refine gMB (gMB (ih (i + 1) n1 _ _ _ (by omega) (fun c hc => (stK hc).trans (a1 c hc)) fun s hs => ?_))
      by_cases e : s = i
      · subst e
        exact stE
      · rw [stO e]
        exact a2 s (by omega)
  exact pc_X3_stepOn hT M fun n1 _ => l2 64 0 n1 none none M rfl (fun _ _ => rfl) fun s hs => absurd hs (Nat.not_lt_zero s)
abbrev drOk (M : MM) (h m w : Int) : Prop := ((0 ≤ h ∧ h ≤ 9) ∧ 0 ≤ M 86 h.toNat) ∧ (1 ≤ m ∧ m ≤ 40) ∧ (0 ≤ w ∧ w ≤ 1)
/- what dread tells -/
def drX (M : MM) (h m w x : Int) : Prop := (¬ drOk M h m w → x = -1) ∧ (drOk M h m w → ∃ D : Nat → Int, drR M h.toNat (m.toNat - 1) D ∧ x = if w = 0 then (chM D 64).1 else (chM D 64).2)
theorem drX_1 {M : MM} {h m w x y : Int} (a : drX M h m w x) (b : drX M h m w y) : y = x := by
  by_cases ok : drOk M h m w
  · obtain ⟨D, d1, d2⟩ := a.2 ok
    obtain ⟨E, e1, e2⟩ := b.2 ok
    rw [d2, e2, chM_eq 64 fun s hs => drR_eq _ E D e1 d1 s hs]
  · rw [a.1 ok, b.1 ok]
theorem drX_up {M M1 : MM} (u : UpX M M1) {h m w x : Int} (a : drX M h m w x) : drX M1 h m w x := by
  unfold drX drOk at a ⊢
  rw [u.f 86 (by decide)]
  refine ⟨a.1, fun ok => ?_⟩
  obtain ⟨D, d1, d2⟩ := a.2 ok
  exact ⟨D, drR_up u _ D d1, d2⟩
set_option maxRecDepth 20000 in
theorem f_dreadC {M0 : MM} (G : GdA M0) {h m w : Int} {n : Nat} : PC sc n m_X11_dread [vr 0, vi h, vi m, vi w] M0 (fun r _ => ∃ x, r = vi x ∧ drX M0 h m w x) := by
  obtain ⟨T, hT, v0, v1, hr, hh, hS⟩ := G.1.tw
  obtain ⟨L, q, cl, hL, h12, R0⟩ := G.2.1
  obtain ⟨-, W, -⟩ := id G.2.2.1
  have no : ¬ drOk M0 h m w → ∃ x, vi (-1) = vi x ∧ drX M0 h m w x := fun z => ⟨-1, rfl, fun _ => rfl, fun y => absurd y z⟩
  refine pc_X11_dread _ _ _ M0 fun n1 _ => f_hasSpotC hT v0 (fun z x hx => cI_i (brT hx (no fun y => z ⟨y.1.1, (hh _ (by have := y.1.1; omega)).1.mp y.1.2⟩))) fun h1 x hx => cI_i (brF (by omega) (p_isIn (fun z x hx => cI_i (brT hx (no fun y => z y.2.1))) fun h2 x hx => cI_i (brF (by omega) (p_isIn (fun z x hx => cI_i (brF (by omega) (no fun y => z y.2.2))) fun h3 x hx => cI_i (brT (by omega) ?_)))))
  obtain ⟨i, hi⟩ : ∃ i : Nat, h = (i : Int) := ⟨h.toNat, by omega⟩
  subst hi
  have hi : i < 10 := by omega
  have et : ((i : Int)).toNat = i := by omega
  have hs2 : M0 (T + 2) i ≠ -1 := by
    have := h1.2
    rw [et] at this
    exact this
  have h86 : 0 ≤ M0 86 i := (hh i hi).1.mpr hs2
  have r86 := rA_86 G.1.1.1 i
  have e2 : M0 (T + 2) i = M0 86 i := (hh i hi).2 hs2
  have ok : drOk M0 (i : Int) m w := ⟨⟨by omega, by rw [et]; exact h86⟩, h2, h3⟩
  have hS := hS ⟨i, hi, h86⟩
  rw [v0, h12, show ((T : Int) + 1).toNat - 1 = T by omega, show ((L : Int) + 1).toNat - 1 = L by omega]
  have l32 : ∀ (k t n : Nat) (o7 : Option Vv) (M : MM) (D : Nat → Int), t + 1 + k = m.toNat → drF L M0 M → drR M0 i t D → (∀ s, s < 64 → M 34 s = D s) → PW sc n m_X3_frighten 32 [] [some (vr 32), some (vr T), some (vr L), some (vr 46), some (vi (i : Int)), some (vi m), some (vi ((t + 1 : Nat) : Int)), o7] M (fun _ M7 => brA (decide (w ≠ 0)) (∃ x, vi (M7 32 2) = vi x ∧ drX M0 (i : Int) m w x) (∃ x, vi (M7 32 1) = vi x ∧ drX M0 (i : Int) m w x)) := by
    intro k
    induction k with
    | zero =>
      intro t n o7 M D ht F hD h34
      refine pw_X3_frighten_32 hT hL _ _ _ _ M fun n1 _ => brT (by omega) (f_choose h34 fun M1 c1 c2 => brP (fun hw => ⟨_, rfl, fun y => absurd ok y, fun _ => ⟨D, ?_, ?_⟩⟩) fun hw => ⟨_, rfl, fun y => absurd ok y, fun _ => ⟨D, ?_, ?_⟩⟩)
      · rw [et, show m.toNat - 1 = t by omega]
        exact hD
      · rw [if_neg hw]
        exact c2
      · rw [et, show m.toNat - 1 = t by omega]
        exact hD
      · rw [if_pos (Classical.not_not.mp hw)]
        exact c1
    | succ k ih =>
      intro t n o7 M D ht F hD h34
      have rD := drR_r t D hD
      refine pw_X3_frighten_32 hT hL _ _ _ _ M fun n1 _ => brF (by omega) (f_stepOnC hT (K := M0 85) (D := D) (fun j hj => by rw [F.1 (T + 1) (by omega) (by omega) (by omega) (by omega)]; exact v1 j hj) h34 (fun s hs => (rD s hs).1) fun M2 f2 hU => ?_)
      have F2 : drF L M0 M2 := F.cg hL fun c hc => f2 c (by omega)
      have l40 : ∀ (p s n : Nat) (M3 : MM), s + p = 64 → drF L M0 M3 → (∀ j, M3 35 j = M2 35 j) → (∀ j, j < s → M3 34 j = if M2 35 j = -1 then -1 else M2 35 j + faS M0 (i : Int) (j : Int) ((t + 1 : Nat) : Int)) → PW sc n m_X3_frighten 40 [] [some (vr 32), some (vr T), some (vr L), some (vr 46), some (vi (i : Int)), some (vi m), some (vi ((t + 1 : Nat) : Int)), some (vi (s : Int))] M3 (fun _ M7 => brA (decide (w ≠ 0)) (∃ x, vi (M7 32 2) = vi x ∧ drX M0 (i : Int) m w x) (∃ x, vi (M7 32 1) = vi x ∧ drX M0 (i : Int) m w x)) := by
        intro p
        induction p with
        | zero =>
          intro s n M3 hs F3 e35 e34
          have hs : s = 64 := hs
          subst hs
          refine pw_X3_frighten_40 hT hL _ _ _ _ M3 fun n1 _ => brT (by decide) ?_
          rw [show w32 (((t + 1 : Nat) : Int) + 1) = ((t + 1 + 1 : Nat) : Int) from ew32 (by omega) (by omega)]
          exact ih (t + 1) n1 _ M3 (fun j => if M2 35 j = -1 then -1 else M2 35 j + faS M0 (i : Int) (j : Int) ((t + 1 : Nat) : Int)) (by omega) F3 ⟨D, M2 35, hD, hU, fun _ _ => rfl⟩ e34
        | succ p ihp =>
          intro s n M3 hs F3 e35 e34
          have hs64 : s < 64 := by omega
          refine pw_X3_frighten_40 hT hL _ _ _ _ M3 fun n1 _ => brF (by omega) (gMB ?_)
          rw [show ((s : Int)).toNat = s by omega, show w32 ((s : Int) + 1) = ((s + 1 : Nat) : Int) from ew32 (by omega) (by omega), e35 s]
          refine brP (fun c => gMB (f_fearOnC hL hT R0 W hS F3 ⟨by omega, by omega⟩ fun M4 f4 => cI_i (gMB ?_))) fun c => gMB ?_
          · have rf := faS_r M0 (i : Int) (s : Int) ((t + 1 : Nat) : Int)
            have hN : M2 35 s ≤ 990 * ((t + 1 : Nat) : Int) ∧ 0 ≤ M2 35 s := by
              rcases hU.2 s hs64 with e | ⟨s', w', a1, a2, a3, a4, a5⟩
              · exact absurd e c
              · have := rD s' a1
                omega
            rw [show w32 (M2 35 s + faS M0 (i : Int) (s : Int) ((t + 1 : Nat) : Int)) = M2 35 s + faS M0 (i : Int) (s : Int) ((t + 1 : Nat) : Int) from ew32 (by omega) (by omega)]
            have o : ∀ c, c = 34 ∨ c = 35 → M4 c = M3 c := fun c hc => f4.1 c (by omega) (by omega) (by omega)
            refine ihp (s + 1) n1 _ (by omega) ((F3.lq f4).st hL (by decide)) (fun j => by rw [stK (by decide), o 35 (.inr rfl)]; exact e35 j) fun j hj => ?_
            by_cases e : j = s
            · subst e
              rw [stE, if_neg c]
            · rw [stO e, o 34 (.inl rfl)]
              exact e34 j (by omega)
          · have c := Classical.not_not.mp c
            refine ihp (s + 1) n1 _ (by omega) (F3.st hL (by decide)) (fun j => by rw [stK (by decide)]; exact e35 j) fun j hj => ?_
            by_cases e : j = s
            · subst e
              rw [stE, if_pos c]
            · rw [stO e]
              exact e34 j (by omega)
      exact l40 64 0 n1 M2 rfl F2 (fun _ => rfl) fun j hj => absurd hj (Nat.not_lt_zero j)
  have l2 : ∀ (k s n : Nat) (o7 : Option Vv) (M : MM), s + k = 64 → drF L M0 M → (∀ j, j < s → M 34 j = -1) → PW sc n m_X3_frighten 2 [] [some (vr 32), some (vr T), some (vr L), some (vr 46), some (vi (i : Int)), some (vi m), some (vi (s : Int)), o7] M (fun _ M7 => brA (decide (w ≠ 0)) (∃ x, vi (M7 32 2) = vi x ∧ drX M0 (i : Int) m w x) (∃ x, vi (M7 32 1) = vi x ∧ drX M0 (i : Int) m w x)) := by
    intro k
    induction k with
    | zero =>
      intro s n o7 M hs F e
      have hs : s = 64 := hs
      subst hs
      refine pw_X3_frighten_2 hT hL _ _ _ _ M fun n1 _ => brT (by decide) (gMB (gMB ?_))
      rw [et, F.1 (T + 2) (by omega) (by omega) (by omega) (by omega), e2]
      refine f_fearOnC hL hT R0 W hS F ⟨h86, r86.2⟩ fun M1 f1 => cI_i (gMB ?_)
      refine l32 (m.toNat - 1) 0 n1 _ _ (fun s : Nat => if (s : Int) = M0 86 i then faS M0 (i : Int) (s : Int) 0 else -1) (by omega) ((F.lq f1).st hL (by decide)) (fun s hs => rfl) fun s hs => ?_
      have o : M1 34 = M 34 := f1.1 34 (by omega) (by omega) (by omega)
      by_cases c : s = (M0 86 i).toNat
      · subst c
        rw [stE, if_pos (by omega), show (((M0 86 i).toNat : Nat) : Int) = M0 86 i by omega]
      · rw [stO c, o, if_neg (by omega)]
        exact e s hs
    | succ k ih =>
      intro s n o7 M hs F e
      refine pw_X3_frighten_2 hT hL _ _ _ _ M fun n1 _ => brF (by omega) (gMB ?_)
      rw [show ((s : Int)).toNat = s by omega, show w32 ((s : Int) + 1) = ((s + 1 : Nat) : Int) from ew32 (by omega) (by omega)]
      refine ih (s + 1) n1 _ _ (by omega) (F.st hL (by decide)) fun j hj => ?_
      by_cases c : j = s
      · subst c
        exact stE
      · rw [stO c]
        exact e j (by omega)
  exact gMB (gMB (pc_X3_frighten hT hL _ _ M0 fun n2 _ => l2 64 0 n2 none M0 rfl ⟨fun _ _ _ _ _ => rfl, fun _ _ _ => rfl⟩ fun j hj => absurd hj (Nat.not_lt_zero j)))
def stJM (K D : Nat → Int) (i j : Nat) (N : Nat → Int) : Prop := (∀ s w : Nat, s < 64 → w < 5 → (s < i ∨ (s = i ∧ w < j)) → 0 ≤ D s → D s ≤ N (stpV K s w).toNat) ∧ ∀ t, t < 64 → N t = -1000000000 ∨ ∃ s w : Nat, s < 64 ∧ w < 5 ∧ (stpV K s w).toNat = t ∧ N t = D s ∧ 0 ≤ D s
/- the reference's row: none is far below -/
def rdV (x : Int) : Int := if x < 0 then -1000000000 else x
/- which spot is best so far -/
def rbI (D : Nat → Int) (s b : Nat) : Prop := (chM D s = (-1, -1) ∧ b = 0 ∧ ∀ j, j < s → D j < 0) ∨ (chM D s = (D b, (b : Int)) ∧ 0 ≤ D b ∧ b < s)
set_option maxRecDepth 20000 in
theorem f_dreadM {M0 : MM} (G : axG M0) {h m w : Int} {n : Nat} : PC sc n m_X12_dread [vr 81, vi h, vi m, vi w] M0 (fun r _ => ∃ x, r = vi x ∧ drX M0 h m w x) := by
  have no : ¬ drOk M0 h m w → ∃ x, vi (-1) = vi x ∧ drX M0 h m w x := fun z => ⟨-1, rfl, fun _ => rfl, fun y => absurd y z⟩
  refine pc_X12_dread _ _ _ M0 fun n1 _ => f_hasSpotM (fun z x hx => cI_i (brT hx (no fun y => z y.1))) fun h1 x hx => cI_i (brF (by omega) (p_in (fun z x hx => cI_i (brT hx (no fun y => z y.2.1))) fun h2 x hx => cI_i (brF (by omega) (p_in (fun z x hx => cI_i (brF (by omega) (no fun y => z y.2.2))) fun h3 x hx => cI_i (brT (by omega) ?_)))))
  have ok : drOk M0 h m w := ⟨h1, h2, h3⟩
  obtain ⟨i, hi⟩ : ∃ i : Nat, h = (i : Int) := ⟨h.toNat, by omega⟩
  subst hi
  have hi : i < 10 := by omega
  have et : ((i : Int)).toNat = i := by omega
  have h86 : 0 ≤ M0 86 i := by
    have := h1.2
    rw [et] at this
    exact this
  have r86 := rA_86 G.1 i
  have l128 : ∀ (M : MM) (D : Nat → Int), drR M0 i (m.toNat - 1) D → (∀ s, s < 64 → M 112 s = rdV (D s)) → ∀ (k s b n : Nat) (o6 o7 : Option Vv), s + k = 64 → 1 ≤ s → b < s → rbI D s b → PW sc n m_X12_dread 128 [] [some (vr 81), some (vi (i : Int)), some (vi m), some (vi w), some (vi (b : Int)), some (vi (s : Int)), o6, o7] M (fun r _ => ∃ x, r = vi x ∧ drX M0 (i : Int) m w x) := by
    intro M D hD e112 k
    have rD := drR_r _ D hD
    induction k with
    | zero =>
      intro s b n o6 o7 hs s1 hb I
      have hs : s = 64 := hs
      subst hs
      have hH := drR_h ⟨h86, r86.2⟩ _ D hD
      have I2 : chM D 64 = (D b, (b : Int)) ∧ 0 ≤ D b := by
        rcases I with ⟨-, -, z⟩ | ⟨z1, z2, -⟩
        · have := z (M0 86 i).toNat (by omega)
          omega
        · exact ⟨z1, z2⟩
      refine pw_X12_dread_128 _ _ _ _ _ _ _ M fun n1 _ => brT (by decide) (brP (fun hw => ⟨_, rfl, fun y => absurd ok y, fun _ => ⟨D, by rw [et]; exact hD, ?_⟩⟩) fun hw => gMB ⟨_, rfl, fun y => absurd ok y, fun _ => ⟨D, by rw [et]; exact hD, ?_⟩⟩)
      · rw [if_neg hw, I2.1]
      · rw [if_pos (Classical.not_not.mp hw), I2.1, show ((b : Int)).toNat = b by omega, e112 b hb]
        unfold rdV
        rw [if_neg (by omega)]
    | succ k ih =>
      intro s b n o6 o7 hs s1 hb I
      have hs64 : s < 64 := by omega
      have rs := rD s hs64
      refine pw_X12_dread_128 _ _ _ _ _ _ _ M fun n1 _ => brF (by omega) (gMB (gMB ?_))
      rw [show ((s : Int)).toNat = s by omega, show ((b : Int)).toNat = b by omega, show w32 ((s : Int) + 1) = ((s + 1 : Nat) : Int) from ew32 (by omega) (by omega), e112 s hs64, e112 b (by omega)]
      have keep : ∀ c : D s ≤ (chM D s).1, chM D (s + 1) = chM D s := fun c => by rw [chM_s, if_pos c]
      have new : ¬ D s ≤ (chM D s).1 → chM D (s + 1) = (D s, (s : Int)) := fun c => by rw [chM_s, if_neg c]
      unfold rdV
      rcases I with ⟨z1, z2, z3⟩ | ⟨z1, z2, z3⟩
      · have z0 := z3 b hb
        rw [if_pos z0]
        rw [z1] at keep new
        by_cases c : D s < 0
        · rw [if_pos c]
          exact brT (by omega) (ih (s + 1) b n1 _ _ (by omega) (by omega) (by omega) (.inl ⟨keep (by show D s ≤ -1; omega), z2, fun j hj => by
            by_cases e : j = s
            · subst e
              exact c
            · exact z3 j (by omega)⟩))
        · rw [if_neg c]
          exact brF (by omega) (ih (s + 1) s n1 _ _ (by omega) (by omega) (by omega) (.inr ⟨new (by show ¬ D s ≤ -1; omega), by omega, by omega⟩))
      · rw [if_neg (show ¬ D b < 0 by omega)]
        rw [z1] at keep new
        by_cases c : D s ≤ D b
        · exact brT (by split <;> omega) (ih (s + 1) b n1 _ _ (by omega) (by omega) (by omega) (.inr ⟨keep c, z2, by omega⟩))
        · rw [if_neg (show ¬ D s < 0 by omega)]
          exact brF (by omega) (ih (s + 1) s n1 _ _ (by omega) (by omega) (by omega) (.inr ⟨new c, by omega, by omega⟩))
  have l42 : ∀ (k t n : Nat) (o5 o6 o7 : Option Vv) (M : MM) (D : Nat → Int), t + 1 + k = m.toNat → (∀ c, (c < 108 ∨ 113 < c) → M c = M0 c) → drR M0 i t D → (∀ s, s < 64 → M 112 s = rdV (D s)) → PW sc n m_X12_dread 42 [] [some (vr 81), some (vi (i : Int)), some (vi m), some (vi w), some (vi ((t + 1 : Nat) : Int)), o5, o6, o7] M (fun r _ => ∃ x, r = vi x ∧ drX M0 (i : Int) m w x) := by
    intro k
    induction k with
    | zero =>
      intro t n o5 o6 o7 M D ht F hD e112
      refine pw_X12_dread_42 _ _ _ _ _ _ _ M fun n1 _ => brT (by omega) (l128 M D (by rw [show m.toNat - 1 = t by omega]; exact hD) e112 63 1 0 n1 _ _ rfl (by decide) (by decide) ?_)
      have r0 := drR_r _ D hD 0 (by decide)
      by_cases c : D 0 < 0
      · refine .inl ⟨?_, rfl, fun j hj => by rw [show j = 0 by omega]; exact c⟩
        rw [chM_s, if_pos (by show D 0 ≤ -1; omega)]
        rfl
      · refine .inr ⟨?_, by omega, by decide⟩
        rw [chM_s, if_neg (by show ¬ D 0 ≤ -1; omega)]
    | succ k ih =>
      intro t n o5 o6 o7 M D ht F hD e112
      have rD := drR_r t D hD
      have l96 : ∀ (N : Nat → Int), stJM (M0 85) D 64 0 N → ∀ (p s n : Nat) (o6 o7 : Option Vv) (M3 : MM), s + p = 64 → (∀ c, (c < 108 ∨ 113 < c) → M3 c = M0 c) → (∀ j, M3 113 j = N j) → (∀ j, j < s → M3 112 j = rdV (if (if N j < 0 then -1 else N j) = -1 then -1 else (if N j < 0 then -1 else N j) + faS M0 (i : Int) (j : Int) ((t + 1 : Nat) : Int))) → PW sc n m_X12_dread 96 [] [some (vr 81), some (vi (i : Int)), some (vi m), some (vi w), some (vi ((t + 1 : Nat) : Int)), some (vi (s : Int)), o6, o7] M3 (fun r _ => ∃ x, r = vi x ∧ drX M0 (i : Int) m w x) := by
        intro N hN p
        have rN : ∀ s, s < 64 → N s = -1000000000 ∨ (0 ≤ N s ∧ N s ≤ 990 * ((t + 1 : Nat) : Int)) := fun s hs => by
          rcases hN.2 s hs with e | ⟨s', w', a1, a2, a3, a4, a5⟩
          · exact .inl e
          · have := rD s' a1
            exact .inr ⟨by omega, by omega⟩
        induction p with
        | zero =>
          intro s n o6 o7 M3 hs F3 e113 e3
          have hs : s = 64 := hs
          subst hs
          refine pw_X12_dread_96 _ _ _ _ _ _ _ M3 fun n1 _ => brT (by decide) ?_
          rw [show w32 (((t + 1 : Nat) : Int) + 1) = ((t + 1 + 1 : Nat) : Int) from ew32 (by omega) (by omega)]
          refine ih (t + 1) n1 _ _ _ M3 (fun j => if (if N j < 0 then -1 else N j) = -1 then -1 else (if N j < 0 then -1 else N j) + faS M0 (i : Int) (j : Int) ((t + 1 : Nat) : Int)) (by omega) F3 ⟨D, fun j => if N j < 0 then -1 else N j, hD, ⟨fun s w s1 w1 d => ?_, fun u hu => ?_⟩, fun _ _ => rfl⟩ e3
          · have z := hN.1 s w s1 w1 (.inl s1) d
            show D s ≤ if N (stpV (M0 85) (s : Int) (w : Int)).toNat < 0 then -1 else N (stpV (M0 85) (s : Int) (w : Int)).toNat
            rw [if_neg (by omega)]
            exact z
          · show (if N u < 0 then (-1 : Int) else N u) = -1 ∨ ∃ s w : Nat, s < 64 ∧ w < 5 ∧ (stpV (M0 85) s w).toNat = u ∧ (if N u < 0 then (-1 : Int) else N u) = D s ∧ 0 ≤ D s
            rcases hN.2 u hu with e | ⟨s', w', a1, a2, a3, a4, a5⟩
            · rw [if_pos (by omega)]
              exact .inl rfl
            · rw [if_neg (by omega)]
              exact .inr ⟨s', w', a1, a2, a3, a4, a5⟩
        | succ p ihp =>
          intro s n o6 o7 M3 hs F3 e113 e3
          have hs64 : s < 64 := by omega
          have rs := rN s hs64
          refine pw_X12_dread_96 _ _ _ _ _ _ _ M3 fun n1 _ => brF (by omega) (gMB ?_)
          rw [show ((s : Int)).toNat = s by omega, show w32 ((s : Int) + 1) = ((s + 1 : Nat) : Int) from ew32 (by omega) (by omega), e113 s]
          have rf := faS_r M0 (i : Int) (s : Int) ((t + 1 : Nat) : Int)
          refine brP (fun c => gMB (f_fearAtM G F3 ⟨by omega, by omega⟩ fun M4 f4 => cI_i (gMB ?_))) fun c => gMB ?_
          · rw [show w32 (N s + faS M0 (i : Int) (s : Int) ((t + 1 : Nat) : Int)) = N s + faS M0 (i : Int) (s : Int) ((t + 1 : Nat) : Int) from ew32 (by omega) (by omega)]
            refine ihp (s + 1) n1 _ _ _ (by omega) (fun c hc => (stK (by omega)).trans ((f4 c (by omega) (by omega)).trans (F3 c hc))) (fun j => by rw [stK (by decide), f4 113 (by decide) (by decide)]; exact e113 j) fun j hj => ?_
            by_cases e : j = s
            · subst e
              rw [stE, if_neg (show ¬ N j < 0 by omega), if_neg (show ¬ N j = -1 by omega)]
              unfold rdV
              rw [if_neg (by omega)]
            · rw [stO e, f4 112 (by decide) (by decide)]
              exact e3 j (by omega)
          · refine ihp (s + 1) n1 _ _ _ (by omega) (fun c hc => (stK (by omega)).trans (F3 c hc)) (fun j => by rw [stK (by decide)]; exact e113 j) fun j hj => ?_
            by_cases e : j = s
            · subst e
              rw [stE, if_pos (show N j < 0 by omega), if_pos rfl]
              rfl
            · rw [stO e]
              exact e3 j (by omega)
      have l64 : ∀ (s : Nat), s < 64 → (∀ (n : Nat) (o6 o7 : Option Vv) (M3 : MM), (∀ c, c ≠ 113 → M3 c = M c) → stJM (M0 85) D (s + 1) 0 (M3 113) → PW sc n m_X12_dread 59 [] [some (vr 81), some (vi (i : Int)), some (vi m), some (vi w), some (vi ((t + 1 : Nat) : Int)), some (vi ((s + 1 : Nat) : Int)), o6, o7] M3 (fun r _ => ∃ x, r = vi x ∧ drX M0 (i : Int) m w x)) → ∀ (p j n : Nat) (o7 : Option Vv) (M3 : MM), j + p = 5 → (∀ c, c ≠ 113 → M3 c = M c) → stJM (M0 85) D s j (M3 113) → PW sc n m_X12_dread 64 [] [some (vr 81), some (vi (i : Int)), some (vi m), some (vi w), some (vi ((t + 1 : Nat) : Int)), some (vi (s : Int)), some (vi (j : Int)), o7] M3 (fun r _ => ∃ x, r = vi x ∧ drX M0 (i : Int) m w x) := by
        intro s hs kk p
        induction p with
        | zero =>
          intro j n o7 M3 hj F3 I
          have hj : j = 5 := hj
          subst hj
          refine pw_X12_dread_64 _ _ _ _ _ _ _ M3 fun n1 _ => brT (by decide) ?_
          rw [show w32 ((s : Int) + 1) = ((s + 1 : Nat) : Int) from ew32 (by omega) (by omega)]
          exact kk _ _ _ M3 F3 ⟨fun s' w' a1 a2 a3 => I.1 s' w' a1 a2 (by omega), I.2⟩
        | succ p ihp =>
          intro j n o7 M3 hj F3 I
          have rs := rD s hs
          have hp : 0 ≤ stpV (M0 85) (s : Int) (j : Int) ∧ stpV (M0 85) (s : Int) (j : Int) ≤ 63 := stpV_r ⟨by omega, by omega⟩
          obtain ⟨q, hq⟩ : ∃ q : Nat, stpV (M0 85) (s : Int) (j : Int) = (q : Int) := ⟨(stpV (M0 85) (s : Int) (j : Int)).toNat, by omega⟩
          refine pw_X12_dread_64 _ _ _ _ _ _ _ M3 fun n1 _ => brF (by omega) (gMB ?_)
          rw [show ((s : Int)).toNat = s by omega, show w32 ((s : Int) + 1) = ((s + 1 : Nat) : Int) from ew32 (by omega) (by omega), show w32 ((j : Int) + 1) = ((j + 1 : Nat) : Int) from ew32 (by omega) (by omega), F3 112 (by decide), e112 s hs]
          refine brP (fun c => ?_) fun c => ?_
          · have c : D s < 0 := by
              unfold rdV at c
              split at c <;> omega
            exact kk _ _ _ M3 F3 ⟨fun s' w' a1 a2 a3 a4 => I.1 s' w' a1 a2 (by
              have : s' ≠ s := fun e => by
                subst e
                omega
              omega) a4, I.2⟩
          · have c : 0 ≤ D s := by
              unfold rdV at c
              split at c <;> omega
            have er : rdV (D s) = D s := by
              unfold rdV
              rw [if_neg (by omega)]
            refine p_stepTo ⟨by omega, by omega⟩ (cI_i ?_)
            have e85 : M3 85 = M0 85 := (F3 85 (by decide)).trans (F 85 (by decide))
            rw [e85, hq, show ((q : Int)).toNat = q by omega, F3 112 (by decide), e112 s hs, er]
            have main : ∀ (v : Int) (n : Nat), (M3 113 q ≤ v ∧ D s ≤ v ∧ (v = M3 113 q ∨ v = D s)) → PW sc n m_X12_dread 64 [] [some (vr 81), some (vi (i : Int)), some (vi m), some (vi w), some (vi ((t + 1 : Nat) : Int)), some (vi (s : Int)), some (vi ((j + 1 : Nat) : Int)), some (vi (q : Int))] (stM M3 113 q v) (fun r _ => ∃ x, r = vi x ∧ drX M0 (i : Int) m w x) := fun v n ⟨v1, v2, v3⟩ => by
              have grow : ∀ u, M3 113 u ≤ stM M3 113 q v 113 u := fun u => by
                by_cases e : u = q
                · subst e
                  rw [stE]
                  exact v1
                · rw [stO e]
                  exact Int.le_refl _
              refine ihp (j + 1) n _ _ (by omega) (fun c hc => (stK hc).trans (F3 c hc)) ⟨fun s' w' a1 a2 a3 a4 => ?_, fun u hu => ?_⟩
              · by_cases e : s' = s ∧ w' = j
                · obtain ⟨e1, e2⟩ := e
                  subst e1 e2
                  rw [hq, show ((q : Int)).toNat = q by omega, stE]
                  exact v2
                · exact Int.le_trans (I.1 s' w' a1 a2 (by omega) a4) (grow _)
              · by_cases e : u = q
                · subst e
                  rw [stE]
                  rcases v3 with v3 | v3
                  · rw [v3]
                    exact I.2 u hu
                  · exact .inr ⟨s, j, hs, by omega, by omega, v3, c⟩
                · rw [stO e]
                  exact I.2 u hu
            refine gMB (gMB (pc_X12_max _ _ M3 fun n2 _ => brP (fun c2 => cI_i (gMB (main _ _ ⟨c2, Int.le_refl _, .inr rfl⟩))) fun c2 => cI_i (gMB (main _ _ ⟨Int.le_refl _, by omega, .inl rfl⟩))))
      have l59 : ∀ (p s n : Nat) (o6 o7 : Option Vv) (M3 : MM), s + p = 64 → (∀ c, c ≠ 113 → M3 c = M c) → stJM (M0 85) D s 0 (M3 113) → PW sc n m_X12_dread 59 [] [some (vr 81), some (vi (i : Int)), some (vi m), some (vi w), some (vi ((t + 1 : Nat) : Int)), some (vi (s : Int)), o6, o7] M3 (fun r _ => ∃ x, r = vi x ∧ drX M0 (i : Int) m w x) := by
        intro p
        induction p with
        | zero =>
          intro s n o6 o7 M3 hs F3 I
          have hs : s = 64 := hs
          subst hs
          exact pw_X12_dread_59 _ _ _ _ _ _ _ M3 fun n1 _ => brT (by decide) (l96 (M3 113) I 64 0 n1 _ _ M3 rfl (fun c hc => (F3 c (by omega)).trans (F c hc)) (fun _ => rfl) fun j hj => absurd hj (Nat.not_lt_zero j))
        | succ p ihp =>
          intro s n o6 o7 M3 hs F3 I
          exact pw_X12_dread_59 _ _ _ _ _ _ _ M3 fun n1 _ => brF (by omega) (l64 s (by omega) (fun n o6 o7 M4 F4 I4 => ihp (s + 1) n o6 o7 M4 (by omega) F4 I4) 5 0 n1 _ M3 rfl F3 I)
      have l47 : ∀ (p s n : Nat) (o6 o7 : Option Vv) (M3 : MM), s + p = 64 → (∀ c, c ≠ 113 → M3 c = M c) → (∀ j, j < s → M3 113 j = -1000000000) → PW sc n m_X12_dread 47 [] [some (vr 81), some (vi (i : Int)), some (vi m), some (vi w), some (vi ((t + 1 : Nat) : Int)), some (vi (s : Int)), o6, o7] M3 (fun r _ => ∃ x, r = vi x ∧ drX M0 (i : Int) m w x) := by
        intro p
        induction p with
        | zero =>
          intro s n o6 o7 M3 hs F3 e3
          have hs : s = 64 := hs
          subst hs
          exact pw_X12_dread_47 _ _ _ _ _ _ _ M3 fun n1 _ => brT (by decide) (l59 64 0 n1 _ _ M3 rfl F3 ⟨fun s' w' a1 a2 a3 => by omega, fun u hu => .inl (e3 u hu)⟩)
        | succ p ihp =>
          intro s n o6 o7 M3 hs F3 e3
          refine pw_X12_dread_47 _ _ _ _ _ _ _ M3 fun n1 _ => brF (by omega) (gMB ?_)
          rw [show ((s : Int)).toNat = s by omega, show w32 ((s : Int) + 1) = ((s + 1 : Nat) : Int) from ew32 (by omega) (by omega)]
          refine ihp (s + 1) n1 _ _ _ (by omega) (fun c hc => (stK hc).trans (F3 c hc)) fun j hj => ?_
          by_cases e : j = s
          · subst e
            exact stE
          · rw [stO e]
            exact e3 j (by omega)
      exact pw_X12_dread_42 _ _ _ _ _ _ _ M fun n1 _ => brF (by omega) (l47 64 0 n1 _ _ M rfl (fun _ _ => rfl) fun j hj => absurd hj (Nat.not_lt_zero j))
  have l18 : ∀ (k s n : Nat) (o5 o6 o7 : Option Vv) (M : MM), s + k = 64 → (∀ c, (c < 108 ∨ 113 < c) → M c = M0 c) → (∀ j : Nat, j < s → M 112 j = rdV (if (j : Int) = M0 86 i then faS M0 (i : Int) (j : Int) 0 else -1)) → PW sc n m_X12_dread 18 [] [some (vr 81), some (vi (i : Int)), some (vi m), some (vi w), some (vi (s : Int)), o5, o6, o7] M (fun r _ => ∃ x, r = vi x ∧ drX M0 (i : Int) m w x) := by
    intro k
    induction k with
    | zero =>
      intro s n o5 o6 o7 M hs F e
      have hs : s = 64 := hs
      subst hs
      exact pw_X12_dread_18 _ _ _ _ _ _ _ M fun n1 _ => brT (by decide) (l42 (m.toNat - 1) 0 n1 _ _ _ M (fun s : Nat => if (s : Int) = M0 86 i then faS M0 (i : Int) (s : Int) 0 else -1) (by omega) F (fun _ _ => rfl) e)
    | succ k ih =>
      intro s n o5 o6 o7 M hs F e
      refine pw_X12_dread_18 _ _ _ _ _ _ _ M fun n1 _ => brF (by omega) (gMB ?_)
      rw [show ((s : Int)).toNat = s by omega, show w32 ((s : Int) + 1) = ((s + 1 : Nat) : Int) from ew32 (by omega) (by omega), et, F 86 (by decide)]
      refine brP (fun c => gMB ?_) fun c => f_fearAtM G F ⟨by omega, by omega⟩ fun M1 f1 => cI_i (gMB ?_)
      · refine ih (s + 1) n1 _ _ _ _ (by omega) (fun c hc => (stK (by omega)).trans (F c hc)) fun j hj => ?_
        by_cases e2 : j = s
        · subst e2
          rw [stE, if_neg c]
          rfl
        · rw [stO e2]
          exact e j (by omega)
      · have c := Classical.not_not.mp c
        have rf := faS_r M0 (i : Int) (s : Int) 0
        refine ih (s + 1) n1 _ _ _ _ (by omega) (fun c hc => (stK (by omega)).trans ((f1 c (by omega) (by omega)).trans (F c hc))) fun j hj => ?_
        by_cases e2 : j = s
        · subst e2
          rw [stE, if_pos c]
          unfold rdV
          rw [if_neg (by omega)]
        · rw [stO e2, f1 112 (by decide) (by decide)]
          exact e j (by omega)
  exact l18 64 0 n1 none none none M0 rfl (fun _ _ => rfl) fun j hj => absurd hj (Nat.not_lt_zero j)
theorem csQ_dread {M : MM} {h m w : Int} (i0 : in32 h) (i1 : in32 m) (i2 : in32 w) (G : GdA M) : CA FF sc YF 59 m_X11_dread [vr 0, vi h, vi m, vi w] M (fun r M1 => ∃ x, r = vi x ∧ GdA M1 ∧ drX M1 h m w x) := csR G (by decide +kernel) (cf_dread i0 i1 i2 G.1.1) (P := fun M x => drX M h m w x) (fun n => f_dreadC G) fun M1 x u => drX_up u
theorem msQ_dread {M : MM} {h m w x : Int} (i0 : in32 h) (i1 : in32 m) (i2 : in32 w) (G : GdA M ∧ drX M h m w x) : CA FF sc YF 59 m_X12_dread [vr 81, vi h, vi m, vi w] M (fun r M1 => ∃ y, r = vi y ∧ GdA M1 ∧ y = x) := msR (P := fun M x => drX M h m w x) G (by decide +kernel) (mf_dread i0 i1 i2 G.1.1.1) (fun n => f_dreadM G.1.1.1) fun y b => drX_1 G.2 b
end DRC
