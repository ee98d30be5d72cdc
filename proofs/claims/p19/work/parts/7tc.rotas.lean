/-! PART 7tc: rotas -/
theorem pc_X11_rotas {sc : List Int} {n : Nat} {Q : Vv → MM → Prop} (v1 : Int) (v2 : Int) (v3 : Int) (v4 : Int) (M : MM) (h : ∀ n1, n1 < n → PC sc n1 m_X11_isIn [vi v1, vi 1, vi 14] M (cI fun r2 M1 =>
  brA (decide (r2 = 0))
   (Q (vi ((-1))) M1)
   (PC sc n1 m_X11_isIn [vi v3, vi 1, vi 3] M1 (cI fun r4 M3 =>
    brA (decide (r4 = 0))
     (Q (vi ((-1))) M3)
     (PC sc n1 m_X11_canShare [vr 0, vi v2] M3 (cI fun r6 M5 =>
      brA (decide (r6 ≠ 0))
       (PC sc n1 m_X11_isIn [vi v4, vi 0, vi (w32 (v1 - 1))] M5 (cI fun r8 M7 =>
        brA (decide (r8 ≠ 0))
         (PW sc n1 m_X11_rotas 33 [] [some (vr 0), some (vi v1), some (vi v2), some (vi v3), some (vi v4), some (vi r8)] M7 Q)
         (brA (decide (v4 = 100))
          (PW sc n1 m_X11_rotas 33 [] [some (vr 0), some (vi v1), some (vi v2), some (vi v3), some (vi v4), some (vi r8)] M7 Q)
          (brA (decide (v4 = 101))
           (PW sc n1 m_X11_rotas 33 [] [some (vr 0), some (vi v1), some (vi v2), some (vi v3), some (vi v4), some (vi r8)] M7 Q)
           (Q (vi ((-1))) M7)))))
       (Q (vi ((-1))) M5))))))) : PC sc n m_X11_rotas [vr 0, vi v1, vi v2, vi v3, vi v4] M Q := pc_go rfl (fun j => Nat.beq j 33) 82 h
theorem pw_X11_rotas_33 {sc : List Int} {n : Nat} {Q : Vv → MM → Prop} (v1 : Int) (v2 : Int) (v3 : Int) (v4 : Int) (v5 : Int) (M : MM) (h : ∀ n1, n1 < n → brA (decide ((w32 ((M 46 6) + v1)) ≤ 9999))
  (gIm (decide (0 < M 0 12)) (PC sc n1 m_X4_plan [vr 41, vr ((M 0 12).toNat - 1), vi (M 46 6), vi v1, vi v2, vi v3] M (fun _ M1 =>
   brA (decide (v4 ≠ 100))
    (PC sc n1 m_X4_howMany [vr 41] M1 (cI fun r3 M2 =>
     brA (decide (r3 ≠ 0))
      (brA (decide (v5 = 0))
       (PC sc n1 m_X4_howEven [vr 41] M2 (cI fun r5 M4 =>
        Q (vi r5) M4))
       (PC sc n1 m_X4_houseIn [vr 41, vi v4] M2 (cI fun r7 M6 =>
        Q (vi r7) M6)))
      (Q (vi ((-2))) M2)))
    (PC sc n1 m_X4_howMany [vr 41] M1 (cI fun r9 M8 =>
     Q (vi r9) M8)))))
  (Q (vi ((-1))) M)) : PW sc n m_X11_rotas 33 [] [some (vr 0), some (vi v1), some (vi v2), some (vi v3), some (vi v4), some (vi v5)] M Q := pw_go rfl (fun j => Nat.beq j 33) 82 h
theorem pc_X11_canShare {sc : List Int} {n : Nat} {Q : Vv → MM → Prop} (v1 : Int) (M : MM) (h : ∀ n1, n1 < n → PC sc n1 m_X11_isIn [vi v1, vi 1, vi 1023] M (cI fun r2 M1 =>
  brA (decide (r2 = 0))
   (Q (vi 0) M1)
   (gIm (decide (0 < M1 0 10)) (gIm (kd YF ((M1 0 10).toNat - 1) == 18) (PC sc n1 m_X9_housesWithSpots [vr ((M1 0 10).toNat - 1)] M1 (cI fun r4 M3 =>
    brA (decide ((bAnd v1 (bXor r4 ((-1)))) = 0))
     (PC sc n1 m_J6_bitCount_0f7a4 [vi v1] M3 (cI fun r6 M5 =>
      brA (decide (5 < r6))
       (Q (vi 0) M5)
       (Q (vi 1) M5)))
     (Q (vi 0) M3))))))) : PC sc n m_X11_canShare [vr 0, vi v1] M Q := pc_go rfl (fun j => false) 28 h
theorem pc_X4_plan {sc : List Int} {n : Nat} {L : Nat} (hL : L = 65 ∨ L = 73) {Q : Vv → MM → Prop} (v2 : Int) (v3 : Int) (v4 : Int) (v5 : Int) (M : MM) (h : ∀ n1, n1 < n → PW sc n1 m_X4_plan 11 [] [some (vr 41), some (vr L), some (vi v2), some (vi v3), some (vi v4), some (vi v5), some (vi 0), none] (stM (stM (stM M 41 5 v3) 41 6 v5) 41 4 0) Q) : PC sc n m_X4_plan [vr 41, vr L, vi v2, vi v3, vi v4, vi v5] M Q := by
  rcases hL with rfl | rfl <;> exact pc_go rfl (fun j => Nat.beq j 11 || Nat.beq j 38 || Nat.beq j 48 || Nat.beq j 85 || Nat.beq j 89) 106 h
theorem pw_X4_plan_11 {sc : List Int} {n : Nat} {L : Nat} (hL : L = 65 ∨ L = 73) {Q : Vv → MM → Prop} (v2 : Int) (v3 : Int) (v4 : Int) (v5 : Int) (v6 : Int) (o7 : Option Vv) (M : MM) (h : ∀ n1, n1 < n → brA (decide (10 ≤ v6))
  (PW sc n1 m_X4_plan 38 [] [some (vr 41), some (vr L), some (vi v2), some (vi v3), some (vi v4), some (vi v5), some (vi 0), o7] M Q)
  (PC sc n1 m_X11_hasBit [vi v4, vi v6] M (cI fun r2 M1 =>
   brA (decide (r2 = 0))
    (PW sc n1 m_X4_plan 11 [] [some (vr 41), some (vr L), some (vi v2), some (vi v3), some (vi v4), some (vi v5), some (vi (w32 (v6 + 1))), o7] M1 Q)
    (brA (decide (5 ≤ (M1 41 4)))
     (PW sc n1 m_X4_plan 11 [] [some (vr 41), some (vr L), some (vi v2), some (vi v3), some (vi v4), some (vi v5), some (vi (w32 (v6 + 1))), o7] M1 Q)
     (gIm (decide (0 ≤ (M1 41 4)) && decide ((M1 41 4) < 5)) (PW sc n1 m_X4_plan 11 [] [some (vr 41), some (vr L), some (vi v2), some (vi v3), some (vi v4), some (vi v5), some (vi (w32 (v6 + 1))), o7] (stM (stM M1 42 ((M1 41 4).toNat) v6) 41 4 (w32 ((M1 41 4) + 1))) Q)))))) : PW sc n m_X4_plan 11 [] [some (vr 41), some (vr L), some (vi v2), some (vi v3), some (vi v4), some (vi v5), some (vi v6), o7] M Q := by
  rcases hL with rfl | rfl <;> exact pw_go rfl (fun j => Nat.beq j 11 || Nat.beq j 38 || Nat.beq j 48 || Nat.beq j 85 || Nat.beq j 89) 106 h
theorem pw_X4_plan_38 {sc : List Int} {n : Nat} {L : Nat} (hL : L = 65 ∨ L = 73) {Q : Vv → MM → Prop} (v2 : Int) (v3 : Int) (v4 : Int) (v5 : Int) (v6 : Int) (o7 : Option Vv) (M : MM) (h : ∀ n1, n1 < n → brA (decide (v3 ≤ v6))
  (PW sc n1 m_X4_plan 85 [] [some (vr 41), some (vr L), some (vi v2), some (vi v3), some (vi v4), some (vi v5), some (vi (w32 ((bShl 1 (w32 (2 * (M 41 4)))) - 1))), o7] M Q)
  (gIm (decide (0 ≤ v6) && decide (v6 < 14)) (PW sc n1 m_X4_plan 48 [] [some (vr 41), some (vr L), some (vi v2), some (vi v3), some (vi v4), some (vi v5), some (vi v6), some (vi 0)] (stM M 43 (v6.toNat) 0) Q))) : PW sc n m_X4_plan 38 [] [some (vr 41), some (vr L), some (vi v2), some (vi v3), some (vi v4), some (vi v5), some (vi v6), o7] M Q := by
  rcases hL with rfl | rfl <;> exact pw_go rfl (fun j => Nat.beq j 11 || Nat.beq j 38 || Nat.beq j 48 || Nat.beq j 85 || Nat.beq j 89) 106 h
theorem pw_X4_plan_48 {sc : List Int} {n : Nat} {L : Nat} (hL : L = 65 ∨ L = 73) {Q : Vv → MM → Prop} (v2 : Int) (v3 : Int) (v4 : Int) (v5 : Int) (v6 : Int) (v7 : Int) (M : MM) (h : ∀ n1, n1 < n → brA (decide ((M 41 4) ≤ v7))
  (PW sc n1 m_X4_plan 38 [] [some (vr 41), some (vr L), some (vi v2), some (vi v3), some (vi v4), some (vi v5), some (vi (w32 (v6 + 1))), some (vi v7)] M Q)
  (gIm (decide (0 ≤ v7) && decide (v7 < 5)) (PC sc n1 m_X0_mayHaunt [vr L, vi (M 42 v7.toNat), vi (w32 (v2 + v6))] M (cI fun r2 M1 =>
   brA (decide (r2 = 0))
    (PW sc n1 m_X4_plan 48 [] [some (vr 41), some (vr L), some (vi v2), some (vi v3), some (vi v4), some (vi v5), some (vi v6), some (vi (w32 (v7 + 1)))] M1 Q)
    (gIm (decide (0 ≤ v6) && decide (v6 < 14)) (gIm (decide (0 ≤ v6) && decide (v6 < 14)) (PW sc n1 m_X4_plan 48 [] [some (vr 41), some (vr L), some (vi v2), some (vi v3), some (vi v4), some (vi v5), some (vi v6), some (vi (w32 (v7 + 1)))] (stM M1 43 (v6.toNat) (bOr (M1 43 v6.toNat) (bShl 1 v7))) Q))))))) : PW sc n m_X4_plan 48 [] [some (vr 41), some (vr L), some (vi v2), some (vi v3), some (vi v4), some (vi v5), some (vi v6), some (vi v7)] M Q := by
  rcases hL with rfl | rfl <;> exact pw_go rfl (fun j => Nat.beq j 11 || Nat.beq j 38 || Nat.beq j 48 || Nat.beq j 85 || Nat.beq j 89) 106 h
theorem pw_X4_plan_85 {sc : List Int} {n : Nat} {L : Nat} (hL : L = 65 ∨ L = 73) {Q : Vv → MM → Prop} (v2 : Int) (v3 : Int) (v4 : Int) (v5 : Int) (v6 : Int) (o7 : Option Vv) (M : MM) (h : ∀ n1, n1 < n → brA (decide (v6 < 0))
  (Q (vi 0) M)
  (PW sc n1 m_X4_plan 89 [] [some (vr 41), some (vr L), some (vi v2), some (vi v3), some (vi v4), some (vi v5), some (vi v6), some (vi 0)] M Q)) : PW sc n m_X4_plan 85 [] [some (vr 41), some (vr L), some (vi v2), some (vi v3), some (vi v4), some (vi v5), some (vi v6), o7] M Q := by
  rcases hL with rfl | rfl <;> exact pw_go rfl (fun j => Nat.beq j 11 || Nat.beq j 38 || Nat.beq j 48 || Nat.beq j 85 || Nat.beq j 89) 106 h
theorem pw_X4_plan_89 {sc : List Int} {n : Nat} {L : Nat} (hL : L = 65 ∨ L = 73) {Q : Vv → MM → Prop} (v2 : Int) (v3 : Int) (v4 : Int) (v5 : Int) (v6 : Int) (v7 : Int) (M : MM) (h : ∀ n1, n1 < n → brA (decide (6 ≤ v7))
  (PW sc n1 m_X4_plan 85 [] [some (vr 41), some (vr L), some (vi v2), some (vi v3), some (vi v4), some (vi v5), some (vi (w32 (v6 + (-1)))), some (vi v7)] M Q)
  (PC sc n1 m_X4_weigh [vr 41, vi v6, vi v7] M (fun _ M1 =>
   PW sc n1 m_X4_plan 89 [] [some (vr 41), some (vr L), some (vi v2), some (vi v3), some (vi v4), some (vi v5), some (vi v6), some (vi (w32 (v7 + 1)))] M1 Q))) : PW sc n m_X4_plan 89 [] [some (vr 41), some (vr L), some (vi v2), some (vi v3), some (vi v4), some (vi v5), some (vi v6), some (vi v7)] M Q := by
  rcases hL with rfl | rfl <;> exact pw_go rfl (fun j => Nat.beq j 11 || Nat.beq j 38 || Nat.beq j 48 || Nat.beq j 85 || Nat.beq j 89) 106 h
theorem pc_X4_howMany {sc : List Int} {n : Nat} {Q : Vv → MM → Prop}  (M : MM) (h : ∀ n1, n1 < n → PC sc n1 m_X4_stateOf [vi 0, vi 5] M (cI fun r2 M1 =>
  gIm (decide (0 ≤ r2) && decide (r2 < 6144)) (Q (vi (M1 44 r2.toNat)) M1))) : PC sc n m_X4_howMany [vr 41] M Q := pc_go rfl (fun j => false) 12 h
theorem pc_X4_howEven {sc : List Int} {n : Nat} {Q : Vv → MM → Prop}  (M : MM) (h : ∀ n1, n1 < n → PC sc n1 m_X4_stateOf [vi 0, vi 5] M (cI fun r2 M1 =>
  gIm (decide (0 ≤ r2) && decide (r2 < 6144)) (Q (vi (M1 45 r2.toNat)) M1))) : PC sc n m_X4_howEven [vr 41] M Q := pc_go rfl (fun j => false) 12 h
theorem pc_X4_houseIn {sc : List Int} {n : Nat} {Q : Vv → MM → Prop} (v1 : Int) (M : MM) (h : ∀ n1, n1 < n → PW sc n1 m_X4_houseIn 6 [] [some (vr 41), some (vi v1), some (vi 0), some (vi 5), some (vi 0)] M Q) : PC sc n m_X4_houseIn [vr 41, vi v1] M Q := pc_go rfl (fun j => Nat.beq j 6) 40 h
theorem pw_X4_houseIn_6 {sc : List Int} {n : Nat} {Q : Vv → MM → Prop} (v1 : Int) (v2 : Int) (v3 : Int) (v4 : Int) (M : MM) (h : ∀ n1, n1 < n → brA (decide (v1 < v4))
  (gIm (decide (0 ≤ v3) && decide (v3 < 5)) (Q (vi (M 42 v3.toNat)) M))
  (PC sc n1 m_X4_firstMember [vr 41, vi v2, vi v3, vi v4] M (cI fun r2 M1 =>
   brA (decide (r2 ≠ 5))
    (PW sc n1 m_X4_houseIn 6 [] [some (vr 41), some (vi v1), some (vi (w32 (v2 + (bShl 1 (w32 (2 * r2)))))), some (vi r2), some (vi (w32 (v4 + 1)))] M1 Q)
    (Q (vi ((-2))) M1)))) : PW sc n m_X4_houseIn 6 [] [some (vr 41), some (vi v1), some (vi v2), some (vi v3), some (vi v4)] M Q := pw_go rfl (fun j => Nat.beq j 6) 40 h
theorem pc_X4_firstMember {sc : List Int} {n : Nat} {Q : Vv → MM → Prop} (v1 : Int) (v2 : Int) (v3 : Int) (M : MM) (h : ∀ n1, n1 < n → PW sc n1 m_X4_firstMember 2 [] [some (vr 41), some (vi v1), some (vi v2), some (vi v3), some (vi 0)] M Q) : PC sc n m_X4_firstMember [vr 41, vi v1, vi v2, vi v3] M Q := pc_go rfl (fun j => Nat.beq j 2) 32 h
theorem pw_X4_firstMember_2 {sc : List Int} {n : Nat} {Q : Vv → MM → Prop} (v1 : Int) (v2 : Int) (v3 : Int) (v4 : Int) (M : MM) (h : ∀ n1, n1 < n → brA (decide ((M 41 4) ≤ v4))
  (Q (vi 5) M)
  (PC sc n1 m_X4_canBe [vr 41, vi v1, vi v2, vi v3, vi v4] M (cI fun r2 M1 =>
   brA (decide (r2 = 0))
    (PW sc n1 m_X4_firstMember 2 [] [some (vr 41), some (vi v1), some (vi v2), some (vi v3), some (vi (w32 (v4 + 1)))] M1 Q)
    (PC sc n1 m_X4_stateAfter [vr 41, vi v1, vi v4] M1 (cI fun r4 M3 =>
     gIm (decide (0 ≤ r4) && decide (r4 < 6144)) (brA (decide ((M3 44 r4.toNat) ≤ 0))
      (PW sc n1 m_X4_firstMember 2 [] [some (vr 41), some (vi v1), some (vi v2), some (vi v3), some (vi (w32 (v4 + 1)))] M3 Q)
      (Q (vi v4) M3))))))) : PW sc n m_X4_firstMember 2 [] [some (vr 41), some (vi v1), some (vi v2), some (vi v3), some (vi v4)] M Q := pw_go rfl (fun j => Nat.beq j 2) 32 h
theorem pc_X4_weigh {sc : List Int} {n : Nat} {Q : Vv → MM → Prop} (v1 : Int) (v2 : Int) (M : MM) (h : ∀ n1, n1 < n → PC sc n1 m_X4_stateOf [vi v1, vi v2] M (cI fun r2 M1 =>
  PC sc n1 m_X4_nightsIn [vr 41, vi v1] M1 (cI fun r4 M3 =>
   gIm (decide (0 ≤ r2) && decide (r2 < 6144)) (gIm (decide (0 ≤ r2) && decide (r2 < 6144)) (brA (decide (r4 ≠ (M3 41 5)))
    (PW sc n1 m_X4_weigh 37 [] [some (vr 41), some (vi v1), some (vi v2), some (vi r2), some (vi r4), some (vi 0), none] (stM (stM M3 44 (r2.toNat) 0) 45 (r2.toNat) (M3 41 5)) Q)
    (gIm (decide (0 ≤ r2) && decide (r2 < 6144)) (PC sc n1 m_X4_spreadOf [vr 41, vi v1] (stM (stM (stM M3 44 (r2.toNat) 0) 45 (r2.toNat) (M3 41 5)) 44 (r2.toNat) 1) (cI fun r6 M5 =>
     gIm (decide (0 ≤ r2) && decide (r2 < 6144)) (PW sc n1 m_X4_weigh 37 [] [some (vr 41), some (vi v1), some (vi v2), some (vi r2), some (vi r4), some (vi 0), none] (stM M5 45 (r2.toNat) r6) Q))))))))) : PC sc n m_X4_weigh [vr 41, vi v1, vi v2] M Q := pc_go rfl (fun j => Nat.beq j 37) 98 h
theorem pw_X4_weigh_37 {sc : List Int} {n : Nat} {Q : Vv → MM → Prop} (v1 : Int) (v2 : Int) (v3 : Int) (v4 : Int) (v5 : Int) (o6 : Option Vv) (M : MM) (h : ∀ n1, n1 < n → brA (decide ((M 41 4) ≤ v5))
  (Q (vi 0) M)
  (brA (decide ((M 41 5) ≤ v4))
   (Q (vi 0) M)
   (PC sc n1 m_X4_canBe [vr 41, vi v1, vi v2, vi v4, vi v5] M (cI fun r2 M1 =>
    brA (decide (r2 = 0))
     (PW sc n1 m_X4_weigh 37 [] [some (vr 41), some (vi v1), some (vi v2), some (vi v3), some (vi v4), some (vi (w32 (v5 + 1))), o6] M1 Q)
     (PC sc n1 m_X4_stateAfter [vr 41, vi v1, vi v5] M1 (cI fun r4 M3 =>
      gIm (decide (0 ≤ r4) && decide (r4 < 6144)) (brA (decide ((M3 44 r4.toNat) ≤ 0))
       (PW sc n1 m_X4_weigh 37 [] [some (vr 41), some (vi v1), some (vi v2), some (vi v3), some (vi v4), some (vi (w32 (v5 + 1))), some (vi r4)] M3 Q)
       (gIm (decide (0 ≤ v3) && decide (v3 < 6144)) (gIm (decide (0 ≤ r4) && decide (r4 < 6144)) (gIm (decide (0 ≤ v3) && decide (v3 < 6144)) (gIm (decide (0 ≤ v3) && decide (v3 < 6144)) (gIm (decide (0 ≤ r4) && decide (r4 < 6144)) (gIm (decide (0 ≤ v3) && decide (v3 < 6144)) (PW sc n1 m_X4_weigh 37 [] [some (vr 41), some (vi v1), some (vi v2), some (vi v3), some (vi v4), some (vi (w32 (v5 + 1))), some (vi r4)] (stM (stM M3 44 (v3.toNat) (mMin 1000000000 (w32 ((M3 44 v3.toNat) + (M3 44 r4.toNat))))) 45 (v3.toNat) (mMin (M3 45 v3.toNat) (M3 45 r4.toNat))) Q)))))))))))))) : PW sc n m_X4_weigh 37 [] [some (vr 41), some (vi v1), some (vi v2), some (vi v3), some (vi v4), some (vi v5), o6] M Q := pw_go rfl (fun j => Nat.beq j 37) 98 h
theorem pc_X4_canBe {sc : List Int} {n : Nat} {Q : Vv → MM → Prop} (v1 : Int) (v2 : Int) (v3 : Int) (v4 : Int) (M : MM) (h : ∀ n1, n1 < n → brA (decide (v4 = v2))
  (Q (vi 0) M)
  (PC sc n1 m_X4_countOf [vi v1, vi v4] M (cI fun r2 M1 =>
   brA (decide ((M1 41 6) ≤ r2))
    (Q (vi 0) M1)
    (gIm (decide (0 ≤ v3) && decide (v3 < 14)) (PC sc n1 m_X11_hasBit [vi (M1 43 v3.toNat), vi v4] M1 (cI fun r4 M3 =>
     brA (decide (r4 = 0))
      (Q (vi 0) M3)
      (Q (vi 1) M3))))))) : PC sc n m_X4_canBe [vr 41, vi v1, vi v2, vi v3, vi v4] M Q := pc_go rfl (fun j => false) 25 h
theorem pc_X4_stateAfter {sc : List Int} {n : Nat} {Q : Vv → MM → Prop} (v1 : Int) (v2 : Int) (M : MM) (h : ∀ n1, n1 < n → PC sc n1 m_X4_stateOf [vi (w32 (v1 + (bShl 1 (w32 (2 * v2))))), vi v2] M (cI fun r2 M1 =>
  Q (vi r2) M1)) : PC sc n m_X4_stateAfter [vr 41, vi v1, vi v2] M Q := pc_go rfl (fun j => false) 15 h
theorem pc_X4_stateOf {sc : List Int} {n : Nat} {Q : Vv → MM → Prop} (v0 : Int) (v1 : Int) (M : MM) (h : ∀ n1, n1 < n → Q (vi (w32 ((w32 (v0 * 6)) + v1))) M) : PC sc n m_X4_stateOf [vi v0, vi v1] M Q := pc_go rfl (fun j => false) 11 h
theorem pc_X4_countOf {sc : List Int} {n : Nat} {Q : Vv → MM → Prop} (v0 : Int) (v1 : Int) (M : MM) (h : ∀ n1, n1 < n → Q (vi (bAnd (bShr v0 (w32 (2 * v1))) 3)) M) : PC sc n m_X4_countOf [vi v0, vi v1] M Q := pc_go rfl (fun j => false) 13 h
theorem pc_X4_nightsIn {sc : List Int} {n : Nat} {Q : Vv → MM → Prop} (v1 : Int) (M : MM) (h : ∀ n1, n1 < n → PW sc n1 m_X4_nightsIn 4 [] [some (vr 41), some (vi v1), some (vi 0), some (vi 0)] M Q) : PC sc n m_X4_nightsIn [vr 41, vi v1] M Q := pc_go rfl (fun j => Nat.beq j 4) 23 h
theorem pw_X4_nightsIn_4 {sc : List Int} {n : Nat} {Q : Vv → MM → Prop} (v1 : Int) (v2 : Int) (v3 : Int) (M : MM) (h : ∀ n1, n1 < n → brA (decide ((M 41 4) ≤ v3))
  (Q (vi v2) M)
  (PC sc n1 m_X4_countOf [vi v1, vi v3] M (cI fun r2 M1 =>
   PW sc n1 m_X4_nightsIn 4 [] [some (vr 41), some (vi v1), some (vi (w32 (v2 + r2))), some (vi (w32 (v3 + 1)))] M1 Q))) : PW sc n m_X4_nightsIn 4 [] [some (vr 41), some (vi v1), some (vi v2), some (vi v3)] M Q := pw_go rfl (fun j => Nat.beq j 4) 23 h
theorem pc_X4_spreadOf {sc : List Int} {n : Nat} {Q : Vv → MM → Prop} (v1 : Int) (M : MM) (h : ∀ n1, n1 < n → PW sc n1 m_X4_spreadOf 6 [] [some (vr 41), some (vi v1), some (vi 3), some (vi 0), some (vi 0)] M Q) : PC sc n m_X4_spreadOf [vr 41, vi v1] M Q := pc_go rfl (fun j => Nat.beq j 6) 33 h
theorem pw_X4_spreadOf_6 {sc : List Int} {n : Nat} {Q : Vv → MM → Prop} (v1 : Int) (v2 : Int) (v3 : Int) (v4 : Int) (M : MM) (h : ∀ n1, n1 < n → brA (decide ((M 41 4) ≤ v4))
  (Q (vi (w32 (v3 - v2))) M)
  (PC sc n1 m_X4_countOf [vi v1, vi v4] M (cI fun r2 M1 =>
   PC sc n1 m_X4_countOf [vi v1, vi v4] M1 (cI fun r4 M3 =>
    PW sc n1 m_X4_spreadOf 6 [] [some (vr 41), some (vi v1), some (vi (mMin v2 r2)), some (vi (mMax v3 r4)), some (vi (w32 (v4 + 1)))] M3 Q)))) : PW sc n m_X4_spreadOf 6 [] [some (vr 41), some (vi v1), some (vi v2), some (vi v3), some (vi v4)] M Q := pw_go rfl (fun j => Nat.beq j 6) 33 h
theorem pc_X12_rotas {sc : List Int} {n : Nat} {Q : Vv → MM → Prop} (v1 : Int) (v2 : Int) (v3 : Int) (v4 : Int) (M : MM) (h : ∀ n1, n1 < n → PC sc n1 m_X12_in [vi v1, vi 1, vi 14] M (cI fun r2 M1 =>
  brA (decide (r2 = 0))
   (Q (vi ((-1))) M1)
   (PC sc n1 m_X12_in [vi v2, vi 1, vi 1023] M1 (cI fun r4 M3 =>
    brA (decide (r4 = 0))
     (Q (vi ((-1))) M3)
     (PC sc n1 m_X12_bits [vi v2] M3 (cI fun r6 M5 =>
      brA (decide (5 < r6))
       (Q (vi ((-1))) M5)
       (PC sc n1 m_X12_in [vi v3, vi 1, vi 3] M5 (cI fun r8 M7 =>
        brA (decide (r8 = 0))
         (Q (vi ((-1))) M7)
         (PC sc n1 m_X12_in [vi v4, vi 100, vi 101] M7 (cI fun r10 M9 =>
          brA (decide (r10 ≠ 0))
           (PW sc n1 m_X12_rotas 31 [] [some (vr 81), some (vi v1), some (vi v2), some (vi v3), some (vi v4), none] M9 Q)
           (PC sc n1 m_X12_in [vi v4, vi 0, vi (w32 (v1 - 1))] M9 (cI fun r12 M11 =>
            brA (decide (r12 = 0))
             (Q (vi ((-1))) M11)
             (PW sc n1 m_X12_rotas 31 [] [some (vr 81), some (vi v1), some (vi v2), some (vi v3), some (vi v4), none] M11 Q))))))))))))) : PC sc n m_X12_rotas [vr 81, vi v1, vi v2, vi v3, vi v4] M Q := pc_go rfl (fun j => Nat.beq j 31 || Nat.beq j 49) 117 h
theorem pw_X12_rotas_31 {sc : List Int} {n : Nat} {Q : Vv → MM → Prop} (v1 : Int) (v2 : Int) (v3 : Int) (v4 : Int) (o5 : Option Vv) (M : MM) (h : ∀ n1, n1 < n → brA (decide ((w32 ((M 82 34) + v1)) ≤ 9999))
  (PW sc n1 m_X12_rotas 49 [] [some (vr 81), some (vi v1), some (vi v2), some (vi v3), some (vi v4), some (vi 0)] (stM (stM M 81 57 0) 81 58 v3) Q)
  (Q (vi ((-1))) M)) : PW sc n m_X12_rotas 31 [] [some (vr 81), some (vi v1), some (vi v2), some (vi v3), some (vi v4), o5] M Q := pw_go rfl (fun j => Nat.beq j 31 || Nat.beq j 49) 117 h
theorem pw_X12_rotas_49 {sc : List Int} {n : Nat} {Q : Vv → MM → Prop} (v1 : Int) (v2 : Int) (v3 : Int) (v4 : Int) (v5 : Int) (M : MM) (h : ∀ n1, n1 < n → brA (decide (10 ≤ v5))
  (PC sc n1 m_X12_laysRotas [vr 81, vi v1] M (fun _ M1 =>
   PC sc n1 m_X12_rotaState [vi 0, vi 0, vi 5] M1 (cI fun r3 M2 =>
    brA (decide (v4 ≠ 100))
     (gIm (decide (0 ≤ r3) && decide (r3 < 92160)) (brA (decide ((M2 116 r3.toNat) ≠ 0))
      (brA (decide (v4 ≠ 101))
       (PC sc n1 m_X12_firstIn [vr 81, vi v4] M2 (cI fun r5 M4 =>
        Q (vi r5) M4))
       (gIm (decide (0 ≤ r3) && decide (r3 < 92160)) (Q (vi (M2 117 r3.toNat)) M2)))
      (Q (vi ((-2))) M2)))
     (gIm (decide (0 ≤ r3) && decide (r3 < 92160)) (Q (vi (M2 116 r3.toNat)) M2)))))
  (PC sc n1 m_X12_has [vi v2, vi v5] M (cI fun r7 M6 =>
   brA (decide (r7 ≠ 0))
    (PC sc n1 m_X12_hasSpot [vr 81, vi v5] M6 (cI fun r9 M8 =>
     brA (decide (r9 ≠ 0))
      (gIm (decide (0 ≤ (M8 81 57)) && decide ((M8 81 57) < 5)) (PW sc n1 m_X12_rotas 49 [] [some (vr 81), some (vi v1), some (vi v2), some (vi v3), some (vi v4), some (vi (w32 (v5 + 1)))] (stM (stM M8 118 ((M8 81 57).toNat) v5) 81 57 (w32 ((M8 81 57) + 1))) Q))
      (Q (vi ((-1))) M8)))
    (PW sc n1 m_X12_rotas 49 [] [some (vr 81), some (vi v1), some (vi v2), some (vi v3), some (vi v4), some (vi (w32 (v5 + 1)))] M6 Q)))) : PW sc n m_X12_rotas 49 [] [some (vr 81), some (vi v1), some (vi v2), some (vi v3), some (vi v4), some (vi v5)] M Q := pw_go rfl (fun j => Nat.beq j 31 || Nat.beq j 49) 117 h
theorem pc_X12_rotaState {sc : List Int} {n : Nat} {Q : Vv → MM → Prop} (v0 : Int) (v1 : Int) (v2 : Int) (M : MM) (h : ∀ n1, n1 < n → Q (vi (w32 ((w32 ((w32 (6144 * v0)) + (w32 (6 * v1)))) + v2))) M) : PC sc n m_X12_rotaState [vi v0, vi v1, vi v2] M Q := pc_go rfl (fun j => false) 15 h
theorem pc_X12_countIn {sc : List Int} {n : Nat} {Q : Vv → MM → Prop} (v0 : Int) (v1 : Int) (M : MM) (h : ∀ n1, n1 < n → Q (vi (bAnd (bShr v0 (w32 (2 * v1))) 3)) M) : PC sc n m_X12_countIn [vi v0, vi v1] M Q := pc_go rfl (fun j => false) 13 h
theorem pc_X12_differs {sc : List Int} {n : Nat} {Q : Vv → MM → Prop} (v1 : Int) (M : MM) (h : ∀ n1, n1 < n → PW sc n1 m_X12_differs 6 [] [some (vr 81), some (vi v1), some (vi 0), some (vi 1000000000), some (vi 0)] M Q) : PC sc n m_X12_differs [vr 81, vi v1] M Q := pc_go rfl (fun j => Nat.beq j 6) 33 h
theorem pw_X12_differs_6 {sc : List Int} {n : Nat} {Q : Vv → MM → Prop} (v1 : Int) (v2 : Int) (v3 : Int) (v4 : Int) (M : MM) (h : ∀ n1, n1 < n → brA (decide ((M 81 57) ≤ v4))
  (Q (vi (w32 (v2 - v3))) M)
  (PC sc n1 m_X12_countIn [vi v1, vi v4] M (cI fun r2 M1 =>
   PC sc n1 m_X12_max [vi v2, vi r2] M1 (cI fun r4 M3 =>
    PC sc n1 m_X12_countIn [vi v1, vi v4] M3 (cI fun r6 M5 =>
     PC sc n1 m_X12_min [vi v3, vi r6] M5 (cI fun r8 M7 =>
      PW sc n1 m_X12_differs 6 [] [some (vr 81), some (vi v1), some (vi r4), some (vi r8), some (vi (w32 (v4 + 1)))] M7 Q)))))) : PW sc n m_X12_differs 6 [] [some (vr 81), some (vi v1), some (vi v2), some (vi v3), some (vi v4)] M Q := pw_go rfl (fun j => Nat.beq j 6) 33 h
theorem pc_X12_mayNext {sc : List Int} {n : Nat} {Q : Vv → MM → Prop} (v1 : Int) (v2 : Int) (v3 : Int) (v4 : Int) (M : MM) (h : ∀ n1, n1 < n → brA (decide (v4 = v3))
  (Q (vi 0) M)
  (PC sc n1 m_X12_countIn [vi v2, vi v4] M (cI fun r2 M1 =>
   brA (decide ((M1 81 58) ≤ r2))
    (Q (vi 0) M1)
    (gIm (decide (0 ≤ v4) && decide (v4 < 5)) (PC sc n1 m_X12_mayHaunt [vr 81, vi (M1 118 v4.toNat), vi (w32 ((M1 82 34) + v1))] M1 (cI fun r4 M3 =>
     brA (decide (r4 = 0))
      (Q (vi 0) M3)
      (Q (vi 1) M3))))))) : PC sc n m_X12_mayNext [vr 81, vi v1, vi v2, vi v3, vi v4] M Q := pc_go rfl (fun j => false) 31 h
theorem pc_X12_laysRotas {sc : List Int} {n : Nat} {Q : Vv → MM → Prop} (v1 : Int) (M : MM) (h : ∀ n1, n1 < n → PW sc n1 m_X12_laysRotas 9 [] [some (vr 81), some (vi v1), some (vi (bShl 1 (w32 (2 * (M 81 57))))), some (vi v1), none, none, none, none, none, none, none] M Q) : PC sc n m_X12_laysRotas [vr 81, vi v1] M Q := pc_go rfl (fun j => Nat.beq j 9 || Nat.beq j 13 || Nat.beq j 18 || Nat.beq j 27 || Nat.beq j 39 || Nat.beq j 96 || Nat.beq j 110) 131 h
theorem pw_X12_laysRotas_9 {sc : List Int} {n : Nat} {Q : Vv → MM → Prop} (v1 : Int) (v2 : Int) (v3 : Int) (o4 : Option Vv) (o5 : Option Vv) (o6 : Option Vv) (o7 : Option Vv) (o8 : Option Vv) (o9 : Option Vv) (o10 : Option Vv) (M : MM) (h : ∀ n1, n1 < n → brA (decide (v3 < 0))
  (Q (vi 0) M)
  (PW sc n1 m_X12_laysRotas 13 [] [some (vr 81), some (vi v1), some (vi v2), some (vi v3), some (vi 0), o5, o6, o7, o8, o9, o10] M Q)) : PW sc n m_X12_laysRotas 9 [] [some (vr 81), some (vi v1), some (vi v2), some (vi v3), o4, o5, o6, o7, o8, o9, o10] M Q := pw_go rfl (fun j => Nat.beq j 9 || Nat.beq j 13 || Nat.beq j 18 || Nat.beq j 27 || Nat.beq j 39 || Nat.beq j 96 || Nat.beq j 110) 131 h
theorem pw_X12_laysRotas_13 {sc : List Int} {n : Nat} {Q : Vv → MM → Prop} (v1 : Int) (v2 : Int) (v3 : Int) (v4 : Int) (o5 : Option Vv) (o6 : Option Vv) (o7 : Option Vv) (o8 : Option Vv) (o9 : Option Vv) (o10 : Option Vv) (M : MM) (h : ∀ n1, n1 < n → brA (decide (v2 ≤ v4))
  (PW sc n1 m_X12_laysRotas 9 [] [some (vr 81), some (vi v1), some (vi v2), some (vi (w32 (v3 + (-1)))), some (vi v4), o5, o6, o7, o8, o9, o10] M Q)
  (PW sc n1 m_X12_laysRotas 18 [] [some (vr 81), some (vi v1), some (vi v2), some (vi v3), some (vi v4), some (vi 0), o6, o7, o8, o9, o10] M Q)) : PW sc n m_X12_laysRotas 13 [] [some (vr 81), some (vi v1), some (vi v2), some (vi v3), some (vi v4), o5, o6, o7, o8, o9, o10] M Q := pw_go rfl (fun j => Nat.beq j 9 || Nat.beq j 13 || Nat.beq j 18 || Nat.beq j 27 || Nat.beq j 39 || Nat.beq j 96 || Nat.beq j 110) 131 h
theorem pw_X12_laysRotas_18 {sc : List Int} {n : Nat} {Q : Vv → MM → Prop} (v1 : Int) (v2 : Int) (v3 : Int) (v4 : Int) (v5 : Int) (o6 : Option Vv) (o7 : Option Vv) (o8 : Option Vv) (o9 : Option Vv) (o10 : Option Vv) (M : MM) (h : ∀ n1, n1 < n → brA (decide (5 < v5))
  (PW sc n1 m_X12_laysRotas 13 [] [some (vr 81), some (vi v1), some (vi v2), some (vi v3), some (vi (w32 (v4 + 1))), some (vi v5), o6, o7, o8, o9, o10] M Q)
  (brA (decide (v3 ≠ v1))
   (PW sc n1 m_X12_laysRotas 27 [vl 0] [some (vr 81), some (vi v1), some (vi v2), some (vi v3), some (vi v4), some (vi v5), o6, o7, o8, o9, o10] M Q)
   (PW sc n1 m_X12_laysRotas 27 [vl 1] [some (vr 81), some (vi v1), some (vi v2), some (vi v3), some (vi v4), some (vi v5), o6, o7, o8, o9, o10] M Q))) : PW sc n m_X12_laysRotas 18 [] [some (vr 81), some (vi v1), some (vi v2), some (vi v3), some (vi v4), some (vi v5), o6, o7, o8, o9, o10] M Q := pw_go rfl (fun j => Nat.beq j 9 || Nat.beq j 13 || Nat.beq j 18 || Nat.beq j 27 || Nat.beq j 39 || Nat.beq j 96 || Nat.beq j 110) 131 h
theorem pw_X12_laysRotas_27 {sc : List Int} {n : Nat} {Q : Vv → MM → Prop} (v1 : Int) (v2 : Int) (v3 : Int) (v4 : Int) (v5 : Int) (o6 : Option Vv) (o7 : Option Vv) (o8 : Option Vv) (o9 : Option Vv) (o10 : Option Vv) (s0 : Int) (M : MM) (h : ∀ n1, n1 < n → brA (decide (v3 ≠ v1))
  (PW sc n1 m_X12_laysRotas 39 [] [some (vr 81), some (vi v1), some (vi v2), some (vi v3), some (vi v4), some (vi v5), some (vl s0), none, some (vi 1000000000), some (vi 0), o10] M Q)
  (PC sc n1 m_X12_differs [vr 81, vi v4] M (cI fun r2 M1 =>
   PW sc n1 m_X12_laysRotas 39 [] [some (vr 81), some (vi v1), some (vi v2), some (vi v3), some (vi v4), some (vi v5), some (vl s0), none, some (vi r2), some (vi 0), o10] M1 Q))) : PW sc n m_X12_laysRotas 27 [vl s0] [some (vr 81), some (vi v1), some (vi v2), some (vi v3), some (vi v4), some (vi v5), o6, o7, o8, o9, o10] M Q := pw_go rfl (fun j => Nat.beq j 9 || Nat.beq j 13 || Nat.beq j 18 || Nat.beq j 27 || Nat.beq j 39 || Nat.beq j 96 || Nat.beq j 110) 131 h
theorem pw_X12_laysRotas_39 {sc : List Int} {n : Nat} {Q : Vv → MM → Prop} (v1 : Int) (v2 : Int) (v3 : Int) (v4 : Int) (v5 : Int) (v6 : Int) (v8 : Int) (v9 : Int) (o10 : Option Vv) (M : MM) (h : ∀ n1, n1 < n → brA (decide ((M 81 57) ≤ v9))
  (PW sc n1 m_X12_laysRotas 96 [] [some (vr 81), some (vi v1), some (vi v2), some (vi v3), some (vi v4), some (vi v5), some (vl v6), none, some (vi v8), some (vi v9), o10] M Q)
  (brA (decide (v1 ≤ v3))
   (PW sc n1 m_X12_laysRotas 96 [] [some (vr 81), some (vi v1), some (vi v2), some (vi v3), some (vi v4), some (vi v5), some (vl v6), none, some (vi v8), some (vi v9), o10] M Q)
   (PC sc n1 m_X12_sumOf [vr 81, vi v4] M (cI fun r2 M1 =>
    brA (decide (r2 ≠ v3))
     (PW sc n1 m_X12_laysRotas 96 [] [some (vr 81), some (vi v1), some (vi v2), some (vi v3), some (vi v4), some (vi v5), some (vl v6), none, some (vi v8), some (vi v9), o10] M1 Q)
     (PC sc n1 m_X12_mayNext [vr 81, vi v3, vi v4, vi v5, vi v9] M1 (cI fun r4 M3 =>
      brA (decide (r4 ≠ 0))
       (PC sc n1 m_X12_rotaState [vi (w32 (v3 + 1)), vi (w32 (v4 + (bShl 1 (w32 (2 * v9))))), vi v9] M3 (cI fun r6 M5 =>
        gIm (decide (0 ≤ r6) && decide (r6 < 92160)) (gIm (decide (0 ≤ r6) && decide (r6 < 92160)) (brA (decide ((M5 116 r6.toNat) ≤ 0))
         (PW sc n1 m_X12_laysRotas 39 [] [some (vr 81), some (vi v1), some (vi v2), some (vi v3), some (vi v4), some (vi v5), some (vl (w64 (v6 + (M5 116 r6.toNat)))), none, some (vi v8), some (vi (w32 (v9 + 1))), some (vi r6)] M5 Q)
         (gIm (decide (0 ≤ r6) && decide (r6 < 92160)) (PC sc n1 m_X12_min [vi v8, vi (M5 117 r6.toNat)] M5 (cI fun r8 M7 =>
          PW sc n1 m_X12_laysRotas 39 [] [some (vr 81), some (vi v1), some (vi v2), some (vi v3), some (vi v4), some (vi v5), some (vl (w64 (v6 + (M5 116 r6.toNat)))), none, some (vi r8), some (vi (w32 (v9 + 1))), some (vi r6)] M7 Q)))))))
       (PW sc n1 m_X12_laysRotas 39 [] [some (vr 81), some (vi v1), some (vi v2), some (vi v3), some (vi v4), some (vi v5), some (vl v6), none, some (vi v8), some (vi (w32 (v9 + 1))), o10] M3 Q))))))) : PW sc n m_X12_laysRotas 39 [] [some (vr 81), some (vi v1), some (vi v2), some (vi v3), some (vi v4), some (vi v5), some (vl v6), none, some (vi v8), some (vi v9), o10] M Q := pw_go rfl (fun j => Nat.beq j 9 || Nat.beq j 13 || Nat.beq j 18 || Nat.beq j 27 || Nat.beq j 39 || Nat.beq j 96 || Nat.beq j 110) 131 h
theorem pw_X12_laysRotas_96 {sc : List Int} {n : Nat} {Q : Vv → MM → Prop} (v1 : Int) (v2 : Int) (v3 : Int) (v4 : Int) (v5 : Int) (v6 : Int) (v8 : Int) (v9 : Int) (o10 : Option Vv) (M : MM) (h : ∀ n1, n1 < n → PC sc n1 m_X12_rotaState [vi v3, vi v4, vi v5] M (cI fun r2 M1 =>
  brA (decide ((lcm3 v6 1000000000) ≤ 0))
   (PW sc n1 m_X12_laysRotas 110 [vi (w32 v6), vi r2, vr 116] [some (vr 81), some (vi v1), some (vi v2), some (vi v3), some (vi v4), some (vi v5), some (vl v6), none, some (vi v8), some (vi v9), o10] M1 Q)
   (PW sc n1 m_X12_laysRotas 110 [vi 1000000000, vi r2, vr 116] [some (vr 81), some (vi v1), some (vi v2), some (vi v3), some (vi v4), some (vi v5), some (vl v6), none, some (vi v8), some (vi v9), o10] M1 Q))) : PW sc n m_X12_laysRotas 96 [] [some (vr 81), some (vi v1), some (vi v2), some (vi v3), some (vi v4), some (vi v5), some (vl v6), none, some (vi v8), some (vi v9), o10] M Q := pw_go rfl (fun j => Nat.beq j 9 || Nat.beq j 13 || Nat.beq j 18 || Nat.beq j 27 || Nat.beq j 39 || Nat.beq j 96 || Nat.beq j 110) 131 h
theorem pw_X12_laysRotas_110 {sc : List Int} {n : Nat} {Q : Vv → MM → Prop} (v1 : Int) (v2 : Int) (v3 : Int) (v4 : Int) (v5 : Int) (v6 : Int) (v8 : Int) (v9 : Int) (o10 : Option Vv) (s0 : Nat) (s1 : Int) (s2 : Int) (M : MM) (h : ∀ n1, n1 < n → gIm ((kd YF s0 == 0) && (decide (0 ≤ s1) && decide (s1 < ln YF s0))) (PC sc n1 m_X12_rotaState [vi v3, vi v4, vi v5] (stM M s0 (s1.toNat) s2) (cI fun r2 M1 =>
  gIm (decide (0 ≤ r2) && decide (r2 < 92160)) (PW sc n1 m_X12_laysRotas 18 [] [some (vr 81), some (vi v1), some (vi v2), some (vi v3), some (vi v4), some (vi (w32 (v5 + 1))), some (vl v6), none, some (vi v8), some (vi v9), o10] (stM M1 117 (r2.toNat) v8) Q)))) : PW sc n m_X12_laysRotas 110 [vi s2, vi s1, vr s0] [some (vr 81), some (vi v1), some (vi v2), some (vi v3), some (vi v4), some (vi v5), some (vl v6), none, some (vi v8), some (vi v9), o10] M Q := pw_go rfl (fun j => Nat.beq j 9 || Nat.beq j 13 || Nat.beq j 18 || Nat.beq j 27 || Nat.beq j 39 || Nat.beq j 96 || Nat.beq j 110) 131 h
theorem pc_X12_sumOf {sc : List Int} {n : Nat} {Q : Vv → MM → Prop} (v1 : Int) (M : MM) (h : ∀ n1, n1 < n → PW sc n1 m_X12_sumOf 4 [] [some (vr 81), some (vi v1), some (vi 0), some (vi 0)] M Q) : PC sc n m_X12_sumOf [vr 81, vi v1] M Q := pc_go rfl (fun j => Nat.beq j 4) 23 h
theorem pw_X12_sumOf_4 {sc : List Int} {n : Nat} {Q : Vv → MM → Prop} (v1 : Int) (v2 : Int) (v3 : Int) (M : MM) (h : ∀ n1, n1 < n → brA (decide ((M 81 57) ≤ v3))
  (Q (vi v2) M)
  (PC sc n1 m_X12_countIn [vi v1, vi v3] M (cI fun r2 M1 =>
   PW sc n1 m_X12_sumOf 4 [] [some (vr 81), some (vi v1), some (vi (w32 (v2 + r2))), some (vi (w32 (v3 + 1)))] M1 Q))) : PW sc n m_X12_sumOf 4 [] [some (vr 81), some (vi v1), some (vi v2), some (vi v3)] M Q := pw_go rfl (fun j => Nat.beq j 4) 23 h
theorem pc_X12_firstIn {sc : List Int} {n : Nat} {Q : Vv → MM → Prop} (v1 : Int) (M : MM) (h : ∀ n1, n1 < n → PW sc n1 m_X12_firstIn 6 [] [some (vr 81), some (vi v1), some (vi 0), some (vi 5), some (vi 0), none] M Q) : PC sc n m_X12_firstIn [vr 81, vi v1] M Q := pc_go rfl (fun j => Nat.beq j 6 || Nat.beq j 11) 61 h
theorem pw_X12_firstIn_6 {sc : List Int} {n : Nat} {Q : Vv → MM → Prop} (v1 : Int) (v2 : Int) (v3 : Int) (v4 : Int) (o5 : Option Vv) (M : MM) (h : ∀ n1, n1 < n → brA (decide (v1 < v4))
  (gIm (decide (0 ≤ v3) && decide (v3 < 5)) (Q (vi (M 118 v3.toNat)) M))
  (PW sc n1 m_X12_firstIn 11 [] [some (vr 81), some (vi v1), some (vi v2), some (vi v3), some (vi v4), some (vi 0)] M Q)) : PW sc n m_X12_firstIn 6 [] [some (vr 81), some (vi v1), some (vi v2), some (vi v3), some (vi v4), o5] M Q := pw_go rfl (fun j => Nat.beq j 6 || Nat.beq j 11) 61 h
theorem pw_X12_firstIn_11 {sc : List Int} {n : Nat} {Q : Vv → MM → Prop} (v1 : Int) (v2 : Int) (v3 : Int) (v4 : Int) (v5 : Int) (M : MM) (h : ∀ n1, n1 < n → PC sc n1 m_X12_mayNext [vr 81, vi v4, vi v2, vi v3, vi v5] M (cI fun r2 M1 =>
  brA (decide (r2 = 0))
   (PW sc n1 m_X12_firstIn 11 [] [some (vr 81), some (vi v1), some (vi v2), some (vi v3), some (vi v4), some (vi (w32 (v5 + 1)))] M1 Q)
   (PC sc n1 m_X12_rotaState [vi (w32 (v4 + 1)), vi (w32 (v2 + (bShl 1 (w32 (2 * v5))))), vi v5] M1 (cI fun r4 M3 =>
    gIm (decide (0 ≤ r4) && decide (r4 < 92160)) (brA (decide ((M3 116 r4.toNat) ≠ 0))
     (PW sc n1 m_X12_firstIn 6 [] [some (vr 81), some (vi v1), some (vi (w32 (v2 + (bShl 1 (w32 (2 * v5)))))), some (vi v5), some (vi (w32 (v4 + 1))), some (vi v5)] M3 Q)
     (PW sc n1 m_X12_firstIn 11 [] [some (vr 81), some (vi v1), some (vi v2), some (vi v3), some (vi v4), some (vi (w32 (v5 + 1)))] M3 Q)))))) : PW sc n m_X12_firstIn 11 [] [some (vr 81), some (vi v1), some (vi v2), some (vi v3), some (vi v4), some (vi v5)] M Q := pw_go rfl (fun j => Nat.beq j 6 || Nat.beq j 11) 61 h
theorem pc_X12_mayHaunt {sc : List Int} {n : Nat} {Q : Vv → MM → Prop} (v1 : Int) (v2 : Int) (M : MM) (h : ∀ n1, n1 < n → PC sc n1 m_X12_feels [vr 81, vi v1, vi v2] M (fun _ M1 =>
  PW sc n1 m_X12_mayHaunt 8 [] [some (vr 81), some (vi v1), some (vi v2), some (vi 0), some (vi 0)] M1 Q)) : PC sc n m_X12_mayHaunt [vr 81, vi v1, vi v2] M Q := pc_go rfl (fun j => Nat.beq j 8) 48 h
theorem pw_X12_mayHaunt_8 {sc : List Int} {n : Nat} {Q : Vv → MM → Prop} (v1 : Int) (v2 : Int) (v3 : Int) (v4 : Int) (M : MM) (h : ∀ n1, n1 < n → brA (decide ((M 81 19) ≤ v4))
  (brA (decide (v3 ≠ 0))
   (Q (vi 0) M)
   (Q (vi 1) M))
  (gIm (decide (0 ≤ v4) && decide (v4 < 16)) (brA (decide ((M 98 v4.toNat) = 109))
   (gIm (decide (0 ≤ v4) && decide (v4 < 16)) (gIm (decide (0 ≤ v4) && decide (v4 < 16)) (PC sc n1 m_X12_comesTo [vr 81, vi (M 100 v4.toNat), vi (M 101 v4.toNat)] M (cI fun r2 M1 =>
    brA (decide (r2 ≠ 1))
     (PW sc n1 m_X12_mayHaunt 8 [] [some (vr 81), some (vi v1), some (vi v2), some (vi 1), some (vi (w32 (v4 + 1)))] M1 Q)
     (Q (vi 1) M1)))))
   (PW sc n1 m_X12_mayHaunt 8 [] [some (vr 81), some (vi v1), some (vi v2), some (vi v3), some (vi (w32 (v4 + 1)))] M Q)))) : PW sc n m_X12_mayHaunt 8 [] [some (vr 81), some (vi v1), some (vi v2), some (vi v3), some (vi v4)] M Q := pw_go rfl (fun j => Nat.beq j 8) 48 h
/- how many NIGHTS a house has had -/
def cq (c i : Nat) : Nat := c / 4 ^ i % 4
theorem cq_lt (c i : Nat) : cq c i < 4 := Nat.mod_lt _ (by decide)
theorem p4_at {i : Nat} (h : i < 6) : (i = 0 ∧ 4 ^ i = 1) ∨ (i = 1 ∧ 4 ^ i = 4) ∨ (i = 2 ∧ 4 ^ i = 16) ∨ (i = 3 ∧ 4 ^ i = 64) ∨ (i = 4 ∧ 4 ^ i = 256) ∨ (i = 5 ∧ 4 ^ i = 1024) := by
  obtain rfl | rfl | rfl | rfl | rfl | rfl : i = 0 ∨ i = 1 ∨ i = 2 ∨ i = 3 ∨ i = 4 ∨ i = 5 := by omega
  all_goals decide
theorem cq_add1 {c i : Nat} (hi : i < 5) (h : cq c i < 3) : cq (c + 4 ^ i) i = cq c i + 1 := by
  unfold cq at h ⊢
  have e := p4_at (i := i) (by omega)
  generalize 4 ^ i = P at e h ⊢
  rcases e with ⟨_, rfl⟩ | ⟨_, rfl⟩ | ⟨_, rfl⟩ | ⟨_, rfl⟩ | ⟨_, rfl⟩ | ⟨_, rfl⟩ <;> omega
theorem cq_add0 {c i j : Nat} (hi : i < 5) (hj : j < 5) (hij : j ≠ i) (h : cq c i < 3) : cq (c + 4 ^ i) j = cq c j := by
  unfold cq at h ⊢
  have e := p4_at (i := i) (by omega)
  have f := p4_at (i := j) (by omega)
  generalize 4 ^ i = P at e h ⊢
  generalize 4 ^ j = R at f ⊢
  rcases e with ⟨a, rfl⟩ | ⟨a, rfl⟩ | ⟨a, rfl⟩ | ⟨a, rfl⟩ | ⟨a, rfl⟩ | ⟨a, rfl⟩ <;> rcases f with ⟨b, rfl⟩ | ⟨b, rfl⟩ | ⟨b, rfl⟩ | ⟨b, rfl⟩ | ⟨b, rfl⟩ | ⟨b, rfl⟩ <;> omega
theorem p4_add {c i m : Nat} (hm : m ≤ 5) (hi : i < m) (hc : c < 4 ^ m) (h : cq c i < 3) : c + 4 ^ i < 4 ^ m := by
  unfold cq at h
  have e := p4_at (i := i) (by omega)
  have f := p4_at (i := m) (by omega)
  generalize 4 ^ i = P at e h ⊢
  generalize 4 ^ m = R at f hc ⊢
  rcases e with ⟨a, rfl⟩ | ⟨a, rfl⟩ | ⟨a, rfl⟩ | ⟨a, rfl⟩ | ⟨a, rfl⟩ | ⟨a, rfl⟩ <;> rcases f with ⟨b, rfl⟩ | ⟨b, rfl⟩ | ⟨b, rfl⟩ | ⟨b, rfl⟩ | ⟨b, rfl⟩ | ⟨b, rfl⟩ <;> omega
theorem p4_le {m : Nat} (hm : m ≤ 5) : 1 ≤ 4 ^ m ∧ 4 ^ m ≤ 1024 := by
  have e := p4_at (i := m) (by omega)
  omega
def sq (c m : Nat) : Nat := match m with
  | 0 => 0
  | m + 1 => sq c m + cq c m
theorem sq_s (c m : Nat) : sq c (m + 1) = sq c m + cq c m := rfl
theorem sq_le (c : Nat) : ∀ m, sq c m ≤ 3 * m := by
  intro m
  induction m with
  | zero => exact Nat.le_refl _
  | succ m ih =>
    have := cq_lt c m
    rw [sq_s]
    omega
theorem sq_add {c i : Nat} (hi : i < 5) (h : cq c i < 3) : ∀ m, m ≤ 5 → sq (c + 4 ^ i) m = sq c m + (if i < m then 1 else 0) := by
  intro m
  induction m with
  | zero => intro _; rfl
  | succ m ih =>
    intro hm
    rw [sq_s, sq_s, ih (by omega)]
    by_cases e : m = i
    · subst e
      rw [cq_add1 hi h, if_neg (Nat.lt_irrefl m), if_pos (Nat.lt_succ_self m)]
      omega
    · rw [cq_add0 hi (by omega) e h]
      by_cases c : i < m
      · rw [if_pos c, if_pos (by omega)]
        omega
      · rw [if_neg c, if_neg (show ¬ i < m + 1 by omega)] <;> exact Nat.add_right_comm _ _ _
theorem sq_0 : ∀ m, sq 0 m = 0 := by
  intro m
  induction m with
  | zero => rfl
  | succ m ih =>
    rw [sq_s, ih]
    unfold cq
    rw [Nat.zero_div]
def dh (c m : Nat) : Int := match m with
  | 0 => 0
  | m + 1 => mMax (dh c m) (cq c m : Int)
def dl (b : Int) (c m : Nat) : Int := match m with
  | 0 => b
  | m + 1 => mMin (dl b c m) (cq c m : Int)
theorem dh_s (c m : Nat) : dh c (m + 1) = mMax (dh c m) (cq c m : Int) := rfl
theorem dl_s (b : Int) (c m : Nat) : dl b c (m + 1) = mMin (dl b c m) (cq c m : Int) := rfl
theorem dh_r (c : Nat) : ∀ m, 0 ≤ dh c m ∧ dh c m ≤ 3 ∧ dh c m ≤ (sq c m : Int) := by
  intro m
  induction m with
  | zero => exact ⟨Int.le_refl _, by show (0 : Int) ≤ 3; decide, Int.le_refl _⟩
  | succ m ih =>
    have q := cq_lt c m
    rw [dh_s, sq_s]
    unfold mMax
    split <;> omega
theorem dl_r {b : Int} (hb : 0 ≤ b) (c : Nat) : ∀ m, 0 ≤ dl b c m ∧ dl b c m ≤ b := by
  intro m
  induction m with
  | zero => exact ⟨hb, Int.le_refl _⟩
  | succ m ih =>
    rw [dl_s]
    unfold mMin
    split <;> omega
theorem dl_eq (c : Nat) : ∀ m, dl 1000000000 c (m + 1) = dl 3 c (m + 1) := by
  intro m
  induction m with
  | zero =>
    have q := cq_lt c 0
    rw [dl_s, dl_s]
    show mMin 1000000000 _ = mMin 3 _
    unfold mMin
    split <;> split <;> omega
  | succ m ih => rw [dl_s, dl_s 3, ih]
def dV (c m : Nat) : Int := dh c m - dl 3 c m
/- sums and leasts over those that may -/
def suF (p : Nat → Bool) (f : Nat → Int) (i : Nat) : Int := match i with
  | 0 => 0
  | i + 1 => if p i = true then suF p f i + f i else suF p f i
def miF (b : Int) (p : Nat → Bool) (f : Nat → Int) (i : Nat) : Int := match i with
  | 0 => b
  | i + 1 => if p i = true then mMin (miF b p f i) (f i) else miF b p f i
theorem suF_s (p : Nat → Bool) (f : Nat → Int) (i : Nat) : suF p f (i + 1) = if p i = true then suF p f i + f i else suF p f i := rfl
theorem miF_s (b : Int) (p : Nat → Bool) (f : Nat → Int) (i : Nat) : miF b p f (i + 1) = if p i = true then mMin (miF b p f i) (f i) else miF b p f i := rfl
def cpB (x : Int) : Int := if x ≤ 1000000000 then x else 1000000000
theorem suF_r {p : Nat → Bool} {f : Nat → Int} (hf : ∀ i, 0 ≤ f i ∧ f i ≤ 1000000000) : ∀ i, 0 ≤ suF p f i ∧ suF p f i ≤ 1000000000 * (i : Int) := by
  intro i
  induction i with
  | zero => exact ⟨Int.le_refl _, Int.le_refl _⟩
  | succ i ih =>
    have h := hf i
    rw [suF_s]
    split <;> omega
theorem suF_pos {p : Nat → Bool} {f : Nat → Int} (hf : ∀ i, 0 ≤ f i) : ∀ n, 0 < suF p f n → ∃ i, i < n ∧ p i = true ∧ 0 < f i := by
  intro n
  induction n with
  | zero => intro h; exact absurd h (by show ¬ (0 : Int) < 0; decide)
  | succ n ih =>
    intro h
    rw [suF_s] at h
    by_cases e : p n = true
    · rw [if_pos e] at h
      by_cases z : 0 < f n
      · exact ⟨n, Nat.lt_succ_self n, e, z⟩
      · have := hf n
        obtain ⟨i, a, b⟩ := ih (by omega)
        exact ⟨i, by omega, b⟩
    · rw [if_neg e] at h
      obtain ⟨i, a, b⟩ := ih h
      exact ⟨i, by omega, b⟩
theorem miF_eq {b b' : Int} {p : Nat → Bool} {f g : Nat → Int} : ∀ n, (∀ i, i < n → p i = true → f i = g i ∧ f i ≤ b ∧ f i ≤ b') → (miF b p f n = miF b' p g n ∧ miF b p f n ≤ b) ∨ (miF b p f n = b ∧ miF b' p g n = b' ∧ ∀ i, i < n → p i = false) := by
  intro n
  induction n with
  | zero => intro _; exact .inr ⟨rfl, rfl, fun i hi => absurd hi (Nat.not_lt_zero i)⟩
  | succ n ih =>
    intro h
    have z := ih fun i hi => h i (by omega)
    rw [miF_s, miF_s]
    by_cases e : p n = true
    · obtain ⟨h1, h2, h3⟩ := h n (Nat.lt_succ_self n) e
      rw [if_pos e, if_pos e]
      left
      unfold mMin
      rcases z with ⟨z1, z2⟩ | ⟨z1, z2, -⟩
      · rw [← z1, ← h1]
        exact ⟨rfl, by split <;> omega⟩
      · rw [z1, z2, ← h1]
        split <;> split <;> omega
    · rw [if_neg e, if_neg e]
      rcases z with z | ⟨z1, z2, z3⟩
      · exact .inl z
      · refine .inr ⟨z1, z2, fun i hi => ?_⟩
        by_cases q : i = n
        · subst q
          exact Bool.eq_false_iff.mpr e
        · exact z3 i (by omega)
/- a house may have the next NIGHT -/
def roK (k : Int) (al : Nat → Nat → Bool) (night c last i : Nat) : Bool := decide (i ≠ last) && (decide ((cq c i : Int) < k) && al night i)
theorem roK_iff {k : Int} {al : Nat → Nat → Bool} {night c last i : Nat} : roK k al night c last i = true ↔ i ≠ last ∧ (cq c i : Int) < k ∧ al night i = true := by
  unfold roK
  rw [Bool.and_eq_true, Bool.and_eq_true, decide_eq_true_eq, decide_eq_true_eq]
/- how many rows there are from a state on, and the least by which they can differ -/
def rwV (m : Nat) (k : Int) (al : Nat → Nat → Bool) (r night c last : Nat) : Int := match r with
  | 0 => 1
  | r + 1 => cpB (suF (roK k al night c last) (fun i => rwV m k al r (night + 1) (c + 4 ^ i) i) m)
def roP (m : Nat) (k : Int) (al : Nat → Nat → Bool) (r night c last i : Nat) : Bool := roK k al night c last i && decide (0 < rwV m k al r (night + 1) (c + 4 ^ i) i)
def rpV (b : Int) (m : Nat) (k : Int) (al : Nat → Nat → Bool) (r night c last : Nat) : Int := match r with
  | 0 => dV c m
  | r + 1 => miF b (roP m k al r night c last) (fun i => rpV b m k al r (night + 1) (c + 4 ^ i) i) m
theorem roP_iff {m : Nat} {k : Int} {al : Nat → Nat → Bool} {r night c last i : Nat} : roP m k al r night c last i = true ↔ roK k al night c last i = true ∧ 0 < rwV m k al r (night + 1) (c + 4 ^ i) i := by
  unfold roP
  rw [Bool.and_eq_true, decide_eq_true_eq]
theorem rwV_s (m : Nat) (k : Int) (al : Nat → Nat → Bool) (r night c last : Nat) : rwV m k al (r + 1) night c last = cpB (suF (roK k al night c last) (fun i => rwV m k al r (night + 1) (c + 4 ^ i) i) m) := rfl
theorem rpV_s (b : Int) (m : Nat) (k : Int) (al : Nat → Nat → Bool) (r night c last : Nat) : rpV b m k al (r + 1) night c last = miF b (roP m k al r night c last) (fun i => rpV b m k al r (night + 1) (c + 4 ^ i) i) m := rfl
theorem cpB_r {x : Int} (h : 0 ≤ x) : 0 ≤ cpB x ∧ cpB x ≤ 1000000000 := by
  unfold cpB
  split <;> omega
theorem rwV_r (m : Nat) (k : Int) (al : Nat → Nat → Bool) : ∀ r night c last, 0 ≤ rwV m k al r night c last ∧ rwV m k al r night c last ≤ 1000000000 := by
  intro r
  induction r with
  | zero => intro night c last; exact ⟨by show (0 : Int) ≤ 1; decide, by show (1 : Int) ≤ 1000000000; decide⟩
  | succ r ih =>
    intro night c last
    rw [rwV_s]
    exact cpB_r (suF_r (fun i => ih _ _ _) m).1
theorem rw_next {m : Nat} {k : Int} {al : Nat → Nat → Bool} {r night c last : Nat} (h : 0 < rwV m k al (r + 1) night c last) : ∃ i, i < m ∧ roP m k al r night c last i = true := by
  rw [rwV_s] at h
  have z : 0 < suF (roK k al night c last) (fun i => rwV m k al r (night + 1) (c + 4 ^ i) i) m := by
    unfold cpB at h
    split at h <;> omega
  obtain ⟨i, a, b, c⟩ := suF_pos (fun i => (rwV_r m k al r _ _ i).1) m z
  exact ⟨i, a, roP_iff.mpr ⟨b, c⟩⟩
/- both sides' leasts are one where there is a row -/
theorem rp_eq {m : Nat} (hm : 1 ≤ m ∧ m ≤ 5) {k : Int} (hk : k ≤ 3) {al : Nat → Nat → Bool} {n : Nat} : ∀ (r night c last : Nat), night + r = n → sq c m = night → 0 < rwV m k al r night c last → rpV (n : Int) m k al r night c last = rpV 1000000000 m k al r night c last ∧ rpV (n : Int) m k al r night c last ≤ n ∧ rpV (n : Int) m k al r night c last ≤ 3 := by
  intro r
  induction r with
  | zero =>
    intro night c last hn hs _
    have h := dh_r c m
    have l := dl_r (b := 3) (by decide) c m
    have e : rpV (n : Int) m k al 0 night c last = dV c m := rfl
    refine ⟨rfl, ?_, ?_⟩ <;> (rw [e]; unfold dV; omega)
  | succ r ih =>
    intro night c last hn hs h
    obtain ⟨j, j1, j2⟩ := rw_next h
    have step : ∀ i, i < m → roP m k al r night c last i = true → rpV (n : Int) m k al r (night + 1) (c + 4 ^ i) i = rpV 1000000000 m k al r (night + 1) (c + 4 ^ i) i ∧ rpV (n : Int) m k al r (night + 1) (c + 4 ^ i) i ≤ n ∧ rpV (n : Int) m k al r (night + 1) (c + 4 ^ i) i ≤ 3 := fun i hi q => by
      obtain ⟨q1, q2⟩ := roP_iff.mp q
      obtain ⟨-, q3, -⟩ := roK_iff.mp q1
      exact ih (night + 1) (c + 4 ^ i) i (by omega) (by rw [sq_add (by omega) (by omega) m hm.2, hs, if_pos hi]) q2
    rw [rpV_s, rpV_s]
    have z := miF_eq (b := (n : Int)) (b' := 1000000000) (p := roP m k al r night c last) (f := fun i => rpV (n : Int) m k al r (night + 1) (c + 4 ^ i) i) (g := fun i => rpV 1000000000 m k al r (night + 1) (c + 4 ^ i) i) m fun i hi q => ⟨(step i hi q).1, (step i hi q).2.1, by have := (step i hi q).2.2; show rpV (n : Int) m k al r (night + 1) (c + 4 ^ i) i ≤ 1000000000; omega⟩
    have z3 := miF_eq (b := 3) (b' := (n : Int)) (p := roP m k al r night c last) (f := fun i => rpV (n : Int) m k al r (night + 1) (c + 4 ^ i) i) (g := fun i => rpV (n : Int) m k al r (night + 1) (c + 4 ^ i) i) m fun i hi q => ⟨rfl, (step i hi q).2.2, (step i hi q).2.1⟩
    have no : ¬ ∀ i, i < m → roP m k al r night c last i = false := fun y => absurd (j2.symm.trans (y j j1)) (by decide)
    have z := z.resolve_right fun y => no y.2.2
    have z3 := z3.resolve_right fun y => no y.2.2
    exact ⟨z.1, z.2, by rw [← z3.1]; exact z3.2⟩
/- the first that may have the next NIGHT so that there is a row -/
def ffV (p : Nat → Bool) (n i : Nat) : Nat := match n with
  | 0 => 5
  | n + 1 => if p i = true then i else ffV p n (i + 1)
theorem ffV_s (p : Nat → Bool) (n i : Nat) : ffV p (n + 1) i = if p i = true then i else ffV p n (i + 1) := rfl
theorem ffV_at {p : Nat → Bool} : ∀ n i, (∃ j, i ≤ j ∧ j < i + n ∧ p j = true) → i ≤ ffV p n i ∧ ffV p n i < i + n ∧ p (ffV p n i) = true := by
  intro n
  induction n with
  | zero => intro i h; obtain ⟨j, a, b, -⟩ := h; omega
  | succ n ih =>
    intro i ⟨j, a, b, c⟩
    rw [ffV_s]
    by_cases e : p i = true
    · rw [if_pos e]
      exact ⟨Nat.le_refl _, by omega, e⟩
    · rw [if_neg e]
      have q : j ≠ i := fun z => by
        subst z
        exact e c
      have z := ih (i + 1) ⟨j, by omega, by omega, c⟩
      exact ⟨by omega, by omega, z.2.2⟩
/- the first row: counts and who had the last NIGHT behind j NIGHTS -/
def rrV (m : Nat) (k : Int) (al : Nat → Nat → Bool) (n j : Nat) : Nat × Nat := match j with
  | 0 => (0, 5)
  | j + 1 => ((rrV m k al n j).1 + 4 ^ ffV (roP m k al (n - (j + 1)) j (rrV m k al n j).1 (rrV m k al n j).2) m 0, ffV (roP m k al (n - (j + 1)) j (rrV m k al n j).1 (rrV m k al n j).2) m 0)
theorem rrV_s (m : Nat) (k : Int) (al : Nat → Nat → Bool) (n j : Nat) : rrV m k al n (j + 1) = ((rrV m k al n j).1 + 4 ^ ffV (roP m k al (n - (j + 1)) j (rrV m k al n j).1 (rrV m k al n j).2) m 0, ffV (roP m k al (n - (j + 1)) j (rrV m k al n j).1 (rrV m k al n j).2) m 0) := rfl
/- what holds of it on its way -/
def rrI (m : Nat) (k : Int) (al : Nat → Nat → Bool) (n j : Nat) (s : Nat × Nat) : Prop := s.1 < 4 ^ m ∧ sq s.1 m = j ∧ s.2 ≤ 5 ∧ 0 < rwV m k al (n - j) j s.1 s.2
theorem rr_step {m : Nat} (hm : 1 ≤ m ∧ m ≤ 5) {k : Int} (hk : k ≤ 3) {al : Nat → Nat → Bool} {n j : Nat} (hj : j < n) {c last : Nat} (h : rrI m k al n j (c, last)) : ffV (roP m k al (n - (j + 1)) j c last) m 0 < m ∧ roP m k al (n - (j + 1)) j c last (ffV (roP m k al (n - (j + 1)) j c last) m 0) = true ∧ rrI m k al n (j + 1) (c + 4 ^ ffV (roP m k al (n - (j + 1)) j c last) m 0, ffV (roP m k al (n - (j + 1)) j c last) m 0) := by
  obtain ⟨h1, h2, h3, h4⟩ := h
  have h1 : c < 4 ^ m := h1
  have h2 : sq c m = j := h2
  have h4 : 0 < rwV m k al (n - j) j c last := h4
  rw [show n - j = (n - (j + 1)) + 1 by omega] at h4
  obtain ⟨i, i1, i2⟩ := rw_next h4
  have z := ffV_at (p := roP m k al (n - (j + 1)) j c last) m 0 ⟨i, by omega, by omega, i2⟩
  obtain ⟨z1, z2, z3⟩ := z
  have z2 : ffV (roP m k al (n - (j + 1)) j c last) m 0 < m := by omega
  generalize ffV (roP m k al (n - (j + 1)) j c last) m 0 = f at z2 z3 ⊢
  obtain ⟨q1, q2⟩ := roP_iff.mp z3
  obtain ⟨-, q3, -⟩ := roK_iff.mp q1
  refine ⟨z2, z3, p4_add hm.2 z2 h1 (by omega), ?_, ?_, q2⟩
  · show sq (c + 4 ^ f) m = j + 1
    rw [sq_add (by omega) (by omega) m hm.2, h2, if_pos z2]
  · show f ≤ 5
    omega
theorem rr_all {m : Nat} (hm : 1 ≤ m ∧ m ≤ 5) {k : Int} (hk : k ≤ 3) {al : Nat → Nat → Bool} {n : Nat} (h : 0 < rwV m k al n 0 0 5) : ∀ j, j ≤ n → rrI m k al n j (rrV m k al n j) := by
  intro j
  induction j with
  | zero => intro _; exact ⟨(p4_le hm.2).1, sq_0 m, Nat.le_refl 5, h⟩
  | succ j ih =>
    intro hj
    rw [rrV_s]
    exact (rr_step hm hk (by omega) (ih (by omega))).2.2
/- the houses of a set, by numbers -/
def mbV (hs : Int) (j : Nat) : Nat × (Nat → Int) := match j with
  | 0 => (0, fun _ => 0)
  | j + 1 => if bit hs j = true then ((mbV hs j).1 + 1, fun x => if x = (mbV hs j).1 then (j : Int) else (mbV hs j).2 x) else mbV hs j
theorem mbV_s (hs : Int) (j : Nat) : mbV hs (j + 1) = if bit hs j = true then ((mbV hs j).1 + 1, fun x => if x = (mbV hs j).1 then (j : Int) else (mbV hs j).2 x) else mbV hs j := rfl
theorem mbV_n (hs : Int) : ∀ j, j ≤ 10 → ((mbV hs j).1 : Int) = bsum hs j := by
  intro j
  induction j with
  | zero => intro _; rfl
  | succ j ih =>
    intro hj
    have e : bsum hs (j + 1) = bsum hs j + btv hs (j : Int) := rfl
    have b := btv_iff hs (k := j) (by omega)
    have r := btv_r hs j
    have z := ih (by omega)
    rw [mbV_s, e]
    by_cases c : bit hs j = true
    · rw [if_pos c, b.mpr c]
      show (((mbV hs j).1 + 1 : Nat) : Int) = _
      omega
    · rw [if_neg c]
      have : btv hs (j : Int) ≠ 1 := fun y => c (b.mp y)
      omega
theorem mbV_r (hs : Int) : ∀ j, j ≤ 10 → ∀ x, 0 ≤ (mbV hs j).2 x ∧ (mbV hs j).2 x ≤ 9 := by
  intro j
  induction j with
  | zero => intro _ x; exact ⟨Int.le_refl _, by show (0 : Int) ≤ 9; decide⟩
  | succ j ih =>
    intro hj x
    rw [mbV_s]
    by_cases c : bit hs j = true
    · rw [if_pos c]
      show 0 ≤ (if x = (mbV hs j).1 then (j : Int) else (mbV hs j).2 x) ∧ (if x = (mbV hs j).1 then (j : Int) else (mbV hs j).2 x) ≤ 9
      split
      · omega
      · exact ih (by omega) x
    · rw [if_neg c]
      exact ih (by omega) x
theorem bs_pos {hs : Int} (h : 1 ≤ hs ∧ hs ≤ 1023) : 1 ≤ bsum hs 10 := by
  rcases Int.lt_or_le 0 (bsum hs 10) with z | z
  · omega
  · have zero : ∀ j, j ≤ 10 → ∀ i, i < j → bit hs i = false := by
      intro j
      induction j with
      | zero => intro _ i hi; exact absurd hi (Nat.not_lt_zero i)
      | succ j ih =>
        intro hj i hi
        by_cases e : i = j
        · subst e
          have m1 := bsum_mono hs (10 - (i + 1)) (i + 1)
          rw [show i + 1 + (10 - (i + 1)) = 10 by omega] at m1
          have e1 : bsum hs (i + 1) = bsum hs i + btv hs (i : Int) := rfl
          have r0 := bsum_r hs i
          have r1 := btv_r hs i
          cases b : bit hs i
          · rfl
          · have := (btv_iff hs (k := i) (by omega)).mpr b
            omega
        · exact ih (by omega) i (by omega)
    have := bit_ext (v := hs) (w := 0) ⟨by omega, by omega⟩ (by decide) fun i hi => by rw [zero 10 (by decide) i hi, bit_zero]
    omega
theorem shl4 : ∀ i : Nat, i < 6 → bShl 1 (2 * (i : Int)) = ((4 ^ i : Nat) : Int) := by decide +kernel
theorem cnt_e {c i : Nat} (hc : c < 1024) (hi : i < 5) : bAnd (bShr (c : Int) (w32 (2 * (i : Int)))) 3 = ((cq c i : Nat) : Int) := by
  rw [show w32 (2 * (i : Int)) = 2 * (i : Int) from ew32 (by omega) (by omega), cnt_at (c := (c : Int)) (i := (i : Int)) ⟨by omega, by omega⟩ ⟨by omega, by omega⟩]
  unfold cs4
  rw [shl4 i (by omega)]
  unfold cq
  rw [Int.natCast_emod, Int.natCast_ediv]
  rfl
theorem and0r {x y : Int} (hx : 0 ≤ x ∧ x < 1024) : bAnd x y = 0 ↔ ∀ b, b < 10 → ¬ (bit x b = true ∧ bit y b = true) := by
  have r := fbAndL y hx.1 (show x ≤ 1023 by omega) (by decide)
  constructor
  · intro e b hb ⟨z1, z2⟩
    have : bit (bAnd x y) b = true := by rw [bit_and, z1, z2]; rfl
    rw [e, bit_zero] at this
    cases this
  · intro h
    refine bit_ext ⟨r.1, by omega⟩ (by decide) fun b hb => ?_
    rw [bit_zero, bit_and]
    cases e1 : bit x b
    · rfl
    · cases e2 : bit y b
      · rfl
      · exact absurd ⟨e1, e2⟩ (h b hb)
theorem cpB_add {a b : Int} (ha : 0 ≤ a) (hb : 0 ≤ b ∧ b ≤ 1000000000) : mMin 1000000000 (w32 (cpB a + b)) = cpB (a + b) := by
  have r := cpB_r ha
  rw [ew32 (by omega) (by omega)]
  unfold mMin cpB
  split <;> split <;> (try split) <;> omega
theorem lcmr_le {x y : Int} : lcm3 x y ≤ 0 ↔ x ≤ y := by
  unfold lcm3
  split
  · omega
  · split <;> omega
theorem c6_ne {c c' l l' : Nat} (hl : l ≤ 5) (hl' : l' ≤ 5) (h : c ≠ c') : 6 * c + l ≠ 6 * c' + l' := by omega
section ROC
variable {sc : List Int} {Q : Vv → MM → Prop} {L T : Nat}
set_option maxRecDepth 20000 in
theorem f_countC {c i : Nat} (hc : c < 1024) (hi : i < 5) {M : MM} {n : Nat} (k : Q (vi ((cq c i : Nat) : Int)) M) : PC sc n m_X4_countOf [vi (c : Int), vi (i : Int)] M Q := pc_X4_countOf _ _ M fun _ _ => by
  rw [cnt_e hc hi]
  exact k
set_option maxRecDepth 20000 in
theorem f_stateC {c l : Nat} (hc : c < 1024) (hl : l ≤ 5) {M : MM} {n : Nat} (k : ∀ y : Int, y = ((6 * c + l : Nat) : Int) → Q (vi y) M) : PC sc n m_X4_stateOf [vi (c : Int), vi (l : Int)] M Q := pc_X4_stateOf _ _ M fun _ _ => by
  rw [show w32 ((c : Int) * 6) = (c : Int) * 6 from ew32 (by omega) (by omega), show w32 ((c : Int) * 6 + (l : Int)) = ((6 * c + l : Nat) : Int) by rw [ew32 (by omega) (by omega)]; omega]
  exact k _ rfl
set_option maxRecDepth 20000 in
theorem f_afterC {c i m : Nat} (hm : m ≤ 5) (hi : i < m) (hc : c < 4 ^ m) (h : cq c i < 3) {M : MM} {n : Nat} (k : ∀ y : Int, y = ((6 * (c + 4 ^ i) + i : Nat) : Int) → Q (vi y) M) : PC sc n m_X4_stateAfter [vr 41, vi (c : Int), vi (i : Int)] M Q := pc_X4_stateAfter _ _ M fun _ _ => by
  have b := p4_le hm
  have a := p4_add hm hi hc h
  have b2 : 1 ≤ 4 ^ i ∧ 4 ^ i ≤ 1024 := p4_le (by omega)
  rw [show w32 (2 * (i : Int)) = 2 * (i : Int) from ew32 (by omega) (by omega), shl4 i (by omega), show w32 ((c : Int) + ((4 ^ i : Nat) : Int)) = ((c + 4 ^ i : Nat) : Int) by rw [ew32 (by omega) (by omega)]; omega]
  exact f_stateC (by omega) (by omega) fun y hy => cI_i (k y hy)
/- what the rotas' table stands on -/
def rtP (m : Nat) (k : Int) (n : Nat) (al : Nat → Nat → Bool) (M : MM) : Prop := M 41 4 = (m : Int) ∧ M 41 5 = (n : Int) ∧ M 41 6 = k ∧ ∀ night i, night < n → i < m → bit (M 43 night) i = al night i
set_option maxRecDepth 20000 in
theorem f_canBeC {m n : Nat} (hm : m ≤ 5) (hn : n ≤ 14) {k : Int} {al : Nat → Nat → Bool} {M : MM} (P : rtP m k n al M) {night c last i : Nat} (hc : c < 1024) (hN : night < n) (hi : i < m) {f : Nat} (k0 : roK k al night c last i = false → ∀ x : Int, x = 0 → Q (vi x) M) (k1 : roK k al night c last i = true → ∀ x : Int, x = 1 → Q (vi x) M) : PC sc f m_X4_canBe [vr 41, vi (c : Int), vi (last : Int), vi (night : Int), vi (i : Int)] M Q := by
  obtain ⟨p1, p2, p3, p4⟩ := P
  refine pc_X4_canBe _ _ _ _ M fun n1 _ => brP (fun e => k0 ?_ 0 rfl) fun e => f_countC hc (by omega) (cI_i ?_)
  · refine Bool.eq_false_iff.mpr fun z => ?_
    have := (roK_iff.mp z).1
    omega
  · rw [p3]
    refine brP (fun e2 => k0 ?_ 0 rfl) fun e2 => gMB ?_
    · refine Bool.eq_false_iff.mpr fun z => ?_
      have := (roK_iff.mp z).2.1
      omega
    · rw [show ((night : Int)).toNat = night by omega]
      refine p_hasC (by omega) (fun b x hx => cI_i (brT hx (k0 ?_ 0 rfl))) fun b x hx => cI_i (brF (by omega) (k1 ?_ 1 rfl))
      · refine Bool.eq_false_iff.mpr fun z => ?_
        rw [p4 night i hN hi] at b
        exact absurd (b.symm.trans (roK_iff.mp z).2.2) (by decide)
      · rw [p4 night i hN hi] at b
        exact roK_iff.mpr ⟨by omega, by omega, b⟩
set_option maxRecDepth 20000 in
theorem f_nightsC {m : Nat} (hm : m ≤ 5) {M : MM} (p1 : M 41 4 = (m : Int)) {c : Nat} (hc : c < 1024) {n : Nat} (k : Q (vi ((sq c m : Nat) : Int)) M) : PC sc n m_X4_nightsIn [vr 41, vi (c : Int)] M Q := by
  have lp : ∀ (q i n : Nat), i + q = m → PW sc n m_X4_nightsIn 4 [] [some (vr 41), some (vi (c : Int)), some (vi ((sq c i : Nat) : Int)), some (vi (i : Int))] M Q := by
    intro q
    induction q with
    | zero =>
      intro i n hi
      have hi : i = m := hi
      subst hi
      refine pw_X4_nightsIn_4 _ _ _ M fun n1 _ => ?_
      rw [p1]
      exact brT (Int.le_refl _) k
    | succ q ih =>
      intro i n hi
      have hs := sq_le c i
      have hq := cq_lt c i
      refine pw_X4_nightsIn_4 _ _ _ M fun n1 _ => ?_
      rw [p1]
      refine brF (by omega) (f_countC hc (by omega) (cI_i ?_))
      rw [show w32 ((i : Int) + 1) = ((i + 1 : Nat) : Int) from ew32 (by omega) (by omega), show w32 (((sq c i : Nat) : Int) + ((cq c i : Nat) : Int)) = ((sq c (i + 1) : Nat) : Int) by rw [sq_s, ew32 (by omega) (by omega)]; omega]
      exact ih (i + 1) n1 (by omega)
  exact pc_X4_nightsIn _ M fun n1 _ => lp m 0 n1 (Nat.zero_add _)
set_option maxRecDepth 20000 in
theorem f_spreadC {m : Nat} (hm : m ≤ 5) {M : MM} (p1 : M 41 4 = (m : Int)) {c : Nat} (hc : c < 1024) {n : Nat} (k : Q (vi (dV c m)) M) : PC sc n m_X4_spreadOf [vr 41, vi (c : Int)] M Q := by
  have lp : ∀ (q i n : Nat), i + q = m → PW sc n m_X4_spreadOf 6 [] [some (vr 41), some (vi (c : Int)), some (vi (dl 3 c i)), some (vi (dh c i)), some (vi (i : Int))] M Q := by
    intro q
    induction q with
    | zero =>
      intro i n hi
      have hi : i = m := hi
      subst hi
      have h := dh_r c i
      have l := dl_r (b := 3) (by decide) c i
      refine pw_X4_spreadOf_6 _ _ _ _ M fun n1 _ => ?_
      rw [p1, show w32 (dh c i - dl 3 c i) = dV c i by unfold dV; exact ew32 (by omega) (by omega)]
      exact brT (Int.le_refl _) k
    | succ q ih =>
      intro i n hi
      refine pw_X4_spreadOf_6 _ _ _ _ M fun n1 _ => ?_
      rw [p1]
      refine brF (by omega) (f_countC hc (by omega) (cI_i (f_countC hc (by omega) (cI_i ?_))))
      rw [show w32 ((i : Int) + 1) = ((i + 1 : Nat) : Int) from ew32 (by omega) (by omega)]
      exact ih (i + 1) n1 (by omega)
  exact pc_X4_spreadOf _ M fun n1 _ => lp m 0 n1 (Nat.zero_add _)
/- the table's entry for a state -/
def rtE (m : Nat) (k : Int) (n : Nat) (al : Nat → Nat → Bool) (M : MM) (c l : Nat) : Prop := sq c m ≤ n → M 44 (6 * c + l) = rwV m k al (n - sq c m) (sq c m) c l ∧ M 45 (6 * c + l) = rpV (n : Int) m k al (n - sq c m) (sq c m) c l
set_option maxRecDepth 20000 in
theorem f_weighC {m n : Nat} (hm : m ≤ 5) (hn : n ≤ 14) {k : Int} (hk : k ≤ 3) {al : Nat → Nat → Bool} {M : MM} (P : rtP m k n al M) {c l : Nat} (hc : c < 4 ^ m) (hl : l ≤ 5) (E : ∀ c' l', c < c' → c' < 4 ^ m → l' ≤ 5 → rtE m k n al M c' l') {f : Nat} (kk : ∀ M1, (∀ x, x ≠ 44 → x ≠ 45 → M1 x = M x) → (∀ j, j ≠ 6 * c + l → M1 44 j = M 44 j ∧ M1 45 j = M 45 j) → rtE m k n al M1 c l → Q (vi 0) M1) : PC sc f m_X4_weigh [vr 41, vi (c : Int), vi (l : Int)] M Q := by
  have b := p4_le hm
  have hc2 : c < 1024 := by omega
  have hs := sq_le c m
  obtain ⟨p1, p2, p3, p4⟩ := id P
  obtain ⟨xs, hxs⟩ : ∃ xs : Int, xs = ((6 * c + l : Nat) : Int) := ⟨_, rfl⟩
  have fin : ∀ (n' i : Nat) (o6 : Option Vv) (M1 : MM), (m ≤ i ∨ n ≤ sq c m) → (∀ x, x ≠ 44 → x ≠ 45 → M1 x = M x) → (∀ j, j ≠ 6 * c + l → M1 44 j = M 44 j ∧ M1 45 j = M 45 j) → rtE m k n al M1 c l → PW sc n' m_X4_weigh 37 [] [some (vr 41), some (vi (c : Int)), some (vi (l : Int)), some (vi xs), some (vi ((sq c m : Nat) : Int)), some (vi (i : Int)), o6] M1 Q := fun n' i o6 M1 h F O e => by
    refine pw_X4_weigh_37 _ _ _ _ _ _ M1 fun n1 _ => ?_
    rw [F 41 (by decide) (by decide), p1, p2]
    refine brP (fun _ => kk M1 F O e) fun z => brT (by omega) (kk M1 F O e)
  refine pc_X4_weigh _ _ M fun n1 _ => f_stateC hc2 hl fun x' hx' => cI_i (f_nightsC hm p1 hc2 (cI_i (gMB (gMB ?_))))
  rw [hx'.trans hxs.symm, p2, show xs.toNat = 6 * c + l by omega]
  refine brP (fun ne => ?_) fun eq => gMB (f_spreadC hm (by rw [stK (by decide), stK (by decide), stK (by decide)]; exact p1) hc2 (cI_i (gMB ?_)))
  · rcases Nat.lt_or_ge (sq c m) n with lt | ge
    · obtain ⟨r, hr⟩ : ∃ r, n - sq c m = r + 1 := ⟨n - sq c m - 1, by omega⟩
      have sF := suF_r (p := roK k al (sq c m) c l) (f := fun i => rwV m k al r (sq c m + 1) (c + 4 ^ i) i) (fun i => rwV_r m k al r _ _ _)
      have lp : ∀ (q i n' : Nat) (o6 : Option Vv) (M1 : MM), i + q = m → (∀ x, x ≠ 44 → x ≠ 45 → M1 x = M x) → (∀ j, j ≠ 6 * c + l → M1 44 j = M 44 j ∧ M1 45 j = M 45 j) → M1 44 (6 * c + l) = cpB (suF (roK k al (sq c m) c l) (fun i => rwV m k al r (sq c m + 1) (c + 4 ^ i) i) i) → M1 45 (6 * c + l) = miF (n : Int) (roP m k al r (sq c m) c l) (fun i => rpV (n : Int) m k al r (sq c m + 1) (c + 4 ^ i) i) i → PW sc n' m_X4_weigh 37 [] [some (vr 41), some (vi (c : Int)), some (vi (l : Int)), some (vi xs), some (vi ((sq c m : Nat) : Int)), some (vi (i : Int)), o6] M1 Q := by
        intro q
        induction q with
        | zero =>
          intro i n' o6 M1 hi F O e44 e45
          have hi : i = m := hi
          subst hi
          exact fin n' i o6 M1 (.inl (Nat.le_refl _)) F O fun _ => by
            rw [hr, rwV_s, rpV_s]
            exact ⟨e44, e45⟩
        | succ q ih =>
          intro i n' o6 M1 hi F O e44 e45
          have him : i < m := by omega
          have s0 := sF i
          refine pw_X4_weigh_37 _ _ _ _ _ _ M1 fun n2 _ => ?_
          rw [F 41 (by decide) (by decide), p1, p2]
          have P1 : rtP m k n al M1 := by
            unfold rtP
            rw [F 41 (by decide) (by decide), F 43 (by decide) (by decide)]
            exact P
          have nxt : ∀ (n' : Nat) (o6 : Option Vv) (M2 : MM), (∀ x, x ≠ 44 → x ≠ 45 → M2 x = M x) → (∀ j, j ≠ 6 * c + l → M2 44 j = M 44 j ∧ M2 45 j = M 45 j) → M2 44 (6 * c + l) = cpB (suF (roK k al (sq c m) c l) (fun i => rwV m k al r (sq c m + 1) (c + 4 ^ i) i) (i + 1)) → M2 45 (6 * c + l) = miF (n : Int) (roP m k al r (sq c m) c l) (fun i => rpV (n : Int) m k al r (sq c m + 1) (c + 4 ^ i) i) (i + 1) → PW sc n' m_X4_weigh 37 [] [some (vr 41), some (vi (c : Int)), some (vi (l : Int)), some (vi xs), some (vi ((sq c m : Nat) : Int)), some (vi (w32 ((i : Int) + 1))), o6] M2 Q := fun n' o6 M2 F2 O2 a b => by
            rw [show w32 ((i : Int) + 1) = ((i + 1 : Nat) : Int) from ew32 (by omega) (by omega)]
            exact ih (i + 1) n' o6 M2 (by omega) F2 O2 a b
          refine brF (by omega) (brF (by omega) (f_canBeC hm hn P1 hc2 lt him (fun z x hx => cI_i (brT hx (nxt _ _ M1 F O ?_ ?_))) fun z x hx => cI_i (brF (by omega) ?_)))
          · rw [e44, suF_s, if_neg (by rw [z]; decide)]
          · rw [e45, miF_s, if_neg fun y => absurd (z.symm.trans (roP_iff.mp y).1) (by decide)]
          · obtain ⟨z1, z2, z3⟩ := roK_iff.mp z
            have hcq : cq c i < 3 := by omega
            have c4 := p4_add hm him hc hcq
            have hp := (p4_at (i := i) (by omega))
            have hcc : c < c + 4 ^ i := by omega
            have sq1 : sq (c + 4 ^ i) m = sq c m + 1 := by rw [sq_add (by omega) hcq m hm, if_pos him]
            have ent := E (c + 4 ^ i) i hcc c4 (by omega) (by omega)
            rw [sq1, show n - (sq c m + 1) = r by omega] at ent
            have hne : 6 * (c + 4 ^ i) + i ≠ 6 * c + l := c6_ne (by omega) hl (by omega)
            have o1 := O _ hne
            have rr := rwV_r m k al r (sq c m + 1) (c + 4 ^ i) i
            refine f_afterC hm him hc hcq fun x4 h4 => cI_i (gMB ?_)
            rw [show x4.toNat = 6 * (c + 4 ^ i) + i by omega, show xs.toNat = 6 * c + l by omega, o1.1, ent.1]
            refine brP (fun le => nxt _ _ M1 F O ?_ ?_) fun gt => gMB (gMB (gMB (gMB (gMB (gMB (nxt _ _ _ (fun x x1 x2 => (stK x2).trans ((stK x1).trans (F x x1 x2))) (fun j hj => ⟨?_, ?_⟩) ?_ ?_))))))
            · rw [e44, suF_s, if_pos z, show rwV m k al r (sq c m + 1) (c + 4 ^ i) i = 0 by omega, Int.add_zero]
            · rw [e45, miF_s, if_neg fun y => by have := (roP_iff.mp y).2; omega]
            · rw [stK (by decide), stO hj]
              exact (O j hj).1
            · rw [stO hj, stK (by decide)]
              exact (O j hj).2
            · rw [stK (by decide), stE, suF_s, if_pos z, e44]
              exact cpB_add s0.1 rr
            · rw [stE, miF_s, if_pos (roP_iff.mpr ⟨z, by omega⟩), e45, o1.2, ent.2]
      refine lp m 0 n1 _ _ (Nat.zero_add _) (fun x x1 x2 => (stK x2).trans (stK x1)) (fun j hj => ⟨?_, ?_⟩) ?_ ?_
      · rw [stK (by decide), stO hj]
      · rw [stO hj, stK (by decide)]
      · rw [stK (by decide)]
        exact stE
      · exact stE
    · refine fin n1 0 _ _ (.inr ge) (fun x x1 x2 => (stK x2).trans (stK x1)) (fun j hj => ⟨?_, ?_⟩) fun z => by omega
      · rw [stK (by decide), stO hj]
      · rw [stO hj, stK (by decide)]
  · have eq : sq c m = n := by
      have := Classical.not_not.mp eq
      omega
    refine fin n1 0 _ _ (.inr (by omega)) (fun x x1 x2 => (stK x2).trans ((stK x1).trans ((stK x2).trans (stK x1)))) (fun j hj => ⟨?_, ?_⟩) fun z => ?_
    · rw [stK (by decide), stO hj, stK (by decide), stO hj]
    · rw [stO hj, stK (by decide), stO hj, stK (by decide)]
    · rw [show n - sq c m = 0 by omega]
      refine ⟨?_, stE⟩
      rw [stK (by decide)]
      exact stE
/- the member that has the next NIGHT, class -/
set_option maxRecDepth 20000 in
theorem f_firstC {m n : Nat} (hm : m ≤ 5) (hn : n ≤ 14) {k : Int} (hk : k ≤ 3) {al : Nat → Nat → Bool} {M : MM} (P : rtP m k n al M) (E : ∀ c' l', c' < 4 ^ m → l' ≤ 5 → rtE m k n al M c' l') {c last : Nat} (hc : c < 4 ^ m) (hN : sq c m < n) {f : Nat} (kk : Q (vi ((ffV (roP m k al (n - (sq c m + 1)) (sq c m) c last) m 0 : Nat) : Int)) M) : PC sc f m_X4_firstMember [vr 41, vi (c : Int), vi (last : Int), vi ((sq c m : Nat) : Int)] M Q := by
  have b := p4_le hm
  have lp : ∀ (q i f : Nat), i + q = m → Q (vi ((ffV (roP m k al (n - (sq c m + 1)) (sq c m) c last) q i : Nat) : Int)) M → PW sc f m_X4_firstMember 2 [] [some (vr 41), some (vi (c : Int)), some (vi (last : Int)), some (vi ((sq c m : Nat) : Int)), some (vi (i : Int))] M Q := by
    intro q
    induction q with
    | zero =>
      intro i f hi kk
      have hi : i = m := hi
      subst hi
      refine pw_X4_firstMember_2 _ _ _ _ M fun n1 _ => ?_
      rw [P.1]
      exact brT (Int.le_refl _) kk
    | succ q ih =>
      intro i f hi kk
      rw [ffV_s] at kk
      have him : i < m := by omega
      refine pw_X4_firstMember_2 _ _ _ _ M fun n1 _ => ?_
      rw [P.1, show w32 ((i : Int) + 1) = ((i + 1 : Nat) : Int) from ew32 (by omega) (by omega)]
      refine brF (by omega) (f_canBeC hm hn P (by omega) hN him (fun z x hx => cI_i (brT hx (ih (i + 1) n1 (by omega) ?_))) fun z x hx => cI_i (brF (by omega) ?_))
      · rw [if_neg fun y => absurd (z.symm.trans (roP_iff.mp y).1) (by decide)] at kk
        exact kk
      · obtain ⟨z1, z2, z3⟩ := roK_iff.mp z
        have hcq : cq c i < 3 := by omega
        have sq1 : sq (c + 4 ^ i) m = sq c m + 1 := by rw [sq_add (by omega) hcq m hm, if_pos him]
        have ent := (E (c + 4 ^ i) i (p4_add hm him hc hcq) (by omega) (by omega)).1
        rw [sq1] at ent
        refine f_afterC hm him hc hcq fun x4 h4 => cI_i (gMB ?_)
        rw [show x4.toNat = 6 * (c + 4 ^ i) + i by omega, ent]
        refine brP (fun le => ih (i + 1) n1 (by omega) ?_) fun gt => ?_
        · rw [if_neg fun y => by have := (roP_iff.mp y).2; omega] at kk
          exact kk
        · rw [if_pos (roP_iff.mpr ⟨z, by omega⟩)] at kk
          exact kk
  exact pc_X4_firstMember _ _ _ M fun n1 _ => lp m 0 n1 (Nat.zero_add _) kk
set_option maxRecDepth 20000 in
theorem f_houseInC {m n : Nat} (hm : 1 ≤ m ∧ m ≤ 5) (hn : n ≤ 14) {k : Int} (hk : k ≤ 3) {al : Nat → Nat → Bool} {M : MM} (P : rtP m k n al M) (E : ∀ c' l', c' < 4 ^ m → l' ≤ 5 → rtE m k n al M c' l') (pos : 0 < rwV m k al n 0 0 5) {w : Nat} (hw : w < n) {f : Nat} (kk : Q (vi (M 42 (rrV m k al n (w + 1)).2)) M) : PC sc f m_X4_houseIn [vr 41, vi (w : Int)] M Q := by
  have lp : ∀ (q j f : Nat), j + q = w + 1 → PW sc f m_X4_houseIn 6 [] [some (vr 41), some (vi (w : Int)), some (vi (((rrV m k al n j).1 : Nat) : Int)), some (vi (((rrV m k al n j).2 : Nat) : Int)), some (vi (j : Int))] M Q := by
    intro q
    induction q with
    | zero =>
      intro j f hj
      have hj : j = w + 1 := hj
      subst hj
      refine pw_X4_houseIn_6 _ _ _ _ M fun n1 _ => brT (by omega) (gMB ?_)
      rw [show ((((rrV m k al n (w + 1)).2 : Nat) : Int)).toNat = (rrV m k al n (w + 1)).2 by omega]
      exact kk
    | succ q ih =>
      intro j f hj
      have I := rr_all hm hk pos j (by omega)
      have S := rr_step hm hk (by omega) I
      have hs := rrV_s m k al n j
      have ih2 := ih (j + 1)
      rw [hs] at ih2
      obtain ⟨i1, i2, i3, -⟩ := I
      generalize (rrV m k al n j).1 = c at i1 i2 S ih2 ⊢
      generalize (rrV m k al n j).2 = last at i3 S ih2 ⊢
      have b := p4_le hm.2
      have hp := p4_at (i := ffV (roP m k al (n - (j + 1)) j c last) m 0) (by omega)
      have cb : cq c (ffV (roP m k al (n - (j + 1)) j c last) m 0) < 3 := by
        have := (roK_iff.mp (roP_iff.mp S.2.1).1).2.1
        omega
      have ca := p4_add hm.2 S.1 i1 cb
      refine pw_X4_houseIn_6 _ _ _ _ M fun n1 _ => brF (by omega) ?_
      rw [← i2]
      refine f_firstC hm.2 hn hk P E i1 (by omega) (cI_i ?_)
      rw [i2]
      refine brT (by omega) ?_
      rw [show w32 ((j : Int) + 1) = ((j + 1 : Nat) : Int) from ew32 (by omega) (by omega), show w32 (2 * ((ffV (roP m k al (n - (j + 1)) j c last) m 0 : Nat) : Int)) = 2 * ((ffV (roP m k al (n - (j + 1)) j c last) m 0 : Nat) : Int) from ew32 (by omega) (by omega), shl4 _ (by omega), show w32 ((c : Int) + ((4 ^ ffV (roP m k al (n - (j + 1)) j c last) m 0 : Nat) : Int)) = ((c + 4 ^ ffV (roP m k al (n - (j + 1)) j c last) m 0 : Nat) : Int) by rw [ew32 (by omega) (by omega)]; omega]
      exact ih2 n1 (by omega)
  exact pc_X4_houseIn _ M fun n1 _ => lp (w + 1) 0 n1 (Nat.zero_add _)
/- what the rotas leave as it was, class -/
def rcF (L : Nat) (M0 M : MM) : Prop := (∀ c, (c < 41 ∨ 45 < c) → c ≠ L → c ≠ L + 6 → c ≠ L + 7 → M c = M0 c) ∧ ∀ j, j ≠ 9 → j ≠ 10 → M L j = M0 L j
theorem rcF.st (hL : L = 65 ∨ L = 73) {M0 M : MM} (f : rcF L M0 M) {k j : Nat} {v : Int} (hk : 41 ≤ k ∧ k ≤ 45) : rcF L M0 (stM M k j v) := ⟨fun c c1 c2 c3 c4 => (stK (by omega)).trans (f.1 c c1 c2 c3 c4), fun i i1 i2 => (stN (by omega)).trans (f.2 i i1 i2)⟩
theorem rcF.lq {M0 M M1 : MM} (f : rcF L M0 M) (g : lqF L M M1) : rcF L M0 M1 := ⟨fun c c1 c2 c3 c4 => (g.1 c c2 c3 c4).trans (f.1 c c1 c2 c3 c4), fun j j1 j2 => (g.2 j j1 j2).trans (f.2 j j1 j2)⟩
theorem rcF.cg (hL : L = 65 ∨ L = 73) {M0 M M1 : MM} (f : rcF L M0 M) (g : ∀ c, (c < 41 ∨ 45 < c) → M1 c = M c) : rcF L M0 M1 := ⟨fun c c1 c2 c3 c4 => (g c c1).trans (f.1 c c1 c2 c3 c4), fun i i1 i2 => by rw [g L (by omega)]; exact f.2 i i1 i2⟩
theorem rcF.R (hL : L = 65 ∨ L = 73) {M0 M : MM} {q : LC} {cl : CL} (f : rcF L M0 M) (R : rL1 M0 L q cl) : rL1 M L q cl := R.eq (f.2 0 (by decide) (by decide)) (f.2 6 (by decide) (by decide)) (fun c c1 c2 j _ => by rw [f.1 c (by omega) (by omega) (by omega) (by omega)]) (by rw [f.1 81 (by omega) (by omega) (by omega) (by omega)]) fun c c1 c2 j => by rw [f.1 c (by omega) (by omega) (by omega) (by omega)]
/- who may haunt in which NIGHT of the rota -/
def alV (M : MM) (hs : Int) (night i : Nat) : Bool := decide (mh M ((mbV hs 10).2 i) (M 82 34 + (night : Int)) ≠ 0)
set_option maxRecDepth 20000 in
theorem f_planC (hL : L = 65 ∨ L = 73) {q : LC} {cl : CL} {M0 : MM} (R0 : rL1 M0 L q cl) (h34 : 0 ≤ M0 82 34 ∧ M0 82 34 ≤ 9999) {hs k : Int} (hk : k ≤ 3) {nn : Nat} (hn : nn ≤ 14) (hb : bsum hs 10 ≤ 5) {f : Nat} (kk : ∀ M1, rtP (mbV hs 10).1 k nn (alV M0 hs) M1 → (∀ i, i < (mbV hs 10).1 → M1 42 i = (mbV hs 10).2 i) → (∀ c' l', c' < 4 ^ (mbV hs 10).1 → l' ≤ 5 → rtE (mbV hs 10).1 k nn (alV M0 hs) M1 c' l') → Q (vi 0) M1) : PC sc f m_X4_plan [vr 41, vr L, vi (M0 82 34), vi (nn : Int), vi hs, vi k] M0 Q := by
  obtain ⟨m, hm⟩ : ∃ m, m = (mbV hs 10).1 := ⟨_, rfl⟩
  have hm10 := mbV_n hs 10 (by decide)
  have hm5 : m ≤ 5 := by omega
  rw [← hm] at kk
  have b4 := p4_le hm5
  have mem := mbV_r hs 10 (by decide)
  have l85 : ∀ (c f : Nat) (o7 : Option Vv) (M : MM), c ≤ 4 ^ m → rtP m k nn (alV M0 hs) M → (∀ i, i < m → M 42 i = (mbV hs 10).2 i) → (∀ c' l', c ≤ c' → c' < 4 ^ m → l' ≤ 5 → rtE m k nn (alV M0 hs) M c' l') → PW sc f m_X4_plan 85 [] [some (vr 41), some (vr L), some (vi (M0 82 34)), some (vi (nn : Int)), some (vi hs), some (vi k), some (vi ((c : Int) - 1)), o7] M Q := by
    intro c
    induction c with
    | zero =>
      intro f o7 M hc P Me E
      exact pw_X4_plan_85 hL _ _ _ _ _ _ M fun n1 _ => brT (by omega) (kk M P Me fun c' l' h1 h2 => E c' l' (Nat.zero_le _) h1 h2)
    | succ c ih =>
      intro f o7 M hc P Me E
      refine pw_X4_plan_85 hL _ _ _ _ _ _ M fun n1 _ => brF (by omega) ?_
      have l89 : ∀ (p l f : Nat) (M1 : MM), l + p = 6 → rtP m k nn (alV M0 hs) M1 → (∀ i, i < m → M1 42 i = (mbV hs 10).2 i) → (∀ c' l', c < c' → c' < 4 ^ m → l' ≤ 5 → rtE m k nn (alV M0 hs) M1 c' l') → (∀ l', l' < l → rtE m k nn (alV M0 hs) M1 c l') → PW sc f m_X4_plan 89 [] [some (vr 41), some (vr L), some (vi (M0 82 34)), some (vi (nn : Int)), some (vi hs), some (vi k), some (vi (c : Int)), some (vi (l : Int))] M1 Q := by
        intro p
        induction p with
        | zero =>
          intro l f M1 hl P1 Me1 E1 El
          have hl : l = 6 := hl
          subst hl
          refine pw_X4_plan_89 hL _ _ _ _ _ _ M1 fun n1 _ => brT (by decide) ?_
          rw [show w32 ((c : Int) + (-1)) = (c : Int) - 1 from ew32 (by omega) (by omega)]
          refine ih n1 _ M1 (by omega) P1 Me1 fun c' l' h1 h2 h3 => ?_
          by_cases e : c' = c
          · subst e
            exact El l' (by omega)
          · exact E1 c' l' (by omega) h2 h3
        | succ p ihp =>
          intro l f M1 hl P1 Me1 E1 El
          refine pw_X4_plan_89 hL _ _ _ _ _ _ M1 fun n1 _ => brF (by omega) (f_weighC hm5 hn hk P1 (by omega) (by omega) E1 fun M2 F2 O2 e2 => ?_)
          rw [show w32 ((l : Int) + 1) = ((l + 1 : Nat) : Int) from ew32 (by omega) (by omega)]
          have tr : ∀ c' l', 6 * c' + l' ≠ 6 * c + l → rtE m k nn (alV M0 hs) M1 c' l' → rtE m k nn (alV M0 hs) M2 c' l' := fun c' l' h e z => by
            have o := O2 _ h
            rw [o.1, o.2]
            exact e z
          refine ihp (l + 1) n1 M2 (by omega) (by unfold rtP; rw [F2 41 (by decide) (by decide), F2 43 (by decide) (by decide)]; exact P1) (fun i hi => by rw [F2 42 (by decide) (by decide)]; exact Me1 i hi) (fun c' l' h1 h2 h3 => tr c' l' (by omega) (E1 c' l' h1 h2 h3)) fun l' hl' => ?_
          by_cases e : l' = l
          · subst e
            exact e2
          · exact tr c l' (by omega) (El l' (by omega))
      rw [show (((c + 1 : Nat) : Int)) - 1 = (c : Int) by omega]
      exact l89 6 0 n1 M rfl P Me (fun c' l' h1 h2 h3 => E c' l' (by omega) h2 h3) fun l' hl' => absurd hl' (Nat.not_lt_zero l')
  have l38 : ∀ (q night f : Nat) (o7 : Option Vv) (M : MM), night + q = nn → rcF L M0 M → M 41 4 = (m : Int) → M 41 5 = (nn : Int) → M 41 6 = k → (∀ i, i < m → M 42 i = (mbV hs 10).2 i) → (∀ t i, t < night → i < m → bit (M 43 t) i = alV M0 hs t i) → PW sc f m_X4_plan 38 [] [some (vr 41), some (vr L), some (vi (M0 82 34)), some (vi (nn : Int)), some (vi hs), some (vi k), some (vi (night : Int)), o7] M Q := by
    intro q
    induction q with
    | zero =>
      intro night f o7 M hq F p1 p2 p3 Me A
      have hq : night = nn := hq
      subst hq
      refine pw_X4_plan_38 hL _ _ _ _ _ _ M fun n1 _ => brT (Int.le_refl _) ?_
      rw [p1, show w32 (2 * (m : Int)) = 2 * (m : Int) from ew32 (by omega) (by omega), shl4 m (by omega), show w32 (((4 ^ m : Nat) : Int) - 1) = ((4 ^ m : Nat) : Int) - 1 from ew32 (by omega) (by omega)]
      exact l85 (4 ^ m) n1 _ M (Nat.le_refl _) ⟨p1, p2, p3, A⟩ Me fun c' l' h1 h2 => by omega
    | succ q ih =>
      intro night f o7 M hq F p1 p2 p3 Me A
      refine pw_X4_plan_38 hL _ _ _ _ _ _ M fun n1 _ => brF (by omega) (gMB ?_)
      rw [show ((night : Int)).toNat = night by omega]
      have l48 : ∀ (p i f : Nat) (M1 : MM), i + p = m → rcF L M0 M1 → M1 41 4 = (m : Int) → M1 41 5 = (nn : Int) → M1 41 6 = k → (∀ i, i < m → M1 42 i = (mbV hs 10).2 i) → (∀ t i, t < night → i < m → bit (M1 43 t) i = alV M0 hs t i) → (∀ j, j < 10 → bit (M1 43 night) j = (decide (j < i) && alV M0 hs night j)) → PW sc f m_X4_plan 48 [] [some (vr 41), some (vr L), some (vi (M0 82 34)), some (vi (nn : Int)), some (vi hs), some (vi k), some (vi (night : Int)), some (vi (i : Int))] M1 Q := by
        intro p
        induction p with
        | zero =>
          intro i f M1 hi F1 p1 p2 p3 Me1 A1 B1
          have hi : i = m := hi
          subst hi
          refine pw_X4_plan_48 hL _ _ _ _ _ _ M1 fun n1 _ => ?_
          rw [p1, show w32 ((night : Int) + 1) = ((night + 1 : Nat) : Int) from ew32 (by omega) (by omega)]
          refine brT (Int.le_refl _) (ih (night + 1) n1 _ M1 (by omega) F1 p1 p2 p3 Me1 fun t j ht hj => ?_)
          by_cases e : t = night
          · subst e
            rw [B1 j (by omega), decide_eq_true hj, Bool.true_and]
          · exact A1 t j (by omega) hj
        | succ p ihp =>
          intro i f M1 hi F1 p1 p2 p3 Me1 A1 B1
          have him : i < m := by omega
          have rm := mem i
          refine pw_X4_plan_48 hL _ _ _ _ _ _ M1 fun n1 _ => ?_
          rw [p1, show w32 ((i : Int) + 1) = ((i + 1 : Nat) : Int) from ew32 (by omega) (by omega), show ((i : Int)).toNat = i by omega, show ((night : Int)).toNat = night by omega, Me1 i him, show w32 (M0 82 34 + (night : Int)) = M0 82 34 + (night : Int) from ew32 (by omega) (by omega)]
          have o : ∀ c, (c < 41 ∨ 45 < c) → c ≠ L → c ≠ L + 6 → c ≠ L + 7 → M1 c = M0 c := F1.1
          refine brF (by omega) (gMB (f_mayHauntC hL (F1.R hL R0) fun M2 f2 => cI_i ?_))
          rw [mh_eq ⟨by rw [o 81 (by decide) (by omega) (by omega) (by omega)], o 97 (by decide) (by omega) (by omega) (by omega), o 98 (by decide) (by omega) (by omega) (by omega), o 99 (by decide) (by omega) (by omega) (by omega), o 100 (by decide) (by omega) (by omega) (by omega), o 101 (by decide) (by omega) (by omega) (by omega)⟩]
          have g : ∀ c, 41 ≤ c → c ≤ 45 → M2 c = M1 c := fun c c1 c2 => f2.1 c (by omega) (by omega) (by omega)
          have F2 := F1.lq f2
          have e41 := g 41 (by decide) (by decide)
          have e42 := g 42 (by decide) (by decide)
          have e43 := g 43 (by decide) (by decide)
          refine brP (fun z => ihp (i + 1) n1 M2 (by omega) F2 (by rw [e41]; exact p1) (by rw [e41]; exact p2) (by rw [e41]; exact p3) (fun j hj => by rw [e42]; exact Me1 j hj) (fun t j ht hj => by rw [e43]; exact A1 t j ht hj) fun j hj => ?_) fun z => gMB (gMB (ihp (i + 1) n1 _ (by omega) (F2.st hL (by decide)) (by rw [stK (by decide), e41]; exact p1) (by rw [stK (by decide), e41]; exact p2) (by rw [stK (by decide), e41]; exact p3) (fun j hj => by rw [stK (by decide), e42]; exact Me1 j hj) (fun t j ht hj => by rw [stO (by omega), e43]; exact A1 t j ht hj) fun j hj => ?_))
          · rw [e43, B1 j hj]
            by_cases e : j = i
            · subst e
              have : alV M0 hs night j = false := decide_eq_false fun y => y z
              rw [this, Bool.and_false, Bool.and_false]
            · rw [decide_eq_decide.mpr (show j < i ↔ j < i + 1 by omega)]
          · rw [stE, e43, bit_set (by omega) hj, B1 j hj]
            by_cases e : j = i
            · subst e
              have : alV M0 hs night j = true := decide_eq_true z
              rw [this, decide_eq_true (show j = j from rfl), Bool.or_true, decide_eq_true (Nat.lt_succ_self j)]
              rfl
            · rw [decide_eq_false e, Bool.or_false, decide_eq_decide.mpr (show j < i ↔ j < i + 1 by omega)]
      refine l48 m 0 n1 _ (Nat.zero_add _) (F.st hL (by decide)) (by rw [stK (by decide)]; exact p1) (by rw [stK (by decide)]; exact p2) (by rw [stK (by decide)]; exact p3) (fun i hi => by rw [stK (by decide)]; exact Me i hi) (fun t i ht hi => by rw [stO (by omega)]; exact A t i ht hi) fun j hj => ?_
      rw [stE, bit_zero, decide_eq_false (Nat.not_lt_zero j), Bool.false_and]
  have l11 : ∀ (q h f : Nat) (o7 : Option Vv) (M : MM), h + q = 10 → rcF L M0 M → M 41 4 = ((mbV hs h).1 : Int) → M 41 5 = (nn : Int) → M 41 6 = k → (∀ i, i < (mbV hs h).1 → M 42 i = (mbV hs h).2 i) → PW sc f m_X4_plan 11 [] [some (vr 41), some (vr L), some (vi (M0 82 34)), some (vi (nn : Int)), some (vi hs), some (vi k), some (vi (h : Int)), o7] M Q := by
    intro q
    induction q with
    | zero =>
      intro h f o7 M hq F p1 p2 p3 Me
      have hq : h = 10 := hq
      subst hq
      rw [← hm] at p1 Me
      exact pw_X4_plan_11 hL _ _ _ _ _ _ M fun n1 _ => brT (by decide) (l38 nn 0 n1 _ M (Nat.zero_add _) F p1 p2 p3 Me fun t i ht => absurd ht (Nat.not_lt_zero t))
    | succ q ih =>
      intro h f o7 M hq F p1 p2 p3 Me
      have hh : h < 10 := by omega
      have ih2 := ih (h + 1)
      rw [mbV_s] at ih2
      refine pw_X4_plan_11 hL _ _ _ _ _ _ M fun n1 _ => brF (by omega) ?_
      rw [show w32 ((h : Int) + 1) = ((h + 1 : Nat) : Int) from ew32 (by omega) (by omega)]
      refine p_hasC (by omega) (fun b x hx => cI_i (brT hx ?_)) fun b x hx => cI_i (brF (by omega) ?_)
      · rw [if_neg (by rw [b]; decide)] at ih2
        exact ih2 n1 _ M (by omega) F p1 p2 p3 Me
      · rw [if_pos b] at ih2
        have z1 := mbV_n hs h (by omega)
        have e1 : bsum hs (h + 1) = bsum hs h + btv hs (h : Int) := rfl
        have e2 := (btv_iff hs (k := h) (by omega)).mpr b
        have m1 := bsum_mono hs (10 - (h + 1)) (h + 1)
        rw [show h + 1 + (10 - (h + 1)) = 10 by omega] at m1
        have cnt : (mbV hs h).1 < 5 := by omega
        rw [p1]
        refine brF (by omega) (gMB ?_)
        rw [show ((((mbV hs h).1 : Nat) : Int)).toNat = (mbV hs h).1 by omega, show w32 (((mbV hs h).1 : Int) + 1) = (((mbV hs h).1 + 1 : Nat) : Int) from ew32 (by omega) (by omega)]
        refine ih2 n1 _ _ (by omega) ((F.st hL (by decide)).st hL (by decide)) stE (by rw [stO (by decide), stK (by decide)]; exact p2) (by rw [stO (by decide), stK (by decide)]; exact p3) fun i hi => ?_
        rw [stK (by decide)]
        show stM M 42 (mbV hs h).1 (h : Int) 42 i = if i = (mbV hs h).1 then (h : Int) else (mbV hs h).2 i
        have hi : i < (mbV hs h).1 + 1 := hi
        by_cases e : i = (mbV hs h).1
        · rw [if_pos e, e]
          exact stE
        · rw [if_neg e, stO e]
          exact Me i (by omega)
  refine pc_X4_plan hL _ _ _ _ M0 fun n1 _ => l11 10 0 n1 none _ rfl ((((show rcF L M0 M0 from ⟨fun _ _ _ _ _ => rfl, fun _ _ _ => rfl⟩).st hL (by decide)).st hL (by decide)).st hL (by decide)) stE ?_ ?_ fun i hi => absurd hi (Nat.not_lt_zero i)
  · rw [stO (by decide), stO (by decide)]
    exact stE
  · rw [stO (by decide)]
    exact stE
def roOk (M : MM) (n hs k w : Int) : Prop := (1 ≤ n ∧ n ≤ 14) ∧ (1 ≤ k ∧ k ≤ 3) ∧ (1 ≤ hs ∧ hs ≤ 1023) ∧ (∀ i : Nat, i < 10 → bit hs i = true → 0 ≤ M 86 i) ∧ bsum hs 10 ≤ 5 ∧ ((0 ≤ w ∧ w ≤ n - 1) ∨ w = 100 ∨ w = 101) ∧ M 82 34 + n ≤ 9999
/- what rotas tells where it isn't refused -/
def roW (M : MM) (n hs k w : Int) : Int := if w = 100 then rwV (mbV hs 10).1 k (alV M hs) n.toNat 0 0 5 else if rwV (mbV hs 10).1 k (alV M hs) n.toNat 0 0 5 = 0 then -2 else if w = 101 then rpV 1000000000 (mbV hs 10).1 k (alV M hs) n.toNat 0 0 5 else (mbV hs 10).2 (rrV (mbV hs 10).1 k (alV M hs) n.toNat (w.toNat + 1)).2
noncomputable def roV (M : MM) (n hs k w : Int) : Int := @ite _ (roOk M n hs k w) (Classical.propDecidable _) (roW M n hs k w) (-1)
theorem roV_t {M : MM} {n hs k w : Int} (h : roOk M n hs k w) : roV M n hs k w = roW M n hs k w := @if_pos _ (Classical.propDecidable _) h _ _ _
theorem roV_f {M : MM} {n hs k w : Int} (h : ¬ roOk M n hs k w) : roV M n hs k w = -1 := @if_neg _ (Classical.propDecidable _) h _ _ _
theorem roV_up {M M1 : MM} (u : UpX M M1) (n hs k w : Int) : roV M1 n hs k w = roV M n hs k w := by
  have e : alV M1 hs = alV M hs := by
    funext a b
    unfold alV
    rw [mh_eq ⟨u 81 (by decide) 19, u.f 97 (by decide), u.f 98 (by decide), u.f 99 (by decide), u.f 100 (by decide), u.f 101 (by decide)⟩, u 82 (by decide) 34]
  unfold roV roW roOk
  rw [e, u.f 86 (by decide), u 82 (by decide) 34]
set_option maxRecDepth 20000 in
theorem f_rotasC {M0 : MM} (G : GdA M0) {n hs k w : Int} {f : Nat} : PC sc f m_X11_rotas [vr 0, vi n, vi hs, vi k, vi w] M0 (fun r _ => r = vi (roV M0 n hs k w)) := by
  obtain ⟨T, hT, v0, v1, hr, hh, hS⟩ := G.1.tw
  obtain ⟨L, q, cl, hL, h12, R0⟩ := G.2.1
  obtain ⟨-, W, -⟩ := id G.2.2.1
  have w6 : M0 46 6 = M0 82 34 := W.2.1.2.1
  have h34 : 0 ≤ M0 82 34 ∧ M0 82 34 ≤ 9999 := W.2.2
  have no : ¬ roOk M0 n hs k w → vi (-1) = vi (roV M0 n hs k w) := fun z => by rw [roV_f z]
  refine pc_X11_rotas _ _ _ _ M0 fun n1 _ => p_isIn (fun z x hx => cI_i (brT hx (no fun y => z y.1))) fun h1 x hx => cI_i (brF (by omega) (p_isIn (fun z x hx => cI_i (brT hx (no fun y => z y.2.1))) fun h2 x hx => cI_i (brF (by omega) ?_)))
  have hs0 : ¬ ((1 ≤ hs ∧ hs ≤ 1023) ∧ (∀ i : Nat, i < 10 → bit hs i = true → 0 ≤ M0 86 i) ∧ bsum hs 10 ≤ 5) → ∀ x : Int, x = 0 → (cI fun r6 M5 => brA (decide (r6 ≠ 0)) (PC sc n1 m_X11_isIn [vi w, vi 0, vi (w32 (n - 1))] M5 (cI fun r8 M7 => brA (decide (r8 ≠ 0)) (PW sc n1 m_X11_rotas 33 [] [some (vr 0), some (vi n), some (vi hs), some (vi k), some (vi w), some (vi r8)] M7 (fun r _ => r = vi (roV M0 n hs k w))) (brA (decide (w = 100)) (PW sc n1 m_X11_rotas 33 [] [some (vr 0), some (vi n), some (vi hs), some (vi k), some (vi w), some (vi r8)] M7 (fun r _ => r = vi (roV M0 n hs k w))) (brA (decide (w = 101)) (PW sc n1 m_X11_rotas 33 [] [some (vr 0), some (vi n), some (vi hs), some (vi k), some (vi w), some (vi r8)] M7 (fun r _ => r = vi (roV M0 n hs k w))) (vi (-1) = vi (roV M0 n hs k w)))))) (vi (-1) = vi (roV M0 n hs k w))) (vi x) M0 := fun z x hx => cI_i (brF (by omega) (no fun y => z ⟨y.2.2.1, y.2.2.2.1, y.2.2.2.2.1⟩))
  refine pc_X11_canShare _ M0 fun n2 _ => p_isIn (fun z x hx => cI_i (brT hx (hs0 (fun y => z y.1) 0 rfl))) fun h3 x hx => cI_i (brF (by omega) ?_)
  rw [v0, show ((T : Int) + 1).toNat - 1 = T by omega]
  refine gMB (gMB (f_hws hT rfl fun v hv => cI_i ?_))
  have hbv : ∀ i, i < 10 → (bit (bXor v (-1)) i = true ↔ ¬ 0 ≤ M0 86 i) := fun i hi => by
    rw [bit_not _ (by omega), hv.2 i hi]
    unfold stands
    constructor
    · intro z y
      rw [decide_eq_true ((hh i hi).1.mp y)] at z
      cases z
    · intro z
      rw [decide_eq_false fun y => z ((hh i hi).1.mpr y)]
      rfl
  have hz := and0r (x := hs) (y := bXor v (-1)) ⟨by omega, by omega⟩
  refine brP (fun z => p_bitCount ⟨by omega, by omega⟩ (cI_i (brP (fun z5 => hs0 (fun y => by omega) 0 rfl) fun z5 => ?_))) fun z => hs0 (fun y => z (hz.mpr fun i hi ⟨a, b⟩ => (hbv i hi).mp b (y.2.1 i hi a))) 0 rfl
  have h4 : ∀ i : Nat, i < 10 → bit hs i = true → 0 ≤ M0 86 i := fun i hi b => Classical.byContradiction fun y => (hz.mp z) i hi ⟨b, (hbv i hi).mpr y⟩
  have h5 : bsum hs 10 ≤ 5 := by omega
  have fin : ∀ (f : Nat) (v5 : Int), ((0 ≤ w ∧ w ≤ n - 1) ∨ w = 100 ∨ w = 101) → (v5 = 0 ↔ ¬ (0 ≤ w ∧ w ≤ n - 1)) → PW sc f m_X11_rotas 33 [] [some (vr 0), some (vi n), some (vi hs), some (vi k), some (vi w), some (vi v5)] M0 (fun r _ => r = vi (roV M0 n hs k w)) := fun f v5 hw h5' => by
    refine pw_X11_rotas_33 _ _ _ _ _ M0 fun n3 _ => ?_
    rw [w6, show w32 (M0 82 34 + n) = M0 82 34 + n from ew32 (by omega) (by omega), h12, show ((L : Int) + 1).toNat - 1 = L by omega]
    refine brP (fun h6 => gMB ?_) fun h6 => no fun y => h6 y.2.2.2.2.2.2
    have ok : roOk M0 n hs k w := ⟨h1, h2, h3, h4, h5, hw, h6⟩
    rw [roV_t ok]
    obtain ⟨nn, hnn⟩ : ∃ nn : Nat, n = (nn : Int) := ⟨n.toNat, by omega⟩
    have hb1 := bs_pos h3
    have hmn := mbV_n hs 10 (by decide)
    have hm : 1 ≤ (mbV hs 10).1 ∧ (mbV hs 10).1 ≤ 5 := by omega
    have eW : roW M0 n hs k w = if w = 100 then rwV (mbV hs 10).1 k (alV M0 hs) nn 0 0 5 else if rwV (mbV hs 10).1 k (alV M0 hs) nn 0 0 5 = 0 then -2 else if w = 101 then rpV 1000000000 (mbV hs 10).1 k (alV M0 hs) nn 0 0 5 else (mbV hs 10).2 (rrV (mbV hs 10).1 k (alV M0 hs) nn (w.toNat + 1)).2 := by
      unfold roW
      rw [hnn, show ((nn : Int)).toNat = nn by omega]
    rw [eW, hnn]
    refine f_planC hL R0 h34 (by omega) (by omega) h5 fun M1 P Me E => ?_
    have b4 := p4_le hm.2
    have e0 := E 0 5 (by omega) (Nat.le_refl _)
    unfold rtE at e0
    rw [sq_0] at e0
    have e0 := e0 (Nat.zero_le _)
    have e0 : M1 44 5 = rwV (mbV hs 10).1 k (alV M0 hs) nn 0 0 5 ∧ M1 45 5 = rpV (nn : Int) (mbV hs 10).1 k (alV M0 hs) nn 0 0 5 := e0
    have rr := rwV_r (mbV hs 10).1 k (alV M0 hs) nn 0 0 5
    have s0 : ∀ (f : Nat) (Q' : Vv → MM → Prop), Q' (vi 5) M1 → PC sc f m_X4_stateOf [vi 0, vi 5] M1 Q' := fun f Q' k => f_stateC (c := 0) (l := 5) (by decide) (by decide) fun y hy => by rw [show y = 5 from hy]; exact k
    refine brP (fun w100 => ?_) fun w100 => ?_
    · rw [if_neg w100]
      refine pc_X4_howMany M1 fun n4 _ => s0 _ _ (cI_i (gMB (cI_i ?_)))
      rw [show ((5 : Int)).toNat = 5 from rfl, e0.1]
      refine brP (fun nz => ?_) fun nz => ?_
      · rw [if_neg nz]
        have pos : 0 < rwV (mbV hs 10).1 k (alV M0 hs) nn 0 0 5 := by omega
        refine brP (fun v50 => ?_) fun v50 => ?_
        · have nw := h5'.mp v50
          have w101 : w = 101 := by omega
          refine pc_X4_howEven M1 fun n5 _ => s0 _ _ (cI_i (gMB (cI_i ?_)))
          rw [show ((5 : Int)).toNat = 5 from rfl, e0.2, if_pos w101, (rp_eq hm (by omega) nn 0 0 5 (Nat.zero_add _) (sq_0 _) pos).1]
        · have yw : 0 ≤ w ∧ w ≤ n - 1 := Classical.byContradiction fun y => v50 (h5'.mpr y)
          rw [if_neg (by omega)]
          obtain ⟨ww, hww⟩ : ∃ ww : Nat, w = (ww : Int) := ⟨w.toNat, by omega⟩
          rw [hww, show ((ww : Int)).toNat = ww by omega]
          have I := rr_all hm (by omega) pos (ww + 1) (by omega)
          have lt : (rrV (mbV hs 10).1 k (alV M0 hs) nn (ww + 1)).2 < (mbV hs 10).1 := by
            rw [rrV_s]
            exact (rr_step hm (by omega) (by omega) (rr_all hm (by omega) pos ww (by omega))).1
          refine f_houseInC hm (by omega) (by omega) P E pos (by omega) (cI_i ?_)
          rw [Me _ lt]
      · rw [if_pos (Classical.not_not.mp nz)]
    · rw [if_pos (Classical.not_not.mp w100)]
      refine pc_X4_howMany M1 fun n4 _ => s0 _ _ (cI_i (gMB (cI_i ?_)))
      rw [show ((5 : Int)).toNat = 5 from rfl, e0.1]
  refine cI_i (brT (by decide) ?_)
  rw [show w32 (n - 1) = n - 1 from ew32 (by omega) (by omega)]
  refine p_isIn (fun hw x hx => cI_i (brF (by omega) (brP (fun e => fin n1 x (.inr (.inl e)) ⟨fun _ => hw, fun _ => hx⟩) fun e => brP (fun e2 => fin n1 x (.inr (.inr e2)) ⟨fun _ => hw, fun _ => hx⟩) fun e2 => no fun y => ?_))) fun hw x hx => cI_i (brT (by omega) (fin n1 x (.inl hw) ⟨fun z => by omega, fun z => absurd hw z⟩))
  rcases y.2.2.2.2.2.1 with z | z | z
  · exact hw z
  · exact e z
  · exact e2 z
/- may a house haunt, runs of the reference that end -/
set_option maxRecDepth 20000 in
theorem f_mayHauntM {h night : Int} {M : MM} (J : lwJ M) {f : Nat} (k : ∀ M1, (∀ c, c ≠ 108 → c ≠ 109 → M1 c = M c) → Q (vi (mh M h night)) M1) : PC sc f m_X12_mayHaunt [vr 81, vi h, vi night] M Q := by
  obtain ⟨E, hE⟩ : ∃ E, E = mh M h night := ⟨_, rfl⟩
  rw [← hE] at k
  unfold mh at hE
  have J16 := J.2.2
  have lp : ∀ (m q f : Nat) (any : Int) (M1 : MM), q + m = 17 → (∀ c, c ≠ 108 → c ≠ 109 → M1 c = M c) → (∀ j, j < 10 → M1 109 j = Fh h night j) → E = mhv (M 81 19) (M 98) (M 97) (M 100) (M 101) (Fh h night) m q any → (q : Int) ≤ 16 → PW sc f m_X12_mayHaunt 8 [] [some (vr 81), some (vi h), some (vi night), some (vi any), some (vi (q : Int))] M1 Q := by
    intro m
    induction m with
    | zero => intro q f any M1 hq F t e h16; omega
    | succ m ih =>
      intro q f any M1 hq F t e h16
      rw [mhv_succ] at e
      refine pw_X12_mayHaunt_8 _ _ _ _ M1 fun n2 _ => ?_
      rw [F 81 (by decide) (by decide), F 98 (by decide) (by decide), F 100 (by decide) (by decide), F 101 (by decide) (by decide), show ((q : Int)).toNat = q by omega, show w32 ((q : Int) + 1) = ((q + 1 : Nat) : Int) from ew32 (by omega) (by omega)]
      refine brP (fun g => ?_) fun g => gMB ?_
      · rw [if_pos g] at e
        refine brP (fun g2 => ?_) fun g2 => ?_
        · rw [if_pos g2] at e
          rw [← e]
          exact k M1 F
        · rw [if_neg g2] at e
          rw [← e]
          exact k M1 F
      · rw [if_neg g] at e
        refine brP (fun g2 => gMB (gMB ?_)) fun g2 => ?_
        · rw [if_pos g2] at e
          obtain ⟨a, b, ea, eb, hG⟩ := (J.1 q (by omega)).1
          have h97 : M1 97 = M 97 := F 97 (by decide) (by decide)
          rw [ea, eb, show ((a : Int)).toNat = a by omega, show ((b : Int)).toNat = b by omega] at e
          rw [ea, eb]
          refine f_comesToM (by rw [h97]; exact hG) (by rw [h97]; exact fun x hx => J.2.1 x (by have := hG.2.1; omega)) (Fc := Fh h night) t fun M2 f2 => cI_i ?_
          rw [h97]
          have F2 : ∀ c, c ≠ 108 → c ≠ 109 → M2 c = M c := fun c c1 c2 => (f2 c c1).trans (F c c1 c2)
          refine brP (fun g3 => ?_) fun g3 => ?_
          · rw [if_pos g3] at e
            exact ih (q + 1) n2 1 M2 (by omega) F2 (fun j hj => by rw [f2 109 (by decide)]; exact t j hj) e (by omega)
          · rw [if_neg g3] at e
            rw [← e]
            exact k M2 F2
        · rw [if_neg g2] at e
          exact ih (q + 1) n2 any M1 (by omega) F t e (by omega)
  exact pc_X12_mayHaunt _ _ M fun n1 _ => f_feelsM fun M1 f1 t1 => lp 17 0 n1 0 M1 rfl (fun c _ c2 => f1 c c2) t1 hE (by decide)
/- the reference within the rotas -/
def roM (M0 : MM) (m : Nat) (k hs : Int) (M : MM) : Prop := (∀ c, (c < 108 ∨ 118 < c) → c ≠ 81 → M c = M0 c) ∧ M 81 19 = M0 81 19 ∧ M 81 57 = (m : Int) ∧ M 81 58 = k ∧ ∀ i, i < m → M 118 i = (mbV hs 10).2 i
theorem roM.eq {M0 : MM} {m : Nat} {k hs : Int} {M M1 : MM} (R : roM M0 m k hs M) (h : ∀ c, c ≠ 108 → c ≠ 109 → c ≠ 116 → c ≠ 117 → M1 c = M c) : roM M0 m k hs M1 := by
  obtain ⟨a, b, c, d, e⟩ := R
  refine ⟨fun x hx hx2 => (h x (by omega) (by omega) (by omega) (by omega)).trans (a x hx hx2), ?_, ?_, ?_, fun i hi => ?_⟩
  · rw [h 81 (by decide) (by decide) (by decide) (by decide)]
    exact b
  · rw [h 81 (by decide) (by decide) (by decide) (by decide)]
    exact c
  · rw [h 81 (by decide) (by decide) (by decide) (by decide)]
    exact d
  · rw [h 118 (by decide) (by decide) (by decide) (by decide)]
    exact e i hi
set_option maxRecDepth 20000 in
theorem f_countM {c i : Nat} (hc : c < 1024) (hi : i < 5) {M : MM} {n : Nat} (k : Q (vi ((cq c i : Nat) : Int)) M) : PC sc n m_X12_countIn [vi (c : Int), vi (i : Int)] M Q := pc_X12_countIn _ _ M fun _ _ => by
  rw [cnt_e hc hi]
  exact k
set_option maxRecDepth 20000 in
theorem f_stateM {x c l : Nat} (hx : x ≤ 14) (hc : c < 1024) (hl : l ≤ 5) {M : MM} {n : Nat} (k : ∀ y : Int, y = ((6144 * x + (6 * c + l) : Nat) : Int) → Q (vi y) M) : PC sc n m_X12_rotaState [vi (x : Int), vi (c : Int), vi (l : Int)] M Q := pc_X12_rotaState _ _ _ M fun _ _ => by
  rw [show w32 (6144 * (x : Int)) = 6144 * (x : Int) from ew32 (by omega) (by omega), show w32 (6 * (c : Int)) = 6 * (c : Int) from ew32 (by omega) (by omega), show w32 (6144 * (x : Int) + 6 * (c : Int)) = 6144 * (x : Int) + 6 * (c : Int) from ew32 (by omega) (by omega), show w32 (6144 * (x : Int) + 6 * (c : Int) + (l : Int)) = ((6144 * x + (6 * c + l) : Nat) : Int) by rw [ew32 (by omega) (by omega)]; omega]
  exact k _ rfl
set_option maxRecDepth 20000 in
theorem f_mayNextM {M0 : MM} (J : lwJ M0) (h34 : 0 ≤ M0 82 34 ∧ M0 82 34 ≤ 9999) {m : Nat} (hm : m ≤ 5) {k hs : Int} {M : MM} (R : roM M0 m k hs M) {x c last i : Nat} (hx : x ≤ 14) (hc : c < 1024) (hi : i < m) {f : Nat} (k0 : ∀ M1, (∀ c, c ≠ 108 → c ≠ 109 → M1 c = M c) → roK k (alV M0 hs) x c last i = false → ∀ y : Int, y = 0 → Q (vi y) M1) (k1 : ∀ M1, (∀ c, c ≠ 108 → c ≠ 109 → M1 c = M c) → roK k (alV M0 hs) x c last i = true → ∀ y : Int, y = 1 → Q (vi y) M1) : PC sc f m_X12_mayNext [vr 81, vi (x : Int), vi (c : Int), vi (last : Int), vi (i : Int)] M Q := by
  obtain ⟨r1, r2, r3, r4, r5⟩ := R
  refine pc_X12_mayNext _ _ _ _ M fun n1 _ => brP (fun e => k0 M (fun _ _ _ => rfl) ?_ 0 rfl) fun e => f_countM hc (by omega) (cI_i ?_)
  · refine Bool.eq_false_iff.mpr fun z => ?_
    have := (roK_iff.mp z).1
    omega
  · rw [r4]
    refine brP (fun e2 => k0 M (fun _ _ _ => rfl) ?_ 0 rfl) fun e2 => gMB ?_
    · refine Bool.eq_false_iff.mpr fun z => ?_
      have := (roK_iff.mp z).2.1
      omega
    · rw [show ((i : Int)).toNat = i by omega, r5 i hi, r1 82 (by decide) (by decide), show w32 (M0 82 34 + (x : Int)) = M0 82 34 + (x : Int) from ew32 (by omega) (by omega)]
      refine f_mayHauntM (J.eq r2 fun c c1 c2 => r1 c (by omega) (by omega)) fun M1 f1 => cI_i ?_
      rw [mh_eq ⟨r2, r1 97 (by decide) (by decide), r1 98 (by decide) (by decide), r1 99 (by decide) (by decide), r1 100 (by decide) (by decide), r1 101 (by decide) (by decide)⟩]
      refine brP (fun z => k0 M1 f1 ?_ 0 rfl) fun z => k1 M1 f1 ?_ 1 rfl
      · refine Bool.eq_false_iff.mpr fun y => ?_
        exact (of_decide_eq_true (roK_iff.mp y).2.2) z
      · exact roK_iff.mpr ⟨by omega, by omega, decide_eq_true z⟩
set_option maxRecDepth 20000 in
theorem f_sqM {m : Nat} (hm : m ≤ 5) {M : MM} (p1 : M 81 57 = (m : Int)) {c : Nat} (hc : c < 1024) {n : Nat} (k : Q (vi ((sq c m : Nat) : Int)) M) : PC sc n m_X12_sumOf [vr 81, vi (c : Int)] M Q := by
  have lp : ∀ (q i n : Nat), i + q = m → PW sc n m_X12_sumOf 4 [] [some (vr 81), some (vi (c : Int)), some (vi ((sq c i : Nat) : Int)), some (vi (i : Int))] M Q := by
    intro q
    induction q with
    | zero =>
      intro i n hi
      have hi : i = m := hi
      subst hi
      refine pw_X12_sumOf_4 _ _ _ M fun n1 _ => ?_
      rw [p1]
      exact brT (Int.le_refl _) k
    | succ q ih =>
      intro i n hi
      have hs := sq_le c i
      have hq := cq_lt c i
      refine pw_X12_sumOf_4 _ _ _ M fun n1 _ => ?_
      rw [p1]
      refine brF (by omega) (f_countM hc (by omega) (cI_i ?_))
      rw [show w32 ((i : Int) + 1) = ((i + 1 : Nat) : Int) from ew32 (by omega) (by omega), show w32 (((sq c i : Nat) : Int) + ((cq c i : Nat) : Int)) = ((sq c (i + 1) : Nat) : Int) by rw [sq_s, ew32 (by omega) (by omega)]; omega]
      exact ih (i + 1) n1 (by omega)
  exact pc_X12_sumOf _ M fun n1 _ => lp m 0 n1 (Nat.zero_add _)
set_option maxRecDepth 20000 in
theorem f_maxM {a b : Int} {M : MM} {n : Nat} (k : Q (vi (mMax a b)) M) : PC sc n m_X12_max [vi a, vi b] M Q := pc_X12_max _ _ M fun _ _ => by
  unfold mMax at k
  refine brP (fun h => ?_) fun h => ?_
  · by_cases e : a < b
    · rw [if_pos e] at k
      exact k
    · rw [if_neg e, show a = b by omega] at k
      exact k
  · rw [if_neg (by omega)] at k
    exact k
set_option maxRecDepth 20000 in
theorem f_minM {a b : Int} {M : MM} {n : Nat} (k : Q (vi (mMin a b)) M) : PC sc n m_X12_min [vi a, vi b] M Q := pc_X12_min _ _ M fun _ _ => by
  unfold mMin at k
  refine brP (fun h => ?_) fun h => ?_
  · by_cases e : b < a
    · rw [if_pos e] at k
      exact k
    · rw [if_neg e, show a = b by omega] at k
      exact k
  · rw [if_neg (by omega)] at k
    exact k
set_option maxRecDepth 20000 in
theorem f_differsM {m : Nat} (hm : 1 ≤ m ∧ m ≤ 5) {M : MM} (p1 : M 81 57 = (m : Int)) {c : Nat} (hc : c < 1024) {n : Nat} (k : Q (vi (dV c m)) M) : PC sc n m_X12_differs [vr 81, vi (c : Int)] M Q := by
  have lp : ∀ (q i n : Nat), i + q = m → PW sc n m_X12_differs 6 [] [some (vr 81), some (vi (c : Int)), some (vi (dh c i)), some (vi (dl 1000000000 c i)), some (vi (i : Int))] M Q := by
    intro q
    induction q with
    | zero =>
      intro i n hi
      have hi : i = m := hi
      subst hi
      have h := dh_r c i
      have l := dl_r (b := 3) (by decide) c i
      obtain ⟨i', hi'⟩ : ∃ i', i = i' + 1 := ⟨i - 1, by omega⟩
      have e := dl_eq c i'
      rw [← hi'] at e
      refine pw_X12_differs_6 _ _ _ _ M fun n1 _ => ?_
      rw [p1, e, show w32 (dh c i - dl 3 c i) = dV c i by unfold dV; exact ew32 (by omega) (by omega)]
      exact brT (Int.le_refl _) k
    | succ q ih =>
      intro i n hi
      refine pw_X12_differs_6 _ _ _ _ M fun n1 _ => ?_
      rw [p1]
      refine brF (by omega) (f_countM hc (by omega) (cI_i (f_maxM (cI_i (f_countM hc (by omega) (cI_i (f_minM (cI_i ?_))))))))
      rw [show w32 ((i : Int) + 1) = ((i + 1 : Nat) : Int) from ew32 (by omega) (by omega)]
      exact ih (i + 1) n1 (by omega)
  exact pc_X12_differs _ M fun n1 _ => lp m 0 n1 (Nat.zero_add _)
/- the reference's entry for a state -/
def rmE (m : Nat) (k : Int) (n : Nat) (al : Nat → Nat → Bool) (M : MM) (x c l : Nat) : Prop := M 116 (6144 * x + (6 * c + l)) = rwV m k al (n - x) x c l ∧ M 117 (6144 * x + (6 * c + l)) = rpV 1000000000 m k al (n - x) x c l
/- what the reference has laid -/
def rmT (m : Nat) (k : Int) (n : Nat) (al : Nat → Nat → Bool) (M : MM) (x c l : Nat) : Prop := ∀ x' c' l', x' ≤ n → c' < 4 ^ m → l' ≤ 5 → sq c' m = x' → (x < x' ∨ (x' = x ∧ (c' < c ∨ (c' = c ∧ l' < l)))) → rmE m k n al M x' c' l'
theorem rmE.cg {m : Nat} {k : Int} {n : Nat} {al : Nat → Nat → Bool} {M M1 : MM} {x c l : Nat} (h : rmE m k n al M x c l) (e6 : M1 116 (6144 * x + (6 * c + l)) = M 116 (6144 * x + (6 * c + l))) (e7 : M1 117 (6144 * x + (6 * c + l)) = M 117 (6144 * x + (6 * c + l))) : rmE m k n al M1 x c l := ⟨e6.trans h.1, e7.trans h.2⟩
set_option maxRecDepth 20000 in
theorem f_laysRotasM {M0 : MM} (J : lwJ M0) (h34 : 0 ≤ M0 82 34 ∧ M0 82 34 ≤ 9999) {m : Nat} (hm : 1 ≤ m ∧ m ≤ 5) {k hs : Int} (hk : k ≤ 3) {nn : Nat} (hn : nn ≤ 14) {M : MM} (R : roM M0 m k hs M) {f : Nat} (kk : ∀ M1, roM M0 m k hs M1 → (∀ x c l, x ≤ nn → c < 4 ^ m → l ≤ 5 → sq c m = x → rmE m k nn (alV M0 hs) M1 x c l) → Q (vi 0) M1) : PC sc f m_X12_laysRotas [vr 81, vi (nn : Int)] M Q := by
  have b4 := p4_le hm.2
  have l9 : ∀ (y f : Nat) (o4 o5 o6 o7 o8 o9 o10 : Option Vv) (M : MM), y ≤ nn + 1 → roM M0 m k hs M → (∀ x c l, y ≤ x → x ≤ nn → c < 4 ^ m → l ≤ 5 → sq c m = x → rmE m k nn (alV M0 hs) M x c l) → PW sc f m_X12_laysRotas 9 [] [some (vr 81), some (vi (nn : Int)), some (vi ((4 ^ m : Nat) : Int)), some (vi ((y : Int) - 1)), o4, o5, o6, o7, o8, o9, o10] M Q := by
    intro y
    induction y with
    | zero =>
      intro f o4 o5 o6 o7 o8 o9 o10 M hy R E
      exact pw_X12_laysRotas_9 _ _ _ _ _ _ _ _ _ _ M fun n1 _ => brT (by omega) (kk M R fun x c l h1 h2 h3 h4 => E x c l (Nat.zero_le _) h1 h2 h3 h4)
    | succ x ih =>
      intro f o4 o5 o6 o7 o8 o9 o10 M hy R E
      refine pw_X12_laysRotas_9 _ _ _ _ _ _ _ _ _ _ M fun n1 _ => brF (by omega) ?_
      rw [show (((x + 1 : Nat) : Int)) - 1 = (x : Int) by omega]
      have l18 : ∀ (c : Nat), c < 4 ^ m → (∀ (f : Nat) (o5 o6 o7 o8 o9 o10 : Option Vv) (M : MM), roM M0 m k hs M → rmT m k nn (alV M0 hs) M x (c + 1) 0 → PW sc f m_X12_laysRotas 13 [] [some (vr 81), some (vi (nn : Int)), some (vi ((4 ^ m : Nat) : Int)), some (vi (x : Int)), some (vi ((c + 1 : Nat) : Int)), o5, o6, o7, o8, o9, o10] M Q) → ∀ (p l f : Nat) (o6 o7 o8 o9 o10 : Option Vv) (M : MM), l + p = 6 → roM M0 m k hs M → rmT m k nn (alV M0 hs) M x c l → PW sc f m_X12_laysRotas 18 [] [some (vr 81), some (vi (nn : Int)), some (vi ((4 ^ m : Nat) : Int)), some (vi (x : Int)), some (vi (c : Int)), some (vi (l : Int)), o6, o7, o8, o9, o10] M Q := by
        intro c hc K13 p
        induction p with
        | zero =>
          intro l f o6 o7 o8 o9 o10 M hl R E
          have hl : l = 6 := hl
          subst hl
          refine pw_X12_laysRotas_18 _ _ _ _ _ _ _ _ _ _ M fun n1 _ => brT (by decide) ?_
          rw [show w32 ((c : Int) + 1) = ((c + 1 : Nat) : Int) from ew32 (by omega) (by omega)]
          exact K13 n1 _ _ _ _ _ _ M R fun x' c' l' h1 h2 h3 h4 h5 => E x' c' l' h1 h2 h3 h4 (by omega)
        | succ p ihp =>
          intro l f o6 o7 o8 o9 o10 M hl R E
          have hl5 : l ≤ 5 := by omega
          have fin : ∀ (f i : Nat) (v6 v8 : Int) (o10 : Option Vv) (M1 : MM), (∀ c, c ≠ 108 → c ≠ 109 → M1 c = M c) → (0 ≤ v6 ∧ v6 ≤ 5000000000) → (sq c m = x → cpB v6 = rwV m k (alV M0 hs) (nn - x) x c l ∧ v8 = rpV 1000000000 m k (alV M0 hs) (nn - x) x c l) → PW sc f m_X12_laysRotas 96 [] [some (vr 81), some (vi (nn : Int)), some (vi ((4 ^ m : Nat) : Int)), some (vi (x : Int)), some (vi (c : Int)), some (vi (l : Int)), some (vl v6), none, some (vi v8), some (vi (i : Int)), o10] M1 Q := fun f i v6 v8 o10 M1 F h6 h => by
            have R1 : roM M0 m k hs M1 := R.eq fun c c1 c2 _ _ => F c c1 c2
            have last : ∀ (f : Nat) (v y : Int), y = ((6144 * x + (6 * c + l) : Nat) : Int) → v = cpB v6 → PW sc f m_X12_laysRotas 110 [vi v, vi y, vr 116] [some (vr 81), some (vi (nn : Int)), some (vi ((4 ^ m : Nat) : Int)), some (vi (x : Int)), some (vi (c : Int)), some (vi (l : Int)), some (vl v6), none, some (vi v8), some (vi (i : Int)), o10] M1 Q := fun f v y hy hv => by
              refine pw_X12_laysRotas_110 _ _ _ _ _ _ _ _ _ _ _ _ M1 fun n3 _ => gMB (f_stateM (by omega) (by omega) hl5 fun y2 hy2 => cI_i (gMB ?_))
              rw [show y.toNat = 6144 * x + (6 * c + l) by omega, show y2.toNat = 6144 * x + (6 * c + l) by omega, show w32 ((l : Int) + 1) = ((l + 1 : Nat) : Int) from ew32 (by omega) (by omega)]
              refine ihp (l + 1) n3 _ _ _ _ _ _ (by omega) (R1.eq fun c _ _ c3 c4 => (stK c4).trans (stK c3)) fun x' c' l' h1 h2 h3 h4 h5 => ?_
              by_cases e : x' = x ∧ c' = c ∧ l' = l
              · obtain ⟨e1, e2, e3⟩ := e
                subst e1 e2 e3
                have z := h h4
                refine ⟨?_, stE.trans z.2⟩
                rw [stK (by decide)]
                exact stE.trans (hv.trans z.1)
              · have ne : 6144 * x' + (6 * c' + l') ≠ 6144 * x + (6 * c + l) := by
                  have : c' ≤ 1023 := by omega
                  have : c ≤ 1023 := by omega
                  omega
                refine (E x' c' l' h1 h2 h3 h4 (by omega)).cg ?_ ?_
                · rw [stK (by decide), stO ne, F 116 (by decide) (by decide)]
                · rw [stO ne, stK (by decide), F 117 (by decide) (by decide)]
            refine pw_X12_laysRotas_96 _ _ _ _ _ _ _ _ _ M1 fun n2 _ => f_stateM (by omega) (by omega) hl5 fun y hy => cI_i (brP (fun le => last _ _ y hy ?_) fun gt => last _ _ y hy ?_)
            · have le := lcmr_le.mp le
              unfold cpB
              rw [if_pos le]
              exact ew32 (by omega) (by omega)
            · have gt : ¬ v6 ≤ 1000000000 := fun y => gt (lcmr_le.mpr y)
              unfold cpB
              rw [if_neg gt]
          have hxn : x ≤ nn := by omega
          by_cases top : x = nn
          · refine pw_X12_laysRotas_18 _ _ _ _ _ _ _ _ _ _ M fun n1 _ => brF (by omega) (brF (by omega) (pw_X12_laysRotas_27 _ _ _ _ _ _ _ _ _ _ _ M fun n2 _ => brF (by omega) (f_differsM hm R.2.2.1 (by omega) (cI_i (pw_X12_laysRotas_39 _ _ _ _ _ _ _ _ _ M fun n3 _ => ?_)))))
            have E0 : sq c m = x → cpB 1 = rwV m k (alV M0 hs) (nn - x) x c l ∧ dV c m = rpV 1000000000 m k (alV M0 hs) (nn - x) x c l := fun _ => by
              rw [show nn - x = 0 by omega]
              exact ⟨rfl, rfl⟩
            have f0 := fun o10 => fin n3 0 1 (dV c m) o10 M (fun _ _ _ => rfl) (by decide) E0
            exact brP (fun _ => f0 _) fun _ => brT (by omega) (f0 _)
          · have lt : x < nn := by omega
            obtain ⟨r, hr⟩ : ∃ r, nn - x = r + 1 := ⟨nn - x - 1, by omega⟩
            have sF := suF_r (p := roK k (alV M0 hs) x c l) (f := fun i => rwV m k (alV M0 hs) r (x + 1) (c + 4 ^ i) i) (fun i => rwV_r m k (alV M0 hs) r _ _ _)
            have l39 : ∀ (q i f : Nat) (v6 v8 : Int) (o10 : Option Vv) (M1 : MM), i + q = m → (∀ c, c ≠ 108 → c ≠ 109 → M1 c = M c) → v6 = suF (roK k (alV M0 hs) x c l) (fun i => rwV m k (alV M0 hs) r (x + 1) (c + 4 ^ i) i) i → v8 = miF 1000000000 (roP m k (alV M0 hs) r x c l) (fun i => rpV 1000000000 m k (alV M0 hs) r (x + 1) (c + 4 ^ i) i) i → (sq c m = x ∨ i = 0) → PW sc f m_X12_laysRotas 39 [] [some (vr 81), some (vi (nn : Int)), some (vi ((4 ^ m : Nat) : Int)), some (vi (x : Int)), some (vi (c : Int)), some (vi (l : Int)), some (vl v6), none, some (vi v8), some (vi (i : Int)), o10] M1 Q := by
              intro q
              induction q with
              | zero =>
                intro i f v6 v8 o10 M1 hi F e6 e8 hsq
                have hi : i = m := hi
                subst hi
                have s0 := sF i
                have R1 : roM M0 i k hs M1 := R.eq fun c c1 c2 _ _ => F c c1 c2
                refine pw_X12_laysRotas_39 _ _ _ _ _ _ _ _ _ M1 fun n3 _ => ?_
                rw [R1.2.2.1]
                refine brT (Int.le_refl _) (fin _ _ _ _ _ M1 F (by rw [e6]; omega) fun _ => ?_)
                rw [hr, rwV_s, rpV_s, e6, e8]
                exact ⟨rfl, rfl⟩
              | succ q ihq =>
                intro i f v6 v8 o10 M1 hi F e6 e8 hsq
                have him : i < m := by omega
                have s0 := sF i
                have R1 : roM M0 m k hs M1 := R.eq fun c c1 c2 _ _ => F c c1 c2
                refine pw_X12_laysRotas_39 _ _ _ _ _ _ _ _ _ M1 fun n3 _ => ?_
                rw [R1.2.2.1]
                refine brF (by omega) (brF (by omega) (f_sqM hm.2 R1.2.2.1 (by omega) (cI_i (brP (fun ne => fin _ _ _ _ _ M1 F (by rw [e6]; omega) fun y => absurd (by omega) ne) fun eq => ?_))))
                have eq : sq c m = x := by
                  have := Classical.not_not.mp eq
                  omega
                rw [show w32 ((i : Int) + 1) = ((i + 1 : Nat) : Int) from ew32 (by omega) (by omega), show w32 ((x : Int) + 1) = ((x + 1 : Nat) : Int) from ew32 (by omega) (by omega)]
                refine f_mayNextM J h34 hm.2 R1 (by omega) (by omega) him (fun M2 f2 z y hy => cI_i (brF (by omega) ?_)) fun M2 f2 z y hy => cI_i (brT (by omega) ?_)
                · refine ihq (i + 1) n3 _ _ _ M2 (by omega) (fun c c1 c2 => (f2 c c1 c2).trans (F c c1 c2)) ?_ ?_ (.inl eq)
                  · rw [suF_s, if_neg (by rw [z]; decide)]
                    exact e6
                  · rw [miF_s, if_neg fun y => absurd (z.symm.trans (roP_iff.mp y).1) (by decide)]
                    exact e8
                · obtain ⟨z1, z2, z3⟩ := roK_iff.mp z
                  have hcq : cq c i < 3 := by omega
                  have c4 := p4_add hm.2 him hc hcq
                  have sq1 : sq (c + 4 ^ i) m = x + 1 := by rw [sq_add (by omega) hcq m hm.2, if_pos him, eq]
                  have F2 : ∀ c, c ≠ 108 → c ≠ 109 → M2 c = M c := fun c c1 c2 => (f2 c c1 c2).trans (F c c1 c2)
                  have ent := E (x + 1) (c + 4 ^ i) i (by omega) c4 (by omega) sq1 (.inl (Nat.lt_succ_self _))
                  unfold rmE at ent
                  rw [show nn - (x + 1) = r by omega] at ent
                  have rr := rwV_r m k (alV M0 hs) r (x + 1) (c + 4 ^ i) i
                  have b2 : 1 ≤ 4 ^ i ∧ 4 ^ i ≤ 1024 := p4_le (by omega)
                  rw [show w32 (2 * (i : Int)) = 2 * (i : Int) from ew32 (by omega) (by omega), shl4 i (by omega), show w32 ((c : Int) + ((4 ^ i : Nat) : Int)) = ((c + 4 ^ i : Nat) : Int) by rw [ew32 (by omega) (by omega)]; omega]
                  refine f_stateM (by omega) (by omega) (by omega) fun y4 h4 => cI_i (gMB (gMB ?_))
                  rw [show y4.toNat = 6144 * (x + 1) + (6 * (c + 4 ^ i) + i) by omega, F2 116 (by decide) (by decide), F2 117 (by decide) (by decide), ent.1, ent.2, show w64 (v6 + rwV m k (alV M0 hs) r (x + 1) (c + 4 ^ i) i) = v6 + rwV m k (alV M0 hs) r (x + 1) (c + 4 ^ i) i from ew64 (by omega) (by omega)]
                  refine brP (fun le => ihq (i + 1) n3 _ _ _ M2 (by omega) F2 ?_ ?_ (.inl eq)) fun gt => gMB (f_minM (cI_i (ihq (i + 1) n3 _ _ _ M2 (by omega) F2 ?_ ?_ (.inl eq))))
                  · rw [suF_s, if_pos z, e6]
                  · rw [miF_s, if_neg fun y => by have := (roP_iff.mp y).2; omega]
                    exact e8
                  · rw [suF_s, if_pos z, e6]
                  · rw [miF_s, if_pos (roP_iff.mpr ⟨z, by omega⟩), e8]
            refine pw_X12_laysRotas_18 _ _ _ _ _ _ _ _ _ _ M fun n1 _ => brF (by omega) (brT (by omega) (pw_X12_laysRotas_27 _ _ _ _ _ _ _ _ _ _ _ M fun n2 _ => brT (by omega) (l39 m 0 n2 0 1000000000 _ M (Nat.zero_add _) (fun _ _ _ => rfl) rfl rfl (.inr rfl))))
      have l13 : ∀ (p c f : Nat) (o5 o6 o7 o8 o9 o10 : Option Vv) (M : MM), c + p = 4 ^ m → roM M0 m k hs M → rmT m k nn (alV M0 hs) M x c 0 → PW sc f m_X12_laysRotas 13 [] [some (vr 81), some (vi (nn : Int)), some (vi ((4 ^ m : Nat) : Int)), some (vi (x : Int)), some (vi (c : Int)), o5, o6, o7, o8, o9, o10] M Q := by
        intro p
        induction p with
        | zero =>
          intro c f o5 o6 o7 o8 o9 o10 M hp R E
          have hp : c = 4 ^ m := hp
          refine pw_X12_laysRotas_13 _ _ _ _ _ _ _ _ _ _ M fun n1 _ => brT (by omega) ?_
          rw [show w32 ((x : Int) + (-1)) = (x : Int) - 1 from ew32 (by omega) (by omega)]
          exact ih n1 _ _ _ _ _ _ _ M (by omega) R fun x' c' l' h1 h2 h3 h4 h5 => E x' c' l' h2 h3 h4 h5 (by omega)
        | succ p ihp =>
          intro c f o5 o6 o7 o8 o9 o10 M hp R E
          exact pw_X12_laysRotas_13 _ _ _ _ _ _ _ _ _ _ M fun n1 _ => brF (by omega) (l18 c (by omega) (fun f o5 o6 o7 o8 o9 o10 M R E => ihp (c + 1) f o5 o6 o7 o8 o9 o10 M (by omega) R E) 6 0 n1 _ _ _ _ _ M rfl R E)
      exact l13 (4 ^ m) 0 n1 _ _ _ _ _ _ M (Nat.zero_add _) R fun x' c' l' h1 h2 h3 h4 h5 => E x' c' l' (by omega) h1 h2 h3 h4
  refine pc_X12_laysRotas _ M fun n1 _ => ?_
  rw [R.2.2.1, show w32 (2 * (m : Int)) = 2 * (m : Int) from ew32 (by omega) (by omega), shl4 m (by omega)]
  have z := l9 (nn + 1) n1 none none none none none none none M (Nat.le_refl _) R fun x c l h1 h2 => by omega
  rw [show (((nn + 1 : Nat) : Int)) - 1 = (nn : Int) by omega] at z
  exact z
set_option maxRecDepth 20000 in
theorem f_firstInM {M0 : MM} (J : lwJ M0) (h34 : 0 ≤ M0 82 34 ∧ M0 82 34 ≤ 9999) {m : Nat} (hm : 1 ≤ m ∧ m ≤ 5) {k hs : Int} (hk : k ≤ 3) {nn : Nat} (hn : nn ≤ 14) {M : MM} (R : roM M0 m k hs M) (E : ∀ x c l, x ≤ nn → c < 4 ^ m → l ≤ 5 → sq c m = x → rmE m k nn (alV M0 hs) M x c l) (pos : 0 < rwV m k (alV M0 hs) nn 0 0 5) {w : Nat} (hw : w < nn) {f : Nat} (kk : ∀ M1, Q (vi ((mbV hs 10).2 (rrV m k (alV M0 hs) nn (w + 1)).2)) M1) : PC sc f m_X12_firstIn [vr 81, vi (w : Int)] M Q := by
  have b4 := p4_le hm.2
  have lp : ∀ (q j f : Nat) (o5 : Option Vv) (M1 : MM), j + q = w + 1 → (∀ c, c ≠ 108 → c ≠ 109 → M1 c = M c) → PW sc f m_X12_firstIn 6 [] [some (vr 81), some (vi (w : Int)), some (vi (((rrV m k (alV M0 hs) nn j).1 : Nat) : Int)), some (vi (((rrV m k (alV M0 hs) nn j).2 : Nat) : Int)), some (vi (j : Int)), o5] M1 Q := by
    intro q
    induction q with
    | zero =>
      intro j f o5 M1 hj F
      have hj : j = w + 1 := hj
      subst hj
      have R1 : roM M0 m k hs M1 := R.eq fun c c1 c2 _ _ => F c c1 c2
      have lt : (rrV m k (alV M0 hs) nn (w + 1)).2 < m := by
        rw [rrV_s]
        exact (rr_step hm hk hw (rr_all hm hk pos w (by omega))).1
      refine pw_X12_firstIn_6 _ _ _ _ _ M1 fun n1 _ => brT (by omega) (gMB ?_)
      rw [show ((((rrV m k (alV M0 hs) nn (w + 1)).2 : Nat) : Int)).toNat = (rrV m k (alV M0 hs) nn (w + 1)).2 by omega, R1.2.2.2.2 _ lt]
      exact kk M1
    | succ q ih =>
      intro j f o5 M1 hj F
      have I := rr_all hm hk pos j (by omega)
      have S := rr_step hm hk (by omega) I
      have hs' := rrV_s m k (alV M0 hs) nn j
      have ih2 := ih (j + 1)
      rw [hs'] at ih2
      obtain ⟨i1, i2, i3, -⟩ := I
      generalize (rrV m k (alV M0 hs) nn j).1 = c at i1 i2 S ih2 ⊢
      generalize (rrV m k (alV M0 hs) nn j).2 = last at i3 S ih2 ⊢
      have l11 : ∀ (p i f : Nat) (M2 : MM), i + p = m → (∀ c, c ≠ 108 → c ≠ 109 → M2 c = M c) → ffV (roP m k (alV M0 hs) (nn - (j + 1)) j c last) m 0 = ffV (roP m k (alV M0 hs) (nn - (j + 1)) j c last) p i → PW sc f m_X12_firstIn 11 [] [some (vr 81), some (vi (w : Int)), some (vi (c : Int)), some (vi (last : Int)), some (vi (j : Int)), some (vi (i : Int))] M2 Q := by
        intro p
        induction p with
        | zero =>
          intro i f M2 hi F2 e
          have e : ffV (roP m k (alV M0 hs) (nn - (j + 1)) j c last) m 0 = 5 := e
          have := S.1
          omega
        | succ p ihp =>
          intro i f M2 hi F2 e
          rw [ffV_s _ p] at e
          have him : i < m := by omega
          have R2 : roM M0 m k hs M2 := R.eq fun c c1 c2 _ _ => F2 c c1 c2
          refine pw_X12_firstIn_11 _ _ _ _ _ M2 fun n1 _ => ?_
          rw [show w32 ((i : Int) + 1) = ((i + 1 : Nat) : Int) from ew32 (by omega) (by omega), show w32 ((j : Int) + 1) = ((j + 1 : Nat) : Int) from ew32 (by omega) (by omega)]
          refine f_mayNextM J h34 hm.2 R2 (by omega) (by omega) him (fun M3 f3 z y hy => cI_i (brT hy (ihp (i + 1) n1 M3 (by omega) (fun c c1 c2 => (f3 c c1 c2).trans (F2 c c1 c2)) ?_))) fun M3 f3 z y hy => cI_i (brF (by omega) ?_)
          · rw [if_neg fun y => absurd (z.symm.trans (roP_iff.mp y).1) (by decide)] at e
            exact e
          · obtain ⟨z1, z2, z3⟩ := roK_iff.mp z
            have hcq : cq c i < 3 := by omega
            have c4 := p4_add hm.2 him i1 hcq
            have sq1 : sq (c + 4 ^ i) m = j + 1 := by rw [sq_add (by omega) hcq m hm.2, if_pos him, i2]
            have F3 : ∀ c, c ≠ 108 → c ≠ 109 → M3 c = M c := fun c c1 c2 => (f3 c c1 c2).trans (F2 c c1 c2)
            have ent := (E (j + 1) (c + 4 ^ i) i (by omega) c4 (by omega) sq1).1
            have rr := rwV_r m k (alV M0 hs) (nn - (j + 1)) (j + 1) (c + 4 ^ i) i
            have b2 : 1 ≤ 4 ^ i ∧ 4 ^ i ≤ 1024 := p4_le (by omega)
            rw [show w32 (2 * (i : Int)) = 2 * (i : Int) from ew32 (by omega) (by omega), shl4 i (by omega), show w32 ((c : Int) + ((4 ^ i : Nat) : Int)) = ((c + 4 ^ i : Nat) : Int) by rw [ew32 (by omega) (by omega)]; omega]
            refine f_stateM (by omega) (by omega) (by omega) fun y4 h4 => cI_i (gMB ?_)
            rw [show y4.toNat = 6144 * (j + 1) + (6 * (c + 4 ^ i) + i) by omega, F3 116 (by decide) (by decide), ent]
            refine brP (fun nz => ?_) fun ze => ihp (i + 1) n1 M3 (by omega) F3 ?_
            · rw [if_pos (roP_iff.mpr ⟨z, by omega⟩)] at e
              rw [e] at ih2
              exact ih2 n1 _ M3 (by omega) F3
            · rw [if_neg fun y => ze (by have := (roP_iff.mp y).2; omega)] at e
              exact e
      exact pw_X12_firstIn_6 _ _ _ _ _ M1 fun n1 _ => brF (by omega) (l11 m 0 n1 M1 (Nat.zero_add _) F rfl)
  exact pc_X12_firstIn _ M fun n1 _ => lp (w + 1) 0 n1 none M (Nat.zero_add _) fun _ _ _ => rfl
theorem gd34 {M : MM} (G : GdA M) : 0 ≤ M 82 34 ∧ M 82 34 ≤ 9999 := by
  obtain ⟨-, W, -⟩ := id G.2.2.1
  exact W.2.2
set_option maxRecDepth 20000 in
theorem f_rotasM {M0 : MM} (G : axG M0) (h34 : 0 ≤ M0 82 34 ∧ M0 82 34 ≤ 9999) {n hs k w : Int} {f : Nat} : PC sc f m_X12_rotas [vr 81, vi n, vi hs, vi k, vi w] M0 (fun r _ => r = vi (roV M0 n hs k w)) := by
  have g34 := rO_82_34 G.1
  have no : ¬ roOk M0 n hs k w → vi (-1) = vi (roV M0 n hs k w) := fun z => by rw [roV_f z]
  have main : ∀ f : Nat, (1 ≤ n ∧ n ≤ 14) → (1 ≤ hs ∧ hs ≤ 1023) → bsum hs 10 ≤ 5 → (1 ≤ k ∧ k ≤ 3) → ((0 ≤ w ∧ w ≤ n - 1) ∨ w = 100 ∨ w = 101) → PW sc f m_X12_rotas 31 [] [some (vr 81), some (vi n), some (vi hs), some (vi k), some (vi w), none] M0 (fun r _ => r = vi (roV M0 n hs k w)) := fun f h1 h3 h5 h2 hw => by
    refine pw_X12_rotas_31 _ _ _ _ _ M0 fun n1 _ => ?_
    by_cases big : M0 82 34 + n ≤ 9999
    · rw [show w32 (M0 82 34 + n) = M0 82 34 + n from ew32 (by omega) (by omega)]
      refine brT big ?_
      obtain ⟨nn, hnn⟩ : ∃ nn : Nat, n = (nn : Int) := ⟨n.toNat, by omega⟩
      have hb1 := bs_pos h3
      have hmn := mbV_n hs 10 (by decide)
      have hm : 1 ≤ (mbV hs 10).1 ∧ (mbV hs 10).1 ≤ 5 := by omega
      have l49 : ∀ (q h f : Nat) (M : MM), h + q = 10 → (∀ c, (c < 108 ∨ 118 < c) → c ≠ 81 → M c = M0 c) → M 81 19 = M0 81 19 → M 81 57 = ((mbV hs h).1 : Int) → M 81 58 = k → (∀ i, i < (mbV hs h).1 → M 118 i = (mbV hs h).2 i) → (∀ i : Nat, i < h → bit hs i = true → 0 ≤ M0 86 i) → PW sc f m_X12_rotas 49 [] [some (vr 81), some (vi n), some (vi hs), some (vi k), some (vi w), some (vi (h : Int))] M (fun r _ => r = vi (roV M0 n hs k w)) := by
        intro q
        induction q with
        | zero =>
          intro h f M hq F e19 p1 p2 Me S
          have hq : h = 10 := hq
          subst hq
          have ok : roOk M0 n hs k w := ⟨h1, h2, h3, S, h5, hw, big⟩
          rw [roV_t ok]
          have eW : roW M0 n hs k w = if w = 100 then rwV (mbV hs 10).1 k (alV M0 hs) nn 0 0 5 else if rwV (mbV hs 10).1 k (alV M0 hs) nn 0 0 5 = 0 then -2 else if w = 101 then rpV 1000000000 (mbV hs 10).1 k (alV M0 hs) nn 0 0 5 else (mbV hs 10).2 (rrV (mbV hs 10).1 k (alV M0 hs) nn (w.toNat + 1)).2 := by
            unfold roW
            rw [hnn, show ((nn : Int)).toNat = nn by omega]
          have R : roM M0 (mbV hs 10).1 k hs M := ⟨F, e19, p1, p2, Me⟩
          rw [eW]
          refine pw_X12_rotas_49 _ _ _ _ _ M fun n2 _ => brT (by decide) ?_
          rw [hnn]
          refine f_laysRotasM (lwJ.of G) h34 hm (by omega) (by omega) R fun M1 R1 E => ?_
          have b4 := p4_le hm.2
          have e0 := E 0 0 5 (by omega) (by omega) (Nat.le_refl _) (sq_0 _)
          unfold rmE at e0
          have e0 : M1 116 5 = rwV (mbV hs 10).1 k (alV M0 hs) nn 0 0 5 ∧ M1 117 5 = rpV 1000000000 (mbV hs 10).1 k (alV M0 hs) nn 0 0 5 := e0
          have rr := rwV_r (mbV hs 10).1 k (alV M0 hs) nn 0 0 5
          have s0 : ∀ (f : Nat) (Q' : Vv → MM → Prop), Q' (vi 5) M1 → PC sc f m_X12_rotaState [vi 0, vi 0, vi 5] M1 Q' := fun f Q' k => f_stateM (x := 0) (c := 0) (l := 5) (by decide) (by decide) (by decide) fun y hy => by rw [show y = 5 from hy]; exact k
          refine s0 _ _ (cI_i ?_)
          rw [show ((5 : Int)).toNat = 5 from rfl, e0.1, e0.2]
          refine brP (fun w100 => gMB (brP (fun nz => brP (fun w101 => ?_) fun w101 => gMB ?_) fun nz => ?_)) fun w100 => gMB ?_
          · rw [if_neg w100, if_neg nz, if_neg w101]
            obtain ⟨ww, hww⟩ : ∃ ww : Nat, w = (ww : Int) := ⟨w.toNat, by omega⟩
            rw [hww, show ((ww : Int)).toNat = ww by omega]
            exact f_firstInM (lwJ.of G) h34 hm (by omega) (by omega) R1 E (by omega) (by omega) fun M2 => cI_i rfl
          · rw [if_neg w100, if_neg nz, if_pos (Classical.not_not.mp w101)]
          · rw [if_neg w100, if_pos (Classical.not_not.mp nz)]
          · rw [if_pos (Classical.not_not.mp w100)]
        | succ q ih =>
          intro h f M hq F e19 p1 p2 Me S
          have hh : h < 10 := by omega
          have ih2 := ih (h + 1)
          rw [mbV_s] at ih2
          refine pw_X12_rotas_49 _ _ _ _ _ M fun n2 _ => brF (by omega) ?_
          rw [show w32 ((h : Int) + 1) = ((h + 1 : Nat) : Int) from ew32 (by omega) (by omega)]
          refine p_has (by omega) (fun b x hx => cI_i (brF (by omega) ?_)) fun b x hx => cI_i (brT (by omega) (f_hasSpotM (fun z x hx => cI_i (brF (by omega) (no fun y => z ⟨by omega, ?_⟩))) fun z x hx => cI_i (brT (by omega) (gMB ?_))))
          · rw [if_neg (by rw [b]; decide)] at ih2
            refine ih2 n2 M (by omega) F e19 p1 p2 Me fun i hi hb => ?_
            by_cases e : i = h
            · subst e
              rw [b] at hb
              cases hb
            · exact S i (by omega) hb
          · rw [F 86 (by decide) (by decide), show ((h : Int)).toNat = h by omega]
            exact y.2.2.2.1 h hh b
          · have z := z.2
            rw [F 86 (by decide) (by decide), show ((h : Int)).toNat = h by omega] at z
            rw [if_pos b] at ih2
            have z1 := mbV_n hs h (by omega)
            have e1 : bsum hs (h + 1) = bsum hs h + btv hs (h : Int) := rfl
            have e2 := (btv_iff hs (k := h) (by omega)).mpr b
            have m1 := bsum_mono hs (10 - (h + 1)) (h + 1)
            rw [show h + 1 + (10 - (h + 1)) = 10 by omega] at m1
            rw [p1, show ((((mbV hs h).1 : Nat) : Int)).toNat = (mbV hs h).1 by omega, show w32 (((mbV hs h).1 : Int) + 1) = (((mbV hs h).1 + 1 : Nat) : Int) from ew32 (by omega) (by omega)]
            refine ih2 n2 _ (by omega) (fun c c1 c2 => (stK c2).trans ((stK (by omega)).trans (F c c1 c2))) (by rw [stO (by decide), stK (by decide)]; exact e19) stE (by rw [stO (by decide), stK (by decide)]; exact p2) (fun i hi => ?_) fun i hi hb => ?_
            · rw [stK (by decide)]
              show stM M 118 (mbV hs h).1 (h : Int) 118 i = if i = (mbV hs h).1 then (h : Int) else (mbV hs h).2 i
              have hi : i < (mbV hs h).1 + 1 := hi
              by_cases e : i = (mbV hs h).1
              · rw [if_pos e, e]
                exact stE
              · rw [if_neg e, stO e]
                exact Me i (by omega)
            · by_cases e : i = h
              · subst e
                exact z
              · exact S i (by omega) hb
      refine l49 10 0 n1 _ rfl (fun c _ c2 => (stK c2).trans (stK c2)) ?_ ?_ stE (fun i hi => absurd hi (Nat.not_lt_zero i)) fun i hi => absurd hi (Nat.not_lt_zero i)
      · rw [stO (by decide), stO (by decide)]
      · rw [stO (by decide)]
        exact stE
    · refine brF (fun y => ?_) (no fun y => big y.2.2.2.2.2.2)
      rw [ew32 (by omega) (by omega)] at y
      exact big y
  refine pc_X12_rotas _ _ _ _ M0 fun n1 _ => p_in (fun z x hx => cI_i (brT hx (no fun y => z y.1))) fun h1 x hx => cI_i (brF (by omega) (p_in (fun z x hx => cI_i (brT hx (no fun y => z y.2.2.1))) fun h3 x hx => cI_i (brF (by omega) (PC.of (s_bits (d := 1) (cI_i (brP (fun z5 => no fun y => by have := y.2.2.2.2.1; omega) fun z5 => ?_)))))))
  refine p_in (fun z x hx => cI_i (brT hx (no fun y => z y.2.1))) fun h2 x hx => cI_i (brF (by omega) (p_in (fun z x hx => cI_i (brF (by omega) ?_)) fun hw x hx => cI_i (brT (by omega) (main n1 h1 h3 (by omega) h2 (by omega)))))
  rw [show w32 (n - 1) = n - 1 from ew32 (by omega) (by omega)]
  refine p_in (fun z2 x hx => cI_i (brT hx (no fun y => ?_))) fun hw x hx => cI_i (brF (by omega) (main n1 h1 h3 (by omega) h2 (.inl hw)))
  have := y.2.2.2.2.2.1
  omega
theorem csQ_rotas {M : MM} {n hs k w : Int} (i0 : in32 n) (i1 : in32 hs) (i2 : in32 k) (i3 : in32 w) (G : GdA M) : CA FF sc YF 59 m_X11_rotas [vr 0, vi n, vi hs, vi k, vi w] M (fun r M1 => ∃ x, r = vi x ∧ GdA M1 ∧ x = roV M1 n hs k w) := csV G (by decide +kernel) (cf_rotas i0 i1 i2 i3 G.1.1) (V := fun M => roV M n hs k w) (fun f => f_rotasC G) fun M1 u => roV_up u n hs k w
theorem msQ_rotas {M : MM} {n hs k w x : Int} (i0 : in32 n) (i1 : in32 hs) (i2 : in32 k) (i3 : in32 w) (G : GdA M ∧ x = roV M n hs k w) : CA FF sc YF 59 m_X12_rotas [vr 81, vi n, vi hs, vi k, vi w] M (fun r M1 => ∃ y, r = vi y ∧ GdA M1 ∧ y = x) := msV (V := fun M => roV M n hs k w) G (by decide +kernel) (mf_rotas i0 i1 i2 i3 G.1.1.1) fun f => f_rotasM G.1.1.1 (gd34 G.1)
end ROC
