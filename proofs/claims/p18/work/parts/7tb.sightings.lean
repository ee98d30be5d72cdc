/-! PART 7tb: the answers of sightings -/
theorem pc_X3_measure {sc : List Int} {n : Nat} {T : Nat} (hT : T = 57 ∨ T = 61) {Q : Vv → MM → Prop} (v2 : Int) (M : MM) (h : ∀ n1, n1 < n → PW sc n1 m_X3_measure 2 [] [some (vr 32), some (vr T), some (vi v2), some (vi 0), none, none, none] M Q) : PC sc n m_X3_measure [vr 32, vr T, vi v2] M Q := by
  rcases hT with rfl | rfl <;> exact pc_go rfl (fun j => Nat.beq j 2 || Nat.beq j 26 || Nat.beq j 34) 83 h
theorem pw_X3_measure_2 {sc : List Int} {n : Nat} {T : Nat} (hT : T = 57 ∨ T = 61) {Q : Vv → MM → Prop} (v2 : Int) (v3 : Int) (o4 : Option Vv) (o5 : Option Vv) (o6 : Option Vv) (M : MM) (h : ∀ n1, n1 < n → brA (decide (64 ≤ v3))
  (gIm (decide (0 ≤ v2) && decide (v2 < 64)) (PW sc n1 m_X3_measure 26 [] [some (vr 32), some (vr T), some (vi v2), some (vi 1), some (vi 0), o5, o6] (stM (stM M 33 (v2.toNat) 0) 36 0 v2) Q))
  (gIm (decide (0 ≤ v3) && decide (v3 < 64)) (PW sc n1 m_X3_measure 2 [] [some (vr 32), some (vr T), some (vi v2), some (vi (w32 (v3 + 1))), o4, o5, o6] (stM M 33 (v3.toNat) ((-1))) Q))) : PW sc n m_X3_measure 2 [] [some (vr 32), some (vr T), some (vi v2), some (vi v3), o4, o5, o6] M Q := by
  rcases hT with rfl | rfl <;> exact pw_go rfl (fun j => Nat.beq j 2 || Nat.beq j 26 || Nat.beq j 34) 83 h
theorem pw_X3_measure_26 {sc : List Int} {n : Nat} {T : Nat} (hT : T = 57 ∨ T = 61) {Q : Vv → MM → Prop} (v2 : Int) (v3 : Int) (v4 : Int) (o5 : Option Vv) (o6 : Option Vv) (M : MM) (h : ∀ n1, n1 < n → brA (decide (64 ≤ v4))
  (Q (vi 0) M)
  (brA (decide (v3 ≤ v4))
   (Q (vi 0) M)
   (PW sc n1 m_X3_measure 34 [] [some (vr 32), some (vr T), some (vi v2), some (vi v3), some (vi v4), some (vi 0), o6] M Q))) : PW sc n m_X3_measure 26 [] [some (vr 32), some (vr T), some (vi v2), some (vi v3), some (vi v4), o5, o6] M Q := by
  rcases hT with rfl | rfl <;> exact pw_go rfl (fun j => Nat.beq j 2 || Nat.beq j 26 || Nat.beq j 34) 83 h
theorem pw_X3_measure_34 {sc : List Int} {n : Nat} {T : Nat} (hT : T = 57 ∨ T = 61) {Q : Vv → MM → Prop} (v2 : Int) (v3 : Int) (v4 : Int) (v5 : Int) (o6 : Option Vv) (M : MM) (h : ∀ n1, n1 < n → brA (decide (4 ≤ v5))
  (PW sc n1 m_X3_measure 26 [] [some (vr 32), some (vr T), some (vi v2), some (vi v3), some (vi (w32 (v4 + 1))), some (vi v5), o6] M Q)
  (gIm (decide (0 ≤ v4) && decide (v4 < 64)) (PC sc n1 m_X9_after [vr T, vi (M 36 v4.toNat), vi v5] M (cI fun r2 M1 =>
   gIm (decide (0 ≤ r2) && decide (r2 < 64)) (brA (decide ((M1 33 r2.toNat) ≠ ((-1))))
    (PW sc n1 m_X3_measure 34 [] [some (vr 32), some (vr T), some (vi v2), some (vi v3), some (vi v4), some (vi (w32 (v5 + 1))), some (vi r2)] M1 Q)
    (brA (decide (64 ≤ v3))
     (PW sc n1 m_X3_measure 34 [] [some (vr 32), some (vr T), some (vi v2), some (vi v3), some (vi v4), some (vi (w32 (v5 + 1))), some (vi r2)] M1 Q)
     (gIm (decide (0 ≤ v4) && decide (v4 < 64)) (gIm (decide (0 ≤ (M1 36 v4.toNat)) && decide ((M1 36 v4.toNat) < 64)) (gIm (decide (0 ≤ r2) && decide (r2 < 64)) (gIm (decide (0 ≤ v3) && decide (v3 < 64)) (PW sc n1 m_X3_measure 34 [] [some (vr 32), some (vr T), some (vi v2), some (vi (w32 (v3 + 1))), some (vi v4), some (vi (w32 (v5 + 1))), some (vi r2)] (stM (stM M1 33 (r2.toNat) (w32 ((M1 33 (M1 36 v4.toNat).toNat) + 1))) 36 (v3.toNat) r2) Q))))))))))) : PW sc n m_X3_measure 34 [] [some (vr 32), some (vr T), some (vi v2), some (vi v3), some (vi v4), some (vi v5), o6] M Q := by
  rcases hT with rfl | rfl <;> exact pw_go rfl (fun j => Nat.beq j 2 || Nat.beq j 26 || Nat.beq j 34) 83 h
theorem pc_X11_sightings {sc : List Int} {n : Nat} {Q : Vv → MM → Prop} (v1 : Int) (v2 : Int) (M : MM) (h : ∀ n1, n1 < n → PC sc n1 m_X11_isIn [vi v1, vi 1, vi 10] M (cI fun r2 M1 =>
  brA (decide (r2 = 0))
   (Q (vi ((-1))) M1)
   (PC sc n1 m_X11_isIn [vi v2, vi 0, vi 1] M1 (cI fun r4 M3 =>
    brA (decide (r4 = 0))
     (Q (vi ((-1))) M3)
     (brA (decide ((w32 (2 * v1)) ≤ (M3 1 1)))
      (gIm (decide (0 < M3 0 10)) (PC sc n1 m_X6_read [vr 37, vr 1, vi v1, vr ((M3 0 10).toNat - 1)] M3 (cI fun r6 M5 =>
       PC sc n1 m_X7_empty [vr 1] M5 (fun _ M7 =>
        brA (decide (r6 ≠ 0))
         (gIm (decide (0 < M7 0 10)) (PC sc n1 m_X6_link [vr 37, vr ((M7 0 10).toNat - 1), vr 32] M7 (fun _ M8 =>
          brA (decide (v2 ≠ 0))
           (gIm (decide (0 < M8 0 10)) (PC sc n1 m_X6_fromWhere [vr 37, vr ((M8 0 10).toNat - 1), vr 32] M8 (cI fun r10 M9 =>
            Q (vi r10) M9)))
           (PC sc n1 m_X6_fewestGhosts [vr 37] M8 (cI fun r12 M11 =>
            Q (vi r12) M11)))))
         (Q (vi ((-2))) M7)))))
      (Q (vi ((-1))) M3)))))) : PC sc n m_X11_sightings [vr 0, vi v1, vi v2] M Q := pc_go rfl (fun j => false) 61 h
theorem pc_X6_read {sc : List Int} {n : Nat} {T : Nat} (hT : T = 57 ∨ T = 61) {Q : Vv → MM → Prop} (v2 : Int) (M : MM) (h : ∀ n1, n1 < n → PW sc n1 m_X6_read 5 [] [some (vr 37), some (vr 1), some (vi v2), some (vr T), some (vi 0)] (stM M 37 3 v2) Q) : PC sc n m_X6_read [vr 37, vr 1, vi v2, vr T] M Q := by
  rcases hT with rfl | rfl <;> exact pc_go rfl (fun j => Nat.beq j 5) 64 h
theorem pw_X6_read_5 {sc : List Int} {n : Nat} {T : Nat} (hT : T = 57 ∨ T = 61) {Q : Vv → MM → Prop} (v2 : Int) (v4 : Int) (M : MM) (h : ∀ n1, n1 < n → brA (decide (v2 ≤ v4))
  (Q (vi 1) M)
  (PC sc n1 m_X7_at [vr 1, vi (w32 (2 * v4))] M (cI fun r2 M1 =>
   gIm (decide (0 ≤ v4) && decide (v4 < 10)) (PC sc n1 m_X7_at [vr 1, vi (w32 ((w32 (2 * v4)) + 1))] (stM M1 38 (v4.toNat) r2) (cI fun r4 M3 =>
    gIm (decide (0 ≤ v4) && decide (v4 < 10)) (gIm (decide (0 ≤ v4) && decide (v4 < 10)) (gIm (decide (0 ≤ v4) && decide (v4 < 10)) (PC sc n1 m_X9_isWall [vr T, vi ((stM M3 39 (v4.toNat) r4) 39 v4.toNat)] (stM (stM M3 39 (v4.toNat) r4) 40 (v4.toNat) 0) (cI fun r6 M5 =>
     brA (decide (r6 ≠ 0))
      (Q (vi 0) M5)
      (brA (decide (v4 ≤ 0))
       (PW sc n1 m_X6_read 5 [] [some (vr 37), some (vr 1), some (vi v2), some (vr T), some (vi (w32 (v4 + 1)))] M5 Q)
       (gIm (decide (0 ≤ v4) && decide (v4 < 10)) (gIm (decide (0 ≤ (w32 (v4 - 1))) && decide ((w32 (v4 - 1)) < 10)) (brA (decide ((M5 38 (w32 (v4 - 1)).toNat) ≤ (M5 38 v4.toNat)))
        (PW sc n1 m_X6_read 5 [] [some (vr 37), some (vr 1), some (vi v2), some (vr T), some (vi (w32 (v4 + 1)))] M5 Q)
        (Q (vi 0) M5)))))))))))))) : PW sc n m_X6_read 5 [] [some (vr 37), some (vr 1), some (vi v2), some (vr T), some (vi v4)] M Q := by
  rcases hT with rfl | rfl <;> exact pw_go rfl (fun j => Nat.beq j 5) 64 h
theorem pc_X6_link {sc : List Int} {n : Nat} {T : Nat} (hT : T = 57 ∨ T = 61) {Q : Vv → MM → Prop}  (M : MM) (h : ∀ n1, n1 < n → PW sc n1 m_X6_link 2 [] [some (vr 37), some (vr T), some (vr 32), some (vi 0), none, none] M Q) : PC sc n m_X6_link [vr 37, vr T, vr 32] M Q := by
  rcases hT with rfl | rfl <;> exact pc_go rfl (fun j => Nat.beq j 2 || Nat.beq j 17) 73 h
theorem pw_X6_link_2 {sc : List Int} {n : Nat} {T : Nat} (hT : T = 57 ∨ T = 61) {Q : Vv → MM → Prop} (v3 : Int) (o4 : Option Vv) (o5 : Option Vv) (M : MM) (h : ∀ n1, n1 < n → brA (decide ((M 37 3) ≤ v3))
  (Q (vi 0) M)
  (gIm (decide (0 ≤ v3) && decide (v3 < 10)) (PC sc n1 m_X3_measure [vr 32, vr T, vi (M 39 v3.toNat)] M (fun _ M1 =>
   PW sc n1 m_X6_link 17 [] [some (vr 37), some (vr T), some (vr 32), some (vi v3), some (vi (w32 (v3 + 1))), o5] M1 Q)))) : PW sc n m_X6_link 2 [] [some (vr 37), some (vr T), some (vr 32), some (vi v3), o4, o5] M Q := by
  rcases hT with rfl | rfl <;> exact pw_go rfl (fun j => Nat.beq j 2 || Nat.beq j 17) 73 h
theorem pw_X6_link_17 {sc : List Int} {n : Nat} {T : Nat} (hT : T = 57 ∨ T = 61) {Q : Vv → MM → Prop} (v3 : Int) (v4 : Int) (o5 : Option Vv) (M : MM) (h : ∀ n1, n1 < n → brA (decide ((M 37 3) ≤ v4))
  (PW sc n1 m_X6_link 2 [] [some (vr 37), some (vr T), some (vr 32), some (vi (w32 (v3 + 1))), some (vi v4), o5] M Q)
  (gIm (decide (0 ≤ v4) && decide (v4 < 10)) (gIm (decide (0 ≤ (M 39 v4.toNat)) && decide ((M 39 v4.toNat) < 64)) (brA (decide ((M 33 (M 39 v4.toNat).toNat) = ((-1))))
   (PW sc n1 m_X6_link 17 [] [some (vr 37), some (vr T), some (vr 32), some (vi v3), some (vi (w32 (v4 + 1))), some (vi (M 33 (M 39 v4.toNat).toNat))] M Q)
   (gIm (decide (0 ≤ v4) && decide (v4 < 10)) (gIm (decide (0 ≤ v3) && decide (v3 < 10)) (brA (decide ((w32 ((M 38 v4.toNat) - (M 38 v3.toNat))) < (M 33 (M 39 v4.toNat).toNat)))
    (PW sc n1 m_X6_link 17 [] [some (vr 37), some (vr T), some (vr 32), some (vi v3), some (vi (w32 (v4 + 1))), some (vi (M 33 (M 39 v4.toNat).toNat))] M Q)
    (gIm (decide (0 ≤ v3) && decide (v3 < 10)) (gIm (decide (0 ≤ v3) && decide (v3 < 10)) (gIm (decide (0 ≤ v4) && decide (v4 < 10)) (gIm (decide (0 ≤ v4) && decide (v4 < 10)) (PW sc n1 m_X6_link 17 [] [some (vr 37), some (vr T), some (vr 32), some (vi v3), some (vi (w32 (v4 + 1))), some (vi (M 33 (M 39 v4.toNat).toNat))] (stM (stM M 40 (v3.toNat) (bOr (M 40 v3.toNat) (bShl 1 v4))) 40 (v4.toNat) (bOr ((stM M 40 (v3.toNat) (bOr (M 40 v3.toNat) (bShl 1 v4))) 40 v4.toNat) (bShl 1 v3))) Q)))))))))))) : PW sc n m_X6_link 17 [] [some (vr 37), some (vr T), some (vr 32), some (vi v3), some (vi v4), o5] M Q := by
  rcases hT with rfl | rfl <;> exact pw_go rfl (fun j => Nat.beq j 2 || Nat.beq j 17) 73 h
theorem pc_X6_fewestGhosts {sc : List Int} {n : Nat} {Q : Vv → MM → Prop}  (M : MM) (h : ∀ n1, n1 < n → PW sc n1 m_X6_fewestGhosts 4 [] [some (vr 37), some (vi 0), some (vi 0), none] M Q) : PC sc n m_X6_fewestGhosts [vr 37] M Q := pc_go rfl (fun j => Nat.beq j 4) 31 h
theorem pw_X6_fewestGhosts_4 {sc : List Int} {n : Nat} {Q : Vv → MM → Prop} (v1 : Int) (v2 : Int) (o3 : Option Vv) (M : MM) (h : ∀ n1, n1 < n → brA (decide ((bShl 1 (M 37 3)) ≤ v2))
  (Q (vi v1) M)
  (PC sc n1 m_J6_bitCount_0f7a4 [vi v2] M (cI fun r2 M1 =>
   brA (decide (r2 ≤ v1))
    (PW sc n1 m_X6_fewestGhosts 4 [] [some (vr 37), some (vi v1), some (vi (w32 (v2 + 1))), some (vi r2)] M1 Q)
    (PC sc n1 m_X6_areApart [vr 37, vi v2] M1 (cI fun r4 M3 =>
     brA (decide (r4 = 0))
      (PW sc n1 m_X6_fewestGhosts 4 [] [some (vr 37), some (vi v1), some (vi (w32 (v2 + 1))), some (vi r2)] M3 Q)
      (PW sc n1 m_X6_fewestGhosts 4 [] [some (vr 37), some (vi r2), some (vi (w32 (v2 + 1))), some (vi r2)] M3 Q)))))) : PW sc n m_X6_fewestGhosts 4 [] [some (vr 37), some (vi v1), some (vi v2), o3] M Q := pw_go rfl (fun j => Nat.beq j 4) 31 h
theorem pc_X6_areApart {sc : List Int} {n : Nat} {Q : Vv → MM → Prop} (v1 : Int) (M : MM) (h : ∀ n1, n1 < n → PW sc n1 m_X6_areApart 2 [] [some (vr 37), some (vi v1), some (vi 0)] M Q) : PC sc n m_X6_areApart [vr 37, vi v1] M Q := pc_go rfl (fun j => Nat.beq j 2) 28 h
theorem pw_X6_areApart_2 {sc : List Int} {n : Nat} {Q : Vv → MM → Prop} (v1 : Int) (v2 : Int) (M : MM) (h : ∀ n1, n1 < n → brA (decide ((M 37 3) ≤ v2))
  (Q (vi 1) M)
  (PC sc n1 m_X11_hasBit [vi v1, vi v2] M (cI fun r2 M1 =>
   brA (decide (r2 = 0))
    (PW sc n1 m_X6_areApart 2 [] [some (vr 37), some (vi v1), some (vi (w32 (v2 + 1)))] M1 Q)
    (gIm (decide (0 ≤ v2) && decide (v2 < 10)) (brA (decide ((bAnd (M1 40 v2.toNat) v1) = 0))
     (PW sc n1 m_X6_areApart 2 [] [some (vr 37), some (vi v1), some (vi (w32 (v2 + 1)))] M1 Q)
     (Q (vi 0) M1)))))) : PW sc n m_X6_areApart 2 [] [some (vr 37), some (vi v1), some (vi v2)] M Q := pw_go rfl (fun j => Nat.beq j 2) 28 h
theorem pc_X6_fromWhere {sc : List Int} {n : Nat} {T : Nat} (hT : T = 57 ∨ T = 61) {Q : Vv → MM → Prop}  (M : MM) (h : ∀ n1, n1 < n → PW sc n1 m_X6_fromWhere 2 [] [some (vr 37), some (vr T), some (vr 32), some (vi 1), none, none] M Q) : PC sc n m_X6_fromWhere [vr 37, vr T, vr 32] M Q := by
  rcases hT with rfl | rfl <;> exact pc_go rfl (fun j => Nat.beq j 2 || Nat.beq j 30 || Nat.beq j 48) 73 h
theorem pw_X6_fromWhere_2 {sc : List Int} {n : Nat} {T : Nat} (hT : T = 57 ∨ T = 61) {Q : Vv → MM → Prop} (v3 : Int) (o4 : Option Vv) (o5 : Option Vv) (M : MM) (h : ∀ n1, n1 < n → brA (decide ((M 37 3) ≤ v3))
  (PC sc n1 m_X3_measure [vr 32, vr T, vi (M 39 0)] M (fun _ M1 =>
   PW sc n1 m_X6_fromWhere 30 [] [some (vr 37), some (vr T), some (vr 32), some (vi 0), some (vi 0), o5] M1 Q))
  (gIm (decide (0 ≤ v3) && decide (v3 < 10)) (PC sc n1 m_X11_hasBit [vi (M 40 v3.toNat), vi (w32 (v3 - 1))] M (cI fun r3 M2 =>
   brA (decide (r3 ≠ 0))
    (PW sc n1 m_X6_fromWhere 2 [] [some (vr 37), some (vr T), some (vr 32), some (vi (w32 (v3 + 1))), o4, o5] M2 Q)
    (Q (vi 0) M2))))) : PW sc n m_X6_fromWhere 2 [] [some (vr 37), some (vr T), some (vr 32), some (vi v3), o4, o5] M Q := by
  rcases hT with rfl | rfl <;> exact pw_go rfl (fun j => Nat.beq j 2 || Nat.beq j 30 || Nat.beq j 48) 73 h
theorem pw_X6_fromWhere_30 {sc : List Int} {n : Nat} {T : Nat} (hT : T = 57 ∨ T = 61) {Q : Vv → MM → Prop} (v3 : Int) (v4 : Int) (o5 : Option Vv) (M : MM) (h : ∀ n1, n1 < n → brA (decide (10 ≤ v4))
  (Q (vi v3) M)
  (gIm (decide (0 ≤ v4) && decide (v4 < 10)) (brA (decide ((M ((T + 2)) v4.toNat) ≠ ((-1))))
   (gIm (decide (0 ≤ v4) && decide (v4 < 10)) (gIm (decide (0 ≤ (M ((T + 2)) v4.toNat)) && decide ((M ((T + 2)) v4.toNat) < 64)) (PW sc n1 m_X6_fromWhere 48 [vi (M 33 (M ((T + 2)) v4.toNat).toNat)] [some (vr 37), some (vr T), some (vr 32), some (vi v3), some (vi v4), o5] M Q)))
   (PW sc n1 m_X6_fromWhere 48 [vi ((-1))] [some (vr 37), some (vr T), some (vr 32), some (vi v3), some (vi v4), o5] M Q)))) : PW sc n m_X6_fromWhere 30 [] [some (vr 37), some (vr T), some (vr 32), some (vi v3), some (vi v4), o5] M Q := by
  rcases hT with rfl | rfl <;> exact pw_go rfl (fun j => Nat.beq j 2 || Nat.beq j 30 || Nat.beq j 48) 73 h
theorem pw_X6_fromWhere_48 {sc : List Int} {n : Nat} {T : Nat} (hT : T = 57 ∨ T = 61) {Q : Vv → MM → Prop} (v3 : Int) (v4 : Int) (o5 : Option Vv) (s0 : Int) (M : MM) (h : ∀ n1, n1 < n → brA (decide (s0 = ((-1))))
  (PW sc n1 m_X6_fromWhere 30 [] [some (vr 37), some (vr T), some (vr 32), some (vi v3), some (vi (w32 (v4 + 1))), some (vi s0)] M Q)
  (brA (decide ((M 38 0) < s0))
   (PW sc n1 m_X6_fromWhere 30 [] [some (vr 37), some (vr T), some (vr 32), some (vi v3), some (vi (w32 (v4 + 1))), some (vi s0)] M Q)
   (PW sc n1 m_X6_fromWhere 30 [] [some (vr 37), some (vr T), some (vr 32), some (vi (bOr v3 (bShl 1 v4))), some (vi (w32 (v4 + 1))), some (vi s0)] M Q))) : PW sc n m_X6_fromWhere 48 [vi s0] [some (vr 37), some (vr T), some (vr 32), some (vi v3), some (vi v4), o5] M Q := by
  rcases hT with rfl | rfl <;> exact pw_go rfl (fun j => Nat.beq j 2 || Nat.beq j 30 || Nat.beq j 48) 73 h
theorem pc_X12_sightings {sc : List Int} {n : Nat} {Q : Vv → MM → Prop} (v1 : Int) (v2 : Int) (M : MM) (h : ∀ n1, n1 < n → PC sc n1 m_X12_in [vi v1, vi 1, vi 10] M (cI fun r2 M1 =>
  brA (decide (r2 = 0))
   (Q (vi ((-1))) M1)
   (PC sc n1 m_X12_in [vi v2, vi 0, vi 1] M1 (cI fun r4 M3 =>
    brA (decide (r4 = 0))
     (Q (vi ((-1))) M3)
     (brA (decide ((w32 (2 * v1)) ≤ (M3 81 10)))
      (PC sc n1 m_X12_areSights [vr 81, vi v1] (stM M3 81 10 0) (cI fun r6 M5 =>
       brA (decide (r6 ≠ 0))
        (PC sc n1 m_X12_laysBoth [vr 81, vi v1] M5 (fun _ M7 =>
         brA (decide (v2 ≠ 0))
          (PC sc n1 m_X12_fromWhere [vr 81, vi v1] M7 (cI fun r9 M8 =>
           Q (vi r9) M8))
          (PC sc n1 m_X12_ghostsFor [vr 81, vi v1] M7 (cI fun r11 M10 =>
           Q (vi r11) M10))))
        (Q (vi ((-2))) M5)))
      (Q (vi ((-1))) M3)))))) : PC sc n m_X12_sightings [vr 81, vi v1, vi v2] M Q := pc_go rfl (fun j => false) 45 h
theorem pc_X12_areSights {sc : List Int} {n : Nat} {Q : Vv → MM → Prop} (v1 : Int) (M : MM) (h : ∀ n1, n1 < n → PW sc n1 m_X12_areSights 2 [] [some (vr 81), some (vi v1), some (vi 0)] M Q) : PC sc n m_X12_areSights [vr 81, vi v1] M Q := pc_go rfl (fun j => Nat.beq j 2) 64 h
theorem pw_X12_areSights_2 {sc : List Int} {n : Nat} {Q : Vv → MM → Prop} (v1 : Int) (v2 : Int) (M : MM) (h : ∀ n1, n1 < n → brA (decide (v1 ≤ v2))
  (Q (vi 1) M)
  (gIm (decide (0 ≤ (w32 ((w32 (2 * v2)) + 1))) && decide ((w32 ((w32 (2 * v2)) + 1)) < 260)) (PC sc n1 m_X12_in [vi (M 90 (w32 ((w32 (2 * v2)) + 1)).toNat), vi 0, vi 63] M (cI fun r2 M1 =>
   brA (decide (r2 = 0))
    (Q (vi 0) M1)
    (gIm (decide (0 ≤ (w32 ((w32 (2 * v2)) + 1))) && decide ((w32 ((w32 (2 * v2)) + 1)) < 260)) (gIm (decide (0 ≤ (M1 90 (w32 ((w32 (2 * v2)) + 1)).toNat)) && decide ((M1 90 (w32 ((w32 (2 * v2)) + 1)).toNat) < 64)) (brA (decide ((M1 85 (M1 90 (w32 ((w32 (2 * v2)) + 1)).toNat).toNat) ≠ 1))
     (brA (decide (v2 ≤ 0))
      (PW sc n1 m_X12_areSights 2 [] [some (vr 81), some (vi v1), some (vi (w32 (v2 + 1)))] M1 Q)
      (gIm (decide (0 ≤ (w32 (2 * v2))) && decide ((w32 (2 * v2)) < 260)) (gIm (decide (0 ≤ (w32 ((w32 (2 * v2)) - 2))) && decide ((w32 ((w32 (2 * v2)) - 2)) < 260)) (brA (decide ((bAnd (M1 90 (w32 ((w32 (2 * v2)) - 2)).toNat) 255) ≤ (bAnd (M1 90 (w32 (2 * v2)).toNat) 255)))
       (PW sc n1 m_X12_areSights 2 [] [some (vr 81), some (vi v1), some (vi (w32 (v2 + 1)))] M1 Q)
       (Q (vi 0) M1)))))
     (Q (vi 0) M1)))))))) : PW sc n m_X12_areSights 2 [] [some (vr 81), some (vi v1), some (vi v2)] M Q := pw_go rfl (fun j => Nat.beq j 2) 64 h
theorem pc_X12_laysBoth {sc : List Int} {n : Nat} {Q : Vv → MM → Prop} (v1 : Int) (M : MM) (h : ∀ n1, n1 < n → PW sc n1 m_X12_laysBoth 2 [] [some (vr 81), some (vi v1), some (vi 0), none] M Q) : PC sc n m_X12_laysBoth [vr 81, vi v1] M Q := pc_go rfl (fun j => Nat.beq j 2 || Nat.beq j 18) 74 h
theorem pw_X12_laysBoth_2 {sc : List Int} {n : Nat} {Q : Vv → MM → Prop} (v1 : Int) (v2 : Int) (o3 : Option Vv) (M : MM) (h : ∀ n1, n1 < n → brA (decide (v1 ≤ v2))
  (Q (vi 0) M)
  (gIm (decide (0 ≤ (w32 ((w32 (2 * v2)) + 1))) && decide ((w32 ((w32 (2 * v2)) + 1)) < 260)) (PC sc n1 m_X12_laysCosts [vr 81, vi (M 90 (w32 ((w32 (2 * v2)) + 1)).toNat), vi 0] M (fun _ M1 =>
   PW sc n1 m_X12_laysBoth 18 [] [some (vr 81), some (vi v1), some (vi v2), some (vi 0)] M1 Q)))) : PW sc n m_X12_laysBoth 2 [] [some (vr 81), some (vi v1), some (vi v2), o3] M Q := pw_go rfl (fun j => Nat.beq j 2 || Nat.beq j 18) 74 h
theorem pw_X12_laysBoth_18 {sc : List Int} {n : Nat} {Q : Vv → MM → Prop} (v1 : Int) (v2 : Int) (v3 : Int) (M : MM) (h : ∀ n1, n1 < n → brA (decide (v1 ≤ v3))
  (PW sc n1 m_X12_laysBoth 2 [] [some (vr 81), some (vi v1), some (vi (w32 (v2 + 1))), some (vi v3)] M Q)
  (brA (decide (v3 ≤ v2))
   (gIm (decide (0 ≤ (w32 ((w32 (10 * v2)) + v3))) && (decide ((w32 ((w32 (10 * v2)) + v3)) < 100) && (decide (0 = 0) || decide (0 = 1)))) (PW sc n1 m_X12_laysBoth 18 [] [some (vr 81), some (vi v1), some (vi v2), some (vi (w32 (v3 + 1)))] (stM M 115 ((w32 ((w32 (10 * v2)) + v3)).toNat) 0) Q))
   (gIm (decide (0 ≤ (w32 ((w32 (2 * v3)) + 1))) && decide ((w32 ((w32 (2 * v3)) + 1)) < 260)) (gIm (decide (0 ≤ (M 90 (w32 ((w32 (2 * v3)) + 1)).toNat)) && decide ((M 90 (w32 ((w32 (2 * v3)) + 1)).toNat) < 64)) (gIm (decide (0 ≤ (w32 (2 * v3))) && decide ((w32 (2 * v3)) < 260)) (gIm (decide (0 ≤ (w32 (2 * v2))) && decide ((w32 (2 * v2)) < 260)) (brA (decide ((w32 ((bAnd (M 90 (w32 (2 * v3)).toNat) 255) - (bAnd (M 90 (w32 (2 * v2)).toNat) 255))) < (M 114 (M 90 (w32 ((w32 (2 * v3)) + 1)).toNat).toNat)))
    (gIm (decide (0 ≤ (w32 ((w32 (10 * v2)) + v3))) && (decide ((w32 ((w32 (10 * v2)) + v3)) < 100) && (decide (0 = 0) || decide (0 = 1)))) (PW sc n1 m_X12_laysBoth 18 [] [some (vr 81), some (vi v1), some (vi v2), some (vi (w32 (v3 + 1)))] (stM M 115 ((w32 ((w32 (10 * v2)) + v3)).toNat) 0) Q))
    (gIm (decide (0 ≤ (w32 ((w32 (10 * v2)) + v3))) && (decide ((w32 ((w32 (10 * v2)) + v3)) < 100) && (decide (1 = 0) || decide (1 = 1)))) (PW sc n1 m_X12_laysBoth 18 [] [some (vr 81), some (vi v1), some (vi v2), some (vi (w32 (v3 + 1)))] (stM M 115 ((w32 ((w32 (10 * v2)) + v3)).toNat) 1) Q))))))))) : PW sc n m_X12_laysBoth 18 [] [some (vr 81), some (vi v1), some (vi v2), some (vi v3)] M Q := pw_go rfl (fun j => Nat.beq j 2 || Nat.beq j 18) 74 h
theorem pc_X12_areApart {sc : List Int} {n : Nat} {Q : Vv → MM → Prop} (v1 : Int) (v2 : Int) (M : MM) (h : ∀ n1, n1 < n → PW sc n1 m_X12_areApart 2 [] [some (vr 81), some (vi v1), some (vi v2), some (vi 0), none] M Q) : PC sc n m_X12_areApart [vr 81, vi v1, vi v2] M Q := pc_go rfl (fun j => Nat.beq j 2 || Nat.beq j 9) 42 h
theorem pw_X12_areApart_2 {sc : List Int} {n : Nat} {Q : Vv → MM → Prop} (v1 : Int) (v2 : Int) (v3 : Int) (o4 : Option Vv) (M : MM) (h : ∀ n1, n1 < n → brA (decide (v2 ≤ v3))
  (Q (vi 1) M)
  (PW sc n1 m_X12_areApart 9 [] [some (vr 81), some (vi v1), some (vi v2), some (vi v3), some (vi (w32 (v3 + 1)))] M Q)) : PW sc n m_X12_areApart 2 [] [some (vr 81), some (vi v1), some (vi v2), some (vi v3), o4] M Q := pw_go rfl (fun j => Nat.beq j 2 || Nat.beq j 9) 42 h
theorem pw_X12_areApart_9 {sc : List Int} {n : Nat} {Q : Vv → MM → Prop} (v1 : Int) (v2 : Int) (v3 : Int) (v4 : Int) (M : MM) (h : ∀ n1, n1 < n → brA (decide (v2 ≤ v4))
  (PW sc n1 m_X12_areApart 2 [] [some (vr 81), some (vi v1), some (vi v2), some (vi (w32 (v3 + 1))), some (vi v4)] M Q)
  (PC sc n1 m_X12_has [vi v1, vi v3] M (cI fun r2 M1 =>
   brA (decide (r2 = 0))
    (PW sc n1 m_X12_areApart 9 [] [some (vr 81), some (vi v1), some (vi v2), some (vi v3), some (vi (w32 (v4 + 1)))] M1 Q)
    (PC sc n1 m_X12_has [vi v1, vi v4] M1 (cI fun r4 M3 =>
     brA (decide (r4 = 0))
      (PW sc n1 m_X12_areApart 9 [] [some (vr 81), some (vi v1), some (vi v2), some (vi v3), some (vi (w32 (v4 + 1)))] M3 Q)
      (gIm (decide (0 ≤ (w32 ((w32 (10 * v3)) + v4))) && decide ((w32 ((w32 (10 * v3)) + v4)) < 100)) (brA (decide ((M3 115 (w32 ((w32 (10 * v3)) + v4)).toNat) = 0))
       (PW sc n1 m_X12_areApart 9 [] [some (vr 81), some (vi v1), some (vi v2), some (vi v3), some (vi (w32 (v4 + 1)))] M3 Q)
       (Q (vi 0) M3)))))))) : PW sc n m_X12_areApart 9 [] [some (vr 81), some (vi v1), some (vi v2), some (vi v3), some (vi v4)] M Q := pw_go rfl (fun j => Nat.beq j 2 || Nat.beq j 9) 42 h
theorem pc_X12_ghostsFor {sc : List Int} {n : Nat} {Q : Vv → MM → Prop} (v1 : Int) (M : MM) (h : ∀ n1, n1 < n → PW sc n1 m_X12_ghostsFor 4 [] [some (vr 81), some (vi v1), some (vi 0), some (vi 1)] M Q) : PC sc n m_X12_ghostsFor [vr 81, vi v1] M Q := pc_go rfl (fun j => Nat.beq j 4) 30 h
theorem pw_X12_ghostsFor_4 {sc : List Int} {n : Nat} {Q : Vv → MM → Prop} (v1 : Int) (v2 : Int) (v3 : Int) (M : MM) (h : ∀ n1, n1 < n → brA (decide ((bShl 1 v1) ≤ v3))
  (Q (vi v2) M)
  (PC sc n1 m_X12_bits [vi v3] M (cI fun r2 M1 =>
   brA (decide (r2 ≤ v2))
    (PW sc n1 m_X12_ghostsFor 4 [] [some (vr 81), some (vi v1), some (vi v2), some (vi (w32 (v3 + 1)))] M1 Q)
    (PC sc n1 m_X12_areApart [vr 81, vi v3, vi v1] M1 (cI fun r4 M3 =>
     brA (decide (r4 = 0))
      (PW sc n1 m_X12_ghostsFor 4 [] [some (vr 81), some (vi v1), some (vi v2), some (vi (w32 (v3 + 1)))] M3 Q)
      (PC sc n1 m_X12_bits [vi v3] M3 (cI fun r6 M5 =>
       PW sc n1 m_X12_ghostsFor 4 [] [some (vr 81), some (vi v1), some (vi r6), some (vi (w32 (v3 + 1)))] M5 Q))))))) : PW sc n m_X12_ghostsFor 4 [] [some (vr 81), some (vi v1), some (vi v2), some (vi v3)] M Q := pw_go rfl (fun j => Nat.beq j 4) 30 h
theorem pc_X12_fromWhere {sc : List Int} {n : Nat} {Q : Vv → MM → Prop} (v1 : Int) (M : MM) (h : ∀ n1, n1 < n → PW sc n1 m_X12_fromWhere 2 [] [some (vr 81), some (vi v1), some (vi 0), none] M Q) : PC sc n m_X12_fromWhere [vr 81, vi v1] M Q := pc_go rfl (fun j => Nat.beq j 2 || Nat.beq j 33) 69 h
theorem pw_X12_fromWhere_2 {sc : List Int} {n : Nat} {Q : Vv → MM → Prop} (v1 : Int) (v2 : Int) (o3 : Option Vv) (M : MM) (h : ∀ n1, n1 < n → brA (decide (v1 ≤ (w32 (v2 + 1))))
  (PC sc n1 m_X12_laysCosts [vr 81, vi (M 90 1), vi 0] M (fun _ M1 =>
   PW sc n1 m_X12_fromWhere 33 [] [some (vr 81), some (vi v1), some (vi 0), some (vi 0)] M1 Q))
  (gIm (decide (0 ≤ (w32 ((w32 ((w32 (10 * v2)) + v2)) + 1))) && decide ((w32 ((w32 ((w32 (10 * v2)) + v2)) + 1)) < 100)) (brA (decide ((M 115 (w32 ((w32 ((w32 (10 * v2)) + v2)) + 1)).toNat) ≠ 0))
   (PW sc n1 m_X12_fromWhere 2 [] [some (vr 81), some (vi v1), some (vi (w32 (v2 + 1))), o3] M Q)
   (Q (vi 0) M)))) : PW sc n m_X12_fromWhere 2 [] [some (vr 81), some (vi v1), some (vi v2), o3] M Q := pw_go rfl (fun j => Nat.beq j 2 || Nat.beq j 33) 69 h
theorem pw_X12_fromWhere_33 {sc : List Int} {n : Nat} {Q : Vv → MM → Prop} (v1 : Int) (v2 : Int) (v3 : Int) (M : MM) (h : ∀ n1, n1 < n → brA (decide (10 ≤ v3))
  (Q (vi v2) M)
  (PC sc n1 m_X12_hasSpot [vr 81, vi v3] M (cI fun r2 M1 =>
   brA (decide (r2 = 0))
    (PW sc n1 m_X12_fromWhere 33 [] [some (vr 81), some (vi v1), some (vi v2), some (vi (w32 (v3 + 1)))] M1 Q)
    (gIm (decide (0 ≤ v3) && decide (v3 < 10)) (gIm (decide (0 ≤ (M1 86 v3.toNat)) && decide ((M1 86 v3.toNat) < 64)) (brA (decide ((bAnd (M1 90 0) 255) < (M1 114 (M1 86 v3.toNat).toNat)))
     (PW sc n1 m_X12_fromWhere 33 [] [some (vr 81), some (vi v1), some (vi v2), some (vi (w32 (v3 + 1)))] M1 Q)
     (PW sc n1 m_X12_fromWhere 33 [] [some (vr 81), some (vi v1), some (vi (bOr v2 (bShl 1 v3))), some (vi (w32 (v3 + 1)))] M1 Q))))))) : PW sc n m_X12_fromWhere 33 [] [some (vr 81), some (vi v1), some (vi v2), some (vi v3)] M Q := pw_go rfl (fun j => Nat.beq j 2 || Nat.beq j 33) 69 h
def z0 (_ : Nat) : Int := 0
def rchB (F : Nat → Int) (s : Nat) : Int := if F s = -1 then 0 else 1
/- the class's search for the fewest STEPS -/
def bfI (K : Nat → Int) (a i j n : Nat) (F Ln : Nat → Int) : Prop := F a = 0 ∧ (∀ s, s < 64 → F s = -1 ∨ (0 ≤ F s ∧ ∃ m, rcW K z0 a 0 m s (F s))) ∧ (∀ k, k < n → (0 ≤ Ln k ∧ Ln k ≤ 63) ∧ 0 ≤ F (Ln k).toNat ∧ F (Ln k).toNat ≤ (k : Int)) ∧ (∀ s, s < 64 → 0 ≤ F s → ∃ k, k < n ∧ Ln k = (s : Int)) ∧ (∀ k l, k ≤ l → l < n → F (Ln k).toNat ≤ F (Ln l).toNat) ∧ (i < n → ∀ k, k < n → F (Ln k).toNat ≤ F (Ln i).toNat + 1) ∧ (∀ k w : Nat, k < n → w < 4 → (k < i ∨ (k = i ∧ w < j)) → 0 ≤ F (stpV K (Ln k) (w : Int)).toNat ∧ F (stpV K (Ln k) (w : Int)).toNat ≤ F (Ln k).toNat + 1) ∧ clN (rchB F) 64 = n ∧ n ≤ 64
theorem bf_no {K : Nat → Int} {a i j n p : Nat} {F Ln : Nat → Int} (I : bfI K a i j n F Ln) (hi : i < n) (hp : (stpV K (Ln i) (j : Int)).toNat = p) (hp64 : p < 64) (h : F p ≠ -1) : bfI K a i (j + 1) n F Ln := by
  obtain ⟨b1, b2, b3, b4, b5, b6, b7, b8, b9⟩ := I
  refine ⟨b1, b2, b3, b4, b5, b6, fun k w hk hw q => ?_, b8, b9⟩
  by_cases z : k = i ∧ w = j
  · obtain ⟨z1, z2⟩ := z
    subst z1 z2
    rw [hp]
    have h0 : 0 ≤ F p := by
      rcases b2 p hp64 with e | ⟨e, -⟩
      · exact absurd e h
      · exact e
    obtain ⟨l, hl, el⟩ := b4 p hp64 h0
    have y := b6 hi l hl
    rw [el, show ((p : Int)).toNat = p by omega] at y
    exact ⟨h0, y⟩
  · exact b7 k w hk hw (by omega)
theorem bf_lt {K : Nat → Int} {a i j n p : Nat} {F Ln : Nat → Int} (I : bfI K a i j n F Ln) (hp64 : p < 64) (h : F p = -1) : n < 64 := by
  have z := clN_lt (f := rchB F) hp64 (by unfold rchB; rw [if_pos h]; decide)
  rw [I.2.2.2.2.2.2.2.1] at z
  exact z
theorem bf_st {K : Nat → Int} {a i j n p : Nat} {F Ln F' Ln' : Nat → Int} (I : bfI K a i j n F Ln) (hi : i < n) (hj : j < 4) (hp : (stpV K (Ln i) (j : Int)).toNat = p) (hp64 : p < 64) (h : F p = -1) (e : F' p = F (Ln i).toNat + 1) (o : ∀ s, s ≠ p → F' s = F s) (eL : Ln' n = (p : Int)) (oL : ∀ k, k ≠ n → Ln' k = Ln k) : bfI K a i (j + 1) (n + 1) F' Ln' := by
  have hn := bf_lt I hp64 h
  obtain ⟨b1, b2, b3, b4, b5, b6, b7, b8, b9⟩ := I
  have fu := b3 i hi
  have np : ∀ k, k < n → (Ln k).toNat ≠ p := fun k hk z => by
    have := (b3 k hk).2.1
    rw [z, h] at this
    omega
  have oF : ∀ k, k < n → F' (Ln' k).toNat = F (Ln k).toNat := fun k hk => by rw [oL k (by omega), o _ (np k hk)]
  have eF : F' (Ln' n).toNat = F (Ln i).toNat + 1 := by rw [eL, show ((p : Int)).toNat = p by omega, e]
  refine ⟨by rw [o a fun z => by subst z; omega]; exact b1, fun s hs => ?_, fun k hk => ?_, fun s hs h0 => ?_, fun k l hkl hl => ?_, fun _ k hk => ?_, fun k w hk hw q => ?_, ?_, by omega⟩
  · by_cases z : s = p
    · subst z
      right
      rw [e]
      refine ⟨by omega, ?_⟩
      rcases b2 (Ln i).toNat (by omega) with y | ⟨-, m, hm⟩
      · omega
      · refine ⟨m + 1, (Ln i).toNat, j, _, hm, by omega, hj, ?_, ?_⟩
        · rw [show (((Ln i).toNat : Nat) : Int) = Ln i by omega]
          exact hp
        · show _ = F (Ln i).toNat + 0 + 1
          omega
    · rw [o s z]
      exact b2 s hs
  · by_cases z : k = n
    · subst z
      rw [eF, eL]
      omega
    · rw [oF k (by omega), oL k z]
      exact b3 k (by omega)
  · by_cases z : s = p
    · subst z
      exact ⟨n, by omega, eL⟩
    · rw [o s z] at h0
      obtain ⟨k, hk, ek⟩ := b4 s hs h0
      exact ⟨k, by omega, by rw [oL k (by omega)]; exact ek⟩
  · by_cases z : l = n
    · subst z
      by_cases y : k = l
      · subst y
        exact Int.le_refl _
      · rw [eF, oF k (by omega)]
        exact b6 hi k (by omega)
    · rw [oF l (by omega), oF k (by omega)]
      exact b5 k l hkl (by omega)
  · rw [oF i hi]
    by_cases z : k = n
    · subst z
      rw [eF]
      exact Int.le_refl _
    · rw [oF k (by omega)]
      exact b6 hi k (by omega)
  · have hk2 : k < n := by omega
    rw [oF k hk2, oL k (by omega)]
    by_cases z : k = i ∧ w = j
    · obtain ⟨z1, z2⟩ := z
      subst z1 z2
      rw [hp, e]
      omega
    · have y := b7 k w hk2 hw (by omega)
      rw [o _ fun z => by rw [z, h] at y; omega]
      exact y
  · rw [clN_st (f := rchB F) (g := rchB F') (u := p) (by unfold rchB; rw [if_pos h]; decide) (by unfold rchB; rw [if_neg (by omega)]) (fun s hs => by unfold rchB; rw [o s hs]) 64, b8, if_pos hp64]
theorem bf_nx {K : Nat → Int} {a i n : Nat} {F Ln : Nat → Int} (I : bfI K a i 4 n F Ln) (hi : i < n) : bfI K a (i + 1) 0 n F Ln := by
  obtain ⟨b1, b2, b3, b4, b5, b6, b7, b8, b9⟩ := I
  refine ⟨b1, b2, b3, b4, b5, fun h k hk => ?_, fun k w hk hw q => b7 k w hk hw (by omega), b8, b9⟩
  have y := b6 hi k hk
  have z := b5 i (i + 1) (by omega) h
  omega
theorem bf_lc {K : Nat → Int} {a i n : Nat} {F Ln : Nat → Int} (I : bfI K a i 0 n F Ln) (hi : n ≤ i) : lcR K z0 a 0 F ∧ ∀ s, s < 64 → -1 ≤ F s ∧ F s ≤ 63 := by
  obtain ⟨b1, b2, b3, b4, b5, b6, b7, b8, b9⟩ := I
  refine ⟨⟨by rw [b1]; decide, fun s w hs hw h0 => ?_, b2⟩, fun s hs => ?_⟩
  · obtain ⟨k, hk, ek⟩ := b4 s hs h0
    have y := b7 k w hk hw (.inl (by omega))
    rw [ek, show ((s : Int)).toNat = s by omega] at y
    show 0 ≤ F (stpV K (s : Int) (w : Int)).toNat ∧ F (stpV K (s : Int) (w : Int)).toNat ≤ F s + 0 + 1
    omega
  · rcases b2 s hs with y | ⟨y, -⟩
    · omega
    · obtain ⟨k, hk, ek⟩ := b4 s hs y
      have z := (b3 k hk).2.2
      rw [ek, show ((s : Int)).toNat = s by omega] at z
      omega
section SGQ
variable {sc : List Int} {Q : Vv → MM → Prop} {L T : Nat}
set_option maxRecDepth 20000 in
theorem f_measureC (hT : T = 57 ∨ T = 61) {K : Nat → Int} {M : MM} (hK : ∀ j, j < 64 → M (T + 1) j = K j) {a : Nat} (ha : a < 64) {n : Nat} (k : ∀ (M1 : MM) (C : Nat → Int), (∀ c, c ≠ 33 → c ≠ 36 → M1 c = M c) → lcR K z0 a 0 C → (∀ s, s < 64 → M1 33 s = C s ∧ -1 ≤ C s ∧ C s ≤ 63) → Q (vi 0) M1) : PC sc n m_X3_measure [vr 32, vr T, vi (a : Int)] M Q := by
  have fin : ∀ (i n : Nat) (M1 : MM), n ≤ i → (∀ c, c ≠ 33 → c ≠ 36 → M1 c = M c) → bfI K a i 0 n (M1 33) (M1 36) → Q (vi 0) M1 := fun i n M1 hi F I => k M1 (M1 33) F (bf_lc I hi).1 fun s hs => ⟨rfl, (bf_lc I hi).2 s hs⟩
  have l26 : ∀ (m i sz n : Nat) (o5 o6 : Option Vv) (M1 : MM), i + m = 65 → (∀ c, c ≠ 33 → c ≠ 36 → M1 c = M c) → bfI K a i 0 sz (M1 33) (M1 36) → PW sc n m_X3_measure 26 [] [some (vr 32), some (vr T), some (vi (a : Int)), some (vi (sz : Int)), some (vi (i : Int)), o5, o6] M1 Q := by
    intro m
    induction m with
    | zero =>
      intro i sz n o5 o6 M1 hi F I
      have := I.2.2.2.2.2.2.2.2
      exact pw_X3_measure_26 hT _ _ _ _ _ M1 fun n1 _ => brT (by omega) (fin i sz M1 (by omega) F I)
    | succ m ih =>
      intro i sz n o5 o6 M1 hi F I
      have h64 := I.2.2.2.2.2.2.2.2
      refine pw_X3_measure_26 hT _ _ _ _ _ M1 fun n1 _ => brP (fun h => fin i sz M1 (by omega) F I) fun h => brP (fun h2 => fin i sz M1 (by omega) F I) fun h2 => ?_
      have l34 : ∀ (q j sz n : Nat) (o6 : Option Vv) (M2 : MM), j + q = 4 → i < sz → (∀ c, c ≠ 33 → c ≠ 36 → M2 c = M c) → bfI K a i j sz (M2 33) (M2 36) → PW sc n m_X3_measure 34 [] [some (vr 32), some (vr T), some (vi (a : Int)), some (vi (sz : Int)), some (vi (i : Int)), some (vi (j : Int)), o6] M2 Q := by
        intro q
        induction q with
        | zero =>
          intro j sz n o6 M2 hj hs F2 I2
          have hj : j = 4 := hj
          subst hj
          refine pw_X3_measure_34 hT _ _ _ _ _ M2 fun n1 _ => brT (by decide) ?_
          rw [show w32 ((i : Int) + 1) = ((i + 1 : Nat) : Int) from ew32 (by omega) (by omega)]
          exact ih (i + 1) sz n1 _ _ M2 (by omega) F2 (bf_nx I2 hs)
        | succ q ihq =>
          intro j sz n o6 M2 hj hs F2 I2
          have h64 := I2.2.2.2.2.2.2.2.2
          have hl := I2.2.2.1 i hs
          refine pw_X3_measure_34 hT _ _ _ _ _ M2 fun n1 _ => brF (by omega) (gMB ?_)
          rw [show ((i : Int)).toNat = i by omega, show w32 ((j : Int) + 1) = ((j + 1 : Nat) : Int) from ew32 (by omega) (by omega)]
          refine f_after hT hl.1 ⟨by omega, by omega⟩ (cI_i ?_)
          have hp : 0 ≤ stpV K (M2 36 i) (j : Int) ∧ stpV K (M2 36 i) (j : Int) ≤ 63 := stpV_r hl.1
          obtain ⟨p, hpe⟩ : ∃ p : Nat, stpV K (M2 36 i) (j : Int) = (p : Int) := ⟨(stpV K (M2 36 i) (j : Int)).toNat, by omega⟩
          have eK : stpV (M2 (T + 1)) (M2 36 i) (j : Int) = (p : Int) := by
            rw [F2 (T + 1) (by omega) (by omega), stpV_K hK]
            exact hpe
          have hpt : (stpV K (M2 36 i) (j : Int)).toNat = p := by omega
          have hp64 : p < 64 := by omega
          rw [eK, show ((p : Int)).toNat = p by omega]
          refine gMB (brP (fun c => ihq (j + 1) sz n1 _ M2 (by omega) hs F2 (bf_no I2 hs hpt hp64 c)) fun c => ?_)
          have c := Classical.not_not.mp c
          have hlt := bf_lt I2 hp64 c
          refine brF (by omega) (gMB (gMB (gMB (gMB ?_))))
          rw [show w32 ((sz : Int) + 1) = ((sz + 1 : Nat) : Int) from ew32 (by omega) (by omega), show ((sz : Int)).toNat = sz by omega, show w32 (M2 33 (M2 36 i).toNat + 1) = M2 33 (M2 36 i).toNat + 1 from ew32 (by omega) (by omega)]
          refine ihq (j + 1) (sz + 1) n1 _ _ (by omega) (by omega) (fun c c1 c2 => (stK c2).trans ((stK c1).trans (F2 c c1 c2))) ?_
          rw [show ∀ v w : Int, stM (stM M2 33 p v) 36 sz w 33 = stM M2 33 p v 33 from fun v w => stK (by decide)]
          refine bf_st I2 hs (by omega) hpt hp64 c stE (fun s hs => stO hs) stE fun k hk => ?_
          rw [stO hk, stK (by decide)]
      exact l34 4 0 sz n1 _ M1 rfl (by omega) F I
  have l2 : ∀ (m s n : Nat) (o4 o5 o6 : Option Vv) (M1 : MM), s + m = 64 → (∀ c, c ≠ 33 → c ≠ 36 → M1 c = M c) → (∀ j, j < s → M1 33 j = -1) → PW sc n m_X3_measure 2 [] [some (vr 32), some (vr T), some (vi (a : Int)), some (vi (s : Int)), o4, o5, o6] M1 Q := by
    intro m
    induction m with
    | zero =>
      intro s n o4 o5 o6 M1 hs F e
      have hs : s = 64 := hs
      subst hs
      refine pw_X3_measure_2 hT _ _ _ _ _ M1 fun n1 _ => brT (by decide) (gMB ?_)
      rw [show ((a : Int)).toNat = a by omega]
      refine l26 65 0 1 n1 _ _ _ rfl (fun c c1 c2 => (stK c2).trans ((stK c1).trans (F c c1 c2))) ?_
      have e33 : stM (stM M1 33 a 0) 36 0 (a : Int) 33 = stM M1 33 a 0 33 := stK (by decide)
      have e0 : stM (stM M1 33 a 0) 36 0 (a : Int) 36 0 = (a : Int) := stE
      have ea : stM M1 33 a 0 33 a = 0 := stE
      have eo : ∀ j, j ≠ a → j < 64 → stM M1 33 a 0 33 j = -1 := fun j h1 h2 => (stO h1).trans (e j h2)
      rw [e33]
      refine ⟨ea, fun s hs => ?_, fun k hk => ?_, fun s hs h0 => ⟨0, by decide, ?_⟩, fun k l hkl hl => ?_, fun _ k hk => ?_, fun k w hk hw q => by omega, ?_, by decide⟩
      · by_cases z : s = a
        · subst z
          rw [ea]
          exact .inr ⟨by decide, 0, rfl, rfl⟩
        · exact .inl (eo s z hs)
      · have hk : k = 0 := by omega
        subst hk
        rw [e0, show ((a : Int)).toNat = a by omega, ea]
        omega
      · by_cases z : s = a
        · subst z
          exact e0
        · have := eo s z hs
          omega
      · rw [show k = l by omega]
        exact Int.le_refl _
      · have hk : k = 0 := by omega
        subst hk
        omega
      · have z := clN_st (f := fun _ => 0) (g := rchB (stM M1 33 a 0 33)) (u := a) (by decide) (by unfold rchB; rw [ea, if_neg (by decide)])
        have y := clN_0 (f := fun _ => (0 : Int)) 64 (fun _ _ => by decide)
        have x : ∀ n, n ≤ 64 → clN (rchB (stM M1 33 a 0 33)) n = if a < n then 1 else 0 := by
          intro n
          induction n with
          | zero => intro _; rfl
          | succ n ihn =>
            intro hn
            rw [clN_s, ihn (by omega)]
            by_cases q : n = a
            · subst q
              have : rchB (stM M1 33 n 0 33) n = 1 := by unfold rchB; rw [ea, if_neg (by decide)]
              rw [if_pos this, if_neg (Nat.lt_irrefl n), if_pos (Nat.lt_succ_self n)]
            · have : rchB (stM M1 33 a 0 33) n = 0 := by unfold rchB; rw [eo n q (by omega), if_pos rfl]
              rw [this, if_neg (show ¬ (0 : Int) = 1 by decide)]
              by_cases r : a < n
              · rw [if_pos r, if_pos (show a < n + 1 by omega)] <;> rfl
              · rw [if_neg r, if_neg (show ¬ a < n + 1 by omega)] <;> rfl
        rw [x 64 (Nat.le_refl _), if_pos ha]
    | succ m ih =>
      intro s n o4 o5 o6 M1 hs F e
      refine pw_X3_measure_2 hT _ _ _ _ _ M1 fun n1 _ => brF (by omega) (gMB ?_)
      rw [show ((s : Int)).toNat = s by omega, show w32 ((s : Int) + 1) = ((s + 1 : Nat) : Int) from ew32 (by omega) (by omega)]
      refine ih (s + 1) n1 _ _ _ _ (by omega) (fun c c1 c2 => (stK c1).trans (F c c1 c2)) fun j hj => ?_
      by_cases q : j = s
      · subst q
        exact stE
      · rw [stO q]
        exact e j (by omega)
  exact pc_X3_measure hT _ M fun n1 _ => l2 64 0 n1 none none none M rfl (fun _ _ _ => rfl) fun j hj => absurd hj (Nat.not_lt_zero j)
end SGQ
/-! what the sightings say -/
abbrev sgT (t : Nat → Int) (i : Nat) : Int := t (2 * i)
abbrev sgS (t : Nat → Int) (i : Nat) : Int := t (2 * i + 1)
/- they can stand -/
def sgG (K t : Nat → Int) (n : Nat) : Prop := ∀ k, k < n → (sgS t k ≤ 63 ∧ K (sgS t k).toNat ≠ 1) ∧ (0 < k → sgT t (k - 1) ≤ sgT t k)
/- one ghost can make both -/
def cbP (K t : Nat → Int) (i j : Nat) : Prop := ∃ C : Nat → Int, lcR K z0 (sgS t i).toNat 0 C ∧ 0 ≤ C (sgS t j).toNat ∧ C (sgS t j).toNat ≤ sgT t j - sgT t i
theorem cbP_iff {K t : Nat → Int} {i j : Nat} {C : Nat → Int} (hC : lcR K z0 (sgS t i).toNat 0 C) (hj : (sgS t j).toNat < 64) : cbP K t i j ↔ 0 ≤ C (sgS t j).toNat ∧ C (sgS t j).toNat ≤ sgT t j - sgT t i := by
  constructor
  · intro ⟨E, e1, e2⟩
    rw [lcR_eq rfl hC e1 _ hj]
    exact e2
  · exact fun h => ⟨C, hC, h⟩
/- none two of a set can be one ghost's -/
def apP (K t : Nat → Int) (n : Nat) (s : Nat) : Prop := ∀ i j : Nat, i < j → j < n → bit (s : Int) i = true → bit (s : Int) j = true → ¬ cbP K t i j
noncomputable def ghV (ap : Nat → Prop) (m s : Nat) (most : Int) : Int := match m with
  | 0 => most
  | m + 1 => @ite _ (most < bsum (s : Int) 10 ∧ ap s) (Classical.propDecidable _) (ghV ap m (s + 1) (bsum (s : Int) 10)) (ghV ap m (s + 1) most)
theorem ghV_t {ap : Nat → Prop} {m s : Nat} {most : Int} (h : most < bsum (s : Int) 10 ∧ ap s) : ghV ap (m + 1) s most = ghV ap m (s + 1) (bsum (s : Int) 10) := @if_pos _ (Classical.propDecidable _) h _ _ _
theorem ghV_f {ap : Nat → Prop} {m s : Nat} {most : Int} (h : ¬ (most < bsum (s : Int) 10 ∧ ap s)) : ghV ap (m + 1) s most = ghV ap m (s + 1) most := @if_neg _ (Classical.propDecidable _) h _ _ _
noncomputable def dcB (p : Prop) : Bool := @decide p (Classical.propDecidable p)
theorem dcB_t {p : Prop} (h : p) : dcB p = true := @decide_eq_true p (Classical.propDecidable p) h
theorem dcB_f {p : Prop} (h : ¬ p) : dcB p = false := @decide_eq_false p (Classical.propDecidable p) h
/- a house from which one ghost can have come -/
def fwP (M : MM) (K t : Nat → Int) (h : Nat) : Prop := 0 ≤ M 86 h ∧ ∃ C : Nat → Int, lcR K z0 (sgS t 0).toNat 0 C ∧ 0 ≤ C (M 86 h).toNat ∧ C (M 86 h).toNat ≤ sgT t 0
noncomputable def sgV2 (M : MM) (t : Nat → Int) (n : Nat) (w : Int) : Int := @ite _ (sgG (M 85) t n) (Classical.propDecidable _) (if w = 0 then ghV (apP (M 85) t n) (2 ^ n - 1) 1 0 else @ite _ (∀ k, k + 1 < n → cbP (M 85) t k (k + 1)) (Classical.propDecidable _) (sbV (fun h => dcB (fwP M (M 85) t h)) 10 0 0) 0) (-2)
theorem sgV2_no {M : MM} {t : Nat → Int} {n : Nat} {w : Int} (h : ¬ sgG (M 85) t n) : sgV2 M t n w = -2 := @if_neg _ (Classical.propDecidable _) h _ _ _
theorem sgV2_go {M : MM} {t : Nat → Int} {n : Nat} {w : Int} (h : sgG (M 85) t n) : sgV2 M t n w = if w = 0 then ghV (apP (M 85) t n) (2 ^ n - 1) 1 0 else @ite _ (∀ k, k + 1 < n → cbP (M 85) t k (k + 1)) (Classical.propDecidable _) (sbV (fun h => dcB (fwP M (M 85) t h)) 10 0 0) 0 := @if_pos _ (Classical.propDecidable _) h _ _ _
theorem sgV2_up {M M1 : MM} (u : UpX M M1) (t : Nat → Int) (n : Nat) (w : Int) : sgV2 M1 t n w = sgV2 M t n w := by
  unfold sgV2 fwP
  rw [u.f 85 (by decide), u.f 86 (by decide)]
theorem shl_p : ∀ n : Nat, n < 11 → bShl 1 (n : Int) = ((2 ^ n : Nat) : Int) := by decide +kernel
theorem p2_r : ∀ n : Nat, n < 11 → 1 ≤ 2 ^ n ∧ 2 ^ n ≤ 1024 := by decide +kernel
theorem and0 {x y : Int} (hx : 0 ≤ x ∧ x < 1024) : bAnd x y = 0 ↔ ∀ b, b < 10 → ¬ (bit x b = true ∧ bit y b = true) := by
  have r := fbAndL y hx.1 (show x ≤ 1023 by omega) (by decide)
  constructor
  · intro e b hb ⟨z1, z2⟩
    have : bit (bAnd x y) b = true := by rw [bit_and, z1, z2]; rfl
    rw [e, bit_zero] at this
    cases this
  · intro h
    refine bit_ext ⟨r.1, by omega⟩ (by decide) fun b hb => ?_
    rw [bit_zero, bit_and]
    cases e1 : bit x b
    · rfl
    · cases e2 : bit y b
      · rfl
      · exact absurd ⟨e1, e2⟩ (h b hb)
section SGR
variable {sc : List Int} {Q : Vv → MM → Prop} {L T : Nat}
set_option maxRecDepth 20000 in
theorem f_readS (hT : T = 57 ∨ T = 61) {K t : Nat → Int} {M : MM} (hK : ∀ j, j < 64 → M (T + 1) j = K j) (ht : ∀ i, M 2 i = t i) (h0 : ∀ i, 0 ≤ t i) {nn : Nat} (hn : nn ≤ 10) (hs : 2 * (nn : Int) ≤ M 1 1) {n : Nat} (k0 : ¬ sgG K t nn → ∀ M1, (∀ c, (c < 37 ∨ 40 < c) → M1 c = M c) → ∀ x : Int, x = 0 → Q (vi x) M1) (k1 : sgG K t nn → ∀ M1, (∀ c, (c < 37 ∨ 40 < c) → M1 c = M c) → M1 37 3 = (nn : Int) → (∀ i, i < nn → M1 38 i = sgT t i ∧ M1 39 i = sgS t i ∧ M1 40 i = 0) → ∀ x : Int, x = 1 → Q (vi x) M1) : PC sc n m_X6_read [vr 37, vr 1, vi (nn : Int), vr T] M Q := by
  have lp : ∀ (m i n : Nat) (M1 : MM), i + m = nn → (∀ c, (c < 37 ∨ 40 < c) → M1 c = M c) → M1 37 3 = (nn : Int) → (∀ a, a < i → M1 38 a = sgT t a ∧ M1 39 a = sgS t a ∧ M1 40 a = 0) → sgG K t i → PW sc n m_X6_read 5 [] [some (vr 37), some (vr 1), some (vi (nn : Int)), some (vr T), some (vi (i : Int))] M1 Q := by
    intro m
    induction m with
    | zero =>
      intro i n M1 hi F e3 e G
      have hi : i = nn := hi
      subst hi
      exact pw_X6_read_5 hT _ _ M1 fun n1 _ => brT (Int.le_refl _) (k1 G M1 F e3 e 1 rfl)
    | succ m ih =>
      intro i n M1 hi F e3 e G
      refine pw_X6_read_5 hT _ _ M1 fun n1 _ => brF (by omega) ?_
      have w2 : w32 (2 * (i : Int)) = ((2 * i : Nat) : Int) := ew32 (by omega) (by omega)
      have w3 : w32 (((2 * i : Nat) : Int) + 1) = ((2 * i + 1 : Nat) : Int) := ew32 (by omega) (by omega)
      rw [w2, w3, show ((i : Int)).toNat = i by omega, show w32 ((i : Int) + 1) = ((i + 1 : Nat) : Int) from ew32 (by omega) (by omega)]
      have e1 : M1 1 = M 1 := F 1 (by decide)
      have e2 : M1 2 = M 2 := F 2 (by decide)
      refine p_at (by rw [e1]; omega) (cI_i (gMB (p_at (by rw [stK (by decide), e1]; omega) (cI_i (gMB (gMB (gMB ?_)))))))
      rw [show (((2 * i : Nat) : Int)).toNat = 2 * i by omega, show (((2 * i + 1 : Nat) : Int)).toNat = 2 * i + 1 by omega, e2, ht, show ∀ v, stM M1 38 i v 2 = M 2 from fun v => (stK (by decide)).trans e2, ht, stE]
      obtain ⟨M2, hM2⟩ : ∃ M2, M2 = stM (stM (stM M1 38 i (t (2 * i))) 39 i (t (2 * i + 1))) 40 i 0 := ⟨_, rfl⟩
      rw [← hM2]
      have F2 : ∀ c, (c < 37 ∨ 40 < c) → M2 c = M c := fun c hc => by
        rw [hM2, stK (by omega), stK (by omega), stK (by omega)]
        exact F c hc
      have s38 : M2 38 = stM M1 38 i (t (2 * i)) 38 := by rw [hM2, stK (by decide), stK (by decide)]
      have s39 : M2 39 i = t (2 * i + 1) := by
        rw [hM2, stK (by decide)]
        exact stE
      have e38 : M2 38 i = sgT t i := by
        rw [s38]
        exact stE
      have eb : ∀ a, a < i → M2 38 a = sgT t a ∧ M2 39 a = sgS t a ∧ M2 40 a = 0 := fun a ha => by
        have z := e a ha
        refine ⟨by rw [s38, stO (by omega)]; exact z.1, ?_, ?_⟩
        · rw [hM2, stK (by decide), stO (by omega), stK (by decide)]
          exact z.2.1
        · rw [hM2, stO (by omega), stK (by decide), stK (by decide)]
          exact z.2.2
      have ee : ∀ a, a < i + 1 → M2 38 a = sgT t a ∧ M2 39 a = sgS t a ∧ M2 40 a = 0 := fun a ha => by
        by_cases q : a = i
        · subst q
          refine ⟨e38, s39, ?_⟩
          rw [hM2]
          exact stE
        · exact eb a (by omega)
      have e37 : M2 37 3 = (nn : Int) := by
        rw [hM2, stK (by decide), stK (by decide), stK (by decide)]
        exact e3
      have bad : ¬ ((sgS t i ≤ 63 ∧ K (sgS t i).toNat ≠ 1) ∧ (0 < i → sgT t (i - 1) ≤ sgT t i)) → Q (vi 0) M2 := fun z => k0 (fun g => z (g i (by omega))) M2 F2 0 rfl
      have good : ((sgS t i ≤ 63 ∧ K (sgS t i).toNat ≠ 1) ∧ (0 < i → sgT t (i - 1) ≤ sgT t i)) → ∀ n, PW sc n m_X6_read 5 [] [some (vr 37), some (vr 1), some (vi (nn : Int)), some (vr T), some (vi ((i + 1 : Nat) : Int))] M2 Q := fun z n => ih (i + 1) n M2 (by omega) F2 e37 ee fun a ha => by
        by_cases q : a = i
        · subst q
          exact z
        · exact G a (by omega)
      have h1 := h0 (2 * i + 1)
      clear hM2
      refine f_isWall hT (fun nw x hx => cI_i (brF (by omega) ?_)) fun iw x hx => cI_i (brT (by omega) (bad fun z => ?_))
      · rw [F2 (T + 1) (by omega)] at nw
        have r : 0 ≤ t (2 * i + 1) ∧ t (2 * i + 1) ≤ 63 ∧ K (t (2 * i + 1)).toNat ≠ 1 := by
          unfold wl at nw
          refine ⟨h1, ?_, fun z => nw (.inr (.inr ?_))⟩
          · rcases Int.lt_or_le (t (2 * i + 1)) 64 with y | y
            · omega
            · exact absurd (.inr (.inl y)) nw
          · rcases Int.lt_or_le (t (2 * i + 1)) 64 with y | y
            · rw [hK _ (by omega)]
              exact z
            · exact absurd (.inr (.inl y)) nw
        refine brP (fun z => good ⟨⟨r.2.1, r.2.2⟩, fun y => by omega⟩ n1) fun z => gMB (gMB ?_)
        rw [show w32 ((i : Int) - 1) = ((i - 1 : Nat) : Int) by rw [ew32 (by omega) (by omega)]; omega, show (((i - 1 : Nat) : Int)).toNat = i - 1 by omega, (eb (i - 1) (by omega)).1, e38]
        exact brP (fun y => good ⟨⟨r.2.1, r.2.2⟩, fun _ => y⟩ n1) fun y => bad fun x => y (x.2 (by omega))
      · rw [F2 (T + 1) (by omega)] at iw
        have z1 : t (2 * i + 1) ≤ 63 := z.1.1
        have z2 : K (t (2 * i + 1)).toNat ≠ 1 := z.1.2
        unfold wl at iw
        rcases iw with y | y | y
        · omega
        · omega
        · rw [hK _ (by omega)] at y
          exact z2 y
  refine pc_X6_read hT _ M fun n1 _ => lp nn 0 n1 _ (Nat.zero_add _) (fun c hc => stK (by omega)) stE (fun a ha => absurd ha (Nat.not_lt_zero a)) fun a ha => absurd ha (Nat.not_lt_zero a)
/- which pairs have been laid -/
def lkP (K t : Nat → Int) (n i j a b : Nat) : Prop := (a < b ∧ b < n ∧ (a < i ∨ (a = i ∧ b < j)) ∧ cbP K t a b) ∨ (b < a ∧ a < n ∧ (b < i ∨ (b = i ∧ a < j)) ∧ cbP K t b a)
def lnI (K t : Nat → Int) (n i j : Nat) (A : Nat → Int) : Prop := ∀ a b, a < n → b < 10 → (bit (A a) b = true ↔ lkP K t n i j a b)
set_option maxRecDepth 20000 in
theorem f_linkC (hT : T = 57 ∨ T = 61) {K t : Nat → Int} {M0 : MM} (hK : ∀ j, j < 64 → M0 (T + 1) j = K j) (h0 : ∀ i, 0 ≤ t i ∧ t i ≤ 255) {nn : Nat} (hn : nn ≤ 10) (G : sgG K t nn) {M : MM} (F : ∀ c, (c < 33 ∨ 40 < c) → c ≠ 1 → M c = M0 c) (e3 : M 37 3 = (nn : Int)) (e : ∀ i, i < nn → M 38 i = sgT t i ∧ M 39 i = sgS t i ∧ M 40 i = 0) {n : Nat} (k : ∀ M1, (∀ c, (c < 33 ∨ 40 < c) → c ≠ 1 → M1 c = M0 c) → M1 37 3 = (nn : Int) → (∀ i, i < nn → M1 38 i = sgT t i ∧ M1 39 i = sgS t i) → lnI K t nn nn 0 (M1 40) → (∀ x, x < nn → 0 ≤ M1 40 x ∧ M1 40 x < 1024) → Q (vi 0) M1) : PC sc n m_X6_link [vr 37, vr T, vr 32] M Q := by
  have l2 : ∀ (m i n : Nat) (o4 o5 : Option Vv) (M1 : MM), i + m = nn → (∀ c, (c < 33 ∨ 40 < c) → c ≠ 1 → M1 c = M0 c) → M1 37 3 = (nn : Int) → (∀ i, i < nn → M1 38 i = sgT t i ∧ M1 39 i = sgS t i) → lnI K t nn i 0 (M1 40) → (∀ x, x < nn → 0 ≤ M1 40 x ∧ M1 40 x < 1024) → PW sc n m_X6_link 2 [] [some (vr 37), some (vr T), some (vr 32), some (vi (i : Int)), o4, o5] M1 Q := by
    intro m
    induction m with
    | zero =>
      intro i n o4 o5 M1 hi F1 e3 e1 I rg
      have hi : i = nn := hi
      subst hi
      refine pw_X6_link_2 hT _ _ _ M1 fun n1 _ => ?_
      rw [e3]
      exact brT (Int.le_refl _) (k M1 F1 e3 e1 I rg)
    | succ m ih =>
      intro i n o4 o5 M1 hi F1 e3 e1 I rg
      have hin : i < nn := by omega
      have gi := (G i hin).1
      have t1 := h0 (2 * i + 1)
      refine pw_X6_link_2 hT _ _ _ M1 fun n1 _ => ?_
      rw [e3]
      refine brF (by omega) (gMB ?_)
      rw [show ((i : Int)).toNat = i by omega, show w32 ((i : Int) + 1) = ((i + 1 : Nat) : Int) from ew32 (by omega) (by omega), (e1 i hin).2]
      obtain ⟨a, ea⟩ : ∃ a : Nat, sgS t i = (a : Int) := ⟨(sgS t i).toNat, (Int.toNat_of_nonneg (h0 (2 * i + 1)).1).symm⟩
      rw [ea]
      refine f_measureC hT (K := K) (fun j hj => by rw [F1 (T + 1) (by omega) (by omega)]; exact hK j hj) (by omega) fun M2 C F2 hC rC => ?_
      have hC2 : lcR K z0 (sgS t i).toNat 0 C := by
        rw [ea, show ((a : Int)).toNat = a by omega]
        exact hC
      have l17 : ∀ (q j n : Nat) (o5 : Option Vv) (M3 : MM), j + q = nn → i < j → (∀ c, (c < 33 ∨ 40 < c) → c ≠ 1 → M3 c = M0 c) → M3 37 3 = (nn : Int) → (∀ i, i < nn → M3 38 i = sgT t i ∧ M3 39 i = sgS t i) → (∀ s, s < 64 → M3 33 s = C s) → lnI K t nn i j (M3 40) → (∀ x, x < nn → 0 ≤ M3 40 x ∧ M3 40 x < 1024) → PW sc n m_X6_link 17 [] [some (vr 37), some (vr T), some (vr 32), some (vi (i : Int)), some (vi (j : Int)), o5] M3 Q := by
        intro q
        induction q with
        | zero =>
          intro j n o5 M3 hj hij F3 e3 e1 e33 I3 rg
          have hj : j = nn := hj
          subst hj
          refine pw_X6_link_17 hT _ _ _ M3 fun n1 _ => ?_
          rw [e3]
          refine brT (Int.le_refl _) ?_
          rw [show w32 ((i : Int) + 1) = ((i + 1 : Nat) : Int) from ew32 (by omega) (by omega)]
          refine ih (i + 1) n1 _ _ M3 (by omega) F3 e3 e1 (fun a b ha hb => (I3 a b ha hb).trans ?_) rg
          unfold lkP
          constructor
          · rintro (⟨z1, z2, z3, z4⟩ | ⟨z1, z2, z3, z4⟩)
            · exact .inl ⟨z1, z2, by omega, z4⟩
            · exact .inr ⟨z1, z2, by omega, z4⟩
          · rintro (⟨z1, z2, z3, z4⟩ | ⟨z1, z2, z3, z4⟩)
            · exact .inl ⟨z1, z2, by omega, z4⟩
            · exact .inr ⟨z1, z2, by omega, z4⟩
        | succ q ihq =>
          intro j n o5 M3 hj hij F3 e3 e1 e33 I3 rg
          have hjn : j < nn := by omega
          have gj := (G j hjn).1
          have tj := h0 (2 * j + 1)
          have t2 := h0 (2 * j)
          have t3 := h0 (2 * i)
          refine pw_X6_link_17 hT _ _ _ M3 fun n1 _ => ?_
          rw [e3]
          refine brF (by omega) (gMB (gMB ?_))
          rw [show ((i : Int)).toNat = i by omega, show ((j : Int)).toNat = j by omega, show w32 ((j : Int) + 1) = ((j + 1 : Nat) : Int) from ew32 (by omega) (by omega), (e1 j hjn).2, (e1 j hjn).1, (e1 i hin).1, e33 _ (by omega)]
          have iff := cbP_iff hC2 (j := j) (by omega)
          have rj := rC (sgS t j).toNat (by omega)
          have same : ¬ cbP K t i j → ∀ (n : Nat) (o5 : Option Vv), PW sc n m_X6_link 17 [] [some (vr 37), some (vr T), some (vr 32), some (vi (i : Int)), some (vi ((j + 1 : Nat) : Int)), o5] M3 Q := fun nc n o5 => ihq (j + 1) n o5 M3 (by omega) (by omega) F3 e3 e1 e33 (fun a b ha hb => (I3 a b ha hb).trans (by
            unfold lkP
            constructor
            · rintro (⟨z1, z2, z3, z4⟩ | ⟨z1, z2, z3, z4⟩)
              · exact .inl ⟨z1, z2, by omega, z4⟩
              · exact .inr ⟨z1, z2, by omega, z4⟩
            · rintro (⟨z1, z2, z3, z4⟩ | ⟨z1, z2, z3, z4⟩)
              · by_cases y : a = i ∧ b = j
                · exact absurd (by rw [← y.1, ← y.2]; exact z4) nc
                · exact .inl ⟨z1, z2, by omega, z4⟩
              · by_cases y : b = i ∧ a = j
                · exact absurd (by rw [← y.1, ← y.2]; exact z4) nc
                · exact .inr ⟨z1, z2, by omega, z4⟩)) rg
          have w1 : w32 (sgT t j - sgT t i) = sgT t j - sgT t i := ew32 (by show _ ≤ t (2 * j) - t (2 * i); omega) (by show t (2 * j) - t (2 * i) ≤ _; omega)
          rw [w1]
          refine brP (fun c => same (fun z => by have := (iff.mp z).1; omega) _ _) fun c => gMB (gMB (brP (fun c2 => same (fun z => by have := (iff.mp z).2; omega) _ _) fun c2 => gMB (gMB (gMB (gMB ?_)))))
          have cb : cbP K t i j := iff.mpr ⟨by omega, by omega⟩
          have ha40 : ∀ v w : Int, stM (stM M3 40 i v) 40 j w 40 i = v := fun v w => by
            rw [stO (by omega)]
            exact stE
          have hb40 : ∀ v : Int, stM M3 40 i v 40 j = M3 40 j := fun v => stO (by omega)
          rw [hb40]
          refine ihq (j + 1) n1 _ _ (by omega) (by omega) (fun c c1 c2 => (stK (by omega)).trans ((stK (by omega)).trans (F3 c c1 c2))) (by rw [stK (by decide), stK (by decide)]; exact e3) (fun x hx => by rw [stK (c := 38) (by decide), stK (c := 38) (by decide), stK (c := 39) (by decide), stK (c := 39) (by decide)]; exact e1 x hx) (fun s hs => by rw [stK (by decide), stK (by decide)]; exact e33 s hs) (fun a b ha hb => ?_) fun x hx => ?_
          rotate_left
          · have r1 := fbOr 10 1024 (by decide) (rg i (by omega)) (b := bShl 1 (j : Int)) (shl_r j (by omega)) (by decide)
            have r2 := fbOr 10 1024 (by decide) (rg j (by omega)) (b := bShl 1 (i : Int)) (shl_r i (by omega)) (by decide)
            by_cases y : x = j
            · subst y
              rw [stE]
              exact r2
            · by_cases y2 : x = i
              · subst y2
                rw [stO y, stE]
                exact r1
              · rw [stO y, stO y2]
                exact rg x hx
          have main : (bit (stM (stM M3 40 i (bOr (M3 40 i) (bShl 1 (j : Int)))) 40 j (bOr (M3 40 j) (bShl 1 (i : Int))) 40 a) b = true) ↔ (bit (M3 40 a) b = true ∨ (a = i ∧ b = j) ∨ (a = j ∧ b = i)) := by
            by_cases y : a = j
            · subst y
              rw [stE, bit_set (by omega) hb, Bool.or_eq_true, decide_eq_true_eq]
              constructor
              · rintro (z | z)
                · exact .inl z
                · exact .inr (.inr ⟨rfl, z⟩)
              · rintro (z | ⟨z, -⟩ | ⟨-, z⟩)
                · exact .inl z
                · omega
                · exact .inr z
            · by_cases y2 : a = i
              · subst y2
                rw [stO y, stE, bit_set (by omega) hb, Bool.or_eq_true, decide_eq_true_eq]
                constructor
                · rintro (z | z)
                  · exact .inl z
                  · exact .inr (.inl ⟨rfl, z⟩)
                · rintro (z | ⟨-, z⟩ | ⟨z, -⟩)
                  · exact .inl z
                  · exact .inr z
                  · exact absurd z y
              · rw [stO y, stO y2]
                constructor
                · exact .inl
                · rintro (z | ⟨z, -⟩ | ⟨z, -⟩)
                  · exact z
                  · exact absurd z y2
                  · exact absurd z y
          refine main.trans ?_
          rw [I3 a b ha hb]
          unfold lkP
          constructor
          · rintro ((⟨z1, z2, z3, z4⟩ | ⟨z1, z2, z3, z4⟩) | ⟨y1, y2⟩ | ⟨y1, y2⟩)
            · exact .inl ⟨z1, z2, by omega, z4⟩
            · exact .inr ⟨z1, z2, by omega, z4⟩
            · subst y1 y2
              exact .inl ⟨hij, hjn, .inr ⟨rfl, Nat.lt_succ_self _⟩, cb⟩
            · subst y1 y2
              exact .inr ⟨hij, hjn, .inr ⟨rfl, Nat.lt_succ_self _⟩, cb⟩
          · rintro (⟨z1, z2, z3, z4⟩ | ⟨z1, z2, z3, z4⟩)
            · by_cases y : a = i ∧ b = j
              · exact .inr (.inl y)
              · exact .inl (.inl ⟨z1, z2, by omega, z4⟩)
            · by_cases y : a = j ∧ b = i
              · exact .inr (.inr y)
              · exact .inl (.inr ⟨z1, z2, by omega, z4⟩)
      have F2' : ∀ c, (c < 33 ∨ 40 < c) → c ≠ 1 → M2 c = M0 c := fun c c1 c2 => (F2 c (by omega) (by omega)).trans (F1 c c1 c2)
      refine l17 (nn - (i + 1)) (i + 1) n1 _ M2 (by omega) (by omega) F2' (by rw [F2 37 (by decide) (by decide)]; exact e3) (fun x hx => by rw [F2 38 (by decide) (by decide), F2 39 (by decide) (by decide)]; exact e1 x hx) (fun s hs => (rC s hs).1) (fun a b ha hb => ?_) (fun x hx => by rw [F2 40 (by decide) (by decide)]; exact rg x hx)
      rw [F2 40 (by decide) (by decide), I a b ha hb]
      unfold lkP
      constructor
      · rintro (⟨z1, z2, z3, z4⟩ | ⟨z1, z2, z3, z4⟩)
        · exact .inl ⟨z1, z2, by omega, z4⟩
        · exact .inr ⟨z1, z2, by omega, z4⟩
      · rintro (⟨z1, z2, z3, z4⟩ | ⟨z1, z2, z3, z4⟩)
        · exact .inl ⟨z1, z2, by omega, z4⟩
        · exact .inr ⟨z1, z2, by omega, z4⟩
  refine pc_X6_link hT M fun n1 _ => l2 nn 0 n1 none none M (Nat.zero_add _) F e3 (fun i hi => ⟨(e i hi).1, (e i hi).2.1⟩) (fun a b ha hb => ?_) fun x hx => by rw [(e x hx).2.2]; decide
  rw [(e a ha).2.2, bit_zero]
  unfold lkP
  constructor
  · intro z
    cases z
  · rintro (⟨z1, z2, z3, z4⟩ | ⟨z1, z2, z3, z4⟩) <;> omega
theorem lk_end {K t : Nat → Int} {n a b : Nat} (ha : a < n) : lkP K t n n 0 a b ↔ (a < b ∧ b < n ∧ cbP K t a b) ∨ (b < a ∧ cbP K t b a) := by
  unfold lkP
  constructor
  · rintro (⟨z1, z2, z3, z4⟩ | ⟨z1, z2, z3, z4⟩)
    · exact .inl ⟨z1, z2, z4⟩
    · exact .inr ⟨z1, z4⟩
  · rintro (⟨z1, z2, z4⟩ | ⟨z1, z4⟩)
    · exact .inl ⟨z1, z2, .inl ha, z4⟩
    · exact .inr ⟨z1, ha, .inl (by omega), z4⟩
set_option maxRecDepth 20000 in
theorem f_apartC {K t : Nat → Int} {nn : Nat} (hn : nn ≤ 10) {M : MM} (e3 : M 37 3 = (nn : Int)) (r40 : ∀ i, i < nn → 0 ≤ M 40 i ∧ M 40 i < 1024) (I : lnI K t nn nn 0 (M 40)) {s : Nat} {n : Nat} (k0 : ¬ apP K t nn s → ∀ x : Int, x = 0 → Q (vi x) M) (k1 : apP K t nn s → ∀ x : Int, x = 1 → Q (vi x) M) : PC sc n m_X6_areApart [vr 37, vi (s : Int)] M Q := by
  have lp : ∀ (m i n : Nat), i + m = nn → (∀ a b : Nat, a < i → b < 10 → bit (s : Int) a = true → bit (M 40 a) b = true → bit (s : Int) b = true → False) → PW sc n m_X6_areApart 2 [] [some (vr 37), some (vi (s : Int)), some (vi (i : Int))] M Q := by
    intro m
    induction m with
    | zero =>
      intro i n hi h
      have hi : i = nn := hi
      subst hi
      refine pw_X6_areApart_2 _ _ M fun n1 _ => ?_
      rw [e3]
      refine brT (Int.le_refl _) (k1 (fun a b hab hb z1 z2 z3 => ?_) 1 rfl)
      exact h a b (by omega) (by omega) z1 ((I a b (by omega) (by omega)).mpr ((lk_end (by omega)).mpr (.inl ⟨hab, hb, z3⟩))) z2
    | succ m ih =>
      intro i n hi h
      refine pw_X6_areApart_2 _ _ M fun n1 _ => ?_
      rw [e3, show ((i : Int)).toNat = i by omega, show w32 ((i : Int) + 1) = ((i + 1 : Nat) : Int) from ew32 (by omega) (by omega)]
      refine brF (by omega) (p_hasC (by omega) (fun b x hx => cI_i (brT hx (ih (i + 1) n1 (by omega) fun a c ha hc z1 z2 z3 => ?_))) fun b x hx => cI_i (brF (by omega) (gMB (brP (fun c => ih (i + 1) n1 (by omega) fun a d ha hd z1 z2 z3 => ?_) fun c => k0 (fun ap => c ?_) 0 rfl))))
      · by_cases q : a = i
        · subst q
          rw [b] at z1
          cases z1
        · exact h a c (by omega) hc z1 z2 z3
      · by_cases q : a = i
        · subst q
          exact (and0 (r40 a (by omega))).mp c d hd ⟨z2, z3⟩
        · exact h a d (by omega) hd z1 z2 z3
      · refine (and0 (r40 i (by omega))).mpr fun d hd ⟨z1, z2⟩ => ?_
        rcases (lk_end (by omega)).mp ((I i d (by omega) hd).mp z1) with ⟨y1, y2, y3⟩ | ⟨y1, y3⟩
        · exact ap i d y1 y2 b z2 y3
        · exact ap d i y1 (by omega) z2 b y3
  exact pc_X6_areApart _ M fun n1 _ => lp nn 0 n1 (Nat.zero_add _) fun a b ha => absurd ha (Nat.not_lt_zero a)
set_option maxRecDepth 20000 in
theorem f_fewestC {K t : Nat → Int} {nn : Nat} (hn : nn ≤ 10) {M : MM} (e3 : M 37 3 = (nn : Int)) (r40 : ∀ i, i < nn → 0 ≤ M 40 i ∧ M 40 i < 1024) (I : lnI K t nn nn 0 (M 40)) {n : Nat} (k : Q (vi (ghV (apP K t nn) (2 ^ nn - 1) 1 0)) M) : PC sc n m_X6_fewestGhosts [vr 37] M Q := by
  have h2 := p2_r nn (by omega)
  have lp : ∀ (m s n : Nat) (most : Int) (o3 : Option Vv), s + m = 2 ^ nn → ghV (apP K t nn) (2 ^ nn - 1) 1 0 = ghV (apP K t nn) m s most → PW sc n m_X6_fewestGhosts 4 [] [some (vr 37), some (vi most), some (vi (s : Int)), o3] M Q := by
    intro m
    induction m with
    | zero =>
      intro s n most o3 hs e
      have hs : s = 2 ^ nn := hs
      have e : ghV (apP K t nn) (2 ^ nn - 1) 1 0 = most := e
      refine pw_X6_fewestGhosts_4 _ _ _ M fun n1 _ => ?_
      rw [e3, shl_p nn (by omega)]
      refine brT (by omega) ?_
      rw [← e]
      exact k
    | succ m ih =>
      intro s n most o3 hs e
      refine pw_X6_fewestGhosts_4 _ _ _ M fun n1 _ => ?_
      rw [e3, shl_p nn (by omega)]
      refine brF (by omega) (p_bitCount ⟨by omega, by omega⟩ (cI_i ?_))
      rw [show w32 ((s : Int) + 1) = ((s + 1 : Nat) : Int) from ew32 (by omega) (by omega)]
      refine brP (fun c => ih (s + 1) n1 _ _ (by omega) ?_) fun c => f_apartC hn e3 r40 I (fun na x hx => cI_i (brT hx (ih (s + 1) n1 _ _ (by omega) ?_))) fun ap x hx => cI_i (brF (by omega) (ih (s + 1) n1 _ _ (by omega) ?_))
      · rw [e, ghV_f fun z => by have := z.1; omega]
      · rw [e, ghV_f fun z => na z.2]
      · rw [e, ghV_t ⟨by omega, ap⟩]
  refine pc_X6_fewestGhosts M fun n1 _ => ?_
  have l0 : PW sc n1 m_X6_fewestGhosts 4 [] [some (vr 37), some (vi 0), some (vi ((0 : Nat) : Int)), none] M Q := lp (2 ^ nn) 0 n1 0 none (Nat.zero_add _) (by
    have e : 2 ^ nn = (2 ^ nn - 1) + 1 := by omega
    have b0 : bsum ((0 : Nat) : Int) 10 = 0 := by decide
    rw [e, ghV_f fun z => by rw [b0] at z; exact absurd z.1 (by decide)]
    rw [show 2 ^ nn - 1 + 1 - 1 = 2 ^ nn - 1 by omega])
  exact l0
set_option maxRecDepth 20000 in
theorem f_fromC (hT : T = 57 ∨ T = 61) {K t : Nat → Int} {M0 : MM} (hK : ∀ j, j < 64 → M0 (T + 1) j = K j) (hr : ∀ i, -1 ≤ M0 (T + 2) i ∧ M0 (T + 2) i ≤ 63) (hh : ∀ g, g < 10 → (0 ≤ M0 86 g ↔ M0 (T + 2) g ≠ -1) ∧ (M0 (T + 2) g ≠ -1 → M0 (T + 2) g = M0 86 g)) (h0 : ∀ i, 0 ≤ t i ∧ t i ≤ 255) {nn : Nat} (hn : 1 ≤ nn ∧ nn ≤ 10) (G : sgG K t nn) {M : MM} (F : ∀ c, (c < 33 ∨ 40 < c) → c ≠ 1 → M c = M0 c) (e3 : M 37 3 = (nn : Int)) (e : ∀ i, i < nn → M 38 i = sgT t i ∧ M 39 i = sgS t i) (I : lnI K t nn nn 0 (M 40)) {n : Nat} (k0 : ¬ (∀ k, k + 1 < nn → cbP K t k (k + 1)) → ∀ M1, Q (vi 0) M1) (k1 : (∀ k, k + 1 < nn → cbP K t k (k + 1)) → ∀ M1, Q (vi (sbV (fun h => dcB (fwP M0 K t h)) 10 0 0)) M1) : PC sc n m_X6_fromWhere [vr 37, vr T, vr 32] M Q := by
  have g0 := (G 0 (by omega)).1
  have t1 := h0 (2 * 0 + 1)
  have l2 : ∀ (m i n : Nat) (o4 o5 : Option Vv), i + m = nn → (∀ k, k + 1 < i → cbP K t k (k + 1)) → 1 ≤ i → PW sc n m_X6_fromWhere 2 [] [some (vr 37), some (vr T), some (vr 32), some (vi (i : Int)), o4, o5] M Q := by
    intro m
    induction m with
    | zero =>
      intro i n o4 o5 hi all h1
      have hi : i = nn := hi
      subst hi
      have k1 := k1 all
      refine pw_X6_fromWhere_2 hT _ _ _ M fun n1 _ => ?_
      rw [e3, (e 0 (by omega)).2]
      refine brT (Int.le_refl _) ?_
      obtain ⟨a, ea⟩ : ∃ a : Nat, sgS t 0 = (a : Int) := ⟨(sgS t 0).toNat, (Int.toNat_of_nonneg (h0 (2 * 0 + 1)).1).symm⟩
      have g01 : sgS t 0 ≤ 63 := g0.1
      rw [ea]
      refine f_measureC hT (K := K) (fun j hj => by rw [F (T + 1) (by omega) (by omega)]; exact hK j hj) (by omega) fun M2 C F2 hC rC => ?_
      have hC2 : lcR K z0 (sgS t 0).toNat 0 C := by
        rw [ea, show ((a : Int)).toNat = a by omega]
        exact hC
      have e38 : M2 38 0 = sgT t 0 := by
        rw [F2 38 (by decide) (by decide)]
        exact (e 0 (by omega)).1
      have l30 : ∀ (q h n : Nat) (acc : Int) (o5 : Option Vv), h + q = 10 → Q (vi (sbV (fun h => dcB (fwP M0 K t h)) q h acc)) M2 → PW sc n m_X6_fromWhere 30 [] [some (vr 37), some (vr T), some (vr 32), some (vi acc), some (vi (h : Int)), o5] M2 Q := by
        intro q
        induction q with
        | zero =>
          intro h n acc o5 hq k
          have hq : h = 10 := hq
          subst hq
          exact pw_X6_fromWhere_30 hT _ _ _ M2 fun n1 _ => brT (by decide) k
        | succ q ihq =>
          intro h n acc o5 hq k
          rw [sbV_s] at k
          have hh10 : h < 10 := by omega
          obtain ⟨s1, s2⟩ := hh h hh10
          have rh := hr h
          have eH : M2 (T + 2) = M0 (T + 2) := (F2 _ (by omega) (by omega)).trans (F _ (by omega) (by omega))
          refine pw_X6_fromWhere_30 hT _ _ _ M2 fun n1 _ => brF (by omega) (gMB ?_)
          rw [show ((h : Int)).toNat = h by omega, eH]
          have h48 : ∀ (n : Nat) (s0 : Int), ((s0 = -1 ∨ sgT t 0 < s0) ↔ ¬ fwP M0 K t h) → PW sc n m_X6_fromWhere 48 [vi s0] [some (vr 37), some (vr T), some (vr 32), some (vi acc), some (vi (h : Int)), o5] M2 Q := fun n s0 hs => by
            have nxt : ∀ (n : Nat) (o5 : Option Vv), (s0 = -1 ∨ sgT t 0 < s0) → PW sc n m_X6_fromWhere 30 [] [some (vr 37), some (vr T), some (vr 32), some (vi acc), some (vi ((h + 1 : Nat) : Int)), o5] M2 Q := fun n o5 c => ihq (h + 1) n acc o5 (by omega) (by
              rw [dcB_f (hs.mp c), if_neg (by decide)] at k
              exact k)
            refine pw_X6_fromWhere_48 hT _ _ _ _ M2 fun n1 _ => ?_
            rw [e38, show w32 ((h : Int) + 1) = ((h + 1 : Nat) : Int) from ew32 (by omega) (by omega)]
            refine brP (fun c => nxt _ _ (.inl c)) fun c => brP (fun c2 => nxt _ _ (.inr c2)) fun c2 => ihq (h + 1) n1 _ _ (by omega) ?_
            have yes : fwP M0 K t h := Classical.byContradiction fun z => by
              rcases hs.mpr z with y | y
              · exact c y
              · exact c2 y
            rw [dcB_t yes, if_pos rfl] at k
            exact k
          refine brP (fun c => gMB (gMB (h48 _ _ ?_))) fun c => h48 _ _ ?_
          · have eh := s2 c
            have r := rC (M0 (T + 2) h).toNat (by omega)
            rw [r.1, eh]
            have p0 := s1.mpr c
            rw [eh] at r
            constructor
            · rintro z ⟨-, E, e1, e2, e3⟩
              have ee := lcR_eq rfl hC2 e1 (M0 86 h).toNat (by omega)
              omega
            · intro z
              rcases Int.lt_or_le (C (M0 86 h).toNat) 0 with y | y
              · left
                omega
              · right
                rcases Int.lt_or_le (sgT t 0) (C (M0 86 h).toNat) with x | x
                · exact x
                · exact absurd ⟨p0, C, hC2, y, x⟩ z
          · have c := Classical.not_not.mp c
            constructor
            · rintro _ ⟨z, -⟩
              exact s1.mp z c
            · exact fun _ => .inl rfl
      exact l30 10 0 n1 0 _ rfl (k1 M2)
    | succ m ih =>
      intro i n o4 o5 hi all h1
      refine pw_X6_fromWhere_2 hT _ _ _ M fun n1 _ => ?_
      rw [e3, show ((i : Int)).toNat = i by omega, show w32 ((i : Int) - 1) = ((i - 1 : Nat) : Int) by rw [ew32 (by omega) (by omega)]; omega, show w32 ((i : Int) + 1) = ((i + 1 : Nat) : Int) from ew32 (by omega) (by omega)]
      have iff : bit (M 40 i) (i - 1) = true ↔ cbP K t (i - 1) i := (I i (i - 1) (by omega) (by omega)).trans ((lk_end (by omega)).trans ⟨fun z => by
        rcases z with ⟨z1, -⟩ | ⟨-, z⟩
        · omega
        · exact z, fun z => .inr ⟨by omega, z⟩⟩)
      refine brF (by omega) (gMB (p_hasC (by omega) (fun b x hx => cI_i (brF (by omega) (k0 (fun z => ?_) M))) fun b x hx => cI_i (brT (by omega) (ih (i + 1) n1 _ _ (by omega) (fun k hk => ?_) (by omega)))))
      · have y := z (i - 1) (by omega)
        rw [show i - 1 + 1 = i by omega] at y
        rw [iff.mpr y] at b
        cases b
      · by_cases q : k + 1 = i
        · have y := iff.mp b
          rw [show i - 1 = k by omega, ← q] at y
          exact y
        · exact all k (by omega)
  exact pc_X6_fromWhere hT M fun n1 _ => l2 (nn - 1) 1 n1 none none (by omega) (fun k hk => by omega) (Nat.le_refl _)
abbrev sgOk (M : MM) (v w : Int) : Prop := (1 ≤ v ∧ v ≤ 10) ∧ (0 ≤ w ∧ w ≤ 1) ∧ 2 * v ≤ M 81 10
set_option maxRecDepth 20000 in
set_option maxRecDepth 20000 in
theorem f_sightC {M : MM} (G : GdA M) {v w : Int} {n : Nat} : PC sc n m_X11_sightings [vr 0, vi v, vi w] M (fun r _ => (¬ sgOk M v w → r = vi (-1)) ∧ (sgOk M v w → r = vi (sgV2 M (tpY M) v.toNat w))) := by
  obtain ⟨T, hT, v0, v1, hr, hh, hS⟩ := G.1.tw
  have e10 : M 1 1 = M 81 10 := G.1.2.1.1
  have ht : ∀ i, 0 ≤ tpY M i ∧ tpY M i ≤ 255 := tpY_r M
  have no : ∀ M1 : MM, ¬ sgOk M v w → (¬ sgOk M v w → vi (-1) = vi (-1)) ∧ (sgOk M v w → vi (-1) = vi (sgV2 M (tpY M) v.toNat w)) := fun _ z => ⟨fun _ => rfl, fun y => absurd y z⟩
  refine pc_X11_sightings _ _ M fun n1 _ => p_isIn (fun z x hx => cI_i (brT hx (no M fun y => z y.1))) fun h1 x hx => cI_i (brF (by omega) (p_isIn (fun z x hx => cI_i (brT hx (no M fun y => z y.2.1))) fun h2 x hx => cI_i (brF (by omega) ?_)))
  obtain ⟨nn, hn⟩ : ∃ nn : Nat, v = (nn : Int) := ⟨v.toNat, by omega⟩
  subst hn
  rw [show w32 (2 * (nn : Int)) = 2 * (nn : Int) from ew32 (by omega) (by omega), e10, v0, show ((T : Int) + 1).toNat - 1 = T by omega]
  refine brP (fun h3 => gMB ?_) fun h3 => no M fun y => h3 y.2.2
  have ok : sgOk M (nn : Int) w := ⟨h1, h2, h3⟩
  have fin : ∀ x, x = sgV2 M (tpY M) nn w → (¬ sgOk M (nn : Int) w → vi x = vi (-1)) ∧ (sgOk M (nn : Int) w → vi x = vi (sgV2 M (tpY M) ((nn : Int)).toNat w)) := fun x hx => ⟨fun y => absurd ok y, fun _ => by rw [hx, show ((nn : Int)).toNat = nn by omega]⟩
  refine f_readS hT (K := M 85) (t := tpY M) v1 G.1.t.c (fun i => (ht i).1) (by omega) (by omega) (fun bad M1 F1 x hx => cI_i (pc_X7_empty M1 fun n2 _ => brF (by omega) (fin _ (sgV2_no bad).symm))) fun good M1 F1 e3 e x hx => cI_i (pc_X7_empty M1 fun n2 _ => brT (by omega) ?_)
  have F2 : ∀ c, (c < 33 ∨ 40 < c) → c ≠ 1 → stM M1 1 1 0 c = M c := fun c c1 c2 => (stK c2).trans (F1 c (by omega))
  rw [F2 0 (by decide) (by decide), v0, show ((T : Int) + 1).toNat - 1 = T by omega]
  refine gMB (f_linkC hT v1 ht (by omega) good F2 (by rw [stK (by decide)]; exact e3) (fun i hi => by rw [stK (c := 38) (by decide), stK (c := 39) (by decide), stK (c := 40) (by decide)]; exact e i hi) fun M3 F3 e3 e1 I rg => brP (fun hw => ?_) fun hw => f_fewestC (by omega) e3 rg I (cI_i (fin _ ?_)))
  · rw [F3 0 (by decide) (by decide), v0, show ((T : Int) + 1).toNat - 1 = T by omega]
    refine gMB (f_fromC hT v1 hr hh ht (by omega) good F3 e3 e1 I (fun z M4 => cI_i (fin _ ?_)) fun z M4 => cI_i (fin _ ?_))
    · rw [sgV2_go good, if_neg hw]
      exact (@if_neg _ (Classical.propDecidable _) z _ _ _).symm
    · rw [sgV2_go good, if_neg hw]
      exact (@if_pos _ (Classical.propDecidable _) z _ _ _).symm
  · rw [sgV2_go good, if_pos (Classical.not_not.mp hw)]
theorem coV_0 (M : MM) : coV M 0 = z0 := funext fun s => by
  unfold coV
  rw [if_pos rfl]
  rfl
set_option maxRecDepth 20000 in
theorem f_areSightsM {M0 M : MM} (G : axG M0) (e90 : M 90 = M0 90) (e85 : M 85 = M0 85) {nn : Nat} (hn : nn ≤ 10) {n : Nat} (k0 : ¬ sgG (M0 85) (tpY M0) nn → ∀ x : Int, x = 0 → Q (vi x) M) (k1 : sgG (M0 85) (tpY M0) nn → ∀ x : Int, x = 1 → Q (vi x) M) : PC sc n m_X12_areSights [vr 81, vi (nn : Int)] M Q := by
  have lp : ∀ (m i n : Nat), i + m = nn → sgG (M0 85) (tpY M0) i → PW sc n m_X12_areSights 2 [] [some (vr 81), some (vi (nn : Int)), some (vi (i : Int))] M Q := by
    intro m
    induction m with
    | zero =>
      intro i n hi g
      have hi : i = nn := hi
      subst hi
      exact pw_X12_areSights_2 _ _ M fun n1 _ => brT (Int.le_refl _) (k1 g 1 rfl)
    | succ m ih =>
      intro i n hi g
      have r1 := rA_90 G.1 (2 * i + 1)
      have y1 : tpY M0 (2 * i + 1) = M0 90 (2 * i + 1) % 256 := rfl
      have w2 : w32 (2 * (i : Int)) = ((2 * i : Nat) : Int) := ew32 (by omega) (by omega)
      have w3 : w32 (((2 * i : Nat) : Int) + 1) = ((2 * i + 1 : Nat) : Int) := ew32 (by omega) (by omega)
      refine pw_X12_areSights_2 _ _ M fun n1 _ => brF (by omega) ?_
      rw [w2, w3, show (((2 * i + 1 : Nat) : Int)).toNat = 2 * i + 1 by omega, show (((2 * i : Nat) : Int)).toNat = 2 * i by omega, show w32 ((i : Int) + 1) = ((i + 1 : Nat) : Int) from ew32 (by omega) (by omega), e90]
      have bad : ¬ ((sgS (tpY M0) i ≤ 63 ∧ M0 85 (sgS (tpY M0) i).toNat ≠ 1) ∧ (0 < i → sgT (tpY M0) (i - 1) ≤ sgT (tpY M0) i)) → Q (vi 0) M := fun z => k0 (fun y => z (y i (by omega))) 0 rfl
      have good : ((sgS (tpY M0) i ≤ 63 ∧ M0 85 (sgS (tpY M0) i).toNat ≠ 1) ∧ (0 < i → sgT (tpY M0) (i - 1) ≤ sgT (tpY M0) i)) → ∀ n, PW sc n m_X12_areSights 2 [] [some (vr 81), some (vi (nn : Int)), some (vi ((i + 1 : Nat) : Int))] M Q := fun z n => ih (i + 1) n (by omega) fun a ha => by
        by_cases q : a = i
        · subst q
          exact z
        · exact g a (by omega)
      refine gMB (p_in (fun z x hx => cI_i (brT hx (bad fun y => ?_))) fun z x hx => cI_i (brF (by omega) (gMB (gMB ?_))))
      · have : tpY M0 (2 * i + 1) ≤ 63 := y.1.1
        omega
      have es : M0 90 (2 * i + 1) = sgS (tpY M0) i := by
        show M0 90 (2 * i + 1) = tpY M0 (2 * i + 1)
        omega
      rw [e85, e90, es]
      have hs : sgS (tpY M0) i ≤ 63 := by omega
      refine brP (fun c => brP (fun c2 => good ⟨⟨hs, c⟩, fun y => by omega⟩ n1) fun c2 => gMB (gMB ?_)) fun c => bad fun y => c y.1.2
      rw [show w32 (((2 * i : Nat) : Int) - 2) = ((2 * (i - 1) : Nat) : Int) by rw [ew32 (by omega) (by omega)]; omega, show (((2 * (i - 1) : Nat) : Int)).toNat = 2 * (i - 1) by omega, tpY_m G.1, tpY_m G.1]
      exact brP (fun c3 => good ⟨⟨hs, c⟩, fun _ => c3⟩ n1) fun c3 => bad fun y => c3 (y.2 (by omega))
  exact pc_X12_areSights _ M fun n1 _ => lp nn 0 n1 (Nat.zero_add _) fun a ha => absurd ha (Nat.not_lt_zero a)
/- which pairs one ghost can make, laid by the reference -/
def cbI (K t : Nat → Int) (n i j : Nat) (A : Nat → Int) : Prop := ∀ a b, a < n → b < n → (a < i ∨ (a = i ∧ b < j)) → (A (10 * a + b) = 0 ∨ A (10 * a + b) = 1) ∧ (A (10 * a + b) = 1 ↔ (a < b ∧ cbP K t a b))
theorem cbI_st {K t : Nat → Int} {n i j : Nat} {A A' : Nat → Int} {v : Int} (hn : n ≤ 10) (hj : j < n) (I : cbI K t n i j A) (e : A' (10 * i + j) = v) (o : ∀ x, x ≠ 10 * i + j → A' x = A x) (hv : v = 0 ∨ v = 1) (h : v = 1 ↔ (i < j ∧ cbP K t i j)) : cbI K t n i (j + 1) A' := fun a b ha hb q => by
  by_cases z : a = i ∧ b = j
  · obtain ⟨z1, z2⟩ := z
    subst z1 z2
    rw [e]
    exact ⟨hv, h⟩
  · rw [o _ (by omega)]
    exact I a b ha hb (by omega)
set_option maxRecDepth 20000 in
set_option maxRecDepth 20000 in
theorem f_laysBothM {M0 : MM} (G : axG M0) {nn : Nat} (hn : nn ≤ 10) (good : sgG (M0 85) (tpY M0) nn) {M : MM} (F : ∀ c, (c < 114 ∨ 115 < c) → c ≠ 81 → M c = M0 c) {n : Nat} (k : ∀ M1, (∀ c, (c < 114 ∨ 115 < c) → c ≠ 81 → M1 c = M0 c) → cbI (M0 85) (tpY M0) nn nn 0 (M1 115) → Q (vi 0) M1) : PC sc n m_X12_laysBoth [vr 81, vi (nn : Int)] M Q := by
  have l2 : ∀ (m i n : Nat) (o3 : Option Vv) (M1 : MM), i + m = nn → (∀ c, (c < 114 ∨ 115 < c) → c ≠ 81 → M1 c = M0 c) → cbI (M0 85) (tpY M0) nn i 0 (M1 115) → PW sc n m_X12_laysBoth 2 [] [some (vr 81), some (vi (nn : Int)), some (vi (i : Int)), o3] M1 Q := by
    intro m
    induction m with
    | zero =>
      intro i n o3 M1 hi F1 I
      have hi : i = nn := hi
      subst hi
      exact pw_X12_laysBoth_2 _ _ _ M1 fun n1 _ => brT (Int.le_refl _) (k M1 F1 I)
    | succ m ih =>
      intro i n o3 M1 hi F1 I
      have hin : i < nn := by omega
      have gi := (good i hin).1
      have ri := rA_90 G.1 (2 * i + 1)
      have yi : tpY M0 (2 * i + 1) = M0 90 (2 * i + 1) % 256 := rfl
      have gi1 : tpY M0 (2 * i + 1) ≤ 63 := gi.1
      have w2 : ∀ x : Nat, x ≤ 10 → w32 (2 * (x : Int)) = ((2 * x : Nat) : Int) := fun x hx => ew32 (by omega) (by omega)
      have w3 : ∀ x : Nat, x ≤ 10 → w32 (((2 * x : Nat) : Int) + 1) = ((2 * x + 1 : Nat) : Int) := fun x hx => ew32 (by omega) (by omega)
      refine pw_X12_laysBoth_2 _ _ _ M1 fun n1 _ => brF (by omega) ?_
      rw [w2 i (by omega), w3 i (by omega), show (((2 * i + 1 : Nat) : Int)).toNat = 2 * i + 1 by omega, F1 90 (by decide) (by decide)]
      refine gMB ?_
      obtain ⟨a, ea⟩ : ∃ a : Nat, M0 90 (2 * i + 1) = (a : Int) := ⟨(M0 90 (2 * i + 1)).toNat, by omega⟩
      rw [ea]
      refine f_laysM G (F1 82 (by decide) (by decide)) (F1 85 (by decide) (by decide)) (by omega) fun M2 C F2 hC rC => ?_
      rw [coV_0] at hC
      have hC2 : lcR (M0 85) z0 (sgS (tpY M0) i).toNat 0 C := by
        rw [show (sgS (tpY M0) i).toNat = a by show (tpY M0 (2 * i + 1)).toNat = a; omega]
        exact hC
      have l18 : ∀ (q j n : Nat) (M3 : MM), j + q = nn → (∀ c, (c < 114 ∨ 115 < c) → c ≠ 81 → M3 c = M0 c) → (∀ s, s < 64 → M3 114 s = cvV (C s)) → cbI (M0 85) (tpY M0) nn i j (M3 115) → PW sc n m_X12_laysBoth 18 [] [some (vr 81), some (vi (nn : Int)), some (vi (i : Int)), some (vi (j : Int))] M3 Q := by
        intro q
        induction q with
        | zero =>
          intro j n M3 hj F3 e114 I3
          have hj : j = nn := hj
          subst hj
          refine pw_X12_laysBoth_18 _ _ _ M3 fun n1 _ => brT (Int.le_refl _) ?_
          rw [show w32 ((i : Int) + 1) = ((i + 1 : Nat) : Int) from ew32 (by omega) (by omega)]
          exact ih (i + 1) n1 _ M3 (by omega) F3 fun a b ha hb z => I3 a b ha hb (by omega)
        | succ q ihq =>
          intro j n M3 hj F3 e114 I3
          have hjn : j < nn := by omega
          refine pw_X12_laysBoth_18 _ _ _ M3 fun n1 _ => brF (by omega) ?_
          rw [show w32 (10 * (i : Int)) = ((10 * i : Nat) : Int) from ew32 (by omega) (by omega), show w32 (((10 * i : Nat) : Int) + (j : Int)) = ((10 * i + j : Nat) : Int) from ew32 (by omega) (by omega), show (((10 * i + j : Nat) : Int)).toNat = 10 * i + j by omega, show w32 ((j : Int) + 1) = ((j + 1 : Nat) : Int) from ew32 (by omega) (by omega)]
          have st : ∀ (v : Int) (n : Nat), (v = 0 ∨ v = 1) → (v = 1 ↔ (i < j ∧ cbP (M0 85) (tpY M0) i j)) → PW sc n m_X12_laysBoth 18 [] [some (vr 81), some (vi (nn : Int)), some (vi (i : Int)), some (vi ((j + 1 : Nat) : Int))] (stM M3 115 (10 * i + j) v) Q := fun v n hv h => ihq (j + 1) n _ (by omega) (fun c c1 c2 => (stK (by omega)).trans (F3 c c1 c2)) (fun s hs => by rw [stK (by decide)]; exact e114 s hs) (cbI_st hn hjn I3 stE (fun x hx => stO hx) hv h)
          refine brP (fun c => gMB (st 0 n1 (.inl rfl) ⟨fun z => absurd z (by decide), fun z => by omega⟩)) fun c => ?_
          rw [w2 j (by omega), w3 j (by omega), w2 i (by omega)]
          refine gMB (gMB (gMB (gMB ?_)))
          have hij : i < j := by omega
          have gj := (good j hjn).1
          have rj := rA_90 G.1 (2 * j + 1)
          have yj : tpY M0 (2 * j + 1) = M0 90 (2 * j + 1) % 256 := rfl
          have gj1 : tpY M0 (2 * j + 1) ≤ 63 := gj.1
          have t2 := tpY_r M0 (2 * j)
          have t3 := tpY_r M0 (2 * i)
          rw [show (((2 * j + 1 : Nat) : Int)).toNat = 2 * j + 1 by omega, show (((2 * j : Nat) : Int)).toNat = 2 * j by omega, show (((2 * i : Nat) : Int)).toNat = 2 * i by omega, F3 90 (by decide) (by decide), tpY_m G.1, tpY_m G.1, show w32 (tpY M0 (2 * j) - tpY M0 (2 * i)) = tpY M0 (2 * j) - tpY M0 (2 * i) from ew32 (by omega) (by omega), show (M0 90 (2 * j + 1)).toNat = (sgS (tpY M0) j).toNat by show _ = (tpY M0 (2 * j + 1)).toNat; omega, e114 _ (by show (tpY M0 (2 * j + 1)).toNat < 64; omega)]
          have iff := cbP_iff hC2 (j := j) (by show (tpY M0 (2 * j + 1)).toNat < 64; omega)
          have iff : cbP (M0 85) (tpY M0) i j ↔ 0 ≤ C (sgS (tpY M0) j).toNat ∧ C (sgS (tpY M0) j).toNat ≤ tpY M0 (2 * j) - tpY M0 (2 * i) := iff
          unfold cvV
          refine brP (fun lt => gMB (st 0 n1 (.inl rfl) ⟨fun z => absurd z (by decide), fun z => ?_⟩)) fun ge => gMB (st 1 n1 (.inr rfl) ⟨fun _ => ⟨hij, iff.mpr ?_⟩, fun _ => rfl⟩)
          · have y := iff.mp z.2
            rw [if_neg (by omega)] at lt
            omega
          · by_cases z : C (sgS (tpY M0) j).toNat < 0
            · rw [if_pos z] at ge
              omega
            · rw [if_neg z] at ge
              omega
      exact l18 nn 0 n1 M2 (Nat.zero_add _) (fun c c1 c2 => (F2 c (by omega)).trans (F1 c c1 c2)) (fun s hs => (rC s hs).1) (by rw [F2 115 (by decide)]; exact I)
  exact pc_X12_laysBoth _ M fun n1 _ => l2 nn 0 n1 none M (Nat.zero_add _) F fun a b ha hb z => by omega
set_option maxRecDepth 20000 in
theorem f_apartM {K t : Nat → Int} {nn : Nat} (hn : nn ≤ 10) {M : MM} (I : cbI K t nn nn 0 (M 115)) {s : Nat} {n : Nat} (k0 : ¬ apP K t nn s → ∀ x : Int, x = 0 → Q (vi x) M) (k1 : apP K t nn s → ∀ x : Int, x = 1 → Q (vi x) M) : PC sc n m_X12_areApart [vr 81, vi (s : Int), vi (nn : Int)] M Q := by
  have lp : ∀ (m i n : Nat) (o4 : Option Vv), i + m = nn → (∀ a b : Nat, a < i → a < b → b < nn → bit (s : Int) a = true → bit (s : Int) b = true → ¬ cbP K t a b) → PW sc n m_X12_areApart 2 [] [some (vr 81), some (vi (s : Int)), some (vi (nn : Int)), some (vi (i : Int)), o4] M Q := by
    intro m
    induction m with
    | zero =>
      intro i n o4 hi h
      have hi : i = nn := hi
      subst hi
      exact pw_X12_areApart_2 _ _ _ _ M fun n1 _ => brT (Int.le_refl _) (k1 (fun a b hab hb z1 z2 => h a b (by omega) hab hb z1 z2) 1 rfl)
    | succ m ih =>
      intro i n o4 hi h
      refine pw_X12_areApart_2 _ _ _ _ M fun n1 _ => brF (by omega) ?_
      rw [show w32 ((i : Int) + 1) = ((i + 1 : Nat) : Int) from ew32 (by omega) (by omega)]
      have l9 : ∀ (q j n : Nat), j + q = nn → i < j → (∀ b : Nat, i < b → b < j → bit (s : Int) i = true → bit (s : Int) b = true → ¬ cbP K t i b) → PW sc n m_X12_areApart 9 [] [some (vr 81), some (vi (s : Int)), some (vi (nn : Int)), some (vi (i : Int)), some (vi (j : Int))] M Q := by
        intro q
        induction q with
        | zero =>
          intro j n hj hij g
          have hj : j = nn := hj
          subst hj
          refine pw_X12_areApart_9 _ _ _ _ M fun n1 _ => brT (Int.le_refl _) ?_
          rw [show w32 ((i : Int) + 1) = ((i + 1 : Nat) : Int) from ew32 (by omega) (by omega)]
          refine ih (i + 1) n1 _ (by omega) fun a b ha hab hb z1 z2 => ?_
          by_cases q : a = i
          · subst q
            exact g b hab hb z1 z2
          · exact h a b (by omega) hab hb z1 z2
        | succ q ihq =>
          intro j n hj hij g
          have hjn : j < nn := by omega
          refine pw_X12_areApart_9 _ _ _ _ M fun n1 _ => brF (by omega) ?_
          rw [show w32 ((j : Int) + 1) = ((j + 1 : Nat) : Int) from ew32 (by omega) (by omega), show w32 (10 * (i : Int)) = ((10 * i : Nat) : Int) from ew32 (by omega) (by omega), show w32 (((10 * i : Nat) : Int) + (j : Int)) = ((10 * i + j : Nat) : Int) from ew32 (by omega) (by omega), show (((10 * i + j : Nat) : Int)).toNat = 10 * i + j by omega]
          have nxt : (bit (s : Int) i = true → bit (s : Int) j = true → ¬ cbP K t i j) → ∀ n, PW sc n m_X12_areApart 9 [] [some (vr 81), some (vi (s : Int)), some (vi (nn : Int)), some (vi (i : Int)), some (vi ((j + 1 : Nat) : Int))] M Q := fun c n => ihq (j + 1) n (by omega) (by omega) fun b hb1 hb2 z1 z2 => by
            by_cases q : b = j
            · subst q
              exact c z1 z2
            · exact g b hb1 (by omega) z1 z2
          have cell := I i j (by omega) hjn (.inl (by omega))
          refine p_has (by omega) (fun b x hx => cI_i (brT hx (nxt (fun z => absurd (b.symm.trans z) (by decide)) n1))) fun b1 x hx => cI_i (brF (by omega) (p_has (by omega) (fun b x hx => cI_i (brT hx (nxt (fun _ z => absurd (b.symm.trans z) (by decide)) n1))) fun b2 x hx => cI_i (brF (by omega) (gMB (brP (fun c => nxt (fun _ _ z => ?_) n1) fun c => k0 (fun ap => ap i j hij hjn b1 b2 ?_) 0 rfl)))))
          · rw [cell.2.mpr ⟨hij, z⟩] at c
            exact absurd c (by decide)
          · exact (cell.2.mp (by rcases cell.1 with y | y
                                 · exact absurd y c
                                 · exact y)).2
      exact l9 (nn - (i + 1)) (i + 1) n1 (by omega) (by omega) fun b h1 h2 => by omega
  exact pc_X12_areApart _ _ M fun n1 _ => lp nn 0 n1 none (Nat.zero_add _) fun a b ha => absurd ha (Nat.not_lt_zero a)
set_option maxRecDepth 20000 in
theorem f_ghostsM {K t : Nat → Int} {nn : Nat} (hn : nn ≤ 10) {M : MM} (I : cbI K t nn nn 0 (M 115)) {n : Nat} (k : Q (vi (ghV (apP K t nn) (2 ^ nn - 1) 1 0)) M) : PC sc n m_X12_ghostsFor [vr 81, vi (nn : Int)] M Q := by
  have h2 := p2_r nn (by omega)
  have lp : ∀ (m s n : Nat) (most : Int), s + m = 2 ^ nn → ghV (apP K t nn) (2 ^ nn - 1) 1 0 = ghV (apP K t nn) m s most → PW sc n m_X12_ghostsFor 4 [] [some (vr 81), some (vi (nn : Int)), some (vi most), some (vi (s : Int))] M Q := by
    intro m
    induction m with
    | zero =>
      intro s n most hs e
      have hs : s = 2 ^ nn := hs
      have e : ghV (apP K t nn) (2 ^ nn - 1) 1 0 = most := e
      refine pw_X12_ghostsFor_4 _ _ _ M fun n1 _ => ?_
      rw [shl_p nn (by omega)]
      refine brT (by omega) ?_
      rw [← e]
      exact k
    | succ m ih =>
      intro s n most hs e
      refine pw_X12_ghostsFor_4 _ _ _ M fun n1 _ => ?_
      rw [shl_p nn (by omega), show w32 ((s : Int) + 1) = ((s + 1 : Nat) : Int) from ew32 (by omega) (by omega)]
      refine brF (by omega) (PC.of (s_bits (d := 1) (cI_i (brP (fun c => ih (s + 1) n1 _ (by omega) ?_) fun c => f_apartM hn I (fun na x hx => cI_i (brT hx (ih (s + 1) n1 _ (by omega) ?_))) fun ap x hx => cI_i (brF (by omega) (PC.of (s_bits (d := 1) (cI_i (ih (s + 1) n1 _ (by omega) ?_)))))))))
      · rw [e, ghV_f fun z => by have := z.1; omega]
      · rw [e, ghV_f fun z => na z.2]
      · rw [e, ghV_t ⟨by omega, ap⟩]
  refine pc_X12_ghostsFor _ M fun n1 _ => ?_
  have l1 : PW sc n1 m_X12_ghostsFor 4 [] [some (vr 81), some (vi (nn : Int)), some (vi 0), some (vi ((1 : Nat) : Int))] M Q := lp (2 ^ nn - 1) 1 n1 0 (by omega) rfl
  exact l1
set_option maxRecDepth 20000 in
set_option maxRecDepth 20000 in
theorem f_fromM {M0 : MM} (G : axG M0) {nn : Nat} (hn : 1 ≤ nn ∧ nn ≤ 10) (good : sgG (M0 85) (tpY M0) nn) {M : MM} (F : ∀ c, (c < 114 ∨ 115 < c) → c ≠ 81 → M c = M0 c) (I : cbI (M0 85) (tpY M0) nn nn 0 (M 115)) {n : Nat} (k0 : ¬ (∀ k, k + 1 < nn → cbP (M0 85) (tpY M0) k (k + 1)) → ∀ M1, Q (vi 0) M1) (k1 : (∀ k, k + 1 < nn → cbP (M0 85) (tpY M0) k (k + 1)) → ∀ M1, Q (vi (sbV (fun h => dcB (fwP M0 (M0 85) (tpY M0) h)) 10 0 0)) M1) : PC sc n m_X12_fromWhere [vr 81, vi (nn : Int)] M Q := by
  have g0 := (good 0 (by omega)).1
  have g01 : tpY M0 1 ≤ 63 := g0.1
  have r1 := rA_90 G.1 1
  have y1 : tpY M0 1 = M0 90 1 % 256 := rfl
  have l2 : ∀ (m i n : Nat) (o3 : Option Vv), i + 1 + m = nn → (∀ k, k < i → cbP (M0 85) (tpY M0) k (k + 1)) → PW sc n m_X12_fromWhere 2 [] [some (vr 81), some (vi (nn : Int)), some (vi (i : Int)), o3] M Q := by
    intro m
    induction m with
    | zero =>
      intro i n o3 hi all
      have hi : i + 1 = nn := hi
      have k1 := k1 fun k hk => all k (by omega)
      refine pw_X12_fromWhere_2 _ _ _ M fun n1 _ => ?_
      rw [show w32 ((i : Int) + 1) = ((i + 1 : Nat) : Int) from ew32 (by omega) (by omega), F 90 (by decide) (by decide)]
      refine brT (by omega) ?_
      obtain ⟨a, ea⟩ : ∃ a : Nat, M0 90 1 = (a : Int) := ⟨(M0 90 1).toNat, by omega⟩
      rw [ea]
      refine f_laysM G (F 82 (by decide) (by decide)) (F 85 (by decide) (by decide)) (by omega) fun M2 C F2 hC rC => ?_
      rw [coV_0] at hC
      have hC2 : lcR (M0 85) z0 (sgS (tpY M0) 0).toNat 0 C := by
        rw [show (sgS (tpY M0) 0).toNat = a by show (tpY M0 1).toNat = a; omega]
        exact hC
      have F3 : ∀ c, (c < 114 ∨ 115 < c) → c ≠ 81 → M2 c = M0 c := fun c c1 c2 => (F2 c (by omega)).trans (F c c1 c2)
      have l33 : ∀ (q h n : Nat) (acc : Int), h + q = 10 → Q (vi (sbV (fun h => dcB (fwP M0 (M0 85) (tpY M0) h)) q h acc)) M2 → PW sc n m_X12_fromWhere 33 [] [some (vr 81), some (vi (nn : Int)), some (vi acc), some (vi (h : Int))] M2 Q := by
        intro q
        induction q with
        | zero =>
          intro h n acc hq k
          have hq : h = 10 := hq
          subst hq
          exact pw_X12_fromWhere_33 _ _ _ M2 fun n1 _ => brT (by decide) k
        | succ q ihq =>
          intro h n acc hq k
          rw [sbV_s] at k
          have rh := rA_86 G.1 h
          have t0 := tpY_r M0 0
          refine pw_X12_fromWhere_33 _ _ _ M2 fun n1 _ => brF (by omega) ?_
          rw [show w32 ((h : Int) + 1) = ((h + 1 : Nat) : Int) from ew32 (by omega) (by omega)]
          have skip : ¬ fwP M0 (M0 85) (tpY M0) h → ∀ n, PW sc n m_X12_fromWhere 33 [] [some (vr 81), some (vi (nn : Int)), some (vi acc), some (vi ((h + 1 : Nat) : Int))] M2 Q := fun z n => ihq (h + 1) n acc (by omega) (by
            rw [dcB_f z, if_neg (by decide)] at k
            exact k)
          refine f_hasSpotM (fun z x hx => cI_i (brT hx (skip (fun y => z ?_) n1))) fun hs x hx => cI_i (brF (by omega) (gMB (gMB ?_)))
          · rw [F3 86 (by decide) (by decide), show ((h : Int)).toNat = h by omega]
            exact ⟨by omega, y.1⟩
          have hs := hs.2
          rw [F3 86 (by decide) (by decide), show ((h : Int)).toNat = h by omega] at hs
          rw [F3 86 (by decide) (by decide), F3 90 (by decide) (by decide), tpY_m G.1, show ((h : Int)).toNat = h by omega, (rC _ (by omega)).1]
          unfold cvV
          refine brP (fun lt => skip (fun ⟨_, E, e1, e2, e3⟩ => ?_) n1) fun ge => ihq (h + 1) n1 _ (by omega) ?_
          · have ee := lcR_eq rfl hC2 e1 (M0 86 h).toNat (by omega)
            have e3 : E (M0 86 h).toNat ≤ tpY M0 0 := e3
            rw [if_neg (by omega)] at lt
            omega
          · have yes : fwP M0 (M0 85) (tpY M0) h := by
              refine ⟨hs, C, hC2, ?_⟩
              show 0 ≤ C (M0 86 h).toNat ∧ C (M0 86 h).toNat ≤ tpY M0 0
              by_cases z : C (M0 86 h).toNat < 0
              · rw [if_pos z] at ge
                omega
              · rw [if_neg z] at ge
                omega
            rw [dcB_t yes, if_pos rfl] at k
            exact k
      exact l33 10 0 n1 0 rfl (k1 M2)
    | succ m ih =>
      intro i n o3 hi all
      have w10 : w32 (10 * (i : Int)) = ((10 * i : Nat) : Int) := ew32 (by omega) (by omega)
      have w11 : w32 (((10 * i : Nat) : Int) + (i : Int)) = ((10 * i + i : Nat) : Int) := ew32 (by omega) (by omega)
      have w12 : w32 (((10 * i + i : Nat) : Int) + 1) = ((10 * i + (i + 1) : Nat) : Int) := ew32 (by omega) (by omega)
      refine pw_X12_fromWhere_2 _ _ _ M fun n1 _ => ?_
      rw [show w32 ((i : Int) + 1) = ((i + 1 : Nat) : Int) from ew32 (by omega) (by omega), w10, w11, w12, show (((10 * i + (i + 1) : Nat) : Int)).toNat = 10 * i + (i + 1) by omega]
      have cell := I i (i + 1) (by omega) (by omega) (.inl (by omega))
      refine brF (by omega) (gMB (brP (fun c => ih (i + 1) n1 _ (by omega) fun k hk => ?_) fun c => k0 (fun z => ?_) M))
      · by_cases q : k = i
        · subst q
          exact (cell.2.mp (by rcases cell.1 with y | y
                               · exact absurd y c
                               · exact y)).2
        · exact all k (by omega)
      · have c := Classical.not_not.mp c
        rw [cell.2.mpr ⟨Nat.lt_succ_self _, z i (by omega)⟩] at c
        exact absurd c (by decide)
  exact pc_X12_fromWhere _ M fun n1 _ => l2 (nn - 1) 0 n1 none (by omega) fun k hk => absurd hk (Nat.not_lt_zero k)
set_option maxRecDepth 20000 in
set_option maxRecDepth 20000 in
theorem f_sightM {M : MM} (G : axG M) {v w : Int} {n : Nat} : PC sc n m_X12_sightings [vr 81, vi v, vi w] M (fun r _ => (¬ sgOk M v w → r = vi (-1)) ∧ (sgOk M v w → r = vi (sgV2 M (tpY M) v.toNat w))) := by
  have no : ∀ M1 : MM, ¬ sgOk M v w → (¬ sgOk M v w → vi (-1) = vi (-1)) ∧ (sgOk M v w → vi (-1) = vi (sgV2 M (tpY M) v.toNat w)) := fun _ z => ⟨fun _ => rfl, fun y => absurd y z⟩
  refine pc_X12_sightings _ _ M fun n1 _ => p_in (fun z x hx => cI_i (brT hx (no M fun y => z y.1))) fun h1 x hx => cI_i (brF (by omega) (p_in (fun z x hx => cI_i (brT hx (no M fun y => z y.2.1))) fun h2 x hx => cI_i (brF (by omega) ?_)))
  obtain ⟨nn, hn⟩ : ∃ nn : Nat, v = (nn : Int) := ⟨v.toNat, by omega⟩
  subst hn
  rw [show w32 (2 * (nn : Int)) = 2 * (nn : Int) from ew32 (by omega) (by omega)]
  refine brP (fun h3 => ?_) fun h3 => no M fun y => h3 y.2.2
  have ok : sgOk M (nn : Int) w := ⟨h1, h2, h3⟩
  have fin : ∀ x, x = sgV2 M (tpY M) nn w → (¬ sgOk M (nn : Int) w → vi x = vi (-1)) ∧ (sgOk M (nn : Int) w → vi x = vi (sgV2 M (tpY M) ((nn : Int)).toNat w)) := fun x hx => ⟨fun y => absurd ok y, fun _ => by rw [hx, show ((nn : Int)).toNat = nn by omega]⟩
  have F : ∀ c, (c < 114 ∨ 115 < c) → c ≠ 81 → stM M 81 10 0 c = M c := fun c _ c2 => stK c2
  refine f_areSightsM G (F 90 (by decide) (by decide)) (F 85 (by decide) (by decide)) (by omega) (fun bad x hx => cI_i (brF (by omega) (fin _ (sgV2_no bad).symm))) fun good x hx => cI_i (brT (by omega) (f_laysBothM G (by omega) good F fun M1 F1 I => brP (fun hw => f_fromM G (by omega) good F1 I (fun z M4 => cI_i (fin _ ?_)) fun z M4 => cI_i (fin _ ?_)) fun hw => f_ghostsM (by omega) I (cI_i (fin _ ?_))))
  · rw [sgV2_go good, if_neg hw]
    exact (@if_neg _ (Classical.propDecidable _) z _ _ _).symm
  · rw [sgV2_go good, if_neg hw]
    exact (@if_pos _ (Classical.propDecidable _) z _ _ _).symm
  · rw [sgV2_go good, if_pos (Classical.not_not.mp hw)]
def MdQ_sightings (v w x : Int) (M1 : MM) : Prop := MdA_sightings v w x M1 ∧ (¬ sgOk M1 v w → x = -1) ∧ (sgOk M1 v w → x = sgV2 M1 (tpY M1) v.toNat w)
theorem csQ_sightings {M : MM} {v w : Int} (i0 : in32 v) (i1 : in32 w) (G : GdA M) : CA FF sc YF 59 m_X11_sightings [vr 0, vi v, vi w] M (fun r M1 => ∃ x, r = vi x ∧ MdQ_sightings v w x M1) := by
  refine ((csA_sightings i0 i1 G).and fun n => (PC.of (n := n) (cf_sightings i0 i1 G.1.1)).and (f_sightC G)).mono fun r M1 q => ?_
  obtain ⟨⟨x, hx, p⟩, ⟨-, -, u, -⟩, q1, q2⟩ := q
  have eo : sgOk M1 v w ↔ sgOk M v w := by
    unfold sgOk
    rw [u 81 (by decide)]
  refine ⟨x, hx, p, fun z => ?_, fun z => ?_⟩
  · have := q1 fun y => z (eo.mpr y)
    rw [hx] at this
    exact Sum.inl.inj this
  · have := q2 (eo.mp z)
    rw [hx] at this
    rw [sgV2_up u, tpY_up u]
    exact Sum.inl.inj this
theorem msQ_sightings {M : MM} {v w x : Int} (i0 : in32 v) (i1 : in32 w) (G : MdQ_sightings v w x M) : CA FF sc YF 59 m_X12_sightings [vr 81, vi v, vi w] M (fun r M1 => ∃ y, r = vi y ∧ GdA M1 ∧ y = x) := by
  refine ((msA_sightings i0 i1 G.1).and fun n => f_sightM G.1.2.2.2.1).mono fun r M1 q => ?_
  obtain ⟨⟨y, hy, p⟩, q1, q2⟩ := q
  refine ⟨y, hy, p, ?_⟩
  by_cases ok : sgOk M v w
  · have := q2 ok
    rw [hy] at this
    rw [Sum.inl.inj this, G.2.2 ok]
  · have := q1 ok
    rw [hy] at this
    rw [Sum.inl.inj this, G.2.1 ok]
end SGR
