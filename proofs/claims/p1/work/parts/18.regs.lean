/-! PART 18: the cells behind the constructors; regions -/
def YF : YY := [(20, 0), (16, 0), (0, 260), (19, 0), (0, 10), (4, 10), (0, 60), (0, 60), (0, 60), (0, 60), (0, 60), (0, 60), (0, 60), (0, 60), (0, 60), (0, 60), (0, 61), (0, 61), (0, 60), (0, 3), (0, 3), (0, 3), (11, 0), (0, 240), (12, 0), (17, 0), (0, 10), (0, 10), (0, 10), (0, 10), (0, 61), (0, 10), (13, 0), (0, 64), (0, 64), (0, 64), (0, 64), (15, 0), (0, 10), (0, 10), (0, 10), (14, 0), (0, 5), (0, 14), (0, 6144), (0, 6144), (17, 0), (0, 10), (0, 10), (0, 10), (0, 10), (17, 0), (0, 10), (0, 10), (0, 10), (0, 10), (0, 10), (18, 0), (0, 64), (0, 10), (3, 64), (18, 0), (0, 64), (0, 10), (3, 64), (10, 0), (0, 16), (0, 16), (0, 16), (0, 320), (0, 320), (0, 10), (0, 64), (10, 0), (0, 16), (0, 16), (0, 16), (0, 320), (0, 320), (0, 10), (0, 64), (21, 0), (0, 36), (0, 36), (0, 36), (0, 64), (0, 10), (0, 10), (0, 10), (1, 600), (1, 260), (0, 260), (0, 260), (0, 16), (0, 16), (0, 16), (0, 16), (0, 260), (0, 16), (0, 16), (0, 16), (0, 16), (0, 64), (0, 10), (1, 60), (0, 3), (0, 3), (0, 3), (0, 260), (0, 10), (0, 10), (0, 61), (0, 64), (0, 64), (0, 64), (2, 100), (0, 92160), (0, 92160), (0, 5), (3, 10), (0, 10)]
def FF (k j : Nat) : Nat := match k with
  | 0 => ([2, 4, 23, 25, 33, 38, 42, 47, 52, 57] : List Nat).getD j 0
  | 1 => ([3] : List Nat).getD j 0
  | 3 => ([5, 6, 17, 18, 19, 20, 21, 22] : List Nat).getD j 0
  | 5 => ([7, 8, 9, 10, 11, 12, 13, 14, 15, 16] : List Nat).getD j 0
  | 22 => ([24] : List Nat).getD j 0
  | 24 => ([26, 31, 32] : List Nat).getD j 0
  | 25 => ([27, 28, 29, 30] : List Nat).getD j 0
  | 32 => ([34, 0, 0, 35, 36, 37] : List Nat).getD j 0
  | 37 => ([39, 40, 41] : List Nat).getD j 0
  | 41 => ([43, 44, 45, 46] : List Nat).getD j 0
  | 46 => ([48, 49, 50, 51] : List Nat).getD j 0
  | 51 => ([53, 54, 55, 56] : List Nat).getD j 0
  | 57 => ([59, 60, 61] : List Nat).getD j 0
  | 61 => ([63, 64, 65] : List Nat).getD j 0
  | 65 => ([0, 67, 68, 69, 70, 71, 0, 72, 73] : List Nat).getD j 0
  | 73 => ([0, 75, 76, 77, 78, 79, 0, 80, 81] : List Nat).getD j 0
  | 81 => ([83, 84, 85, 86, 87, 88, 89, 90, 0, 91, 0, 0, 0, 0, 0, 0, 0, 0, 0, 0, 92, 93, 94, 95, 96, 97, 98, 99, 100, 101, 102, 103, 104, 105, 106, 107, 108, 0, 0, 0, 0, 109, 110, 111, 112, 0, 0, 0, 0, 0, 113, 114, 115, 116, 117, 118, 119, 0, 0, 120, 121] : List Nat).getD j 0
  | _ => 0
theorem ca_X7_add {sc : List Int} {d : Nat} {Q : Vv → MM → Prop} (v1 : Int) (M : MM) (h : WP FF sc YF (d + 1) m_X7_add 2 [] [some (vr 1), some (vi v1), some (vi 24)] M Q) : CA FF sc YF (d + 1) m_X7_add [vr 1, vi v1] M Q := ca_go rfl rfl (fun j => Nat.beq j 2) 32 h
theorem rg_X7_add_2 {sc : List Int} {d : Nat} {Q : Vv → MM → Prop} (v1 : Int) (v2 : Int) (M : MM) (h : brA (decide (v2 < 0))
  (Q (vi 0) M)
  (brA (decide (260 ≤ (M 1 1)))
   (WP FF sc YF (d + 1) m_X7_add 2 [] [some (vr 1), some (vi v1), some (vi (w32 (v2 + (-8))))] M Q)
   (gAnd (decide (0 ≤ (M 1 1)) && decide ((M 1 1) < 260)) (WP FF sc YF (d + 1) m_X7_add 2 [] [some (vr 1), some (vi v1), some (vi (w32 (v2 + (-8))))] (stM (stM M 2 ((M 1 1).toNat) (bAnd (bShr v1 v2) 255)) 1 1 (w32 (((stM M 2 ((M 1 1).toNat) (bAnd (bShr v1 v2) 255)) 1 1) + 1))) Q)))) : WP FF sc YF (d + 1) m_X7_add 2 [] [some (vr 1), some (vi v1), some (vi v2)] M Q := wp_go rfl (fun j => Nat.beq j 2) 32 h
theorem ca_X9_sees {sc : List Int} {d : Nat} {Q : Vv → MM → Prop} (v1 : Int) (v2 : Int) (M : MM) (h : brA (decide (v1 < 0))
  (Q (vi 0) M)
  (brA (decide (64 ≤ v1))
   (Q (vi 0) M)
   (brA (decide (v2 < 0))
    (Q (vi 0) M)
    (brA (decide (v2 < 64))
     (gAnd (decide (0 ≤ v1) && decide (v1 < 64)) (brA (decide ((lcm3 (bAndL (bShrL (M 60 v1.toNat) v2) 1) 1) ≠ 0))
      (Q (vi 0) M)
      (Q (vi 1) M)))
     (Q (vi 0) M))))) : CA FF sc YF (d + 1) m_X9_sees [vr 57, vi v1, vi v2] M Q := ca_go rfl rfl (fun j => false) 32 h
theorem ca_X11_isIn {sc : List Int} {d : Nat} {Q : Vv → MM → Prop} (v0 : Int) (v1 : Int) (v2 : Int) (M : MM) (h : brA (decide (v0 < v1))
  (Q (vi 0) M)
  (brA (decide (v2 < v0))
   (Q (vi 0) M)
   (Q (vi 1) M))) : CA FF sc YF (d + 1) m_X11_isIn [vi v0, vi v1, vi v2] M Q := ca_go rfl rfl (fun j => false) 15 h
theorem ca_X11_stranger {sc : List Int} {d : Nat} {Q : Vv → MM → Prop} (v1 : Int) (v2 : Int) (v3 : Int) (v4 : Int) (M : MM) (h : CA FF sc YF d m_X11_isStranger [vi v1] M (cI fun r2 M1 =>
  brA (decide (r2 = 0))
   (Q (vi 0) M1)
   (CA FF sc YF d m_X11_isIn [vi v2, vi 0, vi 7] M1 (cI fun r4 M3 =>
    brA (decide (r4 = 0))
     (Q (vi 0) M3)
     (CA FF sc YF d m_X11_isIn [vi v3, vi 0, vi 7] M3 (cI fun r6 M5 =>
      brA (decide (r6 ≠ 0))
       (CA FF sc YF d m_X11_isIn [vi v4, vi 1, vi 999] M5 (cI fun r8 M7 =>
        brA (decide (r8 = 0))
         (Q (vi 0) M7)
         (gAnd (decide (0 < M7 0 10)) (gAnd (kd YF ((M7 0 10).toNat - 1) == 18) (CA FF sc YF d m_X9_isWall [vr ((M7 0 10).toNat - 1), vi (w32 ((w32 (8 * v3)) + v2))] M7 (cI fun r10 M9 =>
          brA (decide (r10 = 0))
           (CA FF sc YF d m_X8_putStranger [vr 46, vi v1, vi (w32 ((w32 (8 * v3)) + v2)), vi v4] M9 (fun _ M11 =>
            Q (vi 1) M11))
           (Q (vi 0) M9)))))))
       (Q (vi 0) M5))))))) : CA FF sc YF (d + 1) m_X11_stranger [vr 0, vi v1, vi v2, vi v3, vi v4] M Q := ca_go rfl rfl (fun j => false) 46 h
theorem ca_X3_lookOut {sc : List Int} {d : Nat} {Q : Vv → MM → Prop} (v1 : Nat) (v2 : Nat) (M : MM) (h : CA FF sc YF d m_X3_countVisits [vr 32, vr v1, vr v2] M (fun _ M1 =>
  WP FF sc YF (d + 1) m_X3_lookOut 6 [] [some (vr 32), some (vr v1), some (vr v2), some (vi 0), none] M1 Q)) : CA FF sc YF (d + 1) m_X3_lookOut [vr 32, vr v1, vr v2] M Q := ca_go rfl rfl (fun j => Nat.beq j 6 || Nat.beq j 25) 56 h
theorem rg_X3_lookOut_6 {sc : List Int} {d : Nat} {Q : Vv → MM → Prop} (v1 : Nat) (v2 : Nat) (v3 : Int) (o4 : Option Vv) (M : MM) (h : brA (decide (64 ≤ v3))
  (CA FF sc YF d m_X3_chooseMost [vr 32] M (fun _ M1 =>
   Q (vi 0) M1))
  (gAnd (decide (0 ≤ v3) && decide (v3 < 64)) (gAnd (kd YF v1 == 18) (CA FF sc YF d m_X9_at [vr v1, vi v3] (stM M 34 (v3.toNat) ((-1))) (cI fun r3 M2 =>
   brA (decide (r3 ≠ 0))
    (WP FF sc YF (d + 1) m_X3_lookOut 6 [] [some (vr 32), some (vr v1), some (vr v2), some (vi (w32 (v3 + 1))), o4] M2 Q)
    (gAnd (decide (0 ≤ v3) && decide (v3 < 64)) (WP FF sc YF (d + 1) m_X3_lookOut 25 [] [some (vr 32), some (vr v1), some (vr v2), some (vi v3), some (vi 0)] (stM M2 34 (v3.toNat) 0) Q))))))) : WP FF sc YF (d + 1) m_X3_lookOut 6 [] [some (vr 32), some (vr v1), some (vr v2), some (vi v3), o4] M Q := wp_go rfl (fun j => Nat.beq j 6 || Nat.beq j 25) 56 h
theorem rg_X3_lookOut_25 {sc : List Int} {d : Nat} {Q : Vv → MM → Prop} (v1 : Nat) (v2 : Nat) (v3 : Int) (v4 : Int) (M : MM) (h : brA (decide (64 ≤ v4))
  (WP FF sc YF (d + 1) m_X3_lookOut 6 [] [some (vr 32), some (vr v1), some (vr v2), some (vi (w32 (v3 + 1))), some (vi v4)] M Q)
  (gAnd (kd YF v1 == 18) (CA FF sc YF d m_X9_sees [vr v1, vi v3, vi v4] M (cI fun r2 M1 =>
   brA (decide (r2 = 0))
    (WP FF sc YF (d + 1) m_X3_lookOut 25 [] [some (vr 32), some (vr v1), some (vr v2), some (vi v3), some (vi (w32 (v4 + 1)))] M1 Q)
    (gAnd (decide (0 ≤ v3) && decide (v3 < 64)) (gAnd (decide (0 ≤ v4) && decide (v4 < 64)) (gAnd (decide (0 ≤ v3) && decide (v3 < 64)) (WP FF sc YF (d + 1) m_X3_lookOut 25 [] [some (vr 32), some (vr v1), some (vr v2), some (vi v3), some (vi (w32 (v4 + 1)))] (stM M1 34 (v3.toNat) (w32 ((M1 34 v3.toNat) + (M1 35 v4.toNat)))) Q)))))))) : WP FF sc YF (d + 1) m_X3_lookOut 25 [] [some (vr 32), some (vr v1), some (vr v2), some (vi v3), some (vi v4)] M Q := wp_go rfl (fun j => Nat.beq j 6 || Nat.beq j 25) 56 h
