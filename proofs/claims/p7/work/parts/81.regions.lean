/-! PART 81: what the stretches of the methods come to on the two objects -/
theorem ca_X11_isHouse {F : Nat → Nat → Nat} {Y : YY} {sc : List Int} {d : Nat} {Q : Vv → MM → Prop} (v0 : Int) (M : MM) (h : CA F sc Y d m_X11_isIn [vi v0, vi 0, vi 9] M (cI fun r2 M1 =>
  gAnd (decide (r2 = 0) || decide (r2 = 1)) (Q (vi r2) M1))) : CA F sc Y (d + 1) m_X11_isHouse [vi v0] M Q := ca_go rfl rfl (fun j => false) 10 h
theorem ca_X11_isStranger {F : Nat → Nat → Nat} {Y : YY} {sc : List Int} {d : Nat} {Q : Vv → MM → Prop} (v0 : Int) (M : MM) (h : CA F sc Y d m_X11_isIn [vi v0, vi 0, vi 9] M (cI fun r2 M1 =>
  gAnd (decide (r2 = 0) || decide (r2 = 1)) (Q (vi r2) M1))) : CA F sc Y (d + 1) m_X11_isStranger [vi v0] M Q := ca_go rfl rfl (fun j => false) 10 h
theorem ca_X11_hasBit {F : Nat → Nat → Nat} {Y : YY} {sc : List Int} {d : Nat} {Q : Vv → MM → Prop} (v0 : Int) (v1 : Int) (M : MM) (h : brA (decide ((bAnd (bShr v0 v1) 1) ≠ 1))
  (Q (vi 0) M)
  (Q (vi 1) M)) : CA F sc Y (d + 1) m_X11_hasBit [vi v0, vi v1] M Q := ca_go rfl rfl (fun j => false) 16 h
theorem ca_X12_in {F : Nat → Nat → Nat} {Y : YY} {sc : List Int} {d : Nat} {Q : Vv → MM → Prop} (v0 : Int) (v1 : Int) (v2 : Int) (M : MM) (h : brA (decide (v0 < v1))
  (Q (vi 0) M)
  (brA (decide (v2 < v0))
   (Q (vi 0) M)
   (Q (vi 1) M))) : CA F sc Y (d + 1) m_X12_in [vi v0, vi v1, vi v2] M Q := ca_go rfl rfl (fun j => false) 15 h
theorem ca_X12_isTen {F : Nat → Nat → Nat} {Y : YY} {sc : List Int} {d : Nat} {Q : Vv → MM → Prop} (v0 : Int) (M : MM) (h : brA (decide (v0 < 0))
  (Q (vi 0) M)
  (brA (decide (10 ≤ v0))
   (Q (vi 0) M)
   (Q (vi 1) M))) : CA F sc Y (d + 1) m_X12_isTen [vi v0] M Q := ca_go rfl rfl (fun j => false) 14 h
theorem ca_X12_has {F : Nat → Nat → Nat} {Y : YY} {sc : List Int} {d : Nat} {Q : Vv → MM → Prop} (v0 : Int) (v1 : Int) (M : MM) (h : brA (decide ((bAnd (bShr v0 v1) 1) ≠ 1))
  (Q (vi 0) M)
  (Q (vi 1) M)) : CA F sc Y (d + 1) m_X12_has [vi v0, vi v1] M Q := ca_go rfl rfl (fun j => false) 16 h
theorem ca_X12_max {F : Nat → Nat → Nat} {Y : YY} {sc : List Int} {d : Nat} {Q : Vv → MM → Prop} (v0 : Int) (v1 : Int) (M : MM) (h : brA (decide (v0 ≤ v1))
  (Q (vi v1) M)
  (Q (vi v0) M)) : CA F sc Y (d + 1) m_X12_max [vi v0, vi v1] M Q := ca_go rfl rfl (fun j => false) 12 h
theorem ca_X12_bits {F : Nat → Nat → Nat} {Y : YY} {sc : List Int} {d : Nat} {Q : Vv → MM → Prop} (v0 : Int) (M : MM) (h : WP F sc Y (d + 1) m_X12_bits 4 [] [some (vi v0), some (vi 0), some (vi 0)] M Q) : CA F sc Y (d + 1) m_X12_bits [vi v0] M Q := ca_go rfl rfl (fun j => Nat.beq j 4) 24 h
theorem rg_X12_bits_4 {F : Nat → Nat → Nat} {Y : YY} {sc : List Int} {d : Nat} {Q : Vv → MM → Prop} (v0 : Int) (v1 : Int) (v2 : Int) (M : MM) (h : brA (decide (10 ≤ v2))
  (Q (vi v1) M)
  (WP F sc Y (d + 1) m_X12_bits 4 [] [some (vi v0), some (vi (w32 (v1 + (bAnd (bShr v0 v2) 1)))), some (vi (w32 (v2 + 1)))] M Q)) : WP F sc Y (d + 1) m_X12_bits 4 [] [some (vi v0), some (vi v1), some (vi v2)] M Q := wp_go rfl (fun j => Nat.beq j 4) 24 h
theorem ca_J6_bitCount_0f7a4 {F : Nat → Nat → Nat} {Y : YY} {sc : List Int} {d : Nat} {Q : Vv → MM → Prop} (v0 : Int) (M : MM) (h : Q (vi (bAnd (w32 ((w32 ((bAnd (w32 ((w32 ((bAnd (w32 (v0 - (bAnd (bUsh v0 1) 1431655765))) 858993459) + (bAnd (bUsh (w32 (v0 - (bAnd (bUsh v0 1) 1431655765))) 2) 858993459))) + (bUsh (w32 ((bAnd (w32 (v0 - (bAnd (bUsh v0 1) 1431655765))) 858993459) + (bAnd (bUsh (w32 (v0 - (bAnd (bUsh v0 1) 1431655765))) 2) 858993459))) 4))) 252645135) + (bUsh (bAnd (w32 ((w32 ((bAnd (w32 (v0 - (bAnd (bUsh v0 1) 1431655765))) 858993459) + (bAnd (bUsh (w32 (v0 - (bAnd (bUsh v0 1) 1431655765))) 2) 858993459))) + (bUsh (w32 ((bAnd (w32 (v0 - (bAnd (bUsh v0 1) 1431655765))) 858993459) + (bAnd (bUsh (w32 (v0 - (bAnd (bUsh v0 1) 1431655765))) 2) 858993459))) 4))) 252645135) 8))) + (bUsh (w32 ((bAnd (w32 ((w32 ((bAnd (w32 (v0 - (bAnd (bUsh v0 1) 1431655765))) 858993459) + (bAnd (bUsh (w32 (v0 - (bAnd (bUsh v0 1) 1431655765))) 2) 858993459))) + (bUsh (w32 ((bAnd (w32 (v0 - (bAnd (bUsh v0 1) 1431655765))) 858993459) + (bAnd (bUsh (w32 (v0 - (bAnd (bUsh v0 1) 1431655765))) 2) 858993459))) 4))) 252645135) + (bUsh (bAnd (w32 ((w32 ((bAnd (w32 (v0 - (bAnd (bUsh v0 1) 1431655765))) 858993459) + (bAnd (bUsh (w32 (v0 - (bAnd (bUsh v0 1) 1431655765))) 2) 858993459))) + (bUsh (w32 ((bAnd (w32 (v0 - (bAnd (bUsh v0 1) 1431655765))) 858993459) + (bAnd (bUsh (w32 (v0 - (bAnd (bUsh v0 1) 1431655765))) 2) 858993459))) 4))) 252645135) 8))) 16))) 63)) M) : CA F sc Y (d + 1) m_J6_bitCount_0f7a4 [vi v0] M Q := ca_go rfl rfl (fun j => false) 47 h
theorem ca_X7_add {sc : List Int} {d : Nat} {Q : Vv → MM → Prop} (v1 : Int) (M : MM) (h : WP FF sc YF (d + 1) m_X7_add 2 [] [some (vr 1), some (vi v1), some (vi 24)] M Q) : CA FF sc YF (d + 1) m_X7_add [vr 1, vi v1] M Q := ca_go rfl rfl (fun j => Nat.beq j 2) 32 h
theorem rg_X7_add_2 {sc : List Int} {d : Nat} {Q : Vv → MM → Prop} (v1 : Int) (v2 : Int) (M : MM) (h : brA (decide (v2 < 0))
  (Q (vi 0) M)
  (brA (decide (260 ≤ (M 1 1)))
   (WP FF sc YF (d + 1) m_X7_add 2 [] [some (vr 1), some (vi v1), some (vi (w32 (v2 + (-8))))] M Q)
   (gAnd (decide (0 ≤ (M 1 1)) && decide ((M 1 1) < 260)) (WP FF sc YF (d + 1) m_X7_add 2 [] [some (vr 1), some (vi v1), some (vi (w32 (v2 + (-8))))] (stM (stM M 2 ((M 1 1).toNat) (bAnd (bShr v1 v2) 255)) 1 1 (w32 (((stM M 2 ((M 1 1).toNat) (bAnd (bShr v1 v2) 255)) 1 1) + 1))) Q)))) : WP FF sc YF (d + 1) m_X7_add 2 [] [some (vr 1), some (vi v1), some (vi v2)] M Q := wp_go rfl (fun j => Nat.beq j 2) 32 h
theorem ca_X7_hasText {sc : List Int} {d : Nat} {Q : Vv → MM → Prop} (v1 : Int) (v2 : Int) (M : MM) (h : brA (decide (v1 < 1))
  (Q (vi 0) M)
  (brA (decide (v2 < v1))
   (Q (vi 0) M)
   (brA (decide ((M 1 1) < v1))
    (Q (vi 0) M)
    (Q (vi 1) M)))) : CA FF sc YF (d + 1) m_X7_hasText [vr 1, vi v1, vi v2] M Q := ca_go rfl rfl (fun j => false) 19 h
theorem ca_X7_empty {sc : List Int} {d : Nat} {Q : Vv → MM → Prop}  (M : MM) (h : Q (vi 0) (stM M 1 1 0)) : CA FF sc YF (d + 1) m_X7_empty [vr 1] M Q := ca_go rfl rfl (fun j => false) 9 h
theorem ca_X11_hasSpot {sc : List Int} {d : Nat} {Q : Vv → MM → Prop} (v1 : Int) (M : MM) (h : CA FF sc YF d m_X11_isHouse [vi v1] M (cI fun r2 M1 =>
  brA (decide (r2 = 0))
   (Q (vi 0) M1)
   (gAnd (decide (0 < M1 0 10)) (gAnd ((kd YF ((M1 0 10).toNat - 1) == 18) && rfK (FF ((M1 0 10).toNat - 1) 1) (M1 ((M1 0 10).toNat - 1) 1)) (gAnd ((kd YF (rfO (FF ((M1 0 10).toNat - 1) 1) (M1 ((M1 0 10).toNat - 1) 1)) == 0) && (decide (0 ≤ v1) && decide (v1 < ln YF (rfO (FF ((M1 0 10).toNat - 1) 1) (M1 ((M1 0 10).toNat - 1) 1))))) (brA (decide ((M1 (rfO (FF ((M1 0 10).toNat - 1) 1) (M1 ((M1 0 10).toNat - 1) 1)) v1.toNat) = ((-1))))
    (Q (vi 0) M1)
    (Q (vi 1) M1))))))) : CA FF sc YF (d + 1) m_X11_hasSpot [vr 0, vi v1] M Q := ca_go rfl rfl (fun j => false) 19 h
theorem ca_X11_canHaunt {sc : List Int} {d : Nat} {Q : Vv → MM → Prop} (v1 : Int) (M : MM) (h : CA FF sc YF d m_X11_hasSpot [vr 0, vi v1] M (cI fun r2 M1 =>
  brA (decide (r2 = 0))
   (Q (vi 0) M1)
   (brA (decide (9999 ≤ (M1 46 6)))
    (Q (vi 0) M1)
    (gAnd (decide (0 < M1 0 12)) (gAnd (kd YF ((M1 0 12).toNat - 1) == 10) (CA FF sc YF d m_X0_mayHaunt [vr ((M1 0 12).toNat - 1), vi v1, vi (M1 46 6)] M1 (cI fun r4 M3 =>
     brA (decide (r4 = 0))
      (Q (vi 0) M3)
      (Q (vi 1) M3)))))))) : CA FF sc YF (d + 1) m_X11_canHaunt [vr 0, vi v1] M Q := ca_go rfl rfl (fun j => false) 26 h
theorem ca_X11_dogOf {sc : List Int} {d : Nat} {Q : Vv → MM → Prop} (v1 : Int) (M : MM) (h : CA FF sc YF d m_X11_hasBit [vi (M 0 15), vi v1] M (cI fun r2 M1 =>
  brA (decide (r2 ≠ 0))
   (CA FF sc YF d m_X11_hasBit [vi (M1 46 4), vi v1] M1 (cI fun r4 M3 =>
    brA (decide (r4 = 0))
     (Q (vi 1) M3)
     (Q (vi 2) M3)))
   (Q (vi 0) M1))) : CA FF sc YF (d + 1) m_X11_dogOf [vr 0, vi v1] M Q := ca_go rfl rfl (fun j => false) 22 h
theorem ca_X11_canShare {sc : List Int} {d : Nat} {Q : Vv → MM → Prop} (v1 : Int) (M : MM) (h : CA FF sc YF d m_X11_isIn [vi v1, vi 1, vi 1023] M (cI fun r2 M1 =>
  brA (decide (r2 = 0))
   (Q (vi 0) M1)
   (gAnd (decide (0 < M1 0 10)) (gAnd (kd YF ((M1 0 10).toNat - 1) == 18) (CA FF sc YF d m_X9_housesWithSpots [vr ((M1 0 10).toNat - 1)] M1 (cI fun r4 M3 =>
    brA (decide ((bAnd v1 (bXor r4 ((-1)))) = 0))
     (CA FF sc YF d m_J6_bitCount_0f7a4 [vi v1] M3 (cI fun r6 M5 =>
      brA (decide (5 < r6))
       (Q (vi 0) M5)
       (Q (vi 1) M5)))
     (Q (vi 0) M3))))))) : CA FF sc YF (d + 1) m_X11_canShare [vr 0, vi v1] M Q := ca_go rfl rfl (fun j => false) 28 h
theorem ca_X11_housesThatFit {sc : List Int} {d : Nat} {Q : Vv → MM → Prop} (v1 : Int) (v2 : Int) (v3 : Int) (M : MM) (h : WP FF sc YF (d + 1) m_X11_housesThatFit 4 [] [some (vr 0), some (vi v1), some (vi v2), some (vi v3), some (vi 0), some (vi 0)] M Q) : CA FF sc YF (d + 1) m_X11_housesThatFit [vr 0, vi v1, vi v2, vi v3] M Q := ca_go rfl rfl (fun j => Nat.beq j 4) 39 h
theorem rg_X11_housesThatFit_4 {sc : List Int} {d : Nat} {Q : Vv → MM → Prop} (v1 : Int) (v2 : Int) (v3 : Int) (v4 : Int) (v5 : Int) (M : MM) (h : brA (decide (10 ≤ v5))
  (Q (vi v4) M)
  (CA FF sc YF d m_X11_hasBit [vi v3, vi v5] M (cI fun r2 M1 =>
   brA (decide (r2 = 0))
    (WP FF sc YF (d + 1) m_X11_housesThatFit 4 [] [some (vr 0), some (vi v1), some (vi v2), some (vi v3), some (vi v4), some (vi (w32 (v5 + 1)))] M1 Q)
    (gAnd (decide (0 ≤ v5) && decide (v5 < 10)) (brA (decide ((bAnd (bAnd (bXor (M1 56 v5.toNat) v1) (bXor v2 ((-1)))) 255) ≠ 0))
     (WP FF sc YF (d + 1) m_X11_housesThatFit 4 [] [some (vr 0), some (vi v1), some (vi v2), some (vi v3), some (vi v4), some (vi (w32 (v5 + 1)))] M1 Q)
     (WP FF sc YF (d + 1) m_X11_housesThatFit 4 [] [some (vr 0), some (vi v1), some (vi v2), some (vi v3), some (vi (bOr v4 (bShl 1 v5))), some (vi (w32 (v5 + 1)))] M1 Q)))))) : WP FF sc YF (d + 1) m_X11_housesThatFit 4 [] [some (vr 0), some (vi v1), some (vi v2), some (vi v3), some (vi v4), some (vi v5)] M Q := wp_go rfl (fun j => Nat.beq j 4) 39 h
theorem ca_X11_markThatTells {sc : List Int} {d : Nat} {Q : Vv → MM → Prop} (v1 : Int) (M : MM) (h : CA FF sc YF d m_J6_bitCount_0f7a4 [vi v1] M (cI fun r2 M1 =>
  WP FF sc YF (d + 1) m_X11_markThatTells 9 [] [some (vr 0), some (vi v1), some (vi r2), some (vi 0), some (vi 11), some (vi 0), none, none] M1 Q)) : CA FF sc YF (d + 1) m_X11_markThatTells [vr 0, vi v1] M Q := ca_go rfl rfl (fun j => Nat.beq j 9 || Nat.beq j 16) 55 h
theorem rg_X11_markThatTells_9 {sc : List Int} {d : Nat} {Q : Vv → MM → Prop} (v1 : Int) (v2 : Int) (v3 : Int) (v4 : Int) (v5 : Int) (o6 : Option Vv) (o7 : Option Vv) (M : MM) (h : brA (decide (8 ≤ v5))
  (Q (vi v3) M)
  (WP FF sc YF (d + 1) m_X11_markThatTells 16 [] [some (vr 0), some (vi v1), some (vi v2), some (vi v3), some (vi v4), some (vi v5), some (vi 0), some (vi 0)] M Q)) : WP FF sc YF (d + 1) m_X11_markThatTells 9 [] [some (vr 0), some (vi v1), some (vi v2), some (vi v3), some (vi v4), some (vi v5), o6, o7] M Q := wp_go rfl (fun j => Nat.beq j 9 || Nat.beq j 16) 55 h
theorem rg_X11_markThatTells_16 {sc : List Int} {d : Nat} {Q : Vv → MM → Prop} (v1 : Int) (v2 : Int) (v3 : Int) (v4 : Int) (v5 : Int) (v6 : Int) (v7 : Int) (M : MM) (h : brA (decide (10 ≤ v7))
  (brA (decide (v4 ≤ (mMax v6 (w32 (v2 - v6)))))
   (WP FF sc YF (d + 1) m_X11_markThatTells 9 [] [some (vr 0), some (vi v1), some (vi v2), some (vi v3), some (vi v4), some (vi (w32 (v5 + 1))), some (vi v6), some (vi (mMax v6 (w32 (v2 - v6))))] M Q)
   (WP FF sc YF (d + 1) m_X11_markThatTells 9 [] [some (vr 0), some (vi v1), some (vi v2), some (vi v5), some (vi (mMax v6 (w32 (v2 - v6)))), some (vi (w32 (v5 + 1))), some (vi v6), some (vi (mMax v6 (w32 (v2 - v6))))] M Q))
  (CA FF sc YF d m_X11_hasBit [vi v1, vi v7] M (cI fun r2 M1 =>
   brA (decide (r2 = 0))
    (WP FF sc YF (d + 1) m_X11_markThatTells 16 [] [some (vr 0), some (vi v1), some (vi v2), some (vi v3), some (vi v4), some (vi v5), some (vi v6), some (vi (w32 (v7 + 1)))] M1 Q)
    (gAnd (decide (0 ≤ v7) && decide (v7 < 10)) (CA FF sc YF d m_X11_hasBit [vi (M1 56 v7.toNat), vi v5] M1 (cI fun r4 M3 =>
     brA (decide (r4 = 0))
      (WP FF sc YF (d + 1) m_X11_markThatTells 16 [] [some (vr 0), some (vi v1), some (vi v2), some (vi v3), some (vi v4), some (vi v5), some (vi v6), some (vi (w32 (v7 + 1)))] M3 Q)
      (WP FF sc YF (d + 1) m_X11_markThatTells 16 [] [some (vr 0), some (vi v1), some (vi v2), some (vi v3), some (vi v4), some (vi v5), some (vi (w32 (v6 + 1))), some (vi (w32 (v7 + 1)))] M3 Q))))))) : WP FF sc YF (d + 1) m_X11_markThatTells 16 [] [some (vr 0), some (vi v1), some (vi v2), some (vi v3), some (vi v4), some (vi v5), some (vi v6), some (vi v7)] M Q := wp_go rfl (fun j => Nat.beq j 9 || Nat.beq j 16) 55 h
theorem ca_X8_isTold {sc : List Int} {d : Nat} {Q : Vv → MM → Prop} (v1 : Int) (M : MM) (h : gAnd (decide (0 ≤ v1) && decide (v1 < 10)) (brA (decide ((M 47 v1.toNat) = ((-1))))
  (Q (vi 0) M)
  (Q (vi 1) M))) : CA FF sc YF (d + 1) m_X8_isTold [vr 46, vi v1] M Q := ca_go rfl rfl (fun j => false) 15 h
theorem ca_X8_putStranger {sc : List Int} {d : Nat} {Q : Vv → MM → Prop} (v1 : Int) (v2 : Int) (v3 : Int) (M : MM) (h : gAnd (decide (0 ≤ v1) && decide (v1 < 10)) (gAnd (decide (0 ≤ v1) && decide (v1 < 10)) (gAnd (decide (0 ≤ v1) && decide (v1 < 10)) (gAnd (decide (0 ≤ v1) && decide (v1 < 10)) (Q (vi 0) (stM (stM (stM (stM M 47 (v1.toNat) v2) 48 (v1.toNat) 0) 49 (v1.toNat) v3) 50 (v1.toNat) 0)))))) : CA FF sc YF (d + 1) m_X8_putStranger [vr 46, vi v1, vi v2, vi v3] M Q := ca_go rfl rfl (fun j => false) 26 h
theorem ca_X8_toldStrangers {sc : List Int} {d : Nat} {Q : Vv → MM → Prop}  (M : MM) (h : WP FF sc YF (d + 1) m_X8_toldStrangers 4 [] [some (vr 46), some (vi 0), some (vi 0)] M Q) : CA FF sc YF (d + 1) m_X8_toldStrangers [vr 46] M Q := ca_go rfl rfl (fun j => Nat.beq j 4) 26 h
theorem rg_X8_toldStrangers_4 {sc : List Int} {d : Nat} {Q : Vv → MM → Prop} (v1 : Int) (v2 : Int) (M : MM) (h : brA (decide (10 ≤ v2))
  (Q (vi v1) M)
  (CA FF sc YF d m_X8_isTold [vr 46, vi v2] M (cI fun r2 M1 =>
   brA (decide (r2 = 0))
    (WP FF sc YF (d + 1) m_X8_toldStrangers 4 [] [some (vr 46), some (vi v1), some (vi (w32 (v2 + 1)))] M1 Q)
    (WP FF sc YF (d + 1) m_X8_toldStrangers 4 [] [some (vr 46), some (vi (bOr v1 (bShl 1 v2))), some (vi (w32 (v2 + 1)))] M1 Q)))) : WP FF sc YF (d + 1) m_X8_toldStrangers 4 [] [some (vr 46), some (vi v1), some (vi v2)] M Q := wp_go rfl (fun j => Nat.beq j 4) 26 h
theorem ca_X8_paidStrangers {sc : List Int} {d : Nat} {Q : Vv → MM → Prop}  (M : MM) (h : WP FF sc YF (d + 1) m_X8_paidStrangers 4 [] [some (vr 46), some (vi 0), some (vi 0)] M Q) : CA FF sc YF (d + 1) m_X8_paidStrangers [vr 46] M Q := ca_go rfl rfl (fun j => Nat.beq j 4) 25 h
theorem rg_X8_paidStrangers_4 {sc : List Int} {d : Nat} {Q : Vv → MM → Prop} (v1 : Int) (v2 : Int) (M : MM) (h : brA (decide (10 ≤ v2))
  (Q (vi v1) M)
  (gAnd (decide (0 ≤ v2) && decide (v2 < 10)) (WP FF sc YF (d + 1) m_X8_paidStrangers 4 [] [some (vr 46), some (vi (bOr v1 (bShl (M 50 v2.toNat) v2))), some (vi (w32 (v2 + 1)))] M Q))) : WP FF sc YF (d + 1) m_X8_paidStrangers 4 [] [some (vr 46), some (vi v1), some (vi v2)] M Q := wp_go rfl (fun j => Nat.beq j 4) 25 h
theorem ca_X9_at {sc : List Int} {d : Nat} {Q : Vv → MM → Prop} (v1 : Int) (M : MM) (h : brA (decide (v1 < 0))
  (Q (vi 1) M)
  (brA (decide (64 ≤ v1))
   (Q (vi 1) M)
   (gAnd (decide (0 ≤ v1) && decide (v1 < 64)) (Q (vi (M 58 v1.toNat)) M)))) : CA FF sc YF (d + 1) m_X9_at [vr 57, vi v1] M Q := ca_go rfl rfl (fun j => false) 17 h
theorem ca_X9_isWall {sc : List Int} {d : Nat} {Q : Vv → MM → Prop} (v1 : Int) (M : MM) (h : CA FF sc YF d m_X9_at [vr 57, vi v1] M (cI fun r2 M1 =>
  brA (decide (r2 ≠ 1))
   (Q (vi 0) M1)
   (Q (vi 1) M1))) : CA FF sc YF (d + 1) m_X9_isWall [vr 57, vi v1] M Q := ca_go rfl rfl (fun j => false) 14 h
theorem ca_X9_sees {sc : List Int} {d : Nat} {Q : Vv → MM → Prop} (v1 : Int) (v2 : Int) (M : MM) (h : brA (decide (v1 < 0))
  (Q (vi 0) M)
  (brA (decide (64 ≤ v1))
   (Q (vi 0) M)
   (brA (decide (v2 < 0))
    (Q (vi 0) M)
    (brA (decide (v2 < 64))
     (gAnd (decide (0 ≤ v1) && decide (v1 < 64)) (brA (decide ((lcm3 (bAndL (bShrL (M 60 v1.toNat) v2) 1) 1) ≠ 0))
      (Q (vi 0) M)
      (Q (vi 1) M)))
     (Q (vi 0) M))))) : CA FF sc YF (d + 1) m_X9_sees [vr 57, vi v1, vi v2] M Q := ca_go rfl rfl (fun j => false) 32 h
theorem ca_X9_housesWithSpots {sc : List Int} {d : Nat} {Q : Vv → MM → Prop}  (M : MM) (h : WP FF sc YF (d + 1) m_X9_housesWithSpots 4 [] [some (vr 57), some (vi 0), some (vi 0)] M Q) : CA FF sc YF (d + 1) m_X9_housesWithSpots [vr 57] M Q := ca_go rfl rfl (fun j => Nat.beq j 4) 28 h
theorem rg_X9_housesWithSpots_4 {sc : List Int} {d : Nat} {Q : Vv → MM → Prop} (v1 : Int) (v2 : Int) (M : MM) (h : brA (decide (10 ≤ v2))
  (Q (vi v1) M)
  (gAnd (decide (0 ≤ v2) && decide (v2 < 10)) (brA (decide ((M 59 v2.toNat) = ((-1))))
   (WP FF sc YF (d + 1) m_X9_housesWithSpots 4 [] [some (vr 57), some (vi v1), some (vi (w32 (v2 + 1)))] M Q)
   (WP FF sc YF (d + 1) m_X9_housesWithSpots 4 [] [some (vr 57), some (vi (bOr v1 (bShl 1 v2))), some (vi (w32 (v2 + 1)))] M Q)))) : WP FF sc YF (d + 1) m_X9_housesWithSpots 4 [] [some (vr 57), some (vi v1), some (vi v2)] M Q := wp_go rfl (fun j => Nat.beq j 4) 28 h
theorem ca_X3_lookOut {sc : List Int} {d : Nat} {Q : Vv → MM → Prop}  (M : MM) (h : CA FF sc YF d m_X3_countVisits [vr 32, vr 57, vr 3] M (fun _ M1 =>
  WP FF sc YF (d + 1) m_X3_lookOut 6 [] [some (vr 32), some (vr 57), some (vr 3), some (vi 0), none] M1 Q)) : CA FF sc YF (d + 1) m_X3_lookOut [vr 32, vr 57, vr 3] M Q := ca_go rfl rfl (fun j => Nat.beq j 6 || Nat.beq j 25) 56 h
theorem rg_X3_lookOut_6 {sc : List Int} {d : Nat} {Q : Vv → MM → Prop} (v3 : Int) (o4 : Option Vv) (M : MM) (h : brA (decide (64 ≤ v3))
  (CA FF sc YF d m_X3_chooseMost [vr 32] M (fun _ M1 =>
   Q (vi 0) M1))
  (gAnd (decide (0 ≤ v3) && decide (v3 < 64)) (CA FF sc YF d m_X9_at [vr 57, vi v3] (stM M 34 (v3.toNat) ((-1))) (cI fun r3 M2 =>
   brA (decide (r3 ≠ 0))
    (WP FF sc YF (d + 1) m_X3_lookOut 6 [] [some (vr 32), some (vr 57), some (vr 3), some (vi (w32 (v3 + 1))), o4] M2 Q)
    (gAnd (decide (0 ≤ v3) && decide (v3 < 64)) (WP FF sc YF (d + 1) m_X3_lookOut 25 [] [some (vr 32), some (vr 57), some (vr 3), some (vi v3), some (vi 0)] (stM M2 34 (v3.toNat) 0) Q)))))) : WP FF sc YF (d + 1) m_X3_lookOut 6 [] [some (vr 32), some (vr 57), some (vr 3), some (vi v3), o4] M Q := wp_go rfl (fun j => Nat.beq j 6 || Nat.beq j 25) 56 h
theorem rg_X3_lookOut_25 {sc : List Int} {d : Nat} {Q : Vv → MM → Prop} (v3 : Int) (v4 : Int) (M : MM) (h : brA (decide (64 ≤ v4))
  (WP FF sc YF (d + 1) m_X3_lookOut 6 [] [some (vr 32), some (vr 57), some (vr 3), some (vi (w32 (v3 + 1))), some (vi v4)] M Q)
  (CA FF sc YF d m_X9_sees [vr 57, vi v3, vi v4] M (cI fun r2 M1 =>
   brA (decide (r2 = 0))
    (WP FF sc YF (d + 1) m_X3_lookOut 25 [] [some (vr 32), some (vr 57), some (vr 3), some (vi v3), some (vi (w32 (v4 + 1)))] M1 Q)
    (gAnd (decide (0 ≤ v3) && decide (v3 < 64)) (gAnd (decide (0 ≤ v4) && decide (v4 < 64)) (gAnd (decide (0 ≤ v3) && decide (v3 < 64)) (WP FF sc YF (d + 1) m_X3_lookOut 25 [] [some (vr 32), some (vr 57), some (vr 3), some (vi v3), some (vi (w32 (v4 + 1)))] (stM M1 34 (v3.toNat) (w32 ((M1 34 v3.toNat) + (M1 35 v4.toNat)))) Q))))))) : WP FF sc YF (d + 1) m_X3_lookOut 25 [] [some (vr 32), some (vr 57), some (vr 3), some (vi v3), some (vi v4)] M Q := wp_go rfl (fun j => Nat.beq j 6 || Nat.beq j 25) 56 h
theorem ca_X3_countVisits {sc : List Int} {d : Nat} {Q : Vv → MM → Prop}  (M : MM) (h : WP FF sc YF (d + 1) m_X3_countVisits 2 [] [some (vr 32), some (vr 57), some (vr 3), some (vi 0), none, none] M Q) : CA FF sc YF (d + 1) m_X3_countVisits [vr 32, vr 57, vr 3] M Q := ca_go rfl rfl (fun j => Nat.beq j 2 || Nat.beq j 14 || Nat.beq j 32) 56 h
theorem rg_X3_countVisits_2 {sc : List Int} {d : Nat} {Q : Vv → MM → Prop} (v3 : Int) (o4 : Option Vv) (o5 : Option Vv) (M : MM) (h : brA (decide (64 ≤ v3))
  (WP FF sc YF (d + 1) m_X3_countVisits 14 [] [some (vr 32), some (vr 57), some (vr 3), some (vi 0), o4, o5] M Q)
  (gAnd (decide (0 ≤ v3) && decide (v3 < 64)) (WP FF sc YF (d + 1) m_X3_countVisits 2 [] [some (vr 32), some (vr 57), some (vr 3), some (vi (w32 (v3 + 1))), o4, o5] (stM M 35 (v3.toNat) 0) Q))) : WP FF sc YF (d + 1) m_X3_countVisits 2 [] [some (vr 32), some (vr 57), some (vr 3), some (vi v3), o4, o5] M Q := wp_go rfl (fun j => Nat.beq j 2 || Nat.beq j 14 || Nat.beq j 32) 56 h
theorem rg_X3_countVisits_14 {sc : List Int} {d : Nat} {Q : Vv → MM → Prop} (v3 : Int) (o4 : Option Vv) (o5 : Option Vv) (M : MM) (h : brA (decide (10 ≤ v3))
  (Q (vi 0) M)
  (gAnd (decide (0 ≤ v3) && decide (v3 < 10)) (brA (decide ((M 59 v3.toNat) = ((-1))))
   (WP FF sc YF (d + 1) m_X3_countVisits 14 [] [some (vr 32), some (vr 57), some (vr 3), some (vi (w32 (v3 + 1))), o4, o5] M Q)
   (CA FF sc YF d m_X10_trace [vr 3, vr 57, vi v3, vr 36] M (cI fun r2 M1 =>
    WP FF sc YF (d + 1) m_X3_countVisits 32 [] [some (vr 32), some (vr 57), some (vr 3), some (vi v3), some (vi r2), some (vi 0)] M1 Q))))) : WP FF sc YF (d + 1) m_X3_countVisits 14 [] [some (vr 32), some (vr 57), some (vr 3), some (vi v3), o4, o5] M Q := wp_go rfl (fun j => Nat.beq j 2 || Nat.beq j 14 || Nat.beq j 32) 56 h
theorem ca_X3_chooseMost {sc : List Int} {d : Nat} {Q : Vv → MM → Prop}  (M : MM) (h : WP FF sc YF (d + 1) m_X3_chooseMost 8 [] [some (vr 32), some (vi 0)] (stM (stM M 32 1 ((-1))) 32 2 ((-1))) Q) : CA FF sc YF (d + 1) m_X3_chooseMost [vr 32] M Q := ca_go rfl rfl (fun j => Nat.beq j 8) 35 h
theorem rg_X3_chooseMost_8 {sc : List Int} {d : Nat} {Q : Vv → MM → Prop} (v1 : Int) (M : MM) (h : brA (decide (64 ≤ v1))
  (Q (vi 0) M)
  (gAnd (decide (0 ≤ v1) && decide (v1 < 64)) (brA (decide ((M 34 v1.toNat) ≤ (M 32 1)))
   (WP FF sc YF (d + 1) m_X3_chooseMost 8 [] [some (vr 32), some (vi (w32 (v1 + 1)))] M Q)
   (gAnd (decide (0 ≤ v1) && decide (v1 < 64)) (WP FF sc YF (d + 1) m_X3_chooseMost 8 [] [some (vr 32), some (vi (w32 (v1 + 1)))] (stM (stM M 32 1 (M 34 v1.toNat)) 32 2 v1) Q))))) : WP FF sc YF (d + 1) m_X3_chooseMost 8 [] [some (vr 32), some (vi v1)] M Q := wp_go rfl (fun j => Nat.beq j 8) 35 h
theorem ca_X8_copy {sc : List Int} {d : Nat} {Q : Vv → MM → Prop}  (M : MM) (h : WP FF sc YF (d + 1) m_X8_copy 2 [] [some (vr 51), some (vr 46), some (vi 0)] M Q) : CA FF sc YF (d + 1) m_X8_copy [vr 51, vr 46] M Q := ca_go rfl rfl (fun j => Nat.beq j 2) 61 h
theorem rg_X8_copy_2 {sc : List Int} {d : Nat} {Q : Vv → MM → Prop} (v2 : Int) (M : MM) (h : brA (decide (10 ≤ v2))
  (Q (vi 0) (stM (stM (stM (stM M 51 4 (M 46 4)) 51 5 ((stM M 51 4 (M 46 4)) 46 5)) 51 6 ((stM (stM M 51 4 (M 46 4)) 51 5 ((stM M 51 4 (M 46 4)) 46 5)) 46 6)) 51 7 ((stM (stM (stM M 51 4 (M 46 4)) 51 5 ((stM M 51 4 (M 46 4)) 46 5)) 51 6 ((stM (stM M 51 4 (M 46 4)) 51 5 ((stM M 51 4 (M 46 4)) 46 5)) 46 6)) 46 7)))
  (gAnd (decide (0 ≤ v2) && decide (v2 < 10)) (gAnd (decide (0 ≤ v2) && decide (v2 < 10)) (gAnd (decide (0 ≤ v2) && decide (v2 < 10)) (gAnd (decide (0 ≤ v2) && decide (v2 < 10)) (gAnd (decide (0 ≤ v2) && decide (v2 < 10)) (gAnd (decide (0 ≤ v2) && decide (v2 < 10)) (gAnd (decide (0 ≤ v2) && decide (v2 < 10)) (gAnd (decide (0 ≤ v2) && decide (v2 < 10)) (WP FF sc YF (d + 1) m_X8_copy 2 [] [some (vr 51), some (vr 46), some (vi (w32 (v2 + 1)))] (stM (stM (stM (stM M 52 (v2.toNat) (M 47 v2.toNat)) 53 (v2.toNat) ((stM M 52 (v2.toNat) (M 47 v2.toNat)) 48 v2.toNat)) 54 (v2.toNat) ((stM (stM M 52 (v2.toNat) (M 47 v2.toNat)) 53 (v2.toNat) ((stM M 52 (v2.toNat) (M 47 v2.toNat)) 48 v2.toNat)) 49 v2.toNat)) 55 (v2.toNat) ((stM (stM (stM M 52 (v2.toNat) (M 47 v2.toNat)) 53 (v2.toNat) ((stM M 52 (v2.toNat) (M 47 v2.toNat)) 48 v2.toNat)) 54 (v2.toNat) ((stM (stM M 52 (v2.toNat) (M 47 v2.toNat)) 53 (v2.toNat) ((stM M 52 (v2.toNat) (M 47 v2.toNat)) 48 v2.toNat)) 49 v2.toNat)) 50 v2.toNat)) Q)))))))))) : WP FF sc YF (d + 1) m_X8_copy 2 [] [some (vr 51), some (vr 46), some (vi v2)] M Q := wp_go rfl (fun j => Nat.beq j 2) 61 h
theorem ca_X5_pass {sc : List Int} {d : Nat} {Q : Vv → MM → Prop} (v3 : Int) (M : MM) (h : CA FF sc YF d m_X9_housesWithSpots [vr 57] M (cI fun r2 M1 =>
  WP FF sc YF (d + 1) m_X5_pass 11 [] [some (vr 57), some (vr 65), some (vr 46), some (vi v3), some (vi v3), some (vi (bAnd r2 (bXor v3 ((-1))))), some (vi 0), none] M1 Q)) : CA FF sc YF (d + 1) m_X5_pass [vr 57, vr 65, vr 46, vi v3] M Q := ca_go rfl rfl (fun j => Nat.beq j 11 || Nat.beq j 16) 54 h
theorem rg_X5_pass_11 {sc : List Int} {d : Nat} {Q : Vv → MM → Prop} (v3 : Int) (v4 : Int) (v5 : Int) (v6 : Int) (o7 : Option Vv) (M : MM) (h : brA (decide (10 ≤ v6))
  (Q (vi v4) M)
  (WP FF sc YF (d + 1) m_X5_pass 16 [] [some (vr 57), some (vr 65), some (vr 46), some (vi v3), some (vi v4), some (vi v5), some (vi v6), some (vi 0)] M Q)) : WP FF sc YF (d + 1) m_X5_pass 11 [] [some (vr 57), some (vr 65), some (vr 46), some (vi v3), some (vi v4), some (vi v5), some (vi v6), o7] M Q := wp_go rfl (fun j => Nat.beq j 11 || Nat.beq j 16) 54 h
theorem rg_X5_pass_16 {sc : List Int} {d : Nat} {Q : Vv → MM → Prop} (v3 : Int) (v4 : Int) (v5 : Int) (v6 : Int) (v7 : Int) (M : MM) (h : brA (decide (10 ≤ v7))
  (WP FF sc YF (d + 1) m_X5_pass 11 [] [some (vr 57), some (vr 65), some (vr 46), some (vi v3), some (vi v4), some (vi v5), some (vi (w32 (v6 + 1))), some (vi v7)] M Q)
  (CA FF sc YF d m_X11_hasBit [vi v3, vi v6] M (cI fun r2 M1 =>
   brA (decide (r2 = 0))
    (WP FF sc YF (d + 1) m_X5_pass 16 [] [some (vr 57), some (vr 65), some (vr 46), some (vi v3), some (vi v4), some (vi v5), some (vi v6), some (vi (w32 (v7 + 1)))] M1 Q)
    (CA FF sc YF d m_X11_hasBit [vi v5, vi v7] M1 (cI fun r4 M3 =>
     brA (decide (r4 = 0))
      (WP FF sc YF (d + 1) m_X5_pass 16 [] [some (vr 57), some (vr 65), some (vr 46), some (vi v3), some (vi v4), some (vi v5), some (vi v6), some (vi (w32 (v7 + 1)))] M3 Q)
      (CA FF sc YF d m_X8_draw [vr 46] M3 (cI fun r6 M5 =>
       CA FF sc YF d m_X0_tenths [vr 65, vr 57, vi (M5 46 6), vi v6, vi v7] M5 (cI fun r8 M7 =>
        brA (decide (r8 ≤ r6))
         (WP FF sc YF (d + 1) m_X5_pass 16 [] [some (vr 57), some (vr 65), some (vr 46), some (vi v3), some (vi v4), some (vi v5), some (vi v6), some (vi (w32 (v7 + 1)))] M7 Q)
         (WP FF sc YF (d + 1) m_X5_pass 16 [] [some (vr 57), some (vr 65), some (vr 46), some (vi v3), some (vi (bOr v4 (bShl 1 v7))), some (vi v5), some (vi v6), some (vi (w32 (v7 + 1)))] M7 Q))))))))) : WP FF sc YF (d + 1) m_X5_pass 16 [] [some (vr 57), some (vr 65), some (vr 46), some (vi v3), some (vi v4), some (vi v5), some (vi v6), some (vi v7)] M Q := wp_go rfl (fun j => Nat.beq j 11 || Nat.beq j 16) 54 h
theorem ca_X12_hasSpot {sc : List Int} {d : Nat} {Q : Vv → MM → Prop} (v1 : Int) (M : MM) (h : CA FF sc YF d m_X12_isTen [vi v1] M (cI fun r2 M1 =>
  brA (decide (r2 = 0))
   (Q (vi 0) M1)
   (gAnd (decide (0 ≤ v1) && decide (v1 < 10)) (brA (decide ((M1 86 v1.toNat) < 0))
    (Q (vi 0) M1)
    (Q (vi 1) M1))))) : CA FF sc YF (d + 1) m_X12_hasSpot [vr 81, vi v1] M Q := ca_go rfl rfl (fun j => false) 17 h
theorem ca_X12_isTold {sc : List Int} {d : Nat} {Q : Vv → MM → Prop} (v1 : Int) (M : MM) (h : CA FF sc YF d m_X12_isTen [vi v1] M (cI fun r2 M1 =>
  brA (decide (r2 = 0))
   (Q (vi 0) M1)
   (CA FF sc YF d m_X12_has [vi (M1 82 30), vi v1] M1 (cI fun r4 M3 =>
    brA (decide (r4 = 0))
     (Q (vi 0) M3)
     (Q (vi 1) M3))))) : CA FF sc YF (d + 1) m_X12_isTold [vr 81, vi v1] M Q := ca_go rfl rfl (fun j => false) 19 h
theorem ca_X12_types {sc : List Int} {d : Nat} {Q : Vv → MM → Prop} (v1 : Int) (M : MM) (h : WP FF sc YF (d + 1) m_X12_types 2 [] [some (vr 81), some (vi v1), some (vi 3)] M Q) : CA FF sc YF (d + 1) m_X12_types [vr 81, vi v1] M Q := ca_go rfl rfl (fun j => Nat.beq j 2) 29 h
theorem rg_X12_types_2 {sc : List Int} {d : Nat} {Q : Vv → MM → Prop} (v1 : Int) (v2 : Int) (M : MM) (h : brA (decide (v2 < 0))
  (Q (vi 0) M)
  (gAnd (decide (0 ≤ (M 81 10)) && decide ((M 81 10) < 260)) (WP FF sc YF (d + 1) m_X12_types 2 [] [some (vr 81), some (vi v1), some (vi (w32 (v2 + (-1))))] (stM (stM M 90 ((M 81 10).toNat) (w8 (w8 (bShr v1 (w32 (8 * v2)))))) 81 10 (w32 (((stM M 90 ((M 81 10).toNat) (w8 (w8 (bShr v1 (w32 (8 * v2)))))) 81 10) + 1))) Q))) : WP FF sc YF (d + 1) m_X12_types 2 [] [some (vr 81), some (vi v1), some (vi v2)] M Q := wp_go rfl (fun j => Nat.beq j 2) 29 h
theorem ca_X12_spotsSet {sc : List Int} {d : Nat} {Q : Vv → MM → Prop}  (M : MM) (h : WP FF sc YF (d + 1) m_X12_spotsSet 4 [] [some (vr 81), some (vi 0), some (vi 0)] M Q) : CA FF sc YF (d + 1) m_X12_spotsSet [vr 81] M Q := ca_go rfl rfl (fun j => Nat.beq j 4) 28 h
theorem rg_X12_spotsSet_4 {sc : List Int} {d : Nat} {Q : Vv → MM → Prop} (v1 : Int) (v2 : Int) (M : MM) (h : brA (decide (10 ≤ v2))
  (Q (vi v1) M)
  (CA FF sc YF d m_X12_hasSpot [vr 81, vi v2] M (cI fun r2 M1 =>
   brA (decide (r2 = 0))
    (WP FF sc YF (d + 1) m_X12_spotsSet 4 [] [some (vr 81), some (vi (bOr v1 0)), some (vi (w32 (v2 + 1)))] M1 Q)
    (WP FF sc YF (d + 1) m_X12_spotsSet 4 [] [some (vr 81), some (vi (bOr v1 (bShl 1 v2))), some (vi (w32 (v2 + 1)))] M1 Q)))) : WP FF sc YF (d + 1) m_X12_spotsSet 4 [] [some (vr 81), some (vi v1), some (vi v2)] M Q := wp_go rfl (fun j => Nat.beq j 4) 28 h
theorem ca_X12_copies {sc : List Int} {d : Nat} {Q : Vv → MM → Prop} (v0 : Nat) (v1 : Nat) (M : MM) (h : WP FF sc YF (d + 1) m_X12_copies 2 [] [some (vr v0), some (vr v1), some (vi 0)] M Q) : CA FF sc YF (d + 1) m_X12_copies [vr v0, vr v1] M Q := ca_go rfl rfl (fun j => Nat.beq j 2) 19 h
theorem rg_X12_copies_2 {sc : List Int} {d : Nat} {Q : Vv → MM → Prop} (v0 : Nat) (v1 : Nat) (v2 : Int) (M : MM) (h : brA (decide (36 ≤ v2))
  (Q (vi 0) M)
  (gAnd ((kd YF v0 == 0) && (decide (0 ≤ v2) && decide (v2 < ln YF v0))) (gAnd ((kd YF v1 == 0) && (decide (0 ≤ v2) && decide (v2 < ln YF v1))) (WP FF sc YF (d + 1) m_X12_copies 2 [] [some (vr v0), some (vr v1), some (vi (w32 (v2 + 1)))] (stM M v1 (v2.toNat) (M v0 v2.toNat)) Q)))) : WP FF sc YF (d + 1) m_X12_copies 2 [] [some (vr v0), some (vr v1), some (vi v2)] M Q := wp_go rfl (fun j => Nat.beq j 2) 19 h
theorem ca_X12_greaterBy {sc : List Int} {d : Nat} {Q : Vv → MM → Prop} (v1 : Int) (v2 : Int) (M : MM) (h : WP FF sc YF (d + 1) m_X12_greaterBy 4 [] [some (vr 81), some (vi v1), some (vi v2), some (vi 0), some (vi 0)] M Q) : CA FF sc YF (d + 1) m_X12_greaterBy [vr 81, vi v1, vi v2] M Q := ca_go rfl rfl (fun j => Nat.beq j 4) 36 h
theorem rg_X12_greaterBy_4 {sc : List Int} {d : Nat} {Q : Vv → MM → Prop} (v1 : Int) (v2 : Int) (v3 : Int) (v4 : Int) (M : MM) (h : brA (decide (10 ≤ v4))
  (CA FF sc YF d m_X12_bits [vi v1] M (cI fun r2 M1 =>
   CA FF sc YF d m_X12_max [vi v3, vi (w32 (r2 - v3))] M1 (cI fun r4 M3 =>
    Q (vi r4) M3)))
  (CA FF sc YF d m_X12_has [vi v1, vi v4] M (cI fun r6 M5 =>
   brA (decide (r6 = 0))
    (WP FF sc YF (d + 1) m_X12_greaterBy 4 [] [some (vr 81), some (vi v1), some (vi v2), some (vi v3), some (vi (w32 (v4 + 1)))] M5 Q)
    (gAnd (decide (0 ≤ v4) && decide (v4 < 10)) (CA FF sc YF d m_X12_has [vi (M5 87 v4.toNat), vi v2] M5 (cI fun r8 M7 =>
     brA (decide (r8 = 0))
      (WP FF sc YF (d + 1) m_X12_greaterBy 4 [] [some (vr 81), some (vi v1), some (vi v2), some (vi v3), some (vi (w32 (v4 + 1)))] M7 Q)
      (WP FF sc YF (d + 1) m_X12_greaterBy 4 [] [some (vr 81), some (vi v1), some (vi v2), some (vi (w32 (v3 + 1))), some (vi (w32 (v4 + 1)))] M7 Q))))))) : WP FF sc YF (d + 1) m_X12_greaterBy 4 [] [some (vr 81), some (vi v1), some (vi v2), some (vi v3), some (vi v4)] M Q := wp_go rfl (fun j => Nat.beq j 4) 36 h
theorem ca_X12_watchedFrom {sc : List Int} {d : Nat} {Q : Vv → MM → Prop} (v1 : Int) (M : MM) (h : WP FF sc YF (d + 1) m_X12_watchedFrom 4 [] [some (vr 81), some (vi v1), some (vi 0), some (vi 0), none, none] M Q) : CA FF sc YF (d + 1) m_X12_watchedFrom [vr 81, vi v1] M Q := ca_go rfl rfl (fun j => Nat.beq j 4 || Nat.beq j 19 || Nat.beq j 41) 63 h
theorem rg_X12_watchedFrom_4 {sc : List Int} {d : Nat} {Q : Vv → MM → Prop} (v1 : Int) (v2 : Int) (v3 : Int) (o4 : Option Vv) (o5 : Option Vv) (M : MM) (h : brA (decide (10 ≤ v3))
  (Q (vi v2) M)
  (CA FF sc YF d m_X12_hasSpot [vr 81, vi v3] M (cI fun r2 M1 =>
   brA (decide (r2 ≠ 0))
    (gAnd (decide (0 ≤ v3) && decide (v3 < 10)) (WP FF sc YF (d + 1) m_X12_watchedFrom 19 [] [some (vr 81), some (vi v1), some (vi v2), some (vi v3), some (vi (M1 86 v3.toNat)), some (vi 0)] M1 Q))
    (WP FF sc YF (d + 1) m_X12_watchedFrom 4 [] [some (vr 81), some (vi v1), some (vi v2), some (vi (w32 (v3 + 1))), o4, o5] M1 Q)))) : WP FF sc YF (d + 1) m_X12_watchedFrom 4 [] [some (vr 81), some (vi v1), some (vi v2), some (vi v3), o4, o5] M Q := wp_go rfl (fun j => Nat.beq j 4 || Nat.beq j 19 || Nat.beq j 41) 63 h
theorem ca_X11_feed {sc : List Int} {d : Nat} {Q : Vv → MM → Prop} (v1 : Int) (v2 : Int) (v3 : Int) (v4 : Int) (v5 : Int) (M : MM) (h : brA (decide ((w32 ((M 1 1) + 20)) ≤ 260))
  (CA FF sc YF d m_X7_add [vr 1, vi v1] M (fun _ M1 =>
   CA FF sc YF d m_X7_add [vr 1, vi v2] M1 (fun _ M2 =>
    CA FF sc YF d m_X7_add [vr 1, vi v3] M2 (fun _ M3 =>
     CA FF sc YF d m_X7_add [vr 1, vi v4] M3 (fun _ M4 =>
      CA FF sc YF d m_X7_add [vr 1, vi v5] M4 (fun _ M5 =>
       Q (vi (M5 1 1)) M5))))))
  (Q (vi ((-1))) M)) : CA FF sc YF (d + 1) m_X11_feed [vr 0, vi v1, vi v2, vi v3, vi v4, vi v5] M Q := ca_go rfl rfl (fun j => false) 38 h
theorem ca_X12_feed {sc : List Int} {d : Nat} {Q : Vv → MM → Prop} (v1 : Int) (v2 : Int) (v3 : Int) (v4 : Int) (v5 : Int) (M : MM) (h : brA (decide ((w32 ((M 81 10) + 20)) ≤ 260))
  (CA FF sc YF d m_X12_types [vr 81, vi v1] M (fun _ M1 =>
   CA FF sc YF d m_X12_types [vr 81, vi v2] M1 (fun _ M2 =>
    CA FF sc YF d m_X12_types [vr 81, vi v3] M2 (fun _ M3 =>
     CA FF sc YF d m_X12_types [vr 81, vi v4] M3 (fun _ M4 =>
      CA FF sc YF d m_X12_types [vr 81, vi v5] M4 (fun _ M5 =>
       Q (vi (M5 81 10)) M5))))))
  (Q (vi ((-1))) M)) : CA FF sc YF (d + 1) m_X12_feed [vr 81, vi v1, vi v2, vi v3, vi v4, vi v5] M Q := ca_go rfl rfl (fun j => false) 31 h
theorem ca_X11_quarter {sc : List Int} {d : Nat} {Q : Vv → MM → Prop} (v1 : Int) (M : MM) (h : CA FF sc YF d m_X7_hasText [vr 1, vi v1, vi 120] M (cI fun r2 M1 =>
  brA (decide (r2 ≠ 0))
   (gAnd (decide (0 < M1 0 11)) (gAnd (kd YF ((M1 0 11).toNat - 1) == 18) (CA FF sc YF d m_X9_read [vr ((M1 0 11).toNat - 1), vr 1, vi v1] M1 (cI fun r4 M3 =>
    CA FF sc YF d m_X7_empty [vr 1] M3 (fun _ M5 =>
     brA (decide (r4 < 0))
      (Q (vi r4) M5)
      (gAnd (decide (0 < M5 0 10)) (gAnd (decide (0 < M5 0 11)) (gAnd (decide (0 < (stM (stM M5 0 10 (((M5 0 11).toNat - 1 : Nat) + 1)) 0 11 (((M5 0 10).toNat - 1 : Nat) + 1)) 0 10)) (CA FF sc YF d m_X8_dropFromWalls [vr 46, vr (((stM (stM M5 0 10 (((M5 0 11).toNat - 1 : Nat) + 1)) 0 11 (((M5 0 10).toNat - 1 : Nat) + 1)) 0 10).toNat - 1)] (stM (stM M5 0 10 (((M5 0 11).toNat - 1 : Nat) + 1)) 0 11 (((M5 0 10).toNat - 1 : Nat) + 1)) (fun _ M6 =>
       Q (vi r4) M6))))))))))
   (Q (vi ((-1))) M1))) : CA FF sc YF (d + 1) m_X11_quarter [vr 0, vi v1] M Q := ca_go rfl rfl (fun j => false) 42 h
theorem ca_X12_quarter {sc : List Int} {d : Nat} {Q : Vv → MM → Prop} (v1 : Int) (M : MM) (h : CA FF sc YF d m_X12_in [vi v1, vi 1, vi 120] M (cI fun r2 M1 =>
  brA (decide (r2 = 0))
   (Q (vi ((-1))) M1)
   (brA (decide (v1 ≤ (M1 81 10)))
    (WP FF sc YF (d + 1) m_X12_quarter 19 [] [some (vr 81), some (vi v1), some (vi 0), none, none] (stM (stM M1 81 11 0) 81 12 v1) Q)
    (Q (vi ((-1))) M1)))) : CA FF sc YF (d + 1) m_X12_quarter [vr 81, vi v1] M Q := ca_go rfl rfl (fun j => Nat.beq j 19 || Nat.beq j 35 || Nat.beq j 54 || Nat.beq j 67 || Nat.beq j 79 || Nat.beq j 94 || Nat.beq j 120) 161 h
theorem ca_X11_walk {sc : List Int} {d : Nat} {Q : Vv → MM → Prop} (v1 : Int) (v2 : Int) (M : MM) (h : CA FF sc YF d m_X11_isHouse [vi v1] M (cI fun r2 M1 =>
  brA (decide (r2 = 0))
   (Q (vi ((-1))) M1)
   (CA FF sc YF d m_X7_hasText [vr 1, vi v2, vi 80] M1 (cI fun r4 M3 =>
    brA (decide (r4 ≠ 0))
     (CA FF sc YF d m_X10_read [vr 3, vr 1, vi v2, vi v1] M3 (cI fun r6 M5 =>
      CA FF sc YF d m_X7_empty [vr 1] M5 (fun _ M7 =>
       Q (vi r6) M7)))
     (Q (vi ((-1))) M3))))) : CA FF sc YF (d + 1) m_X11_walk [vr 0, vi v1, vi v2] M Q := ca_go rfl rfl (fun j => false) 29 h
theorem ca_X12_walk {sc : List Int} {d : Nat} {Q : Vv → MM → Prop} (v1 : Int) (v2 : Int) (M : MM) (h : CA FF sc YF d m_X12_isTen [vi v1] M (cI fun r2 M1 =>
  brA (decide (r2 = 0))
   (Q (vi ((-1))) M1)
   (CA FF sc YF d m_X12_in [vi v2, vi 1, vi 80] M1 (cI fun r4 M3 =>
    brA (decide (r4 = 0))
     (Q (vi ((-1))) M3)
     (brA (decide (v2 ≤ (M3 81 10)))
      (CA FF sc YF d m_X12_readsStep [vr 81] (stM (stM (stM (stM M3 81 11 0) 81 12 v2) 81 37 0) 81 38 0) (cI fun r6 M5 =>
       WP FF sc YF (d + 1) m_X12_walk 29 [] [some (vr 81), some (vi v1), some (vi v2), some (vi r6), none] M5 Q))
      (Q (vi ((-1))) M3)))))) : CA FF sc YF (d + 1) m_X12_walk [vr 81, vi v1, vi v2] M Q := ca_go rfl rfl (fun j => Nat.beq j 29 || Nat.beq j 43 || Nat.beq j 59) 85 h
theorem ca_X11_law {sc : List Int} {d : Nat} {Q : Vv → MM → Prop} (v1 : Int) (M : MM) (h : CA FF sc YF d m_X7_hasText [vr 1, vi v1, vi 240] M (cI fun r2 M1 =>
  brA (decide (r2 ≠ 0))
   (gAnd (decide (0 < M1 0 13)) (CA FF sc YF d m_X1_read [vr 22, vr 1, vi v1, vr ((M1 0 13).toNat - 1)] M1 (cI fun r4 M3 =>
    CA FF sc YF d m_X7_empty [vr 1] M3 (fun _ M5 =>
     brA (decide (r4 < 0))
      (Q (vi r4) M5)
      (gAnd (decide (0 < M5 0 12)) (gAnd (decide (0 < M5 0 13)) (Q (vi r4) (stM (stM M5 0 12 (((M5 0 13).toNat - 1 : Nat) + 1)) 0 13 (((M5 0 12).toNat - 1 : Nat) + 1)))))))))
   (Q (vi ((-1))) M1))) : CA FF sc YF (d + 1) m_X11_law [vr 0, vi v1] M Q := ca_go rfl rfl (fun j => false) 39 h
theorem ca_X12_law {sc : List Int} {d : Nat} {Q : Vv → MM → Prop} (v1 : Int) (M : MM) (h : CA FF sc YF d m_X12_in [vi v1, vi 1, vi 240] M (cI fun r2 M1 =>
  brA (decide (r2 = 0))
   (Q (vi ((-1))) M1)
   (brA (decide (v1 ≤ (M1 81 10)))
    (CA FF sc YF d m_X12_readsClause [vr 81] (stM (stM (stM (stM M1 81 11 0) 81 12 v1) 81 16 0) 81 18 0) (cI fun r4 M3 =>
     WP FF sc YF (d + 1) m_X12_law 26 [] [some (vr 81), some (vi v1), some (vi r4), none] M3 Q))
    (Q (vi ((-1))) M1)))) : CA FF sc YF (d + 1) m_X12_law [vr 81, vi v1] M Q := ca_go rfl rfl (fun j => Nat.beq j 26 || Nat.beq j 45 || Nat.beq j 59 || Nat.beq j 75) 121 h
theorem ca_X11_stranger {sc : List Int} {d : Nat} {Q : Vv → MM → Prop} (v1 : Int) (v2 : Int) (v3 : Int) (v4 : Int) (M : MM) (h : CA FF sc YF d m_X11_isStranger [vi v1] M (cI fun r2 M1 =>
  brA (decide (r2 = 0))
   (Q (vi 0) M1)
   (CA FF sc YF d m_X11_isIn [vi v2, vi 0, vi 7] M1 (cI fun r4 M3 =>
    brA (decide (r4 = 0))
     (Q (vi 0) M3)
     (CA FF sc YF d m_X11_isIn [vi v3, vi 0, vi 7] M3 (cI fun r6 M5 =>
      brA (decide (r6 ≠ 0))
       (CA FF sc YF d m_X11_isIn [vi v4, vi 1, vi 999] M5 (cI fun r8 M7 =>
        brA (decide (r8 = 0))
         (Q (vi 0) M7)
         (gAnd (decide (0 < M7 0 10)) (gAnd (kd YF ((M7 0 10).toNat - 1) == 18) (CA FF sc YF d m_X9_isWall [vr ((M7 0 10).toNat - 1), vi (w32 ((w32 (8 * v3)) + v2))] M7 (cI fun r10 M9 =>
          brA (decide (r10 = 0))
           (CA FF sc YF d m_X8_putStranger [vr 46, vi v1, vi (w32 ((w32 (8 * v3)) + v2)), vi v4] M9 (fun _ M11 =>
            Q (vi 1) M11))
           (Q (vi 0) M9)))))))
       (Q (vi 0) M5))))))) : CA FF sc YF (d + 1) m_X11_stranger [vr 0, vi v1, vi v2, vi v3, vi v4] M Q := ca_go rfl rfl (fun j => false) 46 h
theorem ca_X12_stranger {sc : List Int} {d : Nat} {Q : Vv → MM → Prop} (v1 : Int) (v2 : Int) (v3 : Int) (v4 : Int) (M : MM) (h : CA FF sc YF d m_X12_isTen [vi v1] M (cI fun r2 M1 =>
  brA (decide (r2 = 0))
   (Q (vi 0) M1)
   (CA FF sc YF d m_X12_in [vi v2, vi 0, vi 7] M1 (cI fun r4 M3 =>
    brA (decide (r4 = 0))
     (Q (vi 0) M3)
     (CA FF sc YF d m_X12_in [vi v3, vi 0, vi 7] M3 (cI fun r6 M5 =>
      brA (decide (r6 = 0))
       (Q (vi 0) M5)
       (CA FF sc YF d m_X12_in [vi v4, vi 1, vi 999] M5 (cI fun r8 M7 =>
        brA (decide (r8 = 0))
         (Q (vi 0) M7)
         (gAnd (decide (0 ≤ (w32 ((w32 (8 * v3)) + v2))) && decide ((w32 ((w32 (8 * v3)) + v2)) < 64)) (brA (decide ((M7 85 (w32 ((w32 (8 * v3)) + v2)).toNat) ≠ 1))
          (gAnd (decide (0 ≤ (w32 (0 + v1))) && decide ((w32 (0 + v1)) < 36)) (gAnd (decide (0 ≤ (w32 (10 + v1))) && decide ((w32 (10 + v1)) < 36)) (gAnd (decide (0 ≤ (w32 (20 + v1))) && decide ((w32 (20 + v1)) < 36)) (Q (vi 1) (stM (stM (stM (stM (stM M7 82 30 (bOr (M7 82 30) (bShl 1 v1))) 82 31 (bAnd ((stM M7 82 30 (bOr (M7 82 30) (bShl 1 v1))) 82 31) (bXor (bShl 1 v1) ((-1))))) 82 ((w32 (0 + v1)).toNat) (w32 ((w32 (8 * v3)) + v2))) 82 ((w32 (10 + v1)).toNat) 0) 82 ((w32 (20 + v1)).toNat) v4)))))
          (Q (vi 0) M7))))))))))) : CA FF sc YF (d + 1) m_X12_stranger [vr 81, vi v1, vi v2, vi v3, vi v4] M Q := ca_go rfl rfl (fun j => false) 88 h
theorem ca_X11_dog {sc : List Int} {d : Nat} {Q : Vv → MM → Prop} (v1 : Int) (v2 : Int) (M : MM) (h : CA FF sc YF d m_X11_isHouse [vi v1] M (cI fun r2 M1 =>
  brA (decide (r2 ≠ 0))
   (brA (decide (v2 = 0))
    (Q (vi 1) (stM (stM M1 0 15 (bAnd (M1 0 15) (bXor (bShl 1 v1) ((-1))))) 46 4 (bAnd ((stM M1 0 15 (bAnd (M1 0 15) (bXor (bShl 1 v1) ((-1))))) 46 4) (bXor (bShl 1 v1) ((-1))))))
    (Q (vi 1) (stM (stM M1 0 15 (bOr (M1 0 15) (bShl 1 v1))) 46 4 (bAnd ((stM M1 0 15 (bOr (M1 0 15) (bShl 1 v1))) 46 4) (bXor (bShl 1 v1) ((-1)))))))
   (Q (vi 0) M1))) : CA FF sc YF (d + 1) m_X11_dog [vr 0, vi v1, vi v2] M Q := ca_go rfl rfl (fun j => false) 40 h
theorem ca_X12_dog {sc : List Int} {d : Nat} {Q : Vv → MM → Prop} (v1 : Int) (v2 : Int) (M : MM) (h : CA FF sc YF d m_X12_isTen [vi v1] M (cI fun r2 M1 =>
  brA (decide (r2 ≠ 0))
   (brA (decide (v2 = 0))
    (Q (vi 1) (stM (stM M1 81 8 (bAnd (M1 81 8) (bXor (bShl 1 v1) ((-1))))) 82 32 (bAnd ((stM M1 81 8 (bAnd (M1 81 8) (bXor (bShl 1 v1) ((-1))))) 82 32) (bXor (bShl 1 v1) ((-1))))))
    (Q (vi 1) (stM (stM M1 81 8 (bOr (M1 81 8) (bShl 1 v1))) 82 32 (bAnd ((stM M1 81 8 (bOr (M1 81 8) (bShl 1 v1))) 82 32) (bXor (bShl 1 v1) ((-1)))))))
   (Q (vi 0) M1))) : CA FF sc YF (d + 1) m_X12_dog [vr 81, vi v1, vi v2] M Q := ca_go rfl rfl (fun j => false) 45 h
theorem ca_X11_tells {sc : List Int} {d : Nat} {Q : Vv → MM → Prop} (v1 : Int) (M : MM) (h : CA FF sc YF d m_X11_isHouse [vi v1] M (cI fun r2 M1 =>
  brA (decide (r2 = 0))
   (Q (vi 0) M1)
   (CA FF sc YF d m_X11_hasBit [vi (M1 0 15), vi v1] M1 (cI fun r4 M3 =>
    brA (decide (r4 = 0))
     (Q (vi 0) M3)
     (CA FF sc YF d m_X11_hasBit [vi (M3 46 4), vi v1] M3 (cI fun r6 M5 =>
      brA (decide (r6 = 0))
       (Q (vi 1) (stM M5 46 4 (bOr (M5 46 4) (bShl 1 v1))))
       (Q (vi 0) M5))))))) : CA FF sc YF (d + 1) m_X11_tells [vr 0, vi v1] M Q := ca_go rfl rfl (fun j => false) 32 h
theorem ca_X12_tells {sc : List Int} {d : Nat} {Q : Vv → MM → Prop} (v1 : Int) (M : MM) (h : CA FF sc YF d m_X12_isTen [vi v1] M (cI fun r2 M1 =>
  brA (decide (r2 = 0))
   (Q (vi 0) M1)
   (CA FF sc YF d m_X12_has [vi (M1 81 8), vi v1] M1 (cI fun r4 M3 =>
    brA (decide (r4 = 0))
     (Q (vi 0) M3)
     (CA FF sc YF d m_X12_has [vi (M3 82 32), vi v1] M3 (cI fun r6 M5 =>
      brA (decide (r6 = 0))
       (Q (vi 1) (stM M5 82 32 (bOr (M5 82 32) (bShl 1 v1))))
       (Q (vi 0) M5))))))) : CA FF sc YF (d + 1) m_X12_tells [vr 81, vi v1] M Q := ca_go rfl rfl (fun j => false) 36 h
theorem ca_X11_haunts {sc : List Int} {d : Nat} {Q : Vv → MM → Prop} (v1 : Int) (M : MM) (h : CA FF sc YF d m_X11_hasSpot [vr 0, vi v1] M (cI fun r2 M1 =>
  brA (decide (r2 = 0))
   (Q (vi ((-1))) M1)
   (brA (decide ((M1 46 6) < 9999))
    (gAnd (decide (0 < M1 0 12)) (gAnd (kd YF ((M1 0 12).toNat - 1) == 10) (CA FF sc YF d m_X0_mayHaunt [vr ((M1 0 12).toNat - 1), vi v1, vi (M1 46 6)] M1 (cI fun r4 M3 =>
     brA (decide (r4 ≠ 0))
      (gAnd (decide (0 < M3 0 10)) (gAnd (decide (0 < M3 0 12)) (CA FF sc YF d m_X11_dogsAgainst [vr 0, vi v1] M3 (cI fun r6 M5 =>
       CA FF sc YF d m_X2_pass [vr 24, vr ((M3 0 10).toNat - 1), vr 3, vr ((M3 0 12).toNat - 1), vr 46, vi v1, vi r6] M5 (fun _ M7 =>
        CA FF sc YF d m_X8_copy [vr 46, vr 25] M7 (fun _ M8 =>
         Q (vi ((stM M8 46 6 (w32 ((M8 46 6) + 1))) 24 4)) (stM M8 46 6 (w32 ((M8 46 6) + 1)))))))))
      (Q (vi ((-2))) M3)))))
    (Q (vi ((-1))) M1)))) : CA FF sc YF (d + 1) m_X11_haunts [vr 0, vi v1] M Q := ca_go rfl rfl (fun j => false) 58 h
theorem ca_X12_haunts {sc : List Int} {d : Nat} {Q : Vv → MM → Prop} (v1 : Int) (M : MM) (h : CA FF sc YF d m_X12_hasSpot [vr 81, vi v1] M (cI fun r2 M1 =>
  brA (decide (r2 = 0))
   (Q (vi ((-1))) M1)
   (brA (decide ((M1 82 34) ≠ 9999))
    (CA FF sc YF d m_X12_mayHaunt [vr 81, vi v1, vi (M1 82 34)] M1 (cI fun r4 M3 =>
     brA (decide (r4 ≠ 0))
      (CA FF sc YF d m_X12_nightOf [vr 81, vi v1] M3 (fun _ M5 =>
       Q (vi (M5 81 45)) M5))
      (Q (vi ((-2))) M3)))
    (Q (vi ((-1))) M1)))) : CA FF sc YF (d + 1) m_X12_haunts [vr 81, vi v1] M Q := ca_go rfl rfl (fun j => false) 33 h
theorem ca_X11_tried {sc : List Int} {d : Nat} {Q : Vv → MM → Prop} (v1 : Int) (v2 : Int) (M : MM) (h : CA FF sc YF d m_X11_hasSpot [vr 0, vi v1] M (cI fun r2 M1 =>
  brA (decide (r2 ≠ 0))
   (gAnd (decide (0 < M1 0 10)) (gAnd (decide (0 < M1 0 12)) (CA FF sc YF d m_X11_dogsAgainst [vr 0, vi v1] M1 (cI fun r4 M3 =>
    CA FF sc YF d m_X2_pass [vr 24, vr ((M1 0 10).toNat - 1), vr 3, vr ((M1 0 12).toNat - 1), vr 46, vi v1, vi r4] M3 (fun _ M5 =>
     (v2 = 0 → Q (vi (M5 24 4)) M5) ∧
      (v2 ≠ 0 → (v2 = 1 → Q (vi (M5 24 5)) M5) ∧
      (v2 ≠ 1 → (v2 = 2 → Q (vi (M5 24 6)) M5) ∧
      (v2 ≠ 2 → (v2 = 3 → Q (vi (M5 24 7)) M5) ∧
      (v2 ≠ 3 → (v2 = 4 → gAnd (decide (0 ≤ (M5 24 3)) && decide ((M5 24 3) < 61)) (Q (vi (M5 30 (M5 24 3).toNat)) M5)) ∧
      (v2 ≠ 4 → (v2 = 5 → Q (vi (M5 24 8)) M5) ∧
      (v2 ≠ 5 → CA FF sc YF d m_X11_triedFurther [vr 0, vi v2] M5 (cI fun r7 M6 =>
       Q (vi r7) M6))))))))))))
   (Q (vi ((-1))) M1))) : CA FF sc YF (d + 1) m_X11_tried [vr 0, vi v1, vi v2] M Q := ca_go rfl rfl (fun j => false) 60 h
theorem ca_X12_tried {sc : List Int} {d : Nat} {Q : Vv → MM → Prop} (v1 : Int) (v2 : Int) (M : MM) (h : CA FF sc YF d m_X12_hasSpot [vr 81, vi v1] M (cI fun r2 M1 =>
  brA (decide (r2 = 0))
   (Q (vi ((-1))) M1)
   (CA FF sc YF d m_X12_in [vi v2, vi 0, vi 5] M1 (cI fun r4 M3 =>
    brA (decide (r4 ≠ 0))
     (WP FF sc YF (d + 1) m_X12_tried 32 [] [some (vr 81), some (vi v1), some (vi v2)] M3 Q)
     (CA FF sc YF d m_X12_in [vi v2, vi 10, vi 19] M3 (cI fun r6 M5 =>
      brA (decide (r6 = 0))
       (WP FF sc YF (d + 1) m_X12_tried 20 [] [some (vr 81), some (vi v1), some (vi v2)] M5 Q)
       (CA FF sc YF d m_X12_isTold [vr 81, vi (w32 (v2 - 10))] M5 (cI fun r8 M7 =>
        brA (decide (r8 ≠ 0))
         (WP FF sc YF (d + 1) m_X12_tried 32 [] [some (vr 81), some (vi v1), some (vi v2)] M7 Q)
         (WP FF sc YF (d + 1) m_X12_tried 20 [] [some (vr 81), some (vi v1), some (vi v2)] M7 Q))))))))) : CA FF sc YF (d + 1) m_X12_tried [vr 81, vi v1, vi v2] M Q := ca_go rfl rfl (fun j => Nat.beq j 20 || Nat.beq j 32) 92 h
theorem ca_X11_strangerIs {sc : List Int} {d : Nat} {Q : Vv → MM → Prop} (v1 : Int) (v2 : Int) (M : MM) (h : CA FF sc YF d m_X11_isStranger [vi v1] M (cI fun r2 M1 =>
  brA (decide (r2 = 0))
   (Q (vi ((-1))) M1)
   (CA FF sc YF d m_X8_isTold [vr 46, vi v1] M1 (cI fun r4 M3 =>
    brA (decide (r4 ≠ 0))
     ((v2 = 0 → gAnd (decide (0 ≤ v1) && decide (v1 < 10)) (Q (vi (M3 47 v1.toNat)) M3)) ∧
      (v2 ≠ 0 → (v2 = 1 → gAnd (decide (0 ≤ v1) && decide (v1 < 10)) (Q (vi (M3 48 v1.toNat)) M3)) ∧
      (v2 ≠ 1 → (v2 = 2 → gAnd (decide (0 ≤ v1) && decide (v1 < 10)) (Q (vi (M3 49 v1.toNat)) M3)) ∧
      (v2 ≠ 2 → (v2 = 3 → gAnd (decide (0 ≤ v1) && decide (v1 < 10)) (Q (vi (M3 50 v1.toNat)) M3)) ∧
      (v2 ≠ 3 → (v2 = 4 → gAnd (decide (0 ≤ v1) && decide (v1 < 10)) (brA (decide ((M3 50 v1.toNat) ≠ 1))
       (gAnd (decide (0 < M3 0 10)) (gAnd (decide (0 ≤ v1) && decide (v1 < 10)) (gAnd (kd YF ((M3 0 10).toNat - 1) == 18) (CA FF sc YF d m_X9_housesSeenFrom [vr ((M3 0 10).toNat - 1), vi (M3 47 v1.toNat)] M3 (cI fun r6 M5 =>
        Q (vi r6) M5)))))
       (Q (vi 0) M3))) ∧
      (v2 ≠ 4 → Q (vi ((-1))) M3))))))
     (Q (vi ((-1))) M3))))) : CA FF sc YF (d + 1) m_X11_strangerIs [vr 0, vi v1, vi v2] M Q := ca_go rfl rfl (fun j => false) 61 h
theorem ca_X12_strangerIs {sc : List Int} {d : Nat} {Q : Vv → MM → Prop} (v1 : Int) (v2 : Int) (M : MM) (h : CA FF sc YF d m_X12_isTold [vr 81, vi v1] M (cI fun r2 M1 =>
  brA (decide (r2 ≠ 0))
   ((v2 = 0 → gAnd (decide (0 ≤ (w32 (0 + v1))) && decide ((w32 (0 + v1)) < 36)) (Q (vi (M1 82 (w32 (0 + v1)).toNat)) M1)) ∧
    (v2 ≠ 0 → (v2 = 1 → gAnd (decide (0 ≤ (w32 (10 + v1))) && decide ((w32 (10 + v1)) < 36)) (Q (vi (M1 82 (w32 (10 + v1)).toNat)) M1)) ∧
    (v2 ≠ 1 → (v2 = 2 → gAnd (decide (0 ≤ (w32 (20 + v1))) && decide ((w32 (20 + v1)) < 36)) (Q (vi (M1 82 (w32 (20 + v1)).toNat)) M1)) ∧
    (v2 ≠ 2 → (v2 = 3 → CA FF sc YF d m_X12_has [vi (M1 82 31), vi v1] M1 (cI fun r6 M5 =>
     brA (decide (r6 = 0))
      (Q (vi 0) M5)
      (Q (vi 1) M5))) ∧
    (v2 ≠ 3 → (v2 = 4 → CA FF sc YF d m_X12_housesSeen [vr 81, vi v1] M1 (cI fun r4 M3 =>
     Q (vi r4) M3)) ∧
    (v2 ≠ 4 → Q (vi ((-1))) M1))))))
   (Q (vi ((-1))) M1))) : CA FF sc YF (d + 1) m_X12_strangerIs [vr 81, vi v1, vi v2] M Q := ca_go rfl rfl (fun j => false) 51 h
theorem ca_X11_houseIs {sc : List Int} {d : Nat} {Q : Vv → MM → Prop} (v1 : Int) (v2 : Int) (M : MM) (h : CA FF sc YF d m_X11_isHouse [vi v1] M (cI fun r2 M1 =>
  brA (decide (r2 ≠ 0))
   ((v2 = 0 → gAnd (decide (0 < M1 0 10)) (gAnd ((kd YF ((M1 0 10).toNat - 1) == 18) && rfK (FF ((M1 0 10).toNat - 1) 1) (M1 ((M1 0 10).toNat - 1) 1)) (gAnd ((kd YF (rfO (FF ((M1 0 10).toNat - 1) 1) (M1 ((M1 0 10).toNat - 1) 1)) == 0) && (decide (0 ≤ v1) && decide (v1 < ln YF (rfO (FF ((M1 0 10).toNat - 1) 1) (M1 ((M1 0 10).toNat - 1) 1))))) (brA (decide ((M1 (rfO (FF ((M1 0 10).toNat - 1) 1) (M1 ((M1 0 10).toNat - 1) 1)) v1.toNat) ≠ ((-1))))
     (gAnd (decide (0 < M1 0 10)) (gAnd ((kd YF ((M1 0 10).toNat - 1) == 18) && rfK (FF ((M1 0 10).toNat - 1) 1) (M1 ((M1 0 10).toNat - 1) 1)) (gAnd ((kd YF (rfO (FF ((M1 0 10).toNat - 1) 1) (M1 ((M1 0 10).toNat - 1) 1)) == 0) && (decide (0 ≤ v1) && decide (v1 < ln YF (rfO (FF ((M1 0 10).toNat - 1) 1) (M1 ((M1 0 10).toNat - 1) 1))))) (Q (vi (M1 (rfO (FF ((M1 0 10).toNat - 1) 1) (M1 ((M1 0 10).toNat - 1) 1)) v1.toNat)) M1))))
     (Q (vi ((-2))) M1))))) ∧
    (v2 ≠ 0 → (v2 = 1 → gAnd (decide (0 ≤ v1) && decide (v1 < 10)) (Q (vi (M1 4 v1.toNat)) M1)) ∧
    (v2 ≠ 1 → (v2 = 2 → CA FF sc YF d m_X11_dogOf [vr 0, vi v1] M1 (cI fun r6 M5 =>
     Q (vi r6) M5)) ∧
    (v2 ≠ 2 → (v2 = 3 → CA FF sc YF d m_X11_canHaunt [vr 0, vi v1] M1 (cI fun r4 M3 =>
     brA (decide (r4 = 0))
      (Q (vi 0) M3)
      (Q (vi 1) M3))) ∧
    (v2 ≠ 3 → (v2 = 4 → gAnd (decide (0 ≤ v1) && decide (v1 < 10)) (Q (vi (M1 56 v1.toNat)) M1)) ∧
    (v2 ≠ 4 → Q (vi ((-1))) M1))))))
   (Q (vi ((-1))) M1))) : CA FF sc YF (d + 1) m_X11_houseIs [vr 0, vi v1, vi v2] M Q := ca_go rfl rfl (fun j => false) 52 h
theorem ca_X12_houseIs {sc : List Int} {d : Nat} {Q : Vv → MM → Prop} (v1 : Int) (v2 : Int) (M : MM) (h : CA FF sc YF d m_X12_isTen [vi v1] M (cI fun r2 M1 =>
  brA (decide (r2 ≠ 0))
   ((v2 = 0 → gAnd (decide (0 ≤ v1) && decide (v1 < 10)) (Q (vi (M1 86 v1.toNat)) M1)) ∧
    (v2 ≠ 0 → (v2 = 1 → gAnd (decide (0 ≤ v1) && decide (v1 < 10)) (Q (vi (M1 88 v1.toNat)) M1)) ∧
    (v2 ≠ 1 → (v2 = 2 → CA FF sc YF d m_X12_has [vi (M1 81 8), vi v1] M1 (cI fun r8 M7 =>
     brA (decide (r8 ≠ 0))
      (CA FF sc YF d m_X12_has [vi (M7 82 32), vi v1] M7 (cI fun r10 M9 =>
       brA (decide (r10 = 0))
        (Q (vi 1) M9)
        (Q (vi 2) M9)))
      (Q (vi 0) M7))) ∧
    (v2 ≠ 2 → (v2 = 3 → CA FF sc YF d m_X12_hasSpot [vr 81, vi v1] M1 (cI fun r4 M3 =>
     brA (decide (r4 = 0))
      (Q (vi 0) M3)
      (brA (decide (9999 ≤ (M3 82 34)))
       (Q (vi 0) M3)
       (CA FF sc YF d m_X12_mayHaunt [vr 81, vi v1, vi (M3 82 34)] M3 (cI fun r6 M5 =>
        brA (decide (r6 = 0))
         (Q (vi 0) M5)
         (Q (vi 1) M5)))))) ∧
    (v2 ≠ 3 → (v2 = 4 → gAnd (decide (0 ≤ v1) && decide (v1 < 10)) (Q (vi (M1 87 v1.toNat)) M1)) ∧
    (v2 ≠ 4 → Q (vi ((-1))) M1))))))
   (Q (vi ((-1))) M1))) : CA FF sc YF (d + 1) m_X12_houseIs [vr 81, vi v1, vi v2] M Q := ca_go rfl rfl (fun j => false) 69 h
theorem ca_X11_meet {sc : List Int} {d : Nat} {Q : Vv → MM → Prop} (v1 : Int) (v2 : Int) (v3 : Int) (M : MM) (h : CA FF sc YF d m_X11_hasSpot [vr 0, vi v1] M (cI fun r2 M1 =>
  brA (decide (r2 = 0))
   (Q (vi ((-1))) M1)
   (CA FF sc YF d m_X11_hasSpot [vr 0, vi v2] M1 (cI fun r4 M3 =>
    brA (decide (r4 = 0))
     (Q (vi ((-1))) M3)
     (brA (decide (v1 = v2))
      (Q (vi ((-1))) M3)
      (CA FF sc YF d m_X11_isIn [vi v3, vi 0, vi 2] M3 (cI fun r6 M5 =>
       brA (decide (r6 ≠ 0))
        (gAnd (decide (0 < M5 0 10)) (CA FF sc YF d m_X10_meeting [vr 3, vr ((M5 0 10).toNat - 1), vi v1, vi v2] M5 (cI fun r8 M7 =>
         brA (decide (r8 = ((-2))))
          (Q (vi r8) M7)
          (brA (decide (v3 ≠ 0))
           (brA (decide (v3 ≠ 1))
            (CA FF sc YF d m_X10_otherIn [vr 3, vi v2, vi r8] M7 (cI fun r10 M9 =>
             Q (vi r10) M9))
            (CA FF sc YF d m_X10_oneIn [vr 3, vi v1, vi r8] M7 (cI fun r12 M11 =>
             Q (vi r12) M11)))
           (Q (vi r8) M7)))))
        (Q (vi ((-1))) M5)))))))) : CA FF sc YF (d + 1) m_X11_meet [vr 0, vi v1, vi v2, vi v3] M Q := ca_go rfl rfl (fun j => false) 53 h
theorem ca_X12_meet {sc : List Int} {d : Nat} {Q : Vv → MM → Prop} (v1 : Int) (v2 : Int) (v3 : Int) (M : MM) (h : CA FF sc YF d m_X12_hasSpot [vr 81, vi v1] M (cI fun r2 M1 =>
  brA (decide (r2 = 0))
   (Q (vi ((-1))) M1)
   (CA FF sc YF d m_X12_hasSpot [vr 81, vi v2] M1 (cI fun r4 M3 =>
    brA (decide (r4 = 0))
     (Q (vi ((-1))) M3)
     (brA (decide (v1 = v2))
      (Q (vi ((-1))) M3)
      (CA FF sc YF d m_X12_in [vi v3, vi 0, vi 2] M3 (cI fun r6 M5 =>
       brA (decide (r6 ≠ 0))
        (gAnd (decide (0 ≤ v1) && decide (v1 < 10)) (gAnd (decide (0 ≤ v2) && decide (v2 < 10)) (WP FF sc YF (d + 1) m_X12_meet 30 [] [some (vr 81), some (vi v1), some (vi v2), some (vi v3), some (vi (M5 86 v1.toNat)), some (vi (M5 86 v2.toNat)), some (vi 1), none, none] M5 Q)))
        (Q (vi ((-1))) M5)))))))) : CA FF sc YF (d + 1) m_X12_meet [vr 81, vi v1, vi v2, vi v3] M Q := ca_go rfl rfl (fun j => Nat.beq j 30 || Nat.beq j 62) 86 h
theorem ca_X11_dread {sc : List Int} {d : Nat} {Q : Vv → MM → Prop} (v1 : Int) (v2 : Int) (v3 : Int) (M : MM) (h : CA FF sc YF d m_X11_hasSpot [vr 0, vi v1] M (cI fun r2 M1 =>
  brA (decide (r2 = 0))
   (Q (vi ((-1))) M1)
   (CA FF sc YF d m_X11_isIn [vi v2, vi 1, vi 40] M1 (cI fun r4 M3 =>
    brA (decide (r4 = 0))
     (Q (vi ((-1))) M3)
     (CA FF sc YF d m_X11_isIn [vi v3, vi 0, vi 1] M3 (cI fun r6 M5 =>
      brA (decide (r6 ≠ 0))
       (gAnd (decide (0 < M5 0 10)) (gAnd (decide (0 < M5 0 12)) (CA FF sc YF d m_X3_frighten [vr 32, vr ((M5 0 10).toNat - 1), vr ((M5 0 12).toNat - 1), vr 46, vi v1, vi v2] M5 (fun _ M7 =>
        brA (decide (v3 ≠ 0))
         (Q (vi (M7 32 2)) M7)
         (Q (vi (M7 32 1)) M7)))))
       (Q (vi ((-1))) M5))))))) : CA FF sc YF (d + 1) m_X11_dread [vr 0, vi v1, vi v2, vi v3] M Q := ca_go rfl rfl (fun j => false) 42 h
theorem ca_X12_dread {sc : List Int} {d : Nat} {Q : Vv → MM → Prop} (v1 : Int) (v2 : Int) (v3 : Int) (M : MM) (h : CA FF sc YF d m_X12_hasSpot [vr 81, vi v1] M (cI fun r2 M1 =>
  brA (decide (r2 = 0))
   (Q (vi ((-1))) M1)
   (CA FF sc YF d m_X12_in [vi v2, vi 1, vi 40] M1 (cI fun r4 M3 =>
    brA (decide (r4 = 0))
     (Q (vi ((-1))) M3)
     (CA FF sc YF d m_X12_in [vi v3, vi 0, vi 1] M3 (cI fun r6 M5 =>
      brA (decide (r6 ≠ 0))
       (WP FF sc YF (d + 1) m_X12_dread 18 [] [some (vr 81), some (vi v1), some (vi v2), some (vi v3), some (vi 0), none, none, none] M5 Q)
       (Q (vi ((-1))) M5))))))) : CA FF sc YF (d + 1) m_X12_dread [vr 81, vi v1, vi v2, vi v3] M Q := ca_go rfl rfl (fun j => Nat.beq j 18 || Nat.beq j 42 || Nat.beq j 47 || Nat.beq j 59 || Nat.beq j 64 || Nat.beq j 96 || Nat.beq j 128) 158 h
theorem ca_X11_unseen {sc : List Int} {d : Nat} {Q : Vv → MM → Prop} (v1 : Int) (v2 : Int) (v3 : Int) (M : MM) (h : CA FF sc YF d m_X11_hasSpot [vr 0, vi v1] M (cI fun r2 M1 =>
  brA (decide (r2 = 0))
   (Q (vi ((-1))) M1)
   (CA FF sc YF d m_X11_isIn [vi v2, vi 0, vi 63] M1 (cI fun r4 M3 =>
    brA (decide (r4 = 0))
     (Q (vi ((-1))) M3)
     (CA FF sc YF d m_X11_isIn [vi v3, vi 0, vi 1] M3 (cI fun r6 M5 =>
      brA (decide (r6 ≠ 0))
       (gAnd (decide (0 < M5 0 10)) (gAnd (decide (0 < M5 0 10)) (gAnd ((kd YF ((M5 0 10).toNat - 1) == 18) && rfK (FF ((M5 0 10).toNat - 1) 1) (M5 ((M5 0 10).toNat - 1) 1)) (gAnd ((kd YF (rfO (FF ((M5 0 10).toNat - 1) 1) (M5 ((M5 0 10).toNat - 1) 1)) == 0) && (decide (0 ≤ v1) && decide (v1 < ln YF (rfO (FF ((M5 0 10).toNat - 1) 1) (M5 ((M5 0 10).toNat - 1) 1))))) (CA FF sc YF d m_X3_hide [vr 32, vr ((M5 0 10).toNat - 1), vr 46, vi (M5 (rfO (FF ((M5 0 10).toNat - 1) 1) (M5 ((M5 0 10).toNat - 1) 1)) v1.toNat), vi v2] M5 (cI fun r8 M7 =>
        brA (decide (r8 ≠ ((-1))))
         (brA (decide (v3 ≠ 0))
          (Q (vi (Int.tmod r8 100)) M7)
          (Q (vi (w32 (Int.tdiv r8 100))) M7))
         (Q (vi ((-2))) M7)))))))
       (Q (vi ((-1))) M5))))))) : CA FF sc YF (d + 1) m_X11_unseen [vr 0, vi v1, vi v2, vi v3] M Q := ca_go rfl rfl (fun j => false) 50 h
theorem ca_X12_unseen {sc : List Int} {d : Nat} {Q : Vv → MM → Prop} (v1 : Int) (v2 : Int) (v3 : Int) (M : MM) (h : CA FF sc YF d m_X12_hasSpot [vr 81, vi v1] M (cI fun r2 M1 =>
  brA (decide (r2 = 0))
   (Q (vi ((-1))) M1)
   (CA FF sc YF d m_X12_in [vi v2, vi 0, vi 63] M1 (cI fun r4 M3 =>
    brA (decide (r4 = 0))
     (Q (vi ((-1))) M3)
     (CA FF sc YF d m_X12_in [vi v3, vi 0, vi 1] M3 (cI fun r6 M5 =>
      brA (decide (r6 ≠ 0))
       (gAnd (decide (0 ≤ v1) && decide (v1 < 10)) (CA FF sc YF d m_X12_laysCosts [vr 81, vi (M5 86 v1.toNat), vi 1] M5 (fun _ M7 =>
        gAnd (decide (0 ≤ v2) && decide (v2 < 64)) (brA (decide ((M7 114 v2.toNat) ≠ 1000000000))
         (brA (decide (v3 ≠ 0))
          (gAnd (decide (0 ≤ v2) && decide (v2 < 64)) (Q (vi (Int.tmod (M7 114 v2.toNat) 100)) M7))
          (gAnd (decide (0 ≤ v2) && decide (v2 < 64)) (Q (vi (w32 (Int.tdiv (M7 114 v2.toNat) 100))) M7)))
         (Q (vi ((-2))) M7)))))
       (Q (vi ((-1))) M5))))))) : CA FF sc YF (d + 1) m_X12_unseen [vr 81, vi v1, vi v2, vi v3] M Q := ca_go rfl rfl (fun j => false) 52 h
theorem ca_X11_watch {sc : List Int} {d : Nat} {Q : Vv → MM → Prop} (v1 : Int) (M : MM) (h : CA FF sc YF d m_X11_isIn [vi v1, vi 0, vi 1] M (cI fun r2 M1 =>
  brA (decide (r2 ≠ 0))
   (gAnd (decide (0 < M1 0 10)) (CA FF sc YF d m_X3_lookOut [vr 32, vr ((M1 0 10).toNat - 1), vr 3] M1 (fun _ M3 =>
    brA (decide ((M3 32 2) ≠ ((-1))))
     (brA (decide (v1 ≠ 0))
      (Q (vi (M3 32 1)) M3)
      (Q (vi (M3 32 2)) M3))
     (Q (vi ((-2))) M3))))
   (Q (vi ((-1))) M1))) : CA FF sc YF (d + 1) m_X11_watch [vr 0, vi v1] M Q := ca_go rfl rfl (fun j => false) 36 h
theorem ca_X12_watch {sc : List Int} {d : Nat} {Q : Vv → MM → Prop} (v1 : Int) (M : MM) (h : CA FF sc YF d m_X12_in [vi v1, vi 0, vi 1] M (cI fun r2 M1 =>
  brA (decide (r2 ≠ 0))
   (WP FF sc YF (d + 1) m_X12_watch 13 [] [some (vr 81), some (vi v1), some (vi ((-2))), some (vi ((-1))), some (vi 0), none] M1 Q)
   (Q (vi ((-1))) M1))) : CA FF sc YF (d + 1) m_X12_watch [vr 81, vi v1] M Q := ca_go rfl rfl (fun j => Nat.beq j 13) 50 h
theorem rg_X12_watch_13 {sc : List Int} {d : Nat} {Q : Vv → MM → Prop} (v1 : Int) (v2 : Int) (v3 : Int) (v4 : Int) (o5 : Option Vv) (M : MM) (h : brA (decide (64 ≤ v4))
  (brA (decide (v1 = 0))
   (Q (vi v2) M)
   (brA (decide (v2 ≠ ((-2))))
    (Q (vi v3) M)
    (Q (vi v2) M)))
  (gAnd (decide (0 ≤ v4) && decide (v4 < 64)) (brA (decide ((M 85 v4.toNat) = 0))
   (CA FF sc YF d m_X12_watchedFrom [vr 81, vi v4] M (cI fun r2 M1 =>
    brA (decide (v3 < r2))
     (WP FF sc YF (d + 1) m_X12_watch 13 [] [some (vr 81), some (vi v1), some (vi v4), some (vi r2), some (vi (w32 (v4 + 1))), some (vi r2)] M1 Q)
     (WP FF sc YF (d + 1) m_X12_watch 13 [] [some (vr 81), some (vi v1), some (vi v2), some (vi v3), some (vi (w32 (v4 + 1))), some (vi r2)] M1 Q)))
   (WP FF sc YF (d + 1) m_X12_watch 13 [] [some (vr 81), some (vi v1), some (vi v2), some (vi v3), some (vi (w32 (v4 + 1))), o5] M Q)))) : WP FF sc YF (d + 1) m_X12_watch 13 [] [some (vr 81), some (vi v1), some (vi v2), some (vi v3), some (vi v4), o5] M Q := wp_go rfl (fun j => Nat.beq j 13) 50 h
theorem ca_X11_feared {sc : List Int} {d : Nat} {Q : Vv → MM → Prop} (v1 : Int) (v2 : Int) (M : MM) (h : CA FF sc YF d m_X11_isStranger [vi v1] M (cI fun r2 M1 =>
  brA (decide (r2 = 0))
   (Q (vi ((-1))) M1)
   (CA FF sc YF d m_X8_isTold [vr 46, vi v1] M1 (cI fun r4 M3 =>
    brA (decide (r4 = 0))
     (Q (vi ((-1))) M3)
     (CA FF sc YF d m_X11_isIn [vi v2, vi 0, vi 1] M3 (cI fun r6 M5 =>
      brA (decide (r6 ≠ 0))
       (WP FF sc YF (d + 1) m_X11_feared 21 [] [some (vr 0), some (vi v1), some (vi v2), some (vi ((-2))), some (vi 0), some (vi 0), none] M5 Q)
       (Q (vi ((-1))) M5))))))) : CA FF sc YF (d + 1) m_X11_feared [vr 0, vi v1, vi v2] M Q := ca_go rfl rfl (fun j => Nat.beq j 21) 76 h
theorem ca_X12_feared {sc : List Int} {d : Nat} {Q : Vv → MM → Prop} (v1 : Int) (v2 : Int) (M : MM) (h : CA FF sc YF d m_X12_isTold [vr 81, vi v1] M (cI fun r2 M1 =>
  brA (decide (r2 = 0))
   (Q (vi ((-1))) M1)
   (CA FF sc YF d m_X12_in [vi v2, vi 0, vi 1] M1 (cI fun r4 M3 =>
    brA (decide (r4 ≠ 0))
     (WP FF sc YF (d + 1) m_X12_feared 17 [] [some (vr 81), some (vi v1), some (vi v2), some (vi ((-2))), some (vi 0), some (vi 0), none] M3 Q)
     (Q (vi ((-1))) M3))))) : CA FF sc YF (d + 1) m_X12_feared [vr 81, vi v1, vi v2] M Q := ca_go rfl rfl (fun j => Nat.beq j 17) 73 h
theorem ca_X11_sightings {sc : List Int} {d : Nat} {Q : Vv → MM → Prop} (v1 : Int) (v2 : Int) (M : MM) (h : CA FF sc YF d m_X11_isIn [vi v1, vi 1, vi 10] M (cI fun r2 M1 =>
  brA (decide (r2 = 0))
   (Q (vi ((-1))) M1)
   (CA FF sc YF d m_X11_isIn [vi v2, vi 0, vi 1] M1 (cI fun r4 M3 =>
    brA (decide (r4 = 0))
     (Q (vi ((-1))) M3)
     (brA (decide ((w32 (2 * v1)) ≤ (M3 1 1)))
      (gAnd (decide (0 < M3 0 10)) (CA FF sc YF d m_X6_read [vr 37, vr 1, vi v1, vr ((M3 0 10).toNat - 1)] M3 (cI fun r6 M5 =>
       CA FF sc YF d m_X7_empty [vr 1] M5 (fun _ M7 =>
        brA (decide (r6 ≠ 0))
         (gAnd (decide (0 < M7 0 10)) (CA FF sc YF d m_X6_link [vr 37, vr ((M7 0 10).toNat - 1), vr 32] M7 (fun _ M8 =>
          brA (decide (v2 ≠ 0))
           (gAnd (decide (0 < M8 0 10)) (CA FF sc YF d m_X6_fromWhere [vr 37, vr ((M8 0 10).toNat - 1), vr 32] M8 (cI fun r10 M9 =>
            Q (vi r10) M9)))
           (CA FF sc YF d m_X6_fewestGhosts [vr 37] M8 (cI fun r12 M11 =>
            Q (vi r12) M11)))))
         (Q (vi ((-2))) M7)))))
      (Q (vi ((-1))) M3)))))) : CA FF sc YF (d + 1) m_X11_sightings [vr 0, vi v1, vi v2] M Q := ca_go rfl rfl (fun j => false) 61 h
theorem ca_X12_sightings {sc : List Int} {d : Nat} {Q : Vv → MM → Prop} (v1 : Int) (v2 : Int) (M : MM) (h : CA FF sc YF d m_X12_in [vi v1, vi 1, vi 10] M (cI fun r2 M1 =>
  brA (decide (r2 = 0))
   (Q (vi ((-1))) M1)
   (CA FF sc YF d m_X12_in [vi v2, vi 0, vi 1] M1 (cI fun r4 M3 =>
    brA (decide (r4 = 0))
     (Q (vi ((-1))) M3)
     (brA (decide ((w32 (2 * v1)) ≤ (M3 81 10)))
      (CA FF sc YF d m_X12_areSights [vr 81, vi v1] (stM M3 81 10 0) (cI fun r6 M5 =>
       brA (decide (r6 ≠ 0))
        (CA FF sc YF d m_X12_laysBoth [vr 81, vi v1] M5 (fun _ M7 =>
         brA (decide (v2 ≠ 0))
          (CA FF sc YF d m_X12_fromWhere [vr 81, vi v1] M7 (cI fun r9 M8 =>
           Q (vi r9) M8))
          (CA FF sc YF d m_X12_ghostsFor [vr 81, vi v1] M7 (cI fun r11 M10 =>
           Q (vi r11) M10))))
        (Q (vi ((-2))) M5)))
      (Q (vi ((-1))) M3)))))) : CA FF sc YF (d + 1) m_X12_sightings [vr 81, vi v1, vi v2] M Q := ca_go rfl rfl (fun j => false) 45 h
theorem ca_X11_rotas {sc : List Int} {d : Nat} {Q : Vv → MM → Prop} (v1 : Int) (v2 : Int) (v3 : Int) (v4 : Int) (M : MM) (h : CA FF sc YF d m_X11_isIn [vi v1, vi 1, vi 14] M (cI fun r2 M1 =>
  brA (decide (r2 = 0))
   (Q (vi ((-1))) M1)
   (CA FF sc YF d m_X11_isIn [vi v3, vi 1, vi 3] M1 (cI fun r4 M3 =>
    brA (decide (r4 = 0))
     (Q (vi ((-1))) M3)
     (CA FF sc YF d m_X11_canShare [vr 0, vi v2] M3 (cI fun r6 M5 =>
      brA (decide (r6 ≠ 0))
       (CA FF sc YF d m_X11_isIn [vi v4, vi 0, vi (w32 (v1 - 1))] M5 (cI fun r8 M7 =>
        brA (decide (r8 ≠ 0))
         (WP FF sc YF (d + 1) m_X11_rotas 33 [] [some (vr 0), some (vi v1), some (vi v2), some (vi v3), some (vi v4), some (vi r8)] M7 Q)
         (brA (decide (v4 = 100))
          (WP FF sc YF (d + 1) m_X11_rotas 33 [] [some (vr 0), some (vi v1), some (vi v2), some (vi v3), some (vi v4), some (vi r8)] M7 Q)
          (brA (decide (v4 = 101))
           (WP FF sc YF (d + 1) m_X11_rotas 33 [] [some (vr 0), some (vi v1), some (vi v2), some (vi v3), some (vi v4), some (vi r8)] M7 Q)
           (Q (vi ((-1))) M7)))))
       (Q (vi ((-1))) M5))))))) : CA FF sc YF (d + 1) m_X11_rotas [vr 0, vi v1, vi v2, vi v3, vi v4] M Q := ca_go rfl rfl (fun j => Nat.beq j 33) 82 h
theorem ca_X12_rotas {sc : List Int} {d : Nat} {Q : Vv → MM → Prop} (v1 : Int) (v2 : Int) (v3 : Int) (v4 : Int) (M : MM) (h : CA FF sc YF d m_X12_in [vi v1, vi 1, vi 14] M (cI fun r2 M1 =>
  brA (decide (r2 = 0))
   (Q (vi ((-1))) M1)
   (CA FF sc YF d m_X12_in [vi v2, vi 1, vi 1023] M1 (cI fun r4 M3 =>
    brA (decide (r4 = 0))
     (Q (vi ((-1))) M3)
     (CA FF sc YF d m_X12_bits [vi v2] M3 (cI fun r6 M5 =>
      brA (decide (5 < r6))
       (Q (vi ((-1))) M5)
       (CA FF sc YF d m_X12_in [vi v3, vi 1, vi 3] M5 (cI fun r8 M7 =>
        brA (decide (r8 = 0))
         (Q (vi ((-1))) M7)
         (CA FF sc YF d m_X12_in [vi v4, vi 100, vi 101] M7 (cI fun r10 M9 =>
          brA (decide (r10 ≠ 0))
           (WP FF sc YF (d + 1) m_X12_rotas 31 [] [some (vr 81), some (vi v1), some (vi v2), some (vi v3), some (vi v4), none] M9 Q)
           (CA FF sc YF d m_X12_in [vi v4, vi 0, vi (w32 (v1 - 1))] M9 (cI fun r12 M11 =>
            brA (decide (r12 = 0))
             (Q (vi ((-1))) M11)
             (WP FF sc YF (d + 1) m_X12_rotas 31 [] [some (vr 81), some (vi v1), some (vi v2), some (vi v3), some (vi v4), none] M11 Q))))))))))))) : CA FF sc YF (d + 1) m_X12_rotas [vr 81, vi v1, vi v2, vi v3, vi v4] M Q := ca_go rfl rfl (fun j => Nat.beq j 31 || Nat.beq j 49) 117 h
theorem rg_X12_rotas_31 {sc : List Int} {d : Nat} {Q : Vv → MM → Prop} (v1 : Int) (v2 : Int) (v3 : Int) (v4 : Int) (o5 : Option Vv) (M : MM) (h : brA (decide ((w32 ((M 82 34) + v1)) ≤ 9999))
  (WP FF sc YF (d + 1) m_X12_rotas 49 [] [some (vr 81), some (vi v1), some (vi v2), some (vi v3), some (vi v4), some (vi 0)] (stM (stM M 81 57 0) 81 58 v3) Q)
  (Q (vi ((-1))) M)) : WP FF sc YF (d + 1) m_X12_rotas 31 [] [some (vr 81), some (vi v1), some (vi v2), some (vi v3), some (vi v4), o5] M Q := wp_go rfl (fun j => Nat.beq j 31 || Nat.beq j 49) 117 h
theorem rg_X12_rotas_49 {sc : List Int} {d : Nat} {Q : Vv → MM → Prop} (v1 : Int) (v2 : Int) (v3 : Int) (v4 : Int) (v5 : Int) (M : MM) (h : brA (decide (10 ≤ v5))
  (CA FF sc YF d m_X12_laysRotas [vr 81, vi v1] M (fun _ M1 =>
   CA FF sc YF d m_X12_rotaState [vi 0, vi 0, vi 5] M1 (cI fun r3 M2 =>
    brA (decide (v4 ≠ 100))
     (gAnd (decide (0 ≤ r3) && decide (r3 < 92160)) (brA (decide ((M2 116 r3.toNat) ≠ 0))
      (brA (decide (v4 ≠ 101))
       (CA FF sc YF d m_X12_firstIn [vr 81, vi v4] M2 (cI fun r5 M4 =>
        Q (vi r5) M4))
       (gAnd (decide (0 ≤ r3) && decide (r3 < 92160)) (Q (vi (M2 117 r3.toNat)) M2)))
      (Q (vi ((-2))) M2)))
     (gAnd (decide (0 ≤ r3) && decide (r3 < 92160)) (Q (vi (M2 116 r3.toNat)) M2)))))
  (CA FF sc YF d m_X12_has [vi v2, vi v5] M (cI fun r7 M6 =>
   brA (decide (r7 ≠ 0))
    (CA FF sc YF d m_X12_hasSpot [vr 81, vi v5] M6 (cI fun r9 M8 =>
     brA (decide (r9 ≠ 0))
      (gAnd (decide (0 ≤ (M8 81 57)) && decide ((M8 81 57) < 5)) (WP FF sc YF (d + 1) m_X12_rotas 49 [] [some (vr 81), some (vi v1), some (vi v2), some (vi v3), some (vi v4), some (vi (w32 (v5 + 1)))] (stM (stM M8 118 ((M8 81 57).toNat) v5) 81 57 (w32 (((stM M8 118 ((M8 81 57).toNat) v5) 81 57) + 1))) Q))
      (Q (vi ((-1))) M8)))
    (WP FF sc YF (d + 1) m_X12_rotas 49 [] [some (vr 81), some (vi v1), some (vi v2), some (vi v3), some (vi v4), some (vi (w32 (v5 + 1)))] M6 Q)))) : WP FF sc YF (d + 1) m_X12_rotas 49 [] [some (vr 81), some (vi v1), some (vi v2), some (vi v3), some (vi v4), some (vi v5)] M Q := wp_go rfl (fun j => Nat.beq j 31 || Nat.beq j 49) 117 h
theorem ca_X11_goes {sc : List Int} {d : Nat} {Q : Vv → MM → Prop} (v1 : Int) (v2 : Int) (M : MM) (h : CA FF sc YF d m_X11_isIn [vi v1, vi 0, vi 1023] M (cI fun r2 M1 =>
  brA (decide (r2 = 0))
   (Q (vi ((-1))) M1)
   (CA FF sc YF d m_X11_isIn [vi v2, vi 1, vi 20] M1 (cI fun r4 M3 =>
    brA (decide (r4 ≠ 0))
     (gAnd (decide (0 < M3 0 10)) (gAnd (kd YF ((M3 0 10).toNat - 1) == 18) (CA FF sc YF d m_X9_housesWithSpots [vr ((M3 0 10).toNat - 1)] M3 (cI fun r6 M5 =>
      WP FF sc YF (d + 1) m_X11_goes 20 [] [some (vr 0), some (vi v1), some (vi v2), some (vi (bAnd v1 r6)), some (vi 0)] M5 Q))))
     (Q (vi ((-1))) M3))))) : CA FF sc YF (d + 1) m_X11_goes [vr 0, vi v1, vi v2] M Q := ca_go rfl rfl (fun j => Nat.beq j 20) 41 h
theorem rg_X11_goes_20 {sc : List Int} {d : Nat} {Q : Vv → MM → Prop} (v1 : Int) (v2 : Int) (v3 : Int) (v4 : Int) (M : MM) (h : brA (decide (v2 ≤ v4))
  (Q (vi v3) M)
  (gAnd (decide (0 < M 0 10)) (gAnd (decide (0 < M 0 12)) (CA FF sc YF d m_X5_pass [vr ((M 0 10).toNat - 1), vr ((M 0 12).toNat - 1), vr 46, vi v3] M (cI fun r2 M1 =>
   WP FF sc YF (d + 1) m_X11_goes 20 [] [some (vr 0), some (vi v1), some (vi v2), some (vi r2), some (vi (w32 (v4 + 1)))] M1 Q))))) : WP FF sc YF (d + 1) m_X11_goes 20 [] [some (vr 0), some (vi v1), some (vi v2), some (vi v3), some (vi v4)] M Q := wp_go rfl (fun j => Nat.beq j 20) 41 h
theorem ca_X12_goes {sc : List Int} {d : Nat} {Q : Vv → MM → Prop} (v1 : Int) (v2 : Int) (M : MM) (h : CA FF sc YF d m_X12_in [vi v1, vi 0, vi 1023] M (cI fun r2 M1 =>
  brA (decide (r2 = 0))
   (Q (vi ((-1))) M1)
   (CA FF sc YF d m_X12_in [vi v2, vi 1, vi 20] M1 (cI fun r4 M3 =>
    brA (decide (r4 ≠ 0))
     (CA FF sc YF d m_X12_spotsSet [vr 81] M3 (cI fun r6 M5 =>
      WP FF sc YF (d + 1) m_X12_goes 19 [] [some (vr 81), some (vi v1), some (vi v2), some (vi (bAnd v1 r6)), some (vi 0), none, none, none] M5 Q))
     (Q (vi ((-1))) M3))))) : CA FF sc YF (d + 1) m_X12_goes [vr 81, vi v1, vi v2] M Q := ca_go rfl rfl (fun j => Nat.beq j 19 || Nat.beq j 26 || Nat.beq j 36) 75 h
theorem rg_X12_goes_19 {sc : List Int} {d : Nat} {Q : Vv → MM → Prop} (v1 : Int) (v2 : Int) (v3 : Int) (v4 : Int) (o5 : Option Vv) (o6 : Option Vv) (o7 : Option Vv) (M : MM) (h : brA (decide (v2 ≤ v4))
  (Q (vi v3) M)
  (WP FF sc YF (d + 1) m_X12_goes 26 [] [some (vr 81), some (vi v1), some (vi v2), some (vi v3), some (vi v4), some (vi v3), some (vi 0), o7] M Q)) : WP FF sc YF (d + 1) m_X12_goes 19 [] [some (vr 81), some (vi v1), some (vi v2), some (vi v3), some (vi v4), o5, o6, o7] M Q := wp_go rfl (fun j => Nat.beq j 19 || Nat.beq j 26 || Nat.beq j 36) 75 h
theorem rg_X12_goes_26 {sc : List Int} {d : Nat} {Q : Vv → MM → Prop} (v1 : Int) (v2 : Int) (v3 : Int) (v4 : Int) (v5 : Int) (v6 : Int) (o7 : Option Vv) (M : MM) (h : brA (decide (10 ≤ v6))
  (WP FF sc YF (d + 1) m_X12_goes 19 [] [some (vr 81), some (vi v1), some (vi v2), some (vi v5), some (vi (w32 (v4 + 1))), some (vi v5), some (vi v6), o7] M Q)
  (CA FF sc YF d m_X12_has [vi v3, vi v6] M (cI fun r2 M1 =>
   brA (decide (r2 ≠ 0))
    (WP FF sc YF (d + 1) m_X12_goes 36 [] [some (vr 81), some (vi v1), some (vi v2), some (vi v3), some (vi v4), some (vi v5), some (vi v6), some (vi 0)] M1 Q)
    (WP FF sc YF (d + 1) m_X12_goes 26 [] [some (vr 81), some (vi v1), some (vi v2), some (vi v3), some (vi v4), some (vi v5), some (vi (w32 (v6 + 1))), o7] M1 Q)))) : WP FF sc YF (d + 1) m_X12_goes 26 [] [some (vr 81), some (vi v1), some (vi v2), some (vi v3), some (vi v4), some (vi v5), some (vi v6), o7] M Q := wp_go rfl (fun j => Nat.beq j 19 || Nat.beq j 26 || Nat.beq j 36) 75 h
theorem rg_X12_goes_36 {sc : List Int} {d : Nat} {Q : Vv → MM → Prop} (v1 : Int) (v2 : Int) (v3 : Int) (v4 : Int) (v5 : Int) (v6 : Int) (v7 : Int) (M : MM) (h : brA (decide (10 ≤ v7))
  (WP FF sc YF (d + 1) m_X12_goes 26 [] [some (vr 81), some (vi v1), some (vi v2), some (vi v3), some (vi v4), some (vi v5), some (vi (w32 (v6 + 1))), some (vi v7)] M Q)
  (CA FF sc YF d m_X12_hasSpot [vr 81, vi v7] M (cI fun r2 M1 =>
   brA (decide (r2 = 0))
    (WP FF sc YF (d + 1) m_X12_goes 36 [] [some (vr 81), some (vi v1), some (vi v2), some (vi v3), some (vi v4), some (vi v5), some (vi v6), some (vi (w32 (v7 + 1)))] M1 Q)
    (CA FF sc YF d m_X12_has [vi v3, vi v7] M1 (cI fun r4 M3 =>
     brA (decide (r4 ≠ 0))
      (WP FF sc YF (d + 1) m_X12_goes 36 [] [some (vr 81), some (vi v1), some (vi v2), some (vi v3), some (vi v4), some (vi v5), some (vi v6), some (vi (w32 (v7 + 1)))] M3 Q)
      (CA FF sc YF d m_X12_draws [vr 81] M3 (cI fun r6 M5 =>
       CA FF sc YF d m_X12_rumourOf [vr 81, vi v6, vi v7] M5 (cI fun r8 M7 =>
        brA (decide (r8 ≤ r6))
         (WP FF sc YF (d + 1) m_X12_goes 36 [] [some (vr 81), some (vi v1), some (vi v2), some (vi v3), some (vi v4), some (vi v5), some (vi v6), some (vi (w32 (v7 + 1)))] M7 Q)
         (WP FF sc YF (d + 1) m_X12_goes 36 [] [some (vr 81), some (vi v1), some (vi v2), some (vi v3), some (vi v4), some (vi (bOr v5 (bShl 1 v7))), some (vi v6), some (vi (w32 (v7 + 1)))] M7 Q))))))))) : WP FF sc YF (d + 1) m_X12_goes 36 [] [some (vr 81), some (vi v1), some (vi v2), some (vi v3), some (vi v4), some (vi v5), some (vi v6), some (vi v7)] M Q := wp_go rfl (fun j => Nat.beq j 19 || Nat.beq j 26 || Nat.beq j 36) 75 h
theorem ca_X11_odds {sc : List Int} {d : Nat} {Q : Vv → MM → Prop} (v1 : Int) (v2 : Int) (v3 : Int) (M : MM) (h : CA FF sc YF d m_X11_isIn [vi v1, vi 0, vi 1023] M (cI fun r2 M1 =>
  brA (decide (r2 = 0))
   (Q (vl ((-1))) M1)
   (CA FF sc YF d m_X11_hasSpot [vr 0, vi v2] M1 (cI fun r4 M3 =>
    brA (decide (r4 = 0))
     (Q (vl ((-1))) M3)
     (CA FF sc YF d m_X11_hasBit [vi v1, vi v2] M3 (cI fun r6 M5 =>
      brA (decide (r6 ≠ 0))
       (Q (vl ((-1))) M5)
       (CA FF sc YF d m_X11_isIn [vi v3, vi 0, vi 1] M5 (cI fun r8 M7 =>
        brA (decide (r8 ≠ 0))
         (gAnd (decide (0 < M7 0 10)) (gAnd (kd YF ((M7 0 10).toNat - 1) == 18) (CA FF sc YF d m_X9_housesWithSpots [vr ((M7 0 10).toNat - 1)] M7 (cI fun r10 M9 =>
          CA FF sc YF d m_X5_allDraws [vi (bAnd v1 r10)] M9 (cJ fun r12 M11 =>
           gAnd (decide (0 < M11 0 10)) (gAnd (decide (0 < M11 0 12)) (CA FF sc YF d m_X5_drawsThatTell [vr ((M11 0 10).toNat - 1), vr ((M11 0 12).toNat - 1), vi (M11 46 6), vi (bAnd v1 r10), vi v2] M11 (cJ fun r14 M13 =>
            CA FF sc YF d m_X5_commonDivisor [vl r12, vl r14] M13 (cJ fun r16 M15 =>
             brA (decide ((lcm3 r16 0) ≠ 0))
              (brA (decide (v3 ≠ 0))
               (gAnd (decide (r16 ≠ 0)) (Q (vl (w64 (Int.tdiv r12 r16))) M15))
               (gAnd (decide (r16 ≠ 0)) (Q (vl (w64 (Int.tdiv r14 r16))) M15)))
              (Q (vl ((-1))) M15))))))))))
         (Q (vl ((-1))) M7))))))))) : CA FF sc YF (d + 1) m_X11_odds [vr 0, vi v1, vi v2, vi v3] M Q := ca_go rfl rfl (fun j => false) 65 h
theorem ca_X12_odds {sc : List Int} {d : Nat} {Q : Vv → MM → Prop} (v1 : Int) (v2 : Int) (v3 : Int) (M : MM) (h : CA FF sc YF d m_X12_in [vi v1, vi 0, vi 1023] M (cI fun r2 M1 =>
  brA (decide (r2 = 0))
   (Q (vl ((-1))) M1)
   (CA FF sc YF d m_X12_hasSpot [vr 81, vi v2] M1 (cI fun r4 M3 =>
    brA (decide (r4 = 0))
     (Q (vl ((-1))) M3)
     (CA FF sc YF d m_X12_has [vi v1, vi v2] M3 (cI fun r6 M5 =>
      brA (decide (r6 ≠ 0))
       (Q (vl ((-1))) M5)
       (CA FF sc YF d m_X12_in [vi v3, vi 0, vi 1] M5 (cI fun r8 M7 =>
        brA (decide (r8 ≠ 0))
         (CA FF sc YF d m_X12_spotsSet [vr 81] M7 (cI fun r10 M9 =>
          CA FF sc YF d m_X12_bits [vi (bAnd v1 r10)] M9 (cI fun r12 M11 =>
           CA FF sc YF d m_X12_tens [vi r12] M11 (cJ fun r14 M13 =>
            CA FF sc YF d m_X12_without [vr 81, vi (bAnd v1 r10), vi v2] M13 (cJ fun r16 M15 =>
             CA FF sc YF d m_X12_gcd [vl (w64 (r14 - r16)), vl r14] M15 (cJ fun r18 M17 =>
              brA (decide (v3 ≠ 0))
               (gAnd (decide (r18 ≠ 0)) (Q (vl (w64 (Int.tdiv r14 r18))) M17))
               (gAnd (decide (r18 ≠ 0)) (Q (vl (w64 (Int.tdiv (w64 (r14 - r16)) r18))) M17))))))))
         (Q (vl ((-1))) M7))))))))) : CA FF sc YF (d + 1) m_X12_odds [vr 81, vi v1, vi v2, vi v3] M Q := ca_go rfl rfl (fun j => false) 55 h
theorem ca_X11_watered {sc : List Int} {d : Nat} {Q : Vv → MM → Prop} (v1 : Int) (M : MM) (h : CA FF sc YF d m_X11_isIn [vi v1, vi 0, vi 1023] M (cI fun r2 M1 =>
  brA (decide (r2 ≠ 0))
   (gAnd (decide (0 < M1 0 10)) (gAnd (kd YF ((M1 0 10).toNat - 1) == 18) (CA FF sc YF d m_X9_housesWithSpots [vr ((M1 0 10).toNat - 1)] M1 (cI fun r4 M3 =>
    WP FF sc YF (d + 1) m_X11_watered 17 [] [some (vr 0), some (vi v1), some (vi r4), some (vi ((-2))), some (vl ((-1))), none, some (vi 0), none, none] M3 Q))))
   (Q (vi ((-1))) M1))) : CA FF sc YF (d + 1) m_X11_watered [vr 0, vi v1] M Q := ca_go rfl rfl (fun j => Nat.beq j 17) 61 h
theorem rg_X11_watered_17 {sc : List Int} {d : Nat} {Q : Vv → MM → Prop} (v1 : Int) (v2 : Int) (v3 : Int) (v4 : Int) (v6 : Int) (o7 : Option Vv) (o8 : Option Vv) (M : MM) (h : brA (decide (10 ≤ v6))
  (Q (vi v3) M)
  (CA FF sc YF d m_X11_hasBit [vi (bAnd v2 (bXor v1 ((-1)))), vi v6] M (cI fun r2 M1 =>
   brA (decide (r2 = 0))
    (WP FF sc YF (d + 1) m_X11_watered 17 [] [some (vr 0), some (vi v1), some (vi v2), some (vi v3), some (vl v4), none, some (vi (w32 (v6 + 1))), o7, o8] M1 Q)
    (gAnd (decide (0 < M1 0 10)) (gAnd (decide (0 < M1 0 12)) (CA FF sc YF d m_X5_drawsInAll [vr ((M1 0 10).toNat - 1), vr ((M1 0 12).toNat - 1), vi (M1 46 6), vi (bOr (bAnd v1 v2) (bShl 1 v6))] M1 (cJ fun r4 M3 =>
     brA (decide ((lcm3 r4 v4) ≤ 0))
      (WP FF sc YF (d + 1) m_X11_watered 17 [] [some (vr 0), some (vi v1), some (vi v2), some (vi v3), some (vl v4), none, some (vi (w32 (v6 + 1))), some (vl r4), none] M3 Q)
      (WP FF sc YF (d + 1) m_X11_watered 17 [] [some (vr 0), some (vi v1), some (vi v2), some (vi v6), some (vl r4), none, some (vi (w32 (v6 + 1))), some (vl r4), none] M3 Q)))))))) : WP FF sc YF (d + 1) m_X11_watered 17 [] [some (vr 0), some (vi v1), some (vi v2), some (vi v3), some (vl v4), none, some (vi v6), o7, o8] M Q := wp_go rfl (fun j => Nat.beq j 17) 61 h
theorem ca_X12_watered {sc : List Int} {d : Nat} {Q : Vv → MM → Prop} (v1 : Int) (M : MM) (h : CA FF sc YF d m_X12_in [vi v1, vi 0, vi 1023] M (cI fun r2 M1 =>
  brA (decide (r2 ≠ 0))
   (CA FF sc YF d m_X12_spotsSet [vr 81] M1 (cI fun r4 M3 =>
    WP FF sc YF (d + 1) m_X12_watered 18 [] [some (vr 81), some (vi v1), some (vi (bAnd v1 r4)), some (vi ((-2))), some (vl ((-1))), none, some (vi 0), none, none, none, none] M3 Q))
   (Q (vi ((-1))) M1))) : CA FF sc YF (d + 1) m_X12_watered [vr 81, vi v1] M Q := ca_go rfl rfl (fun j => Nat.beq j 18 || Nat.beq j 40) 82 h
theorem rg_X12_watered_18 {sc : List Int} {d : Nat} {Q : Vv → MM → Prop} (v1 : Int) (v2 : Int) (v3 : Int) (v4 : Int) (v6 : Int) (o7 : Option Vv) (o8 : Option Vv) (o9 : Option Vv) (o10 : Option Vv) (M : MM) (h : brA (decide (10 ≤ v6))
  (Q (vi v3) M)
  (CA FF sc YF d m_X12_hasSpot [vr 81, vi v6] M (cI fun r2 M1 =>
   brA (decide (r2 = 0))
    (WP FF sc YF (d + 1) m_X12_watered 18 [] [some (vr 81), some (vi v1), some (vi v2), some (vi v3), some (vl v4), none, some (vi (w32 (v6 + 1))), o7, o8, o9, o10] M1 Q)
    (CA FF sc YF d m_X12_has [vi v2, vi v6] M1 (cI fun r4 M3 =>
     brA (decide (r4 = 0))
      (WP FF sc YF (d + 1) m_X12_watered 40 [] [some (vr 81), some (vi v1), some (vi v2), some (vi v3), some (vl v4), none, some (vi v6), some (vi (bOr v2 (bShl 1 v6))), some (vl 0), none, some (vi 0)] M3 Q)
      (WP FF sc YF (d + 1) m_X12_watered 18 [] [some (vr 81), some (vi v1), some (vi v2), some (vi v3), some (vl v4), none, some (vi (w32 (v6 + 1))), o7, o8, o9, o10] M3 Q)))))) : WP FF sc YF (d + 1) m_X12_watered 18 [] [some (vr 81), some (vi v1), some (vi v2), some (vi v3), some (vl v4), none, some (vi v6), o7, o8, o9, o10] M Q := wp_go rfl (fun j => Nat.beq j 18 || Nat.beq j 40) 82 h
theorem ca_X11_tax {sc : List Int} {d : Nat} {Q : Vv → MM → Prop} (v1 : Int) (M : MM) (h : CA FF sc YF d m_X11_isHouse [vi v1] M (cI fun r2 M1 =>
  brA (decide (r2 = 0))
   (Q (vi ((-1))) M1)
   (brA (decide (10 ≤ (M1 1 1)))
    (CA FF sc YF d m_X11_taxShare [vr 0, vi v1] M1 (cI fun r4 M3 =>
     CA FF sc YF d m_X7_empty [vr 1] M3 (fun _ M5 =>
      Q (vi r4) M5)))
    (Q (vi ((-1))) M1)))) : CA FF sc YF (d + 1) m_X11_tax [vr 0, vi v1] M Q := ca_go rfl rfl (fun j => false) 24 h
theorem ca_X12_tax {sc : List Int} {d : Nat} {Q : Vv → MM → Prop} (v1 : Int) (M : MM) (h : CA FF sc YF d m_X12_isTen [vi v1] M (cI fun r2 M1 =>
  brA (decide (r2 = 0))
   (Q (vi ((-1))) M1)
   (brA (decide (10 ≤ (M1 81 10)))
    (WP FF sc YF (d + 1) m_X12_tax 16 [] [some (vr 81), some (vi v1), some (vi 0), some (vi 0), none, none, none, none] (stM M1 81 10 0) Q)
    (Q (vi ((-1))) M1)))) : CA FF sc YF (d + 1) m_X12_tax [vr 81, vi v1] M Q := ca_go rfl rfl (fun j => Nat.beq j 16 || Nat.beq j 50 || Nat.beq j 92 || Nat.beq j 100) 147 h
theorem ca_X11_hand {sc : List Int} {d : Nat} {Q : Vv → MM → Prop} (v1 : Int) (v2 : Int) (M : MM) (h : CA FF sc YF d m_X11_isHouse [vi v1] M (cI fun r2 M1 =>
  brA (decide (r2 = 0))
   (Q (vi 0) M1)
   (CA FF sc YF d m_X11_isIn [vi v2, vi 0, vi 255] M1 (cI fun r4 M3 =>
    brA (decide (r4 ≠ 0))
     (gAnd (decide (0 ≤ v1) && decide (v1 < 10)) (Q (vi 1) (stM M3 56 (v1.toNat) v2)))
     (Q (vi 0) M3))))) : CA FF sc YF (d + 1) m_X11_hand [vr 0, vi v1, vi v2] M Q := ca_go rfl rfl (fun j => false) 22 h
theorem ca_X12_hand {sc : List Int} {d : Nat} {Q : Vv → MM → Prop} (v1 : Int) (v2 : Int) (M : MM) (h : CA FF sc YF d m_X12_isTen [vi v1] M (cI fun r2 M1 =>
  brA (decide (r2 = 0))
   (Q (vi 0) M1)
   (CA FF sc YF d m_X12_in [vi v2, vi 0, vi 255] M1 (cI fun r4 M3 =>
    brA (decide (r4 ≠ 0))
     (gAnd (decide (0 ≤ v1) && decide (v1 < 10)) (Q (vi 1) (stM M3 87 (v1.toNat) v2)))
     (Q (vi 0) M3))))) : CA FF sc YF (d + 1) m_X12_hand [vr 81, vi v1, vi v2] M Q := ca_go rfl rfl (fun j => false) 22 h
theorem ca_X11_ledger {sc : List Int} {d : Nat} {Q : Vv → MM → Prop} (v1 : Int) (v2 : Int) (v3 : Int) (v4 : Int) (M : MM) (h : CA FF sc YF d m_X11_isIn [vi v1, vi 0, vi 255] M (cI fun r2 M1 =>
  brA (decide (r2 = 0))
   (Q (vi ((-1))) M1)
   (CA FF sc YF d m_X11_isIn [vi v2, vi 0, vi 255] M1 (cI fun r4 M3 =>
    brA (decide (r4 ≠ 0))
     (CA FF sc YF d m_X11_isIn [vi v3, vi 0, vi 1023] M3 (cI fun r6 M5 =>
      brA (decide (r6 = 0))
       (Q (vi ((-1))) M5)
       (CA FF sc YF d m_X11_isIn [vi v4, vi 0, vi 1] M5 (cI fun r8 M7 =>
        brA (decide (r8 ≠ 0))
         (CA FF sc YF d m_X11_housesThatFit [vr 0, vi v1, vi v2, vi v3] M7 (cI fun r10 M9 =>
          brA (decide (v4 ≠ 0))
           (brA (decide (r10 ≠ 0))
            (CA FF sc YF d m_X11_markThatTells [vr 0, vi r10] M9 (cI fun r12 M11 =>
             Q (vi r12) M11))
            (Q (vi ((-2))) M9))
           (Q (vi r10) M9)))
         (Q (vi ((-1))) M7)))))
     (Q (vi ((-1))) M3))))) : CA FF sc YF (d + 1) m_X11_ledger [vr 0, vi v1, vi v2, vi v3, vi v4] M Q := ca_go rfl rfl (fun j => false) 47 h
theorem ca_X12_ledger {sc : List Int} {d : Nat} {Q : Vv → MM → Prop} (v1 : Int) (v2 : Int) (v3 : Int) (v4 : Int) (M : MM) (h : CA FF sc YF d m_X12_in [vi v1, vi 0, vi 255] M (cI fun r2 M1 =>
  brA (decide (r2 = 0))
   (Q (vi ((-1))) M1)
   (CA FF sc YF d m_X12_in [vi v2, vi 0, vi 255] M1 (cI fun r4 M3 =>
    brA (decide (r4 = 0))
     (Q (vi ((-1))) M3)
     (CA FF sc YF d m_X12_in [vi v3, vi 0, vi 1023] M3 (cI fun r6 M5 =>
      brA (decide (r6 = 0))
       (Q (vi ((-1))) M5)
       (CA FF sc YF d m_X12_in [vi v4, vi 0, vi 1] M5 (cI fun r8 M7 =>
        brA (decide (r8 ≠ 0))
         (WP FF sc YF (d + 1) m_X12_ledger 26 [] [some (vr 81), some (vi v1), some (vi v2), some (vi v3), some (vi v4), some (vi 0), some (vi 0), none] M7 Q)
         (Q (vi ((-1))) M7))))))))) : CA FF sc YF (d + 1) m_X12_ledger [vr 81, vi v1, vi v2, vi v3, vi v4] M Q := ca_go rfl rfl (fun j => Nat.beq j 26 || Nat.beq j 66) 89 h
theorem rg_X12_ledger_26 {sc : List Int} {d : Nat} {Q : Vv → MM → Prop} (v1 : Int) (v2 : Int) (v3 : Int) (v4 : Int) (v5 : Int) (v6 : Int) (o7 : Option Vv) (M : MM) (h : brA (decide (10 ≤ v6))
  (brA (decide (v4 ≠ 0))
   (brA (decide (v5 ≠ 0))
    (WP FF sc YF (d + 1) m_X12_ledger 66 [] [some (vr 81), some (vi v1), some (vi v2), some (vi v3), some (vi v4), some (vi v5), some (vi 0), some (vi 1)] M Q)
    (Q (vi ((-2))) M))
   (Q (vi v5) M))
  (CA FF sc YF d m_X12_has [vi v3, vi v6] M (cI fun r2 M1 =>
   brA (decide (r2 = 0))
    (WP FF sc YF (d + 1) m_X12_ledger 26 [] [some (vr 81), some (vi v1), some (vi v2), some (vi v3), some (vi v4), some (vi v5), some (vi (w32 (v6 + 1))), o7] M1 Q)
    (gAnd (decide (0 ≤ v6) && decide (v6 < 10)) (brA (decide ((bAnd (bAnd (bXor (M1 87 v6.toNat) v1) (bXor v2 ((-1)))) 255) ≠ 0))
     (WP FF sc YF (d + 1) m_X12_ledger 26 [] [some (vr 81), some (vi v1), some (vi v2), some (vi v3), some (vi v4), some (vi v5), some (vi (w32 (v6 + 1))), o7] M1 Q)
     (WP FF sc YF (d + 1) m_X12_ledger 26 [] [some (vr 81), some (vi v1), some (vi v2), some (vi v3), some (vi v4), some (vi (bOr v5 (bShl 1 v6))), some (vi (w32 (v6 + 1))), o7] M1 Q)))))) : WP FF sc YF (d + 1) m_X12_ledger 26 [] [some (vr 81), some (vi v1), some (vi v2), some (vi v3), some (vi v4), some (vi v5), some (vi v6), o7] M Q := wp_go rfl (fun j => Nat.beq j 26 || Nat.beq j 66) 89 h
theorem rg_X12_ledger_66 {sc : List Int} {d : Nat} {Q : Vv → MM → Prop} (v1 : Int) (v2 : Int) (v3 : Int) (v4 : Int) (v5 : Int) (v6 : Int) (v7 : Int) (M : MM) (h : brA (decide (8 ≤ v7))
  (Q (vi v6) M)
  (CA FF sc YF d m_X12_greaterBy [vr 81, vi v5, vi v7] M (cI fun r2 M1 =>
   CA FF sc YF d m_X12_greaterBy [vr 81, vi v5, vi v6] M1 (cI fun r4 M3 =>
    brA (decide (r4 ≤ r2))
     (WP FF sc YF (d + 1) m_X12_ledger 66 [] [some (vr 81), some (vi v1), some (vi v2), some (vi v3), some (vi v4), some (vi v5), some (vi v6), some (vi (w32 (v7 + 1)))] M3 Q)
     (WP FF sc YF (d + 1) m_X12_ledger 66 [] [some (vr 81), some (vi v1), some (vi v2), some (vi v3), some (vi v4), some (vi v5), some (vi v7), some (vi (w32 (v7 + 1)))] M3 Q))))) : WP FF sc YF (d + 1) m_X12_ledger 66 [] [some (vr 81), some (vi v1), some (vi v2), some (vi v3), some (vi v4), some (vi v5), some (vi v6), some (vi v7)] M Q := wp_go rfl (fun j => Nat.beq j 26 || Nat.beq j 66) 89 h
theorem ca_X11_seed {sc : List Int} {d : Nat} {Q : Vv → MM → Prop} (v1 : Int) (M : MM) (h : CA FF sc YF d m_X11_isIn [vi v1, vi 0, vi 65535] M (cI fun r2 M1 =>
  brA (decide (r2 ≠ 0))
   (Q (vi 1) (stM M1 46 7 v1))
   (Q (vi 0) M1))) : CA FF sc YF (d + 1) m_X11_seed [vr 0, vi v1] M Q := ca_go rfl rfl (fun j => false) 18 h
theorem ca_X12_seed {sc : List Int} {d : Nat} {Q : Vv → MM → Prop} (v1 : Int) (M : MM) (h : CA FF sc YF d m_X12_in [vi v1, vi 0, vi 65535] M (cI fun r2 M1 =>
  brA (decide (r2 ≠ 0))
   (Q (vi 1) (stM M1 82 35 v1))
   (Q (vi 0) M1))) : CA FF sc YF (d + 1) m_X12_seed [vr 81, vi v1] M Q := ca_go rfl rfl (fun j => false) 19 h
theorem ca_X11_keep {sc : List Int} {d : Nat} {Q : Vv → MM → Prop}  (M : MM) (h : CA FF sc YF d m_X8_copy [vr 51, vr 46] M (fun _ M1 =>
  Q (vi ((stM M1 0 14 1) 46 6)) (stM M1 0 14 1))) : CA FF sc YF (d + 1) m_X11_keep [vr 0] M Q := ca_go rfl rfl (fun j => false) 17 h
theorem ca_X12_keep {sc : List Int} {d : Nat} {Q : Vv → MM → Prop}  (M : MM) (h : CA FF sc YF d m_X12_copies [vr 82, vr 84] (stM M 81 61 1) (fun _ M1 =>
  Q (vi (M1 82 34)) M1)) : CA FF sc YF (d + 1) m_X12_keep [vr 81] M Q := ca_go rfl rfl (fun j => false) 18 h
theorem ca_X11_undo {sc : List Int} {d : Nat} {Q : Vv → MM → Prop}  (M : MM) (h : brA (decide ((M 0 14) = 0))
  (gAnd (decide ((M 0 14) = 0) || decide ((M 0 14) = 1)) (Q (vi (M 0 14)) M))
  (CA FF sc YF d m_X8_copy [vr 46, vr 51] M (fun _ M1 =>
   gAnd (decide ((M1 0 14) = 0) || decide ((M1 0 14) = 1)) (Q (vi (M1 0 14)) M1)))) : CA FF sc YF (d + 1) m_X11_undo [vr 0] M Q := ca_go rfl rfl (fun j => false) 16 h
theorem ca_X12_undo {sc : List Int} {d : Nat} {Q : Vv → MM → Prop}  (M : MM) (h : brA (decide ((M 81 61) ≠ 0))
  (CA FF sc YF d m_X12_copies [vr 84, vr 82] M (fun _ M1 =>
   Q (vi 1) M1))
  (Q (vi 0) M)) : CA FF sc YF (d + 1) m_X12_undo [vr 81] M Q := ca_go rfl rfl (fun j => false) 17 h
theorem ca_X11_check {sc : List Int} {d : Nat} {Q : Vv → MM → Prop} (v1 : Int) (M : MM) (h : CA FF sc YF d m_X11_isIn [vi v1, vi 0, vi 10] M (cI fun r2 M1 =>
  brA (decide (r2 = 0))
   (Q (vi ((-2))) M1)
   (brA (decide ((w32 (4 * v1)) ≤ (M1 1 1)))
    (WP FF sc YF (d + 1) m_X11_check 20 [] [some (vr 0), some (vi v1), some (vi ((-1))), some (vi (w32 (v1 - 1)))] M1 Q)
    (Q (vi ((-2))) M1)))) : CA FF sc YF (d + 1) m_X11_check [vr 0, vi v1] M Q := ca_go rfl rfl (fun j => Nat.beq j 20) 48 h
theorem rg_X11_check_20 {sc : List Int} {d : Nat} {Q : Vv → MM → Prop} (v1 : Int) (v2 : Int) (v3 : Int) (M : MM) (h : brA (decide (v3 < 0))
  (CA FF sc YF d m_X7_empty [vr 1] M (fun _ M1 =>
   Q (vi v2) M1))
  (CA FF sc YF d m_X7_numberAt [vr 1, vi (w32 (4 * v3))] M (cI fun r3 M2 =>
   gAnd (decide (0 ≤ v3) && decide (v3 < 10)) (brA (decide (r3 = (M2 48 v3.toNat)))
    (WP FF sc YF (d + 1) m_X11_check 20 [] [some (vr 0), some (vi v1), some (vi v2), some (vi (w32 (v3 + (-1))))] M2 Q)
    (WP FF sc YF (d + 1) m_X11_check 20 [] [some (vr 0), some (vi v1), some (vi v3), some (vi (w32 (v3 + (-1))))] M2 Q))))) : WP FF sc YF (d + 1) m_X11_check 20 [] [some (vr 0), some (vi v1), some (vi v2), some (vi v3)] M Q := wp_go rfl (fun j => Nat.beq j 20) 48 h
theorem ca_X12_check {sc : List Int} {d : Nat} {Q : Vv → MM → Prop} (v1 : Int) (M : MM) (h : CA FF sc YF d m_X12_in [vi v1, vi 0, vi 10] M (cI fun r2 M1 =>
  brA (decide (r2 = 0))
   (Q (vi ((-2))) M1)
   (brA (decide (v1 ≤ (w32 (Int.tdiv (M1 81 10) 4))))
    (WP FF sc YF (d + 1) m_X12_check 18 [] [some (vr 81), some (vi v1), some (vi 0)] (stM M1 81 10 0) Q)
    (Q (vi ((-2))) M1)))) : CA FF sc YF (d + 1) m_X12_check [vr 81, vi v1] M Q := ca_go rfl rfl (fun j => Nat.beq j 18) 48 h
theorem rg_X12_check_18 {sc : List Int} {d : Nat} {Q : Vv → MM → Prop} (v1 : Int) (v2 : Int) (M : MM) (h : brA (decide (v1 ≤ v2))
  (Q (vi ((-1))) M)
  (CA FF sc YF d m_X12_tapeNumber [vr 81, vi v2] M (cI fun r2 M1 =>
   CA FF sc YF d m_X12_isTold [vr 81, vi v2] M1 (cI fun r4 M3 =>
    brA (decide (r4 = 0))
     (brA (decide (r2 = 0))
      (WP FF sc YF (d + 1) m_X12_check 18 [] [some (vr 81), some (vi v1), some (vi (w32 (v2 + 1)))] M3 Q)
      (Q (vi v2) M3))
     (gAnd (decide (0 ≤ (w32 (10 + v2))) && decide ((w32 (10 + v2)) < 36)) (brA (decide (r2 = (M3 82 (w32 (10 + v2)).toNat)))
      (WP FF sc YF (d + 1) m_X12_check 18 [] [some (vr 81), some (vi v1), some (vi (w32 (v2 + 1)))] M3 Q)
      (Q (vi v2) M3))))))) : WP FF sc YF (d + 1) m_X12_check 18 [] [some (vr 81), some (vi v1), some (vi v2)] M Q := wp_go rfl (fun j => Nat.beq j 18) 48 h
theorem ca_X11_count {sc : List Int} {d : Nat} {Q : Vv → MM → Prop} (v1 : Int) (M : MM) (h : CA FF sc YF d m_X11_isIn [vi v1, vi 100, vi 163] M (cI fun r2 M1 =>
  brA (decide (r2 = 0))
   ((v1 = 0 → Q (vi (M1 46 6)) M1) ∧
    (v1 ≠ 0 → (v1 = 1 → Q (vi (M1 46 5)) M1) ∧
    (v1 ≠ 1 → (v1 = 2 → CA FF sc YF d m_X8_toldStrangers [vr 46] M1 (cI fun r8 M7 =>
     Q (vi r8) M7)) ∧
    (v1 ≠ 2 → (v1 = 3 → CA FF sc YF d m_X8_paidStrangers [vr 46] M1 (cI fun r6 M5 =>
     Q (vi r6) M5)) ∧
    (v1 ≠ 3 → (v1 = 4 → gAnd (decide (0 < M1 0 10)) (gAnd (kd YF ((M1 0 10).toNat - 1) == 18) (CA FF sc YF d m_X9_housesWithSpots [vr ((M1 0 10).toNat - 1)] M1 (cI fun r4 M3 =>
     Q (vi r4) M3)))) ∧
    (v1 ≠ 4 → (v1 = 5 → gAnd (decide (0 < M1 0 12)) (gAnd (kd YF ((M1 0 12).toNat - 1) == 10) (Q (vi (M1 ((M1 0 12).toNat - 1) 0)) M1))) ∧
    (v1 ≠ 5 → (v1 = 6 → Q (vi (M1 1 1)) M1) ∧
    (v1 ≠ 6 → (v1 = 7 → Q (vi (M1 46 7)) M1) ∧
    (v1 ≠ 7 → Q (vi ((-1))) M1)))))))))
   (gAnd (decide (0 < M1 0 10)) (gAnd (kd YF ((M1 0 10).toNat - 1) == 18) (CA FF sc YF d m_X9_at [vr ((M1 0 10).toNat - 1), vi (w32 (v1 - 100))] M1 (cI fun r10 M9 =>
    Q (vi r10) M9)))))) : CA FF sc YF (d + 1) m_X11_count [vr 0, vi v1] M Q := ca_go rfl rfl (fun j => false) 53 h
theorem ca_X12_count {sc : List Int} {d : Nat} {Q : Vv → MM → Prop} (v1 : Int) (M : MM) (h : (v1 = 0 → Q (vi (M 82 34)) M) ∧
  (v1 ≠ 0 → (v1 = 1 → Q (vi (M 82 33)) M) ∧
  (v1 ≠ 1 → (v1 = 2 → Q (vi (M 82 30)) M) ∧
  (v1 ≠ 2 → (v1 = 3 → Q (vi (bAnd (M 82 31) (M 82 30))) M) ∧
  (v1 ≠ 3 → (v1 = 4 → CA FF sc YF d m_X12_spotsSet [vr 81] M (cI fun r4 M3 =>
   Q (vi r4) M3)) ∧
  (v1 ≠ 4 → (v1 = 5 → Q (vi (M 81 19)) M) ∧
  (v1 ≠ 5 → (v1 = 6 → Q (vi (M 81 10)) M) ∧
  (v1 ≠ 6 → (v1 = 7 → Q (vi (M 82 35)) M) ∧
  (v1 ≠ 7 → CA FF sc YF d m_X12_in [vi v1, vi 100, vi 163] M (cI fun r2 M1 =>
   brA (decide (r2 = 0))
    (Q (vi ((-1))) M1)
    (gAnd (decide (0 ≤ (w32 (v1 - 100))) && decide ((w32 (v1 - 100)) < 64)) (Q (vi (M1 85 (w32 (v1 - 100)).toNat)) M1)))))))))))) : CA FF sc YF (d + 1) m_X12_count [vr 81, vi v1] M Q := ca_go rfl rfl (fun j => false) 60 h
