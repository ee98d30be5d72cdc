/-! PART 42a: what the stretches of small methods come to -/
theorem ca_X12_gcd {F : Nat → Nat → Nat} {Y : YY} {sc : List Int} {d : Nat} {Q : Vv → MM → Prop} (v0 : Int) (v2 : Int) (M : MM) (h : WP F sc Y (d + 1) m_X12_gcd 4 [] [some (vl v0), none, some (vl v2), none, some (vl v0), none, some (vl v2), none, none, none] M Q) : CA F sc Y (d + 1) m_X12_gcd [vl v0, vl v2] M Q := ca_go rfl rfl (fun j => Nat.beq j 4) 24 h
theorem rg_X12_gcd_4 {F : Nat → Nat → Nat} {Y : YY} {sc : List Int} {d : Nat} {Q : Vv → MM → Prop} (v0 : Int) (v2 : Int) (v4 : Int) (v6 : Int) (o8 : Option Vv) (o9 : Option Vv) (M : MM) (h : brA (decide ((lcm3 v6 0) = 0))
  (Q (vl v4) M)
  (gAnd (decide (v6 ≠ 0)) (WP F sc Y (d + 1) m_X12_gcd 4 [] [some (vl v0), none, some (vl v2), none, some (vl v6), none, some (vl (Int.tmod v4 v6)), none, some (vl (Int.tmod v4 v6)), none] M Q))) : WP F sc Y (d + 1) m_X12_gcd 4 [] [some (vl v0), none, some (vl v2), none, some (vl v4), none, some (vl v6), none, o8, o9] M Q := wp_go rfl (fun j => Nat.beq j 4) 24 h
theorem ca_X12_beside {F : Nat → Nat → Nat} {Y : YY} {sc : List Int} {d : Nat} {Q : Vv → MM → Prop} (v0 : Int) (v1 : Int) (M : MM) (h : brA (decide (v1 ≠ 1))
  (brA (decide (v1 ≠ 3))
   (WP F sc Y (d + 1) m_X12_beside 14 [vi 0, vi (Int.tmod v0 8)] [some (vi v0), some (vi v1), none, none] M Q)
   (WP F sc Y (d + 1) m_X12_beside 14 [vi ((-1)), vi (Int.tmod v0 8)] [some (vi v0), some (vi v1), none, none] M Q))
  (WP F sc Y (d + 1) m_X12_beside 14 [vi 1, vi (Int.tmod v0 8)] [some (vi v0), some (vi v1), none, none] M Q)) : CA F sc Y (d + 1) m_X12_beside [vi v0, vi v1] M Q := ca_go rfl rfl (fun j => Nat.beq j 14 || Nat.beq j 29) 54 h
theorem rg_X12_beside_14 {F : Nat → Nat → Nat} {Y : YY} {sc : List Int} {d : Nat} {Q : Vv → MM → Prop} (v0 : Int) (v1 : Int) (o2 : Option Vv) (o3 : Option Vv) (s0 : Int) (s1 : Int) (M : MM) (h : brA (decide (v1 ≠ 0))
  (brA (decide (v1 ≠ 2))
   (WP F sc Y (d + 1) m_X12_beside 29 [vi 0, vi (w32 (Int.tdiv v0 8))] [some (vi v0), some (vi v1), some (vi (w32 (s0 + s1))), o3] M Q)
   (WP F sc Y (d + 1) m_X12_beside 29 [vi ((-1)), vi (w32 (Int.tdiv v0 8))] [some (vi v0), some (vi v1), some (vi (w32 (s0 + s1))), o3] M Q))
  (WP F sc Y (d + 1) m_X12_beside 29 [vi 1, vi (w32 (Int.tdiv v0 8))] [some (vi v0), some (vi v1), some (vi (w32 (s0 + s1))), o3] M Q)) : WP F sc Y (d + 1) m_X12_beside 14 [vi s1, vi s0] [some (vi v0), some (vi v1), o2, o3] M Q := wp_go rfl (fun j => Nat.beq j 14 || Nat.beq j 29) 54 h
theorem rg_X12_beside_29 {F : Nat → Nat → Nat} {Y : YY} {sc : List Int} {d : Nat} {Q : Vv → MM → Prop} (v0 : Int) (v1 : Int) (v2 : Int) (o3 : Option Vv) (s0 : Int) (s1 : Int) (M : MM) (h : CA F sc Y d m_X12_in [vi v2, vi 0, vi 7] M (cI fun r2 M1 =>
  brA (decide (r2 = 0))
   (Q (vi ((-1))) M1)
   (CA F sc Y d m_X12_in [vi (w32 (s0 + s1)), vi 0, vi 7] M1 (cI fun r4 M3 =>
    brA (decide (r4 = 0))
     (Q (vi ((-1))) M3)
     (Q (vi (w32 ((w32 (8 * (w32 (s0 + s1)))) + v2))) M3))))) : WP F sc Y (d + 1) m_X12_beside 29 [vi s1, vi s0] [some (vi v0), some (vi v1), some (vi v2), o3] M Q := wp_go rfl (fun j => Nat.beq j 14 || Nat.beq j 29) 54 h
theorem ca_X12_reckon {F : Nat → Nat → Nat} {Y : YY} {sc : List Int} {d : Nat} {Q : Vv → MM → Prop} (v0 : Int) (v1 : Int) (v2 : Int) (M : MM) (h : (v0 = 2 → Q (vi (w32 (v1 + v2))) M) ∧
  (v0 ≠ 2 → (v0 = 3 → Q (vi (w32 (v1 - v2))) M) ∧
  (v0 ≠ 3 → (v0 = 4 → Q (vi (w32 (v1 * v2))) M) ∧
  (v0 ≠ 4 → (v0 = 5 → gAnd (decide (v2 ≠ 0)) (Q (vi (w32 (Int.tdiv v1 v2))) M)) ∧
  (v0 ≠ 5 → (v0 = 6 → gAnd (decide (v2 ≠ 0)) (Q (vi (Int.tmod v1 v2)) M)) ∧
  (v0 ≠ 6 → (v0 = 7 → brA (decide (v2 ≤ v1))
   (Q (vi 0) M)
   (Q (vi 1) M)) ∧
  (v0 ≠ 7 → (v0 = 8 → brA (decide (v1 ≤ v2))
   (Q (vi 0) M)
   (Q (vi 1) M)) ∧
  (v0 ≠ 8 → brA (decide (v1 ≠ v2))
   (Q (vi 0) M)
   (Q (vi 1) M))))))))) : CA F sc Y (d + 1) m_X12_reckon [vi v0, vi v1, vi v2] M Q := ca_go rfl rfl (fun j => false) 48 h
theorem ca_X12_has {F : Nat → Nat → Nat} {Y : YY} {sc : List Int} {d : Nat} {Q : Vv → MM → Prop} (v0 : Int) (v1 : Int) (M : MM) (h : brA (decide ((bAnd (bShr v0 v1) 1) ≠ 1))
  (Q (vi 0) M)
  (Q (vi 1) M)) : CA F sc Y (d + 1) m_X12_has [vi v0, vi v1] M Q := ca_go rfl rfl (fun j => false) 16 h
theorem ca_X12_in {F : Nat → Nat → Nat} {Y : YY} {sc : List Int} {d : Nat} {Q : Vv → MM → Prop} (v0 : Int) (v1 : Int) (v2 : Int) (M : MM) (h : brA (decide (v0 < v1))
  (Q (vi 0) M)
  (brA (decide (v2 < v0))
   (Q (vi 0) M)
   (Q (vi 1) M))) : CA F sc Y (d + 1) m_X12_in [vi v0, vi v1, vi v2] M Q := ca_go rfl rfl (fun j => false) 15 h
theorem ca_X12_isTen {F : Nat → Nat → Nat} {Y : YY} {sc : List Int} {d : Nat} {Q : Vv → MM → Prop} (v0 : Int) (M : MM) (h : brA (decide (v0 < 0))
  (Q (vi 0) M)
  (brA (decide (10 ≤ v0))
   (Q (vi 0) M)
   (Q (vi 1) M))) : CA F sc Y (d + 1) m_X12_isTen [vi v0] M Q := ca_go rfl rfl (fun j => false) 14 h
theorem ca_X12_wayOf {F : Nat → Nat → Nat} {Y : YY} {sc : List Int} {d : Nat} {Q : Vv → MM → Prop} (v0 : Int) (M : MM) (h : (v0 = 46 → Q (vi 4) M) ∧
  (v0 ≠ 46 → (v0 = 101 → Q (vi 1) M) ∧
  (v0 ≠ 101 → (v0 = 110 → Q (vi 0) M) ∧
  (v0 ≠ 110 → (v0 = 115 → Q (vi 2) M) ∧
  (v0 ≠ 115 → (v0 = 119 → Q (vi 3) M) ∧
  (v0 ≠ 119 → Q (vi ((-1))) M)))))) : CA F sc Y (d + 1) m_X12_wayOf [vi v0] M Q := ca_go rfl rfl (fun j => false) 19 h
theorem ca_X12_factOf {F : Nat → Nat → Nat} {Y : YY} {sc : List Int} {d : Nat} {Q : Vv → MM → Prop} (v0 : Int) (M : MM) (h : (v0 = 97 → Q (vi 3) M) ∧
  (v0 ≠ 97 → (v0 = 98 → Q (vi 4) M) ∧
  (v0 ≠ 98 → (v0 = 99 → Q (vi ((-1))) M) ∧
  (v0 ≠ 99 → (v0 = 100 → Q (vi 7) M) ∧
  (v0 ≠ 100 → (v0 = 101 → Q (vi ((-1))) M) ∧
  (v0 ≠ 101 → (v0 = 102 → Q (vi ((-1))) M) ∧
  (v0 ≠ 102 → (v0 = 103 → Q (vi 2) M) ∧
  (v0 ≠ 103 → (v0 = 104 → Q (vi 0) M) ∧
  (v0 ≠ 104 → (v0 = 105 → Q (vi ((-1))) M) ∧
  (v0 ≠ 105 → (v0 = 106 → Q (vi 1) M) ∧
  (v0 ≠ 106 → (v0 = 107 → Q (vi 5) M) ∧
  (v0 ≠ 107 → (v0 = 108 → Q (vi ((-1))) M) ∧
  (v0 ≠ 108 → (v0 = 109 → Q (vi ((-1))) M) ∧
  (v0 ≠ 109 → (v0 = 110 → Q (vi ((-1))) M) ∧
  (v0 ≠ 110 → (v0 = 111 → Q (vi 9) M) ∧
  (v0 ≠ 111 → (v0 = 112 → Q (vi ((-1))) M) ∧
  (v0 ≠ 112 → (v0 = 113 → Q (vi ((-1))) M) ∧
  (v0 ≠ 113 → (v0 = 114 → Q (vi ((-1))) M) ∧
  (v0 ≠ 114 → (v0 = 115 → Q (vi ((-1))) M) ∧
  (v0 ≠ 115 → (v0 = 116 → Q (vi 6) M) ∧
  (v0 ≠ 116 → (v0 = 117 → Q (vi ((-1))) M) ∧
  (v0 ≠ 117 → (v0 = 118 → Q (vi ((-1))) M) ∧
  (v0 ≠ 118 → (v0 = 119 → Q (vi 8) M) ∧
  (v0 ≠ 119 → Q (vi ((-1))) M)))))))))))))))))))))))) : CA F sc Y (d + 1) m_X12_factOf [vi v0] M Q := ca_go rfl rfl (fun j => false) 29 h
theorem ca_X12_sumSign {F : Nat → Nat → Nat} {Y : YY} {sc : List Int} {d : Nat} {Q : Vv → MM → Prop} (v0 : Int) (M : MM) (h : brA (decide (v0 ≠ 43))
  (brA (decide (v0 ≠ 45))
   (brA (decide (v0 ≠ 42))
    (brA (decide (v0 ≠ 47))
     (brA (decide (v0 ≠ 37))
      (Q (vi ((-1))) M)
      (Q (vi 6) M))
     (Q (vi 5) M))
    (Q (vi 4) M))
   (Q (vi 3) M))
  (Q (vi 2) M)) : CA F sc Y (d + 1) m_X12_sumSign [vi v0] M Q := ca_go rfl rfl (fun j => false) 32 h
theorem ca_X12_isClause {F : Nat → Nat → Nat} {Y : YY} {sc : List Int} {d : Nat} {Q : Vv → MM → Prop} (v0 : Int) (M : MM) (h : brA (decide (v0 = 102))
  (Q (vi 1) M)
  (brA (decide (v0 = 99))
   (Q (vi 1) M)
   (brA (decide (v0 = 109))
    (Q (vi 1) M)
    (brA (decide (v0 ≠ 114))
     (Q (vi 0) M)
     (Q (vi 1) M))))) : CA F sc Y (d + 1) m_X12_isClause [vi v0] M Q := ca_go rfl rfl (fun j => false) 21 h
theorem ca_X12_rotaState {F : Nat → Nat → Nat} {Y : YY} {sc : List Int} {d : Nat} {Q : Vv → MM → Prop} (v0 : Int) (v1 : Int) (v2 : Int) (M : MM) (h : Q (vi (w32 ((w32 ((w32 (6144 * v0)) + (w32 (6 * v1)))) + v2))) M) : CA F sc Y (d + 1) m_X12_rotaState [vi v0, vi v1, vi v2] M Q := ca_go rfl rfl (fun j => false) 15 h
theorem ca_X12_countIn {F : Nat → Nat → Nat} {Y : YY} {sc : List Int} {d : Nat} {Q : Vv → MM → Prop} (v0 : Int) (v1 : Int) (M : MM) (h : Q (vi (bAnd (bShr v0 (w32 (2 * v1))) 3)) M) : CA F sc Y (d + 1) m_X12_countIn [vi v0, vi v1] M Q := ca_go rfl rfl (fun j => false) 13 h
theorem ca_X12_min {F : Nat → Nat → Nat} {Y : YY} {sc : List Int} {d : Nat} {Q : Vv → MM → Prop} (v0 : Int) (v1 : Int) (M : MM) (h : brA (decide (v1 ≤ v0))
  (Q (vi v1) M)
  (Q (vi v0) M)) : CA F sc Y (d + 1) m_X12_min [vi v0, vi v1] M Q := ca_go rfl rfl (fun j => false) 12 h
theorem ca_X12_max {F : Nat → Nat → Nat} {Y : YY} {sc : List Int} {d : Nat} {Q : Vv → MM → Prop} (v0 : Int) (v1 : Int) (M : MM) (h : brA (decide (v0 ≤ v1))
  (Q (vi v1) M)
  (Q (vi v0) M)) : CA F sc Y (d + 1) m_X12_max [vi v0, vi v1] M Q := ca_go rfl rfl (fun j => false) 12 h
theorem ca_X12_bits {F : Nat → Nat → Nat} {Y : YY} {sc : List Int} {d : Nat} {Q : Vv → MM → Prop} (v0 : Int) (M : MM) (h : WP F sc Y (d + 1) m_X12_bits 4 [] [some (vi v0), some (vi 0), some (vi 0)] M Q) : CA F sc Y (d + 1) m_X12_bits [vi v0] M Q := ca_go rfl rfl (fun j => Nat.beq j 4) 24 h
theorem rg_X12_bits_4 {F : Nat → Nat → Nat} {Y : YY} {sc : List Int} {d : Nat} {Q : Vv → MM → Prop} (v0 : Int) (v1 : Int) (v2 : Int) (M : MM) (h : brA (decide (10 ≤ v2))
  (Q (vi v1) M)
  (WP F sc Y (d + 1) m_X12_bits 4 [] [some (vi v0), some (vi (w32 (v1 + (bAnd (bShr v0 v2) 1)))), some (vi (w32 (v2 + 1)))] M Q)) : WP F sc Y (d + 1) m_X12_bits 4 [] [some (vi v0), some (vi v1), some (vi v2)] M Q := wp_go rfl (fun j => Nat.beq j 4) 24 h
theorem ca_X11_isHouse {F : Nat → Nat → Nat} {Y : YY} {sc : List Int} {d : Nat} {Q : Vv → MM → Prop} (v0 : Int) (M : MM) (h : CA F sc Y d m_X11_isIn [vi v0, vi 0, vi 9] M (cI fun r2 M1 =>
  gAnd (decide (r2 = 0) || decide (r2 = 1)) (Q (vi r2) M1))) : CA F sc Y (d + 1) m_X11_isHouse [vi v0] M Q := ca_go rfl rfl (fun j => false) 10 h
theorem ca_X11_hasBit {F : Nat → Nat → Nat} {Y : YY} {sc : List Int} {d : Nat} {Q : Vv → MM → Prop} (v0 : Int) (v1 : Int) (M : MM) (h : brA (decide ((bAnd (bShr v0 v1) 1) ≠ 1))
  (Q (vi 0) M)
  (Q (vi 1) M)) : CA F sc Y (d + 1) m_X11_hasBit [vi v0, vi v1] M Q := ca_go rfl rfl (fun j => false) 16 h
theorem ca_X11_isStranger {F : Nat → Nat → Nat} {Y : YY} {sc : List Int} {d : Nat} {Q : Vv → MM → Prop} (v0 : Int) (M : MM) (h : CA F sc Y d m_X11_isIn [vi v0, vi 0, vi 9] M (cI fun r2 M1 =>
  gAnd (decide (r2 = 0) || decide (r2 = 1)) (Q (vi r2) M1))) : CA F sc Y (d + 1) m_X11_isStranger [vi v0] M Q := ca_go rfl rfl (fun j => false) 10 h
theorem ca_X11_faultAt {F : Nat → Nat → Nat} {Y : YY} {sc : List Int} {d : Nat} {Q : Vv → MM → Prop} (v0 : Int) (v1 : Int) (M : MM) (h : Q (vi (w32 ((w32 (((-1000)) * v0)) - v1))) M) : CA F sc Y (d + 1) m_X11_faultAt [vi v0, vi v1] M Q := ca_go rfl rfl (fun j => false) 11 h
theorem ca_X10_stepOf {F : Nat → Nat → Nat} {Y : YY} {sc : List Int} {d : Nat} {Q : Vv → MM → Prop} (v0 : Int) (M : MM) (h : (v0 = 46 → Q (vi 4) M) ∧
  (v0 ≠ 46 → (v0 = 101 → Q (vi 1) M) ∧
  (v0 ≠ 101 → (v0 = 110 → Q (vi 0) M) ∧
  (v0 ≠ 110 → (v0 = 115 → Q (vi 2) M) ∧
  (v0 ≠ 115 → (v0 = 119 → Q (vi 3) M) ∧
  (v0 ≠ 119 → Q (vi ((-1))) M)))))) : CA F sc Y (d + 1) m_X10_stepOf [vi v0] M Q := ca_go rfl rfl (fun j => false) 19 h
theorem ca_X12_isSeen {sc : List Int} {d : Nat} {Q : Vv → MM → Prop} (v1 : Int) (v2 : Int) (M : MM) (h : brA (decide (v1 ≠ v2))
  (brA (decide ((Int.tmod v1 8) = (Int.tmod v2 8)))
   (WP FF sc YF (d + 1) m_X12_isSeen 21 [] [some (vr 81), some (vi v1), some (vi v2), none, none] M Q)
   (brA (decide ((w32 (Int.tdiv v1 8)) = (w32 (Int.tdiv v2 8))))
    (WP FF sc YF (d + 1) m_X12_isSeen 21 [] [some (vr 81), some (vi v1), some (vi v2), none, none] M Q)
    (Q (vi 0) M)))
  (Q (vi 1) M)) : CA FF sc YF (d + 1) m_X12_isSeen [vr 81, vi v1, vi v2] M Q := ca_go rfl rfl (fun j => Nat.beq j 21 || Nat.beq j 46) 68 h
theorem rg_X12_isSeen_21 {sc : List Int} {d : Nat} {Q : Vv → MM → Prop} (v1 : Int) (v2 : Int) (o3 : Option Vv) (o4 : Option Vv) (M : MM) (h : brA (decide ((Int.tmod v1 8) ≠ (Int.tmod v2 8)))
  (brA (decide (v2 ≤ v1))
   (CA FF sc YF d m_X12_beside [vi v1, vi 3] M (cI fun r2 M1 =>
    WP FF sc YF (d + 1) m_X12_isSeen 46 [] [some (vr 81), some (vi v1), some (vi v2), some (vi 3), some (vi r2)] M1 Q))
   (CA FF sc YF d m_X12_beside [vi v1, vi 1] M (cI fun r4 M3 =>
    WP FF sc YF (d + 1) m_X12_isSeen 46 [] [some (vr 81), some (vi v1), some (vi v2), some (vi 1), some (vi r4)] M3 Q)))
  (brA (decide (v2 ≤ v1))
   (CA FF sc YF d m_X12_beside [vi v1, vi 2] M (cI fun r6 M5 =>
    WP FF sc YF (d + 1) m_X12_isSeen 46 [] [some (vr 81), some (vi v1), some (vi v2), some (vi 2), some (vi r6)] M5 Q))
   (CA FF sc YF d m_X12_beside [vi v1, vi 0] M (cI fun r8 M7 =>
    WP FF sc YF (d + 1) m_X12_isSeen 46 [] [some (vr 81), some (vi v1), some (vi v2), some (vi 0), some (vi r8)] M7 Q)))) : WP FF sc YF (d + 1) m_X12_isSeen 21 [] [some (vr 81), some (vi v1), some (vi v2), o3, o4] M Q := wp_go rfl (fun j => Nat.beq j 21 || Nat.beq j 46) 68 h
theorem rg_X12_isSeen_46 {sc : List Int} {d : Nat} {Q : Vv → MM → Prop} (v1 : Int) (v2 : Int) (v3 : Int) (v4 : Int) (M : MM) (h : brA (decide (v4 = v2))
  (Q (vi 1) M)
  (gAnd (decide (0 ≤ v4) && decide (v4 < 64)) (brA (decide ((M 85 v4.toNat) = 0))
   (CA FF sc YF d m_X12_beside [vi v4, vi v3] M (cI fun r2 M1 =>
    WP FF sc YF (d + 1) m_X12_isSeen 46 [] [some (vr 81), some (vi v1), some (vi v2), some (vi v3), some (vi r2)] M1 Q))
   (Q (vi 0) M)))) : WP FF sc YF (d + 1) m_X12_isSeen 46 [] [some (vr 81), some (vi v1), some (vi v2), some (vi v3), some (vi v4)] M Q := wp_go rfl (fun j => Nat.beq j 21 || Nat.beq j 46) 68 h
theorem ca_X12_laysCosts {sc : List Int} {d : Nat} {Q : Vv → MM → Prop} (v1 : Int) (v2 : Int) (M : MM) (h : WP FF sc YF (d + 1) m_X12_laysCosts 2 [] [some (vr 81), some (vi v1), some (vi v2), some (vi 0), none, none, none, none] M Q) : CA FF sc YF (d + 1) m_X12_laysCosts [vr 81, vi v1, vi v2] M Q := ca_go rfl rfl (fun j => Nat.beq j 2 || Nat.beq j 27 || Nat.beq j 33 || Nat.beq j 38 || Nat.beq j 76) 103 h
theorem rg_X12_laysCosts_2 {sc : List Int} {d : Nat} {Q : Vv → MM → Prop} (v1 : Int) (v2 : Int) (v3 : Int) (o4 : Option Vv) (o5 : Option Vv) (o6 : Option Vv) (o7 : Option Vv) (M : MM) (h : brA (decide (64 ≤ v3))
  (WP FF sc YF (d + 1) m_X12_laysCosts 27 [] [some (vr 81), some (vi v1), some (vi v2), some (vi 1), o4, o5, o6, o7] M Q)
  (brA (decide (v3 ≠ v1))
   (gAnd (decide (0 ≤ v3) && decide (v3 < 64)) (WP FF sc YF (d + 1) m_X12_laysCosts 2 [] [some (vr 81), some (vi v1), some (vi v2), some (vi (w32 (v3 + 1))), o4, o5, o6, o7] (stM M 114 (v3.toNat) 1000000000) Q))
   (brA (decide (v2 = 0))
    (gAnd (decide (0 ≤ v3) && decide (v3 < 64)) (WP FF sc YF (d + 1) m_X12_laysCosts 2 [] [some (vr 81), some (vi v1), some (vi v2), some (vi (w32 (v3 + 1))), o4, o5, o6, o7] (stM M 114 (v3.toNat) 0) Q))
    (CA FF sc YF d m_X12_seers [vr 81, vi v3] M (cI fun r2 M1 =>
     gAnd (decide (0 ≤ v3) && decide (v3 < 64)) (WP FF sc YF (d + 1) m_X12_laysCosts 2 [] [some (vr 81), some (vi v1), some (vi v2), some (vi (w32 (v3 + 1))), o4, o5, o6, o7] (stM M1 114 (v3.toNat) (w32 (100 * r2))) Q)))))) : WP FF sc YF (d + 1) m_X12_laysCosts 2 [] [some (vr 81), some (vi v1), some (vi v2), some (vi v3), o4, o5, o6, o7] M Q := wp_go rfl (fun j => Nat.beq j 2 || Nat.beq j 27 || Nat.beq j 33 || Nat.beq j 38 || Nat.beq j 76) 103 h
theorem rg_X12_laysCosts_27 {sc : List Int} {d : Nat} {Q : Vv → MM → Prop} (v1 : Int) (v2 : Int) (v3 : Int) (o4 : Option Vv) (o5 : Option Vv) (o6 : Option Vv) (o7 : Option Vv) (M : MM) (h : brA (decide (v3 = 0))
  (Q (vi 0) M)
  (WP FF sc YF (d + 1) m_X12_laysCosts 33 [] [some (vr 81), some (vi v1), some (vi v2), some (vi 0), some (vi 0), o5, o6, o7] M Q)) : WP FF sc YF (d + 1) m_X12_laysCosts 27 [] [some (vr 81), some (vi v1), some (vi v2), some (vi v3), o4, o5, o6, o7] M Q := wp_go rfl (fun j => Nat.beq j 2 || Nat.beq j 27 || Nat.beq j 33 || Nat.beq j 38 || Nat.beq j 76) 103 h
theorem rg_X12_laysCosts_33 {sc : List Int} {d : Nat} {Q : Vv → MM → Prop} (v1 : Int) (v2 : Int) (v3 : Int) (v4 : Int) (o5 : Option Vv) (o6 : Option Vv) (o7 : Option Vv) (M : MM) (h : brA (decide (64 ≤ v4))
  (WP FF sc YF (d + 1) m_X12_laysCosts 27 [] [some (vr 81), some (vi v1), some (vi v2), some (vi v3), some (vi v4), o5, o6, o7] M Q)
  (WP FF sc YF (d + 1) m_X12_laysCosts 38 [] [some (vr 81), some (vi v1), some (vi v2), some (vi v3), some (vi v4), some (vi 0), o6, o7] M Q)) : WP FF sc YF (d + 1) m_X12_laysCosts 33 [] [some (vr 81), some (vi v1), some (vi v2), some (vi v3), some (vi v4), o5, o6, o7] M Q := wp_go rfl (fun j => Nat.beq j 2 || Nat.beq j 27 || Nat.beq j 33 || Nat.beq j 38 || Nat.beq j 76) 103 h
theorem rg_X12_laysCosts_38 {sc : List Int} {d : Nat} {Q : Vv → MM → Prop} (v1 : Int) (v2 : Int) (v3 : Int) (v4 : Int) (v5 : Int) (o6 : Option Vv) (o7 : Option Vv) (M : MM) (h : brA (decide (4 ≤ v5))
  (WP FF sc YF (d + 1) m_X12_laysCosts 33 [] [some (vr 81), some (vi v1), some (vi v2), some (vi v3), some (vi (w32 (v4 + 1))), some (vi v5), o6, o7] M Q)
  (gAnd (decide (0 ≤ v4) && decide (v4 < 64)) (brA (decide (1000000000 ≤ (M 114 v4.toNat)))
   (WP FF sc YF (d + 1) m_X12_laysCosts 33 [] [some (vr 81), some (vi v1), some (vi v2), some (vi v3), some (vi (w32 (v4 + 1))), some (vi v5), o6, o7] M Q)
   (CA FF sc YF d m_X12_beside [vi v4, vi v5] M (cI fun r2 M1 =>
    brA (decide (r2 = ((-1))))
     (WP FF sc YF (d + 1) m_X12_laysCosts 38 [] [some (vr 81), some (vi v1), some (vi v2), some (vi v3), some (vi v4), some (vi (w32 (v5 + 1))), some (vi r2), o7] M1 Q)
     (gAnd (decide (0 ≤ r2) && decide (r2 < 64)) (brA (decide ((M1 85 r2.toNat) ≠ 1))
      (gAnd (decide (0 ≤ v4) && decide (v4 < 64)) (brA (decide (v2 = 0))
       (WP FF sc YF (d + 1) m_X12_laysCosts 76 [vi 0, vi (w32 ((M1 114 v4.toNat) + 1))] [some (vr 81), some (vi v1), some (vi v2), some (vi v3), some (vi v4), some (vi v5), some (vi r2), o7] M1 Q)
       (CA FF sc YF d m_X12_seers [vr 81, vi r2] M1 (cI fun r4 M3 =>
        WP FF sc YF (d + 1) m_X12_laysCosts 76 [vi (w32 (100 * r4)), vi (w32 ((M1 114 v4.toNat) + 1))] [some (vr 81), some (vi v1), some (vi v2), some (vi v3), some (vi v4), some (vi v5), some (vi r2), o7] M3 Q))))
      (WP FF sc YF (d + 1) m_X12_laysCosts 38 [] [some (vr 81), some (vi v1), some (vi v2), some (vi v3), some (vi v4), some (vi (w32 (v5 + 1))), some (vi r2), o7] M1 Q)))))))) : WP FF sc YF (d + 1) m_X12_laysCosts 38 [] [some (vr 81), some (vi v1), some (vi v2), some (vi v3), some (vi v4), some (vi v5), o6, o7] M Q := wp_go rfl (fun j => Nat.beq j 2 || Nat.beq j 27 || Nat.beq j 33 || Nat.beq j 38 || Nat.beq j 76) 103 h
theorem rg_X12_laysCosts_76 {sc : List Int} {d : Nat} {Q : Vv → MM → Prop} (v1 : Int) (v2 : Int) (v3 : Int) (v4 : Int) (v5 : Int) (v6 : Int) (o7 : Option Vv) (s0 : Int) (s1 : Int) (M : MM) (h : gAnd (decide (0 ≤ v6) && decide (v6 < 64)) (brA (decide ((w32 (s0 + s1)) < (M 114 v6.toNat)))
  (gAnd (decide (0 ≤ v6) && decide (v6 < 64)) (WP FF sc YF (d + 1) m_X12_laysCosts 38 [] [some (vr 81), some (vi v1), some (vi v2), some (vi 1), some (vi v4), some (vi (w32 (v5 + 1))), some (vi v6), some (vi (w32 (s0 + s1)))] (stM M 114 (v6.toNat) (w32 (s0 + s1))) Q))
  (WP FF sc YF (d + 1) m_X12_laysCosts 38 [] [some (vr 81), some (vi v1), some (vi v2), some (vi v3), some (vi v4), some (vi (w32 (v5 + 1))), some (vi v6), some (vi (w32 (s0 + s1)))] M Q))) : WP FF sc YF (d + 1) m_X12_laysCosts 76 [vi s1, vi s0] [some (vr 81), some (vi v1), some (vi v2), some (vi v3), some (vi v4), some (vi v5), some (vi v6), o7] M Q := wp_go rfl (fun j => Nat.beq j 2 || Nat.beq j 27 || Nat.beq j 33 || Nat.beq j 38 || Nat.beq j 76) 103 h
theorem ca_X12_comesTo {sc : List Int} {d : Nat} {Q : Vv → MM → Prop} (v1 : Int) (v2 : Int) (M : MM) (h : WP FF sc YF (d + 1) m_X12_comesTo 10 [] [some (vr 81), some (vi v1), some (vi v2), some (vi 0), some (vi (w32 (260 * (w32 (Int.tdiv v1 260))))), some (vi v1), none, none] M Q) : CA FF sc YF (d + 1) m_X12_comesTo [vr 81, vi v1, vi v2] M Q := ca_go rfl rfl (fun j => Nat.beq j 10 || Nat.beq j 36 || Nat.beq j 77 || Nat.beq j 89 || Nat.beq j 117) 146 h
theorem rg_X12_comesTo_10 {sc : List Int} {d : Nat} {Q : Vv → MM → Prop} (v1 : Int) (v2 : Int) (v3 : Int) (v4 : Int) (v5 : Int) (o6 : Option Vv) (o7 : Option Vv) (M : MM) (h : brA (decide (v2 ≤ v5))
  (Q (vi (M 108 0)) M)
  (gAnd (decide (0 ≤ v5) && decide (v5 < 260)) (gAnd (decide (0 ≤ v5) && decide (v5 < 260)) (brA (decide ((w32 (Int.tdiv (M 97 v5.toNat) 1048576)) = 0))
   (WP FF sc YF (d + 1) m_X12_comesTo 36 [] [some (vr 81), some (vi v1), some (vi v2), some (vi v3), some (vi v4), some (vi (w32 (v5 + 1))), some (vi (w32 (Int.tdiv (M 97 v5.toNat) 1048576))), some (vi (Int.tmod (M 97 v5.toNat) 1048576))] M Q)
   (brA (decide ((w32 (Int.tdiv (M 97 v5.toNat) 1048576)) ≠ 1))
    (brA (decide ((w32 (Int.tdiv (M 97 v5.toNat) 1048576)) ≠ 10))
     (brA (decide ((w32 (Int.tdiv (M 97 v5.toNat) 1048576)) = 11))
      (WP FF sc YF (d + 1) m_X12_comesTo 77 [] [some (vr 81), some (vi v1), some (vi v2), some (vi v3), some (vi v4), some (vi (w32 (v5 + 1))), some (vi (w32 (Int.tdiv (M 97 v5.toNat) 1048576))), some (vi (Int.tmod (M 97 v5.toNat) 1048576))] M Q)
      (brA (decide ((w32 (Int.tdiv (M 97 v5.toNat) 1048576)) ≠ 12))
       (brA (decide ((w32 (Int.tdiv (M 97 v5.toNat) 1048576)) = 5))
        (gAnd (decide (0 ≤ (w32 (v3 - 1))) && decide ((w32 (v3 - 1)) < 260)) (brA (decide ((M 108 (w32 (v3 - 1)).toNat) ≠ 0))
         (WP FF sc YF (d + 1) m_X12_comesTo 117 [] [some (vr 81), some (vi v1), some (vi v2), some (vi (w32 (v3 - 1))), some (vi v4), some (vi (w32 (v5 + 1))), some (vi (w32 (Int.tdiv (M 97 v5.toNat) 1048576))), some (vi (Int.tmod (M 97 v5.toNat) 1048576))] M Q)
         (Q (vi 0) M)))
        (brA (decide ((w32 (Int.tdiv (M 97 v5.toNat) 1048576)) ≠ 6))
         (WP FF sc YF (d + 1) m_X12_comesTo 117 [] [some (vr 81), some (vi v1), some (vi v2), some (vi (w32 (v3 - 1))), some (vi v4), some (vi (w32 (v5 + 1))), some (vi (w32 (Int.tdiv (M 97 v5.toNat) 1048576))), some (vi (Int.tmod (M 97 v5.toNat) 1048576))] M Q)
         (gAnd (decide (0 ≤ (w32 (v3 - 1))) && decide ((w32 (v3 - 1)) < 260)) (brA (decide ((M 108 (w32 (v3 - 1)).toNat) ≠ 0))
          (WP FF sc YF (d + 1) m_X12_comesTo 117 [] [some (vr 81), some (vi v1), some (vi v2), some (vi (w32 (v3 - 1))), some (vi v4), some (vi (w32 (v5 + 1))), some (vi (w32 (Int.tdiv (M 97 v5.toNat) 1048576))), some (vi (Int.tmod (M 97 v5.toNat) 1048576))] M Q)
          (Q (vi 0) M)))))
       (WP FF sc YF (d + 1) m_X12_comesTo 77 [] [some (vr 81), some (vi v1), some (vi v2), some (vi v3), some (vi v4), some (vi (w32 (v5 + 1))), some (vi (w32 (Int.tdiv (M 97 v5.toNat) 1048576))), some (vi (Int.tmod (M 97 v5.toNat) 1048576))] M Q)))
     (gAnd (decide (0 ≤ (w32 (v3 - 1))) && decide ((w32 (v3 - 1)) < 260)) (gAnd (decide (0 ≤ (w32 (v3 - 1))) && decide ((w32 (v3 - 1)) < 260)) (WP FF sc YF (d + 1) m_X12_comesTo 10 [] [some (vr 81), some (vi v1), some (vi v2), some (vi v3), some (vi v4), some (vi (w32 (v5 + 1))), some (vi (w32 (Int.tdiv (M 97 v5.toNat) 1048576))), some (vi (Int.tmod (M 97 v5.toNat) 1048576))] (stM M 108 ((w32 (v3 - 1)).toNat) (w32 (1 - (M 108 (w32 (v3 - 1)).toNat)))) Q))))
    (WP FF sc YF (d + 1) m_X12_comesTo 36 [] [some (vr 81), some (vi v1), some (vi v2), some (vi v3), some (vi v4), some (vi (w32 (v5 + 1))), some (vi (w32 (Int.tdiv (M 97 v5.toNat) 1048576))), some (vi (Int.tmod (M 97 v5.toNat) 1048576))] M Q)))))) : WP FF sc YF (d + 1) m_X12_comesTo 10 [] [some (vr 81), some (vi v1), some (vi v2), some (vi v3), some (vi v4), some (vi v5), o6, o7] M Q := wp_go rfl (fun j => Nat.beq j 10 || Nat.beq j 36 || Nat.beq j 77 || Nat.beq j 89 || Nat.beq j 117) 146 h
theorem rg_X12_comesTo_36 {sc : List Int} {d : Nat} {Q : Vv → MM → Prop} (v1 : Int) (v2 : Int) (v3 : Int) (v4 : Int) (v5 : Int) (v6 : Int) (v7 : Int) (M : MM) (h : brA (decide (v6 ≠ 0))
  (gAnd (decide (0 ≤ v7) && decide (v7 < 10)) (gAnd (decide (0 ≤ v3) && decide (v3 < 260)) (WP FF sc YF (d + 1) m_X12_comesTo 10 [] [some (vr 81), some (vi v1), some (vi v2), some (vi (w32 (v3 + 1))), some (vi v4), some (vi v5), some (vi v6), some (vi v7)] (stM M 108 (v3.toNat) (M 109 v7.toNat)) Q)))
  (gAnd (decide (0 ≤ v3) && decide (v3 < 260)) (WP FF sc YF (d + 1) m_X12_comesTo 10 [] [some (vr 81), some (vi v1), some (vi v2), some (vi (w32 (v3 + 1))), some (vi v4), some (vi v5), some (vi v6), some (vi v7)] (stM M 108 (v3.toNat) v7) Q))) : WP FF sc YF (d + 1) m_X12_comesTo 36 [] [some (vr 81), some (vi v1), some (vi v2), some (vi v3), some (vi v4), some (vi v5), some (vi v6), some (vi v7)] M Q := wp_go rfl (fun j => Nat.beq j 10 || Nat.beq j 36 || Nat.beq j 77 || Nat.beq j 89 || Nat.beq j 117) 146 h
theorem rg_X12_comesTo_77 {sc : List Int} {d : Nat} {Q : Vv → MM → Prop} (v1 : Int) (v2 : Int) (v3 : Int) (v4 : Int) (v5 : Int) (v6 : Int) (v7 : Int) (M : MM) (h : gAnd (decide (0 ≤ (w32 (v3 - 1))) && decide ((w32 (v3 - 1)) < 260)) (brA (decide (v6 ≠ 12))
  (WP FF sc YF (d + 1) m_X12_comesTo 89 [vi 0, vi (M 108 (w32 (v3 - 1)).toNat)] [some (vr 81), some (vi v1), some (vi v2), some (vi v3), some (vi v4), some (vi v5), some (vi v6), some (vi v7)] M Q)
  (WP FF sc YF (d + 1) m_X12_comesTo 89 [vi 1, vi (M 108 (w32 (v3 - 1)).toNat)] [some (vr 81), some (vi v1), some (vi v2), some (vi v3), some (vi v4), some (vi v5), some (vi v6), some (vi v7)] M Q))) : WP FF sc YF (d + 1) m_X12_comesTo 77 [] [some (vr 81), some (vi v1), some (vi v2), some (vi v3), some (vi v4), some (vi v5), some (vi v6), some (vi v7)] M Q := wp_go rfl (fun j => Nat.beq j 10 || Nat.beq j 36 || Nat.beq j 77 || Nat.beq j 89 || Nat.beq j 117) 146 h
theorem rg_X12_comesTo_89 {sc : List Int} {d : Nat} {Q : Vv → MM → Prop} (v1 : Int) (v2 : Int) (v3 : Int) (v4 : Int) (v5 : Int) (v6 : Int) (v7 : Int) (s0 : Int) (s1 : Int) (M : MM) (h : brA (decide (s0 ≠ s1))
  (WP FF sc YF (d + 1) m_X12_comesTo 10 [] [some (vr 81), some (vi v1), some (vi v2), some (vi (w32 (v3 - 1))), some (vi v4), some (vi v5), some (vi v6), some (vi v7)] M Q)
  (WP FF sc YF (d + 1) m_X12_comesTo 10 [] [some (vr 81), some (vi v1), some (vi v2), some (vi v3), some (vi v4), some (vi (w32 (v4 + v7))), some (vi v6), some (vi v7)] M Q)) : WP FF sc YF (d + 1) m_X12_comesTo 89 [vi s1, vi s0] [some (vr 81), some (vi v1), some (vi v2), some (vi v3), some (vi v4), some (vi v5), some (vi v6), some (vi v7)] M Q := wp_go rfl (fun j => Nat.beq j 10 || Nat.beq j 36 || Nat.beq j 77 || Nat.beq j 89 || Nat.beq j 117) 146 h
theorem rg_X12_comesTo_117 {sc : List Int} {d : Nat} {Q : Vv → MM → Prop} (v1 : Int) (v2 : Int) (v3 : Int) (v4 : Int) (v5 : Int) (v6 : Int) (v7 : Int) (M : MM) (h : gAnd (decide (0 ≤ (w32 (v3 - 1))) && decide ((w32 (v3 - 1)) < 260)) (gAnd (decide (0 ≤ v3) && decide (v3 < 260)) (CA FF sc YF d m_X12_reckon [vi v6, vi (M 108 (w32 (v3 - 1)).toNat), vi (M 108 v3.toNat)] M (cI fun r2 M1 =>
  gAnd (decide (0 ≤ (w32 (v3 - 1))) && decide ((w32 (v3 - 1)) < 260)) (WP FF sc YF (d + 1) m_X12_comesTo 10 [] [some (vr 81), some (vi v1), some (vi v2), some (vi v3), some (vi v4), some (vi v5), some (vi v6), some (vi v7)] (stM M1 108 ((w32 (v3 - 1)).toNat) r2) Q))))) : WP FF sc YF (d + 1) m_X12_comesTo 117 [] [some (vr 81), some (vi v1), some (vi v2), some (vi v3), some (vi v4), some (vi v5), some (vi v6), some (vi v7)] M Q := wp_go rfl (fun j => Nat.beq j 10 || Nat.beq j 36 || Nat.beq j 77 || Nat.beq j 89 || Nat.beq j 117) 146 h
theorem ca_X12_byLaw {sc : List Int} {d : Nat} {Q : Vv → MM → Prop} (v1 : Int) (v2 : Int) (M : MM) (h : WP FF sc YF (d + 1) m_X12_byLaw 2 [] [some (vr 81), some (vi v1), some (vi v2), some (vi 0), none] M Q) : CA FF sc YF (d + 1) m_X12_byLaw [vr 81, vi v1, vi v2] M Q := ca_go rfl rfl (fun j => Nat.beq j 2) 56 h
theorem rg_X12_byLaw_2 {sc : List Int} {d : Nat} {Q : Vv → MM → Prop} (v1 : Int) (v2 : Int) (v3 : Int) (o4 : Option Vv) (M : MM) (h : brA (decide ((M 81 19) ≤ v3))
  (Q (vi 0) M)
  (gAnd (decide (0 ≤ v3) && decide (v3 < 16)) (brA (decide ((M 98 v3.toNat) ≠ v1))
   (WP FF sc YF (d + 1) m_X12_byLaw 2 [] [some (vr 81), some (vi v1), some (vi v2), some (vi (w32 (v3 + 1))), o4] M Q)
   (gAnd (decide (0 ≤ v3) && decide (v3 < 16)) (gAnd (decide (0 ≤ v3) && decide (v3 < 16)) (CA FF sc YF d m_X12_comesTo [vr 81, vi (M 100 v3.toNat), vi (M 101 v3.toNat)] M (cI fun r2 M1 =>
    brA (decide (r2 = 1))
     (gAnd (decide (0 ≤ v3) && decide (v3 < 16)) (gAnd (decide (0 ≤ v3) && decide (v3 < 16)) (CA FF sc YF d m_X12_comesTo [vr 81, vi (M1 99 v3.toNat), vi (M1 100 v3.toNat)] M1 (cI fun r4 M3 =>
      brA (decide (0 ≤ r4))
       (brA (decide (r4 ≤ v2))
        (Q (vi r4) M3)
        (Q (vi v2) M3))
       (Q (vi 0) M3)))))
     (WP FF sc YF (d + 1) m_X12_byLaw 2 [] [some (vr 81), some (vi v1), some (vi v2), some (vi (w32 (v3 + 1))), o4] M1 Q)))))))) : WP FF sc YF (d + 1) m_X12_byLaw 2 [] [some (vr 81), some (vi v1), some (vi v2), some (vi v3), o4] M Q := wp_go rfl (fun j => Nat.beq j 2) 56 h
theorem ca_X12_mayHaunt {sc : List Int} {d : Nat} {Q : Vv → MM → Prop} (v1 : Int) (v2 : Int) (M : MM) (h : CA FF sc YF d m_X12_feels [vr 81, vi v1, vi v2] M (fun _ M1 =>
  WP FF sc YF (d + 1) m_X12_mayHaunt 8 [] [some (vr 81), some (vi v1), some (vi v2), some (vi 0), some (vi 0)] M1 Q)) : CA FF sc YF (d + 1) m_X12_mayHaunt [vr 81, vi v1, vi v2] M Q := ca_go rfl rfl (fun j => Nat.beq j 8) 48 h
theorem rg_X12_mayHaunt_8 {sc : List Int} {d : Nat} {Q : Vv → MM → Prop} (v1 : Int) (v2 : Int) (v3 : Int) (v4 : Int) (M : MM) (h : brA (decide ((M 81 19) ≤ v4))
  (brA (decide (v3 ≠ 0))
   (Q (vi 0) M)
   (Q (vi 1) M))
  (gAnd (decide (0 ≤ v4) && decide (v4 < 16)) (brA (decide ((M 98 v4.toNat) = 109))
   (gAnd (decide (0 ≤ v4) && decide (v4 < 16)) (gAnd (decide (0 ≤ v4) && decide (v4 < 16)) (CA FF sc YF d m_X12_comesTo [vr 81, vi (M 100 v4.toNat), vi (M 101 v4.toNat)] M (cI fun r2 M1 =>
    brA (decide (r2 ≠ 1))
     (WP FF sc YF (d + 1) m_X12_mayHaunt 8 [] [some (vr 81), some (vi v1), some (vi v2), some (vi 1), some (vi (w32 (v4 + 1)))] M1 Q)
     (Q (vi 1) M1)))))
   (WP FF sc YF (d + 1) m_X12_mayHaunt 8 [] [some (vr 81), some (vi v1), some (vi v2), some (vi v3), some (vi (w32 (v4 + 1)))] M Q)))) : WP FF sc YF (d + 1) m_X12_mayHaunt 8 [] [some (vr 81), some (vi v1), some (vi v2), some (vi v3), some (vi v4)] M Q := wp_go rfl (fun j => Nat.beq j 8) 48 h
theorem ca_X12_feels {sc : List Int} {d : Nat} {Q : Vv → MM → Prop} (v1 : Int) (v2 : Int) (M : MM) (h : WP FF sc YF (d + 1) m_X12_feels 2 [] [some (vr 81), some (vi v1), some (vi v2), some (vi 0)] M Q) : CA FF sc YF (d + 1) m_X12_feels [vr 81, vi v1, vi v2] M Q := ca_go rfl rfl (fun j => Nat.beq j 2) 35 h
theorem rg_X12_feels_2 {sc : List Int} {d : Nat} {Q : Vv → MM → Prop} (v1 : Int) (v2 : Int) (v3 : Int) (M : MM) (h : brA (decide (10 ≤ v3))
  (Q (vi 0) (stM (stM (stM M 109 0 v1) 109 7 v2) 109 8 (Int.tmod v2 7)))
  (gAnd (decide (0 ≤ v3) && decide (v3 < 10)) (WP FF sc YF (d + 1) m_X12_feels 2 [] [some (vr 81), some (vi v1), some (vi v2), some (vi (w32 (v3 + 1)))] (stM M 109 (v3.toNat) 0) Q))) : WP FF sc YF (d + 1) m_X12_feels 2 [] [some (vr 81), some (vi v1), some (vi v2), some (vi v3)] M Q := wp_go rfl (fun j => Nat.beq j 2) 35 h
theorem ca_X12_here {sc : List Int} {d : Nat} {Q : Vv → MM → Prop}  (M : MM) (h : brA (decide ((M 81 12) ≤ (M 81 11)))
  (Q (vi ((-1))) M)
  (gAnd (decide (0 ≤ (M 81 11)) && decide ((M 81 11) < 260)) (Q (vi (bAnd (M 90 (M 81 11).toNat) 255)) M))) : CA FF sc YF (d + 1) m_X12_here [vr 81] M Q := ca_go rfl rfl (fun j => false) 20 h
theorem ca_X12_wrongAt {sc : List Int} {d : Nat} {Q : Vv → MM → Prop} (v1 : Int) (v2 : Int) (M : MM) (h : Q (vi 0) (stM M 81 13 (w32 ((w32 (((-1000)) * v1)) - v2)))) : CA FF sc YF (d + 1) m_X12_wrongAt [vr 81, vi v1, vi v2] M Q := ca_go rfl rfl (fun j => false) 14 h
theorem ca_X12_readsTimes {sc : List Int} {d : Nat} {Q : Vv → MM → Prop}  (M : MM) (h : CA FF sc YF d m_X12_here [vr 81] (stM (stM M 81 39 (M 81 11)) 81 40 1) (cI fun r2 M1 =>
  CA FF sc YF d m_X12_in [vi r2, vi 50, vi 57] M1 (cI fun r4 M3 =>
   brA (decide (r4 ≠ 0))
    (CA FF sc YF d m_X12_here [vr 81] M3 (cI fun r6 M5 =>
     Q (vi 0) (stM (stM M5 81 40 (w32 (r6 - 48))) 81 11 (w32 (((stM M5 81 40 (w32 (r6 - 48))) 81 11) + 1)))))
    (Q (vi 0) M3)))) : CA FF sc YF (d + 1) m_X12_readsTimes [vr 81] M Q := ca_go rfl rfl (fun j => false) 32 h
theorem ca_X12_repeats {sc : List Int} {d : Nat} {Q : Vv → MM → Prop} (v1 : Int) (v2 : Int) (v3 : Int) (M : MM) (h : brA (decide ((w32 (v1 + (w32 ((w32 ((M 81 37) - v1)) * v2)))) ≤ 60))
  (WP FF sc YF (d + 1) m_X12_repeats 19 [] [some (vr 81), some (vi v1), some (vi v2), some (vi v3), some (vi (w32 ((M 81 37) - v1))), some (vi (w32 ((M 81 37) - v1)))] M Q)
  (CA FF sc YF d m_X12_wrongAt [vr 81, vi 6, vi v3] M (cI fun r2 M1 =>
   gAnd (decide (r2 = 0) || decide (r2 = 1)) (Q (vi r2) M1)))) : CA FF sc YF (d + 1) m_X12_repeats [vr 81, vi v1, vi v2, vi v3] M Q := ca_go rfl rfl (fun j => Nat.beq j 19) 54 h
theorem rg_X12_repeats_19 {sc : List Int} {d : Nat} {Q : Vv → MM → Prop} (v1 : Int) (v2 : Int) (v3 : Int) (v4 : Int) (v5 : Int) (M : MM) (h : brA (decide ((w32 (v4 * v2)) ≤ v5))
  (Q (vi 1) (stM M 81 37 (w32 (v1 + (w32 (v4 * v2))))))
  (gAnd (decide (0 ≤ (w32 ((w32 (v1 + v5)) - v4))) && decide ((w32 ((w32 (v1 + v5)) - v4)) < 60)) (gAnd (decide (0 ≤ (w32 (v1 + v5))) && decide ((w32 (v1 + v5)) < 60)) (WP FF sc YF (d + 1) m_X12_repeats 19 [] [some (vr 81), some (vi v1), some (vi v2), some (vi v3), some (vi v4), some (vi (w32 (v5 + 1)))] (stM M 104 ((w32 (v1 + v5)).toNat) (w8 (M 104 (w32 ((w32 (v1 + v5)) - v4)).toNat))) Q)))) : WP FF sc YF (d + 1) m_X12_repeats 19 [] [some (vr 81), some (vi v1), some (vi v2), some (vi v3), some (vi v4), some (vi v5)] M Q := wp_go rfl (fun j => Nat.beq j 19) 54 h
theorem ca_X12_endsRounds {sc : List Int} {d : Nat} {Q : Vv → MM → Prop}  (M : MM) (h : CA FF sc YF d m_X12_here [vr 81] M (cI fun r2 M1 =>
  brA (decide (r2 ≠ 41))
   (Q (vi 1) M1)
   (brA (decide ((M1 81 38) ≤ 0))
    (Q (vi 1) M1)
    (gAnd (decide (0 ≤ ((stM (stM M1 81 11 (w32 ((M1 81 11) + 1))) 81 38 (w32 (((stM M1 81 11 (w32 ((M1 81 11) + 1))) 81 38) - 1))) 81 38)) && decide (((stM (stM M1 81 11 (w32 ((M1 81 11) + 1))) 81 38 (w32 (((stM M1 81 11 (w32 ((M1 81 11) + 1))) 81 38) - 1))) 81 38) < 3)) (gAnd (decide (0 ≤ ((stM (stM M1 81 11 (w32 ((M1 81 11) + 1))) 81 38 (w32 (((stM M1 81 11 (w32 ((M1 81 11) + 1))) 81 38) - 1))) 81 38)) && decide (((stM (stM M1 81 11 (w32 ((M1 81 11) + 1))) 81 38 (w32 (((stM M1 81 11 (w32 ((M1 81 11) + 1))) 81 38) - 1))) 81 38) < 3)) (gAnd (decide (0 ≤ ((stM (stM M1 81 11 (w32 ((M1 81 11) + 1))) 81 38 (w32 (((stM M1 81 11 (w32 ((M1 81 11) + 1))) 81 38) - 1))) 81 38)) && decide (((stM (stM M1 81 11 (w32 ((M1 81 11) + 1))) 81 38 (w32 (((stM M1 81 11 (w32 ((M1 81 11) + 1))) 81 38) - 1))) 81 38) < 3)) (CA FF sc YF d m_X12_repeats [vr 81, vi ((stM (stM M1 81 11 (w32 ((M1 81 11) + 1))) 81 38 (w32 (((stM M1 81 11 (w32 ((M1 81 11) + 1))) 81 38) - 1))) 106 ((stM (stM M1 81 11 (w32 ((M1 81 11) + 1))) 81 38 (w32 (((stM M1 81 11 (w32 ((M1 81 11) + 1))) 81 38) - 1))) 81 38).toNat), vi ((stM (stM M1 81 11 (w32 ((M1 81 11) + 1))) 81 38 (w32 (((stM M1 81 11 (w32 ((M1 81 11) + 1))) 81 38) - 1))) 107 ((stM (stM M1 81 11 (w32 ((M1 81 11) + 1))) 81 38 (w32 (((stM M1 81 11 (w32 ((M1 81 11) + 1))) 81 38) - 1))) 81 38).toNat), vi ((stM (stM M1 81 11 (w32 ((M1 81 11) + 1))) 81 38 (w32 (((stM M1 81 11 (w32 ((M1 81 11) + 1))) 81 38) - 1))) 105 ((stM (stM M1 81 11 (w32 ((M1 81 11) + 1))) 81 38 (w32 (((stM M1 81 11 (w32 ((M1 81 11) + 1))) 81 38) - 1))) 81 38).toNat)] (stM (stM M1 81 11 (w32 ((M1 81 11) + 1))) 81 38 (w32 (((stM M1 81 11 (w32 ((M1 81 11) + 1))) 81 38) - 1))) (cI fun r4 M3 =>
     brA (decide (r4 ≠ 0))
      (WP FF sc YF (d + 1) m_X12_endsRounds 0 [] [some (vr 81)] M3 Q)
      (Q (vi 0) M3))))))))) : CA FF sc YF (d + 1) m_X12_endsRounds [vr 81] M Q := ca_go rfl rfl (fun j => Nat.beq j 0) 46 h
theorem rg_X12_endsRounds_0 {sc : List Int} {d : Nat} {Q : Vv → MM → Prop}  (M : MM) (h : CA FF sc YF d m_X12_here [vr 81] M (cI fun r2 M1 =>
  brA (decide (r2 ≠ 41))
   (Q (vi 1) M1)
   (brA (decide ((M1 81 38) ≤ 0))
    (Q (vi 1) M1)
    (gAnd (decide (0 ≤ ((stM (stM M1 81 11 (w32 ((M1 81 11) + 1))) 81 38 (w32 (((stM M1 81 11 (w32 ((M1 81 11) + 1))) 81 38) - 1))) 81 38)) && decide (((stM (stM M1 81 11 (w32 ((M1 81 11) + 1))) 81 38 (w32 (((stM M1 81 11 (w32 ((M1 81 11) + 1))) 81 38) - 1))) 81 38) < 3)) (gAnd (decide (0 ≤ ((stM (stM M1 81 11 (w32 ((M1 81 11) + 1))) 81 38 (w32 (((stM M1 81 11 (w32 ((M1 81 11) + 1))) 81 38) - 1))) 81 38)) && decide (((stM (stM M1 81 11 (w32 ((M1 81 11) + 1))) 81 38 (w32 (((stM M1 81 11 (w32 ((M1 81 11) + 1))) 81 38) - 1))) 81 38) < 3)) (gAnd (decide (0 ≤ ((stM (stM M1 81 11 (w32 ((M1 81 11) + 1))) 81 38 (w32 (((stM M1 81 11 (w32 ((M1 81 11) + 1))) 81 38) - 1))) 81 38)) && decide (((stM (stM M1 81 11 (w32 ((M1 81 11) + 1))) 81 38 (w32 (((stM M1 81 11 (w32 ((M1 81 11) + 1))) 81 38) - 1))) 81 38) < 3)) (CA FF sc YF d m_X12_repeats [vr 81, vi ((stM (stM M1 81 11 (w32 ((M1 81 11) + 1))) 81 38 (w32 (((stM M1 81 11 (w32 ((M1 81 11) + 1))) 81 38) - 1))) 106 ((stM (stM M1 81 11 (w32 ((M1 81 11) + 1))) 81 38 (w32 (((stM M1 81 11 (w32 ((M1 81 11) + 1))) 81 38) - 1))) 81 38).toNat), vi ((stM (stM M1 81 11 (w32 ((M1 81 11) + 1))) 81 38 (w32 (((stM M1 81 11 (w32 ((M1 81 11) + 1))) 81 38) - 1))) 107 ((stM (stM M1 81 11 (w32 ((M1 81 11) + 1))) 81 38 (w32 (((stM M1 81 11 (w32 ((M1 81 11) + 1))) 81 38) - 1))) 81 38).toNat), vi ((stM (stM M1 81 11 (w32 ((M1 81 11) + 1))) 81 38 (w32 (((stM M1 81 11 (w32 ((M1 81 11) + 1))) 81 38) - 1))) 105 ((stM (stM M1 81 11 (w32 ((M1 81 11) + 1))) 81 38 (w32 (((stM M1 81 11 (w32 ((M1 81 11) + 1))) 81 38) - 1))) 81 38).toNat)] (stM (stM M1 81 11 (w32 ((M1 81 11) + 1))) 81 38 (w32 (((stM M1 81 11 (w32 ((M1 81 11) + 1))) 81 38) - 1))) (cI fun r4 M3 =>
     brA (decide (r4 ≠ 0))
      (WP FF sc YF (d + 1) m_X12_endsRounds 0 [] [some (vr 81)] M3 Q)
      (Q (vi 0) M3))))))))) : WP FF sc YF (d + 1) m_X12_endsRounds 0 [] [some (vr 81)] M Q := wp_go rfl (fun j => Nat.beq j 0) 46 h
theorem ca_X12_readsStep {sc : List Int} {d : Nat} {Q : Vv → MM → Prop}  (M : MM) (h : CA FF sc YF d m_X12_readsTimes [vr 81] M (fun _ M1 =>
  WP FF sc YF (d + 1) m_X12_readsStep 2 [] [some (vr 81), none, none, none] M1 Q)) : CA FF sc YF (d + 1) m_X12_readsStep [vr 81] M Q := ca_go rfl rfl (fun j => Nat.beq j 2) 120 h
theorem rg_X12_readsStep_2 {sc : List Int} {d : Nat} {Q : Vv → MM → Prop} (o1 : Option Vv) (o2 : Option Vv) (o3 : Option Vv) (M : MM) (h : CA FF sc YF d m_X12_here [vr 81] M (cI fun r2 M1 =>
  brA (decide (r2 ≠ 40))
   (CA FF sc YF d m_X12_here [vr 81] M1 (cI fun r4 M3 =>
    CA FF sc YF d m_X12_wayOf [vi r4] M3 (cI fun r6 M5 =>
     brA (decide (r6 ≠ ((-1))))
      (brA (decide ((w32 (((stM M5 81 11 (w32 ((M5 81 11) + 1))) 81 37) + (M1 81 40))) ≤ 60))
       (gAnd (decide (0 ≤ ((stM M5 81 11 (w32 ((M5 81 11) + 1))) 81 37)) && decide (((stM M5 81 11 (w32 ((M5 81 11) + 1))) 81 37) < 60)) (CA FF sc YF d m_X12_repeats [vr 81, vi (w32 (((stM (stM (stM M5 81 11 (w32 ((M5 81 11) + 1))) 104 (((stM M5 81 11 (w32 ((M5 81 11) + 1))) 81 37).toNat) (w8 (w8 r6))) 81 37 (w32 (((stM (stM M5 81 11 (w32 ((M5 81 11) + 1))) 104 (((stM M5 81 11 (w32 ((M5 81 11) + 1))) 81 37).toNat) (w8 (w8 r6))) 81 37) + 1))) 81 37) - 1)), vi (M1 81 40), vi (M1 81 39)] (stM (stM (stM M5 81 11 (w32 ((M5 81 11) + 1))) 104 (((stM M5 81 11 (w32 ((M5 81 11) + 1))) 81 37).toNat) (w8 (w8 r6))) 81 37 (w32 (((stM (stM M5 81 11 (w32 ((M5 81 11) + 1))) 104 (((stM M5 81 11 (w32 ((M5 81 11) + 1))) 81 37).toNat) (w8 (w8 r6))) 81 37) + 1))) (cI fun r8 M7 =>
        brA (decide (r8 ≠ 0))
         (CA FF sc YF d m_X12_endsRounds [vr 81] M7 (cI fun r10 M9 =>
          gAnd (decide (r10 = 0) || decide (r10 = 1)) (Q (vi r10) M9)))
         (Q (vi 0) M7))))
       (CA FF sc YF d m_X12_wrongAt [vr 81, vi 6, vi (M1 81 39)] (stM M5 81 11 (w32 ((M5 81 11) + 1))) (cI fun r12 M11 =>
        gAnd (decide (r12 = 0) || decide (r12 = 1)) (Q (vi r12) M11))))
      (CA FF sc YF d m_X12_wrongAt [vr 81, vi 1, vi (M5 81 11)] M5 (cI fun r14 M13 =>
       gAnd (decide (r14 = 0) || decide (r14 = 1)) (Q (vi r14) M13))))))
   (brA (decide ((M1 81 38) ≠ 3))
    (gAnd (decide (0 ≤ (M1 81 38)) && decide ((M1 81 38) < 3)) (gAnd (decide (0 ≤ ((stM M1 105 ((M1 81 38).toNat) (M1 81 39)) 81 38)) && decide (((stM M1 105 ((M1 81 38).toNat) (M1 81 39)) 81 38) < 3)) (gAnd (decide (0 ≤ ((stM (stM M1 105 ((M1 81 38).toNat) (M1 81 39)) 106 (((stM M1 105 ((M1 81 38).toNat) (M1 81 39)) 81 38).toNat) ((stM M1 105 ((M1 81 38).toNat) (M1 81 39)) 81 37)) 81 38)) && decide (((stM (stM M1 105 ((M1 81 38).toNat) (M1 81 39)) 106 (((stM M1 105 ((M1 81 38).toNat) (M1 81 39)) 81 38).toNat) ((stM M1 105 ((M1 81 38).toNat) (M1 81 39)) 81 37)) 81 38) < 3)) (CA FF sc YF d m_X12_readsTimes [vr 81] (stM (stM (stM (stM (stM M1 105 ((M1 81 38).toNat) (M1 81 39)) 106 (((stM M1 105 ((M1 81 38).toNat) (M1 81 39)) 81 38).toNat) ((stM M1 105 ((M1 81 38).toNat) (M1 81 39)) 81 37)) 107 (((stM (stM M1 105 ((M1 81 38).toNat) (M1 81 39)) 106 (((stM M1 105 ((M1 81 38).toNat) (M1 81 39)) 81 38).toNat) ((stM M1 105 ((M1 81 38).toNat) (M1 81 39)) 81 37)) 81 38).toNat) ((stM (stM M1 105 ((M1 81 38).toNat) (M1 81 39)) 106 (((stM M1 105 ((M1 81 38).toNat) (M1 81 39)) 81 38).toNat) ((stM M1 105 ((M1 81 38).toNat) (M1 81 39)) 81 37)) 81 40)) 81 38 (w32 (((stM (stM (stM M1 105 ((M1 81 38).toNat) (M1 81 39)) 106 (((stM M1 105 ((M1 81 38).toNat) (M1 81 39)) 81 38).toNat) ((stM M1 105 ((M1 81 38).toNat) (M1 81 39)) 81 37)) 107 (((stM (stM M1 105 ((M1 81 38).toNat) (M1 81 39)) 106 (((stM M1 105 ((M1 81 38).toNat) (M1 81 39)) 81 38).toNat) ((stM M1 105 ((M1 81 38).toNat) (M1 81 39)) 81 37)) 81 38).toNat) ((stM (stM M1 105 ((M1 81 38).toNat) (M1 81 39)) 106 (((stM M1 105 ((M1 81 38).toNat) (M1 81 39)) 81 38).toNat) ((stM M1 105 ((M1 81 38).toNat) (M1 81 39)) 81 37)) 81 40)) 81 38) + 1))) 81 11 (w32 (((stM (stM (stM (stM M1 105 ((M1 81 38).toNat) (M1 81 39)) 106 (((stM M1 105 ((M1 81 38).toNat) (M1 81 39)) 81 38).toNat) ((stM M1 105 ((M1 81 38).toNat) (M1 81 39)) 81 37)) 107 (((stM (stM M1 105 ((M1 81 38).toNat) (M1 81 39)) 106 (((stM M1 105 ((M1 81 38).toNat) (M1 81 39)) 81 38).toNat) ((stM M1 105 ((M1 81 38).toNat) (M1 81 39)) 81 37)) 81 38).toNat) ((stM (stM M1 105 ((M1 81 38).toNat) (M1 81 39)) 106 (((stM M1 105 ((M1 81 38).toNat) (M1 81 39)) 81 38).toNat) ((stM M1 105 ((M1 81 38).toNat) (M1 81 39)) 81 37)) 81 40)) 81 38 (w32 (((stM (stM (stM M1 105 ((M1 81 38).toNat) (M1 81 39)) 106 (((stM M1 105 ((M1 81 38).toNat) (M1 81 39)) 81 38).toNat) ((stM M1 105 ((M1 81 38).toNat) (M1 81 39)) 81 37)) 107 (((stM (stM M1 105 ((M1 81 38).toNat) (M1 81 39)) 106 (((stM M1 105 ((M1 81 38).toNat) (M1 81 39)) 81 38).toNat) ((stM M1 105 ((M1 81 38).toNat) (M1 81 39)) 81 37)) 81 38).toNat) ((stM (stM M1 105 ((M1 81 38).toNat) (M1 81 39)) 106 (((stM M1 105 ((M1 81 38).toNat) (M1 81 39)) 81 38).toNat) ((stM M1 105 ((M1 81 38).toNat) (M1 81 39)) 81 37)) 81 40)) 81 38) + 1))) 81 11) + 1))) (fun _ M15 =>
     WP FF sc YF (d + 1) m_X12_readsStep 2 [] [some (vr 81), o1, o2, o3] M15 Q)))))
    (CA FF sc YF d m_X12_wrongAt [vr 81, vi 5, vi (M1 81 11)] M1 (cI fun r17 M16 =>
     gAnd (decide (r17 = 0) || decide (r17 = 1)) (Q (vi r17) M16)))))) : WP FF sc YF (d + 1) m_X12_readsStep 2 [] [some (vr 81), o1, o2, o3] M Q := wp_go rfl (fun j => Nat.beq j 2) 120 h
theorem ca_X12_walk {sc : List Int} {d : Nat} {Q : Vv → MM → Prop} (v1 : Int) (v2 : Int) (M : MM) (h : CA FF sc YF d m_X12_isTen [vi v1] M (cI fun r2 M1 =>
  brA (decide (r2 = 0))
   (Q (vi ((-1))) M1)
   (CA FF sc YF d m_X12_in [vi v2, vi 1, vi 80] M1 (cI fun r4 M3 =>
    brA (decide (r4 = 0))
     (Q (vi ((-1))) M3)
     (brA (decide (v2 ≤ (M3 81 10)))
      (CA FF sc YF d m_X12_readsStep [vr 81] (stM (stM (stM (stM M3 81 11 0) 81 12 v2) 81 37 0) 81 38 0) (cI fun r6 M5 =>
       WP FF sc YF (d + 1) m_X12_walk 29 [] [some (vr 81), some (vi v1), some (vi v2), some (vi r6), none] M5 Q))
      (Q (vi ((-1))) M3)))))) : CA FF sc YF (d + 1) m_X12_walk [vr 81, vi v1, vi v2] M Q := ca_go rfl rfl (fun j => Nat.beq j 29 || Nat.beq j 43 || Nat.beq j 59) 85 h
theorem rg_X12_walk_29 {sc : List Int} {d : Nat} {Q : Vv → MM → Prop} (v1 : Int) (v2 : Int) (v3 : Int) (o4 : Option Vv) (M : MM) (h : brA (decide (v3 = 0))
  (WP FF sc YF (d + 1) m_X12_walk 43 [] [some (vr 81), some (vi v1), some (vi v2), some (vi v3), o4] M Q)
  (brA (decide ((M 81 11) < (M 81 12)))
   (CA FF sc YF d m_X12_readsStep [vr 81] M (cI fun r2 M1 =>
    WP FF sc YF (d + 1) m_X12_walk 29 [] [some (vr 81), some (vi v1), some (vi v2), some (vi r2), o4] M1 Q))
   (brA (decide ((M 81 38) ≤ 0))
    (WP FF sc YF (d + 1) m_X12_walk 43 [] [some (vr 81), some (vi v1), some (vi v2), some (vi v3), o4] M Q)
    (CA FF sc YF d m_X12_readsStep [vr 81] M (cI fun r4 M3 =>
     WP FF sc YF (d + 1) m_X12_walk 29 [] [some (vr 81), some (vi v1), some (vi v2), some (vi r4), o4] M3 Q))))) : WP FF sc YF (d + 1) m_X12_walk 29 [] [some (vr 81), some (vi v1), some (vi v2), some (vi v3), o4] M Q := wp_go rfl (fun j => Nat.beq j 29 || Nat.beq j 43 || Nat.beq j 59) 85 h
theorem rg_X12_walk_43 {sc : List Int} {d : Nat} {Q : Vv → MM → Prop} (v1 : Int) (v2 : Int) (v3 : Int) (o4 : Option Vv) (M : MM) (h : brA (decide (v3 ≠ 0))
  (gAnd (decide (0 ≤ v1) && decide (v1 < 10)) (WP FF sc YF (d + 1) m_X12_walk 59 [] [some (vr 81), some (vi v1), some (vi v2), some (vi v3), some (vi 0)] (stM (stM M 81 10 0) 88 (v1.toNat) ((stM M 81 10 0) 81 37)) Q))
  (Q (vi ((stM M 81 10 0) 81 13)) (stM M 81 10 0))) : WP FF sc YF (d + 1) m_X12_walk 43 [] [some (vr 81), some (vi v1), some (vi v2), some (vi v3), o4] M Q := wp_go rfl (fun j => Nat.beq j 29 || Nat.beq j 43 || Nat.beq j 59) 85 h
theorem rg_X12_walk_59 {sc : List Int} {d : Nat} {Q : Vv → MM → Prop} (v1 : Int) (v2 : Int) (v3 : Int) (v4 : Int) (M : MM) (h : brA (decide ((M 81 37) ≤ v4))
  (Q (vi (M 81 37)) M)
  (gAnd (decide (0 ≤ v4) && decide (v4 < 60)) (gAnd (decide (0 ≤ (w32 ((w32 (60 * v1)) + v4))) && decide ((w32 ((w32 (60 * v1)) + v4)) < 600)) (WP FF sc YF (d + 1) m_X12_walk 59 [] [some (vr 81), some (vi v1), some (vi v2), some (vi v3), some (vi (w32 (v4 + 1)))] (stM M 89 ((w32 ((w32 (60 * v1)) + v4)).toNat) (w8 (M 104 v4.toNat))) Q)))) : WP FF sc YF (d + 1) m_X12_walk 59 [] [some (vr 81), some (vi v1), some (vi v2), some (vi v3), some (vi v4)] M Q := wp_go rfl (fun j => Nat.beq j 29 || Nat.beq j 43 || Nat.beq j 59) 85 h
theorem ca_X12_hasSpot {sc : List Int} {d : Nat} {Q : Vv → MM → Prop} (v1 : Int) (M : MM) (h : CA FF sc YF d m_X12_isTen [vi v1] M (cI fun r2 M1 =>
  brA (decide (r2 = 0))
   (Q (vi 0) M1)
   (gAnd (decide (0 ≤ v1) && decide (v1 < 10)) (brA (decide ((M1 86 v1.toNat) < 0))
    (Q (vi 0) M1)
    (Q (vi 1) M1))))) : CA FF sc YF (d + 1) m_X12_hasSpot [vr 81, vi v1] M Q := ca_go rfl rfl (fun j => false) 17 h
