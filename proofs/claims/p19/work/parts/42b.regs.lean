/-! PART 42b: sightings, rotas, the class's walk, quarter, law -/
theorem ca_X12_areSights {sc : List Int} {d : Nat} {Q : Vv → MM → Prop} (v1 : Int) (M : MM) (h : WP FF sc YF (d + 1) m_X12_areSights 2 [] [some (vr 81), some (vi v1), some (vi 0)] M Q) : CA FF sc YF (d + 1) m_X12_areSights [vr 81, vi v1] M Q := ca_go rfl rfl (fun j => Nat.beq j 2) 64 h
theorem rg_X12_areSights_2 {sc : List Int} {d : Nat} {Q : Vv → MM → Prop} (v1 : Int) (v2 : Int) (M : MM) (h : brA (decide (v1 ≤ v2))
  (Q (vi 1) M)
  (gAnd (decide (0 ≤ (w32 ((w32 (2 * v2)) + 1))) && decide ((w32 ((w32 (2 * v2)) + 1)) < 260)) (CA FF sc YF d m_X12_in [vi (M 90 (w32 ((w32 (2 * v2)) + 1)).toNat), vi 0, vi 63] M (cI fun r2 M1 =>
   brA (decide (r2 = 0))
    (Q (vi 0) M1)
    (gAnd (decide (0 ≤ (w32 ((w32 (2 * v2)) + 1))) && decide ((w32 ((w32 (2 * v2)) + 1)) < 260)) (gAnd (decide (0 ≤ (M1 90 (w32 ((w32 (2 * v2)) + 1)).toNat)) && decide ((M1 90 (w32 ((w32 (2 * v2)) + 1)).toNat) < 64)) (brA (decide ((M1 85 (M1 90 (w32 ((w32 (2 * v2)) + 1)).toNat).toNat) ≠ 1))
     (brA (decide (v2 ≤ 0))
      (WP FF sc YF (d + 1) m_X12_areSights 2 [] [some (vr 81), some (vi v1), some (vi (w32 (v2 + 1)))] M1 Q)
      (gAnd (decide (0 ≤ (w32 (2 * v2))) && decide ((w32 (2 * v2)) < 260)) (gAnd (decide (0 ≤ (w32 ((w32 (2 * v2)) - 2))) && decide ((w32 ((w32 (2 * v2)) - 2)) < 260)) (brA (decide ((bAnd (M1 90 (w32 ((w32 (2 * v2)) - 2)).toNat) 255) ≤ (bAnd (M1 90 (w32 (2 * v2)).toNat) 255)))
       (WP FF sc YF (d + 1) m_X12_areSights 2 [] [some (vr 81), some (vi v1), some (vi (w32 (v2 + 1)))] M1 Q)
       (Q (vi 0) M1)))))
     (Q (vi 0) M1)))))))) : WP FF sc YF (d + 1) m_X12_areSights 2 [] [some (vr 81), some (vi v1), some (vi v2)] M Q := wp_go rfl (fun j => Nat.beq j 2) 64 h
theorem ca_X12_laysBoth {sc : List Int} {d : Nat} {Q : Vv → MM → Prop} (v1 : Int) (M : MM) (h : WP FF sc YF (d + 1) m_X12_laysBoth 2 [] [some (vr 81), some (vi v1), some (vi 0), none] M Q) : CA FF sc YF (d + 1) m_X12_laysBoth [vr 81, vi v1] M Q := ca_go rfl rfl (fun j => Nat.beq j 2 || Nat.beq j 18) 74 h
theorem rg_X12_laysBoth_2 {sc : List Int} {d : Nat} {Q : Vv → MM → Prop} (v1 : Int) (v2 : Int) (o3 : Option Vv) (M : MM) (h : brA (decide (v1 ≤ v2))
  (Q (vi 0) M)
  (gAnd (decide (0 ≤ (w32 ((w32 (2 * v2)) + 1))) && decide ((w32 ((w32 (2 * v2)) + 1)) < 260)) (CA FF sc YF d m_X12_laysCosts [vr 81, vi (M 90 (w32 ((w32 (2 * v2)) + 1)).toNat), vi 0] M (fun _ M1 =>
   WP FF sc YF (d + 1) m_X12_laysBoth 18 [] [some (vr 81), some (vi v1), some (vi v2), some (vi 0)] M1 Q)))) : WP FF sc YF (d + 1) m_X12_laysBoth 2 [] [some (vr 81), some (vi v1), some (vi v2), o3] M Q := wp_go rfl (fun j => Nat.beq j 2 || Nat.beq j 18) 74 h
theorem rg_X12_laysBoth_18 {sc : List Int} {d : Nat} {Q : Vv → MM → Prop} (v1 : Int) (v2 : Int) (v3 : Int) (M : MM) (h : brA (decide (v1 ≤ v3))
  (WP FF sc YF (d + 1) m_X12_laysBoth 2 [] [some (vr 81), some (vi v1), some (vi (w32 (v2 + 1))), some (vi v3)] M Q)
  (brA (decide (v3 ≤ v2))
   (gAnd (decide (0 ≤ (w32 ((w32 (10 * v2)) + v3))) && (decide ((w32 ((w32 (10 * v2)) + v3)) < 100) && (decide (0 = 0) || decide (0 = 1)))) (WP FF sc YF (d + 1) m_X12_laysBoth 18 [] [some (vr 81), some (vi v1), some (vi v2), some (vi (w32 (v3 + 1)))] (stM M 115 ((w32 ((w32 (10 * v2)) + v3)).toNat) 0) Q))
   (gAnd (decide (0 ≤ (w32 ((w32 (2 * v3)) + 1))) && decide ((w32 ((w32 (2 * v3)) + 1)) < 260)) (gAnd (decide (0 ≤ (M 90 (w32 ((w32 (2 * v3)) + 1)).toNat)) && decide ((M 90 (w32 ((w32 (2 * v3)) + 1)).toNat) < 64)) (gAnd (decide (0 ≤ (w32 (2 * v3))) && decide ((w32 (2 * v3)) < 260)) (gAnd (decide (0 ≤ (w32 (2 * v2))) && decide ((w32 (2 * v2)) < 260)) (brA (decide ((w32 ((bAnd (M 90 (w32 (2 * v3)).toNat) 255) - (bAnd (M 90 (w32 (2 * v2)).toNat) 255))) < (M 114 (M 90 (w32 ((w32 (2 * v3)) + 1)).toNat).toNat)))
    (gAnd (decide (0 ≤ (w32 ((w32 (10 * v2)) + v3))) && (decide ((w32 ((w32 (10 * v2)) + v3)) < 100) && (decide (0 = 0) || decide (0 = 1)))) (WP FF sc YF (d + 1) m_X12_laysBoth 18 [] [some (vr 81), some (vi v1), some (vi v2), some (vi (w32 (v3 + 1)))] (stM M 115 ((w32 ((w32 (10 * v2)) + v3)).toNat) 0) Q))
    (gAnd (decide (0 ≤ (w32 ((w32 (10 * v2)) + v3))) && (decide ((w32 ((w32 (10 * v2)) + v3)) < 100) && (decide (1 = 0) || decide (1 = 1)))) (WP FF sc YF (d + 1) m_X12_laysBoth 18 [] [some (vr 81), some (vi v1), some (vi v2), some (vi (w32 (v3 + 1)))] (stM M 115 ((w32 ((w32 (10 * v2)) + v3)).toNat) 1) Q))))))))) : WP FF sc YF (d + 1) m_X12_laysBoth 18 [] [some (vr 81), some (vi v1), some (vi v2), some (vi v3)] M Q := wp_go rfl (fun j => Nat.beq j 2 || Nat.beq j 18) 74 h
theorem ca_X12_fromWhere {sc : List Int} {d : Nat} {Q : Vv → MM → Prop} (v1 : Int) (M : MM) (h : WP FF sc YF (d + 1) m_X12_fromWhere 2 [] [some (vr 81), some (vi v1), some (vi 0), none] M Q) : CA FF sc YF (d + 1) m_X12_fromWhere [vr 81, vi v1] M Q := ca_go rfl rfl (fun j => Nat.beq j 2 || Nat.beq j 33) 69 h
theorem rg_X12_fromWhere_2 {sc : List Int} {d : Nat} {Q : Vv → MM → Prop} (v1 : Int) (v2 : Int) (o3 : Option Vv) (M : MM) (h : brA (decide (v1 ≤ (w32 (v2 + 1))))
  (CA FF sc YF d m_X12_laysCosts [vr 81, vi (M 90 1), vi 0] M (fun _ M1 =>
   WP FF sc YF (d + 1) m_X12_fromWhere 33 [] [some (vr 81), some (vi v1), some (vi 0), some (vi 0)] M1 Q))
  (gAnd (decide (0 ≤ (w32 ((w32 ((w32 (10 * v2)) + v2)) + 1))) && decide ((w32 ((w32 ((w32 (10 * v2)) + v2)) + 1)) < 100)) (brA (decide ((M 115 (w32 ((w32 ((w32 (10 * v2)) + v2)) + 1)).toNat) ≠ 0))
   (WP FF sc YF (d + 1) m_X12_fromWhere 2 [] [some (vr 81), some (vi v1), some (vi (w32 (v2 + 1))), o3] M Q)
   (Q (vi 0) M)))) : WP FF sc YF (d + 1) m_X12_fromWhere 2 [] [some (vr 81), some (vi v1), some (vi v2), o3] M Q := wp_go rfl (fun j => Nat.beq j 2 || Nat.beq j 33) 69 h
theorem rg_X12_fromWhere_33 {sc : List Int} {d : Nat} {Q : Vv → MM → Prop} (v1 : Int) (v2 : Int) (v3 : Int) (M : MM) (h : brA (decide (10 ≤ v3))
  (Q (vi v2) M)
  (CA FF sc YF d m_X12_hasSpot [vr 81, vi v3] M (cI fun r2 M1 =>
   brA (decide (r2 = 0))
    (WP FF sc YF (d + 1) m_X12_fromWhere 33 [] [some (vr 81), some (vi v1), some (vi v2), some (vi (w32 (v3 + 1)))] M1 Q)
    (gAnd (decide (0 ≤ v3) && decide (v3 < 10)) (gAnd (decide (0 ≤ (M1 86 v3.toNat)) && decide ((M1 86 v3.toNat) < 64)) (brA (decide ((bAnd (M1 90 0) 255) < (M1 114 (M1 86 v3.toNat).toNat)))
     (WP FF sc YF (d + 1) m_X12_fromWhere 33 [] [some (vr 81), some (vi v1), some (vi v2), some (vi (w32 (v3 + 1)))] M1 Q)
     (WP FF sc YF (d + 1) m_X12_fromWhere 33 [] [some (vr 81), some (vi v1), some (vi (bOr v2 (bShl 1 v3))), some (vi (w32 (v3 + 1)))] M1 Q))))))) : WP FF sc YF (d + 1) m_X12_fromWhere 33 [] [some (vr 81), some (vi v1), some (vi v2), some (vi v3)] M Q := wp_go rfl (fun j => Nat.beq j 2 || Nat.beq j 33) 69 h
theorem ca_X12_sightings {sc : List Int} {d : Nat} {Q : Vv → MM → Prop} (v1 : Int) (v2 : Int) (M : MM) (h : CA FF sc YF d m_X12_in [vi v1, vi 1, vi 10] M (cI fun r2 M1 =>
  brA (decide (r2 = 0))
   (Q (vi ((-1))) M1)
   (CA FF sc YF d m_X12_in [vi v2, vi 0, vi 1] M1 (cI fun r4 M3 =>
    brA (decide (r4 = 0))
     (Q (vi ((-1))) M3)
     (brA (decide ((w32 (2 * v1)) ≤ (M3 81 10)))
      (CA FF sc YF d m_X12_areSights [vr 81, vi v1] (stM M3 81 10 0) (cI fun r6 M5 =>
       brA (decide (r6 ≠ 0))
        (CA FF sc YF d m_X12_laysBoth [vr 81, vi v1] M5 (fun _ M7 =>
         brA (decide (v2 ≠ 0))
          (CA FF sc YF d m_X12_fromWhere [vr 81, vi v1] M7 (cI fun r9 M8 =>
           Q (vi r9) M8))
          (CA FF sc YF d m_X12_ghostsFor [vr 81, vi v1] M7 (cI fun r11 M10 =>
           Q (vi r11) M10))))
        (Q (vi ((-2))) M5)))
      (Q (vi ((-1))) M3)))))) : CA FF sc YF (d + 1) m_X12_sightings [vr 81, vi v1, vi v2] M Q := ca_go rfl rfl (fun j => false) 45 h
theorem ca_X12_rotas {sc : List Int} {d : Nat} {Q : Vv → MM → Prop} (v1 : Int) (v2 : Int) (v3 : Int) (v4 : Int) (M : MM) (h : CA FF sc YF d m_X12_in [vi v1, vi 1, vi 14] M (cI fun r2 M1 =>
  brA (decide (r2 = 0))
   (Q (vi ((-1))) M1)
   (CA FF sc YF d m_X12_in [vi v2, vi 1, vi 1023] M1 (cI fun r4 M3 =>
    brA (decide (r4 = 0))
     (Q (vi ((-1))) M3)
     (CA FF sc YF d m_X12_bits [vi v2] M3 (cI fun r6 M5 =>
      brA (decide (5 < r6))
       (Q (vi ((-1))) M5)
       (CA FF sc YF d m_X12_in [vi v3, vi 1, vi 3] M5 (cI fun r8 M7 =>
        brA (decide (r8 = 0))
         (Q (vi ((-1))) M7)
         (CA FF sc YF d m_X12_in [vi v4, vi 100, vi 101] M7 (cI fun r10 M9 =>
          brA (decide (r10 ≠ 0))
           (WP FF sc YF (d + 1) m_X12_rotas 31 [] [some (vr 81), some (vi v1), some (vi v2), some (vi v3), some (vi v4), none] M9 Q)
           (CA FF sc YF d m_X12_in [vi v4, vi 0, vi (w32 (v1 - 1))] M9 (cI fun r12 M11 =>
            brA (decide (r12 = 0))
             (Q (vi ((-1))) M11)
             (WP FF sc YF (d + 1) m_X12_rotas 31 [] [some (vr 81), some (vi v1), some (vi v2), some (vi v3), some (vi v4), none] M11 Q))))))))))))) : CA FF sc YF (d + 1) m_X12_rotas [vr 81, vi v1, vi v2, vi v3, vi v4] M Q := ca_go rfl rfl (fun j => Nat.beq j 31 || Nat.beq j 49) 117 h
theorem rg_X12_rotas_31 {sc : List Int} {d : Nat} {Q : Vv → MM → Prop} (v1 : Int) (v2 : Int) (v3 : Int) (v4 : Int) (o5 : Option Vv) (M : MM) (h : brA (decide ((w32 ((M 82 34) + v1)) ≤ 9999))
  (WP FF sc YF (d + 1) m_X12_rotas 49 [] [some (vr 81), some (vi v1), some (vi v2), some (vi v3), some (vi v4), some (vi 0)] (stM (stM M 81 57 0) 81 58 v3) Q)
  (Q (vi ((-1))) M)) : WP FF sc YF (d + 1) m_X12_rotas 31 [] [some (vr 81), some (vi v1), some (vi v2), some (vi v3), some (vi v4), o5] M Q := wp_go rfl (fun j => Nat.beq j 31 || Nat.beq j 49) 117 h
theorem rg_X12_rotas_49 {sc : List Int} {d : Nat} {Q : Vv → MM → Prop} (v1 : Int) (v2 : Int) (v3 : Int) (v4 : Int) (v5 : Int) (M : MM) (h : brA (decide (10 ≤ v5))
  (CA FF sc YF d m_X12_laysRotas [vr 81, vi v1] M (fun _ M1 =>
   CA FF sc YF d m_X12_rotaState [vi 0, vi 0, vi 5] M1 (cI fun r3 M2 =>
    brA (decide (v4 ≠ 100))
     (gAnd (decide (0 ≤ r3) && decide (r3 < 92160)) (brA (decide ((M2 116 r3.toNat) ≠ 0))
      (brA (decide (v4 ≠ 101))
       (CA FF sc YF d m_X12_firstIn [vr 81, vi v4] M2 (cI fun r5 M4 =>
        Q (vi r5) M4))
       (gAnd (decide (0 ≤ r3) && decide (r3 < 92160)) (Q (vi (M2 117 r3.toNat)) M2)))
      (Q (vi ((-2))) M2)))
     (gAnd (decide (0 ≤ r3) && decide (r3 < 92160)) (Q (vi (M2 116 r3.toNat)) M2)))))
  (CA FF sc YF d m_X12_has [vi v2, vi v5] M (cI fun r7 M6 =>
   brA (decide (r7 ≠ 0))
    (CA FF sc YF d m_X12_hasSpot [vr 81, vi v5] M6 (cI fun r9 M8 =>
     brA (decide (r9 ≠ 0))
      (gAnd (decide (0 ≤ (M8 81 57)) && decide ((M8 81 57) < 5)) (WP FF sc YF (d + 1) m_X12_rotas 49 [] [some (vr 81), some (vi v1), some (vi v2), some (vi v3), some (vi v4), some (vi (w32 (v5 + 1)))] (stM (stM M8 118 ((M8 81 57).toNat) v5) 81 57 (w32 (((stM M8 118 ((M8 81 57).toNat) v5) 81 57) + 1))) Q))
      (Q (vi ((-1))) M8)))
    (WP FF sc YF (d + 1) m_X12_rotas 49 [] [some (vr 81), some (vi v1), some (vi v2), some (vi v3), some (vi v4), some (vi (w32 (v5 + 1)))] M6 Q)))) : WP FF sc YF (d + 1) m_X12_rotas 49 [] [some (vr 81), some (vi v1), some (vi v2), some (vi v3), some (vi v4), some (vi v5)] M Q := wp_go rfl (fun j => Nat.beq j 31 || Nat.beq j 49) 117 h
theorem ca_X12_laysRotas {sc : List Int} {d : Nat} {Q : Vv → MM → Prop} (v1 : Int) (M : MM) (h : WP FF sc YF (d + 1) m_X12_laysRotas 9 [] [some (vr 81), some (vi v1), some (vi (bShl 1 (w32 (2 * (M 81 57))))), some (vi v1), none, none, none, none, none, none, none] M Q) : CA FF sc YF (d + 1) m_X12_laysRotas [vr 81, vi v1] M Q := ca_go rfl rfl (fun j => Nat.beq j 9 || Nat.beq j 13 || Nat.beq j 18 || Nat.beq j 27 || Nat.beq j 39 || Nat.beq j 96 || Nat.beq j 110) 131 h
theorem rg_X12_laysRotas_9 {sc : List Int} {d : Nat} {Q : Vv → MM → Prop} (v1 : Int) (v2 : Int) (v3 : Int) (o4 : Option Vv) (o5 : Option Vv) (o6 : Option Vv) (o7 : Option Vv) (o8 : Option Vv) (o9 : Option Vv) (o10 : Option Vv) (M : MM) (h : brA (decide (v3 < 0))
  (Q (vi 0) M)
  (WP FF sc YF (d + 1) m_X12_laysRotas 13 [] [some (vr 81), some (vi v1), some (vi v2), some (vi v3), some (vi 0), o5, o6, o7, o8, o9, o10] M Q)) : WP FF sc YF (d + 1) m_X12_laysRotas 9 [] [some (vr 81), some (vi v1), some (vi v2), some (vi v3), o4, o5, o6, o7, o8, o9, o10] M Q := wp_go rfl (fun j => Nat.beq j 9 || Nat.beq j 13 || Nat.beq j 18 || Nat.beq j 27 || Nat.beq j 39 || Nat.beq j 96 || Nat.beq j 110) 131 h
theorem rg_X12_laysRotas_13 {sc : List Int} {d : Nat} {Q : Vv → MM → Prop} (v1 : Int) (v2 : Int) (v3 : Int) (v4 : Int) (o5 : Option Vv) (o6 : Option Vv) (o7 : Option Vv) (o8 : Option Vv) (o9 : Option Vv) (o10 : Option Vv) (M : MM) (h : brA (decide (v2 ≤ v4))
  (WP FF sc YF (d + 1) m_X12_laysRotas 9 [] [some (vr 81), some (vi v1), some (vi v2), some (vi (w32 (v3 + (-1)))), some (vi v4), o5, o6, o7, o8, o9, o10] M Q)
  (WP FF sc YF (d + 1) m_X12_laysRotas 18 [] [some (vr 81), some (vi v1), some (vi v2), some (vi v3), some (vi v4), some (vi 0), o6, o7, o8, o9, o10] M Q)) : WP FF sc YF (d + 1) m_X12_laysRotas 13 [] [some (vr 81), some (vi v1), some (vi v2), some (vi v3), some (vi v4), o5, o6, o7, o8, o9, o10] M Q := wp_go rfl (fun j => Nat.beq j 9 || Nat.beq j 13 || Nat.beq j 18 || Nat.beq j 27 || Nat.beq j 39 || Nat.beq j 96 || Nat.beq j 110) 131 h
theorem rg_X12_laysRotas_18 {sc : List Int} {d : Nat} {Q : Vv → MM → Prop} (v1 : Int) (v2 : Int) (v3 : Int) (v4 : Int) (v5 : Int) (o6 : Option Vv) (o7 : Option Vv) (o8 : Option Vv) (o9 : Option Vv) (o10 : Option Vv) (M : MM) (h : brA (decide (5 < v5))
  (WP FF sc YF (d + 1) m_X12_laysRotas 13 [] [some (vr 81), some (vi v1), some (vi v2), some (vi v3), some (vi (w32 (v4 + 1))), some (vi v5), o6, o7, o8, o9, o10] M Q)
  (brA (decide (v3 ≠ v1))
   (WP FF sc YF (d + 1) m_X12_laysRotas 27 [vl 0] [some (vr 81), some (vi v1), some (vi v2), some (vi v3), some (vi v4), some (vi v5), o6, o7, o8, o9, o10] M Q)
   (WP FF sc YF (d + 1) m_X12_laysRotas 27 [vl 1] [some (vr 81), some (vi v1), some (vi v2), some (vi v3), some (vi v4), some (vi v5), o6, o7, o8, o9, o10] M Q))) : WP FF sc YF (d + 1) m_X12_laysRotas 18 [] [some (vr 81), some (vi v1), some (vi v2), some (vi v3), some (vi v4), some (vi v5), o6, o7, o8, o9, o10] M Q := wp_go rfl (fun j => Nat.beq j 9 || Nat.beq j 13 || Nat.beq j 18 || Nat.beq j 27 || Nat.beq j 39 || Nat.beq j 96 || Nat.beq j 110) 131 h
theorem rg_X12_laysRotas_27 {sc : List Int} {d : Nat} {Q : Vv → MM → Prop} (v1 : Int) (v2 : Int) (v3 : Int) (v4 : Int) (v5 : Int) (o6 : Option Vv) (o7 : Option Vv) (o8 : Option Vv) (o9 : Option Vv) (o10 : Option Vv) (s0 : Int) (M : MM) (h : brA (decide (v3 ≠ v1))
  (WP FF sc YF (d + 1) m_X12_laysRotas 39 [] [some (vr 81), some (vi v1), some (vi v2), some (vi v3), some (vi v4), some (vi v5), some (vl s0), none, some (vi 1000000000), some (vi 0), o10] M Q)
  (CA FF sc YF d m_X12_differs [vr 81, vi v4] M (cI fun r2 M1 =>
   WP FF sc YF (d + 1) m_X12_laysRotas 39 [] [some (vr 81), some (vi v1), some (vi v2), some (vi v3), some (vi v4), some (vi v5), some (vl s0), none, some (vi r2), some (vi 0), o10] M1 Q))) : WP FF sc YF (d + 1) m_X12_laysRotas 27 [vl s0] [some (vr 81), some (vi v1), some (vi v2), some (vi v3), some (vi v4), some (vi v5), o6, o7, o8, o9, o10] M Q := wp_go rfl (fun j => Nat.beq j 9 || Nat.beq j 13 || Nat.beq j 18 || Nat.beq j 27 || Nat.beq j 39 || Nat.beq j 96 || Nat.beq j 110) 131 h
theorem rg_X12_laysRotas_39 {sc : List Int} {d : Nat} {Q : Vv → MM → Prop} (v1 : Int) (v2 : Int) (v3 : Int) (v4 : Int) (v5 : Int) (v6 : Int) (v8 : Int) (v9 : Int) (o10 : Option Vv) (M : MM) (h : brA (decide ((M 81 57) ≤ v9))
  (WP FF sc YF (d + 1) m_X12_laysRotas 96 [] [some (vr 81), some (vi v1), some (vi v2), some (vi v3), some (vi v4), some (vi v5), some (vl v6), none, some (vi v8), some (vi v9), o10] M Q)
  (brA (decide (v1 ≤ v3))
   (WP FF sc YF (d + 1) m_X12_laysRotas 96 [] [some (vr 81), some (vi v1), some (vi v2), some (vi v3), some (vi v4), some (vi v5), some (vl v6), none, some (vi v8), some (vi v9), o10] M Q)
   (CA FF sc YF d m_X12_sumOf [vr 81, vi v4] M (cI fun r2 M1 =>
    brA (decide (r2 ≠ v3))
     (WP FF sc YF (d + 1) m_X12_laysRotas 96 [] [some (vr 81), some (vi v1), some (vi v2), some (vi v3), some (vi v4), some (vi v5), some (vl v6), none, some (vi v8), some (vi v9), o10] M1 Q)
     (CA FF sc YF d m_X12_mayNext [vr 81, vi v3, vi v4, vi v5, vi v9] M1 (cI fun r4 M3 =>
      brA (decide (r4 ≠ 0))
       (CA FF sc YF d m_X12_rotaState [vi (w32 (v3 + 1)), vi (w32 (v4 + (bShl 1 (w32 (2 * v9))))), vi v9] M3 (cI fun r6 M5 =>
        gAnd (decide (0 ≤ r6) && decide (r6 < 92160)) (gAnd (decide (0 ≤ r6) && decide (r6 < 92160)) (brA (decide ((M5 116 r6.toNat) ≤ 0))
         (WP FF sc YF (d + 1) m_X12_laysRotas 39 [] [some (vr 81), some (vi v1), some (vi v2), some (vi v3), some (vi v4), some (vi v5), some (vl (w64 (v6 + (M5 116 r6.toNat)))), none, some (vi v8), some (vi (w32 (v9 + 1))), some (vi r6)] M5 Q)
         (gAnd (decide (0 ≤ r6) && decide (r6 < 92160)) (CA FF sc YF d m_X12_min [vi v8, vi (M5 117 r6.toNat)] M5 (cI fun r8 M7 =>
          WP FF sc YF (d + 1) m_X12_laysRotas 39 [] [some (vr 81), some (vi v1), some (vi v2), some (vi v3), some (vi v4), some (vi v5), some (vl (w64 (v6 + (M5 116 r6.toNat)))), none, some (vi r8), some (vi (w32 (v9 + 1))), some (vi r6)] M7 Q)))))))
       (WP FF sc YF (d + 1) m_X12_laysRotas 39 [] [some (vr 81), some (vi v1), some (vi v2), some (vi v3), some (vi v4), some (vi v5), some (vl v6), none, some (vi v8), some (vi (w32 (v9 + 1))), o10] M3 Q))))))) : WP FF sc YF (d + 1) m_X12_laysRotas 39 [] [some (vr 81), some (vi v1), some (vi v2), some (vi v3), some (vi v4), some (vi v5), some (vl v6), none, some (vi v8), some (vi v9), o10] M Q := wp_go rfl (fun j => Nat.beq j 9 || Nat.beq j 13 || Nat.beq j 18 || Nat.beq j 27 || Nat.beq j 39 || Nat.beq j 96 || Nat.beq j 110) 131 h
theorem rg_X12_laysRotas_96 {sc : List Int} {d : Nat} {Q : Vv → MM → Prop} (v1 : Int) (v2 : Int) (v3 : Int) (v4 : Int) (v5 : Int) (v6 : Int) (v8 : Int) (v9 : Int) (o10 : Option Vv) (M : MM) (h : CA FF sc YF d m_X12_rotaState [vi v3, vi v4, vi v5] M (cI fun r2 M1 =>
  brA (decide ((lcm3 v6 1000000000) ≤ 0))
   (WP FF sc YF (d + 1) m_X12_laysRotas 110 [vi (w32 v6), vi r2, vr 116] [some (vr 81), some (vi v1), some (vi v2), some (vi v3), some (vi v4), some (vi v5), some (vl v6), none, some (vi v8), some (vi v9), o10] M1 Q)
   (WP FF sc YF (d + 1) m_X12_laysRotas 110 [vi 1000000000, vi r2, vr 116] [some (vr 81), some (vi v1), some (vi v2), some (vi v3), some (vi v4), some (vi v5), some (vl v6), none, some (vi v8), some (vi v9), o10] M1 Q))) : WP FF sc YF (d + 1) m_X12_laysRotas 96 [] [some (vr 81), some (vi v1), some (vi v2), some (vi v3), some (vi v4), some (vi v5), some (vl v6), none, some (vi v8), some (vi v9), o10] M Q := wp_go rfl (fun j => Nat.beq j 9 || Nat.beq j 13 || Nat.beq j 18 || Nat.beq j 27 || Nat.beq j 39 || Nat.beq j 96 || Nat.beq j 110) 131 h
theorem rg_X12_laysRotas_110 {sc : List Int} {d : Nat} {Q : Vv → MM → Prop} (v1 : Int) (v2 : Int) (v3 : Int) (v4 : Int) (v5 : Int) (v6 : Int) (v8 : Int) (v9 : Int) (o10 : Option Vv) (s0 : Nat) (s1 : Int) (s2 : Int) (M : MM) (h : gAnd ((kd YF s0 == 0) && (decide (0 ≤ s1) && decide (s1 < ln YF s0))) (CA FF sc YF d m_X12_rotaState [vi v3, vi v4, vi v5] (stM M s0 (s1.toNat) s2) (cI fun r2 M1 =>
  gAnd (decide (0 ≤ r2) && decide (r2 < 92160)) (WP FF sc YF (d + 1) m_X12_laysRotas 18 [] [some (vr 81), some (vi v1), some (vi v2), some (vi v3), some (vi v4), some (vi (w32 (v5 + 1))), some (vl v6), none, some (vi v8), some (vi v9), o10] (stM M1 117 (r2.toNat) v8) Q)))) : WP FF sc YF (d + 1) m_X12_laysRotas 110 [vi s2, vi s1, vr s0] [some (vr 81), some (vi v1), some (vi v2), some (vi v3), some (vi v4), some (vi v5), some (vl v6), none, some (vi v8), some (vi v9), o10] M Q := wp_go rfl (fun j => Nat.beq j 9 || Nat.beq j 13 || Nat.beq j 18 || Nat.beq j 27 || Nat.beq j 39 || Nat.beq j 96 || Nat.beq j 110) 131 h
theorem ca_X12_firstIn {sc : List Int} {d : Nat} {Q : Vv → MM → Prop} (v1 : Int) (M : MM) (h : WP FF sc YF (d + 1) m_X12_firstIn 6 [] [some (vr 81), some (vi v1), some (vi 0), some (vi 5), some (vi 0), none] M Q) : CA FF sc YF (d + 1) m_X12_firstIn [vr 81, vi v1] M Q := ca_go rfl rfl (fun j => Nat.beq j 6 || Nat.beq j 11) 61 h
theorem rg_X12_firstIn_6 {sc : List Int} {d : Nat} {Q : Vv → MM → Prop} (v1 : Int) (v2 : Int) (v3 : Int) (v4 : Int) (o5 : Option Vv) (M : MM) (h : brA (decide (v1 < v4))
  (gAnd (decide (0 ≤ v3) && decide (v3 < 5)) (Q (vi (M 118 v3.toNat)) M))
  (WP FF sc YF (d + 1) m_X12_firstIn 11 [] [some (vr 81), some (vi v1), some (vi v2), some (vi v3), some (vi v4), some (vi 0)] M Q)) : WP FF sc YF (d + 1) m_X12_firstIn 6 [] [some (vr 81), some (vi v1), some (vi v2), some (vi v3), some (vi v4), o5] M Q := wp_go rfl (fun j => Nat.beq j 6 || Nat.beq j 11) 61 h
theorem rg_X12_firstIn_11 {sc : List Int} {d : Nat} {Q : Vv → MM → Prop} (v1 : Int) (v2 : Int) (v3 : Int) (v4 : Int) (v5 : Int) (M : MM) (h : CA FF sc YF d m_X12_mayNext [vr 81, vi v4, vi v2, vi v3, vi v5] M (cI fun r2 M1 =>
  brA (decide (r2 = 0))
   (WP FF sc YF (d + 1) m_X12_firstIn 11 [] [some (vr 81), some (vi v1), some (vi v2), some (vi v3), some (vi v4), some (vi (w32 (v5 + 1)))] M1 Q)
   (CA FF sc YF d m_X12_rotaState [vi (w32 (v4 + 1)), vi (w32 (v2 + (bShl 1 (w32 (2 * v5))))), vi v5] M1 (cI fun r4 M3 =>
    gAnd (decide (0 ≤ r4) && decide (r4 < 92160)) (brA (decide ((M3 116 r4.toNat) ≠ 0))
     (WP FF sc YF (d + 1) m_X12_firstIn 6 [] [some (vr 81), some (vi v1), some (vi (w32 (v2 + (bShl 1 (w32 (2 * v5)))))), some (vi v5), some (vi (w32 (v4 + 1))), some (vi v5)] M3 Q)
     (WP FF sc YF (d + 1) m_X12_firstIn 11 [] [some (vr 81), some (vi v1), some (vi v2), some (vi v3), some (vi v4), some (vi (w32 (v5 + 1)))] M3 Q)))))) : WP FF sc YF (d + 1) m_X12_firstIn 11 [] [some (vr 81), some (vi v1), some (vi v2), some (vi v3), some (vi v4), some (vi v5)] M Q := wp_go rfl (fun j => Nat.beq j 6 || Nat.beq j 11) 61 h
theorem ca_X12_mayNext {sc : List Int} {d : Nat} {Q : Vv → MM → Prop} (v1 : Int) (v2 : Int) (v3 : Int) (v4 : Int) (M : MM) (h : brA (decide (v4 = v3))
  (Q (vi 0) M)
  (CA FF sc YF d m_X12_countIn [vi v2, vi v4] M (cI fun r2 M1 =>
   brA (decide ((M1 81 58) ≤ r2))
    (Q (vi 0) M1)
    (gAnd (decide (0 ≤ v4) && decide (v4 < 5)) (CA FF sc YF d m_X12_mayHaunt [vr 81, vi (M1 118 v4.toNat), vi (w32 ((M1 82 34) + v1))] M1 (cI fun r4 M3 =>
     brA (decide (r4 = 0))
      (Q (vi 0) M3)
      (Q (vi 1) M3))))))) : CA FF sc YF (d + 1) m_X12_mayNext [vr 81, vi v1, vi v2, vi v3, vi v4] M Q := ca_go rfl rfl (fun j => false) 31 h
theorem ca_X12_sumOf {sc : List Int} {d : Nat} {Q : Vv → MM → Prop} (v1 : Int) (M : MM) (h : WP FF sc YF (d + 1) m_X12_sumOf 4 [] [some (vr 81), some (vi v1), some (vi 0), some (vi 0)] M Q) : CA FF sc YF (d + 1) m_X12_sumOf [vr 81, vi v1] M Q := ca_go rfl rfl (fun j => Nat.beq j 4) 23 h
theorem rg_X12_sumOf_4 {sc : List Int} {d : Nat} {Q : Vv → MM → Prop} (v1 : Int) (v2 : Int) (v3 : Int) (M : MM) (h : brA (decide ((M 81 57) ≤ v3))
  (Q (vi v2) M)
  (CA FF sc YF d m_X12_countIn [vi v1, vi v3] M (cI fun r2 M1 =>
   WP FF sc YF (d + 1) m_X12_sumOf 4 [] [some (vr 81), some (vi v1), some (vi (w32 (v2 + r2))), some (vi (w32 (v3 + 1)))] M1 Q))) : WP FF sc YF (d + 1) m_X12_sumOf 4 [] [some (vr 81), some (vi v1), some (vi v2), some (vi v3)] M Q := wp_go rfl (fun j => Nat.beq j 4) 23 h
theorem ca_X10_closeGroup {sc : List Int} {d : Nat} {Q : Vv → MM → Prop}  (M : MM) (h : gAnd (decide (0 ≤ ((stM M 3 9 (w32 ((M 3 9) - 1))) 3 9)) && decide (((stM M 3 9 (w32 ((M 3 9) - 1))) 3 9) < 3)) (gAnd (decide (0 ≤ ((stM M 3 9 (w32 ((M 3 9) - 1))) 3 9)) && decide (((stM M 3 9 (w32 ((M 3 9) - 1))) 3 9) < 3)) (brA (decide ((w32 (((stM M 3 9 (w32 ((M 3 9) - 1))) 3 8) + (w32 ((w32 (((stM M 3 9 (w32 ((M 3 9) - 1))) 3 8) - ((stM M 3 9 (w32 ((M 3 9) - 1))) 21 ((stM M 3 9 (w32 ((M 3 9) - 1))) 3 9).toNat))) * (w32 (((stM M 3 9 (w32 ((M 3 9) - 1))) 20 ((stM M 3 9 (w32 ((M 3 9) - 1))) 3 9).toNat) - 1)))))) ≤ 60))
  (WP FF sc YF (d + 1) m_X10_closeGroup 41 [] [some (vr 3), some (vi ((stM M 3 9 (w32 ((M 3 9) - 1))) 21 ((stM M 3 9 (w32 ((M 3 9) - 1))) 3 9).toNat)), some (vi (w32 ((w32 (((stM M 3 9 (w32 ((M 3 9) - 1))) 3 8) - ((stM M 3 9 (w32 ((M 3 9) - 1))) 21 ((stM M 3 9 (w32 ((M 3 9) - 1))) 3 9).toNat))) * (w32 (((stM M 3 9 (w32 ((M 3 9) - 1))) 20 ((stM M 3 9 (w32 ((M 3 9) - 1))) 3 9).toNat) - 1))))), some (vi 0)] (stM M 3 9 (w32 ((M 3 9) - 1))) Q)
  (gAnd (decide (0 ≤ ((stM M 3 9 (w32 ((M 3 9) - 1))) 3 9)) && decide (((stM M 3 9 (w32 ((M 3 9) - 1))) 3 9) < 3)) (CA FF sc YF d m_X11_faultAt [vi 6, vi ((stM M 3 9 (w32 ((M 3 9) - 1))) 19 ((stM M 3 9 (w32 ((M 3 9) - 1))) 3 9).toNat)] (stM M 3 9 (w32 ((M 3 9) - 1))) (cI fun r2 M1 =>
   Q (vi r2) M1)))))) : CA FF sc YF (d + 1) m_X10_closeGroup [vr 3] M Q := ca_go rfl rfl (fun j => Nat.beq j 41) 70 h
theorem rg_X10_closeGroup_41 {sc : List Int} {d : Nat} {Q : Vv → MM → Prop} (v1 : Int) (v2 : Int) (v3 : Int) (M : MM) (h : brA (decide (v2 ≤ v3))
  (Q (vi 0) M)
  (gAnd (decide (0 ≤ (w32 (v1 + v3))) && decide ((w32 (v1 + v3)) < 60)) (gAnd (decide (0 ≤ (M 3 8)) && decide ((M 3 8) < 60)) (WP FF sc YF (d + 1) m_X10_closeGroup 41 [] [some (vr 3), some (vi v1), some (vi v2), some (vi (w32 (v3 + 1)))] (stM (stM M 18 ((M 3 8).toNat) (M 18 (w32 (v1 + v3)).toNat)) 3 8 (w32 (((stM M 18 ((M 3 8).toNat) (M 18 (w32 (v1 + v3)).toNat)) 3 8) + 1))) Q)))) : WP FF sc YF (d + 1) m_X10_closeGroup 41 [] [some (vr 3), some (vi v1), some (vi v2), some (vi v3)] M Q := wp_go rfl (fun j => Nat.beq j 41) 70 h
theorem ca_X10_openGroup {sc : List Int} {d : Nat} {Q : Vv → MM → Prop} (v1 : Int) (v2 : Int) (v3 : Int) (M : MM) (h : brA (decide ((M 3 9) < 3))
  (gAnd (decide (0 ≤ (M 3 9)) && decide ((M 3 9) < 3)) (gAnd (decide (0 ≤ ((stM M 20 ((M 3 9).toNat) v1) 3 9)) && decide (((stM M 20 ((M 3 9).toNat) v1) 3 9) < 3)) (gAnd (decide (0 ≤ ((stM (stM M 20 ((M 3 9).toNat) v1) 19 (((stM M 20 ((M 3 9).toNat) v1) 3 9).toNat) v2) 3 9)) && decide (((stM (stM M 20 ((M 3 9).toNat) v1) 19 (((stM M 20 ((M 3 9).toNat) v1) 3 9).toNat) v2) 3 9) < 3)) (Q (vi 0) (stM (stM (stM (stM (stM M 20 ((M 3 9).toNat) v1) 19 (((stM M 20 ((M 3 9).toNat) v1) 3 9).toNat) v2) 21 (((stM (stM M 20 ((M 3 9).toNat) v1) 19 (((stM M 20 ((M 3 9).toNat) v1) 3 9).toNat) v2) 3 9).toNat) ((stM (stM M 20 ((M 3 9).toNat) v1) 19 (((stM M 20 ((M 3 9).toNat) v1) 3 9).toNat) v2) 3 8)) 3 9 (w32 (((stM (stM (stM M 20 ((M 3 9).toNat) v1) 19 (((stM M 20 ((M 3 9).toNat) v1) 3 9).toNat) v2) 21 (((stM (stM M 20 ((M 3 9).toNat) v1) 19 (((stM M 20 ((M 3 9).toNat) v1) 3 9).toNat) v2) 3 9).toNat) ((stM (stM M 20 ((M 3 9).toNat) v1) 19 (((stM M 20 ((M 3 9).toNat) v1) 3 9).toNat) v2) 3 8)) 3 9) + 1))) 3 12 1)))))
  (CA FF sc YF d m_X11_faultAt [vi 5, vi v3] M (cI fun r2 M1 =>
   Q (vi r2) M1))) : CA FF sc YF (d + 1) m_X10_openGroup [vr 3, vi v1, vi v2, vi v3] M Q := ca_go rfl rfl (fun j => false) 43 h
theorem ca_X10_addStep {sc : List Int} {d : Nat} {Q : Vv → MM → Prop} (v1 : Int) (v2 : Int) (v3 : Int) (M : MM) (h : brA (decide ((w32 ((M 3 8) + v2)) ≤ 60))
  (WP FF sc YF (d + 1) m_X10_addStep 12 [] [some (vr 3), some (vi v1), some (vi v2), some (vi v3), some (vi 0)] M Q)
  (CA FF sc YF d m_X11_faultAt [vi 6, vi v3] M (cI fun r2 M1 =>
   Q (vi r2) M1))) : CA FF sc YF (d + 1) m_X10_addStep [vr 3, vi v1, vi v2, vi v3] M Q := ca_go rfl rfl (fun j => Nat.beq j 12) 39 h
theorem rg_X10_addStep_12 {sc : List Int} {d : Nat} {Q : Vv → MM → Prop} (v1 : Int) (v2 : Int) (v3 : Int) (v4 : Int) (M : MM) (h : brA (decide (v2 ≤ v4))
  (Q (vi 0) (stM M 3 12 0))
  (gAnd (decide (0 ≤ (M 3 8)) && decide ((M 3 8) < 60)) (WP FF sc YF (d + 1) m_X10_addStep 12 [] [some (vr 3), some (vi v1), some (vi v2), some (vi v3), some (vi (w32 (v4 + 1)))] (stM (stM M 18 ((M 3 8).toNat) v1) 3 8 (w32 (((stM M 18 ((M 3 8).toNat) v1) 3 8) + 1))) Q))) : WP FF sc YF (d + 1) m_X10_addStep 12 [] [some (vr 3), some (vi v1), some (vi v2), some (vi v3), some (vi v4)] M Q := wp_go rfl (fun j => Nat.beq j 12) 39 h
theorem ca_X10_take {sc : List Int} {d : Nat} {Q : Vv → MM → Prop} (v1 : Int) (v2 : Int) (M : MM) (h : brA (decide ((M 3 10) ≠ 0))
  (brA (decide ((M 3 10) ≠ 0))
   (WP FF sc YF (d + 1) m_X10_take 26 [vi (M 3 11)] [some (vr 3), some (vi v1), some (vi v2), none, none, none] M Q)
   (WP FF sc YF (d + 1) m_X10_take 26 [vi v2] [some (vr 3), some (vi v1), some (vi v2), none, none, none] M Q))
  (brA (decide (v1 < 50))
   (brA (decide ((M 3 10) ≠ 0))
    (WP FF sc YF (d + 1) m_X10_take 26 [vi (M 3 11)] [some (vr 3), some (vi v1), some (vi v2), none, none, none] M Q)
    (WP FF sc YF (d + 1) m_X10_take 26 [vi v2] [some (vr 3), some (vi v1), some (vi v2), none, none, none] M Q))
   (brA (decide (57 < v1))
    (brA (decide ((M 3 10) ≠ 0))
     (WP FF sc YF (d + 1) m_X10_take 26 [vi (M 3 11)] [some (vr 3), some (vi v1), some (vi v2), none, none, none] M Q)
     (WP FF sc YF (d + 1) m_X10_take 26 [vi v2] [some (vr 3), some (vi v1), some (vi v2), none, none, none] M Q))
    (Q (vi 0) (stM (stM M 3 10 (w32 (v1 - 48))) 3 11 v2))))) : CA FF sc YF (d + 1) m_X10_take [vr 3, vi v1, vi v2] M Q := ca_go rfl rfl (fun j => Nat.beq j 26) 83 h
theorem rg_X10_take_26 {sc : List Int} {d : Nat} {Q : Vv → MM → Prop} (v1 : Int) (v2 : Int) (o3 : Option Vv) (o4 : Option Vv) (o5 : Option Vv) (s0 : Int) (M : MM) (h : CA FF sc YF d m_X10_stepOf [vi v1] M (cI fun r2 M1 =>
  brA (decide (r2 = ((-1))))
   (brA (decide (v1 ≠ 40))
    (brA (decide (v1 ≠ 41))
     (CA FF sc YF d m_X11_faultAt [vi 1, vi v2] M1 (cI fun r4 M3 =>
      Q (vi r4) M3))
     (brA (decide ((M1 3 10) ≠ 0))
      (CA FF sc YF d m_X11_faultAt [vi 1, vi v2] M1 (cI fun r6 M5 =>
       Q (vi r6) M5))
      (brA (decide ((M1 3 9) ≤ 0))
       (CA FF sc YF d m_X11_faultAt [vi 1, vi v2] M1 (cI fun r8 M7 =>
        Q (vi r8) M7))
       (brA (decide ((M1 3 12) ≠ 0))
        (CA FF sc YF d m_X11_faultAt [vi 1, vi v2] M1 (cI fun r10 M9 =>
         Q (vi r10) M9))
        (CA FF sc YF d m_X10_closeGroup [vr 3] M1 (cI fun r12 M11 =>
         Q (vi r12) M11))))))
    (CA FF sc YF d m_X10_openGroup [vr 3, vi (mMax (M 3 10) 1), vi s0, vi v2] (stM M1 3 10 0) (cI fun r14 M13 =>
     Q (vi r14) M13)))
   (CA FF sc YF d m_X10_addStep [vr 3, vi r2, vi (mMax (M 3 10) 1), vi s0] (stM M1 3 10 0) (cI fun r16 M15 =>
    Q (vi r16) M15)))) : WP FF sc YF (d + 1) m_X10_take 26 [vi s0] [some (vr 3), some (vi v1), some (vi v2), o3, o4, o5] M Q := wp_go rfl (fun j => Nat.beq j 26) 83 h
theorem ca_X10_read {sc : List Int} {d : Nat} {Q : Vv → MM → Prop} (v2 : Int) (v3 : Int) (M : MM) (h : WP FF sc YF (d + 1) m_X10_read 14 [] [some (vr 3), some (vr 1), some (vi v2), some (vi v3), some (vi 0), none] (stM (stM (stM (stM M 3 8 0) 3 9 0) 3 10 0) 3 12 0) Q) : CA FF sc YF (d + 1) m_X10_read [vr 3, vr 1, vi v2, vi v3] M Q := ca_go rfl rfl (fun j => Nat.beq j 14 || Nat.beq j 42) 72 h
theorem rg_X10_read_14 {sc : List Int} {d : Nat} {Q : Vv → MM → Prop} (v2 : Int) (v3 : Int) (v4 : Int) (o5 : Option Vv) (M : MM) (h : brA (decide (v2 ≤ v4))
  (brA (decide ((M 3 10) ≠ 0))
   (CA FF sc YF d m_X11_faultAt [vi 1, vi v2] M (cI fun r2 M1 =>
    Q (vi r2) M1))
   (brA (decide ((M 3 9) ≤ 0))
    (WP FF sc YF (d + 1) m_X10_read 42 [] [some (vr 3), some (vr 1), some (vi v2), some (vi v3), some (vi 0), o5] M Q)
    (CA FF sc YF d m_X11_faultAt [vi 1, vi v2] M (cI fun r4 M3 =>
     Q (vi r4) M3))))
  (CA FF sc YF d m_X7_at [vr 1, vi v4] M (cI fun r6 M5 =>
   CA FF sc YF d m_X10_take [vr 3, vi r6, vi v4] M5 (cI fun r8 M7 =>
    brA (decide (0 ≤ r8))
     (WP FF sc YF (d + 1) m_X10_read 14 [] [some (vr 3), some (vr 1), some (vi v2), some (vi v3), some (vi (w32 (v4 + 1))), some (vi r8)] M7 Q)
     (Q (vi r8) M7))))) : WP FF sc YF (d + 1) m_X10_read 14 [] [some (vr 3), some (vr 1), some (vi v2), some (vi v3), some (vi v4), o5] M Q := wp_go rfl (fun j => Nat.beq j 14 || Nat.beq j 42) 72 h
theorem rg_X10_read_42 {sc : List Int} {d : Nat} {Q : Vv → MM → Prop} (v2 : Int) (v3 : Int) (v4 : Int) (o5 : Option Vv) (M : MM) (h : brA (decide ((M 3 8) ≤ v4))
  (gAnd (decide (0 ≤ v3) && decide (v3 < 10)) (Q (vi ((stM M 4 (v3.toNat) (M 3 8)) 3 8)) (stM M 4 (v3.toNat) (M 3 8))))
  (gAnd (decide (0 ≤ v3) && (decide (v3 < 10) && rfK (FF 5 v3.toNat) (M 5 v3.toNat))) (gAnd (decide (0 ≤ v4) && decide (v4 < 60)) (gAnd ((kd YF (rfO (FF 5 v3.toNat) (M 5 v3.toNat)) == 0) && (decide (0 ≤ v4) && decide (v4 < ln YF (rfO (FF 5 v3.toNat) (M 5 v3.toNat))))) (WP FF sc YF (d + 1) m_X10_read 42 [] [some (vr 3), some (vr 1), some (vi v2), some (vi v3), some (vi (w32 (v4 + 1))), o5] (stM M (rfO (FF 5 v3.toNat) (M 5 v3.toNat)) (v4.toNat) (M 18 v4.toNat)) Q))))) : WP FF sc YF (d + 1) m_X10_read 42 [] [some (vr 3), some (vr 1), some (vi v2), some (vi v3), some (vi v4), o5] M Q := wp_go rfl (fun j => Nat.beq j 14 || Nat.beq j 42) 72 h
theorem ca_X7_hasText {sc : List Int} {d : Nat} {Q : Vv → MM → Prop} (v1 : Int) (v2 : Int) (M : MM) (h : brA (decide (v1 < 1))
  (Q (vi 0) M)
  (brA (decide (v2 < v1))
   (Q (vi 0) M)
   (brA (decide ((M 1 1) < v1))
    (Q (vi 0) M)
    (Q (vi 1) M)))) : CA FF sc YF (d + 1) m_X7_hasText [vr 1, vi v1, vi v2] M Q := ca_go rfl rfl (fun j => false) 19 h
theorem ca_X7_at {sc : List Int} {d : Nat} {Q : Vv → MM → Prop} (v1 : Int) (M : MM) (h : brA (decide (v1 < 0))
  (Q (vi ((-1))) M)
  (brA (decide ((M 1 1) ≤ v1))
   (Q (vi ((-1))) M)
   (gAnd (decide (0 ≤ v1) && decide (v1 < 260)) (Q (vi (M 2 v1.toNat)) M)))) : CA FF sc YF (d + 1) m_X7_at [vr 1, vi v1] M Q := ca_go rfl rfl (fun j => false) 18 h
theorem ca_X7_empty {sc : List Int} {d : Nat} {Q : Vv → MM → Prop}  (M : MM) (h : Q (vi 0) (stM M 1 1 0)) : CA FF sc YF (d + 1) m_X7_empty [vr 1] M Q := ca_go rfl rfl (fun j => false) 9 h
theorem ca_X6_read {sc : List Int} {d : Nat} {Q : Vv → MM → Prop} (v2 : Int) (v3 : Nat) (M : MM) (h : WP FF sc YF (d + 1) m_X6_read 5 [] [some (vr 37), some (vr 1), some (vi v2), some (vr v3), some (vi 0)] (stM M 37 3 v2) Q) : CA FF sc YF (d + 1) m_X6_read [vr 37, vr 1, vi v2, vr v3] M Q := ca_go rfl rfl (fun j => Nat.beq j 5) 64 h
theorem rg_X6_read_5 {sc : List Int} {d : Nat} {Q : Vv → MM → Prop} (v2 : Int) (v3 : Nat) (v4 : Int) (M : MM) (h : brA (decide (v2 ≤ v4))
  (Q (vi 1) M)
  (CA FF sc YF d m_X7_at [vr 1, vi (w32 (2 * v4))] M (cI fun r2 M1 =>
   gAnd (decide (0 ≤ v4) && decide (v4 < 10)) (CA FF sc YF d m_X7_at [vr 1, vi (w32 ((w32 (2 * v4)) + 1))] (stM M1 38 (v4.toNat) r2) (cI fun r4 M3 =>
    gAnd (decide (0 ≤ v4) && decide (v4 < 10)) (gAnd (decide (0 ≤ v4) && decide (v4 < 10)) (gAnd (decide (0 ≤ v4) && decide (v4 < 10)) (gAnd (kd YF v3 == 18) (CA FF sc YF d m_X9_isWall [vr v3, vi ((stM (stM M3 39 (v4.toNat) r4) 40 (v4.toNat) 0) 39 v4.toNat)] (stM (stM M3 39 (v4.toNat) r4) 40 (v4.toNat) 0) (cI fun r6 M5 =>
     brA (decide (r6 ≠ 0))
      (Q (vi 0) M5)
      (brA (decide (v4 ≤ 0))
       (WP FF sc YF (d + 1) m_X6_read 5 [] [some (vr 37), some (vr 1), some (vi v2), some (vr v3), some (vi (w32 (v4 + 1)))] M5 Q)
       (gAnd (decide (0 ≤ v4) && decide (v4 < 10)) (gAnd (decide (0 ≤ (w32 (v4 - 1))) && decide ((w32 (v4 - 1)) < 10)) (brA (decide ((M5 38 (w32 (v4 - 1)).toNat) ≤ (M5 38 v4.toNat)))
        (WP FF sc YF (d + 1) m_X6_read 5 [] [some (vr 37), some (vr 1), some (vi v2), some (vr v3), some (vi (w32 (v4 + 1)))] M5 Q)
        (Q (vi 0) M5))))))))))))))) : WP FF sc YF (d + 1) m_X6_read 5 [] [some (vr 37), some (vr 1), some (vi v2), some (vr v3), some (vi v4)] M Q := wp_go rfl (fun j => Nat.beq j 5) 64 h
theorem ca_X6_link {sc : List Int} {d : Nat} {Q : Vv → MM → Prop} (v1 : Nat) (M : MM) (h : WP FF sc YF (d + 1) m_X6_link 2 [] [some (vr 37), some (vr v1), some (vr 32), some (vi 0), none, none] M Q) : CA FF sc YF (d + 1) m_X6_link [vr 37, vr v1, vr 32] M Q := ca_go rfl rfl (fun j => Nat.beq j 2 || Nat.beq j 17) 73 h
theorem rg_X6_link_2 {sc : List Int} {d : Nat} {Q : Vv → MM → Prop} (v1 : Nat) (v3 : Int) (o4 : Option Vv) (o5 : Option Vv) (M : MM) (h : brA (decide ((M 37 3) ≤ v3))
  (Q (vi 0) M)
  (gAnd (decide (0 ≤ v3) && decide (v3 < 10)) (CA FF sc YF d m_X3_measure [vr 32, vr v1, vi (M 39 v3.toNat)] M (fun _ M1 =>
   WP FF sc YF (d + 1) m_X6_link 17 [] [some (vr 37), some (vr v1), some (vr 32), some (vi v3), some (vi (w32 (v3 + 1))), o5] M1 Q)))) : WP FF sc YF (d + 1) m_X6_link 2 [] [some (vr 37), some (vr v1), some (vr 32), some (vi v3), o4, o5] M Q := wp_go rfl (fun j => Nat.beq j 2 || Nat.beq j 17) 73 h
theorem rg_X6_link_17 {sc : List Int} {d : Nat} {Q : Vv → MM → Prop} (v1 : Nat) (v3 : Int) (v4 : Int) (o5 : Option Vv) (M : MM) (h : brA (decide ((M 37 3) ≤ v4))
  (WP FF sc YF (d + 1) m_X6_link 2 [] [some (vr 37), some (vr v1), some (vr 32), some (vi (w32 (v3 + 1))), some (vi v4), o5] M Q)
  (gAnd (decide (0 ≤ v4) && decide (v4 < 10)) (gAnd (decide (0 ≤ (M 39 v4.toNat)) && decide ((M 39 v4.toNat) < 64)) (brA (decide ((M 33 (M 39 v4.toNat).toNat) = ((-1))))
   (WP FF sc YF (d + 1) m_X6_link 17 [] [some (vr 37), some (vr v1), some (vr 32), some (vi v3), some (vi (w32 (v4 + 1))), some (vi (M 33 (M 39 v4.toNat).toNat))] M Q)
   (gAnd (decide (0 ≤ v4) && decide (v4 < 10)) (gAnd (decide (0 ≤ v3) && decide (v3 < 10)) (brA (decide ((w32 ((M 38 v4.toNat) - (M 38 v3.toNat))) < (M 33 (M 39 v4.toNat).toNat)))
    (WP FF sc YF (d + 1) m_X6_link 17 [] [some (vr 37), some (vr v1), some (vr 32), some (vi v3), some (vi (w32 (v4 + 1))), some (vi (M 33 (M 39 v4.toNat).toNat))] M Q)
    (gAnd (decide (0 ≤ v3) && decide (v3 < 10)) (gAnd (decide (0 ≤ v3) && decide (v3 < 10)) (gAnd (decide (0 ≤ v4) && decide (v4 < 10)) (gAnd (decide (0 ≤ v4) && decide (v4 < 10)) (WP FF sc YF (d + 1) m_X6_link 17 [] [some (vr 37), some (vr v1), some (vr 32), some (vi v3), some (vi (w32 (v4 + 1))), some (vi (M 33 (M 39 v4.toNat).toNat))] (stM (stM M 40 (v3.toNat) (bOr (M 40 v3.toNat) (bShl 1 v4))) 40 (v4.toNat) (bOr ((stM M 40 (v3.toNat) (bOr (M 40 v3.toNat) (bShl 1 v4))) 40 v4.toNat) (bShl 1 v3))) Q)))))))))))) : WP FF sc YF (d + 1) m_X6_link 17 [] [some (vr 37), some (vr v1), some (vr 32), some (vi v3), some (vi v4), o5] M Q := wp_go rfl (fun j => Nat.beq j 2 || Nat.beq j 17) 73 h
theorem ca_X6_fromWhere {sc : List Int} {d : Nat} {Q : Vv → MM → Prop} (v1 : Nat) (M : MM) (h : WP FF sc YF (d + 1) m_X6_fromWhere 2 [] [some (vr 37), some (vr v1), some (vr 32), some (vi 1), none, none] M Q) : CA FF sc YF (d + 1) m_X6_fromWhere [vr 37, vr v1, vr 32] M Q := ca_go rfl rfl (fun j => Nat.beq j 2 || Nat.beq j 30 || Nat.beq j 48) 73 h
theorem rg_X6_fromWhere_2 {sc : List Int} {d : Nat} {Q : Vv → MM → Prop} (v1 : Nat) (v3 : Int) (o4 : Option Vv) (o5 : Option Vv) (M : MM) (h : brA (decide ((M 37 3) ≤ v3))
  (CA FF sc YF d m_X3_measure [vr 32, vr v1, vi (M 39 0)] M (fun _ M1 =>
   WP FF sc YF (d + 1) m_X6_fromWhere 30 [] [some (vr 37), some (vr v1), some (vr 32), some (vi 0), some (vi 0), o5] M1 Q))
  (gAnd (decide (0 ≤ v3) && decide (v3 < 10)) (CA FF sc YF d m_X11_hasBit [vi (M 40 v3.toNat), vi (w32 (v3 - 1))] M (cI fun r3 M2 =>
   brA (decide (r3 ≠ 0))
    (WP FF sc YF (d + 1) m_X6_fromWhere 2 [] [some (vr 37), some (vr v1), some (vr 32), some (vi (w32 (v3 + 1))), o4, o5] M2 Q)
    (Q (vi 0) M2))))) : WP FF sc YF (d + 1) m_X6_fromWhere 2 [] [some (vr 37), some (vr v1), some (vr 32), some (vi v3), o4, o5] M Q := wp_go rfl (fun j => Nat.beq j 2 || Nat.beq j 30 || Nat.beq j 48) 73 h
theorem rg_X6_fromWhere_30 {sc : List Int} {d : Nat} {Q : Vv → MM → Prop} (v1 : Nat) (v3 : Int) (v4 : Int) (o5 : Option Vv) (M : MM) (h : brA (decide (10 ≤ v4))
  (Q (vi v3) M)
  (gAnd ((kd YF v1 == 18) && rfK (FF v1 1) (M v1 1)) (gAnd ((kd YF (rfO (FF v1 1) (M v1 1)) == 0) && (decide (0 ≤ v4) && decide (v4 < ln YF (rfO (FF v1 1) (M v1 1))))) (brA (decide ((M (rfO (FF v1 1) (M v1 1)) v4.toNat) ≠ ((-1))))
   (gAnd ((kd YF v1 == 18) && rfK (FF v1 1) (M v1 1)) (gAnd ((kd YF (rfO (FF v1 1) (M v1 1)) == 0) && (decide (0 ≤ v4) && decide (v4 < ln YF (rfO (FF v1 1) (M v1 1))))) (gAnd (decide (0 ≤ (M (rfO (FF v1 1) (M v1 1)) v4.toNat)) && decide ((M (rfO (FF v1 1) (M v1 1)) v4.toNat) < 64)) (WP FF sc YF (d + 1) m_X6_fromWhere 48 [vi (M 33 (M (rfO (FF v1 1) (M v1 1)) v4.toNat).toNat)] [some (vr 37), some (vr v1), some (vr 32), some (vi v3), some (vi v4), o5] M Q))))
   (WP FF sc YF (d + 1) m_X6_fromWhere 48 [vi ((-1))] [some (vr 37), some (vr v1), some (vr 32), some (vi v3), some (vi v4), o5] M Q))))) : WP FF sc YF (d + 1) m_X6_fromWhere 30 [] [some (vr 37), some (vr v1), some (vr 32), some (vi v3), some (vi v4), o5] M Q := wp_go rfl (fun j => Nat.beq j 2 || Nat.beq j 30 || Nat.beq j 48) 73 h
theorem rg_X6_fromWhere_48 {sc : List Int} {d : Nat} {Q : Vv → MM → Prop} (v1 : Nat) (v3 : Int) (v4 : Int) (o5 : Option Vv) (s0 : Int) (M : MM) (h : brA (decide (s0 = ((-1))))
  (WP FF sc YF (d + 1) m_X6_fromWhere 30 [] [some (vr 37), some (vr v1), some (vr 32), some (vi v3), some (vi (w32 (v4 + 1))), some (vi s0)] M Q)
  (brA (decide ((M 38 0) < s0))
   (WP FF sc YF (d + 1) m_X6_fromWhere 30 [] [some (vr 37), some (vr v1), some (vr 32), some (vi v3), some (vi (w32 (v4 + 1))), some (vi s0)] M Q)
   (WP FF sc YF (d + 1) m_X6_fromWhere 30 [] [some (vr 37), some (vr v1), some (vr 32), some (vi (bOr v3 (bShl 1 v4))), some (vi (w32 (v4 + 1))), some (vi s0)] M Q))) : WP FF sc YF (d + 1) m_X6_fromWhere 48 [vi s0] [some (vr 37), some (vr v1), some (vr 32), some (vi v3), some (vi v4), o5] M Q := wp_go rfl (fun j => Nat.beq j 2 || Nat.beq j 30 || Nat.beq j 48) 73 h
theorem ca_X11_quarter {sc : List Int} {d : Nat} {Q : Vv → MM → Prop} (v1 : Int) (M : MM) (h : CA FF sc YF d m_X7_hasText [vr 1, vi v1, vi 120] M (cI fun r2 M1 =>
  brA (decide (r2 ≠ 0))
   (gAnd (decide (0 < M1 0 11)) (gAnd (kd YF ((M1 0 11).toNat - 1) == 18) (CA FF sc YF d m_X9_read [vr ((M1 0 11).toNat - 1), vr 1, vi v1] M1 (cI fun r4 M3 =>
    CA FF sc YF d m_X7_empty [vr 1] M3 (fun _ M5 =>
     brA (decide (r4 < 0))
      (Q (vi r4) M5)
      (gAnd (decide (0 < M5 0 10)) (gAnd (decide (0 < M5 0 11)) (gAnd (decide (0 < (stM (stM M5 0 10 (((M5 0 11).toNat - 1 : Nat) + 1)) 0 11 (((M5 0 10).toNat - 1 : Nat) + 1)) 0 10)) (CA FF sc YF d m_X8_dropFromWalls [vr 46, vr (((stM (stM M5 0 10 (((M5 0 11).toNat - 1 : Nat) + 1)) 0 11 (((M5 0 10).toNat - 1 : Nat) + 1)) 0 10).toNat - 1)] (stM (stM M5 0 10 (((M5 0 11).toNat - 1 : Nat) + 1)) 0 11 (((M5 0 10).toNat - 1 : Nat) + 1)) (fun _ M6 =>
       Q (vi r4) M6))))))))))
   (Q (vi ((-1))) M1))) : CA FF sc YF (d + 1) m_X11_quarter [vr 0, vi v1] M Q := ca_go rfl rfl (fun j => false) 42 h
theorem ca_X11_law {sc : List Int} {d : Nat} {Q : Vv → MM → Prop} (v1 : Int) (M : MM) (h : CA FF sc YF d m_X7_hasText [vr 1, vi v1, vi 240] M (cI fun r2 M1 =>
  brA (decide (r2 ≠ 0))
   (gAnd (decide (0 < M1 0 13)) (CA FF sc YF d m_X1_read [vr 22, vr 1, vi v1, vr ((M1 0 13).toNat - 1)] M1 (cI fun r4 M3 =>
    CA FF sc YF d m_X7_empty [vr 1] M3 (fun _ M5 =>
     brA (decide (r4 < 0))
      (Q (vi r4) M5)
      (gAnd (decide (0 < M5 0 12)) (gAnd (decide (0 < M5 0 13)) (Q (vi r4) (stM (stM M5 0 12 (((M5 0 13).toNat - 1 : Nat) + 1)) 0 13 (((M5 0 12).toNat - 1 : Nat) + 1)))))))))
   (Q (vi ((-1))) M1))) : CA FF sc YF (d + 1) m_X11_law [vr 0, vi v1] M Q := ca_go rfl rfl (fun j => false) 39 h
theorem ca_X11_walk {sc : List Int} {d : Nat} {Q : Vv → MM → Prop} (v1 : Int) (v2 : Int) (M : MM) (h : CA FF sc YF d m_X11_isHouse [vi v1] M (cI fun r2 M1 =>
  brA (decide (r2 = 0))
   (Q (vi ((-1))) M1)
   (CA FF sc YF d m_X7_hasText [vr 1, vi v2, vi 80] M1 (cI fun r4 M3 =>
    brA (decide (r4 ≠ 0))
     (CA FF sc YF d m_X10_read [vr 3, vr 1, vi v2, vi v1] M3 (cI fun r6 M5 =>
      CA FF sc YF d m_X7_empty [vr 1] M5 (fun _ M7 =>
       Q (vi r6) M7)))
     (Q (vi ((-1))) M3))))) : CA FF sc YF (d + 1) m_X11_walk [vr 0, vi v1, vi v2] M Q := ca_go rfl rfl (fun j => false) 29 h
theorem ca_X11_sightings {sc : List Int} {d : Nat} {Q : Vv → MM → Prop} (v1 : Int) (v2 : Int) (M : MM) (h : CA FF sc YF d m_X11_isIn [vi v1, vi 1, vi 10] M (cI fun r2 M1 =>
  brA (decide (r2 = 0))
   (Q (vi ((-1))) M1)
   (CA FF sc YF d m_X11_isIn [vi v2, vi 0, vi 1] M1 (cI fun r4 M3 =>
    brA (decide (r4 = 0))
     (Q (vi ((-1))) M3)
     (brA (decide ((w32 (2 * v1)) ≤ (M3 1 1)))
      (gAnd (decide (0 < M3 0 10)) (CA FF sc YF d m_X6_read [vr 37, vr 1, vi v1, vr ((M3 0 10).toNat - 1)] M3 (cI fun r6 M5 =>
       CA FF sc YF d m_X7_empty [vr 1] M5 (fun _ M7 =>
        brA (decide (r6 ≠ 0))
         (gAnd (decide (0 < M7 0 10)) (CA FF sc YF d m_X6_link [vr 37, vr ((M7 0 10).toNat - 1), vr 32] M7 (fun _ M8 =>
          brA (decide (v2 ≠ 0))
           (gAnd (decide (0 < M8 0 10)) (CA FF sc YF d m_X6_fromWhere [vr 37, vr ((M8 0 10).toNat - 1), vr 32] M8 (cI fun r10 M9 =>
            Q (vi r10) M9)))
           (CA FF sc YF d m_X6_fewestGhosts [vr 37] M8 (cI fun r12 M11 =>
            Q (vi r12) M11)))))
         (Q (vi ((-2))) M7)))))
      (Q (vi ((-1))) M3)))))) : CA FF sc YF (d + 1) m_X11_sightings [vr 0, vi v1, vi v2] M Q := ca_go rfl rfl (fun j => false) 61 h
