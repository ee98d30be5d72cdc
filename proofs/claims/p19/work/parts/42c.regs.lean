/-! PART 42c: the readers of THE LAW -/
theorem ca_X12_isDigit {sc : List Int} {d : Nat} {Q : Vv → MM → Prop}  (M : MM) (h : CA FF sc YF d m_X12_here [vr 81] M (cI fun r2 M1 =>
  brA (decide (r2 < 48))
   (Q (vi 0) M1)
   (CA FF sc YF d m_X12_here [vr 81] M1 (cI fun r4 M3 =>
    brA (decide (57 < r4))
     (Q (vi 0) M3)
     (Q (vi 1) M3))))) : CA FF sc YF (d + 1) m_X12_isDigit [vr 81] M Q := ca_go rfl rfl (fun j => false) 17 h
theorem ca_X12_takes {sc : List Int} {d : Nat} {Q : Vv → MM → Prop} (v1 : Int) (M : MM) (h : CA FF sc YF d m_X12_here [vr 81] M (cI fun r2 M1 =>
  brA (decide (r2 = v1))
   (Q (vi 1) (stM M1 81 11 (w32 ((M1 81 11) + 1))))
   (CA FF sc YF d m_X12_wrongAt [vr 81, vi 1, vi (M1 81 11)] M1 (cI fun r4 M3 =>
    gAnd (decide (r4 = 0) || decide (r4 = 1)) (Q (vi r4) M3))))) : CA FF sc YF (d + 1) m_X12_takes [vr 81, vi v1] M Q := ca_go rfl rfl (fun j => false) 23 h
theorem ca_X12_readsNumber {sc : List Int} {d : Nat} {Q : Vv → MM → Prop}  (M : MM) (h : WP FF sc YF (d + 1) m_X12_readsNumber 6 [] [some (vr 81), some (vi (M 81 11))] (stM M 81 14 0) Q) : CA FF sc YF (d + 1) m_X12_readsNumber [vr 81] M Q := ca_go rfl rfl (fun j => Nat.beq j 6) 46 h
theorem rg_X12_readsNumber_6 {sc : List Int} {d : Nat} {Q : Vv → MM → Prop} (v1 : Int) (M : MM) (h : CA FF sc YF d m_X12_isDigit [vr 81] M (cI fun r2 M1 =>
  brA (decide (r2 = 0))
   (Q (vi 1) M1)
   (brA (decide ((M1 81 11) ≠ (w32 (v1 + 5))))
    (CA FF sc YF d m_X12_here [vr 81] M1 (cI fun r4 M3 =>
     WP FF sc YF (d + 1) m_X12_readsNumber 6 [] [some (vr 81), some (vi v1)] (stM (stM M3 81 14 (w32 ((w32 ((w32 (10 * (M1 81 14))) + r4)) - 48))) 81 11 (w32 (((stM M3 81 14 (w32 ((w32 ((w32 (10 * (M1 81 14))) + r4)) - 48))) 81 11) + 1))) Q))
    (CA FF sc YF d m_X12_wrongAt [vr 81, vi 2, vi (M1 81 11)] M1 (cI fun r6 M5 =>
     gAnd (decide (r6 = 0) || decide (r6 = 1)) (Q (vi r6) M5)))))) : WP FF sc YF (d + 1) m_X12_readsNumber 6 [] [some (vr 81), some (vi v1)] M Q := wp_go rfl (fun j => Nat.beq j 6) 46 h
theorem ca_X12_notes {sc : List Int} {d : Nat} {Q : Vv → MM → Prop} (v1 : Int) (v2 : Int) (M : MM) (h : gAnd (decide (0 ≤ (M 81 16)) && decide ((M 81 16) < 260)) (Q (vi 0) (stM (stM M 91 ((M 81 16).toNat) (w32 ((w32 (1048576 * v1)) + v2))) 81 16 (w32 (((stM M 91 ((M 81 16).toNat) (w32 ((w32 (1048576 * v1)) + v2))) 81 16) + 1))))) : CA FF sc YF (d + 1) m_X12_notes [vr 81, vi v1, vi v2] M Q := ca_go rfl rfl (fun j => false) 22 h
theorem ca_X12_opens {sc : List Int} {d : Nat} {Q : Vv → MM → Prop} (v1 : Int) (M : MM) (h : brA (decide ((M 81 15) ≠ 6))
  (gAnd (decide (0 ≤ ((stM M 81 15 (w32 ((M 81 15) + 1))) 81 17)) && decide (((stM M 81 15 (w32 ((M 81 15) + 1))) 81 17) < 260)) (Q (vi 1) (stM (stM (stM (stM M 81 15 (w32 ((M 81 15) + 1))) 92 (((stM M 81 15 (w32 ((M 81 15) + 1))) 81 17).toNat) (w32 (1048576 * v1))) 81 17 (w32 (((stM (stM M 81 15 (w32 ((M 81 15) + 1))) 92 (((stM M 81 15 (w32 ((M 81 15) + 1))) 81 17).toNat) (w32 (1048576 * v1))) 81 17) + 1))) 81 11 (w32 (((stM (stM (stM M 81 15 (w32 ((M 81 15) + 1))) 92 (((stM M 81 15 (w32 ((M 81 15) + 1))) 81 17).toNat) (w32 (1048576 * v1))) 81 17 (w32 (((stM (stM M 81 15 (w32 ((M 81 15) + 1))) 92 (((stM M 81 15 (w32 ((M 81 15) + 1))) 81 17).toNat) (w32 (1048576 * v1))) 81 17) + 1))) 81 11) + 1)))))
  (CA FF sc YF d m_X12_wrongAt [vr 81, vi 5, vi (M 81 11)] M (cI fun r2 M1 =>
   gAnd (decide (r2 = 0) || decide (r2 = 1)) (Q (vi r2) M1)))) : CA FF sc YF (d + 1) m_X12_opens [vr 81, vi v1] M Q := ca_go rfl rfl (fun j => false) 43 h
theorem ca_X12_waitTop {sc : List Int} {d : Nat} {Q : Vv → MM → Prop}  (M : MM) (h : brA (decide ((M 81 17) ≠ 0))
  (gAnd (decide (0 ≤ (w32 ((M 81 17) - 1))) && decide ((w32 ((M 81 17) - 1)) < 260)) (Q (vi (w32 (Int.tdiv (M 92 (w32 ((M 81 17) - 1)).toNat) 1048576))) M))
  (Q (vi ((-1))) M)) : CA FF sc YF (d + 1) m_X12_waitTop [vr 81] M Q := ca_go rfl rfl (fun j => false) 20 h
theorem ca_X12_closesSums {sc : List Int} {d : Nat} {Q : Vv → MM → Prop} (v1 : Int) (M : MM) (h : CA FF sc YF d m_X12_waitTop [vr 81] M (cI fun r2 M1 =>
  brA (decide (r2 < 4))
   (WP FF sc YF (d + 1) m_X12_closesSums 8 [] [some (vr 81), some (vi v1)] M1 Q)
   (CA FF sc YF d m_X12_waitTop [vr 81] M1 (cI fun r4 M3 =>
    brA (decide (r4 ≤ 6))
     (WP FF sc YF (d + 1) m_X12_closesSums 18 [] [some (vr 81), some (vi v1)] M3 Q)
     (WP FF sc YF (d + 1) m_X12_closesSums 8 [] [some (vr 81), some (vi v1)] M3 Q))))) : CA FF sc YF (d + 1) m_X12_closesSums [vr 81, vi v1] M Q := ca_go rfl rfl (fun j => Nat.beq j 0 || Nat.beq j 8 || Nat.beq j 18) 36 h
theorem rg_X12_closesSums_0 {sc : List Int} {d : Nat} {Q : Vv → MM → Prop} (v1 : Int) (M : MM) (h : CA FF sc YF d m_X12_waitTop [vr 81] M (cI fun r2 M1 =>
  brA (decide (r2 < 4))
   (WP FF sc YF (d + 1) m_X12_closesSums 8 [] [some (vr 81), some (vi v1)] M1 Q)
   (CA FF sc YF d m_X12_waitTop [vr 81] M1 (cI fun r4 M3 =>
    brA (decide (r4 ≤ 6))
     (WP FF sc YF (d + 1) m_X12_closesSums 18 [] [some (vr 81), some (vi v1)] M3 Q)
     (WP FF sc YF (d + 1) m_X12_closesSums 8 [] [some (vr 81), some (vi v1)] M3 Q))))) : WP FF sc YF (d + 1) m_X12_closesSums 0 [] [some (vr 81), some (vi v1)] M Q := wp_go rfl (fun j => Nat.beq j 0 || Nat.beq j 8 || Nat.beq j 18) 36 h
theorem rg_X12_closesSums_8 {sc : List Int} {d : Nat} {Q : Vv → MM → Prop} (v1 : Int) (M : MM) (h : brA (decide (v1 = 0))
  (Q (vi 0) M)
  (CA FF sc YF d m_X12_waitTop [vr 81] M (cI fun r2 M1 =>
   brA (decide (r2 = 2))
    (WP FF sc YF (d + 1) m_X12_closesSums 18 [] [some (vr 81), some (vi v1)] M1 Q)
    (CA FF sc YF d m_X12_waitTop [vr 81] M1 (cI fun r4 M3 =>
     brA (decide (r4 ≠ 3))
      (Q (vi 0) M3)
      (WP FF sc YF (d + 1) m_X12_closesSums 18 [] [some (vr 81), some (vi v1)] M3 Q)))))) : WP FF sc YF (d + 1) m_X12_closesSums 8 [] [some (vr 81), some (vi v1)] M Q := wp_go rfl (fun j => Nat.beq j 0 || Nat.beq j 8 || Nat.beq j 18) 36 h
theorem rg_X12_closesSums_18 {sc : List Int} {d : Nat} {Q : Vv → MM → Prop} (v1 : Int) (M : MM) (h : CA FF sc YF d m_X12_waitTop [vr 81] M (cI fun r2 M1 =>
  CA FF sc YF d m_X12_notes [vr 81, vi r2, vi 0] M1 (fun _ M3 =>
   WP FF sc YF (d + 1) m_X12_closesSums 0 [] [some (vr 81), some (vi v1)] (stM M3 81 17 (w32 ((M3 81 17) - 1))) Q))) : WP FF sc YF (d + 1) m_X12_closesSums 18 [] [some (vr 81), some (vi v1)] M Q := wp_go rfl (fun j => Nat.beq j 0 || Nat.beq j 8 || Nat.beq j 18) 36 h
theorem ca_X12_readsFactor {sc : List Int} {d : Nat} {Q : Vv → MM → Prop}  (M : MM) (h : CA FF sc YF d m_X12_here [vr 81] M (cI fun r2 M1 =>
  brA (decide (r2 ≠ 91))
   (CA FF sc YF d m_X12_isDigit [vr 81] M1 (cI fun r4 M3 =>
    brA (decide (r4 = 0))
     (CA FF sc YF d m_X12_here [vr 81] M3 (cI fun r6 M5 =>
      CA FF sc YF d m_X12_factOf [vi r6] M5 (cI fun r8 M7 =>
       brA (decide (r8 ≠ ((-1))))
        (CA FF sc YF d m_X12_notes [vr 81, vi 1, vi r8] M7 (fun _ M9 =>
         Q (vi 1) (stM M9 81 11 (w32 ((M9 81 11) + 1)))))
        (CA FF sc YF d m_X12_wrongAt [vr 81, vi 1, vi (M7 81 11)] M7 (cI fun r11 M10 =>
         gAnd (decide (r11 = 0) || decide (r11 = 1)) (Q (vi r11) M10))))))
     (CA FF sc YF d m_X12_readsNumber [vr 81] M3 (cI fun r13 M12 =>
      brA (decide (r13 ≠ 0))
       (CA FF sc YF d m_X12_notes [vr 81, vi 0, vi (M12 81 14)] M12 (fun _ M14 =>
        Q (vi 1) M14))
       (Q (vi 0) M12)))))
   (CA FF sc YF d m_X12_opens [vr 81, vi 14] M1 (cI fun r16 M15 =>
    brA (decide (r16 ≠ 0))
     (WP FF sc YF (d + 1) m_X12_readsFactor 0 [] [some (vr 81), none] M15 Q)
     (Q (vi 0) M15))))) : CA FF sc YF (d + 1) m_X12_readsFactor [vr 81] M Q := ca_go rfl rfl (fun j => Nat.beq j 0) 55 h
theorem rg_X12_readsFactor_0 {sc : List Int} {d : Nat} {Q : Vv → MM → Prop}  (M : MM) (h : CA FF sc YF d m_X12_here [vr 81] M (cI fun r2 M1 =>
  brA (decide (r2 ≠ 91))
   (CA FF sc YF d m_X12_isDigit [vr 81] M1 (cI fun r4 M3 =>
    brA (decide (r4 = 0))
     (CA FF sc YF d m_X12_here [vr 81] M3 (cI fun r6 M5 =>
      CA FF sc YF d m_X12_factOf [vi r6] M5 (cI fun r8 M7 =>
       brA (decide (r8 ≠ ((-1))))
        (CA FF sc YF d m_X12_notes [vr 81, vi 1, vi r8] M7 (fun _ M9 =>
         Q (vi 1) (stM M9 81 11 (w32 ((M9 81 11) + 1)))))
        (CA FF sc YF d m_X12_wrongAt [vr 81, vi 1, vi (M7 81 11)] M7 (cI fun r11 M10 =>
         gAnd (decide (r11 = 0) || decide (r11 = 1)) (Q (vi r11) M10))))))
     (CA FF sc YF d m_X12_readsNumber [vr 81] M3 (cI fun r13 M12 =>
      brA (decide (r13 ≠ 0))
       (CA FF sc YF d m_X12_notes [vr 81, vi 0, vi (M12 81 14)] M12 (fun _ M14 =>
        Q (vi 1) M14))
       (Q (vi 0) M12)))))
   (CA FF sc YF d m_X12_opens [vr 81, vi 14] M1 (cI fun r16 M15 =>
    brA (decide (r16 ≠ 0))
     (WP FF sc YF (d + 1) m_X12_readsFactor 0 [] [some (vr 81), none] M15 Q)
     (Q (vi 0) M15))))) : WP FF sc YF (d + 1) m_X12_readsFactor 0 [] [some (vr 81), none] M Q := wp_go rfl (fun j => Nat.beq j 0) 55 h
theorem ca_X12_hasOpenSum {sc : List Int} {d : Nat} {Q : Vv → MM → Prop} (v1 : Int) (M : MM) (h : WP FF sc YF (d + 1) m_X12_hasOpenSum 2 [] [some (vr 81), some (vi v1), some (vi v1)] M Q) : CA FF sc YF (d + 1) m_X12_hasOpenSum [vr 81, vi v1] M Q := ca_go rfl rfl (fun j => Nat.beq j 2) 25 h
theorem rg_X12_hasOpenSum_2 {sc : List Int} {d : Nat} {Q : Vv → MM → Prop} (v1 : Int) (v2 : Int) (M : MM) (h : brA (decide ((M 81 17) ≤ v2))
  (Q (vi 0) M)
  (gAnd (decide (0 ≤ v2) && decide (v2 < 260)) (brA (decide ((w32 (Int.tdiv (M 92 v2.toNat) 1048576)) ≠ 14))
   (WP FF sc YF (d + 1) m_X12_hasOpenSum 2 [] [some (vr 81), some (vi v1), some (vi (w32 (v2 + 1)))] M Q)
   (Q (vi 1) M)))) : WP FF sc YF (d + 1) m_X12_hasOpenSum 2 [] [some (vr 81), some (vi v1), some (vi v2)] M Q := wp_go rfl (fun j => Nat.beq j 2) 25 h
theorem ca_X12_readsSum {sc : List Int} {d : Nat} {Q : Vv → MM → Prop}  (M : MM) (h : CA FF sc YF d m_X12_readsFactor [vr 81] M (cI fun r2 M1 =>
  brA (decide (r2 ≠ 0))
   (WP FF sc YF (d + 1) m_X12_readsSum 8 [] [some (vr 81), some (vi (M 81 17)), none] M1 Q)
   (Q (vi 0) M1))) : CA FF sc YF (d + 1) m_X12_readsSum [vr 81] M Q := ca_go rfl rfl (fun j => Nat.beq j 8 || Nat.beq j 22 || Nat.beq j 78) 99 h
theorem rg_X12_readsSum_8 {sc : List Int} {d : Nat} {Q : Vv → MM → Prop} (v1 : Int) (o2 : Option Vv) (M : MM) (h : CA FF sc YF d m_X12_here [vr 81] M (cI fun r2 M1 =>
  CA FF sc YF d m_X12_sumSign [vi r2] M1 (cI fun r4 M3 =>
   brA (decide (r4 = ((-1))))
    (CA FF sc YF d m_X12_here [vr 81] M3 (cI fun r6 M5 =>
     brA (decide (r6 ≠ 93))
      (WP FF sc YF (d + 1) m_X12_readsSum 78 [] [some (vr 81), some (vi v1), some (vi r4)] M5 Q)
      (CA FF sc YF d m_X12_hasOpenSum [vr 81, vi v1] M5 (cI fun r8 M7 =>
       brA (decide (r8 = 0))
        (WP FF sc YF (d + 1) m_X12_readsSum 78 [] [some (vr 81), some (vi v1), some (vi r4)] M7 Q)
        (CA FF sc YF d m_X12_closesSums [vr 81, vi 1] M7 (fun _ M9 =>
         WP FF sc YF (d + 1) m_X12_readsSum 8 [] [some (vr 81), some (vi v1), some (vi r4)] (stM (stM (stM M9 81 17 (w32 ((M9 81 17) - 1))) 81 15 (w32 (((stM M9 81 17 (w32 ((M9 81 17) - 1))) 81 15) - 1))) 81 11 (w32 (((stM (stM M9 81 17 (w32 ((M9 81 17) - 1))) 81 15 (w32 (((stM M9 81 17 (w32 ((M9 81 17) - 1))) 81 15) - 1))) 81 11) + 1))) Q))))))
    (brA (decide (4 ≤ r4))
     (WP FF sc YF (d + 1) m_X12_readsSum 22 [vi 0, vr 81] [some (vr 81), some (vi v1), some (vi r4)] M3 Q)
     (WP FF sc YF (d + 1) m_X12_readsSum 22 [vi 1, vr 81] [some (vr 81), some (vi v1), some (vi r4)] M3 Q))))) : WP FF sc YF (d + 1) m_X12_readsSum 8 [] [some (vr 81), some (vi v1), o2] M Q := wp_go rfl (fun j => Nat.beq j 8 || Nat.beq j 22 || Nat.beq j 78) 99 h
theorem rg_X12_readsSum_22 {sc : List Int} {d : Nat} {Q : Vv → MM → Prop} (v1 : Int) (v2 : Int) (s0 : Nat) (s1 : Int) (M : MM) (h : gAnd (kd YF s0 == 21) (CA FF sc YF d m_X12_closesSums [vr s0, vi s1] M (fun _ M1 =>
  gAnd (decide (0 ≤ (M1 81 17)) && decide ((M1 81 17) < 260)) (CA FF sc YF d m_X12_readsFactor [vr 81] (stM (stM (stM M1 92 ((M1 81 17).toNat) (w32 (1048576 * v2))) 81 17 (w32 (((stM M1 92 ((M1 81 17).toNat) (w32 (1048576 * v2))) 81 17) + 1))) 81 11 (w32 (((stM (stM M1 92 ((M1 81 17).toNat) (w32 (1048576 * v2))) 81 17 (w32 (((stM M1 92 ((M1 81 17).toNat) (w32 (1048576 * v2))) 81 17) + 1))) 81 11) + 1))) (cI fun r3 M2 =>
   brA (decide (r3 ≠ 0))
    (WP FF sc YF (d + 1) m_X12_readsSum 8 [] [some (vr 81), some (vi v1), some (vi v2)] M2 Q)
    (Q (vi 0) M2)))))) : WP FF sc YF (d + 1) m_X12_readsSum 22 [vi s1, vr s0] [some (vr 81), some (vi v1), some (vi v2)] M Q := wp_go rfl (fun j => Nat.beq j 8 || Nat.beq j 22 || Nat.beq j 78) 99 h
theorem rg_X12_readsSum_78 {sc : List Int} {d : Nat} {Q : Vv → MM → Prop} (v1 : Int) (v2 : Int) (M : MM) (h : CA FF sc YF d m_X12_hasOpenSum [vr 81, vi v1] M (cI fun r2 M1 =>
  brA (decide (r2 = 0))
   (CA FF sc YF d m_X12_closesSums [vr 81, vi 1] M1 (fun _ M3 =>
    Q (vi 1) M3))
   (CA FF sc YF d m_X12_wrongAt [vr 81, vi 1, vi (M1 81 11)] M1 (cI fun r5 M4 =>
    gAnd (decide (r5 = 0) || decide (r5 = 1)) (Q (vi r5) M4))))) : WP FF sc YF (d + 1) m_X12_readsSum 78 [] [some (vr 81), some (vi v1), some (vi v2)] M Q := wp_go rfl (fun j => Nat.beq j 8 || Nat.beq j 22 || Nat.beq j 78) 99 h
theorem ca_X12_endsPiece {sc : List Int} {d : Nat} {Q : Vv → MM → Prop}  (M : MM) (h : CA FF sc YF d m_X12_waitTop [vr 81] M (cI fun r2 M1 =>
  brA (decide (r2 ≠ 10))
   (Q (vi 0) M1)
   (CA FF sc YF d m_X12_notes [vr 81, vi 10, vi 0] M1 (fun _ M3 =>
    WP FF sc YF (d + 1) m_X12_endsPiece 0 [] [some (vr 81)] (stM (stM M3 81 17 (w32 ((M3 81 17) - 1))) 81 15 (w32 (((stM M3 81 17 (w32 ((M3 81 17) - 1))) 81 15) - 1))) Q)))) : CA FF sc YF (d + 1) m_X12_endsPiece [vr 81] M Q := ca_go rfl rfl (fun j => Nat.beq j 0) 27 h
theorem rg_X12_endsPiece_0 {sc : List Int} {d : Nat} {Q : Vv → MM → Prop}  (M : MM) (h : CA FF sc YF d m_X12_waitTop [vr 81] M (cI fun r2 M1 =>
  brA (decide (r2 ≠ 10))
   (Q (vi 0) M1)
   (CA FF sc YF d m_X12_notes [vr 81, vi 10, vi 0] M1 (fun _ M3 =>
    WP FF sc YF (d + 1) m_X12_endsPiece 0 [] [some (vr 81)] (stM (stM M3 81 17 (w32 ((M3 81 17) - 1))) 81 15 (w32 (((stM M3 81 17 (w32 ((M3 81 17) - 1))) 81 15) - 1))) Q)))) : WP FF sc YF (d + 1) m_X12_endsPiece 0 [] [some (vr 81)] M Q := wp_go rfl (fun j => Nat.beq j 0) 27 h
theorem ca_X12_lands {sc : List Int} {d : Nat} {Q : Vv → MM → Prop} (v1 : Int) (M : MM) (h : CA FF sc YF d m_X12_waitTop [vr 81] M (cI fun r2 M1 =>
  brA (decide (r2 = 11))
   (WP FF sc YF (d + 1) m_X12_lands 10 [] [some (vr 81), some (vi v1), none] M1 Q)
   (brA (decide (v1 = 0))
    (Q (vi 0) M1)
    (CA FF sc YF d m_X12_waitTop [vr 81] M1 (cI fun r4 M3 =>
     brA (decide (r4 ≠ 12))
      (Q (vi 0) M3)
      (WP FF sc YF (d + 1) m_X12_lands 10 [] [some (vr 81), some (vi v1), none] M3 Q)))))) : CA FF sc YF (d + 1) m_X12_lands [vr 81, vi v1] M Q := ca_go rfl rfl (fun j => Nat.beq j 0 || Nat.beq j 10) 48 h
theorem rg_X12_lands_0 {sc : List Int} {d : Nat} {Q : Vv → MM → Prop} (v1 : Int) (M : MM) (h : CA FF sc YF d m_X12_waitTop [vr 81] M (cI fun r2 M1 =>
  brA (decide (r2 = 11))
   (WP FF sc YF (d + 1) m_X12_lands 10 [] [some (vr 81), some (vi v1), none] M1 Q)
   (brA (decide (v1 = 0))
    (Q (vi 0) M1)
    (CA FF sc YF d m_X12_waitTop [vr 81] M1 (cI fun r4 M3 =>
     brA (decide (r4 ≠ 12))
      (Q (vi 0) M3)
      (WP FF sc YF (d + 1) m_X12_lands 10 [] [some (vr 81), some (vi v1), none] M3 Q)))))) : WP FF sc YF (d + 1) m_X12_lands 0 [] [some (vr 81), some (vi v1), none] M Q := wp_go rfl (fun j => Nat.beq j 0 || Nat.beq j 10) 48 h
theorem rg_X12_lands_10 {sc : List Int} {d : Nat} {Q : Vv → MM → Prop} (v1 : Int) (o2 : Option Vv) (M : MM) (h : gAnd (decide (0 ≤ (w32 ((M 81 17) - 1))) && decide ((w32 ((M 81 17) - 1)) < 260)) (gAnd (decide (0 ≤ (Int.tmod (M 92 (w32 ((M 81 17) - 1)).toNat) 1048576)) && decide ((Int.tmod (M 92 (w32 ((M 81 17) - 1)).toNat) 1048576) < 260)) (gAnd (decide (0 ≤ (Int.tmod (M 92 (w32 ((M 81 17) - 1)).toNat) 1048576)) && decide ((Int.tmod (M 92 (w32 ((M 81 17) - 1)).toNat) 1048576) < 260)) (WP FF sc YF (d + 1) m_X12_lands 0 [] [some (vr 81), some (vi v1), some (vi (Int.tmod (M 92 (w32 ((M 81 17) - 1)).toNat) 1048576))] (stM (stM M 91 ((Int.tmod (M 92 (w32 ((M 81 17) - 1)).toNat) 1048576).toNat) (w32 ((w32 (1048576 * (w32 (Int.tdiv (M 91 (Int.tmod (M 92 (w32 ((M 81 17) - 1)).toNat) 1048576).toNat) 1048576)))) + (M 81 16)))) 81 17 (w32 (((stM M 91 ((Int.tmod (M 92 (w32 ((M 81 17) - 1)).toNat) 1048576).toNat) (w32 ((w32 (1048576 * (w32 (Int.tdiv (M 91 (Int.tmod (M 92 (w32 ((M 81 17) - 1)).toNat) 1048576).toNat) 1048576)))) + (M 81 16)))) 81 17) - 1))) Q)))) : WP FF sc YF (d + 1) m_X12_lands 10 [] [some (vr 81), some (vi v1), o2] M Q := wp_go rfl (fun j => Nat.beq j 0 || Nat.beq j 10) 48 h
theorem ca_X12_jumps {sc : List Int} {d : Nat} {Q : Vv → MM → Prop} (v1 : Int) (M : MM) (h : gAnd (decide (0 ≤ (M 81 17)) && decide ((M 81 17) < 260)) (CA FF sc YF d m_X12_notes [vr 81, vi v1, vi 0] (stM (stM M 92 ((M 81 17).toNat) (w32 ((w32 (1048576 * v1)) + (M 81 16)))) 81 17 (w32 (((stM M 92 ((M 81 17).toNat) (w32 ((w32 (1048576 * v1)) + (M 81 16)))) 81 17) + 1))) (fun _ M1 =>
  Q (vi 0) (stM M1 81 11 (w32 ((M1 81 11) + 1)))))) : CA FF sc YF (d + 1) m_X12_jumps [vr 81, vi v1] M Q := ca_go rfl rfl (fun j => false) 33 h
theorem ca_X12_readsCompared {sc : List Int} {d : Nat} {Q : Vv → MM → Prop}  (M : MM) (h : CA FF sc YF d m_X12_readsSum [vr 81] M (cI fun r2 M1 =>
  brA (decide (r2 ≠ 0))
   (CA FF sc YF d m_X12_here [vr 81] M1 (cI fun r4 M3 =>
    brA (decide (r4 ≠ 60))
     (CA FF sc YF d m_X12_here [vr 81] M3 (cI fun r6 M5 =>
      brA (decide (r6 ≠ 62))
       (CA FF sc YF d m_X12_here [vr 81] M5 (cI fun r8 M7 =>
        brA (decide (r8 ≠ 61))
         (WP FF sc YF (d + 1) m_X12_readsCompared 24 [vi ((-1))] [some (vr 81), none] M7 Q)
         (WP FF sc YF (d + 1) m_X12_readsCompared 24 [vi 9] [some (vr 81), none] M7 Q)))
       (WP FF sc YF (d + 1) m_X12_readsCompared 24 [vi 8] [some (vr 81), none] M5 Q)))
     (WP FF sc YF (d + 1) m_X12_readsCompared 24 [vi 7] [some (vr 81), none] M3 Q)))
   (Q (vi 0) M1))) : CA FF sc YF (d + 1) m_X12_readsCompared [vr 81] M Q := ca_go rfl rfl (fun j => Nat.beq j 24) 58 h
theorem rg_X12_readsCompared_24 {sc : List Int} {d : Nat} {Q : Vv → MM → Prop} (o1 : Option Vv) (s0 : Int) (M : MM) (h : brA (decide (s0 ≠ ((-1))))
  (CA FF sc YF d m_X12_readsSum [vr 81] (stM M 81 11 (w32 ((M 81 11) + 1))) (cI fun r2 M1 =>
   brA (decide (r2 ≠ 0))
    (CA FF sc YF d m_X12_notes [vr 81, vi s0, vi 0] M1 (fun _ M3 =>
     CA FF sc YF d m_X12_endsPiece [vr 81] M3 (fun _ M4 =>
      Q (vi 1) M4)))
    (Q (vi 0) M1)))
  (CA FF sc YF d m_X12_wrongAt [vr 81, vi 1, vi (M 81 11)] M (cI fun r6 M5 =>
   gAnd (decide (r6 = 0) || decide (r6 = 1)) (Q (vi r6) M5)))) : WP FF sc YF (d + 1) m_X12_readsCompared 24 [vi s0] [some (vr 81), o1] M Q := wp_go rfl (fun j => Nat.beq j 24) 58 h
theorem ca_X12_readsCondition {sc : List Int} {d : Nat} {Q : Vv → MM → Prop}  (M : MM) (h : CA FF sc YF d m_X12_here [vr 81] M (cI fun r2 M1 =>
  brA (decide (r2 = 40))
   (CA FF sc YF d m_X12_opens [vr 81, vi 13] (stM (stM M1 81 15 0) 81 17 0) (cI fun r4 M3 =>
    brA (decide (r4 ≠ 0))
     (WP FF sc YF (d + 1) m_X12_readsCondition 22 [] [some (vr 81)] M3 Q)
     (Q (vi 0) M3)))
   (CA FF sc YF d m_X12_wrongAt [vr 81, vi 1, vi (M1 81 11)] M1 (cI fun r6 M5 =>
    gAnd (decide (r6 = 0) || decide (r6 = 1)) (Q (vi r6) M5))))) : CA FF sc YF (d + 1) m_X12_readsCondition [vr 81] M Q := ca_go rfl rfl (fun j => Nat.beq j 22 || Nat.beq j 30 || Nat.beq j 47 || Nat.beq j 102) 118 h
theorem rg_X12_readsCondition_22 {sc : List Int} {d : Nat} {Q : Vv → MM → Prop}  (M : MM) (h : CA FF sc YF d m_X12_here [vr 81] M (cI fun r2 M1 =>
  brA (decide (r2 = 33))
   (WP FF sc YF (d + 1) m_X12_readsCondition 30 [] [some (vr 81)] M1 Q)
   (CA FF sc YF d m_X12_here [vr 81] M1 (cI fun r4 M3 =>
    brA (decide (r4 ≠ 40))
     (CA FF sc YF d m_X12_readsCompared [vr 81] M3 (cI fun r6 M5 =>
      brA (decide (r6 ≠ 0))
       (WP FF sc YF (d + 1) m_X12_readsCondition 47 [] [some (vr 81)] M5 Q)
       (Q (vi 0) M5)))
     (WP FF sc YF (d + 1) m_X12_readsCondition 30 [] [some (vr 81)] M3 Q))))) : WP FF sc YF (d + 1) m_X12_readsCondition 22 [] [some (vr 81)] M Q := wp_go rfl (fun j => Nat.beq j 22 || Nat.beq j 30 || Nat.beq j 47 || Nat.beq j 102) 118 h
theorem rg_X12_readsCondition_30 {sc : List Int} {d : Nat} {Q : Vv → MM → Prop}  (M : MM) (h : CA FF sc YF d m_X12_here [vr 81] M (cI fun r2 M1 =>
  brA (decide (r2 ≠ 33))
   (CA FF sc YF d m_X12_opens [vr 81, vi 13] M1 (cI fun r4 M3 =>
    brA (decide (r4 ≠ 0))
     (WP FF sc YF (d + 1) m_X12_readsCondition 22 [] [some (vr 81)] M3 Q)
     (Q (vi 0) M3)))
   (CA FF sc YF d m_X12_opens [vr 81, vi 10] M1 (cI fun r6 M5 =>
    brA (decide (r6 ≠ 0))
     (WP FF sc YF (d + 1) m_X12_readsCondition 22 [] [some (vr 81)] M5 Q)
     (Q (vi 0) M5))))) : WP FF sc YF (d + 1) m_X12_readsCondition 30 [] [some (vr 81)] M Q := wp_go rfl (fun j => Nat.beq j 22 || Nat.beq j 30 || Nat.beq j 47 || Nat.beq j 102) 118 h
theorem rg_X12_readsCondition_47 {sc : List Int} {d : Nat} {Q : Vv → MM → Prop}  (M : MM) (h : CA FF sc YF d m_X12_here [vr 81] M (cI fun r2 M1 =>
  brA (decide (r2 ≠ 41))
   (CA FF sc YF d m_X12_here [vr 81] M1 (cI fun r4 M3 =>
    brA (decide (r4 = 38))
     (CA FF sc YF d m_X12_here [vr 81] M3 (cI fun r6 M5 =>
      brA (decide (r6 ≠ 124))
       (WP FF sc YF (d + 1) m_X12_readsCondition 102 [vi 0, vr 81] [some (vr 81)] M5 Q)
       (WP FF sc YF (d + 1) m_X12_readsCondition 102 [vi 1, vr 81] [some (vr 81)] M5 Q)))
     (CA FF sc YF d m_X12_here [vr 81] M3 (cI fun r8 M7 =>
      brA (decide (r8 = 124))
       (CA FF sc YF d m_X12_here [vr 81] M7 (cI fun r10 M9 =>
        brA (decide (r10 ≠ 124))
         (WP FF sc YF (d + 1) m_X12_readsCondition 102 [vi 0, vr 81] [some (vr 81)] M9 Q)
         (WP FF sc YF (d + 1) m_X12_readsCondition 102 [vi 1, vr 81] [some (vr 81)] M9 Q)))
       (CA FF sc YF d m_X12_wrongAt [vr 81, vi 1, vi (M7 81 11)] M7 (cI fun r12 M11 =>
        gAnd (decide (r12 = 0) || decide (r12 = 1)) (Q (vi r12) M11)))))))
   (CA FF sc YF d m_X12_lands [vr 81, vi 1] M1 (fun _ M13 =>
    brA (decide (((stM (stM (stM M13 81 17 (w32 ((M13 81 17) - 1))) 81 15 (w32 (((stM M13 81 17 (w32 ((M13 81 17) - 1))) 81 15) - 1))) 81 11 (w32 (((stM (stM M13 81 17 (w32 ((M13 81 17) - 1))) 81 15 (w32 (((stM M13 81 17 (w32 ((M13 81 17) - 1))) 81 15) - 1))) 81 11) + 1))) 81 17) ≠ 0))
     (CA FF sc YF d m_X12_endsPiece [vr 81] (stM (stM (stM M13 81 17 (w32 ((M13 81 17) - 1))) 81 15 (w32 (((stM M13 81 17 (w32 ((M13 81 17) - 1))) 81 15) - 1))) 81 11 (w32 (((stM (stM M13 81 17 (w32 ((M13 81 17) - 1))) 81 15 (w32 (((stM M13 81 17 (w32 ((M13 81 17) - 1))) 81 15) - 1))) 81 11) + 1))) (fun _ M14 =>
      WP FF sc YF (d + 1) m_X12_readsCondition 47 [] [some (vr 81)] M14 Q))
     (Q (vi 1) (stM (stM (stM M13 81 17 (w32 ((M13 81 17) - 1))) 81 15 (w32 (((stM M13 81 17 (w32 ((M13 81 17) - 1))) 81 15) - 1))) 81 11 (w32 (((stM (stM M13 81 17 (w32 ((M13 81 17) - 1))) 81 15 (w32 (((stM M13 81 17 (w32 ((M13 81 17) - 1))) 81 15) - 1))) 81 11) + 1)))))))) : WP FF sc YF (d + 1) m_X12_readsCondition 47 [] [some (vr 81)] M Q := wp_go rfl (fun j => Nat.beq j 22 || Nat.beq j 30 || Nat.beq j 47 || Nat.beq j 102) 118 h
theorem rg_X12_readsCondition_102 {sc : List Int} {d : Nat} {Q : Vv → MM → Prop} (s0 : Nat) (s1 : Int) (M : MM) (h : gAnd (kd YF s0 == 21) (CA FF sc YF d m_X12_lands [vr s0, vi s1] M (fun _ M1 =>
  CA FF sc YF d m_X12_here [vr 81] M1 (cI fun r3 M2 =>
   brA (decide (r3 ≠ 38))
    (CA FF sc YF d m_X12_jumps [vr 81, vi 12] M2 (fun _ M4 =>
     WP FF sc YF (d + 1) m_X12_readsCondition 22 [] [some (vr 81)] M4 Q))
    (CA FF sc YF d m_X12_jumps [vr 81, vi 11] M2 (fun _ M5 =>
     WP FF sc YF (d + 1) m_X12_readsCondition 22 [] [some (vr 81)] M5 Q)))))) : WP FF sc YF (d + 1) m_X12_readsCondition 102 [vi s1, vr s0] [some (vr 81)] M Q := wp_go rfl (fun j => Nat.beq j 22 || Nat.beq j 30 || Nat.beq j 47 || Nat.beq j 102) 118 h
theorem ca_X12_readsClause {sc : List Int} {d : Nat} {Q : Vv → MM → Prop}  (M : MM) (h : CA FF sc YF d m_X12_here [vr 81] M (cI fun r2 M1 =>
  CA FF sc YF d m_X12_isClause [vi r2] M1 (cI fun r4 M3 =>
   brA (decide (r4 ≠ 0))
    (brA (decide ((M3 81 18) ≠ 16))
     (gAnd (decide (0 ≤ (M3 81 18)) && decide ((M3 81 18) < 16)) (gAnd (decide (0 ≤ ((stM (stM M3 93 ((M3 81 18).toNat) r2) 81 11 (w32 (((stM M3 93 ((M3 81 18).toNat) r2) 81 11) + 1))) 81 18)) && decide (((stM (stM M3 93 ((M3 81 18).toNat) r2) 81 11 (w32 (((stM M3 93 ((M3 81 18).toNat) r2) 81 11) + 1))) 81 18) < 16)) (brA (decide (r2 = 109))
      (WP FF sc YF (d + 1) m_X12_readsClause 55 [] [some (vr 81), some (vi r2)] (stM (stM (stM (stM (stM M3 93 ((M3 81 18).toNat) r2) 81 11 (w32 (((stM M3 93 ((M3 81 18).toNat) r2) 81 11) + 1))) 94 (((stM (stM M3 93 ((M3 81 18).toNat) r2) 81 11 (w32 (((stM M3 93 ((M3 81 18).toNat) r2) 81 11) + 1))) 81 18).toNat) ((stM (stM M3 93 ((M3 81 18).toNat) r2) 81 11 (w32 (((stM M3 93 ((M3 81 18).toNat) r2) 81 11) + 1))) 81 16)) 81 15 0) 81 17 0) Q)
      (CA FF sc YF d m_X12_readsSum [vr 81] (stM (stM (stM (stM (stM M3 93 ((M3 81 18).toNat) r2) 81 11 (w32 (((stM M3 93 ((M3 81 18).toNat) r2) 81 11) + 1))) 94 (((stM (stM M3 93 ((M3 81 18).toNat) r2) 81 11 (w32 (((stM M3 93 ((M3 81 18).toNat) r2) 81 11) + 1))) 81 18).toNat) ((stM (stM M3 93 ((M3 81 18).toNat) r2) 81 11 (w32 (((stM M3 93 ((M3 81 18).toNat) r2) 81 11) + 1))) 81 16)) 81 15 0) 81 17 0) (cI fun r6 M5 =>
       brA (decide (r6 ≠ 0))
        (WP FF sc YF (d + 1) m_X12_readsClause 55 [] [some (vr 81), some (vi r2)] M5 Q)
        (Q (vi 0) M5))))))
     (CA FF sc YF d m_X12_wrongAt [vr 81, vi 4, vi (M3 81 11)] M3 (cI fun r8 M7 =>
      gAnd (decide (r8 = 0) || decide (r8 = 1)) (Q (vi r8) M7))))
    (CA FF sc YF d m_X12_wrongAt [vr 81, vi 1, vi (M3 81 11)] M3 (cI fun r10 M9 =>
     gAnd (decide (r10 = 0) || decide (r10 = 1)) (Q (vi r10) M9)))))) : CA FF sc YF (d + 1) m_X12_readsClause [vr 81] M Q := ca_go rfl rfl (fun j => Nat.beq j 55) 87 h
theorem rg_X12_readsClause_55 {sc : List Int} {d : Nat} {Q : Vv → MM → Prop} (v1 : Int) (M : MM) (h : gAnd (decide (0 ≤ (M 81 18)) && decide ((M 81 18) < 16)) (CA FF sc YF d m_X12_readsCondition [vr 81] (stM M 95 ((M 81 18).toNat) (M 81 16)) (cI fun r2 M1 =>
  brA (decide (r2 ≠ 0))
   (gAnd (decide (0 ≤ (M1 81 18)) && decide ((M1 81 18) < 16)) (Q (vi 1) (stM (stM M1 96 ((M1 81 18).toNat) (M1 81 16)) 81 18 (w32 (((stM M1 96 ((M1 81 18).toNat) (M1 81 16)) 81 18) + 1)))))
   (Q (vi 0) M1)))) : WP FF sc YF (d + 1) m_X12_readsClause 55 [] [some (vr 81), some (vi v1)] M Q := wp_go rfl (fun j => Nat.beq j 55) 87 h
theorem ca_X12_law {sc : List Int} {d : Nat} {Q : Vv → MM → Prop} (v1 : Int) (M : MM) (h : CA FF sc YF d m_X12_in [vi v1, vi 1, vi 240] M (cI fun r2 M1 =>
  brA (decide (r2 = 0))
   (Q (vi ((-1))) M1)
   (brA (decide (v1 ≤ (M1 81 10)))
    (CA FF sc YF d m_X12_readsClause [vr 81] (stM (stM (stM (stM M1 81 11 0) 81 12 v1) 81 16 0) 81 18 0) (cI fun r4 M3 =>
     WP FF sc YF (d + 1) m_X12_law 26 [] [some (vr 81), some (vi v1), some (vi r4), none] M3 Q))
    (Q (vi ((-1))) M1)))) : CA FF sc YF (d + 1) m_X12_law [vr 81, vi v1] M Q := ca_go rfl rfl (fun j => Nat.beq j 26 || Nat.beq j 45 || Nat.beq j 59 || Nat.beq j 75) 121 h
theorem rg_X12_law_26 {sc : List Int} {d : Nat} {Q : Vv → MM → Prop} (v1 : Int) (v2 : Int) (o3 : Option Vv) (M : MM) (h : brA (decide (v2 = 0))
  (WP FF sc YF (d + 1) m_X12_law 45 [] [some (vr 81), some (vi v1), some (vi v2), o3] M Q)
  (brA (decide ((M 81 12) ≤ (M 81 11)))
   (WP FF sc YF (d + 1) m_X12_law 45 [] [some (vr 81), some (vi v1), some (vi v2), o3] M Q)
   (CA FF sc YF d m_X12_takes [vr 81, vi 59] M (cI fun r2 M1 =>
    brA (decide (r2 = 0))
     (WP FF sc YF (d + 1) m_X12_law 26 [] [some (vr 81), some (vi v1), some (vi 0), o3] M1 Q)
     (CA FF sc YF d m_X12_readsClause [vr 81] M1 (cI fun r4 M3 =>
      brA (decide (r4 = 0))
       (WP FF sc YF (d + 1) m_X12_law 26 [] [some (vr 81), some (vi v1), some (vi 0), o3] M3 Q)
       (WP FF sc YF (d + 1) m_X12_law 26 [] [some (vr 81), some (vi v1), some (vi 1), o3] M3 Q))))))) : WP FF sc YF (d + 1) m_X12_law 26 [] [some (vr 81), some (vi v1), some (vi v2), o3] M Q := wp_go rfl (fun j => Nat.beq j 26 || Nat.beq j 45 || Nat.beq j 59 || Nat.beq j 75) 121 h
theorem rg_X12_law_45 {sc : List Int} {d : Nat} {Q : Vv → MM → Prop} (v1 : Int) (v2 : Int) (o3 : Option Vv) (M : MM) (h : brA (decide (v2 ≠ 0))
  (WP FF sc YF (d + 1) m_X12_law 59 [] [some (vr 81), some (vi v1), some (vi v2), some (vi 0)] (stM (stM M 81 10 0) 81 19 ((stM M 81 10 0) 81 18)) Q)
  (Q (vi ((stM M 81 10 0) 81 13)) (stM M 81 10 0))) : WP FF sc YF (d + 1) m_X12_law 45 [] [some (vr 81), some (vi v1), some (vi v2), o3] M Q := wp_go rfl (fun j => Nat.beq j 26 || Nat.beq j 45 || Nat.beq j 59 || Nat.beq j 75) 121 h
theorem rg_X12_law_59 {sc : List Int} {d : Nat} {Q : Vv → MM → Prop} (v1 : Int) (v2 : Int) (v3 : Int) (M : MM) (h : brA (decide ((M 81 16) ≤ v3))
  (WP FF sc YF (d + 1) m_X12_law 75 [] [some (vr 81), some (vi v1), some (vi v2), some (vi 0)] M Q)
  (gAnd (decide (0 ≤ v3) && decide (v3 < 260)) (gAnd (decide (0 ≤ v3) && decide (v3 < 260)) (WP FF sc YF (d + 1) m_X12_law 59 [] [some (vr 81), some (vi v1), some (vi v2), some (vi (w32 (v3 + 1)))] (stM M 97 (v3.toNat) (M 91 v3.toNat)) Q)))) : WP FF sc YF (d + 1) m_X12_law 59 [] [some (vr 81), some (vi v1), some (vi v2), some (vi v3)] M Q := wp_go rfl (fun j => Nat.beq j 26 || Nat.beq j 45 || Nat.beq j 59 || Nat.beq j 75) 121 h
theorem rg_X12_law_75 {sc : List Int} {d : Nat} {Q : Vv → MM → Prop} (v1 : Int) (v2 : Int) (v3 : Int) (M : MM) (h : brA (decide ((M 81 18) ≤ v3))
  (Q (vi (M 81 18)) M)
  (gAnd (decide (0 ≤ v3) && decide (v3 < 16)) (gAnd (decide (0 ≤ v3) && decide (v3 < 16)) (gAnd (decide (0 ≤ v3) && decide (v3 < 16)) (gAnd (decide (0 ≤ v3) && decide (v3 < 16)) (gAnd (decide (0 ≤ v3) && decide (v3 < 16)) (gAnd (decide (0 ≤ v3) && decide (v3 < 16)) (gAnd (decide (0 ≤ v3) && decide (v3 < 16)) (gAnd (decide (0 ≤ v3) && decide (v3 < 16)) (WP FF sc YF (d + 1) m_X12_law 75 [] [some (vr 81), some (vi v1), some (vi v2), some (vi (w32 (v3 + 1)))] (stM (stM (stM (stM M 98 (v3.toNat) (M 93 v3.toNat)) 99 (v3.toNat) ((stM M 98 (v3.toNat) (M 93 v3.toNat)) 94 v3.toNat)) 100 (v3.toNat) ((stM (stM M 98 (v3.toNat) (M 93 v3.toNat)) 99 (v3.toNat) ((stM M 98 (v3.toNat) (M 93 v3.toNat)) 94 v3.toNat)) 95 v3.toNat)) 101 (v3.toNat) ((stM (stM (stM M 98 (v3.toNat) (M 93 v3.toNat)) 99 (v3.toNat) ((stM M 98 (v3.toNat) (M 93 v3.toNat)) 94 v3.toNat)) 100 (v3.toNat) ((stM (stM M 98 (v3.toNat) (M 93 v3.toNat)) 99 (v3.toNat) ((stM M 98 (v3.toNat) (M 93 v3.toNat)) 94 v3.toNat)) 95 v3.toNat)) 96 v3.toNat)) Q)))))))))) : WP FF sc YF (d + 1) m_X12_law 75 [] [some (vr 81), some (vi v1), some (vi v2), some (vi v3)] M Q := wp_go rfl (fun j => Nat.beq j 26 || Nat.beq j 45 || Nat.beq j 59 || Nat.beq j 75) 121 h
