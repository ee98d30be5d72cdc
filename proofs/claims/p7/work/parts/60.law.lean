/-! PART 60: the law over the two objects: from the specs of its pairs of calls -/
set_option maxRecDepth 100000 in
theorem yg_L_law_0 {sc : List Int} {d : Nat} {Q : Vv → YY → MM → Prop}  (M : MM) (h : CY F0z sc d m_X11_init [vr 0] (TK 1) (zrM M 0) (fun _ Y2 M1 =>
  WY F0z sc (d + 1) m_L_law 3 [vr 0] [none, none, none, none] Y2 M1 Q)) : WY F0z sc (d + 1) m_L_law 0 [] [none, none, none, none] (TK 0) M Q := wy_go rfl (fun j => Nat.beq j 3 || Nat.beq j 7 || Nat.beq j 10) 813 h
set_option maxRecDepth 100000 in
theorem yg_L_law_3 {sc : List Int} {d : Nat} {Q : Vv → YY → MM → Prop}  (M : MM) (h : CY F0z sc d m_X12_init [vr 81] (TK 82) (zrM M 81) (fun _ Y2 M1 =>
  WY F0z sc (d + 1) m_L_law 7 [vr 81] [none, some (vr 0), none, none] Y2 M1 Q)) : WY F0z sc (d + 1) m_L_law 3 [vr 0] [none, none, none, none] (TK 81) M Q := wy_go rfl (fun j => Nat.beq j 3 || Nat.beq j 7 || Nat.beq j 10) 813 h
set_option maxRecDepth 100000 in
theorem yg_L_law_7 {sc : List Int} {d : Nat} {Q : Vv → YY → MM → Prop}  (M : MM) (h : WY F0z sc (d + 1) m_L_law 10 [] [none, some (vr 0), some (vr 81), some (vi 0)] (TK 121) M Q) : WY F0z sc (d + 1) m_L_law 7 [vr 81] [none, some (vr 0), none, none] (TK 121) M Q := wy_go rfl (fun j => Nat.beq j 3 || Nat.beq j 7 || Nat.beq j 10) 813 h
def cutL (j : Nat) : Bool := Nat.beq j 10 || Nat.beq j 22 || Nat.beq j 79 || Nat.beq j 96 || Nat.beq j 123 || Nat.beq j 140 || Nat.beq j 187 || Nat.beq j 222 || Nat.beq j 239 || Nat.beq j 256 || Nat.beq j 283 || Nat.beq j 310 || Nat.beq j 337 || Nat.beq j 374 || Nat.beq j 411 || Nat.beq j 448 || Nat.beq j 465 || Nat.beq j 492 || Nat.beq j 519 || Nat.beq j 566 || Nat.beq j 593 || Nat.beq j 631 || Nat.beq j 648 || Nat.beq j 665 || Nat.beq j 692 || Nat.beq j 739 || Nat.beq j 756 || Nat.beq j 763 || Nat.beq j 770 || Nat.beq j 787 || Nat.beq j 804
set_option maxRecDepth 100000 in
theorem rg_L_law_10 {sc : List Int} {d : Nat} {Q : Vv → MM → Prop} (v3 : Int) (M : MM) (h : brA (decide ((w32 ((((xar sc 2).length : Int)) - 6)) < v3))
  (Q (vi 1) M)
  (gAnd (decide (0 ≤ v3) && decide (v3 < ((xar sc 2).length : Int))) (((bAnd ((xar sc 2).getD v3.toNat 0) 31) = 0 → WP F0z sc YF (d + 1) m_L_law 22 [] [none, some (vr 0), some (vr 81), some (vi v3)] M Q) ∧
   ((bAnd ((xar sc 2).getD v3.toNat 0) 31) ≠ 0 → ((bAnd ((xar sc 2).getD v3.toNat 0) 31) = 1 → WP F0z sc YF (d + 1) m_L_law 79 [] [none, some (vr 0), some (vr 81), some (vi v3)] M Q) ∧
   ((bAnd ((xar sc 2).getD v3.toNat 0) 31) ≠ 1 → ((bAnd ((xar sc 2).getD v3.toNat 0) 31) = 2 → WP F0z sc YF (d + 1) m_L_law 96 [] [none, some (vr 0), some (vr 81), some (vi v3)] M Q) ∧
   ((bAnd ((xar sc 2).getD v3.toNat 0) 31) ≠ 2 → ((bAnd ((xar sc 2).getD v3.toNat 0) 31) = 3 → WP F0z sc YF (d + 1) m_L_law 123 [] [none, some (vr 0), some (vr 81), some (vi v3)] M Q) ∧
   ((bAnd ((xar sc 2).getD v3.toNat 0) 31) ≠ 3 → ((bAnd ((xar sc 2).getD v3.toNat 0) 31) = 4 → WP F0z sc YF (d + 1) m_L_law 140 [] [none, some (vr 0), some (vr 81), some (vi v3)] M Q) ∧
   ((bAnd ((xar sc 2).getD v3.toNat 0) 31) ≠ 4 → ((bAnd ((xar sc 2).getD v3.toNat 0) 31) = 5 → WP F0z sc YF (d + 1) m_L_law 187 [] [none, some (vr 0), some (vr 81), some (vi v3)] M Q) ∧
   ((bAnd ((xar sc 2).getD v3.toNat 0) 31) ≠ 5 → ((bAnd ((xar sc 2).getD v3.toNat 0) 31) = 6 → WP F0z sc YF (d + 1) m_L_law 222 [] [none, some (vr 0), some (vr 81), some (vi v3)] M Q) ∧
   ((bAnd ((xar sc 2).getD v3.toNat 0) 31) ≠ 6 → ((bAnd ((xar sc 2).getD v3.toNat 0) 31) = 7 → WP F0z sc YF (d + 1) m_L_law 239 [] [none, some (vr 0), some (vr 81), some (vi v3)] M Q) ∧
   ((bAnd ((xar sc 2).getD v3.toNat 0) 31) ≠ 7 → ((bAnd ((xar sc 2).getD v3.toNat 0) 31) = 8 → WP F0z sc YF (d + 1) m_L_law 256 [] [none, some (vr 0), some (vr 81), some (vi v3)] M Q) ∧
   ((bAnd ((xar sc 2).getD v3.toNat 0) 31) ≠ 8 → ((bAnd ((xar sc 2).getD v3.toNat 0) 31) = 9 → WP F0z sc YF (d + 1) m_L_law 283 [] [none, some (vr 0), some (vr 81), some (vi v3)] M Q) ∧
   ((bAnd ((xar sc 2).getD v3.toNat 0) 31) ≠ 9 → ((bAnd ((xar sc 2).getD v3.toNat 0) 31) = 10 → WP F0z sc YF (d + 1) m_L_law 310 [] [none, some (vr 0), some (vr 81), some (vi v3)] M Q) ∧
   ((bAnd ((xar sc 2).getD v3.toNat 0) 31) ≠ 10 → ((bAnd ((xar sc 2).getD v3.toNat 0) 31) = 11 → WP F0z sc YF (d + 1) m_L_law 337 [] [none, some (vr 0), some (vr 81), some (vi v3)] M Q) ∧
   ((bAnd ((xar sc 2).getD v3.toNat 0) 31) ≠ 11 → ((bAnd ((xar sc 2).getD v3.toNat 0) 31) = 12 → WP F0z sc YF (d + 1) m_L_law 374 [] [none, some (vr 0), some (vr 81), some (vi v3)] M Q) ∧
   ((bAnd ((xar sc 2).getD v3.toNat 0) 31) ≠ 12 → ((bAnd ((xar sc 2).getD v3.toNat 0) 31) = 13 → WP F0z sc YF (d + 1) m_L_law 411 [] [none, some (vr 0), some (vr 81), some (vi v3)] M Q) ∧
   ((bAnd ((xar sc 2).getD v3.toNat 0) 31) ≠ 13 → ((bAnd ((xar sc 2).getD v3.toNat 0) 31) = 14 → WP F0z sc YF (d + 1) m_L_law 448 [] [none, some (vr 0), some (vr 81), some (vi v3)] M Q) ∧
   ((bAnd ((xar sc 2).getD v3.toNat 0) 31) ≠ 14 → ((bAnd ((xar sc 2).getD v3.toNat 0) 31) = 15 → WP F0z sc YF (d + 1) m_L_law 465 [] [none, some (vr 0), some (vr 81), some (vi v3)] M Q) ∧
   ((bAnd ((xar sc 2).getD v3.toNat 0) 31) ≠ 15 → ((bAnd ((xar sc 2).getD v3.toNat 0) 31) = 16 → WP F0z sc YF (d + 1) m_L_law 492 [] [none, some (vr 0), some (vr 81), some (vi v3)] M Q) ∧
   ((bAnd ((xar sc 2).getD v3.toNat 0) 31) ≠ 16 → ((bAnd ((xar sc 2).getD v3.toNat 0) 31) = 17 → WP F0z sc YF (d + 1) m_L_law 519 [] [none, some (vr 0), some (vr 81), some (vi v3)] M Q) ∧
   ((bAnd ((xar sc 2).getD v3.toNat 0) 31) ≠ 17 → ((bAnd ((xar sc 2).getD v3.toNat 0) 31) = 18 → WP F0z sc YF (d + 1) m_L_law 566 [] [none, some (vr 0), some (vr 81), some (vi v3)] M Q) ∧
   ((bAnd ((xar sc 2).getD v3.toNat 0) 31) ≠ 18 → ((bAnd ((xar sc 2).getD v3.toNat 0) 31) = 19 → WP F0z sc YF (d + 1) m_L_law 593 [] [none, some (vr 0), some (vr 81), some (vi v3)] M Q) ∧
   ((bAnd ((xar sc 2).getD v3.toNat 0) 31) ≠ 19 → ((bAnd ((xar sc 2).getD v3.toNat 0) 31) = 20 → WP F0z sc YF (d + 1) m_L_law 631 [] [none, some (vr 0), some (vr 81), some (vi v3)] M Q) ∧
   ((bAnd ((xar sc 2).getD v3.toNat 0) 31) ≠ 20 → ((bAnd ((xar sc 2).getD v3.toNat 0) 31) = 21 → WP F0z sc YF (d + 1) m_L_law 648 [] [none, some (vr 0), some (vr 81), some (vi v3)] M Q) ∧
   ((bAnd ((xar sc 2).getD v3.toNat 0) 31) ≠ 21 → ((bAnd ((xar sc 2).getD v3.toNat 0) 31) = 22 → WP F0z sc YF (d + 1) m_L_law 665 [] [none, some (vr 0), some (vr 81), some (vi v3)] M Q) ∧
   ((bAnd ((xar sc 2).getD v3.toNat 0) 31) ≠ 22 → ((bAnd ((xar sc 2).getD v3.toNat 0) 31) = 23 → WP F0z sc YF (d + 1) m_L_law 692 [] [none, some (vr 0), some (vr 81), some (vi v3)] M Q) ∧
   ((bAnd ((xar sc 2).getD v3.toNat 0) 31) ≠ 23 → ((bAnd ((xar sc 2).getD v3.toNat 0) 31) = 24 → WP F0z sc YF (d + 1) m_L_law 739 [] [none, some (vr 0), some (vr 81), some (vi v3)] M Q) ∧
   ((bAnd ((xar sc 2).getD v3.toNat 0) 31) ≠ 24 → ((bAnd ((xar sc 2).getD v3.toNat 0) 31) = 25 → WP F0z sc YF (d + 1) m_L_law 756 [] [none, some (vr 0), some (vr 81), some (vi v3)] M Q) ∧
   ((bAnd ((xar sc 2).getD v3.toNat 0) 31) ≠ 25 → ((bAnd ((xar sc 2).getD v3.toNat 0) 31) = 26 → WP F0z sc YF (d + 1) m_L_law 763 [] [none, some (vr 0), some (vr 81), some (vi v3)] M Q) ∧
   ((bAnd ((xar sc 2).getD v3.toNat 0) 31) ≠ 26 → ((bAnd ((xar sc 2).getD v3.toNat 0) 31) = 27 → WP F0z sc YF (d + 1) m_L_law 770 [] [none, some (vr 0), some (vr 81), some (vi v3)] M Q) ∧
   ((bAnd ((xar sc 2).getD v3.toNat 0) 31) ≠ 27 → ((bAnd ((xar sc 2).getD v3.toNat 0) 31) = 28 → WP F0z sc YF (d + 1) m_L_law 787 [] [none, some (vr 0), some (vr 81), some (vi v3)] M Q) ∧
   ((bAnd ((xar sc 2).getD v3.toNat 0) 31) ≠ 28 → WP F0z sc YF (d + 1) m_L_law 804 [] [none, some (vr 0), some (vr 81), some (vi v3)] M Q)))))))))))))))))))))))))))))))) : WP F0z sc YF (d + 1) m_L_law 10 [] [none, some (vr 0), some (vr 81), some (vi v3)] M Q := wp_go rfl cutL 813 h
set_option maxRecDepth 100000 in
theorem rg_L_law_22 {sc : List Int} {d : Nat} {Q : Vv → MM → Prop} (v3 : Int) (M : MM) (h : gAnd (decide (0 ≤ (w32 (v3 + 1))) && decide ((w32 (v3 + 1)) < ((xar sc 2).length : Int))) (gAnd (decide (0 ≤ (w32 (v3 + 2))) && decide ((w32 (v3 + 2)) < ((xar sc 2).length : Int))) (gAnd (decide (0 ≤ (w32 (v3 + 3))) && decide ((w32 (v3 + 3)) < ((xar sc 2).length : Int))) (gAnd (decide (0 ≤ (w32 (v3 + 4))) && decide ((w32 (v3 + 4)) < ((xar sc 2).length : Int))) (gAnd (decide (0 ≤ (w32 (v3 + 5))) && decide ((w32 (v3 + 5)) < ((xar sc 2).length : Int))) (CA F0z sc YF d m_X11_feed [vr 0, vi ((xar sc 2).getD (w32 (v3 + 1)).toNat 0), vi ((xar sc 2).getD (w32 (v3 + 2)).toNat 0), vi ((xar sc 2).getD (w32 (v3 + 3)).toNat 0), vi ((xar sc 2).getD (w32 (v3 + 4)).toNat 0), vi ((xar sc 2).getD (w32 (v3 + 5)).toNat 0)] M (cI fun r2 M1 =>
  gAnd (decide (0 ≤ (w32 (v3 + 1))) && decide ((w32 (v3 + 1)) < ((xar sc 2).length : Int))) (gAnd (decide (0 ≤ (w32 (v3 + 2))) && decide ((w32 (v3 + 2)) < ((xar sc 2).length : Int))) (gAnd (decide (0 ≤ (w32 (v3 + 3))) && decide ((w32 (v3 + 3)) < ((xar sc 2).length : Int))) (gAnd (decide (0 ≤ (w32 (v3 + 4))) && decide ((w32 (v3 + 4)) < ((xar sc 2).length : Int))) (gAnd (decide (0 ≤ (w32 (v3 + 5))) && decide ((w32 (v3 + 5)) < ((xar sc 2).length : Int))) (CA F0z sc YF d m_X12_feed [vr 81, vi ((xar sc 2).getD (w32 (v3 + 1)).toNat 0), vi ((xar sc 2).getD (w32 (v3 + 2)).toNat 0), vi ((xar sc 2).getD (w32 (v3 + 3)).toNat 0), vi ((xar sc 2).getD (w32 (v3 + 4)).toNat 0), vi ((xar sc 2).getD (w32 (v3 + 5)).toNat 0)] M1 (cI fun r4 M3 =>
   brA (decide (r2 = r4))
    (WP F0z sc YF (d + 1) m_L_law 804 [] [none, some (vr 0), some (vr 81), some (vi v3)] M3 Q)
    (Q (vi 0) M3)))))))))))))) : WP F0z sc YF (d + 1) m_L_law 22 [] [none, some (vr 0), some (vr 81), some (vi v3)] M Q := wp_go rfl cutL 813 h
set_option maxRecDepth 100000 in
theorem rg_L_law_79 {sc : List Int} {d : Nat} {Q : Vv → MM → Prop} (v3 : Int) (M : MM) (h : gAnd (decide (0 ≤ (w32 (v3 + 1))) && decide ((w32 (v3 + 1)) < ((xar sc 2).length : Int))) (CA F0z sc YF d m_X11_quarter [vr 0, vi ((xar sc 2).getD (w32 (v3 + 1)).toNat 0)] M (cI fun r2 M1 =>
  gAnd (decide (0 ≤ (w32 (v3 + 1))) && decide ((w32 (v3 + 1)) < ((xar sc 2).length : Int))) (CA F0z sc YF d m_X12_quarter [vr 81, vi ((xar sc 2).getD (w32 (v3 + 1)).toNat 0)] M1 (cI fun r4 M3 =>
   brA (decide (r2 = r4))
    (WP F0z sc YF (d + 1) m_L_law 804 [] [none, some (vr 0), some (vr 81), some (vi v3)] M3 Q)
    (Q (vi 0) M3)))))) : WP F0z sc YF (d + 1) m_L_law 79 [] [none, some (vr 0), some (vr 81), some (vi v3)] M Q := wp_go rfl cutL 813 h
set_option maxRecDepth 100000 in
theorem rg_L_law_96 {sc : List Int} {d : Nat} {Q : Vv → MM → Prop} (v3 : Int) (M : MM) (h : gAnd (decide (0 ≤ (w32 (v3 + 1))) && decide ((w32 (v3 + 1)) < ((xar sc 2).length : Int))) (gAnd (decide (0 ≤ (w32 (v3 + 2))) && decide ((w32 (v3 + 2)) < ((xar sc 2).length : Int))) (CA F0z sc YF d m_X11_walk [vr 0, vi ((xar sc 2).getD (w32 (v3 + 1)).toNat 0), vi ((xar sc 2).getD (w32 (v3 + 2)).toNat 0)] M (cI fun r2 M1 =>
  gAnd (decide (0 ≤ (w32 (v3 + 1))) && decide ((w32 (v3 + 1)) < ((xar sc 2).length : Int))) (gAnd (decide (0 ≤ (w32 (v3 + 2))) && decide ((w32 (v3 + 2)) < ((xar sc 2).length : Int))) (CA F0z sc YF d m_X12_walk [vr 81, vi ((xar sc 2).getD (w32 (v3 + 1)).toNat 0), vi ((xar sc 2).getD (w32 (v3 + 2)).toNat 0)] M1 (cI fun r4 M3 =>
   brA (decide (r2 = r4))
    (WP F0z sc YF (d + 1) m_L_law 804 [] [none, some (vr 0), some (vr 81), some (vi v3)] M3 Q)
    (Q (vi 0) M3)))))))) : WP F0z sc YF (d + 1) m_L_law 96 [] [none, some (vr 0), some (vr 81), some (vi v3)] M Q := wp_go rfl cutL 813 h
set_option maxRecDepth 100000 in
theorem rg_L_law_123 {sc : List Int} {d : Nat} {Q : Vv → MM → Prop} (v3 : Int) (M : MM) (h : gAnd (decide (0 ≤ (w32 (v3 + 1))) && decide ((w32 (v3 + 1)) < ((xar sc 2).length : Int))) (CA F0z sc YF d m_X11_law [vr 0, vi ((xar sc 2).getD (w32 (v3 + 1)).toNat 0)] M (cI fun r2 M1 =>
  gAnd (decide (0 ≤ (w32 (v3 + 1))) && decide ((w32 (v3 + 1)) < ((xar sc 2).length : Int))) (CA F0z sc YF d m_X12_law [vr 81, vi ((xar sc 2).getD (w32 (v3 + 1)).toNat 0)] M1 (cI fun r4 M3 =>
   brA (decide (r2 = r4))
    (WP F0z sc YF (d + 1) m_L_law 804 [] [none, some (vr 0), some (vr 81), some (vi v3)] M3 Q)
    (Q (vi 0) M3)))))) : WP F0z sc YF (d + 1) m_L_law 123 [] [none, some (vr 0), some (vr 81), some (vi v3)] M Q := wp_go rfl cutL 813 h
set_option maxRecDepth 100000 in
theorem rg_L_law_140 {sc : List Int} {d : Nat} {Q : Vv → MM → Prop} (v3 : Int) (M : MM) (h : gAnd (decide (0 ≤ (w32 (v3 + 1))) && decide ((w32 (v3 + 1)) < ((xar sc 2).length : Int))) (gAnd (decide (0 ≤ (w32 (v3 + 2))) && decide ((w32 (v3 + 2)) < ((xar sc 2).length : Int))) (gAnd (decide (0 ≤ (w32 (v3 + 3))) && decide ((w32 (v3 + 3)) < ((xar sc 2).length : Int))) (gAnd (decide (0 ≤ (w32 (v3 + 4))) && decide ((w32 (v3 + 4)) < ((xar sc 2).length : Int))) (CA F0z sc YF d m_X11_stranger [vr 0, vi ((xar sc 2).getD (w32 (v3 + 1)).toNat 0), vi ((xar sc 2).getD (w32 (v3 + 2)).toNat 0), vi ((xar sc 2).getD (w32 (v3 + 3)).toNat 0), vi ((xar sc 2).getD (w32 (v3 + 4)).toNat 0)] M (cI fun r2 M1 =>
  gAnd (decide (0 ≤ (w32 (v3 + 1))) && decide ((w32 (v3 + 1)) < ((xar sc 2).length : Int))) (gAnd (decide (0 ≤ (w32 (v3 + 2))) && decide ((w32 (v3 + 2)) < ((xar sc 2).length : Int))) (gAnd (decide (0 ≤ (w32 (v3 + 3))) && decide ((w32 (v3 + 3)) < ((xar sc 2).length : Int))) (gAnd (decide (0 ≤ (w32 (v3 + 4))) && decide ((w32 (v3 + 4)) < ((xar sc 2).length : Int))) (CA F0z sc YF d m_X12_stranger [vr 81, vi ((xar sc 2).getD (w32 (v3 + 1)).toNat 0), vi ((xar sc 2).getD (w32 (v3 + 2)).toNat 0), vi ((xar sc 2).getD (w32 (v3 + 3)).toNat 0), vi ((xar sc 2).getD (w32 (v3 + 4)).toNat 0)] M1 (cI fun r4 M3 =>
   brA (decide (r2 = r4))
    (WP F0z sc YF (d + 1) m_L_law 804 [] [none, some (vr 0), some (vr 81), some (vi v3)] M3 Q)
    (Q (vi 0) M3)))))))))))) : WP F0z sc YF (d + 1) m_L_law 140 [] [none, some (vr 0), some (vr 81), some (vi v3)] M Q := wp_go rfl cutL 813 h
set_option maxRecDepth 100000 in
theorem rg_L_law_187 {sc : List Int} {d : Nat} {Q : Vv → MM → Prop} (v3 : Int) (M : MM) (h : gAnd (decide (0 ≤ (w32 (v3 + 1))) && decide ((w32 (v3 + 1)) < ((xar sc 2).length : Int))) (gAnd (decide (0 ≤ (w32 (v3 + 2))) && decide ((w32 (v3 + 2)) < ((xar sc 2).length : Int))) (brA (decide (((xar sc 2).getD (w32 (v3 + 2)).toNat 0) = 0))
  (CA F0z sc YF d m_X11_dog [vr 0, vi ((xar sc 2).getD (w32 (v3 + 1)).toNat 0), vi 0] M (cI fun r2 M1 =>
   gAnd (decide (0 ≤ (w32 (v3 + 1))) && decide ((w32 (v3 + 1)) < ((xar sc 2).length : Int))) (gAnd (decide (0 ≤ (w32 (v3 + 2))) && decide ((w32 (v3 + 2)) < ((xar sc 2).length : Int))) (brA (decide (((xar sc 2).getD (w32 (v3 + 2)).toNat 0) = 0))
    (CA F0z sc YF d m_X12_dog [vr 81, vi ((xar sc 2).getD (w32 (v3 + 1)).toNat 0), vi 0] M1 (cI fun r4 M3 =>
     brA (decide (r2 = r4))
      (WP F0z sc YF (d + 1) m_L_law 804 [] [none, some (vr 0), some (vr 81), some (vi v3)] M3 Q)
      (Q (vi 0) M3)))
    (CA F0z sc YF d m_X12_dog [vr 81, vi ((xar sc 2).getD (w32 (v3 + 1)).toNat 0), vi 1] M1 (cI fun r6 M5 =>
     brA (decide (r2 = r6))
      (WP F0z sc YF (d + 1) m_L_law 804 [] [none, some (vr 0), some (vr 81), some (vi v3)] M5 Q)
      (Q (vi 0) M5)))))))
  (CA F0z sc YF d m_X11_dog [vr 0, vi ((xar sc 2).getD (w32 (v3 + 1)).toNat 0), vi 1] M (cI fun r8 M7 =>
   gAnd (decide (0 ≤ (w32 (v3 + 1))) && decide ((w32 (v3 + 1)) < ((xar sc 2).length : Int))) (gAnd (decide (0 ≤ (w32 (v3 + 2))) && decide ((w32 (v3 + 2)) < ((xar sc 2).length : Int))) (brA (decide (((xar sc 2).getD (w32 (v3 + 2)).toNat 0) = 0))
    (CA F0z sc YF d m_X12_dog [vr 81, vi ((xar sc 2).getD (w32 (v3 + 1)).toNat 0), vi 0] M7 (cI fun r10 M9 =>
     brA (decide (r8 = r10))
      (WP F0z sc YF (d + 1) m_L_law 804 [] [none, some (vr 0), some (vr 81), some (vi v3)] M9 Q)
      (Q (vi 0) M9)))
    (CA F0z sc YF d m_X12_dog [vr 81, vi ((xar sc 2).getD (w32 (v3 + 1)).toNat 0), vi 1] M7 (cI fun r12 M11 =>
     brA (decide (r8 = r12))
      (WP F0z sc YF (d + 1) m_L_law 804 [] [none, some (vr 0), some (vr 81), some (vi v3)] M11 Q)
      (Q (vi 0) M11)))))))))) : WP F0z sc YF (d + 1) m_L_law 187 [] [none, some (vr 0), some (vr 81), some (vi v3)] M Q := wp_go rfl cutL 813 h
set_option maxRecDepth 100000 in
theorem rg_L_law_222 {sc : List Int} {d : Nat} {Q : Vv → MM → Prop} (v3 : Int) (M : MM) (h : gAnd (decide (0 ≤ (w32 (v3 + 1))) && decide ((w32 (v3 + 1)) < ((xar sc 2).length : Int))) (CA F0z sc YF d m_X11_tells [vr 0, vi ((xar sc 2).getD (w32 (v3 + 1)).toNat 0)] M (cI fun r2 M1 =>
  gAnd (decide (0 ≤ (w32 (v3 + 1))) && decide ((w32 (v3 + 1)) < ((xar sc 2).length : Int))) (CA F0z sc YF d m_X12_tells [vr 81, vi ((xar sc 2).getD (w32 (v3 + 1)).toNat 0)] M1 (cI fun r4 M3 =>
   brA (decide (r2 = r4))
    (WP F0z sc YF (d + 1) m_L_law 804 [] [none, some (vr 0), some (vr 81), some (vi v3)] M3 Q)
    (Q (vi 0) M3)))))) : WP F0z sc YF (d + 1) m_L_law 222 [] [none, some (vr 0), some (vr 81), some (vi v3)] M Q := wp_go rfl cutL 813 h
set_option maxRecDepth 100000 in
theorem rg_L_law_239 {sc : List Int} {d : Nat} {Q : Vv → MM → Prop} (v3 : Int) (M : MM) (h : gAnd (decide (0 ≤ (w32 (v3 + 1))) && decide ((w32 (v3 + 1)) < ((xar sc 2).length : Int))) (CA F0z sc YF d m_X11_haunts [vr 0, vi ((xar sc 2).getD (w32 (v3 + 1)).toNat 0)] M (cI fun r2 M1 =>
  gAnd (decide (0 ≤ (w32 (v3 + 1))) && decide ((w32 (v3 + 1)) < ((xar sc 2).length : Int))) (CA F0z sc YF d m_X12_haunts [vr 81, vi ((xar sc 2).getD (w32 (v3 + 1)).toNat 0)] M1 (cI fun r4 M3 =>
   brA (decide (r2 = r4))
    (WP F0z sc YF (d + 1) m_L_law 804 [] [none, some (vr 0), some (vr 81), some (vi v3)] M3 Q)
    (Q (vi 0) M3)))))) : WP F0z sc YF (d + 1) m_L_law 239 [] [none, some (vr 0), some (vr 81), some (vi v3)] M Q := wp_go rfl cutL 813 h
set_option maxRecDepth 100000 in
theorem rg_L_law_256 {sc : List Int} {d : Nat} {Q : Vv → MM → Prop} (v3 : Int) (M : MM) (h : gAnd (decide (0 ≤ (w32 (v3 + 1))) && decide ((w32 (v3 + 1)) < ((xar sc 2).length : Int))) (gAnd (decide (0 ≤ (w32 (v3 + 2))) && decide ((w32 (v3 + 2)) < ((xar sc 2).length : Int))) (CA F0z sc YF d m_X11_tried [vr 0, vi ((xar sc 2).getD (w32 (v3 + 1)).toNat 0), vi ((xar sc 2).getD (w32 (v3 + 2)).toNat 0)] M (cI fun r2 M1 =>
  gAnd (decide (0 ≤ (w32 (v3 + 1))) && decide ((w32 (v3 + 1)) < ((xar sc 2).length : Int))) (gAnd (decide (0 ≤ (w32 (v3 + 2))) && decide ((w32 (v3 + 2)) < ((xar sc 2).length : Int))) (CA F0z sc YF d m_X12_tried [vr 81, vi ((xar sc 2).getD (w32 (v3 + 1)).toNat 0), vi ((xar sc 2).getD (w32 (v3 + 2)).toNat 0)] M1 (cI fun r4 M3 =>
   brA (decide (r2 = r4))
    (WP F0z sc YF (d + 1) m_L_law 804 [] [none, some (vr 0), some (vr 81), some (vi v3)] M3 Q)
    (Q (vi 0) M3)))))))) : WP F0z sc YF (d + 1) m_L_law 256 [] [none, some (vr 0), some (vr 81), some (vi v3)] M Q := wp_go rfl cutL 813 h
set_option maxRecDepth 100000 in
theorem rg_L_law_283 {sc : List Int} {d : Nat} {Q : Vv → MM → Prop} (v3 : Int) (M : MM) (h : gAnd (decide (0 ≤ (w32 (v3 + 1))) && decide ((w32 (v3 + 1)) < ((xar sc 2).length : Int))) (gAnd (decide (0 ≤ (w32 (v3 + 2))) && decide ((w32 (v3 + 2)) < ((xar sc 2).length : Int))) (CA F0z sc YF d m_X11_strangerIs [vr 0, vi ((xar sc 2).getD (w32 (v3 + 1)).toNat 0), vi ((xar sc 2).getD (w32 (v3 + 2)).toNat 0)] M (cI fun r2 M1 =>
  gAnd (decide (0 ≤ (w32 (v3 + 1))) && decide ((w32 (v3 + 1)) < ((xar sc 2).length : Int))) (gAnd (decide (0 ≤ (w32 (v3 + 2))) && decide ((w32 (v3 + 2)) < ((xar sc 2).length : Int))) (CA F0z sc YF d m_X12_strangerIs [vr 81, vi ((xar sc 2).getD (w32 (v3 + 1)).toNat 0), vi ((xar sc 2).getD (w32 (v3 + 2)).toNat 0)] M1 (cI fun r4 M3 =>
   brA (decide (r2 = r4))
    (WP F0z sc YF (d + 1) m_L_law 804 [] [none, some (vr 0), some (vr 81), some (vi v3)] M3 Q)
    (Q (vi 0) M3)))))))) : WP F0z sc YF (d + 1) m_L_law 283 [] [none, some (vr 0), some (vr 81), some (vi v3)] M Q := wp_go rfl cutL 813 h
set_option maxRecDepth 100000 in
theorem rg_L_law_310 {sc : List Int} {d : Nat} {Q : Vv → MM → Prop} (v3 : Int) (M : MM) (h : gAnd (decide (0 ≤ (w32 (v3 + 1))) && decide ((w32 (v3 + 1)) < ((xar sc 2).length : Int))) (gAnd (decide (0 ≤ (w32 (v3 + 2))) && decide ((w32 (v3 + 2)) < ((xar sc 2).length : Int))) (CA F0z sc YF d m_X11_houseIs [vr 0, vi ((xar sc 2).getD (w32 (v3 + 1)).toNat 0), vi ((xar sc 2).getD (w32 (v3 + 2)).toNat 0)] M (cI fun r2 M1 =>
  gAnd (decide (0 ≤ (w32 (v3 + 1))) && decide ((w32 (v3 + 1)) < ((xar sc 2).length : Int))) (gAnd (decide (0 ≤ (w32 (v3 + 2))) && decide ((w32 (v3 + 2)) < ((xar sc 2).length : Int))) (CA F0z sc YF d m_X12_houseIs [vr 81, vi ((xar sc 2).getD (w32 (v3 + 1)).toNat 0), vi ((xar sc 2).getD (w32 (v3 + 2)).toNat 0)] M1 (cI fun r4 M3 =>
   brA (decide (r2 = r4))
    (WP F0z sc YF (d + 1) m_L_law 804 [] [none, some (vr 0), some (vr 81), some (vi v3)] M3 Q)
    (Q (vi 0) M3)))))))) : WP F0z sc YF (d + 1) m_L_law 310 [] [none, some (vr 0), some (vr 81), some (vi v3)] M Q := wp_go rfl cutL 813 h
set_option maxRecDepth 100000 in
theorem rg_L_law_337 {sc : List Int} {d : Nat} {Q : Vv → MM → Prop} (v3 : Int) (M : MM) (h : gAnd (decide (0 ≤ (w32 (v3 + 1))) && decide ((w32 (v3 + 1)) < ((xar sc 2).length : Int))) (gAnd (decide (0 ≤ (w32 (v3 + 2))) && decide ((w32 (v3 + 2)) < ((xar sc 2).length : Int))) (gAnd (decide (0 ≤ (w32 (v3 + 3))) && decide ((w32 (v3 + 3)) < ((xar sc 2).length : Int))) (CA F0z sc YF d m_X11_meet [vr 0, vi ((xar sc 2).getD (w32 (v3 + 1)).toNat 0), vi ((xar sc 2).getD (w32 (v3 + 2)).toNat 0), vi ((xar sc 2).getD (w32 (v3 + 3)).toNat 0)] M (cI fun r2 M1 =>
  gAnd (decide (0 ≤ (w32 (v3 + 1))) && decide ((w32 (v3 + 1)) < ((xar sc 2).length : Int))) (gAnd (decide (0 ≤ (w32 (v3 + 2))) && decide ((w32 (v3 + 2)) < ((xar sc 2).length : Int))) (gAnd (decide (0 ≤ (w32 (v3 + 3))) && decide ((w32 (v3 + 3)) < ((xar sc 2).length : Int))) (CA F0z sc YF d m_X12_meet [vr 81, vi ((xar sc 2).getD (w32 (v3 + 1)).toNat 0), vi ((xar sc 2).getD (w32 (v3 + 2)).toNat 0), vi ((xar sc 2).getD (w32 (v3 + 3)).toNat 0)] M1 (cI fun r4 M3 =>
   brA (decide (r2 = r4))
    (WP F0z sc YF (d + 1) m_L_law 804 [] [none, some (vr 0), some (vr 81), some (vi v3)] M3 Q)
    (Q (vi 0) M3)))))))))) : WP F0z sc YF (d + 1) m_L_law 337 [] [none, some (vr 0), some (vr 81), some (vi v3)] M Q := wp_go rfl cutL 813 h
set_option maxRecDepth 100000 in
theorem rg_L_law_374 {sc : List Int} {d : Nat} {Q : Vv → MM → Prop} (v3 : Int) (M : MM) (h : gAnd (decide (0 ≤ (w32 (v3 + 1))) && decide ((w32 (v3 + 1)) < ((xar sc 2).length : Int))) (gAnd (decide (0 ≤ (w32 (v3 + 2))) && decide ((w32 (v3 + 2)) < ((xar sc 2).length : Int))) (gAnd (decide (0 ≤ (w32 (v3 + 3))) && decide ((w32 (v3 + 3)) < ((xar sc 2).length : Int))) (CA F0z sc YF d m_X11_dread [vr 0, vi ((xar sc 2).getD (w32 (v3 + 1)).toNat 0), vi ((xar sc 2).getD (w32 (v3 + 2)).toNat 0), vi ((xar sc 2).getD (w32 (v3 + 3)).toNat 0)] M (cI fun r2 M1 =>
  gAnd (decide (0 ≤ (w32 (v3 + 1))) && decide ((w32 (v3 + 1)) < ((xar sc 2).length : Int))) (gAnd (decide (0 ≤ (w32 (v3 + 2))) && decide ((w32 (v3 + 2)) < ((xar sc 2).length : Int))) (gAnd (decide (0 ≤ (w32 (v3 + 3))) && decide ((w32 (v3 + 3)) < ((xar sc 2).length : Int))) (CA F0z sc YF d m_X12_dread [vr 81, vi ((xar sc 2).getD (w32 (v3 + 1)).toNat 0), vi ((xar sc 2).getD (w32 (v3 + 2)).toNat 0), vi ((xar sc 2).getD (w32 (v3 + 3)).toNat 0)] M1 (cI fun r4 M3 =>
   brA (decide (r2 = r4))
    (WP F0z sc YF (d + 1) m_L_law 804 [] [none, some (vr 0), some (vr 81), some (vi v3)] M3 Q)
    (Q (vi 0) M3)))))))))) : WP F0z sc YF (d + 1) m_L_law 374 [] [none, some (vr 0), some (vr 81), some (vi v3)] M Q := wp_go rfl cutL 813 h
set_option maxRecDepth 100000 in
theorem rg_L_law_411 {sc : List Int} {d : Nat} {Q : Vv → MM → Prop} (v3 : Int) (M : MM) (h : gAnd (decide (0 ≤ (w32 (v3 + 1))) && decide ((w32 (v3 + 1)) < ((xar sc 2).length : Int))) (gAnd (decide (0 ≤ (w32 (v3 + 2))) && decide ((w32 (v3 + 2)) < ((xar sc 2).length : Int))) (gAnd (decide (0 ≤ (w32 (v3 + 3))) && decide ((w32 (v3 + 3)) < ((xar sc 2).length : Int))) (CA F0z sc YF d m_X11_unseen [vr 0, vi ((xar sc 2).getD (w32 (v3 + 1)).toNat 0), vi ((xar sc 2).getD (w32 (v3 + 2)).toNat 0), vi ((xar sc 2).getD (w32 (v3 + 3)).toNat 0)] M (cI fun r2 M1 =>
  gAnd (decide (0 ≤ (w32 (v3 + 1))) && decide ((w32 (v3 + 1)) < ((xar sc 2).length : Int))) (gAnd (decide (0 ≤ (w32 (v3 + 2))) && decide ((w32 (v3 + 2)) < ((xar sc 2).length : Int))) (gAnd (decide (0 ≤ (w32 (v3 + 3))) && decide ((w32 (v3 + 3)) < ((xar sc 2).length : Int))) (CA F0z sc YF d m_X12_unseen [vr 81, vi ((xar sc 2).getD (w32 (v3 + 1)).toNat 0), vi ((xar sc 2).getD (w32 (v3 + 2)).toNat 0), vi ((xar sc 2).getD (w32 (v3 + 3)).toNat 0)] M1 (cI fun r4 M3 =>
   brA (decide (r2 = r4))
    (WP F0z sc YF (d + 1) m_L_law 804 [] [none, some (vr 0), some (vr 81), some (vi v3)] M3 Q)
    (Q (vi 0) M3)))))))))) : WP F0z sc YF (d + 1) m_L_law 411 [] [none, some (vr 0), some (vr 81), some (vi v3)] M Q := wp_go rfl cutL 813 h
set_option maxRecDepth 100000 in
theorem rg_L_law_448 {sc : List Int} {d : Nat} {Q : Vv → MM → Prop} (v3 : Int) (M : MM) (h : gAnd (decide (0 ≤ (w32 (v3 + 1))) && decide ((w32 (v3 + 1)) < ((xar sc 2).length : Int))) (CA F0z sc YF d m_X11_watch [vr 0, vi ((xar sc 2).getD (w32 (v3 + 1)).toNat 0)] M (cI fun r2 M1 =>
  gAnd (decide (0 ≤ (w32 (v3 + 1))) && decide ((w32 (v3 + 1)) < ((xar sc 2).length : Int))) (CA F0z sc YF d m_X12_watch [vr 81, vi ((xar sc 2).getD (w32 (v3 + 1)).toNat 0)] M1 (cI fun r4 M3 =>
   brA (decide (r2 = r4))
    (WP F0z sc YF (d + 1) m_L_law 804 [] [none, some (vr 0), some (vr 81), some (vi v3)] M3 Q)
    (Q (vi 0) M3)))))) : WP F0z sc YF (d + 1) m_L_law 448 [] [none, some (vr 0), some (vr 81), some (vi v3)] M Q := wp_go rfl cutL 813 h
set_option maxRecDepth 100000 in
theorem rg_L_law_465 {sc : List Int} {d : Nat} {Q : Vv → MM → Prop} (v3 : Int) (M : MM) (h : gAnd (decide (0 ≤ (w32 (v3 + 1))) && decide ((w32 (v3 + 1)) < ((xar sc 2).length : Int))) (gAnd (decide (0 ≤ (w32 (v3 + 2))) && decide ((w32 (v3 + 2)) < ((xar sc 2).length : Int))) (CA F0z sc YF d m_X11_feared [vr 0, vi ((xar sc 2).getD (w32 (v3 + 1)).toNat 0), vi ((xar sc 2).getD (w32 (v3 + 2)).toNat 0)] M (cI fun r2 M1 =>
  gAnd (decide (0 ≤ (w32 (v3 + 1))) && decide ((w32 (v3 + 1)) < ((xar sc 2).length : Int))) (gAnd (decide (0 ≤ (w32 (v3 + 2))) && decide ((w32 (v3 + 2)) < ((xar sc 2).length : Int))) (CA F0z sc YF d m_X12_feared [vr 81, vi ((xar sc 2).getD (w32 (v3 + 1)).toNat 0), vi ((xar sc 2).getD (w32 (v3 + 2)).toNat 0)] M1 (cI fun r4 M3 =>
   brA (decide (r2 = r4))
    (WP F0z sc YF (d + 1) m_L_law 804 [] [none, some (vr 0), some (vr 81), some (vi v3)] M3 Q)
    (Q (vi 0) M3)))))))) : WP F0z sc YF (d + 1) m_L_law 465 [] [none, some (vr 0), some (vr 81), some (vi v3)] M Q := wp_go rfl cutL 813 h
set_option maxRecDepth 100000 in
theorem rg_L_law_492 {sc : List Int} {d : Nat} {Q : Vv → MM → Prop} (v3 : Int) (M : MM) (h : gAnd (decide (0 ≤ (w32 (v3 + 1))) && decide ((w32 (v3 + 1)) < ((xar sc 2).length : Int))) (gAnd (decide (0 ≤ (w32 (v3 + 2))) && decide ((w32 (v3 + 2)) < ((xar sc 2).length : Int))) (CA F0z sc YF d m_X11_sightings [vr 0, vi ((xar sc 2).getD (w32 (v3 + 1)).toNat 0), vi ((xar sc 2).getD (w32 (v3 + 2)).toNat 0)] M (cI fun r2 M1 =>
  gAnd (decide (0 ≤ (w32 (v3 + 1))) && decide ((w32 (v3 + 1)) < ((xar sc 2).length : Int))) (gAnd (decide (0 ≤ (w32 (v3 + 2))) && decide ((w32 (v3 + 2)) < ((xar sc 2).length : Int))) (CA F0z sc YF d m_X12_sightings [vr 81, vi ((xar sc 2).getD (w32 (v3 + 1)).toNat 0), vi ((xar sc 2).getD (w32 (v3 + 2)).toNat 0)] M1 (cI fun r4 M3 =>
   brA (decide (r2 = r4))
    (WP F0z sc YF (d + 1) m_L_law 804 [] [none, some (vr 0), some (vr 81), some (vi v3)] M3 Q)
    (Q (vi 0) M3)))))))) : WP F0z sc YF (d + 1) m_L_law 492 [] [none, some (vr 0), some (vr 81), some (vi v3)] M Q := wp_go rfl cutL 813 h
set_option maxRecDepth 100000 in
theorem rg_L_law_519 {sc : List Int} {d : Nat} {Q : Vv → MM → Prop} (v3 : Int) (M : MM) (h : gAnd (decide (0 ≤ (w32 (v3 + 1))) && decide ((w32 (v3 + 1)) < ((xar sc 2).length : Int))) (gAnd (decide (0 ≤ (w32 (v3 + 2))) && decide ((w32 (v3 + 2)) < ((xar sc 2).length : Int))) (gAnd (decide (0 ≤ (w32 (v3 + 3))) && decide ((w32 (v3 + 3)) < ((xar sc 2).length : Int))) (gAnd (decide (0 ≤ (w32 (v3 + 4))) && decide ((w32 (v3 + 4)) < ((xar sc 2).length : Int))) (CA F0z sc YF d m_X11_rotas [vr 0, vi ((xar sc 2).getD (w32 (v3 + 1)).toNat 0), vi ((xar sc 2).getD (w32 (v3 + 2)).toNat 0), vi ((xar sc 2).getD (w32 (v3 + 3)).toNat 0), vi ((xar sc 2).getD (w32 (v3 + 4)).toNat 0)] M (cI fun r2 M1 =>
  gAnd (decide (0 ≤ (w32 (v3 + 1))) && decide ((w32 (v3 + 1)) < ((xar sc 2).length : Int))) (gAnd (decide (0 ≤ (w32 (v3 + 2))) && decide ((w32 (v3 + 2)) < ((xar sc 2).length : Int))) (gAnd (decide (0 ≤ (w32 (v3 + 3))) && decide ((w32 (v3 + 3)) < ((xar sc 2).length : Int))) (gAnd (decide (0 ≤ (w32 (v3 + 4))) && decide ((w32 (v3 + 4)) < ((xar sc 2).length : Int))) (CA F0z sc YF d m_X12_rotas [vr 81, vi ((xar sc 2).getD (w32 (v3 + 1)).toNat 0), vi ((xar sc 2).getD (w32 (v3 + 2)).toNat 0), vi ((xar sc 2).getD (w32 (v3 + 3)).toNat 0), vi ((xar sc 2).getD (w32 (v3 + 4)).toNat 0)] M1 (cI fun r4 M3 =>
   brA (decide (r2 = r4))
    (WP F0z sc YF (d + 1) m_L_law 804 [] [none, some (vr 0), some (vr 81), some (vi v3)] M3 Q)
    (Q (vi 0) M3)))))))))))) : WP F0z sc YF (d + 1) m_L_law 519 [] [none, some (vr 0), some (vr 81), some (vi v3)] M Q := wp_go rfl cutL 813 h
set_option maxRecDepth 100000 in
theorem rg_L_law_566 {sc : List Int} {d : Nat} {Q : Vv → MM → Prop} (v3 : Int) (M : MM) (h : gAnd (decide (0 ≤ (w32 (v3 + 1))) && decide ((w32 (v3 + 1)) < ((xar sc 2).length : Int))) (gAnd (decide (0 ≤ (w32 (v3 + 2))) && decide ((w32 (v3 + 2)) < ((xar sc 2).length : Int))) (CA F0z sc YF d m_X11_goes [vr 0, vi ((xar sc 2).getD (w32 (v3 + 1)).toNat 0), vi ((xar sc 2).getD (w32 (v3 + 2)).toNat 0)] M (cI fun r2 M1 =>
  gAnd (decide (0 ≤ (w32 (v3 + 1))) && decide ((w32 (v3 + 1)) < ((xar sc 2).length : Int))) (gAnd (decide (0 ≤ (w32 (v3 + 2))) && decide ((w32 (v3 + 2)) < ((xar sc 2).length : Int))) (CA F0z sc YF d m_X12_goes [vr 81, vi ((xar sc 2).getD (w32 (v3 + 1)).toNat 0), vi ((xar sc 2).getD (w32 (v3 + 2)).toNat 0)] M1 (cI fun r4 M3 =>
   brA (decide (r2 = r4))
    (WP F0z sc YF (d + 1) m_L_law 804 [] [none, some (vr 0), some (vr 81), some (vi v3)] M3 Q)
    (Q (vi 0) M3)))))))) : WP F0z sc YF (d + 1) m_L_law 566 [] [none, some (vr 0), some (vr 81), some (vi v3)] M Q := wp_go rfl cutL 813 h
set_option maxRecDepth 100000 in
theorem rg_L_law_593 {sc : List Int} {d : Nat} {Q : Vv → MM → Prop} (v3 : Int) (M : MM) (h : gAnd (decide (0 ≤ (w32 (v3 + 1))) && decide ((w32 (v3 + 1)) < ((xar sc 2).length : Int))) (gAnd (decide (0 ≤ (w32 (v3 + 2))) && decide ((w32 (v3 + 2)) < ((xar sc 2).length : Int))) (gAnd (decide (0 ≤ (w32 (v3 + 3))) && decide ((w32 (v3 + 3)) < ((xar sc 2).length : Int))) (CA F0z sc YF d m_X11_odds [vr 0, vi ((xar sc 2).getD (w32 (v3 + 1)).toNat 0), vi ((xar sc 2).getD (w32 (v3 + 2)).toNat 0), vi ((xar sc 2).getD (w32 (v3 + 3)).toNat 0)] M (cJ fun r2 M1 =>
  gAnd (decide (0 ≤ (w32 (v3 + 1))) && decide ((w32 (v3 + 1)) < ((xar sc 2).length : Int))) (gAnd (decide (0 ≤ (w32 (v3 + 2))) && decide ((w32 (v3 + 2)) < ((xar sc 2).length : Int))) (gAnd (decide (0 ≤ (w32 (v3 + 3))) && decide ((w32 (v3 + 3)) < ((xar sc 2).length : Int))) (CA F0z sc YF d m_X12_odds [vr 81, vi ((xar sc 2).getD (w32 (v3 + 1)).toNat 0), vi ((xar sc 2).getD (w32 (v3 + 2)).toNat 0), vi ((xar sc 2).getD (w32 (v3 + 3)).toNat 0)] M1 (cJ fun r4 M3 =>
   brA (decide ((lcm3 r2 r4) = 0))
    (WP F0z sc YF (d + 1) m_L_law 804 [] [none, some (vr 0), some (vr 81), some (vi v3)] M3 Q)
    (Q (vi 0) M3)))))))))) : WP F0z sc YF (d + 1) m_L_law 593 [] [none, some (vr 0), some (vr 81), some (vi v3)] M Q := wp_go rfl cutL 813 h
set_option maxRecDepth 100000 in
theorem rg_L_law_631 {sc : List Int} {d : Nat} {Q : Vv → MM → Prop} (v3 : Int) (M : MM) (h : gAnd (decide (0 ≤ (w32 (v3 + 1))) && decide ((w32 (v3 + 1)) < ((xar sc 2).length : Int))) (CA F0z sc YF d m_X11_watered [vr 0, vi ((xar sc 2).getD (w32 (v3 + 1)).toNat 0)] M (cI fun r2 M1 =>
  gAnd (decide (0 ≤ (w32 (v3 + 1))) && decide ((w32 (v3 + 1)) < ((xar sc 2).length : Int))) (CA F0z sc YF d m_X12_watered [vr 81, vi ((xar sc 2).getD (w32 (v3 + 1)).toNat 0)] M1 (cI fun r4 M3 =>
   brA (decide (r2 = r4))
    (WP F0z sc YF (d + 1) m_L_law 804 [] [none, some (vr 0), some (vr 81), some (vi v3)] M3 Q)
    (Q (vi 0) M3)))))) : WP F0z sc YF (d + 1) m_L_law 631 [] [none, some (vr 0), some (vr 81), some (vi v3)] M Q := wp_go rfl cutL 813 h
set_option maxRecDepth 100000 in
theorem rg_L_law_648 {sc : List Int} {d : Nat} {Q : Vv → MM → Prop} (v3 : Int) (M : MM) (h : gAnd (decide (0 ≤ (w32 (v3 + 1))) && decide ((w32 (v3 + 1)) < ((xar sc 2).length : Int))) (CA F0z sc YF d m_X11_tax [vr 0, vi ((xar sc 2).getD (w32 (v3 + 1)).toNat 0)] M (cI fun r2 M1 =>
  gAnd (decide (0 ≤ (w32 (v3 + 1))) && decide ((w32 (v3 + 1)) < ((xar sc 2).length : Int))) (CA F0z sc YF d m_X12_tax [vr 81, vi ((xar sc 2).getD (w32 (v3 + 1)).toNat 0)] M1 (cI fun r4 M3 =>
   brA (decide (r2 = r4))
    (WP F0z sc YF (d + 1) m_L_law 804 [] [none, some (vr 0), some (vr 81), some (vi v3)] M3 Q)
    (Q (vi 0) M3)))))) : WP F0z sc YF (d + 1) m_L_law 648 [] [none, some (vr 0), some (vr 81), some (vi v3)] M Q := wp_go rfl cutL 813 h
set_option maxRecDepth 100000 in
theorem rg_L_law_665 {sc : List Int} {d : Nat} {Q : Vv → MM → Prop} (v3 : Int) (M : MM) (h : gAnd (decide (0 ≤ (w32 (v3 + 1))) && decide ((w32 (v3 + 1)) < ((xar sc 2).length : Int))) (gAnd (decide (0 ≤ (w32 (v3 + 2))) && decide ((w32 (v3 + 2)) < ((xar sc 2).length : Int))) (CA F0z sc YF d m_X11_hand [vr 0, vi ((xar sc 2).getD (w32 (v3 + 1)).toNat 0), vi ((xar sc 2).getD (w32 (v3 + 2)).toNat 0)] M (cI fun r2 M1 =>
  gAnd (decide (0 ≤ (w32 (v3 + 1))) && decide ((w32 (v3 + 1)) < ((xar sc 2).length : Int))) (gAnd (decide (0 ≤ (w32 (v3 + 2))) && decide ((w32 (v3 + 2)) < ((xar sc 2).length : Int))) (CA F0z sc YF d m_X12_hand [vr 81, vi ((xar sc 2).getD (w32 (v3 + 1)).toNat 0), vi ((xar sc 2).getD (w32 (v3 + 2)).toNat 0)] M1 (cI fun r4 M3 =>
   brA (decide (r2 = r4))
    (WP F0z sc YF (d + 1) m_L_law 804 [] [none, some (vr 0), some (vr 81), some (vi v3)] M3 Q)
    (Q (vi 0) M3)))))))) : WP F0z sc YF (d + 1) m_L_law 665 [] [none, some (vr 0), some (vr 81), some (vi v3)] M Q := wp_go rfl cutL 813 h
set_option maxRecDepth 100000 in
theorem rg_L_law_692 {sc : List Int} {d : Nat} {Q : Vv → MM → Prop} (v3 : Int) (M : MM) (h : gAnd (decide (0 ≤ (w32 (v3 + 1))) && decide ((w32 (v3 + 1)) < ((xar sc 2).length : Int))) (gAnd (decide (0 ≤ (w32 (v3 + 2))) && decide ((w32 (v3 + 2)) < ((xar sc 2).length : Int))) (gAnd (decide (0 ≤ (w32 (v3 + 3))) && decide ((w32 (v3 + 3)) < ((xar sc 2).length : Int))) (gAnd (decide (0 ≤ (w32 (v3 + 4))) && decide ((w32 (v3 + 4)) < ((xar sc 2).length : Int))) (CA F0z sc YF d m_X11_ledger [vr 0, vi ((xar sc 2).getD (w32 (v3 + 1)).toNat 0), vi ((xar sc 2).getD (w32 (v3 + 2)).toNat 0), vi ((xar sc 2).getD (w32 (v3 + 3)).toNat 0), vi ((xar sc 2).getD (w32 (v3 + 4)).toNat 0)] M (cI fun r2 M1 =>
  gAnd (decide (0 ≤ (w32 (v3 + 1))) && decide ((w32 (v3 + 1)) < ((xar sc 2).length : Int))) (gAnd (decide (0 ≤ (w32 (v3 + 2))) && decide ((w32 (v3 + 2)) < ((xar sc 2).length : Int))) (gAnd (decide (0 ≤ (w32 (v3 + 3))) && decide ((w32 (v3 + 3)) < ((xar sc 2).length : Int))) (gAnd (decide (0 ≤ (w32 (v3 + 4))) && decide ((w32 (v3 + 4)) < ((xar sc 2).length : Int))) (CA F0z sc YF d m_X12_ledger [vr 81, vi ((xar sc 2).getD (w32 (v3 + 1)).toNat 0), vi ((xar sc 2).getD (w32 (v3 + 2)).toNat 0), vi ((xar sc 2).getD (w32 (v3 + 3)).toNat 0), vi ((xar sc 2).getD (w32 (v3 + 4)).toNat 0)] M1 (cI fun r4 M3 =>
   brA (decide (r2 = r4))
    (WP F0z sc YF (d + 1) m_L_law 804 [] [none, some (vr 0), some (vr 81), some (vi v3)] M3 Q)
    (Q (vi 0) M3)))))))))))) : WP F0z sc YF (d + 1) m_L_law 692 [] [none, some (vr 0), some (vr 81), some (vi v3)] M Q := wp_go rfl cutL 813 h
set_option maxRecDepth 100000 in
theorem rg_L_law_739 {sc : List Int} {d : Nat} {Q : Vv → MM → Prop} (v3 : Int) (M : MM) (h : gAnd (decide (0 ≤ (w32 (v3 + 1))) && decide ((w32 (v3 + 1)) < ((xar sc 2).length : Int))) (CA F0z sc YF d m_X11_seed [vr 0, vi ((xar sc 2).getD (w32 (v3 + 1)).toNat 0)] M (cI fun r2 M1 =>
  gAnd (decide (0 ≤ (w32 (v3 + 1))) && decide ((w32 (v3 + 1)) < ((xar sc 2).length : Int))) (CA F0z sc YF d m_X12_seed [vr 81, vi ((xar sc 2).getD (w32 (v3 + 1)).toNat 0)] M1 (cI fun r4 M3 =>
   brA (decide (r2 = r4))
    (WP F0z sc YF (d + 1) m_L_law 804 [] [none, some (vr 0), some (vr 81), some (vi v3)] M3 Q)
    (Q (vi 0) M3)))))) : WP F0z sc YF (d + 1) m_L_law 739 [] [none, some (vr 0), some (vr 81), some (vi v3)] M Q := wp_go rfl cutL 813 h
set_option maxRecDepth 100000 in
theorem rg_L_law_756 {sc : List Int} {d : Nat} {Q : Vv → MM → Prop} (v3 : Int) (M : MM) (h : CA F0z sc YF d m_X11_keep [vr 0] M (cI fun r2 M1 =>
  CA F0z sc YF d m_X12_keep [vr 81] M1 (cI fun r4 M3 =>
   brA (decide (r2 = r4))
    (WP F0z sc YF (d + 1) m_L_law 804 [] [none, some (vr 0), some (vr 81), some (vi v3)] M3 Q)
    (Q (vi 0) M3)))) : WP F0z sc YF (d + 1) m_L_law 756 [] [none, some (vr 0), some (vr 81), some (vi v3)] M Q := wp_go rfl cutL 813 h
set_option maxRecDepth 100000 in
theorem rg_L_law_763 {sc : List Int} {d : Nat} {Q : Vv → MM → Prop} (v3 : Int) (M : MM) (h : CA F0z sc YF d m_X11_undo [vr 0] M (cI fun r2 M1 =>
  CA F0z sc YF d m_X12_undo [vr 81] M1 (cI fun r4 M3 =>
   brA (decide (r2 = r4))
    (WP F0z sc YF (d + 1) m_L_law 804 [] [none, some (vr 0), some (vr 81), some (vi v3)] M3 Q)
    (Q (vi 0) M3)))) : WP F0z sc YF (d + 1) m_L_law 763 [] [none, some (vr 0), some (vr 81), some (vi v3)] M Q := wp_go rfl cutL 813 h
set_option maxRecDepth 100000 in
theorem rg_L_law_770 {sc : List Int} {d : Nat} {Q : Vv → MM → Prop} (v3 : Int) (M : MM) (h : gAnd (decide (0 ≤ (w32 (v3 + 1))) && decide ((w32 (v3 + 1)) < ((xar sc 2).length : Int))) (CA F0z sc YF d m_X11_check [vr 0, vi ((xar sc 2).getD (w32 (v3 + 1)).toNat 0)] M (cI fun r2 M1 =>
  gAnd (decide (0 ≤ (w32 (v3 + 1))) && decide ((w32 (v3 + 1)) < ((xar sc 2).length : Int))) (CA F0z sc YF d m_X12_check [vr 81, vi ((xar sc 2).getD (w32 (v3 + 1)).toNat 0)] M1 (cI fun r4 M3 =>
   brA (decide (r2 = r4))
    (WP F0z sc YF (d + 1) m_L_law 804 [] [none, some (vr 0), some (vr 81), some (vi v3)] M3 Q)
    (Q (vi 0) M3)))))) : WP F0z sc YF (d + 1) m_L_law 770 [] [none, some (vr 0), some (vr 81), some (vi v3)] M Q := wp_go rfl cutL 813 h
set_option maxRecDepth 100000 in
theorem rg_L_law_787 {sc : List Int} {d : Nat} {Q : Vv → MM → Prop} (v3 : Int) (M : MM) (h : gAnd (decide (0 ≤ (w32 (v3 + 1))) && decide ((w32 (v3 + 1)) < ((xar sc 2).length : Int))) (CA F0z sc YF d m_X11_count [vr 0, vi ((xar sc 2).getD (w32 (v3 + 1)).toNat 0)] M (cI fun r2 M1 =>
  gAnd (decide (0 ≤ (w32 (v3 + 1))) && decide ((w32 (v3 + 1)) < ((xar sc 2).length : Int))) (CA F0z sc YF d m_X12_count [vr 81, vi ((xar sc 2).getD (w32 (v3 + 1)).toNat 0)] M1 (cI fun r4 M3 =>
   brA (decide (r2 = r4))
    (WP F0z sc YF (d + 1) m_L_law 804 [] [none, some (vr 0), some (vr 81), some (vi v3)] M3 Q)
    (Q (vi 0) M3)))))) : WP F0z sc YF (d + 1) m_L_law 787 [] [none, some (vr 0), some (vr 81), some (vi v3)] M Q := wp_go rfl cutL 813 h
set_option maxRecDepth 100000 in
theorem rg_L_law_804 {sc : List Int} {d : Nat} {Q : Vv → MM → Prop} (v3 : Int) (M : MM) (h : WP F0z sc YF (d + 1) m_L_law 10 [] [none, some (vr 0), some (vr 81), some (vi (w32 (v3 + 6)))] M Q) : WP F0z sc YF (d + 1) m_L_law 804 [] [none, some (vr 0), some (vr 81), some (vi v3)] M Q := wp_go rfl cutL 813 h
theorem okvr (k : Nat) : okv (vr k) := trivial
def PrI (sc : List Int) (mc mm : Nat) (as : List Vv) : Prop := ∀ M, FrC M → FrM M → Inv FF YF M → ∃ x : Int, CA FF sc YF 59 mc (vr 0 :: as) M (fun r M1 => r = vi x ∧ Up M M1) ∧ ∀ M1, FrM M1 → CA FF sc YF 59 mm (vr 81 :: as) M1 (fun r _ => r = vi x)
def PrJ (sc : List Int) (mc mm : Nat) (as : List Vv) : Prop := ∀ M, FrC M → FrM M → Inv FF YF M → ∃ x : Int, CA FF sc YF 59 mc (vr 0 :: as) M (fun r M1 => r = vl x ∧ Up M M1) ∧ ∀ M1, FrM M1 → CA FF sc YF 59 mm (vr 81 :: as) M1 (fun r _ => r = vl x)
theorem cs_I {sc : List Int} {mc mm : Nat} {as : List Vv} {M : MM} {B : Int → MM → Prop} (hRT : ∀ (m : Nat) (R : Rec), RTL[m]? = some R → okC RTL R = true) (hX : okX (xar sc)) (hC : FrC M) (hM : FrM M) (hI : Inv FF YF M) (has : okVs as) (hx : ∀ z ∈ as, isXv z = false) (hP : PrI sc mc mm as) (k : ∀ x M1, CA F0z sc YF 59 mm (vr 81 :: as) M1 (fun r _ => r = vi x) → B x M1) : CA F0z sc YF 59 mc (vr 0 :: as) M (cI B) := by
  obtain ⟨x, h1, h2⟩ := hP M hC hM hI
  refine (h1.to0 hRT hX hI (.kk (okvr _) has) (List.forall_mem_cons.mpr ⟨rfl, hx⟩)).mono fun r M1 h => ?_
  obtain ⟨⟨rfl, hu⟩, hI1⟩ := h
  exact k x M1 (((h2 M1 (hM.up hu)).to0 hRT hX hI1 (.kk (okvr _) has) (List.forall_mem_cons.mpr ⟨rfl, hx⟩)).mono fun _ _ q => q.1)
theorem cs_J {sc : List Int} {mc mm : Nat} {as : List Vv} {M : MM} {B : Int → MM → Prop} (hRT : ∀ (m : Nat) (R : Rec), RTL[m]? = some R → okC RTL R = true) (hX : okX (xar sc)) (hC : FrC M) (hM : FrM M) (hI : Inv FF YF M) (has : okVs as) (hx : ∀ z ∈ as, isXv z = false) (hP : PrJ sc mc mm as) (k : ∀ x M1, CA F0z sc YF 59 mm (vr 81 :: as) M1 (fun r _ => r = vl x) → B x M1) : CA F0z sc YF 59 mc (vr 0 :: as) M (cJ B) := by
  obtain ⟨x, h1, h2⟩ := hP M hC hM hI
  refine (h1.to0 hRT hX hI (.kk (okvr _) has) (List.forall_mem_cons.mpr ⟨rfl, hx⟩)).mono fun r M1 h => ?_
  obtain ⟨⟨rfl, hu⟩, hI1⟩ := h
  exact k x M1 (((h2 M1 (hM.up hu)).to0 hRT hX hI1 (.kk (okvr _) has) (List.forall_mem_cons.mpr ⟨rfl, hx⟩)).mono fun _ _ q => q.1)
theorem lcm_0 (x : Int) : lcm3 x x = 0 := by
  unfold lcm3
  rw [if_neg (by omega), if_pos rfl]
theorem fin_10 {sc : List Int} {Q : Vv → MM → Prop} (hl : sc.length = 6) (hQ : ∀ M, Q (vi 1) M) (M : MM) : WP F0z sc YF 60 m_L_law 804 [] [none, some (vr 0), some (vr 81), some (vi 0)] M Q := by
  refine rg_L_law_804 0 M (rg_L_law_10 _ M (brT ?_ (hQ M)))
  show w32 ((sc.length : Int) - 6) < w32 (0 + 6)
  rw [hl]
  decide
theorem cs_0 {sc : List Int} {Q : Vv → MM → Prop} {M : MM} (hRT : ∀ (m : Nat) (R : Rec), RTL[m]? = some R → okC RTL R = true) (hX : okX (xar sc)) (hz : ∀ n : Nat, in32 ((xar sc 2).getD n 0)) (hl : sc.length = 6) (hC : FrC M) (hM : FrM M) (hI : Inv FF YF M) (hQ : ∀ M, Q (vi 1) M) (H : ∀ a0 a1 a2 a3 a4 : Int, in32 a0 → in32 a1 → in32 a2 → in32 a3 → in32 a4 → PrI sc m_X11_feed m_X12_feed [vi a0, vi a1, vi a2, vi a3, vi a4]) : WP F0z sc YF 60 m_L_law 22 [] [none, some (vr 0), some (vr 81), some (vi 0)] M Q := by
  have g1 : w32 (0 + 1) < ((xar sc 2).length : Int) := by rw [show (xar sc 2).length = 6 from hl]; decide
  have g2 : w32 (0 + 2) < ((xar sc 2).length : Int) := by rw [show (xar sc 2).length = 6 from hl]; decide
  have g3 : w32 (0 + 3) < ((xar sc 2).length : Int) := by rw [show (xar sc 2).length = 6 from hl]; decide
  have g4 : w32 (0 + 4) < ((xar sc 2).length : Int) := by rw [show (xar sc 2).length = 6 from hl]; decide
  have g5 : w32 (0 + 5) < ((xar sc 2).length : Int) := by rw [show (xar sc 2).length = 6 from hl]; decide
  exact rg_L_law_22 0 M (gI (by decide) g1 (gI (by decide) g2 (gI (by decide) g3 (gI (by decide) g4 (gI (by decide) g5 (cs_I hRT hX hC hM hI (.kk (hz _) (.kk (hz _) (.kk (hz _) (.kk (hz _) (.kk (hz _) (fun _ q => absurd q List.not_mem_nil)))))) (List.forall_mem_cons.mpr ⟨rfl, List.forall_mem_cons.mpr ⟨rfl, List.forall_mem_cons.mpr ⟨rfl, List.forall_mem_cons.mpr ⟨rfl, List.forall_mem_cons.mpr ⟨rfl, fun _ q => absurd q List.not_mem_nil⟩⟩⟩⟩⟩) (H _ _ _ _ _ (hz _) (hz _) (hz _) (hz _) (hz _)) fun x M1 h => gI (by decide) g1 (gI (by decide) g2 (gI (by decide) g3 (gI (by decide) g4 (gI (by decide) g5 ((h.mono fun r M3 e => by subst e; exact brT rfl (fin_10 hl hQ M3)))))))))))))
theorem cs_1 {sc : List Int} {Q : Vv → MM → Prop} {M : MM} (hRT : ∀ (m : Nat) (R : Rec), RTL[m]? = some R → okC RTL R = true) (hX : okX (xar sc)) (hz : ∀ n : Nat, in32 ((xar sc 2).getD n 0)) (hl : sc.length = 6) (hC : FrC M) (hM : FrM M) (hI : Inv FF YF M) (hQ : ∀ M, Q (vi 1) M) (H : ∀ a0 : Int, in32 a0 → PrI sc m_X11_quarter m_X12_quarter [vi a0]) : WP F0z sc YF 60 m_L_law 79 [] [none, some (vr 0), some (vr 81), some (vi 0)] M Q := by
  have g1 : w32 (0 + 1) < ((xar sc 2).length : Int) := by rw [show (xar sc 2).length = 6 from hl]; decide
  exact rg_L_law_79 0 M (gI (by decide) g1 (cs_I hRT hX hC hM hI (.kk (hz _) (fun _ q => absurd q List.not_mem_nil)) (List.forall_mem_cons.mpr ⟨rfl, fun _ q => absurd q List.not_mem_nil⟩) (H _ (hz _)) fun x M1 h => gI (by decide) g1 ((h.mono fun r M3 e => by subst e; exact brT rfl (fin_10 hl hQ M3)))))
theorem cs_2 {sc : List Int} {Q : Vv → MM → Prop} {M : MM} (hRT : ∀ (m : Nat) (R : Rec), RTL[m]? = some R → okC RTL R = true) (hX : okX (xar sc)) (hz : ∀ n : Nat, in32 ((xar sc 2).getD n 0)) (hl : sc.length = 6) (hC : FrC M) (hM : FrM M) (hI : Inv FF YF M) (hQ : ∀ M, Q (vi 1) M) (H : ∀ a0 a1 : Int, in32 a0 → in32 a1 → PrI sc m_X11_walk m_X12_walk [vi a0, vi a1]) : WP F0z sc YF 60 m_L_law 96 [] [none, some (vr 0), some (vr 81), some (vi 0)] M Q := by
  have g1 : w32 (0 + 1) < ((xar sc 2).length : Int) := by rw [show (xar sc 2).length = 6 from hl]; decide
  have g2 : w32 (0 + 2) < ((xar sc 2).length : Int) := by rw [show (xar sc 2).length = 6 from hl]; decide
  exact rg_L_law_96 0 M (gI (by decide) g1 (gI (by decide) g2 (cs_I hRT hX hC hM hI (.kk (hz _) (.kk (hz _) (fun _ q => absurd q List.not_mem_nil))) (List.forall_mem_cons.mpr ⟨rfl, List.forall_mem_cons.mpr ⟨rfl, fun _ q => absurd q List.not_mem_nil⟩⟩) (H _ _ (hz _) (hz _)) fun x M1 h => gI (by decide) g1 (gI (by decide) g2 ((h.mono fun r M3 e => by subst e; exact brT rfl (fin_10 hl hQ M3)))))))
theorem cs_3 {sc : List Int} {Q : Vv → MM → Prop} {M : MM} (hRT : ∀ (m : Nat) (R : Rec), RTL[m]? = some R → okC RTL R = true) (hX : okX (xar sc)) (hz : ∀ n : Nat, in32 ((xar sc 2).getD n 0)) (hl : sc.length = 6) (hC : FrC M) (hM : FrM M) (hI : Inv FF YF M) (hQ : ∀ M, Q (vi 1) M) (H : ∀ a0 : Int, in32 a0 → PrI sc m_X11_law m_X12_law [vi a0]) : WP F0z sc YF 60 m_L_law 123 [] [none, some (vr 0), some (vr 81), some (vi 0)] M Q := by
  have g1 : w32 (0 + 1) < ((xar sc 2).length : Int) := by rw [show (xar sc 2).length = 6 from hl]; decide
  exact rg_L_law_123 0 M (gI (by decide) g1 (cs_I hRT hX hC hM hI (.kk (hz _) (fun _ q => absurd q List.not_mem_nil)) (List.forall_mem_cons.mpr ⟨rfl, fun _ q => absurd q List.not_mem_nil⟩) (H _ (hz _)) fun x M1 h => gI (by decide) g1 ((h.mono fun r M3 e => by subst e; exact brT rfl (fin_10 hl hQ M3)))))
theorem cs_4 {sc : List Int} {Q : Vv → MM → Prop} {M : MM} (hRT : ∀ (m : Nat) (R : Rec), RTL[m]? = some R → okC RTL R = true) (hX : okX (xar sc)) (hz : ∀ n : Nat, in32 ((xar sc 2).getD n 0)) (hl : sc.length = 6) (hC : FrC M) (hM : FrM M) (hI : Inv FF YF M) (hQ : ∀ M, Q (vi 1) M) (H : ∀ a0 a1 a2 a3 : Int, in32 a0 → in32 a1 → in32 a2 → in32 a3 → PrI sc m_X11_stranger m_X12_stranger [vi a0, vi a1, vi a2, vi a3]) : WP F0z sc YF 60 m_L_law 140 [] [none, some (vr 0), some (vr 81), some (vi 0)] M Q := by
  have g1 : w32 (0 + 1) < ((xar sc 2).length : Int) := by rw [show (xar sc 2).length = 6 from hl]; decide
  have g2 : w32 (0 + 2) < ((xar sc 2).length : Int) := by rw [show (xar sc 2).length = 6 from hl]; decide
  have g3 : w32 (0 + 3) < ((xar sc 2).length : Int) := by rw [show (xar sc 2).length = 6 from hl]; decide
  have g4 : w32 (0 + 4) < ((xar sc 2).length : Int) := by rw [show (xar sc 2).length = 6 from hl]; decide
  exact rg_L_law_140 0 M (gI (by decide) g1 (gI (by decide) g2 (gI (by decide) g3 (gI (by decide) g4 (cs_I hRT hX hC hM hI (.kk (hz _) (.kk (hz _) (.kk (hz _) (.kk (hz _) (fun _ q => absurd q List.not_mem_nil))))) (List.forall_mem_cons.mpr ⟨rfl, List.forall_mem_cons.mpr ⟨rfl, List.forall_mem_cons.mpr ⟨rfl, List.forall_mem_cons.mpr ⟨rfl, fun _ q => absurd q List.not_mem_nil⟩⟩⟩⟩) (H _ _ _ _ (hz _) (hz _) (hz _) (hz _)) fun x M1 h => gI (by decide) g1 (gI (by decide) g2 (gI (by decide) g3 (gI (by decide) g4 ((h.mono fun r M3 e => by subst e; exact brT rfl (fin_10 hl hQ M3)))))))))))
theorem cs_5 {sc : List Int} {Q : Vv → MM → Prop} {M : MM} (hRT : ∀ (m : Nat) (R : Rec), RTL[m]? = some R → okC RTL R = true) (hX : okX (xar sc)) (hz : ∀ n : Nat, in32 ((xar sc 2).getD n 0)) (hl : sc.length = 6) (hC : FrC M) (hM : FrM M) (hI : Inv FF YF M) (hQ : ∀ M, Q (vi 1) M) (H : ∀ a b : Int, in32 a → (b = 0 ∨ b = 1) → PrI sc m_X11_dog m_X12_dog [vi a, vi b]) : WP F0z sc YF 60 m_L_law 187 [] [none, some (vr 0), some (vr 81), some (vi 0)] M Q := by
  have g1 : w32 (0 + 1) < ((xar sc 2).length : Int) := by rw [show (xar sc 2).length = 6 from hl]; decide
  have g2 : w32 (0 + 2) < ((xar sc 2).length : Int) := by rw [show (xar sc 2).length = 6 from hl]; decide
  have g0 : 0 ≤ w32 (0 + 1) := by decide
  have g0b : 0 ≤ w32 (0 + 2) := by decide
  exact rg_L_law_187 0 M (gI g0 g1 (gI g0b g2 (brP (fun q => cs_I hRT hX hC hM hI (.kk (hz _) (.kk in32_0 (fun _ q => absurd q List.not_mem_nil))) (List.forall_mem_cons.mpr ⟨rfl, List.forall_mem_cons.mpr ⟨rfl, fun _ q => absurd q List.not_mem_nil⟩⟩) (H _ 0 (hz _) (Or.inl rfl)) fun x M1 h => gI g0 g1 (gI g0b g2 (brT q (h.mono fun r M3 e => by subst e; exact brT rfl (fin_10 hl hQ M3))))) (fun q => cs_I hRT hX hC hM hI (.kk (hz _) (.kk in32_1 (fun _ q => absurd q List.not_mem_nil))) (List.forall_mem_cons.mpr ⟨rfl, List.forall_mem_cons.mpr ⟨rfl, fun _ q => absurd q List.not_mem_nil⟩⟩) (H _ 1 (hz _) (Or.inr rfl)) fun x M1 h => gI g0 g1 (gI g0b g2 (brF q (h.mono fun r M3 e => by subst e; exact brT rfl (fin_10 hl hQ M3))))))))
theorem cs_6 {sc : List Int} {Q : Vv → MM → Prop} {M : MM} (hRT : ∀ (m : Nat) (R : Rec), RTL[m]? = some R → okC RTL R = true) (hX : okX (xar sc)) (hz : ∀ n : Nat, in32 ((xar sc 2).getD n 0)) (hl : sc.length = 6) (hC : FrC M) (hM : FrM M) (hI : Inv FF YF M) (hQ : ∀ M, Q (vi 1) M) (H : ∀ a0 : Int, in32 a0 → PrI sc m_X11_tells m_X12_tells [vi a0]) : WP F0z sc YF 60 m_L_law 222 [] [none, some (vr 0), some (vr 81), some (vi 0)] M Q := by
  have g1 : w32 (0 + 1) < ((xar sc 2).length : Int) := by rw [show (xar sc 2).length = 6 from hl]; decide
  exact rg_L_law_222 0 M (gI (by decide) g1 (cs_I hRT hX hC hM hI (.kk (hz _) (fun _ q => absurd q List.not_mem_nil)) (List.forall_mem_cons.mpr ⟨rfl, fun _ q => absurd q List.not_mem_nil⟩) (H _ (hz _)) fun x M1 h => gI (by decide) g1 ((h.mono fun r M3 e => by subst e; exact brT rfl (fin_10 hl hQ M3)))))
theorem cs_7 {sc : List Int} {Q : Vv → MM → Prop} {M : MM} (hRT : ∀ (m : Nat) (R : Rec), RTL[m]? = some R → okC RTL R = true) (hX : okX (xar sc)) (hz : ∀ n : Nat, in32 ((xar sc 2).getD n 0)) (hl : sc.length = 6) (hC : FrC M) (hM : FrM M) (hI : Inv FF YF M) (hQ : ∀ M, Q (vi 1) M) (H : ∀ a0 : Int, in32 a0 → PrI sc m_X11_haunts m_X12_haunts [vi a0]) : WP F0z sc YF 60 m_L_law 239 [] [none, some (vr 0), some (vr 81), some (vi 0)] M Q := by
  have g1 : w32 (0 + 1) < ((xar sc 2).length : Int) := by rw [show (xar sc 2).length = 6 from hl]; decide
  exact rg_L_law_239 0 M (gI (by decide) g1 (cs_I hRT hX hC hM hI (.kk (hz _) (fun _ q => absurd q List.not_mem_nil)) (List.forall_mem_cons.mpr ⟨rfl, fun _ q => absurd q List.not_mem_nil⟩) (H _ (hz _)) fun x M1 h => gI (by decide) g1 ((h.mono fun r M3 e => by subst e; exact brT rfl (fin_10 hl hQ M3)))))
theorem cs_8 {sc : List Int} {Q : Vv → MM → Prop} {M : MM} (hRT : ∀ (m : Nat) (R : Rec), RTL[m]? = some R → okC RTL R = true) (hX : okX (xar sc)) (hz : ∀ n : Nat, in32 ((xar sc 2).getD n 0)) (hl : sc.length = 6) (hC : FrC M) (hM : FrM M) (hI : Inv FF YF M) (hQ : ∀ M, Q (vi 1) M) (H : ∀ a0 a1 : Int, in32 a0 → in32 a1 → PrI sc m_X11_tried m_X12_tried [vi a0, vi a1]) : WP F0z sc YF 60 m_L_law 256 [] [none, some (vr 0), some (vr 81), some (vi 0)] M Q := by
  have g1 : w32 (0 + 1) < ((xar sc 2).length : Int) := by rw [show (xar sc 2).length = 6 from hl]; decide
  have g2 : w32 (0 + 2) < ((xar sc 2).length : Int) := by rw [show (xar sc 2).length = 6 from hl]; decide
  exact rg_L_law_256 0 M (gI (by decide) g1 (gI (by decide) g2 (cs_I hRT hX hC hM hI (.kk (hz _) (.kk (hz _) (fun _ q => absurd q List.not_mem_nil))) (List.forall_mem_cons.mpr ⟨rfl, List.forall_mem_cons.mpr ⟨rfl, fun _ q => absurd q List.not_mem_nil⟩⟩) (H _ _ (hz _) (hz _)) fun x M1 h => gI (by decide) g1 (gI (by decide) g2 ((h.mono fun r M3 e => by subst e; exact brT rfl (fin_10 hl hQ M3)))))))
theorem cs_9 {sc : List Int} {Q : Vv → MM → Prop} {M : MM} (hRT : ∀ (m : Nat) (R : Rec), RTL[m]? = some R → okC RTL R = true) (hX : okX (xar sc)) (hz : ∀ n : Nat, in32 ((xar sc 2).getD n 0)) (hl : sc.length = 6) (hC : FrC M) (hM : FrM M) (hI : Inv FF YF M) (hQ : ∀ M, Q (vi 1) M) (H : ∀ a0 a1 : Int, in32 a0 → in32 a1 → PrI sc m_X11_strangerIs m_X12_strangerIs [vi a0, vi a1]) : WP F0z sc YF 60 m_L_law 283 [] [none, some (vr 0), some (vr 81), some (vi 0)] M Q := by
  have g1 : w32 (0 + 1) < ((xar sc 2).length : Int) := by rw [show (xar sc 2).length = 6 from hl]; decide
  have g2 : w32 (0 + 2) < ((xar sc 2).length : Int) := by rw [show (xar sc 2).length = 6 from hl]; decide
  exact rg_L_law_283 0 M (gI (by decide) g1 (gI (by decide) g2 (cs_I hRT hX hC hM hI (.kk (hz _) (.kk (hz _) (fun _ q => absurd q List.not_mem_nil))) (List.forall_mem_cons.mpr ⟨rfl, List.forall_mem_cons.mpr ⟨rfl, fun _ q => absurd q List.not_mem_nil⟩⟩) (H _ _ (hz _) (hz _)) fun x M1 h => gI (by decide) g1 (gI (by decide) g2 ((h.mono fun r M3 e => by subst e; exact brT rfl (fin_10 hl hQ M3)))))))
theorem cs_10 {sc : List Int} {Q : Vv → MM → Prop} {M : MM} (hRT : ∀ (m : Nat) (R : Rec), RTL[m]? = some R → okC RTL R = true) (hX : okX (xar sc)) (hz : ∀ n : Nat, in32 ((xar sc 2).getD n 0)) (hl : sc.length = 6) (hC : FrC M) (hM : FrM M) (hI : Inv FF YF M) (hQ : ∀ M, Q (vi 1) M) (H : ∀ a0 a1 : Int, in32 a0 → in32 a1 → PrI sc m_X11_houseIs m_X12_houseIs [vi a0, vi a1]) : WP F0z sc YF 60 m_L_law 310 [] [none, some (vr 0), some (vr 81), some (vi 0)] M Q := by
  have g1 : w32 (0 + 1) < ((xar sc 2).length : Int) := by rw [show (xar sc 2).length = 6 from hl]; decide
  have g2 : w32 (0 + 2) < ((xar sc 2).length : Int) := by rw [show (xar sc 2).length = 6 from hl]; decide
  exact rg_L_law_310 0 M (gI (by decide) g1 (gI (by decide) g2 (cs_I hRT hX hC hM hI (.kk (hz _) (.kk (hz _) (fun _ q => absurd q List.not_mem_nil))) (List.forall_mem_cons.mpr ⟨rfl, List.forall_mem_cons.mpr ⟨rfl, fun _ q => absurd q List.not_mem_nil⟩⟩) (H _ _ (hz _) (hz _)) fun x M1 h => gI (by decide) g1 (gI (by decide) g2 ((h.mono fun r M3 e => by subst e; exact brT rfl (fin_10 hl hQ M3)))))))
theorem cs_11 {sc : List Int} {Q : Vv → MM → Prop} {M : MM} (hRT : ∀ (m : Nat) (R : Rec), RTL[m]? = some R → okC RTL R = true) (hX : okX (xar sc)) (hz : ∀ n : Nat, in32 ((xar sc 2).getD n 0)) (hl : sc.length = 6) (hC : FrC M) (hM : FrM M) (hI : Inv FF YF M) (hQ : ∀ M, Q (vi 1) M) (H : ∀ a0 a1 a2 : Int, in32 a0 → in32 a1 → in32 a2 → PrI sc m_X11_meet m_X12_meet [vi a0, vi a1, vi a2]) : WP F0z sc YF 60 m_L_law 337 [] [none, some (vr 0), some (vr 81), some (vi 0)] M Q := by
  have g1 : w32 (0 + 1) < ((xar sc 2).length : Int) := by rw [show (xar sc 2).length = 6 from hl]; decide
  have g2 : w32 (0 + 2) < ((xar sc 2).length : Int) := by rw [show (xar sc 2).length = 6 from hl]; decide
  have g3 : w32 (0 + 3) < ((xar sc 2).length : Int) := by rw [show (xar sc 2).length = 6 from hl]; decide
  exact rg_L_law_337 0 M (gI (by decide) g1 (gI (by decide) g2 (gI (by decide) g3 (cs_I hRT hX hC hM hI (.kk (hz _) (.kk (hz _) (.kk (hz _) (fun _ q => absurd q List.not_mem_nil)))) (List.forall_mem_cons.mpr ⟨rfl, List.forall_mem_cons.mpr ⟨rfl, List.forall_mem_cons.mpr ⟨rfl, fun _ q => absurd q List.not_mem_nil⟩⟩⟩) (H _ _ _ (hz _) (hz _) (hz _)) fun x M1 h => gI (by decide) g1 (gI (by decide) g2 (gI (by decide) g3 ((h.mono fun r M3 e => by subst e; exact brT rfl (fin_10 hl hQ M3)))))))))
theorem cs_12 {sc : List Int} {Q : Vv → MM → Prop} {M : MM} (hRT : ∀ (m : Nat) (R : Rec), RTL[m]? = some R → okC RTL R = true) (hX : okX (xar sc)) (hz : ∀ n : Nat, in32 ((xar sc 2).getD n 0)) (hl : sc.length = 6) (hC : FrC M) (hM : FrM M) (hI : Inv FF YF M) (hQ : ∀ M, Q (vi 1) M) (H : ∀ a0 a1 a2 : Int, in32 a0 → in32 a1 → in32 a2 → PrI sc m_X11_dread m_X12_dread [vi a0, vi a1, vi a2]) : WP F0z sc YF 60 m_L_law 374 [] [none, some (vr 0), some (vr 81), some (vi 0)] M Q := by
  have g1 : w32 (0 + 1) < ((xar sc 2).length : Int) := by rw [show (xar sc 2).length = 6 from hl]; decide
  have g2 : w32 (0 + 2) < ((xar sc 2).length : Int) := by rw [show (xar sc 2).length = 6 from hl]; decide
  have g3 : w32 (0 + 3) < ((xar sc 2).length : Int) := by rw [show (xar sc 2).length = 6 from hl]; decide
  exact rg_L_law_374 0 M (gI (by decide) g1 (gI (by decide) g2 (gI (by decide) g3 (cs_I hRT hX hC hM hI (.kk (hz _) (.kk (hz _) (.kk (hz _) (fun _ q => absurd q List.not_mem_nil)))) (List.forall_mem_cons.mpr ⟨rfl, List.forall_mem_cons.mpr ⟨rfl, List.forall_mem_cons.mpr ⟨rfl, fun _ q => absurd q List.not_mem_nil⟩⟩⟩) (H _ _ _ (hz _) (hz _) (hz _)) fun x M1 h => gI (by decide) g1 (gI (by decide) g2 (gI (by decide) g3 ((h.mono fun r M3 e => by subst e; exact brT rfl (fin_10 hl hQ M3)))))))))
theorem cs_13 {sc : List Int} {Q : Vv → MM → Prop} {M : MM} (hRT : ∀ (m : Nat) (R : Rec), RTL[m]? = some R → okC RTL R = true) (hX : okX (xar sc)) (hz : ∀ n : Nat, in32 ((xar sc 2).getD n 0)) (hl : sc.length = 6) (hC : FrC M) (hM : FrM M) (hI : Inv FF YF M) (hQ : ∀ M, Q (vi 1) M) (H : ∀ a0 a1 a2 : Int, in32 a0 → in32 a1 → in32 a2 → PrI sc m_X11_unseen m_X12_unseen [vi a0, vi a1, vi a2]) : WP F0z sc YF 60 m_L_law 411 [] [none, some (vr 0), some (vr 81), some (vi 0)] M Q := by
  have g1 : w32 (0 + 1) < ((xar sc 2).length : Int) := by rw [show (xar sc 2).length = 6 from hl]; decide
  have g2 : w32 (0 + 2) < ((xar sc 2).length : Int) := by rw [show (xar sc 2).length = 6 from hl]; decide
  have g3 : w32 (0 + 3) < ((xar sc 2).length : Int) := by rw [show (xar sc 2).length = 6 from hl]; decide
  exact rg_L_law_411 0 M (gI (by decide) g1 (gI (by decide) g2 (gI (by decide) g3 (cs_I hRT hX hC hM hI (.kk (hz _) (.kk (hz _) (.kk (hz _) (fun _ q => absurd q List.not_mem_nil)))) (List.forall_mem_cons.mpr ⟨rfl, List.forall_mem_cons.mpr ⟨rfl, List.forall_mem_cons.mpr ⟨rfl, fun _ q => absurd q List.not_mem_nil⟩⟩⟩) (H _ _ _ (hz _) (hz _) (hz _)) fun x M1 h => gI (by decide) g1 (gI (by decide) g2 (gI (by decide) g3 ((h.mono fun r M3 e => by subst e; exact brT rfl (fin_10 hl hQ M3)))))))))
theorem cs_14 {sc : List Int} {Q : Vv → MM → Prop} {M : MM} (hRT : ∀ (m : Nat) (R : Rec), RTL[m]? = some R → okC RTL R = true) (hX : okX (xar sc)) (hz : ∀ n : Nat, in32 ((xar sc 2).getD n 0)) (hl : sc.length = 6) (hC : FrC M) (hM : FrM M) (hI : Inv FF YF M) (hQ : ∀ M, Q (vi 1) M) (H : ∀ a0 : Int, in32 a0 → PrI sc m_X11_watch m_X12_watch [vi a0]) : WP F0z sc YF 60 m_L_law 448 [] [none, some (vr 0), some (vr 81), some (vi 0)] M Q := by
  have g1 : w32 (0 + 1) < ((xar sc 2).length : Int) := by rw [show (xar sc 2).length = 6 from hl]; decide
  exact rg_L_law_448 0 M (gI (by decide) g1 (cs_I hRT hX hC hM hI (.kk (hz _) (fun _ q => absurd q List.not_mem_nil)) (List.forall_mem_cons.mpr ⟨rfl, fun _ q => absurd q List.not_mem_nil⟩) (H _ (hz _)) fun x M1 h => gI (by decide) g1 ((h.mono fun r M3 e => by subst e; exact brT rfl (fin_10 hl hQ M3)))))
theorem cs_15 {sc : List Int} {Q : Vv → MM → Prop} {M : MM} (hRT : ∀ (m : Nat) (R : Rec), RTL[m]? = some R → okC RTL R = true) (hX : okX (xar sc)) (hz : ∀ n : Nat, in32 ((xar sc 2).getD n 0)) (hl : sc.length = 6) (hC : FrC M) (hM : FrM M) (hI : Inv FF YF M) (hQ : ∀ M, Q (vi 1) M) (H : ∀ a0 a1 : Int, in32 a0 → in32 a1 → PrI sc m_X11_feared m_X12_feared [vi a0, vi a1]) : WP F0z sc YF 60 m_L_law 465 [] [none, some (vr 0), some (vr 81), some (vi 0)] M Q := by
  have g1 : w32 (0 + 1) < ((xar sc 2).length : Int) := by rw [show (xar sc 2).length = 6 from hl]; decide
  have g2 : w32 (0 + 2) < ((xar sc 2).length : Int) := by rw [show (xar sc 2).length = 6 from hl]; decide
  exact rg_L_law_465 0 M (gI (by decide) g1 (gI (by decide) g2 (cs_I hRT hX hC hM hI (.kk (hz _) (.kk (hz _) (fun _ q => absurd q List.not_mem_nil))) (List.forall_mem_cons.mpr ⟨rfl, List.forall_mem_cons.mpr ⟨rfl, fun _ q => absurd q List.not_mem_nil⟩⟩) (H _ _ (hz _) (hz _)) fun x M1 h => gI (by decide) g1 (gI (by decide) g2 ((h.mono fun r M3 e => by subst e; exact brT rfl (fin_10 hl hQ M3)))))))
theorem cs_16 {sc : List Int} {Q : Vv → MM → Prop} {M : MM} (hRT : ∀ (m : Nat) (R : Rec), RTL[m]? = some R → okC RTL R = true) (hX : okX (xar sc)) (hz : ∀ n : Nat, in32 ((xar sc 2).getD n 0)) (hl : sc.length = 6) (hC : FrC M) (hM : FrM M) (hI : Inv FF YF M) (hQ : ∀ M, Q (vi 1) M) (H : ∀ a0 a1 : Int, in32 a0 → in32 a1 → PrI sc m_X11_sightings m_X12_sightings [vi a0, vi a1]) : WP F0z sc YF 60 m_L_law 492 [] [none, some (vr 0), some (vr 81), some (vi 0)] M Q := by
  have g1 : w32 (0 + 1) < ((xar sc 2).length : Int) := by rw [show (xar sc 2).length = 6 from hl]; decide
  have g2 : w32 (0 + 2) < ((xar sc 2).length : Int) := by rw [show (xar sc 2).length = 6 from hl]; decide
  exact rg_L_law_492 0 M (gI (by decide) g1 (gI (by decide) g2 (cs_I hRT hX hC hM hI (.kk (hz _) (.kk (hz _) (fun _ q => absurd q List.not_mem_nil))) (List.forall_mem_cons.mpr ⟨rfl, List.forall_mem_cons.mpr ⟨rfl, fun _ q => absurd q List.not_mem_nil⟩⟩) (H _ _ (hz _) (hz _)) fun x M1 h => gI (by decide) g1 (gI (by decide) g2 ((h.mono fun r M3 e => by subst e; exact brT rfl (fin_10 hl hQ M3)))))))
theorem cs_17 {sc : List Int} {Q : Vv → MM → Prop} {M : MM} (hRT : ∀ (m : Nat) (R : Rec), RTL[m]? = some R → okC RTL R = true) (hX : okX (xar sc)) (hz : ∀ n : Nat, in32 ((xar sc 2).getD n 0)) (hl : sc.length = 6) (hC : FrC M) (hM : FrM M) (hI : Inv FF YF M) (hQ : ∀ M, Q (vi 1) M) (H : ∀ a0 a1 a2 a3 : Int, in32 a0 → in32 a1 → in32 a2 → in32 a3 → PrI sc m_X11_rotas m_X12_rotas [vi a0, vi a1, vi a2, vi a3]) : WP F0z sc YF 60 m_L_law 519 [] [none, some (vr 0), some (vr 81), some (vi 0)] M Q := by
  have g1 : w32 (0 + 1) < ((xar sc 2).length : Int) := by rw [show (xar sc 2).length = 6 from hl]; decide
  have g2 : w32 (0 + 2) < ((xar sc 2).length : Int) := by rw [show (xar sc 2).length = 6 from hl]; decide
  have g3 : w32 (0 + 3) < ((xar sc 2).length : Int) := by rw [show (xar sc 2).length = 6 from hl]; decide
  have g4 : w32 (0 + 4) < ((xar sc 2).length : Int) := by rw [show (xar sc 2).length = 6 from hl]; decide
  exact rg_L_law_519 0 M (gI (by decide) g1 (gI (by decide) g2 (gI (by decide) g3 (gI (by decide) g4 (cs_I hRT hX hC hM hI (.kk (hz _) (.kk (hz _) (.kk (hz _) (.kk (hz _) (fun _ q => absurd q List.not_mem_nil))))) (List.forall_mem_cons.mpr ⟨rfl, List.forall_mem_cons.mpr ⟨rfl, List.forall_mem_cons.mpr ⟨rfl, List.forall_mem_cons.mpr ⟨rfl, fun _ q => absurd q List.not_mem_nil⟩⟩⟩⟩) (H _ _ _ _ (hz _) (hz _) (hz _) (hz _)) fun x M1 h => gI (by decide) g1 (gI (by decide) g2 (gI (by decide) g3 (gI (by decide) g4 ((h.mono fun r M3 e => by subst e; exact brT rfl (fin_10 hl hQ M3)))))))))))
theorem cs_18 {sc : List Int} {Q : Vv → MM → Prop} {M : MM} (hRT : ∀ (m : Nat) (R : Rec), RTL[m]? = some R → okC RTL R = true) (hX : okX (xar sc)) (hz : ∀ n : Nat, in32 ((xar sc 2).getD n 0)) (hl : sc.length = 6) (hC : FrC M) (hM : FrM M) (hI : Inv FF YF M) (hQ : ∀ M, Q (vi 1) M) (H : ∀ a0 a1 : Int, in32 a0 → in32 a1 → PrI sc m_X11_goes m_X12_goes [vi a0, vi a1]) : WP F0z sc YF 60 m_L_law 566 [] [none, some (vr 0), some (vr 81), some (vi 0)] M Q := by
  have g1 : w32 (0 + 1) < ((xar sc 2).length : Int) := by rw [show (xar sc 2).length = 6 from hl]; decide
  have g2 : w32 (0 + 2) < ((xar sc 2).length : Int) := by rw [show (xar sc 2).length = 6 from hl]; decide
  exact rg_L_law_566 0 M (gI (by decide) g1 (gI (by decide) g2 (cs_I hRT hX hC hM hI (.kk (hz _) (.kk (hz _) (fun _ q => absurd q List.not_mem_nil))) (List.forall_mem_cons.mpr ⟨rfl, List.forall_mem_cons.mpr ⟨rfl, fun _ q => absurd q List.not_mem_nil⟩⟩) (H _ _ (hz _) (hz _)) fun x M1 h => gI (by decide) g1 (gI (by decide) g2 ((h.mono fun r M3 e => by subst e; exact brT rfl (fin_10 hl hQ M3)))))))
theorem cs_19 {sc : List Int} {Q : Vv → MM → Prop} {M : MM} (hRT : ∀ (m : Nat) (R : Rec), RTL[m]? = some R → okC RTL R = true) (hX : okX (xar sc)) (hz : ∀ n : Nat, in32 ((xar sc 2).getD n 0)) (hl : sc.length = 6) (hC : FrC M) (hM : FrM M) (hI : Inv FF YF M) (hQ : ∀ M, Q (vi 1) M) (H : ∀ a0 a1 a2 : Int, in32 a0 → in32 a1 → in32 a2 → PrJ sc m_X11_odds m_X12_odds [vi a0, vi a1, vi a2]) : WP F0z sc YF 60 m_L_law 593 [] [none, some (vr 0), some (vr 81), some (vi 0)] M Q := by
  have g1 : w32 (0 + 1) < ((xar sc 2).length : Int) := by rw [show (xar sc 2).length = 6 from hl]; decide
  have g2 : w32 (0 + 2) < ((xar sc 2).length : Int) := by rw [show (xar sc 2).length = 6 from hl]; decide
  have g3 : w32 (0 + 3) < ((xar sc 2).length : Int) := by rw [show (xar sc 2).length = 6 from hl]; decide
  exact rg_L_law_593 0 M (gI (by decide) g1 (gI (by decide) g2 (gI (by decide) g3 (cs_J hRT hX hC hM hI (.kk (hz _) (.kk (hz _) (.kk (hz _) (fun _ q => absurd q List.not_mem_nil)))) (List.forall_mem_cons.mpr ⟨rfl, List.forall_mem_cons.mpr ⟨rfl, List.forall_mem_cons.mpr ⟨rfl, fun _ q => absurd q List.not_mem_nil⟩⟩⟩) (H _ _ _ (hz _) (hz _) (hz _)) fun x M1 h => gI (by decide) g1 (gI (by decide) g2 (gI (by decide) g3 ((h.mono fun r M3 e => by subst e; exact brT (lcm_0 _) (fin_10 hl hQ M3)))))))))
theorem cs_20 {sc : List Int} {Q : Vv → MM → Prop} {M : MM} (hRT : ∀ (m : Nat) (R : Rec), RTL[m]? = some R → okC RTL R = true) (hX : okX (xar sc)) (hz : ∀ n : Nat, in32 ((xar sc 2).getD n 0)) (hl : sc.length = 6) (hC : FrC M) (hM : FrM M) (hI : Inv FF YF M) (hQ : ∀ M, Q (vi 1) M) (H : ∀ a0 : Int, in32 a0 → PrI sc m_X11_watered m_X12_watered [vi a0]) : WP F0z sc YF 60 m_L_law 631 [] [none, some (vr 0), some (vr 81), some (vi 0)] M Q := by
  have g1 : w32 (0 + 1) < ((xar sc 2).length : Int) := by rw [show (xar sc 2).length = 6 from hl]; decide
  exact rg_L_law_631 0 M (gI (by decide) g1 (cs_I hRT hX hC hM hI (.kk (hz _) (fun _ q => absurd q List.not_mem_nil)) (List.forall_mem_cons.mpr ⟨rfl, fun _ q => absurd q List.not_mem_nil⟩) (H _ (hz _)) fun x M1 h => gI (by decide) g1 ((h.mono fun r M3 e => by subst e; exact brT rfl (fin_10 hl hQ M3)))))
theorem cs_21 {sc : List Int} {Q : Vv → MM → Prop} {M : MM} (hRT : ∀ (m : Nat) (R : Rec), RTL[m]? = some R → okC RTL R = true) (hX : okX (xar sc)) (hz : ∀ n : Nat, in32 ((xar sc 2).getD n 0)) (hl : sc.length = 6) (hC : FrC M) (hM : FrM M) (hI : Inv FF YF M) (hQ : ∀ M, Q (vi 1) M) (H : ∀ a0 : Int, in32 a0 → PrI sc m_X11_tax m_X12_tax [vi a0]) : WP F0z sc YF 60 m_L_law 648 [] [none, some (vr 0), some (vr 81), some (vi 0)] M Q := by
  have g1 : w32 (0 + 1) < ((xar sc 2).length : Int) := by rw [show (xar sc 2).length = 6 from hl]; decide
  exact rg_L_law_648 0 M (gI (by decide) g1 (cs_I hRT hX hC hM hI (.kk (hz _) (fun _ q => absurd q List.not_mem_nil)) (List.forall_mem_cons.mpr ⟨rfl, fun _ q => absurd q List.not_mem_nil⟩) (H _ (hz _)) fun x M1 h => gI (by decide) g1 ((h.mono fun r M3 e => by subst e; exact brT rfl (fin_10 hl hQ M3)))))
theorem cs_22 {sc : List Int} {Q : Vv → MM → Prop} {M : MM} (hRT : ∀ (m : Nat) (R : Rec), RTL[m]? = some R → okC RTL R = true) (hX : okX (xar sc)) (hz : ∀ n : Nat, in32 ((xar sc 2).getD n 0)) (hl : sc.length = 6) (hC : FrC M) (hM : FrM M) (hI : Inv FF YF M) (hQ : ∀ M, Q (vi 1) M) (H : ∀ a0 a1 : Int, in32 a0 → in32 a1 → PrI sc m_X11_hand m_X12_hand [vi a0, vi a1]) : WP F0z sc YF 60 m_L_law 665 [] [none, some (vr 0), some (vr 81), some (vi 0)] M Q := by
  have g1 : w32 (0 + 1) < ((xar sc 2).length : Int) := by rw [show (xar sc 2).length = 6 from hl]; decide
  have g2 : w32 (0 + 2) < ((xar sc 2).length : Int) := by rw [show (xar sc 2).length = 6 from hl]; decide
  exact rg_L_law_665 0 M (gI (by decide) g1 (gI (by decide) g2 (cs_I hRT hX hC hM hI (.kk (hz _) (.kk (hz _) (fun _ q => absurd q List.not_mem_nil))) (List.forall_mem_cons.mpr ⟨rfl, List.forall_mem_cons.mpr ⟨rfl, fun _ q => absurd q List.not_mem_nil⟩⟩) (H _ _ (hz _) (hz _)) fun x M1 h => gI (by decide) g1 (gI (by decide) g2 ((h.mono fun r M3 e => by subst e; exact brT rfl (fin_10 hl hQ M3)))))))
theorem cs_23 {sc : List Int} {Q : Vv → MM → Prop} {M : MM} (hRT : ∀ (m : Nat) (R : Rec), RTL[m]? = some R → okC RTL R = true) (hX : okX (xar sc)) (hz : ∀ n : Nat, in32 ((xar sc 2).getD n 0)) (hl : sc.length = 6) (hC : FrC M) (hM : FrM M) (hI : Inv FF YF M) (hQ : ∀ M, Q (vi 1) M) (H : ∀ a0 a1 a2 a3 : Int, in32 a0 → in32 a1 → in32 a2 → in32 a3 → PrI sc m_X11_ledger m_X12_ledger [vi a0, vi a1, vi a2, vi a3]) : WP F0z sc YF 60 m_L_law 692 [] [none, some (vr 0), some (vr 81), some (vi 0)] M Q := by
  have g1 : w32 (0 + 1) < ((xar sc 2).length : Int) := by rw [show (xar sc 2).length = 6 from hl]; decide
  have g2 : w32 (0 + 2) < ((xar sc 2).length : Int) := by rw [show (xar sc 2).length = 6 from hl]; decide
  have g3 : w32 (0 + 3) < ((xar sc 2).length : Int) := by rw [show (xar sc 2).length = 6 from hl]; decide
  have g4 : w32 (0 + 4) < ((xar sc 2).length : Int) := by rw [show (xar sc 2).length = 6 from hl]; decide
  exact rg_L_law_692 0 M (gI (by decide) g1 (gI (by decide) g2 (gI (by decide) g3 (gI (by decide) g4 (cs_I hRT hX hC hM hI (.kk (hz _) (.kk (hz _) (.kk (hz _) (.kk (hz _) (fun _ q => absurd q List.not_mem_nil))))) (List.forall_mem_cons.mpr ⟨rfl, List.forall_mem_cons.mpr ⟨rfl, List.forall_mem_cons.mpr ⟨rfl, List.forall_mem_cons.mpr ⟨rfl, fun _ q => absurd q List.not_mem_nil⟩⟩⟩⟩) (H _ _ _ _ (hz _) (hz _) (hz _) (hz _)) fun x M1 h => gI (by decide) g1 (gI (by decide) g2 (gI (by decide) g3 (gI (by decide) g4 ((h.mono fun r M3 e => by subst e; exact brT rfl (fin_10 hl hQ M3)))))))))))
theorem cs_24 {sc : List Int} {Q : Vv → MM → Prop} {M : MM} (hRT : ∀ (m : Nat) (R : Rec), RTL[m]? = some R → okC RTL R = true) (hX : okX (xar sc)) (hz : ∀ n : Nat, in32 ((xar sc 2).getD n 0)) (hl : sc.length = 6) (hC : FrC M) (hM : FrM M) (hI : Inv FF YF M) (hQ : ∀ M, Q (vi 1) M) (H : ∀ a0 : Int, in32 a0 → PrI sc m_X11_seed m_X12_seed [vi a0]) : WP F0z sc YF 60 m_L_law 739 [] [none, some (vr 0), some (vr 81), some (vi 0)] M Q := by
  have g1 : w32 (0 + 1) < ((xar sc 2).length : Int) := by rw [show (xar sc 2).length = 6 from hl]; decide
  exact rg_L_law_739 0 M (gI (by decide) g1 (cs_I hRT hX hC hM hI (.kk (hz _) (fun _ q => absurd q List.not_mem_nil)) (List.forall_mem_cons.mpr ⟨rfl, fun _ q => absurd q List.not_mem_nil⟩) (H _ (hz _)) fun x M1 h => gI (by decide) g1 ((h.mono fun r M3 e => by subst e; exact brT rfl (fin_10 hl hQ M3)))))
theorem cs_25 {sc : List Int} {Q : Vv → MM → Prop} {M : MM} (hRT : ∀ (m : Nat) (R : Rec), RTL[m]? = some R → okC RTL R = true) (hX : okX (xar sc)) (hz : ∀ n : Nat, in32 ((xar sc 2).getD n 0)) (hl : sc.length = 6) (hC : FrC M) (hM : FrM M) (hI : Inv FF YF M) (hQ : ∀ M, Q (vi 1) M) (H : PrI sc m_X11_keep m_X12_keep []) : WP F0z sc YF 60 m_L_law 756 [] [none, some (vr 0), some (vr 81), some (vi 0)] M Q := by
  exact rg_L_law_756 0 M (cs_I hRT hX hC hM hI (fun _ q => absurd q List.not_mem_nil) (fun _ q => absurd q List.not_mem_nil) (H) fun x M1 h => (h.mono fun r M3 e => by subst e; exact brT rfl (fin_10 hl hQ M3)))
theorem cs_26 {sc : List Int} {Q : Vv → MM → Prop} {M : MM} (hRT : ∀ (m : Nat) (R : Rec), RTL[m]? = some R → okC RTL R = true) (hX : okX (xar sc)) (hz : ∀ n : Nat, in32 ((xar sc 2).getD n 0)) (hl : sc.length = 6) (hC : FrC M) (hM : FrM M) (hI : Inv FF YF M) (hQ : ∀ M, Q (vi 1) M) (H : PrI sc m_X11_undo m_X12_undo []) : WP F0z sc YF 60 m_L_law 763 [] [none, some (vr 0), some (vr 81), some (vi 0)] M Q := by
  exact rg_L_law_763 0 M (cs_I hRT hX hC hM hI (fun _ q => absurd q List.not_mem_nil) (fun _ q => absurd q List.not_mem_nil) (H) fun x M1 h => (h.mono fun r M3 e => by subst e; exact brT rfl (fin_10 hl hQ M3)))
theorem cs_27 {sc : List Int} {Q : Vv → MM → Prop} {M : MM} (hRT : ∀ (m : Nat) (R : Rec), RTL[m]? = some R → okC RTL R = true) (hX : okX (xar sc)) (hz : ∀ n : Nat, in32 ((xar sc 2).getD n 0)) (hl : sc.length = 6) (hC : FrC M) (hM : FrM M) (hI : Inv FF YF M) (hQ : ∀ M, Q (vi 1) M) (H : ∀ a0 : Int, in32 a0 → PrI sc m_X11_check m_X12_check [vi a0]) : WP F0z sc YF 60 m_L_law 770 [] [none, some (vr 0), some (vr 81), some (vi 0)] M Q := by
  have g1 : w32 (0 + 1) < ((xar sc 2).length : Int) := by rw [show (xar sc 2).length = 6 from hl]; decide
  exact rg_L_law_770 0 M (gI (by decide) g1 (cs_I hRT hX hC hM hI (.kk (hz _) (fun _ q => absurd q List.not_mem_nil)) (List.forall_mem_cons.mpr ⟨rfl, fun _ q => absurd q List.not_mem_nil⟩) (H _ (hz _)) fun x M1 h => gI (by decide) g1 ((h.mono fun r M3 e => by subst e; exact brT rfl (fin_10 hl hQ M3)))))
theorem cs_28 {sc : List Int} {Q : Vv → MM → Prop} {M : MM} (hRT : ∀ (m : Nat) (R : Rec), RTL[m]? = some R → okC RTL R = true) (hX : okX (xar sc)) (hz : ∀ n : Nat, in32 ((xar sc 2).getD n 0)) (hl : sc.length = 6) (hC : FrC M) (hM : FrM M) (hI : Inv FF YF M) (hQ : ∀ M, Q (vi 1) M) (H : ∀ a0 : Int, in32 a0 → PrI sc m_X11_count m_X12_count [vi a0]) : WP F0z sc YF 60 m_L_law 787 [] [none, some (vr 0), some (vr 81), some (vi 0)] M Q := by
  have g1 : w32 (0 + 1) < ((xar sc 2).length : Int) := by rw [show (xar sc 2).length = 6 from hl]; decide
  exact rg_L_law_787 0 M (gI (by decide) g1 (cs_I hRT hX hC hM hI (.kk (hz _) (fun _ q => absurd q List.not_mem_nil)) (List.forall_mem_cons.mpr ⟨rfl, fun _ q => absurd q List.not_mem_nil⟩) (H _ (hz _)) fun x M1 h => gI (by decide) g1 ((h.mono fun r M3 e => by subst e; exact brT rfl (fin_10 hl hQ M3)))))
theorem law_10 {sc : List Int} {Q : Vv → MM → Prop} {M : MM} (hRT : ∀ (m : Nat) (R : Rec), RTL[m]? = some R → okC RTL R = true) (hX : okX (xar sc)) (hz : ∀ n : Nat, in32 ((xar sc 2).getD n 0)) (hl : sc.length = 6) (hC : FrC M) (hM : FrM M) (hI : Inv FF YF M) (hQ : ∀ M, Q (vi 1) M) (H0 : ∀ a0 a1 a2 a3 a4 : Int, in32 a0 → in32 a1 → in32 a2 → in32 a3 → in32 a4 → PrI sc m_X11_feed m_X12_feed [vi a0, vi a1, vi a2, vi a3, vi a4]) (H1 : ∀ a0 : Int, in32 a0 → PrI sc m_X11_quarter m_X12_quarter [vi a0]) (H2 : ∀ a0 a1 : Int, in32 a0 → in32 a1 → PrI sc m_X11_walk m_X12_walk [vi a0, vi a1]) (H3 : ∀ a0 : Int, in32 a0 → PrI sc m_X11_law m_X12_law [vi a0]) (H4 : ∀ a0 a1 a2 a3 : Int, in32 a0 → in32 a1 → in32 a2 → in32 a3 → PrI sc m_X11_stranger m_X12_stranger [vi a0, vi a1, vi a2, vi a3]) (H5 : ∀ a b : Int, in32 a → (b = 0 ∨ b = 1) → PrI sc m_X11_dog m_X12_dog [vi a, vi b]) (H6 : ∀ a0 : Int, in32 a0 → PrI sc m_X11_tells m_X12_tells [vi a0]) (H7 : ∀ a0 : Int, in32 a0 → PrI sc m_X11_haunts m_X12_haunts [vi a0]) (H8 : ∀ a0 a1 : Int, in32 a0 → in32 a1 → PrI sc m_X11_tried m_X12_tried [vi a0, vi a1]) (H9 : ∀ a0 a1 : Int, in32 a0 → in32 a1 → PrI sc m_X11_strangerIs m_X12_strangerIs [vi a0, vi a1]) (H10 : ∀ a0 a1 : Int, in32 a0 → in32 a1 → PrI sc m_X11_houseIs m_X12_houseIs [vi a0, vi a1]) (H11 : ∀ a0 a1 a2 : Int, in32 a0 → in32 a1 → in32 a2 → PrI sc m_X11_meet m_X12_meet [vi a0, vi a1, vi a2]) (H12 : ∀ a0 a1 a2 : Int, in32 a0 → in32 a1 → in32 a2 → PrI sc m_X11_dread m_X12_dread [vi a0, vi a1, vi a2]) (H13 : ∀ a0 a1 a2 : Int, in32 a0 → in32 a1 → in32 a2 → PrI sc m_X11_unseen m_X12_unseen [vi a0, vi a1, vi a2]) (H14 : ∀ a0 : Int, in32 a0 → PrI sc m_X11_watch m_X12_watch [vi a0]) (H15 : ∀ a0 a1 : Int, in32 a0 → in32 a1 → PrI sc m_X11_feared m_X12_feared [vi a0, vi a1]) (H16 : ∀ a0 a1 : Int, in32 a0 → in32 a1 → PrI sc m_X11_sightings m_X12_sightings [vi a0, vi a1]) (H17 : ∀ a0 a1 a2 a3 : Int, in32 a0 → in32 a1 → in32 a2 → in32 a3 → PrI sc m_X11_rotas m_X12_rotas [vi a0, vi a1, vi a2, vi a3]) (H18 : ∀ a0 a1 : Int, in32 a0 → in32 a1 → PrI sc m_X11_goes m_X12_goes [vi a0, vi a1]) (H19 : ∀ a0 a1 a2 : Int, in32 a0 → in32 a1 → in32 a2 → PrJ sc m_X11_odds m_X12_odds [vi a0, vi a1, vi a2]) (H20 : ∀ a0 : Int, in32 a0 → PrI sc m_X11_watered m_X12_watered [vi a0]) (H21 : ∀ a0 : Int, in32 a0 → PrI sc m_X11_tax m_X12_tax [vi a0]) (H22 : ∀ a0 a1 : Int, in32 a0 → in32 a1 → PrI sc m_X11_hand m_X12_hand [vi a0, vi a1]) (H23 : ∀ a0 a1 a2 a3 : Int, in32 a0 → in32 a1 → in32 a2 → in32 a3 → PrI sc m_X11_ledger m_X12_ledger [vi a0, vi a1, vi a2, vi a3]) (H24 : ∀ a0 : Int, in32 a0 → PrI sc m_X11_seed m_X12_seed [vi a0]) (H25 : PrI sc m_X11_keep m_X12_keep []) (H26 : PrI sc m_X11_undo m_X12_undo []) (H27 : ∀ a0 : Int, in32 a0 → PrI sc m_X11_check m_X12_check [vi a0]) (H28 : ∀ a0 : Int, in32 a0 → PrI sc m_X11_count m_X12_count [vi a0]) : WP F0z sc YF 60 m_L_law 10 [] [none, some (vr 0), some (vr 81), some (vi 0)] M Q := by
  refine rg_L_law_10 0 M (brF ?_ (gI (by decide) ?_ ?_))
  · show ¬ w32 ((sc.length : Int) - 6) < 0
    rw [hl]
    decide
  · show (0 : Int) < (sc.length : Int)
    rw [hl]
    decide
  · exact ⟨fun _ => cs_0 hRT hX hz hl hC hM hI hQ H0, fun _ => ⟨fun _ => cs_1 hRT hX hz hl hC hM hI hQ H1, fun _ => ⟨fun _ => cs_2 hRT hX hz hl hC hM hI hQ H2, fun _ => ⟨fun _ => cs_3 hRT hX hz hl hC hM hI hQ H3, fun _ => ⟨fun _ => cs_4 hRT hX hz hl hC hM hI hQ H4, fun _ => ⟨fun _ => cs_5 hRT hX hz hl hC hM hI hQ H5, fun _ => ⟨fun _ => cs_6 hRT hX hz hl hC hM hI hQ H6, fun _ => ⟨fun _ => cs_7 hRT hX hz hl hC hM hI hQ H7, fun _ => ⟨fun _ => cs_8 hRT hX hz hl hC hM hI hQ H8, fun _ => ⟨fun _ => cs_9 hRT hX hz hl hC hM hI hQ H9, fun _ => ⟨fun _ => cs_10 hRT hX hz hl hC hM hI hQ H10, fun _ => ⟨fun _ => cs_11 hRT hX hz hl hC hM hI hQ H11, fun _ => ⟨fun _ => cs_12 hRT hX hz hl hC hM hI hQ H12, fun _ => ⟨fun _ => cs_13 hRT hX hz hl hC hM hI hQ H13, fun _ => ⟨fun _ => cs_14 hRT hX hz hl hC hM hI hQ H14, fun _ => ⟨fun _ => cs_15 hRT hX hz hl hC hM hI hQ H15, fun _ => ⟨fun _ => cs_16 hRT hX hz hl hC hM hI hQ H16, fun _ => ⟨fun _ => cs_17 hRT hX hz hl hC hM hI hQ H17, fun _ => ⟨fun _ => cs_18 hRT hX hz hl hC hM hI hQ H18, fun _ => ⟨fun _ => cs_19 hRT hX hz hl hC hM hI hQ H19, fun _ => ⟨fun _ => cs_20 hRT hX hz hl hC hM hI hQ H20, fun _ => ⟨fun _ => cs_21 hRT hX hz hl hC hM hI hQ H21, fun _ => ⟨fun _ => cs_22 hRT hX hz hl hC hM hI hQ H22, fun _ => ⟨fun _ => cs_23 hRT hX hz hl hC hM hI hQ H23, fun _ => ⟨fun _ => cs_24 hRT hX hz hl hC hM hI hQ H24, fun _ => ⟨fun _ => cs_25 hRT hX hz hl hC hM hI hQ H25, fun _ => ⟨fun _ => cs_26 hRT hX hz hl hC hM hI hQ H26, fun _ => ⟨fun _ => cs_27 hRT hX hz hl hC hM hI hQ H27, fun _ => ⟨fun _ => cs_28 hRT hX hz hl hC hM hI hQ H28, fun _ => fin_10 hl hQ M⟩⟩⟩⟩⟩⟩⟩⟩⟩⟩⟩⟩⟩⟩⟩⟩⟩⟩⟩⟩⟩⟩⟩⟩⟩⟩⟩⟩⟩
theorem law_all {sc : List Int} (hRT : ∀ (m : Nat) (R : Rec), RTL[m]? = some R → okC RTL R = true) (hsc : ∀ z ∈ sc, in32 z) (hl : sc.length ≤ 6) (H0 : ∀ a0 a1 a2 a3 a4 : Int, in32 a0 → in32 a1 → in32 a2 → in32 a3 → in32 a4 → PrI sc m_X11_feed m_X12_feed [vi a0, vi a1, vi a2, vi a3, vi a4]) (H1 : ∀ a0 : Int, in32 a0 → PrI sc m_X11_quarter m_X12_quarter [vi a0]) (H2 : ∀ a0 a1 : Int, in32 a0 → in32 a1 → PrI sc m_X11_walk m_X12_walk [vi a0, vi a1]) (H3 : ∀ a0 : Int, in32 a0 → PrI sc m_X11_law m_X12_law [vi a0]) (H4 : ∀ a0 a1 a2 a3 : Int, in32 a0 → in32 a1 → in32 a2 → in32 a3 → PrI sc m_X11_stranger m_X12_stranger [vi a0, vi a1, vi a2, vi a3]) (H5 : ∀ a b : Int, in32 a → (b = 0 ∨ b = 1) → PrI sc m_X11_dog m_X12_dog [vi a, vi b]) (H6 : ∀ a0 : Int, in32 a0 → PrI sc m_X11_tells m_X12_tells [vi a0]) (H7 : ∀ a0 : Int, in32 a0 → PrI sc m_X11_haunts m_X12_haunts [vi a0]) (H8 : ∀ a0 a1 : Int, in32 a0 → in32 a1 → PrI sc m_X11_tried m_X12_tried [vi a0, vi a1]) (H9 : ∀ a0 a1 : Int, in32 a0 → in32 a1 → PrI sc m_X11_strangerIs m_X12_strangerIs [vi a0, vi a1]) (H10 : ∀ a0 a1 : Int, in32 a0 → in32 a1 → PrI sc m_X11_houseIs m_X12_houseIs [vi a0, vi a1]) (H11 : ∀ a0 a1 a2 : Int, in32 a0 → in32 a1 → in32 a2 → PrI sc m_X11_meet m_X12_meet [vi a0, vi a1, vi a2]) (H12 : ∀ a0 a1 a2 : Int, in32 a0 → in32 a1 → in32 a2 → PrI sc m_X11_dread m_X12_dread [vi a0, vi a1, vi a2]) (H13 : ∀ a0 a1 a2 : Int, in32 a0 → in32 a1 → in32 a2 → PrI sc m_X11_unseen m_X12_unseen [vi a0, vi a1, vi a2]) (H14 : ∀ a0 : Int, in32 a0 → PrI sc m_X11_watch m_X12_watch [vi a0]) (H15 : ∀ a0 a1 : Int, in32 a0 → in32 a1 → PrI sc m_X11_feared m_X12_feared [vi a0, vi a1]) (H16 : ∀ a0 a1 : Int, in32 a0 → in32 a1 → PrI sc m_X11_sightings m_X12_sightings [vi a0, vi a1]) (H17 : ∀ a0 a1 a2 a3 : Int, in32 a0 → in32 a1 → in32 a2 → in32 a3 → PrI sc m_X11_rotas m_X12_rotas [vi a0, vi a1, vi a2, vi a3]) (H18 : ∀ a0 a1 : Int, in32 a0 → in32 a1 → PrI sc m_X11_goes m_X12_goes [vi a0, vi a1]) (H19 : ∀ a0 a1 a2 : Int, in32 a0 → in32 a1 → in32 a2 → PrJ sc m_X11_odds m_X12_odds [vi a0, vi a1, vi a2]) (H20 : ∀ a0 : Int, in32 a0 → PrI sc m_X11_watered m_X12_watered [vi a0]) (H21 : ∀ a0 : Int, in32 a0 → PrI sc m_X11_tax m_X12_tax [vi a0]) (H22 : ∀ a0 a1 : Int, in32 a0 → in32 a1 → PrI sc m_X11_hand m_X12_hand [vi a0, vi a1]) (H23 : ∀ a0 a1 a2 a3 : Int, in32 a0 → in32 a1 → in32 a2 → in32 a3 → PrI sc m_X11_ledger m_X12_ledger [vi a0, vi a1, vi a2, vi a3]) (H24 : ∀ a0 : Int, in32 a0 → PrI sc m_X11_seed m_X12_seed [vi a0]) (H25 : PrI sc m_X11_keep m_X12_keep []) (H26 : PrI sc m_X11_undo m_X12_undo []) (H27 : ∀ a0 : Int, in32 a0 → PrI sc m_X11_check m_X12_check [vi a0]) (H28 : ∀ a0 : Int, in32 a0 → PrI sc m_X11_count m_X12_count [vi a0]) : WY F0z sc 60 m_L_law 0 [] [none, none, none, none] [] (fun _ _ => 0) (fun r Y _ => r = vi 1 ∧ Y = YF) := by
  have hX : okX (xar sc) := okX_xar ⟨hsc, ⟨by omega, by omega⟩⟩
  have hz : ∀ n : Nat, in32 ((xar sc 2).getD n 0) := fun n => by
    show in32 (sc.getD n 0)
    rw [List.getD_eq_getElem?_getD]
    cases h : sc[n]? with
    | none => exact in32_0
    | some z => exact hsc z (List.mem_of_getElem? h)
  have i0 : Inv F0z (TK 1) (zrM (fun _ _ => 0) 0) := inv_zr (inv_0 _) rfl
  refine yg_L_law_0 _ ((CY.inv hRT hX i0 (.kk (okvr _) (fun _ q => absurd q List.not_mem_nil)) (List.forall_mem_cons.mpr ⟨rfl, fun _ q => absurd q List.not_mem_nil⟩) (sp_X11_init_0 _ (zr_at _ _))).mono fun r Y' M1 a => ?_)
  obtain ⟨⟨rfl, a1⟩, a2⟩ := a
  have i1 : Inv F0z (TK 82) (zrM M1 81) := inv_zr (c := 21) a2 rfl
  refine yg_L_law_3 _ ((CY.inv hRT hX i1 (.kk (okvr _) (fun _ q => absurd q List.not_mem_nil)) (List.forall_mem_cons.mpr ⟨rfl, fun _ q => absurd q List.not_mem_nil⟩) (sp_X12_init_81 _ (zr_at _ _))).mono fun r Y' M2 b => ?_)
  obtain ⟨⟨rfl, b1⟩, b2⟩ := b
  refine yg_L_law_7 M2 ?_
  rw [TK_121] at b2 ⊢
  have hC : FrC M2 := fun k h1 h2 h3 j => by
    rw [b1.1 k h1 j]
    show zrM M1 81 k j = _
    rw [zrN (by omega)]
    exact a1.2 k (by omega) h1 h2 h3 j
  have hM : FrM M2 := fun k h1 h2 j => b1.2 k h1 h2 (by omega) (by omega) j
  have hI : Inv FF YF M2 := inv_FF b2 hC hM
  refine WY.of ?_
  rcases Nat.lt_or_ge sc.length 6 with h | h
  · refine rg_L_law_10 0 M2 (brT ?_ ⟨rfl, rfl⟩)
    show w32 ((sc.length : Int) - 6) < 0
    rw [w32_of ⟨by omega, by omega⟩]
    omega
  · exact law_10 hRT hX hz (by omega) hC hM hI (fun _ => ⟨rfl, rfl⟩) H0 H1 H2 H3 H4 H5 H6 H7 H8 H9 H10 H11 H12 H13 H14 H15 H16 H17 H18 H19 H20 H21 H22 H23 H24 H25 H26 H27 H28
