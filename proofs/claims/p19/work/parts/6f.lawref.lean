/-! PART 6f: the text of THE LAW, read by the reference: sums -/
theorem pc_X12_notes {sc : List Int} {n : Nat} {Q : Vv → MM → Prop} (v1 : Int) (v2 : Int) (M : MM) (h : ∀ n1, n1 < n → gIm (decide (0 ≤ (M 81 16)) && decide ((M 81 16) < 260)) (Q (vi 0) (stM (stM M 91 ((M 81 16).toNat) (w32 ((w32 (1048576 * v1)) + v2))) 81 16 (w32 ((M 81 16) + 1))))) : PC sc n m_X12_notes [vr 81, vi v1, vi v2] M Q := pc_go rfl (fun j => false) 22 h
theorem pc_X12_opens {sc : List Int} {n : Nat} {Q : Vv → MM → Prop} (v1 : Int) (M : MM) (h : ∀ n1, n1 < n → brA (decide ((M 81 15) ≠ 6))
  (gIm (decide (0 ≤ (M 81 17)) && decide ((M 81 17) < 260)) (Q (vi 1) (stM (stM (stM (stM M 81 15 (w32 ((M 81 15) + 1))) 92 ((M 81 17).toNat) (w32 (1048576 * v1))) 81 17 (w32 ((M 81 17) + 1))) 81 11 (w32 ((M 81 11) + 1)))))
  (PC sc n1 m_X12_wrongAt [vr 81, vi 5, vi (M 81 11)] M (cI fun r2 M1 =>
   gIm (decide (r2 = 0) || decide (r2 = 1)) (Q (vi r2) M1)))) : PC sc n m_X12_opens [vr 81, vi v1] M Q := pc_go rfl (fun j => false) 43 h
theorem pc_X12_waitTop {sc : List Int} {n : Nat} {Q : Vv → MM → Prop}  (M : MM) (h : ∀ n1, n1 < n → brA (decide ((M 81 17) ≠ 0))
  (gIm (decide (0 ≤ (w32 ((M 81 17) - 1))) && decide ((w32 ((M 81 17) - 1)) < 260)) (Q (vi (w32 (Int.tdiv (M 92 (w32 ((M 81 17) - 1)).toNat) 1048576))) M))
  (Q (vi ((-1))) M)) : PC sc n m_X12_waitTop [vr 81] M Q := pc_go rfl (fun j => false) 20 h
theorem pc_X12_hasOpenSum {sc : List Int} {n : Nat} {Q : Vv → MM → Prop} (v1 : Int) (M : MM) (h : ∀ n1, n1 < n → PW sc n1 m_X12_hasOpenSum 2 [] [some (vr 81), some (vi v1), some (vi v1)] M Q) : PC sc n m_X12_hasOpenSum [vr 81, vi v1] M Q := pc_go rfl (fun j => Nat.beq j 2) 25 h
theorem pw_X12_hasOpenSum_2 {sc : List Int} {n : Nat} {Q : Vv → MM → Prop} (v1 : Int) (v2 : Int) (M : MM) (h : ∀ n1, n1 < n → brA (decide ((M 81 17) ≤ v2))
  (Q (vi 0) M)
  (gIm (decide (0 ≤ v2) && decide (v2 < 260)) (brA (decide ((w32 (Int.tdiv (M 92 v2.toNat) 1048576)) ≠ 14))
   (PW sc n1 m_X12_hasOpenSum 2 [] [some (vr 81), some (vi v1), some (vi (w32 (v2 + 1)))] M Q)
   (Q (vi 1) M)))) : PW sc n m_X12_hasOpenSum 2 [] [some (vr 81), some (vi v1), some (vi v2)] M Q := pw_go rfl (fun j => Nat.beq j 2) 25 h
theorem pc_X12_closesSums {sc : List Int} {n : Nat} {Q : Vv → MM → Prop} (v1 : Int) (M : MM) (h : ∀ n1, n1 < n → PC sc n1 m_X12_waitTop [vr 81] M (cI fun r2 M1 =>
  brA (decide (r2 < 4))
   (PW sc n1 m_X12_closesSums 8 [] [some (vr 81), some (vi v1)] M1 Q)
   (PC sc n1 m_X12_waitTop [vr 81] M1 (cI fun r4 M3 =>
    brA (decide (r4 ≤ 6))
     (PW sc n1 m_X12_closesSums 18 [] [some (vr 81), some (vi v1)] M3 Q)
     (PW sc n1 m_X12_closesSums 8 [] [some (vr 81), some (vi v1)] M3 Q))))) : PC sc n m_X12_closesSums [vr 81, vi v1] M Q := pc_go rfl (fun j => Nat.beq j 0 || Nat.beq j 8 || Nat.beq j 18) 36 h
theorem pw_X12_closesSums_0 {sc : List Int} {n : Nat} {Q : Vv → MM → Prop} (v1 : Int) (M : MM) (h : ∀ n1, n1 < n → PC sc n1 m_X12_waitTop [vr 81] M (cI fun r2 M1 =>
  brA (decide (r2 < 4))
   (PW sc n1 m_X12_closesSums 8 [] [some (vr 81), some (vi v1)] M1 Q)
   (PC sc n1 m_X12_waitTop [vr 81] M1 (cI fun r4 M3 =>
    brA (decide (r4 ≤ 6))
     (PW sc n1 m_X12_closesSums 18 [] [some (vr 81), some (vi v1)] M3 Q)
     (PW sc n1 m_X12_closesSums 8 [] [some (vr 81), some (vi v1)] M3 Q))))) : PW sc n m_X12_closesSums 0 [] [some (vr 81), some (vi v1)] M Q := pw_go rfl (fun j => Nat.beq j 0 || Nat.beq j 8 || Nat.beq j 18) 36 h
theorem pw_X12_closesSums_8 {sc : List Int} {n : Nat} {Q : Vv → MM → Prop} (v1 : Int) (M : MM) (h : ∀ n1, n1 < n → brA (decide (v1 = 0))
  (Q (vi 0) M)
  (PC sc n1 m_X12_waitTop [vr 81] M (cI fun r2 M1 =>
   brA (decide (r2 = 2))
    (PW sc n1 m_X12_closesSums 18 [] [some (vr 81), some (vi v1)] M1 Q)
    (PC sc n1 m_X12_waitTop [vr 81] M1 (cI fun r4 M3 =>
     brA (decide (r4 ≠ 3))
      (Q (vi 0) M3)
      (PW sc n1 m_X12_closesSums 18 [] [some (vr 81), some (vi v1)] M3 Q)))))) : PW sc n m_X12_closesSums 8 [] [some (vr 81), some (vi v1)] M Q := pw_go rfl (fun j => Nat.beq j 0 || Nat.beq j 8 || Nat.beq j 18) 36 h
theorem pw_X12_closesSums_18 {sc : List Int} {n : Nat} {Q : Vv → MM → Prop} (v1 : Int) (M : MM) (h : ∀ n1, n1 < n → PC sc n1 m_X12_waitTop [vr 81] M (cI fun r2 M1 =>
  PC sc n1 m_X12_notes [vr 81, vi r2, vi 0] M1 (fun _ M3 =>
   PW sc n1 m_X12_closesSums 0 [] [some (vr 81), some (vi v1)] (stM M3 81 17 (w32 ((M3 81 17) - 1))) Q))) : PW sc n m_X12_closesSums 18 [] [some (vr 81), some (vi v1)] M Q := pw_go rfl (fun j => Nat.beq j 0 || Nat.beq j 8 || Nat.beq j 18) 36 h
theorem pc_X12_readsFactor {sc : List Int} {n : Nat} {Q : Vv → MM → Prop}  (M : MM) (h : ∀ n1, n1 < n → PC sc n1 m_X12_here [vr 81] M (cI fun r2 M1 =>
  brA (decide (r2 ≠ 91))
   (PC sc n1 m_X12_isDigit [vr 81] M1 (cI fun r4 M3 =>
    brA (decide (r4 = 0))
     (PC sc n1 m_X12_here [vr 81] M3 (cI fun r6 M5 =>
      PC sc n1 m_X12_factOf [vi r6] M5 (cI fun r8 M7 =>
       brA (decide (r8 ≠ ((-1))))
        (PC sc n1 m_X12_notes [vr 81, vi 1, vi r8] M7 (fun _ M9 =>
         Q (vi 1) (stM M9 81 11 (w32 ((M9 81 11) + 1)))))
        (PC sc n1 m_X12_wrongAt [vr 81, vi 1, vi (M7 81 11)] M7 (cI fun r11 M10 =>
         gIm (decide (r11 = 0) || decide (r11 = 1)) (Q (vi r11) M10))))))
     (PC sc n1 m_X12_readsNumber [vr 81] M3 (cI fun r13 M12 =>
      brA (decide (r13 ≠ 0))
       (PC sc n1 m_X12_notes [vr 81, vi 0, vi (M12 81 14)] M12 (fun _ M14 =>
        Q (vi 1) M14))
       (Q (vi 0) M12)))))
   (PC sc n1 m_X12_opens [vr 81, vi 14] M1 (cI fun r16 M15 =>
    brA (decide (r16 ≠ 0))
     (PW sc n1 m_X12_readsFactor 0 [] [some (vr 81), none] M15 Q)
     (Q (vi 0) M15))))) : PC sc n m_X12_readsFactor [vr 81] M Q := pc_go rfl (fun j => Nat.beq j 0) 55 h
theorem pw_X12_readsFactor_0 {sc : List Int} {n : Nat} {Q : Vv → MM → Prop}  (M : MM) (h : ∀ n1, n1 < n → PC sc n1 m_X12_here [vr 81] M (cI fun r2 M1 =>
  brA (decide (r2 ≠ 91))
   (PC sc n1 m_X12_isDigit [vr 81] M1 (cI fun r4 M3 =>
    brA (decide (r4 = 0))
     (PC sc n1 m_X12_here [vr 81] M3 (cI fun r6 M5 =>
      PC sc n1 m_X12_factOf [vi r6] M5 (cI fun r8 M7 =>
       brA (decide (r8 ≠ ((-1))))
        (PC sc n1 m_X12_notes [vr 81, vi 1, vi r8] M7 (fun _ M9 =>
         Q (vi 1) (stM M9 81 11 (w32 ((M9 81 11) + 1)))))
        (PC sc n1 m_X12_wrongAt [vr 81, vi 1, vi (M7 81 11)] M7 (cI fun r11 M10 =>
         gIm (decide (r11 = 0) || decide (r11 = 1)) (Q (vi r11) M10))))))
     (PC sc n1 m_X12_readsNumber [vr 81] M3 (cI fun r13 M12 =>
      brA (decide (r13 ≠ 0))
       (PC sc n1 m_X12_notes [vr 81, vi 0, vi (M12 81 14)] M12 (fun _ M14 =>
        Q (vi 1) M14))
       (Q (vi 0) M12)))))
   (PC sc n1 m_X12_opens [vr 81, vi 14] M1 (cI fun r16 M15 =>
    brA (decide (r16 ≠ 0))
     (PW sc n1 m_X12_readsFactor 0 [] [some (vr 81), none] M15 Q)
     (Q (vi 0) M15))))) : PW sc n m_X12_readsFactor 0 [] [some (vr 81), none] M Q := pw_go rfl (fun j => Nat.beq j 0) 55 h
theorem pc_X12_readsSum {sc : List Int} {n : Nat} {Q : Vv → MM → Prop}  (M : MM) (h : ∀ n1, n1 < n → PC sc n1 m_X12_readsFactor [vr 81] M (cI fun r2 M1 =>
  brA (decide (r2 ≠ 0))
   (PW sc n1 m_X12_readsSum 8 [] [some (vr 81), some (vi (M 81 17)), none] M1 Q)
   (Q (vi 0) M1))) : PC sc n m_X12_readsSum [vr 81] M Q := pc_go rfl (fun j => Nat.beq j 8 || Nat.beq j 22 || Nat.beq j 78) 99 h
theorem pw_X12_readsSum_8 {sc : List Int} {n : Nat} {Q : Vv → MM → Prop} (v1 : Int) (o2 : Option Vv) (M : MM) (h : ∀ n1, n1 < n → PC sc n1 m_X12_here [vr 81] M (cI fun r2 M1 =>
  PC sc n1 m_X12_sumSign [vi r2] M1 (cI fun r4 M3 =>
   brA (decide (r4 = ((-1))))
    (PC sc n1 m_X12_here [vr 81] M3 (cI fun r6 M5 =>
     brA (decide (r6 ≠ 93))
      (PW sc n1 m_X12_readsSum 78 [] [some (vr 81), some (vi v1), some (vi r4)] M5 Q)
      (PC sc n1 m_X12_hasOpenSum [vr 81, vi v1] M5 (cI fun r8 M7 =>
       brA (decide (r8 = 0))
        (PW sc n1 m_X12_readsSum 78 [] [some (vr 81), some (vi v1), some (vi r4)] M7 Q)
        (PC sc n1 m_X12_closesSums [vr 81, vi 1] M7 (fun _ M9 =>
         PW sc n1 m_X12_readsSum 8 [] [some (vr 81), some (vi v1), some (vi r4)] (stM (stM (stM M9 81 17 (w32 ((M9 81 17) - 1))) 81 15 (w32 ((M9 81 15) - 1))) 81 11 (w32 ((M9 81 11) + 1))) Q))))))
    (brA (decide (4 ≤ r4))
     (PW sc n1 m_X12_readsSum 22 [vi 0, vr 81] [some (vr 81), some (vi v1), some (vi r4)] M3 Q)
     (PW sc n1 m_X12_readsSum 22 [vi 1, vr 81] [some (vr 81), some (vi v1), some (vi r4)] M3 Q))))) : PW sc n m_X12_readsSum 8 [] [some (vr 81), some (vi v1), o2] M Q := pw_go rfl (fun j => Nat.beq j 8 || Nat.beq j 22 || Nat.beq j 78) 99 h
theorem pw_X12_readsSum_22 {sc : List Int} {n : Nat} {Q : Vv → MM → Prop} (v1 : Int) (v2 : Int) (s0 : Nat) (s1 : Int) (M : MM) (h : ∀ n1, n1 < n → gIm (kd YF s0 == 21) (PC sc n1 m_X12_closesSums [vr s0, vi s1] M (fun _ M1 =>
  gIm (decide (0 ≤ (M1 81 17)) && decide ((M1 81 17) < 260)) (PC sc n1 m_X12_readsFactor [vr 81] (stM (stM (stM M1 92 ((M1 81 17).toNat) (w32 (1048576 * v2))) 81 17 (w32 ((M1 81 17) + 1))) 81 11 (w32 ((M1 81 11) + 1))) (cI fun r3 M2 =>
   brA (decide (r3 ≠ 0))
    (PW sc n1 m_X12_readsSum 8 [] [some (vr 81), some (vi v1), some (vi v2)] M2 Q)
    (Q (vi 0) M2)))))) : PW sc n m_X12_readsSum 22 [vi s1, vr s0] [some (vr 81), some (vi v1), some (vi v2)] M Q := pw_go rfl (fun j => Nat.beq j 8 || Nat.beq j 22 || Nat.beq j 78) 99 h
theorem pw_X12_readsSum_78 {sc : List Int} {n : Nat} {Q : Vv → MM → Prop} (v1 : Int) (v2 : Int) (M : MM) (h : ∀ n1, n1 < n → PC sc n1 m_X12_hasOpenSum [vr 81, vi v1] M (cI fun r2 M1 =>
  brA (decide (r2 = 0))
   (PC sc n1 m_X12_closesSums [vr 81, vi 1] M1 (fun _ M3 =>
    Q (vi 1) M3))
   (PC sc n1 m_X12_wrongAt [vr 81, vi 1, vi (M1 81 11)] M1 (cI fun r5 M4 =>
    gIm (decide (r5 = 0) || decide (r5 = 1)) (Q (vi r5) M4))))) : PW sc n m_X12_readsSum 78 [] [some (vr 81), some (vi v1), some (vi v2)] M Q := pw_go rfl (fun j => Nat.beq j 8 || Nat.beq j 22 || Nat.beq j 78) 99 h
theorem pc_X12_readsNumber {sc : List Int} {n : Nat} {Q : Vv → MM → Prop}  (M : MM) (h : ∀ n1, n1 < n → PW sc n1 m_X12_readsNumber 6 [] [some (vr 81), some (vi (M 81 11))] (stM M 81 14 0) Q) : PC sc n m_X12_readsNumber [vr 81] M Q := pc_go rfl (fun j => Nat.beq j 6) 46 h
theorem pw_X12_readsNumber_6 {sc : List Int} {n : Nat} {Q : Vv → MM → Prop} (v1 : Int) (M : MM) (h : ∀ n1, n1 < n → PC sc n1 m_X12_isDigit [vr 81] M (cI fun r2 M1 =>
  brA (decide (r2 = 0))
   (Q (vi 1) M1)
   (brA (decide ((M1 81 11) ≠ (w32 (v1 + 5))))
    (PC sc n1 m_X12_here [vr 81] M1 (cI fun r4 M3 =>
     PW sc n1 m_X12_readsNumber 6 [] [some (vr 81), some (vi v1)] (stM (stM M3 81 14 (w32 ((w32 ((w32 (10 * (M1 81 14))) + r4)) - 48))) 81 11 (w32 ((M3 81 11) + 1))) Q))
    (PC sc n1 m_X12_wrongAt [vr 81, vi 2, vi (M1 81 11)] M1 (cI fun r6 M5 =>
     gIm (decide (r6 = 0) || decide (r6 = 1)) (Q (vi r6) M5)))))) : PW sc n m_X12_readsNumber 6 [] [some (vr 81), some (vi v1)] M Q := pw_go rfl (fun j => Nat.beq j 6) 46 h
theorem pc_X12_isDigit {sc : List Int} {n : Nat} {Q : Vv → MM → Prop}  (M : MM) (h : ∀ n1, n1 < n → PC sc n1 m_X12_here [vr 81] M (cI fun r2 M1 =>
  brA (decide (r2 < 48))
   (Q (vi 0) M1)
   (PC sc n1 m_X12_here [vr 81] M1 (cI fun r4 M3 =>
    brA (decide (57 < r4))
     (Q (vi 0) M3)
     (Q (vi 1) M3))))) : PC sc n m_X12_isDigit [vr 81] M Q := pc_go rfl (fun j => false) 17 h
theorem pc_X12_factOf {sc : List Int} {n : Nat} {Q : Vv → MM → Prop} (v0 : Int) (M : MM) (h : ∀ n1, n1 < n → (v0 = 97 → Q (vi 3) M) ∧
  (v0 ≠ 97 → (v0 = 98 → Q (vi 4) M) ∧
  (v0 ≠ 98 → (v0 = 99 → Q (vi ((-1))) M) ∧
  (v0 ≠ 99 → (v0 = 100 → Q (vi 7) M) ∧
  (v0 ≠ 100 → (v0 = 101 → Q (vi ((-1))) M) ∧
  (v0 ≠ 101 → (v0 = 102 → Q (vi ((-1))) M) ∧
  (v0 ≠ 102 → (v0 = 103 → Q (vi 2) M) ∧
  (v0 ≠ 103 → (v0 = 104 → Q (vi 0) M) ∧
  (v0 ≠ 104 → (v0 = 105 → Q (vi ((-1))) M) ∧
  (v0 ≠ 105 → (v0 = 106 → Q (vi 1) M) ∧
  (v0 ≠ 106 → (v0 = 107 → Q (vi 5) M) ∧
  (v0 ≠ 107 → (v0 = 108 → Q (vi ((-1))) M) ∧
  (v0 ≠ 108 → (v0 = 109 → Q (vi ((-1))) M) ∧
  (v0 ≠ 109 → (v0 = 110 → Q (vi ((-1))) M) ∧
  (v0 ≠ 110 → (v0 = 111 → Q (vi 9) M) ∧
  (v0 ≠ 111 → (v0 = 112 → Q (vi ((-1))) M) ∧
  (v0 ≠ 112 → (v0 = 113 → Q (vi ((-1))) M) ∧
  (v0 ≠ 113 → (v0 = 114 → Q (vi ((-1))) M) ∧
  (v0 ≠ 114 → (v0 = 115 → Q (vi ((-1))) M) ∧
  (v0 ≠ 115 → (v0 = 116 → Q (vi 6) M) ∧
  (v0 ≠ 116 → (v0 = 117 → Q (vi ((-1))) M) ∧
  (v0 ≠ 117 → (v0 = 118 → Q (vi ((-1))) M) ∧
  (v0 ≠ 118 → (v0 = 119 → Q (vi 8) M) ∧
  (v0 ≠ 119 → Q (vi ((-1))) M)))))))))))))))))))))))) : PC sc n m_X12_factOf [vi v0] M Q := pc_go rfl (fun j => false) 29 h
theorem pc_X12_sumSign {sc : List Int} {n : Nat} {Q : Vv → MM → Prop} (v0 : Int) (M : MM) (h : ∀ n1, n1 < n → brA (decide (v0 ≠ 43))
  (brA (decide (v0 ≠ 45))
   (brA (decide (v0 ≠ 42))
    (brA (decide (v0 ≠ 47))
     (brA (decide (v0 ≠ 37))
      (Q (vi ((-1))) M)
      (Q (vi 6) M))
     (Q (vi 5) M))
    (Q (vi 4) M))
   (Q (vi 3) M))
  (Q (vi 2) M)) : PC sc n m_X12_sumSign [vi v0] M Q := pc_go rfl (fun j => false) 32 h
def xlF (M0 M : MM) : Prop := (∀ c, c ≠ 81 → c ≠ 91 → c ≠ 92 → M c = M0 c) ∧ ∀ j, j ≠ 11 → j ≠ 13 → j ≠ 14 → j ≠ 15 → j ≠ 16 → j ≠ 17 → M 81 j = M0 81 j
theorem xlF.rf (M : MM) : xlF M M := ⟨fun _ _ _ _ => rfl, fun _ _ _ _ _ _ _ => rfl⟩
theorem xlF.st {M0 M : MM} (h : xlF M0 M) {k j : Nat} {v : Int} (hk : k = 91 ∨ k = 92 ∨ (k = 81 ∧ (j = 11 ∨ j = 13 ∨ j = 14 ∨ j = 15 ∨ j = 16 ∨ j = 17))) : xlF M0 (stM M k j v) := ⟨fun c h1 h2 h3 => (stK (by omega)).trans (h.1 c h1 h2 h3), fun i h1 h2 h3 h4 h5 h6 => by
  rw [stM_at, if_neg (by omega)]
  exact h.2 i h1 h2 h3 h4 h5 h6⟩
def xlX (f : Int) (M0 M : MM) : Prop := xlF M0 M ∧ M 81 13 = f
/- the stack of what waits, top first -/
def stk (M : MM) (W : List Int) : Prop := match W with
  | [] => True
  | w :: W => (M 92 W.length = w ∧ 0 ≤ w ∧ w < 16777216) ∧ stk M W
theorem stk.eq {M M1 : MM} : ∀ {W : List Int}, stk M W → (∀ i, i < W.length → M1 92 i = M 92 i) → stk M1 W
  | [], _, _ => trivial
  | _ :: W, h, e => ⟨⟨(e W.length (Nat.lt_succ_self _)).trans h.1.1, h.1.2⟩, stk.eq h.2 fun i hi => e i (Nat.lt_succ_of_lt hi)⟩
theorem stk_r {M : MM} : ∀ {W : List Int}, stk M W → ∀ i, i < W.length → 0 ≤ M 92 i ∧ M 92 i < 16777216
  | [], _, i, hi => absurd hi (Nat.not_lt_zero i)
  | w :: W, h, i, hi => by
    by_cases e : i = W.length
    · rw [e, h.1.1]
      exact h.1.2
    · exact stk_r h.2 i (by have : i < W.length + 1 := hi; omega)
theorem stk_os {M : MM} {W : List Int} : ∀ {S : List Int}, stk M (S ++ W) → ((∃ i, W.length ≤ i ∧ i < (S ++ W).length ∧ cop (M 92 i) = 14) ↔ hasO S = true)
  | [], _ => ⟨fun ⟨i, h1, h2, _⟩ => by
    have h2 : i < W.length := h2
    omega, fun h => by cases h⟩
  | w :: S, h => by
    have ih := stk_os (S := S) (W := W) h.2
    have e : M 92 (S ++ W).length = w := h.1.1
    have hl : (S ++ W).length = S.length + W.length := List.length_append
    have hh : hasO (w :: S) = (decide (cop w = 14) || hasO S) := rfl
    rw [hh]
    constructor
    · intro ⟨i, h1, h2, h3⟩
      have h2 : i < (S ++ W).length + 1 := h2
      by_cases q : i = (S ++ W).length
      · rw [q, e] at h3
        rw [decide_eq_true h3]
        rfl
      · rw [ih.mp ⟨i, h1, by omega, h3⟩, Bool.or_true]
    · intro q
      by_cases c : cop w = 14
      · exact ⟨(S ++ W).length, by omega, Nat.lt_succ_self _, by rw [e]; exact c⟩
      · rw [decide_eq_false c] at q
        obtain ⟨i, h1, h2, h3⟩ := ih.mpr q
        exact ⟨i, h1, Nat.lt_succ_of_lt h2, h3⟩
/- the codes noted -/
def cdL (M : MM) (q : LC) : Prop := M 81 16 = (q.1 : Int) ∧ q.1 ≤ 260 ∧ ∀ i, i < q.1 → M 91 i = q.2 i ∧ 0 ≤ q.2 i ∧ q.2 i < 16777216
def xlI (N p : Nat) (W : List Int) (q : LC) (M0 M : MM) : Prop := xlF M0 M ∧ (M 81 11 = (p : Int) ∧ M 81 15 = (opn W : Int) ∧ M 81 17 = (W.length : Int)) ∧ stk M W ∧ cdL M q ∧ (p ≤ N ∧ N ≤ 240 ∧ opn W ≤ 6 ∧ W.length ≤ 260)
theorem opn_c (w : Int) (W : List Int) : opn (w :: W) = opn W + (if cop w = 10 ∨ cop w = 13 ∨ cop w = 14 then 1 else 0) := rfl
theorem xlI.pl {N p p' : Nat} {W : List Int} {q : LC} {M0 M : MM} (I : xlI N p W q M0 M) (hp : p' ≤ N) {v : Int} (hv : v = (p' : Int)) : xlI N p' W q M0 (stM M 81 11 v) := by
  obtain ⟨f, ⟨a1, a2, a3⟩, s, ⟨c1, c2, c3⟩, b⟩ := I
  subst hv
  exact ⟨f.st (.inr (.inr ⟨rfl, .inl rfl⟩)), ⟨stE, (stO (by decide)).trans a2, (stO (by decide)).trans a3⟩, s.eq fun _ _ => stN (by decide), ⟨(stO (by decide)).trans c1, c2, fun i hi => by rw [stN (by decide)]; exact c3 i hi⟩, hp, b.2⟩
theorem xlI.n14 {N p : Nat} {W : List Int} {q : LC} {M0 M : MM} (I : xlI N p W q M0 M) (v : Int) : xlI N p W q M0 (stM M 81 14 v) := by
  obtain ⟨f, ⟨a1, a2, a3⟩, s, ⟨c1, c2, c3⟩, b⟩ := I
  exact ⟨f.st (.inr (.inr ⟨rfl, .inr (.inr (.inl rfl))⟩)), ⟨(stO (by decide)).trans a1, (stO (by decide)).trans a2, (stO (by decide)).trans a3⟩, s.eq fun _ _ => stN (by decide), ⟨(stO (by decide)).trans c1, c2, fun i hi => by rw [stN (by decide)]; exact c3 i hi⟩, b⟩
theorem xlI.pop {N p : Nat} {w : Int} {W : List Int} {q : LC} {M0 M : MM} (I : xlI N p (w :: W) q M0 M) (hw : cop w ≠ 10 ∧ cop w ≠ 13 ∧ cop w ≠ 14) {v : Int} (hv : v = (W.length : Int)) : xlI N p W q M0 (stM M 81 17 v) := by
  obtain ⟨f, ⟨a1, a2, a3⟩, s, ⟨c1, c2, c3⟩, b⟩ := I
  subst hv
  rw [opn_c, if_neg (by omega)] at a2 b
  have hl : (w :: W).length = W.length + 1 := rfl
  exact ⟨f.st (.inr (.inr ⟨rfl, .inr (.inr (.inr (.inr (.inr rfl))))⟩)), ⟨(stO (by decide)).trans a1, (stO (by decide)).trans a2, stE⟩, s.2.eq fun _ _ => stN (by decide), ⟨(stO (by decide)).trans c1, c2, fun i hi => by rw [stN (by decide)]; exact c3 i hi⟩, by omega⟩
theorem xlI.popo {N p : Nat} {w : Int} {W : List Int} {q : LC} {M0 M : MM} (I : xlI N p (w :: W) q M0 M) (hw : cop w = 10 ∨ cop w = 13 ∨ cop w = 14) {v u : Int} (hv : v = (W.length : Int)) (hu : u = (opn W : Int)) : xlI N p W q M0 (stM (stM M 81 17 v) 81 15 u) := by
  obtain ⟨f, ⟨a1, a2, a3⟩, s, ⟨c1, c2, c3⟩, b⟩ := I
  subst hv hu
  rw [opn_c, if_pos hw] at a2 b
  have hl : (w :: W).length = W.length + 1 := rfl
  exact ⟨(f.st (.inr (.inr ⟨rfl, .inr (.inr (.inr (.inr (.inr rfl))))⟩))).st (.inr (.inr ⟨rfl, .inr (.inr (.inr (.inl rfl)))⟩)), ⟨(stO (by decide)).trans ((stO (by decide)).trans a1), stE, (stO (by decide)).trans stE⟩, s.2.eq fun _ _ => (stN (by decide)).trans (stN (by decide)), ⟨(stO (by decide)).trans ((stO (by decide)).trans c1), c2, fun i hi => by rw [stN (by decide), stN (by decide)]; exact c3 i hi⟩, by omega⟩
theorem xlI.push {N p : Nat} {w : Int} {W : List Int} {q : LC} {M0 M : MM} (I : xlI N p W q M0 M) (hw : cop w ≠ 10 ∧ cop w ≠ 13 ∧ cop w ≠ 14) (hr : 0 ≤ w ∧ w < 16777216) (hl : W.length < 260) {v x : Int} (hx : x = w) (hv : v = ((W.length + 1 : Nat) : Int)) : xlI N p (w :: W) q M0 (stM (stM M 92 W.length x) 81 17 v) := by
  obtain ⟨f, ⟨a1, a2, a3⟩, s, ⟨c1, c2, c3⟩, b⟩ := I
  subst hv hx
  have hl2 : (x :: W).length = W.length + 1 := rfl
  have ho : opn (x :: W) = opn W := by rw [opn_c, if_neg (by omega)]; rfl
  exact ⟨(f.st (.inr (.inl rfl))).st (.inr (.inr ⟨rfl, .inr (.inr (.inr (.inr (.inr rfl))))⟩)), ⟨(stO (by decide)).trans ((stN (by decide)).trans a1), (stO (by decide)).trans ((stN (by decide)).trans (by rw [ho]; exact a2)), stE⟩, ⟨⟨(stN (by decide)).trans stE, hr⟩, s.eq fun i hi => (stN (by decide)).trans (stO (by omega))⟩, ⟨(stO (by decide)).trans ((stN (by decide)).trans c1), c2, fun i hi => by rw [stN (by decide), stN (by decide)]; exact c3 i hi⟩, by omega⟩
def topV (W : List Int) : Int := match W with
  | [] => -1
  | w :: _ => cop w
section LRS
variable {sc : List Int} {Q : Vv → MM → Prop} {t : Nat → Int} {N p : Nat} {W : List Int} {q : LC} {M0 M : MM} {n : Nat}
set_option maxRecDepth 20000 in
theorem p_hereM (h12 : M0 81 12 = (N : Int)) (ht : ∀ i, bAnd (M0 90 i) 255 = t i) (I : xlI N p W q M0 M) (k : ∀ x : Int, x = chL t N p → Q (vi x) M) : PC sc n m_X12_here [vr 81] M Q := p_here (t := t) I.2.1.1 ((I.1.2 12 (by decide) (by decide) (by decide) (by decide) (by decide) (by decide)).trans h12) (fun i => by
  rw [I.1.1 90 (by decide) (by decide) (by decide)]
  exact ht i) (fun h x hx => k x (hx.trans (if_neg (by omega)).symm)) fun h x hx => k x (hx.trans (if_pos h).symm)
set_option maxRecDepth 20000 in
theorem p_isDigM (h12 : M0 81 12 = (N : Int)) (ht : ∀ i, bAnd (M0 90 i) 255 = t i) (I : xlI N p W q M0 M) (k0 : ¬ (48 ≤ chL t N p ∧ chL t N p ≤ 57) → ∀ x : Int, x = 0 → Q (vi x) M) (k1 : 48 ≤ chL t N p ∧ chL t N p ≤ 57 → ∀ x : Int, x = 1 → Q (vi x) M) : PC sc n m_X12_isDigit [vr 81] M Q := pc_X12_isDigit M fun n1 _ => p_hereM h12 ht I fun x hx => cI_i (brP (fun h => k0 (by omega) 0 rfl) fun h => p_hereM h12 ht I fun y hy => cI_i (brP (fun h2 => k0 (by omega) 0 rfl) fun h2 => k1 (by omega) 1 rfl))
set_option maxRecDepth 20000 in
theorem p_sumSign {v : Int} {M : MM} (k : ∀ x : Int, x = ssV v → Q (vi x) M) : PC sc n m_X12_sumSign [vi v] M Q := pc_X12_sumSign v M fun n1 _ => brP (fun h1 => brP (fun h2 => brP (fun h3 => brP (fun h4 => brP (fun h5 => k _ (by unfold ssV; rw [if_neg h1, if_neg h2, if_neg h3, if_neg h4, if_neg h5])) fun h5 => k _ (by unfold ssV; rw [if_neg h1, if_neg h2, if_neg h3, if_neg h4, if_pos (Classical.not_not.mp h5)])) fun h4 => k _ (by unfold ssV; rw [if_neg h1, if_neg h2, if_neg h3, if_pos (Classical.not_not.mp h4)])) fun h3 => k _ (by unfold ssV; rw [if_neg h1, if_neg h2, if_pos (Classical.not_not.mp h3)])) fun h2 => k _ (by unfold ssV; rw [if_neg h1, if_pos (Classical.not_not.mp h2)])) fun h1 => k _ (by unfold ssV; rw [if_pos (Classical.not_not.mp h1)])
set_option maxRecDepth 20000 in
theorem p_factOfM {c : Int} {n : Nat} {M : MM} (k : ∀ x : Int, x = lfV c → Q (vi x) M) : PC sc n m_X12_factOf [vi c] M Q := by
  refine pc_X12_factOf _ M fun n1 _ => ⟨fun h => k _ (by subst h; rfl), fun h97 => ⟨fun h => k _ (by subst h; rfl), fun h98 => ⟨fun h => k _ (by subst h; rfl), fun h99 => ⟨fun h => k _ (by subst h; rfl), fun h100 => ⟨fun h => k _ (by subst h; rfl), fun h101 => ⟨fun h => k _ (by subst h; rfl), fun h102 => ⟨fun h => k _ (by subst h; rfl), fun h103 => ⟨fun h => k _ (by subst h; rfl), fun h104 => ⟨fun h => k _ (by subst h; rfl), fun h105 => ⟨fun h => k _ (by subst h; rfl), fun h106 => ⟨fun h => k _ (by subst h; rfl), fun h107 => ⟨fun h => k _ (by subst h; rfl), fun h108 => ⟨fun h => k _ (by subst h; rfl), fun h109 => ⟨fun h => k _ (by subst h; rfl), fun h110 => ⟨fun h => k _ (by subst h; rfl), fun h111 => ⟨fun h => k _ (by subst h; rfl), fun h112 => ⟨fun h => k _ (by subst h; rfl), fun h113 => ⟨fun h => k _ (by subst h; rfl), fun h114 => ⟨fun h => k _ (by subst h; rfl), fun h115 => ⟨fun h => k _ (by subst h; rfl), fun h116 => ⟨fun h => k _ (by subst h; rfl), fun h117 => ⟨fun h => k _ (by subst h; rfl), fun h118 => ⟨fun h => k _ (by subst h; rfl), fun h119 => k _ ?_⟩⟩⟩⟩⟩⟩⟩⟩⟩⟩⟩⟩⟩⟩⟩⟩⟩⟩⟩⟩⟩⟩⟩
  unfold lfV
  rw [if_neg h104, if_neg h106, if_neg h103, if_neg h97, if_neg h98, if_neg h107, if_neg h116, if_neg h100, if_neg h119, if_neg h111]
set_option maxRecDepth 20000 in
theorem p_wrongM (I : xlI N p W q M0 M) {a : Int} (ha : 1 ≤ a ∧ a ≤ 7) (k : ∀ M1, xlX (-1000 * a - (p : Int)) M0 M1 → ∀ x : Int, x = 0 → Q (vi x) M1) : PC sc n m_X12_wrongAt [vr 81, vi a, vi (M 81 11)] M Q := by
  have hb := I.2.2.2.2
  rw [I.2.1.1]
  exact p_wrong ha (by omega) fun x hx => k _ ⟨I.1.st (.inr (.inr ⟨rfl, .inr (.inl rfl)⟩)), stE⟩ x hx
set_option maxRecDepth 20000 in
theorem f_note (I : xlI N p W q M0 M) {a b x : Int} (ha : 0 ≤ a ∧ a ≤ 15) (hb : 0 ≤ b ∧ b < 1048576) (hx : x = 1048576 * a + b) (k : ∀ M1, xlI N p W (emC q x) M0 M1 → Q (vi 0) M1) : PC sc n m_X12_notes [vr 81, vi a, vi b] M Q := by
  obtain ⟨f, ⟨a1, a2, a3⟩, s, ⟨c1, c2, c3⟩, b1⟩ := I
  refine pc_X12_notes _ _ M fun n1 _ => ?_
  rw [c1]
  refine gMI fun _ h => ?_
  rw [show ((q.1 : Int)).toNat = q.1 by omega, show w32 (1048576 * a) = 1048576 * a from ew32 (by omega) (by omega), show w32 (1048576 * a + b) = x from (ew32 (by omega) (by omega)).trans hx.symm, show w32 ((q.1 : Int) + 1) = ((q.1 + 1 : Nat) : Int) from ew32 (by omega) (by omega)]
  refine k _ ⟨(f.st (.inl rfl)).st (.inr (.inr ⟨rfl, .inr (.inr (.inr (.inr (.inl rfl))))⟩)), ⟨(stO (by decide)).trans ((stN (by decide)).trans a1), (stO (by decide)).trans ((stN (by decide)).trans a2), (stO (by decide)).trans ((stN (by decide)).trans a3)⟩, s.eq fun i hi => (stN (by decide)).trans (stN (by decide)), ⟨stE, by show q.1 + 1 ≤ 260; omega, fun i hi => ?_⟩, b1⟩
  have hi : i < q.1 + 1 := hi
  rw [stN (by decide)]
  show stM M 91 q.1 x 91 i = (if i = q.1 then x else q.2 i) ∧ 0 ≤ (if i = q.1 then x else q.2 i) ∧ (if i = q.1 then x else q.2 i) < 16777216
  by_cases e : i = q.1
  · rw [if_pos e, e]
    exact ⟨stE, by omega, by omega⟩
  · rw [if_neg e, stO e]
    exact c3 i (by omega)
set_option maxRecDepth 20000 in
theorem f_waitTop (I : xlI N p W q M0 M) (k : ∀ x : Int, x = topV W → Q (vi x) M) : PC sc n m_X12_waitTop [vr 81] M Q := by
  refine pc_X12_waitTop M fun n1 _ => ?_
  have b := I.2.2.2.2
  rw [I.2.1.2.2]
  cases W with
  | nil => exact brF (fun z => z rfl) (k _ rfl)
  | cons w W =>
    have hl : (w :: W).length = W.length + 1 := rfl
    rw [show w32 (((w :: W).length : Int) - 1) = (W.length : Int) from (ew32 (by omega) (by omega)).trans (by omega), show ((W.length : Int)).toNat = W.length by omega, I.2.2.1.1.1, etdiv (by have := I.2.2.1.1.2; omega) (by have := I.2.2.1.1.2; omega) (by decide)]
    exact brT (by omega) (gMB (k _ rfl))
theorem cop_r {w : Int} (h : 0 ≤ w ∧ w < 16777216) : 0 ≤ cop w ∧ cop w ≤ 15 := by
  unfold cop
  omega
set_option maxRecDepth 20000 in
theorem f_closes (all : Bool) {v : Int} (hv : if all then v ≠ 0 else v = 0) : ∀ (W : List Int) (q : LC) (M : MM) (n : Nat), xlI N p W q M0 M → (∀ M1, xlI N p (popS all W q).1 (popS all W q).2 M0 M1 → Q (vi 0) M1) → PW sc n m_X12_closesSums 0 [] [some (vr 81), some (vi v)] M Q := by
  intro W
  induction W with
  | nil =>
    intro q M n I K
    have K : Q (vi 0) M := K M I
    exact pw_X12_closesSums_0 v M fun n1 _ => f_waitTop I fun x hx => cI_i (brT (by rw [hx]; decide) (pw_X12_closesSums_8 v M fun n2 _ => brP (fun _ => K) fun _ => f_waitTop I fun x hx => cI_i (brF (by rw [hx]; decide) (f_waitTop I fun x hx => cI_i (brT (by rw [hx]; decide) K)))))
  | cons w W ih =>
    intro q M n I K
    have hw := cop_r I.2.2.1.1.2
    rw [popS_c] at K
    have b := I.2.2.2.2
    have hl : (w :: W).length = W.length + 1 := rfl
    have e18 : ∀ n, ((4 ≤ cop w ∧ cop w ≤ 6) ∨ (all = true ∧ (cop w = 2 ∨ cop w = 3))) → PW sc n m_X12_closesSums 18 [] [some (vr 81), some (vi v)] M Q := fun n c => by
      rw [if_pos c] at K
      refine pw_X12_closesSums_18 v M fun n2 _ => f_waitTop I fun x hx => cI_i (f_note I (x := 1048576 * cop w) (by rw [hx]; exact hw) (by omega) (by rw [hx]; show 1048576 * cop w = 1048576 * cop w + 0; omega) fun M3 I3 => ?_)
      rw [I3.2.1.2.2]
      have h2 : 2 ≤ cop w ∧ cop w ≤ 6 := by
        rcases c with c | c
        · omega
        · have := c.2
          omega
      exact ih _ _ n2 (I3.pop (by omega) (ew32 (by omega) (by omega) |>.trans (by omega))) K
    have no : ¬ ((4 ≤ cop w ∧ cop w ≤ 6) ∨ (all = true ∧ (cop w = 2 ∨ cop w = 3))) → Q (vi 0) M := fun c => by
      rw [if_neg c] at K
      exact K M I
    have e8 : ∀ n, ¬ (4 ≤ cop w ∧ cop w ≤ 6) → PW sc n m_X12_closesSums 8 [] [some (vr 81), some (vi v)] M Q := fun n c => pw_X12_closesSums_8 v M fun n2 _ => brP (fun h => no fun z => by
      rcases z with z | z
      · exact c z
      · rw [z.1] at hv
        exact hv h) fun h => by
      have ha : all = true := by
        cases all
        · exact absurd hv h
        · rfl
      refine f_waitTop I fun x hx => cI_i (brP (fun h2 => e18 _ (.inr ⟨ha, .inl (hx.symm.trans h2)⟩)) fun h2 => f_waitTop I fun y hy => cI_i (brP (fun h3 => no fun z => ?_) fun h3 => e18 _ (.inr ⟨ha, .inr (hy.symm.trans (Classical.not_not.mp h3))⟩)))
      have hx : x = cop w := hx
      have hy : y = cop w := hy
      rcases z with z | z
      · exact c z
      · have := z.2
        omega
    refine pw_X12_closesSums_0 v M fun n1 _ => f_waitTop I fun x hx => cI_i (brP (fun h => e8 _ ?_) fun h => f_waitTop I fun y hy => cI_i (brP (fun h2 => e18 _ (.inl ?_)) fun h2 => e8 _ ?_))
    · have hx : x = cop w := hx
      omega
    · have hx : x = cop w := hx
      have hy : y = cop w := hy
      omega
    · have hy : y = cop w := hy
      omega
set_option maxRecDepth 20000 in
theorem f_hasOpen {S : List Int} (I : xlI N p (S ++ W) q M0 M) (k0 : hasO S = false → ∀ x : Int, x = 0 → Q (vi x) M) (k1 : hasO S = true → ∀ x : Int, x = 1 → Q (vi x) M) : PC sc n m_X12_hasOpenSum [vr 81, vi (W.length : Int)] M Q := by
  have b := I.2.2.2.2
  have hs := stk_os I.2.2.1
  have lp : ∀ (m i n : Nat), i + m = (S ++ W).length → W.length ≤ i → (∀ j, W.length ≤ j → j < i → cop (M 92 j) ≠ 14) → PW sc n m_X12_hasOpenSum 2 [] [some (vr 81), some (vi (W.length : Int)), some (vi (i : Int))] M Q := by
    intro m
    induction m with
    | zero =>
      intro i n hi h1 h2
      refine pw_X12_hasOpenSum_2 _ _ M fun n1 _ => ?_
      rw [I.2.1.2.2]
      refine brT (by omega) (k0 ?_ 0 rfl)
      cases e : hasO S
      · rfl
      · obtain ⟨j, j1, j2, j3⟩ := hs.mpr e
        exact absurd j3 (h2 j j1 (by omega))
    | succ m ih =>
      intro i n hi h1 h2
      refine pw_X12_hasOpenSum_2 _ _ M fun n1 _ => ?_
      have hr := stk_r I.2.2.1 i (by omega)
      rw [I.2.1.2.2, show ((i : Int)).toNat = i by omega, etdiv (by omega) (by omega) (by decide), show w32 ((i : Int) + 1) = ((i + 1 : Nat) : Int) from ew32 (by omega) (by omega)]
      refine brF (by omega) (gMB (brP (fun h => ih (i + 1) n1 (by omega) (by omega) fun j j1 j2 => ?_) fun h => k1 (hs.mp ⟨i, h1, by omega, Classical.not_not.mp h⟩) 1 rfl))
      by_cases e : j = i
      · rw [e]
        exact h
      · exact h2 j j1 (by omega)
  have hl : (S ++ W).length = S.length + W.length := List.length_append
  exact pc_X12_hasOpenSum _ M fun n1 _ => lp S.length W.length n1 (by omega) (Nat.le_refl _) fun j j1 j2 => by omega
set_option maxRecDepth 20000 in
theorem f_opens (I : xlI N p W q M0 M) {a w : Int} (ha : a = 10 ∨ a = 13 ∨ a = 14) (hw : w = 1048576 * a) (hp : p < N) (k0 : opn W = 6 → ∀ M1, xlX (-1000 * 5 - (p : Int)) M0 M1 → ∀ x : Int, x = 0 → Q (vi x) M1) (k1 : opn W ≠ 6 → ∀ M1, xlI N (p + 1) (w :: W) q M0 M1 → ∀ x : Int, x = 1 → Q (vi x) M1) : PC sc n m_X12_opens [vr 81, vi a] M Q := by
  have b0 := I.2.2.2.2
  obtain ⟨f, ⟨a1, a2, a3⟩, s, ⟨c1, c2, c3⟩, b⟩ := id I
  refine pc_X12_opens _ M fun n1 _ => ?_
  rw [a2, a3, a1]
  refine brP (fun h => gMI fun _ hl => ?_) fun h => ?_
  · have hc : cop w = a := by rw [hw, cop_u]
    rw [show ((W.length : Int)).toNat = W.length by omega, show w32 (1048576 * a) = w from (ew32 (by omega) (by omega)).trans hw.symm, show w32 ((opn W : Int) + 1) = ((opn W + 1 : Nat) : Int) from ew32 (by omega) (by omega), show w32 ((W.length : Int) + 1) = ((W.length + 1 : Nat) : Int) from ew32 (by omega) (by omega), show w32 ((p : Int) + 1) = ((p + 1 : Nat) : Int) from ew32 (by omega) (by omega)]
    have ho : opn (w :: W) = opn W + 1 := by rw [opn_c, if_pos (by omega)]
    have hl2 : (w :: W).length = W.length + 1 := rfl
    refine k1 (by omega) _ ⟨(((f.st (.inr (.inr ⟨rfl, .inr (.inr (.inr (.inl rfl)))⟩))).st (.inr (.inl rfl))).st (.inr (.inr ⟨rfl, .inr (.inr (.inr (.inr (.inr rfl))))⟩))).st (.inr (.inr ⟨rfl, .inl rfl⟩)), ⟨stE, ?_, (stO (by decide)).trans stE⟩, ⟨⟨(stN (by decide)).trans ((stN (by decide)).trans stE), by omega⟩, s.eq fun i hi => (stN (by decide)).trans ((stN (by decide)).trans ((stO (by omega)).trans (stN (by decide))))⟩, ⟨(stO (by decide)).trans ((stO (by decide)).trans ((stN (by decide)).trans ((stO (by decide)).trans c1))), c2, fun i hi => by
      rw [stN (by decide), stN (by decide), stN (by decide), stN (by decide)]
      exact c3 i hi⟩, by omega⟩ 1 rfl
    rw [ho]
    exact (stO (by decide)).trans ((stO (by decide)).trans ((stN (by decide)).trans stE))
  · rw [← a1]
    exact p_wrongM I (by decide) fun M1 x1 x hx => cI_i (gMB (k0 (by omega) M1 x1 x hx))
end LRS
