/-! PART 6c: THE LAW's text, read by the class: conditions, clauses, the whole -/
theorem pc_X1_readEither {sc : List Int} {n : Nat} {L : Nat} (hL : L = 65 ∨ L = 73) {Q : Vv → MM → Prop} (v2 : Int) (M : MM) (h : ∀ n1, n1 < n → PC sc n1 m_X1_readBoth [vr 22, vr L, vi v2] M (cI fun r2 M1 =>
  PW sc n1 m_X1_readEither 7 [] [some (vr 22), some (vr L), some (vi v2), some (vi r2), some (vi 0), none] M1 Q)) : PC sc n m_X1_readEither [vr 22, vr L, vi v2] M Q := by
  rcases hL with rfl | rfl <;> exact pc_go rfl (fun j => Nat.beq j 7) 44 h
theorem pw_X1_readEither_7 {sc : List Int} {n : Nat} {L : Nat} (hL : L = 65 ∨ L = 73) {Q : Vv → MM → Prop} (v2 : Int) (v3 : Int) (v4 : Int) (o5 : Option Vv) (M : MM) (h : ∀ n1, n1 < n → brA (decide (240 ≤ v4))
  (gIm (decide (v3 = 0) || decide (v3 = 1)) (Q (vi v3) M))
  (brA (decide (v3 = 0))
   (gIm (decide (v3 = 0) || decide (v3 = 1)) (Q (vi v3) M))
   (PC sc n1 m_X1_next [vr 22] M (cI fun r2 M1 =>
    brA (decide (r2 ≠ 124))
     (gIm (decide (v3 = 0) || decide (v3 = 1)) (Q (vi v3) M1))
     (PC sc n1 m_X0_add [vr L, vi 124, vi 0] (stM M1 22 2 (w32 ((M1 22 2) + 1))) (cI fun r4 M3 =>
      PC sc n1 m_X1_readBoth [vr 22, vr L, vi v2] M3 (cI fun r6 M5 =>
       PC sc n1 m_X0_aim [vr L, vi r4] M5 (fun _ M7 =>
        PW sc n1 m_X1_readEither 7 [] [some (vr 22), some (vr L), some (vi v2), some (vi r6), some (vi (w32 (v4 + 1))), some (vi r4)] M7 Q)))))))) : PW sc n m_X1_readEither 7 [] [some (vr 22), some (vr L), some (vi v2), some (vi v3), some (vi v4), o5] M Q := by
  rcases hL with rfl | rfl <;> exact pw_go rfl (fun j => Nat.beq j 7) 44 h
theorem pc_X1_readBoth {sc : List Int} {n : Nat} {L : Nat} (hL : L = 65 ∨ L = 73) {Q : Vv → MM → Prop} (v2 : Int) (M : MM) (h : ∀ n1, n1 < n → PC sc n1 m_X1_readPiece [vr 22, vr L, vi v2] M (cI fun r2 M1 =>
  PW sc n1 m_X1_readBoth 7 [] [some (vr 22), some (vr L), some (vi v2), some (vi r2), some (vi 0), none] M1 Q)) : PC sc n m_X1_readBoth [vr 22, vr L, vi v2] M Q := by
  rcases hL with rfl | rfl <;> exact pc_go rfl (fun j => Nat.beq j 7) 44 h
theorem pw_X1_readBoth_7 {sc : List Int} {n : Nat} {L : Nat} (hL : L = 65 ∨ L = 73) {Q : Vv → MM → Prop} (v2 : Int) (v3 : Int) (v4 : Int) (o5 : Option Vv) (M : MM) (h : ∀ n1, n1 < n → brA (decide (240 ≤ v4))
  (gIm (decide (v3 = 0) || decide (v3 = 1)) (Q (vi v3) M))
  (brA (decide (v3 = 0))
   (gIm (decide (v3 = 0) || decide (v3 = 1)) (Q (vi v3) M))
   (PC sc n1 m_X1_next [vr 22] M (cI fun r2 M1 =>
    brA (decide (r2 ≠ 38))
     (gIm (decide (v3 = 0) || decide (v3 = 1)) (Q (vi v3) M1))
     (PC sc n1 m_X0_add [vr L, vi 38, vi 0] (stM M1 22 2 (w32 ((M1 22 2) + 1))) (cI fun r4 M3 =>
      PC sc n1 m_X1_readPiece [vr 22, vr L, vi v2] M3 (cI fun r6 M5 =>
       PC sc n1 m_X0_aim [vr L, vi r4] M5 (fun _ M7 =>
        PW sc n1 m_X1_readBoth 7 [] [some (vr 22), some (vr L), some (vi v2), some (vi r6), some (vi (w32 (v4 + 1))), some (vi r4)] M7 Q)))))))) : PW sc n m_X1_readBoth 7 [] [some (vr 22), some (vr L), some (vi v2), some (vi v3), some (vi v4), o5] M Q := by
  rcases hL with rfl | rfl <;> exact pw_go rfl (fun j => Nat.beq j 7) 44 h
theorem pc_X1_readPiece {sc : List Int} {n : Nat} {L : Nat} (hL : L = 65 ∨ L = 73) {Q : Vv → MM → Prop} (v2 : Int) (M : MM) (h : ∀ n1, n1 < n → PC sc n1 m_X1_next [vr 22] M (cI fun r2 M1 =>
  brA (decide (r2 = 33))
   (PW sc n1 m_X1_readPiece 9 [] [some (vr 22), some (vr L), some (vi v2), some (vi r2), none] M1 Q)
   (brA (decide (r2 ≠ 40))
    (PC sc n1 m_X1_readSum [vr 22, vr L, vi v2] M1 (cI fun r4 M3 =>
     brA (decide (r4 ≠ 0))
      (PC sc n1 m_X1_next [vr 22] M3 (cI fun r6 M5 =>
       brA (decide (r6 = 60))
        (PW sc n1 m_X1_readPiece 45 [] [some (vr 22), some (vr L), some (vi v2), some (vi r2), some (vi r6)] M5 Q)
        (brA (decide (r6 = 62))
         (PW sc n1 m_X1_readPiece 45 [] [some (vr 22), some (vr L), some (vi v2), some (vi r2), some (vi r6)] M5 Q)
         (brA (decide (r6 = 61))
          (PW sc n1 m_X1_readPiece 45 [] [some (vr 22), some (vr L), some (vi v2), some (vi r2), some (vi r6)] M5 Q)
          (PC sc n1 m_X1_fail [vr 22, vi 1] M5 (cI fun r8 M7 =>
           gIm (decide (r8 = 0) || decide (r8 = 1)) (Q (vi r8) M7)))))))
      (Q (vi 0) M3)))
    (PW sc n1 m_X1_readPiece 9 [] [some (vr 22), some (vr L), some (vi v2), some (vi r2), none] M1 Q)))) : PC sc n m_X1_readPiece [vr 22, vr L, vi v2] M Q := by
  rcases hL with rfl | rfl <;> exact pc_go rfl (fun j => Nat.beq j 9 || Nat.beq j 45) 70 h
theorem pw_X1_readPiece_9 {sc : List Int} {n : Nat} {L : Nat} (hL : L = 65 ∨ L = 73) {Q : Vv → MM → Prop} (v2 : Int) (v3 : Int) (o4 : Option Vv) (M : MM) (h : ∀ n1, n1 < n → brA (decide (6 ≤ v2))
  (PC sc n1 m_X1_fail [vr 22, vi 5] M (cI fun r2 M1 =>
   gIm (decide (r2 = 0) || decide (r2 = 1)) (Q (vi r2) M1)))
  (PC sc n1 m_X1_readOpen [vr 22, vr L, vi v2, vi v3] M (cI fun r4 M3 =>
   gIm (decide (r4 = 0) || decide (r4 = 1)) (Q (vi r4) M3)))) : PW sc n m_X1_readPiece 9 [] [some (vr 22), some (vr L), some (vi v2), some (vi v3), o4] M Q := by
  rcases hL with rfl | rfl <;> exact pw_go rfl (fun j => Nat.beq j 9 || Nat.beq j 45) 70 h
theorem pw_X1_readPiece_45 {sc : List Int} {n : Nat} {L : Nat} (hL : L = 65 ∨ L = 73) {Q : Vv → MM → Prop} (v2 : Int) (v3 : Int) (v4 : Int) (M : MM) (h : ∀ n1, n1 < n → PC sc n1 m_X1_readSum [vr 22, vr L, vi v2] (stM M 22 2 (w32 ((M 22 2) + 1))) (cI fun r2 M1 =>
  brA (decide (r2 ≠ 0))
   (PC sc n1 m_X0_add [vr L, vi v4, vi 0] M1 (cI fun r4 M3 =>
    Q (vi 1) M3))
   (Q (vi 0) M1))) : PW sc n m_X1_readPiece 45 [] [some (vr 22), some (vr L), some (vi v2), some (vi v3), some (vi v4)] M Q := by
  rcases hL with rfl | rfl <;> exact pw_go rfl (fun j => Nat.beq j 9 || Nat.beq j 45) 70 h
theorem pc_X1_readOpen {sc : List Int} {n : Nat} {L : Nat} (hL : L = 65 ∨ L = 73) {Q : Vv → MM → Prop} (v2 : Int) (v3 : Int) (M : MM) (h : ∀ n1, n1 < n → brA (decide (v3 ≠ 40))
  (PC sc n1 m_X1_readPiece [vr 22, vr L, vi (w32 (v2 + 1))] (stM M 22 2 (w32 ((M 22 2) + 1))) (cI fun r2 M1 =>
   brA (decide (r2 ≠ 0))
    (PC sc n1 m_X0_add [vr L, vi 33, vi 0] M1 (cI fun r4 M3 =>
     Q (vi 1) M3))
    (Q (vi 0) M1)))
  (PC sc n1 m_X1_readEither [vr 22, vr L, vi (w32 (v2 + 1))] (stM M 22 2 (w32 ((M 22 2) + 1))) (cI fun r6 M5 =>
   brA (decide (r6 = 0))
    (Q (vi 0) M5)
    (PC sc n1 m_X1_expect [vr 22, vi 41] M5 (cI fun r8 M7 =>
     brA (decide (r8 = 0))
      (Q (vi 0) M7)
      (Q (vi 1) M7)))))) : PC sc n m_X1_readOpen [vr 22, vr L, vi v2, vi v3] M Q := by
  rcases hL with rfl | rfl <;> exact pc_go rfl (fun j => false) 45 h
theorem pc_X1_readClause {sc : List Int} {n : Nat} {L : Nat} (hL : L = 65 ∨ L = 73) {Q : Vv → MM → Prop}  (M : MM) (h : ∀ n1, n1 < n → PC sc n1 m_X1_next [vr 22] M (cI fun r2 M1 =>
  brA (decide (r2 = 102))
   (PW sc n1 m_X1_readClause 19 [] [some (vr 22), some (vr L), some (vi r2)] M1 Q)
   (brA (decide (r2 = 99))
    (PW sc n1 m_X1_readClause 19 [] [some (vr 22), some (vr L), some (vi r2)] M1 Q)
    (brA (decide (r2 = 109))
     (PW sc n1 m_X1_readClause 19 [] [some (vr 22), some (vr L), some (vi r2)] M1 Q)
     (brA (decide (r2 = 114))
      (PW sc n1 m_X1_readClause 19 [] [some (vr 22), some (vr L), some (vi r2)] M1 Q)
      (PC sc n1 m_X1_fail [vr 22, vi 1] M1 (cI fun r4 M3 =>
       gIm (decide (r4 = 0) || decide (r4 = 1)) (Q (vi r4) M3)))))))) : PC sc n m_X1_readClause [vr 22, vr L] M Q := by
  rcases hL with rfl | rfl <;> exact pc_go rfl (fun j => Nat.beq j 19 || Nat.beq j 46) 80 h
theorem pw_X1_readClause_19 {sc : List Int} {n : Nat} {L : Nat} (hL : L = 65 ∨ L = 73) {Q : Vv → MM → Prop} (v2 : Int) (M : MM) (h : ∀ n1, n1 < n → brA (decide ((M L 0) < 16))
  (PC sc n1 m_X0_openClause [vr L, vi v2] (stM M 22 2 (w32 ((M 22 2) + 1))) (fun _ M1 =>
   brA (decide (v2 = 109))
    (PW sc n1 m_X1_readClause 46 [] [some (vr 22), some (vr L), some (vi v2)] M1 Q)
    (PC sc n1 m_X1_readSum [vr 22, vr L, vi 0] M1 (cI fun r3 M2 =>
     brA (decide (r3 ≠ 0))
      (PW sc n1 m_X1_readClause 46 [] [some (vr 22), some (vr L), some (vi v2)] M2 Q)
      (Q (vi 0) M2)))))
  (PC sc n1 m_X1_fail [vr 22, vi 4] M (cI fun r5 M4 =>
   gIm (decide (r5 = 0) || decide (r5 = 1)) (Q (vi r5) M4)))) : PW sc n m_X1_readClause 19 [] [some (vr 22), some (vr L), some (vi v2)] M Q := by
  rcases hL with rfl | rfl <;> exact pw_go rfl (fun j => Nat.beq j 19 || Nat.beq j 46) 80 h
theorem pw_X1_readClause_46 {sc : List Int} {n : Nat} {L : Nat} (hL : L = 65 ∨ L = 73) {Q : Vv → MM → Prop} (v2 : Int) (M : MM) (h : ∀ n1, n1 < n → PC sc n1 m_X0_add [vr L, vi 59, vi 0] M (cI fun r2 M1 =>
  PC sc n1 m_X0_openCondition [vr L] M1 (fun _ M3 =>
   PC sc n1 m_X1_expect [vr 22, vi 40] M3 (cI fun r5 M4 =>
    brA (decide (r5 = 0))
     (Q (vi 0) M4)
     (PC sc n1 m_X1_readEither [vr 22, vr L, vi 1] M4 (cI fun r7 M6 =>
      brA (decide (r7 = 0))
       (Q (vi 0) M6)
       (PC sc n1 m_X1_expect [vr 22, vi 41] M6 (cI fun r9 M8 =>
        brA (decide (r9 ≠ 0))
         (PC sc n1 m_X0_add [vr L, vi 59, vi 0] M8 (cI fun r11 M10 =>
          Q (vi 1) M10))
         (Q (vi 0) M8))))))))) : PW sc n m_X1_readClause 46 [] [some (vr 22), some (vr L), some (vi v2)] M Q := by
  rcases hL with rfl | rfl <;> exact pw_go rfl (fun j => Nat.beq j 19 || Nat.beq j 46) 80 h
theorem pc_X1_read {sc : List Int} {n : Nat} {L : Nat} (hL : L = 65 ∨ L = 73) {Q : Vv → MM → Prop} (v2 : Int) (M : MM) (h : ∀ n1, n1 < n → PW sc n1 m_X1_read 7 [] [some (vr 22), some (vr 1), some (vi v2), some (vr L), some (vi 0), none] (stM M 22 1 (mMin v2 240)) Q) : PC sc n m_X1_read [vr 22, vr 1, vi v2, vr L] M Q := by
  rcases hL with rfl | rfl <;> exact pc_go rfl (fun j => Nat.beq j 7 || Nat.beq j 34) 71 h
theorem pw_X1_read_7 {sc : List Int} {n : Nat} {L : Nat} (hL : L = 65 ∨ L = 73) {Q : Vv → MM → Prop} (v2 : Int) (v4 : Int) (o5 : Option Vv) (M : MM) (h : ∀ n1, n1 < n → brA (decide ((M 22 1) ≤ v4))
  (PC sc n1 m_X0_clear [vr L] (stM (stM M 22 2 0) 22 3 0) (fun _ M1 =>
   PC sc n1 m_X1_readClause [vr 22, vr L] M1 (cI fun r3 M2 =>
    PW sc n1 m_X1_read 34 [] [some (vr 22), some (vr 1), some (vi v2), some (vr L), some (vi r3), some (vi 0)] M2 Q)))
  (PC sc n1 m_X7_at [vr 1, vi v4] M (cI fun r5 M4 =>
   gIm (decide (0 ≤ v4) && decide (v4 < 240)) (PW sc n1 m_X1_read 7 [] [some (vr 22), some (vr 1), some (vi v2), some (vr L), some (vi (w32 (v4 + 1))), o5] (stM M4 23 (v4.toNat) r5) Q)))) : PW sc n m_X1_read 7 [] [some (vr 22), some (vr 1), some (vi v2), some (vr L), some (vi v4), o5] M Q := by
  rcases hL with rfl | rfl <;> exact pw_go rfl (fun j => Nat.beq j 7 || Nat.beq j 34) 71 h
theorem pw_X1_read_34 {sc : List Int} {n : Nat} {L : Nat} (hL : L = 65 ∨ L = 73) {Q : Vv → MM → Prop} (v2 : Int) (v4 : Int) (v5 : Int) (M : MM) (h : ∀ n1, n1 < n → brA (decide (240 ≤ v5))
  (brA (decide (v4 = 0))
   (Q (vi (M 22 3)) M)
   (Q (vi (M L 0)) M))
  (brA (decide (v4 = 0))
   (brA (decide (v4 = 0))
    (Q (vi (M 22 3)) M)
    (Q (vi (M L 0)) M))
   (brA (decide ((M 22 1) ≤ (M 22 2)))
    (brA (decide (v4 = 0))
     (Q (vi (M 22 3)) M)
     (Q (vi (M L 0)) M))
    (PC sc n1 m_X1_expect [vr 22, vi 59] M (cI fun r2 M1 =>
     brA (decide (r2 = 0))
      (PW sc n1 m_X1_read 34 [] [some (vr 22), some (vr 1), some (vi v2), some (vr L), some (vi 0), some (vi (w32 (v5 + 1)))] M1 Q)
      (PC sc n1 m_X1_readClause [vr 22, vr L] M1 (cI fun r4 M3 =>
       brA (decide (r4 = 0))
        (PW sc n1 m_X1_read 34 [] [some (vr 22), some (vr 1), some (vi v2), some (vr L), some (vi 0), some (vi (w32 (v5 + 1)))] M3 Q)
        (PW sc n1 m_X1_read 34 [] [some (vr 22), some (vr 1), some (vi v2), some (vr L), some (vi 1), some (vi (w32 (v5 + 1)))] M3 Q)))))))) : PW sc n m_X1_read 34 [] [some (vr 22), some (vr 1), some (vi v2), some (vr L), some (vi v4), some (vi v5)] M Q := by
  rcases hL with rfl | rfl <;> exact pw_go rfl (fun j => Nat.beq j 7 || Nat.beq j 34) 71 h
theorem pc_X0_aim {sc : List Int} {n : Nat} {L : Nat} (hL : L = 65 ∨ L = 73) {Q : Vv → MM → Prop} (v1 : Int) (M : MM) (h : ∀ n1, n1 < n → brA (decide (v1 < 0))
  (Q (vi 0) M)
  (brA (decide ((M L 6) ≤ v1))
   (Q (vi 0) M)
   (gIm (decide (0 ≤ v1) && decide (v1 < 320)) (Q (vi 0) (stM M ((L + 5)) (v1.toNat) (M L 6)))))) : PC sc n m_X0_aim [vr L, vi v1] M Q := by
  rcases hL with rfl | rfl <;> exact pc_go rfl (fun j => false) 18 h
theorem pc_X0_openClause {sc : List Int} {n : Nat} {L : Nat} (hL : L = 65 ∨ L = 73) {Q : Vv → MM → Prop} (v1 : Int) (M : MM) (h : ∀ n1, n1 < n → brA (decide (16 ≤ (M L 0)))
  (Q (vi 0) M)
  (gIm (decide (0 ≤ (M L 0)) && decide ((M L 0) < 16)) (gIm (decide (0 ≤ (M L 0)) && decide ((M L 0) < 16)) (gIm (decide (0 ≤ (M L 0)) && decide ((M L 0) < 16)) (Q (vi 0) (stM (stM (stM (stM M ((L + 1)) ((M L 0).toNat) v1) ((L + 2)) ((M L 0).toNat) (M L 6)) ((L + 3)) ((M L 0).toNat) (M L 6)) L 0 (w32 ((M L 0) + 1)))))))) : PC sc n m_X0_openClause [vr L, vi v1] M Q := by
  rcases hL with rfl | rfl <;> exact pc_go rfl (fun j => false) 36 h
theorem pc_X0_openCondition {sc : List Int} {n : Nat} {L : Nat} (hL : L = 65 ∨ L = 73) {Q : Vv → MM → Prop}  (M : MM) (h : ∀ n1, n1 < n → brA (decide ((M L 0) ≤ 0))
  (Q (vi 0) M)
  (gIm (decide (0 ≤ (w32 ((M L 0) - 1))) && decide ((w32 ((M L 0) - 1)) < 16)) (Q (vi 0) (stM M ((L + 3)) ((w32 ((M L 0) - 1)).toNat) (M L 6))))) : PC sc n m_X0_openCondition [vr L] M Q := by
  rcases hL with rfl | rfl <;> exact pc_go rfl (fun j => false) 18 h
theorem pc_X0_clear {sc : List Int} {n : Nat} {L : Nat} (hL : L = 65 ∨ L = 73) {Q : Vv → MM → Prop}  (M : MM) (h : ∀ n1, n1 < n → Q (vi 0) (stM (stM M L 0 0) L 6 0)) : PC sc n m_X0_clear [vr L] M Q := by
  rcases hL with rfl | rfl <;> exact pc_go rfl (fun j => false) 12 h
/- what waits for a piece: no operator of a sum, nothing of a sum -/
def topP (W : List Int) : Prop := topS W ∧ ¬ hasOS W ∧ W ≠ []
theorem cmV_i {c : Int} : cmV c ≠ -1 ↔ (c = 60 ∨ c = 62 ∨ c = 61) := by
  unfold cmV
  by_cases h1 : c = 60
  · rw [if_pos h1]
    omega
  · rw [if_neg h1]
    by_cases h2 : c = 62
    · rw [if_pos h2]
      omega
    · rw [if_neg h2]
      by_cases h3 : c = 61
      · rw [if_pos h3]
        omega
      · rw [if_neg h3]
        omega
theorem enO_cm {c : Int} (h : cmV c ≠ -1) : enO (cmV c) = c := by
  rcases cmV_i.mp h with rfl | rfl | rfl <;> rfl
section LDS
variable {sc : List Int} {Q : Vv → MM → Prop} {t : Nat → Int} {N L a off : Nat} {M0 : MM}
/- what is asked of a reader of a piece, a part, a condition -/
def rcQ (t : Nat → Int) (L a off N : Nat) (M0 : MM) (W : List Int) (q : LC) (cl : CL) (p : Nat) (E : Nat → Prop) (Q : Vv → MM → Prop) : Prop := (∀ f M1, outL t N p (zsP W q cl) = .inl f → lcX L f M0 M1 → ∀ z : Int, z = 0 → Q (vi z) M1) ∧ ∀ p1 q1 M1, outL t N p (zsP W q cl) = outL t N p1 (zsR W q1 cl) → lpI L a off N p1 q1 M0 M1 → p < p1 → (p + q1.1 ≤ p1 + q.1 ∧ preC q q1) → E p1 → ∀ z : Int, z = 1 → Q (vi z) M1
def pieceP (t : Nat → Int) (L a off N : Nat) (M0 : MM) (sc : List Int) (n : Nat) : Prop := ∀ (Q : Vv → MM → Prop) (W : List Int) (q : LC) (cl : CL) (p : Nat) (M : MM), lpI L a off N p q M0 M → opn W ≤ 6 → topP W → rcQ t L a off N M0 W q cl p (fun _ => True) Q → PC sc n m_X1_readPiece [vr 22, vr L, vi (opn W : Int)] M Q
def bothP (t : Nat → Int) (L a off N : Nat) (M0 : MM) (sc : List Int) (n : Nat) : Prop := ∀ (Q : Vv → MM → Prop) (W : List Int) (q : LC) (cl : CL) (p : Nat) (M : MM), lpI L a off N p q M0 M → opn W ≤ 6 → topP W → topB W → rcQ t L a off N M0 W q cl p (fun p1 => chL t N p1 ≠ 38) Q → PC sc n m_X1_readBoth [vr 22, vr L, vi (opn W : Int)] M Q
def eitherP (t : Nat → Int) (L a off N : Nat) (M0 : MM) (sc : List Int) (n : Nat) : Prop := ∀ (Q : Vv → MM → Prop) (W : List Int) (q : LC) (cl : CL) (p : Nat) (M : MM), lpI L a off N p q M0 M → opn W ≤ 6 → topP W → topE W → rcQ t L a off N M0 W q cl p (fun p1 => chL t N p1 ≠ 38 ∧ chL t N p1 ≠ 124) Q → PC sc n m_X1_readEither [vr 22, vr L, vi (opn W : Int)] M Q
theorem outP_bad {p : Nat} {W : List Int} {q : LC} {cl : CL} (f : Int) (h1 : p < N → ztP W q cl (t p) p = .inl f) (h2 : N ≤ p → f = -1000 - (p : Int)) : outL t N p (zsP W q cl) = .inl f := by
  by_cases z : p < N
  · exact outL_no z (h1 z)
  · rw [outL_end (by omega) (by show (3 : Nat) ≠ 6; decide), h2 (by omega)]
    show Sum.inl (-1000 * 1 - (p : Int)) = _
    rw [show -1000 * 1 - (p : Int) = -1000 - (p : Int) by omega]
theorem outB_bad {p : Nat} {x : Nat × Int} {W : List Int} {q : LC} {cl : CL} (h : topS W) (ho : ¬ hasOS W) (hs : ssV (chL t N p) = -1) (h1 : p < N → ztE x W q cl (t p) p = flt 1 p) : outL t N p (zsB x W q cl) = .inl (-1000 - (p : Int)) := by
  have e : flt 1 p = .inl (-1000 - (p : Int)) := by
    show Sum.inl (-1000 * 1 - (p : Int)) = _
    rw [show -1000 * 1 - (p : Int) = -1000 - (p : Int) by omega]
  by_cases z : p < N
  · rw [chL_at z] at hs
    refine outL_no z ?_
    show ztB x W q cl (t p) p = _
    rw [ztB_no h ho _ _ _ _ hs, h1 z, e]
  · rw [outL_end (by omega) (by show (2 : Nat) ≠ 6; decide), e]
set_option maxRecDepth 20000 in
theorem f_piece (hL : L = 65 ∨ L = 73) (hN : M0 22 1 = (N : Int)) (ht : ∀ i, i < N → M0 23 i = t i) (ht0 : ∀ i, 0 ≤ t i) {n : Nat} (ihp : ∀ n1, n1 < n → pieceP t L a off N M0 sc n1 ∧ eitherP t L a off N M0 sc n1) : pieceP t L a off N M0 sc n := by
  intro Q W q cl p M I hW hT K
  have hb := I.2.2.2.2
  have hl := I.NN hL hN ht
  have open9 : ∀ (n : Nat) (c : Int) (o4 : Option Vv), n < n + 1 → (∀ n1, n1 < n → pieceP t L a off N M0 sc n1 ∧ eitherP t L a off N M0 sc n1) → p < N → t p = c → (c = 33 ∨ c = 40) → PW sc n m_X1_readPiece 9 [] [some (vr 22), some (vr L), some (vi (opn W : Int)), some (vi c), o4] M Q := fun n c o4 _ ihp hlt hc hcc => by
    refine pw_X1_readPiece_9 hL _ _ o4 M fun n1 h1 => brP (fun h6 => p_fail (by omega) (by omega) I.2.1.1 fun w hw => gMB (K.1 _ _ (outP_bad _ (fun _ => ?_) fun z => by omega) (I.x hL _) w hw)) fun h6 => pc_X1_readOpen hL _ _ M fun n2 h2 => ?_
    · unfold ztP
      rw [hc]
      rcases hcc with g | g
      · rw [if_pos g, if_pos (by omega)]
        rfl
      · rw [if_neg (by omega), if_pos g, if_pos (by omega)]
        rfl
    · rw [I.2.1.1, show w32 ((p : Int) + 1) = ((p + 1 : Nat) : Int) from ew32 (by omega) (by omega)]
      refine brP (fun h40 => ?_) fun h40 => ?_
      · have h33 : c = 33 := by omega
        have ho : opn (1048576 * 10 :: W) = opn W + 1 := by rw [opn_u, if_pos (.inl rfl)]
        have hgo : outL t N p (zsP W q cl) = outL t N (p + 1) (zsP (1048576 * 10 :: W) q cl) := outL_go hlt (by
          show ztP W q cl (t p) p = _
          unfold ztP
          rw [hc, if_pos h33, if_neg (by omega)])
        rw [show w32 ((opn W : Int) + 1) = (opn (1048576 * 10 :: W) : Int) by rw [ho]; exact ew32 (by omega) (by omega)]
        refine (ihp n2 (by omega)).1 _ (1048576 * 10 :: W) q cl (p + 1) _ (I.pl hL (by omega) (by omega) rfl) (by omega) ⟨by show ¬ (2 ≤ cop (1048576 * 10) ∧ cop (1048576 * 10) ≤ 6); rw [cop_u]; omega, fun z => by
          rcases hasO_c z with z | z
          · rw [cop_u] at z
            omega
          · exact hT.2.1 z, fun z => by cases z⟩ ⟨fun f M1 g1 g2 z hz => brF (by omega) (cI_i (gMB (K.1 f M1 (hgo.trans g1) g2 0 rfl))), fun p1 q1 M1 g1 g2 g3 g4 _ z hz => brT (by omega) ?_⟩
        refine p_addC hL g2 (by have := g2.2.2.2.2; omega) (x := 1048576 * 10) (by rw [cop_u]; rfl) (fun z => by rw [cop_u] at z; omega) (fun z => by rw [cop_u] at z; omega) fun M2 I2 => cI_i (cI_i (gMB (K.2 p1 (emC q1 (1048576 * 10)) M2 ?_ I2 (by omega) ⟨by show p + (q1.1 + 1) ≤ p1 + q.1; omega, g4.2.em _⟩ trivial 1 rfl)))
        rw [hgo, g1]
        exact outL_eq (by show (4 : Nat) ≠ 6; decide) (by show (4 : Nat) ≠ 6; decide) fun _ => ztR_not _ _ _ _ _
      · have h40 := Classical.not_not.mp h40
        have ho : opn (1048576 * 13 :: W) = opn W + 1 := by rw [opn_u, if_pos (.inr (.inl rfl))]
        have hgo : outL t N p (zsP W q cl) = outL t N (p + 1) (zsP (1048576 * 13 :: W) q cl) := outL_go hlt (by
          show ztP W q cl (t p) p = _
          unfold ztP
          rw [hc, if_neg (by omega), if_pos h40, if_neg (by omega)])
        rw [show w32 ((opn W : Int) + 1) = (opn (1048576 * 13 :: W) : Int) by rw [ho]; exact ew32 (by omega) (by omega)]
        have h13 : cop (1048576 * 13) = 13 := cop_u 13
        refine (ihp n2 (by omega)).2 _ (1048576 * 13 :: W) q cl (p + 1) _ (I.pl hL (by omega) (by omega) rfl) (by omega) ⟨by show ¬ (2 ≤ cop (1048576 * 13) ∧ cop (1048576 * 13) ≤ 6); rw [cop_u]; omega, fun z => by
          rcases hasO_c z with z | z
          · rw [cop_u] at z
            omega
          · exact hT.2.1 z, fun z => by cases z⟩ h13 ⟨fun f M1 g1 g2 z hz => brT hz (cI_i (gMB (K.1 f M1 (hgo.trans g1) g2 0 rfl))), fun p1 q1 M1 g1 g2 g3 g4 g5 z hz => brF (by omega) ?_⟩
        have hl1 := g2.NN hL hN ht
        have hb1 := g2.2.2.2.2
        refine p_expect (by decide) g2.2.1.1 hl1.1 hb1.2.2.2.1 hb1.2.2.1 hl1.2 (fun hne w hw => brT hw (cI_i (gMB (K.1 _ _ ?_ (g2.x hL _) 0 rfl)))) fun hlt1 he w hw => brF (by omega) (cI_i (gMB (K.2 (p1 + 1) q1 _ ?_ (g2.pl hL (by omega) (by omega) rfl) (by omega) ⟨by omega, g4.2⟩ trivial 1 rfl)))
        · rw [hgo, g1]
          have e : flt 1 p1 = .inl (-1000 - (p1 : Int)) := by
            show Sum.inl (-1000 * 1 - (p1 : Int)) = _
            rw [show -1000 * 1 - (p1 : Int) = -1000 - (p1 : Int) by omega]
          by_cases z : p1 < N
          · have g5 : chL t N p1 ≠ 38 ∧ chL t N p1 ≠ 124 := g5
            rw [chL_at z] at hne g5
            refine outL_no z ?_
            show ztR (1048576 * 13 :: W) q1 cl (t p1) p1 = _
            rw [ztR_bad _ _ _ _ hne g5.1 g5.2, e]
          · rw [outL_end (by omega) (by show (4 : Nat) ≠ 6; decide), e]
        · rw [hgo, g1]
          refine outL_go hlt1 ?_
          show ztR (1048576 * 13 :: W) q1 cl (t p1) p1 = _
          rw [he]
          exact ztR_close h13 hT.2.2 _ _ _
  refine pc_X1_readPiece hL _ M fun n1 h1 => p_next I.2.1.1 hl.1 hl.2 fun c hc => ?_
  have ih1 : ∀ n2, n2 < n1 → pieceP t L a off N M0 sc n2 ∧ eitherP t L a off N M0 sc n2 := fun n2 h2 => ihp n2 (by omega)
  have hlt : (c = 33 ∨ c = 40) → p < N ∧ t p = c := fun z => by
    have hlt : p < N := chL_lt (t := t) (by omega)
    rw [chL_at hlt] at hc
    exact ⟨hlt, hc.symm⟩
  refine brP (fun g => open9 n1 c _ (by omega) ih1 (hlt (.inl g)).1 (hlt (.inl g)).2 (.inl g)) fun g => brP (fun g2 => ?_) fun g2 => open9 n1 c _ (by omega) ih1 (hlt (.inr (by omega))).1 (hlt (.inr (by omega))).2 (.inr (by omega))
  have hgo : outL t N p (zsP W q cl) = outL t N p (zsA (1, 0) W q cl) := outL_eq (by show (3 : Nat) ≠ 6; decide) (by show (0 : Nat) ≠ 6; decide) fun hlt => by
    show ztP W q cl (t p) p = ztA (1, 0) W q cl (t p) p
    unfold ztP
    rw [chL_at hlt] at hc
    rw [if_neg (by omega), if_neg (by omega)]
  refine (f_sumC (a := a) (off := off) hL hN ht n1).1 _ (1, 0) W q cl p M I hW hT.1 ⟨fun f M1 g1 g3 z hz => brF (by omega) (K.1 f M1 (hgo.trans g1) g3 0 rfl), fun p1 q1 M1 g1 g3 g4 g5 g6 z hz => brT (by omega) ?_⟩
  have hl1 := g3.NN hL hN ht
  have hb1 := g3.2.2.2.2
  refine p_next g3.2.1.1 hl1.1 hl1.2 fun c2 hc2 => ?_
  have cmi := cmV_i (c := c2)
  have e45 : cmV c2 ≠ -1 → PW sc n1 m_X1_readPiece 45 [] [some (vr 22), some (vr L), some (vi (opn W : Int)), some (vi c), some (vi c2)] M1 Q := fun hcm => by
    have hlt1 : p1 < N := chL_lt (t := t) (by have := cmi.mp hcm; omega)
    have g6 : ssV (chL t N p1) = -1 := g6
    rw [chL_at hlt1] at hc2 g6
    subst hc2
    have hr := cmV_r (t p1)
    have hgo2 : outL t N p1 (zsB (1, 0) W q1 cl) = outL t N (p1 + 1) (zsA (2, cmV (t p1)) W q1 cl) := outL_go hlt1 (by
      show ztB (1, 0) W q1 cl (t p1) p1 = _
      rw [ztB_no hT.1 hT.2.1 _ _ _ _ g6]
      show (if cmV (t p1) ≠ -1 then _ else _) = _
      rw [if_pos hcm])
    refine pw_X1_readPiece_45 hL _ _ _ M1 fun n2 h2 => ?_
    rw [g3.2.1.1, show w32 ((p1 : Int) + 1) = ((p1 + 1 : Nat) : Int) from ew32 (by omega) (by omega)]
    refine (f_sumC (a := a) (off := off) hL hN ht n2).1 _ (2, cmV (t p1)) W q1 cl (p1 + 1) _ (g3.pl hL (by omega) (by omega) rfl) hW hT.1 ⟨fun f M2 e1 e2 z hz => brF (by omega) (K.1 f M2 (((hgo.trans g1).trans hgo2).trans e1) e2 0 rfl), fun p2 q2 M2 e1 e2 e3 e4 e5 z hz => brT (by omega) ?_⟩
    have hb2 := e2.2.2.2.2
    refine p_addC hL e2 (by omega) (x := 1048576 * cmV (t p1)) (by rw [cop_u, enO_cm hcm]) (fun z => by rw [cop_u] at z; omega) (fun z => by rw [cop_u] at z; omega) fun M3 I3 => K.2 p2 (emC q2 (1048576 * cmV (t p1))) M3 ?_ I3 (by omega) ⟨by show p + (q2.1 + 1) ≤ p2 + q.1; omega, (g5.2.tr e4.2).em _⟩ trivial 1 rfl
    rw [hgo, g1, hgo2, e1]
    refine outL_eq (by show (2 : Nat) ≠ 6; decide) (by show (4 : Nat) ≠ 6; decide) fun hlt2 => ?_
    have e5 : ssV (chL t N p2) = -1 := e5
    rw [chL_at hlt2] at e5
    show ztB (2, cmV (t p1)) W q2 cl (t p2) p2 = ztR W (emC q2 (1048576 * cmV (t p1))) cl (t p2) p2
    rw [ztB_no hT.1 hT.2.1 _ _ _ _ e5]
    rfl
  refine brP (fun z1 => e45 (cmi.mpr (.inl z1))) fun z1 => brP (fun z2 => e45 (cmi.mpr (.inr (.inl z2)))) fun z2 => brP (fun z3 => e45 (cmi.mpr (.inr (.inr z3)))) fun z3 => p_fail (by omega) (by omega) g3.2.1.1 fun w hw => gMB (K.1 _ _ ?_ (g3.x hL _) w hw)
  rw [hgo, g1, outB_bad hT.1 hT.2.1 g6 fun hlt1 => ?_]
  · rw [show -1000 * 1 - (p1 : Int) = -1000 - (p1 : Int) by omega]
  · show (if cmV (t p1) ≠ -1 then _ else flt 1 p1) = _
    rw [chL_at hlt1] at hc2
    rw [if_neg (fun z => by
      rw [← hc2] at z
      have := cmi.mp z
      omega)]
/- a jump has its place -/
set_option maxRecDepth 20000 in
theorem f_aim (hL : L = 65 ∨ L = 73) {p k n : Nat} {q : LC} {M : MM} (I : lpI L a off N p q M0 M) (hk : a ≤ k ∧ k < q.1) (hj : cop (q.2 k) = 11 ∨ cop (q.2 k) = 12) (kk : ∀ M1, lpI L a off N p (ptC q k) M0 M1 → Q (vi 0) M1) : PC sc n m_X0_aim [vr L, vi ((k + off : Nat) : Int)] M Q := by
  have hb := I.2.2.2.2
  refine pc_X0_aim hL _ M fun n1 _ => ?_
  rw [I.2.1.2, show (((k + off : Nat) : Int)).toNat = k + off by omega]
  refine brF (by omega) (brF (by omega) (gMB (kk _ ⟨I.1.st hL (.inr (.inr (.inr rfl))), ⟨(stN (by omega)).trans I.2.1.1, (stN (by omega)).trans I.2.1.2⟩, fun i hi => ?_, fun i h1 h2 => ?_, hb⟩)))
  · rw [stN (by omega), stO (by omega)]
    exact I.2.2.1 i hi
  · have h2 : i < q.1 := h2
    have hc := I.2.2.2.1 i h1 h2
    by_cases e : i = k
    · subst e
      have e1 : (ptC q i).2 i = 1048576 * cop (q.2 i) + (q.1 : Int) := if_pos rfl
      have e2 : cop (1048576 * cop (q.2 i) + (q.1 : Int)) = cop (q.2 i) ∧ carg (1048576 * cop (q.2 i) + (q.1 : Int)) = (q.1 : Int) := by
        generalize cop (q.2 i) = o
        unfold cop carg
        omega
      unfold crR at hc ⊢
      rw [e1, e2.1, e2.2, stN (by omega), stE]
      exact ⟨hc.1, fun z => by omega, fun _ => .inr (by omega)⟩
    · have e1 : (ptC q k).2 i = q.2 i := if_neg e
      unfold crR at hc ⊢
      rw [e1, stN (by omega), stO (by omega)]
      exact hc
theorem preC_pt {q q1 : LC} {k : Nat} (h : preC q q1) (hk : q.1 ≤ k) : preC q (ptC q1 k) := ⟨h.1, fun i hi => (if_neg (by omega)).trans (h.2 i hi)⟩
set_option maxRecDepth 20000 in
theorem f_both (hL : L = 65 ∨ L = 73) (hN : M0 22 1 = (N : Int)) (ht : ∀ i, i < N → M0 23 i = t i) {n : Nat} (ihp : ∀ n1, n1 < n → pieceP t L a off N M0 sc n1) : bothP t L a off N M0 sc n := by
  intro Q W q cl p M I hW hT hB K
  have hb := I.2.2.2.2
  have lp : ∀ (n1 : Nat), n1 < n → ∀ (i p1 : Nat) (q1 : LC) (o5 : Option Vv) (M1 : MM), p < p1 → i < p1 → (p + q1.1 ≤ p1 + q.1 ∧ preC q q1) → outL t N p (zsP W q cl) = outL t N p1 (zsR W q1 cl) → lpI L a off N p1 q1 M0 M1 → PW sc n1 m_X1_readBoth 7 [] [some (vr 22), some (vr L), some (vi (opn W : Int)), some (vi 1), some (vi (i : Int)), o5] M1 Q := by
    intro n1
    induction n1 using Nat.strongRecOn with
    | ind n1 ihn =>
      intro hn i p1 q1 o5 M1 hp hi hs ho I1
      have hb1 := I1.2.2.2.2
      have hl := I1.NN hL hN ht
      refine pw_X1_readBoth_7 hL _ _ _ o5 M1 fun n2 h2 => brP (fun h240 => gMB (K.2 p1 q1 M1 ho I1 hp hs ?_ 1 rfl)) fun h240 => brF (by decide) (p_next I1.2.1.1 hl.1 hl.2 fun c hc => cI_i ?_)
      · show chL t N p1 ≠ 38
        unfold chL
        rw [if_neg (by omega)]
        decide
      rw [I1.2.1.1, show w32 ((p1 : Int) + 1) = ((p1 + 1 : Nat) : Int) from ew32 (by omega) (by omega)]
      refine brP (fun g => gMB (K.2 p1 q1 M1 ho I1 hp hs (by show chL t N p1 ≠ 38; rw [← hc]; exact g) 1 rfl)) fun g => ?_
      have g := Classical.not_not.mp g
      have hlt : p1 < N := chL_lt (t := t) (by omega)
      rw [chL_at hlt] at hc
      have hgo : outL t N p1 (zsR W q1 cl) = outL t N (p1 + 1) (zsP ((1048576 * 11 + (q1.1 : Int)) :: W) (emC q1 (1048576 * 11)) cl) := outL_go hlt (by
        show ztR W q1 cl (t p1) p1 = _
        rw [← hc, g]
        exact ztR_amp hB _ _ _)
      have hcj := cop_j (o := 11) (k := q1.1) (by omega)
      have hcj1 : cop (1048576 * 11 + (q1.1 : Int)) = 11 := hcj.1
      refine p_addC hL (I1.pl hL (p' := p1 + 1) (by omega) (by omega) rfl) (by omega) (x := 1048576 * 11) (by rw [cop_u]; rfl) (fun z => by rw [cop_u] at z; omega) (fun _ => by unfold carg; omega) fun M2 I2 => ?_
      have hop : opn ((1048576 * 11 + (q1.1 : Int)) :: W) = opn W := by
        show opn W + (if cop (1048576 * 11 + (q1.1 : Int)) = 10 ∨ cop (1048576 * 11 + (q1.1 : Int)) = 13 ∨ cop (1048576 * 11 + (q1.1 : Int)) = 14 then 1 else 0) = opn W
        rw [hcj1, if_neg (by omega)]
        rfl
      rw [← hop]
      refine ihp n2 (by omega) _ ((1048576 * 11 + (q1.1 : Int)) :: W) (emC q1 (1048576 * 11)) cl (p1 + 1) M2 I2 (by omega) ⟨by show ¬ (2 ≤ cop (1048576 * 11 + (q1.1 : Int)) ∧ cop (1048576 * 11 + (q1.1 : Int)) ≤ 6); rw [hcj1]; omega, fun z => by
        rcases hasO_c z with z | z
        · rw [hcj1] at z
          omega
        · exact hT.2.1 z, fun z => by cases z⟩ ⟨fun f M3 g1 g2 z hz => ?_, fun p2 q2 M3 g1 g2 g3 g4 _ z hz => ?_⟩
      · subst hz
        have xb : ∀ (n : Nat) (d v o : Int) (M4 : MM), lcX L f M0 M4 → PW sc n m_X1_readBoth 7 [] [some (vr 22), some (vr L), some (vi d), some (vi 0), some (vi v), some (vi o)] M4 Q := fun n d v o M4 X => pw_X1_readBoth_7 hL _ _ _ _ M4 fun n5 _ => brP (fun _ => gMB (K.1 f M4 ((ho.trans hgo).trans g1) X 0 rfl)) fun _ => brT rfl (gMB (K.1 f M4 ((ho.trans hgo).trans g1) X 0 rfl))
        refine pc_X0_aim hL _ M3 fun n4 _ => brP (fun _ => xb n2 _ _ _ M3 g2) fun _ => brP (fun _ => xb n2 _ _ _ M3 g2) fun _ => gMB (xb n2 _ _ _ _ ⟨g2.1.st hL (.inr (.inr (.inr rfl))), ?_⟩)
        rw [stN (by omega)]
        exact g2.2
      · subst hz
        have hb2 := g2.2.2.2.2
        have hpre := g4.2
        have hk1 : q1.1 < q2.1 := Nat.lt_of_lt_of_le (Nat.lt_succ_self _) hpre.1
        have hx : q2.2 q1.1 = 1048576 * 11 := (hpre.2 q1.1 (Nat.lt_succ_self _)).trans (if_pos rfl)
        refine f_aim hL g2 (k := q1.1) (by omega) (by rw [hx, cop_u]; exact .inl rfl) fun M4 I4 => ?_
        rw [hop, show w32 ((i : Int) + 1) = ((i + 1 : Nat) : Int) from ew32 (by omega) (by omega)]
        refine ihn n2 (by omega) (by omega) (i + 1) p2 (ptC q2 q1.1) _ M4 (by omega) (by omega) ⟨?_, preC_pt (hs.2.tr (((preC.rf q1).em _).tr hpre)) hs.2.1⟩ ?_ I4
        · have := g4.1
          show p + q2.1 ≤ p2 + q.1
          have e : (emC q1 (1048576 * 11)).1 = q1.1 + 1 := rfl
          rw [e] at this
          omega
        · rw [ho, hgo, g1]
          exact outL_eq (by show (4 : Nat) ≠ 6; decide) (by show (4 : Nat) ≠ 6; decide) fun _ => ztR_and hB (by omega) _ _ _ _
  refine pc_X1_readBoth hL _ M fun n1 h1 => ihp n1 h1 _ W q cl p M I hW hT ⟨fun f M1 g1 g2 z hz => ?_, fun p1 q1 M1 g1 g2 g3 g4 _ z hz => ?_⟩
  · subst hz
    exact pw_X1_readBoth_7 hL _ _ _ _ M1 fun n5 _ => brP (fun _ => gMB (K.1 f M1 g1 g2 0 rfl)) fun _ => brT rfl (gMB (K.1 f M1 g1 g2 0 rfl))
  · subst hz
    exact lp n1 h1 0 p1 q1 none M1 g3 (by omega) g4 g1 g2
set_option maxRecDepth 20000 in
theorem f_either (hL : L = 65 ∨ L = 73) (hN : M0 22 1 = (N : Int)) (ht : ∀ i, i < N → M0 23 i = t i) {n : Nat} (ihp : ∀ n1, n1 < n → bothP t L a off N M0 sc n1) : eitherP t L a off N M0 sc n := by
  intro Q W q cl p M I hW hT hB K
  have hb := I.2.2.2.2
  have lp : ∀ (n1 : Nat), n1 < n → ∀ (i p1 : Nat) (q1 : LC) (o5 : Option Vv) (M1 : MM), p < p1 → i < p1 → (p + q1.1 ≤ p1 + q.1 ∧ preC q q1) → chL t N p1 ≠ 38 → outL t N p (zsP W q cl) = outL t N p1 (zsR W q1 cl) → lpI L a off N p1 q1 M0 M1 → PW sc n1 m_X1_readEither 7 [] [some (vr 22), some (vr L), some (vi (opn W : Int)), some (vi 1), some (vi (i : Int)), o5] M1 Q := by
    intro n1
    induction n1 using Nat.strongRecOn with
    | ind n1 ihn =>
      intro hn i p1 q1 o5 M1 hp hi hs h38 ho I1
      have hb1 := I1.2.2.2.2
      have hl := I1.NN hL hN ht
      refine pw_X1_readEither_7 hL _ _ _ o5 M1 fun n2 h2 => brP (fun h240 => gMB (K.2 p1 q1 M1 ho I1 hp hs ⟨h38, ?_⟩ 1 rfl)) fun h240 => brF (by decide) (p_next I1.2.1.1 hl.1 hl.2 fun c hc => cI_i ?_)
      · unfold chL
        rw [if_neg (by omega)]
        decide
      rw [I1.2.1.1, show w32 ((p1 : Int) + 1) = ((p1 + 1 : Nat) : Int) from ew32 (by omega) (by omega)]
      refine brP (fun g => gMB (K.2 p1 q1 M1 ho I1 hp hs ⟨h38, by rw [← hc]; exact g⟩ 1 rfl)) fun g => ?_
      have g := Classical.not_not.mp g
      have hlt : p1 < N := chL_lt (t := t) (by omega)
      rw [chL_at hlt] at hc
      have hgo : outL t N p1 (zsR W q1 cl) = outL t N (p1 + 1) (zsP ((1048576 * 12 + (q1.1 : Int)) :: W) (emC q1 (1048576 * 12)) cl) := outL_go hlt (by
        show ztR W q1 cl (t p1) p1 = _
        rw [← hc, g]
        exact ztR_bar hB _ _ _)
      have hcj := cop_j (o := 12) (k := q1.1) (by omega)
      have hcj1 : cop (1048576 * 12 + (q1.1 : Int)) = 12 := hcj.1
      refine p_addC hL (I1.pl hL (p' := p1 + 1) (by omega) (by omega) rfl) (by omega) (x := 1048576 * 12) (by rw [cop_u]; rfl) (fun z => by rw [cop_u] at z; omega) (fun _ => by unfold carg; omega) fun M2 I2 => ?_
      have hop : opn ((1048576 * 12 + (q1.1 : Int)) :: W) = opn W := by
        show opn W + (if cop (1048576 * 12 + (q1.1 : Int)) = 10 ∨ cop (1048576 * 12 + (q1.1 : Int)) = 13 ∨ cop (1048576 * 12 + (q1.1 : Int)) = 14 then 1 else 0) = opn W
        rw [hcj1, if_neg (by omega)]
        rfl
      rw [← hop]
      refine ihp n2 (by omega) _ ((1048576 * 12 + (q1.1 : Int)) :: W) (emC q1 (1048576 * 12)) cl (p1 + 1) M2 I2 (by omega) ⟨by show ¬ (2 ≤ cop (1048576 * 12 + (q1.1 : Int)) ∧ cop (1048576 * 12 + (q1.1 : Int)) ≤ 6); rw [hcj1]; omega, fun z => by
        rcases hasO_c z with z | z
        · rw [hcj1] at z
          omega
        · exact hT.2.1 z, fun z => by cases z⟩ (.inl hcj1) ⟨fun f M3 g1 g2 z hz => ?_, fun p2 q2 M3 g1 g2 g3 g4 g5 z hz => ?_⟩
      · subst hz
        have xb : ∀ (n : Nat) (d v o : Int) (M4 : MM), lcX L f M0 M4 → PW sc n m_X1_readEither 7 [] [some (vr 22), some (vr L), some (vi d), some (vi 0), some (vi v), some (vi o)] M4 Q := fun n d v o M4 X => pw_X1_readEither_7 hL _ _ _ _ M4 fun n5 _ => brP (fun _ => gMB (K.1 f M4 ((ho.trans hgo).trans g1) X 0 rfl)) fun _ => brT rfl (gMB (K.1 f M4 ((ho.trans hgo).trans g1) X 0 rfl))
        refine pc_X0_aim hL _ M3 fun n4 _ => brP (fun _ => xb n2 _ _ _ M3 g2) fun _ => brP (fun _ => xb n2 _ _ _ M3 g2) fun _ => gMB (xb n2 _ _ _ _ ⟨g2.1.st hL (.inr (.inr (.inr rfl))), ?_⟩)
        rw [stN (by omega)]
        exact g2.2
      · subst hz
        have hb2 := g2.2.2.2.2
        have hpre := g4.2
        have hk1 : q1.1 < q2.1 := Nat.lt_of_lt_of_le (Nat.lt_succ_self _) hpre.1
        have hx : q2.2 q1.1 = 1048576 * 12 := (hpre.2 q1.1 (Nat.lt_succ_self _)).trans (if_pos rfl)
        refine f_aim hL g2 (k := q1.1) (by omega) (by rw [hx, cop_u]; exact .inr rfl) fun M4 I4 => ?_
        rw [hop, show w32 ((i : Int) + 1) = ((i + 1 : Nat) : Int) from ew32 (by omega) (by omega)]
        refine ihn n2 (by omega) (by omega) (i + 1) p2 (ptC q2 q1.1) _ M4 (by omega) (by omega) ⟨?_, preC_pt (hs.2.tr (((preC.rf q1).em _).tr hpre)) hs.2.1⟩ g5 ?_ I4
        · have := g4.1
          show p + q2.1 ≤ p2 + q.1
          have e : (emC q1 (1048576 * 12)).1 = q1.1 + 1 := rfl
          rw [e] at this
          omega
        · rw [ho, hgo, g1]
          refine outL_eq (by show (4 : Nat) ≠ 6; decide) (by show (4 : Nat) ≠ 6; decide) fun hlt2 => ztR_or hB (by omega) _ _ _ _ ?_
          have g5 : chL t N p2 ≠ 38 := g5
          rw [chL_at hlt2] at g5
          exact g5
  refine pc_X1_readEither hL _ M fun n1 h1 => ihp n1 h1 _ W q cl p M I hW hT hB.b ⟨fun f M1 g1 g2 z hz => ?_, fun p1 q1 M1 g1 g2 g3 g4 g5 z hz => ?_⟩
  · subst hz
    exact pw_X1_readEither_7 hL _ _ _ _ M1 fun n5 _ => brP (fun _ => gMB (K.1 f M1 g1 g2 0 rfl)) fun _ => brT rfl (gMB (K.1 f M1 g1 g2 0 rfl))
  · subst hz
    exact lp n1 h1 0 p1 q1 none M1 g3 (by omega) g4 g5 g1 g2
set_option maxRecDepth 20000 in
theorem f_condC (hL : L = 65 ∨ L = 73) (hN : M0 22 1 = (N : Int)) (ht : ∀ i, i < N → M0 23 i = t i) (ht0 : ∀ i, 0 ≤ t i) : ∀ n, pieceP t L a off N M0 sc n ∧ bothP t L a off N M0 sc n ∧ eitherP t L a off N M0 sc n := by
  intro n
  induction n using Nat.strongRecOn with
  | ind n ih => exact ⟨f_piece hL hN ht ht0 fun n1 h => ⟨(ih n1 h).1, (ih n1 h).2.2⟩, f_both hL hN ht fun n1 h => (ih n1 h).1, f_either hL hN ht fun n1 h => (ih n1 h).2.1⟩
end LDS
