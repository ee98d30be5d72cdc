/-! PART 6b: THE LAW's text, read by the class: sums -/
theorem pc_X1_readSum {sc : List Int} {n : Nat} {L : Nat} (hL : L = 65 ∨ L = 73) {Q : Vv → MM → Prop} (v2 : Int) (M : MM) (h : ∀ n1, n1 < n → PC sc n1 m_X1_readTerm [vr 22, vr L, vi v2] M (cI fun r2 M1 =>
  PW sc n1 m_X1_readSum 7 [] [some (vr 22), some (vr L), some (vi v2), some (vi r2), some (vi 0), none] M1 Q)) : PC sc n m_X1_readSum [vr 22, vr L, vi v2] M Q := by
  rcases hL with rfl | rfl <;> exact pc_go rfl (fun j => Nat.beq j 7 || Nat.beq j 23) 48 h
theorem pw_X1_readSum_7 {sc : List Int} {n : Nat} {L : Nat} (hL : L = 65 ∨ L = 73) {Q : Vv → MM → Prop} (v2 : Int) (v3 : Int) (v4 : Int) (o5 : Option Vv) (M : MM) (h : ∀ n1, n1 < n → brA (decide (240 ≤ v4))
  (gIm (decide (v3 = 0) || decide (v3 = 1)) (Q (vi v3) M))
  (brA (decide (v3 = 0))
   (gIm (decide (v3 = 0) || decide (v3 = 1)) (Q (vi v3) M))
   (PC sc n1 m_X1_next [vr 22] M (cI fun r2 M1 =>
    brA (decide (r2 = 43))
     (PW sc n1 m_X1_readSum 23 [] [some (vr 22), some (vr L), some (vi v2), some (vi v3), some (vi v4), some (vi r2)] M1 Q)
     (brA (decide (r2 = 45))
      (PW sc n1 m_X1_readSum 23 [] [some (vr 22), some (vr L), some (vi v2), some (vi v3), some (vi v4), some (vi r2)] M1 Q)
      (Q (vi 1) M1)))))) : PW sc n m_X1_readSum 7 [] [some (vr 22), some (vr L), some (vi v2), some (vi v3), some (vi v4), o5] M Q := by
  rcases hL with rfl | rfl <;> exact pw_go rfl (fun j => Nat.beq j 7 || Nat.beq j 23) 48 h
theorem pw_X1_readSum_23 {sc : List Int} {n : Nat} {L : Nat} (hL : L = 65 ∨ L = 73) {Q : Vv → MM → Prop} (v2 : Int) (v3 : Int) (v4 : Int) (v5 : Int) (M : MM) (h : ∀ n1, n1 < n → PC sc n1 m_X1_readTerm [vr 22, vr L, vi v2] (stM M 22 2 (w32 ((M 22 2) + 1))) (cI fun r2 M1 =>
  PC sc n1 m_X0_add [vr L, vi v5, vi 0] M1 (cI fun r4 M3 =>
   PW sc n1 m_X1_readSum 7 [] [some (vr 22), some (vr L), some (vi v2), some (vi r2), some (vi (w32 (v4 + 1))), some (vi v5)] M3 Q))) : PW sc n m_X1_readSum 23 [] [some (vr 22), some (vr L), some (vi v2), some (vi v3), some (vi v4), some (vi v5)] M Q := by
  rcases hL with rfl | rfl <;> exact pw_go rfl (fun j => Nat.beq j 7 || Nat.beq j 23) 48 h
theorem pc_X1_readTerm {sc : List Int} {n : Nat} {L : Nat} (hL : L = 65 ∨ L = 73) {Q : Vv → MM → Prop} (v2 : Int) (M : MM) (h : ∀ n1, n1 < n → PC sc n1 m_X1_readFactor [vr 22, vr L, vi v2] M (cI fun r2 M1 =>
  PW sc n1 m_X1_readTerm 7 [] [some (vr 22), some (vr L), some (vi v2), some (vi r2), some (vi 0), none] M1 Q)) : PC sc n m_X1_readTerm [vr 22, vr L, vi v2] M Q := by
  rcases hL with rfl | rfl <;> exact pc_go rfl (fun j => Nat.beq j 7 || Nat.beq j 26) 51 h
theorem pw_X1_readTerm_7 {sc : List Int} {n : Nat} {L : Nat} (hL : L = 65 ∨ L = 73) {Q : Vv → MM → Prop} (v2 : Int) (v3 : Int) (v4 : Int) (o5 : Option Vv) (M : MM) (h : ∀ n1, n1 < n → brA (decide (240 ≤ v4))
  (gIm (decide (v3 = 0) || decide (v3 = 1)) (Q (vi v3) M))
  (brA (decide (v3 = 0))
   (gIm (decide (v3 = 0) || decide (v3 = 1)) (Q (vi v3) M))
   (PC sc n1 m_X1_next [vr 22] M (cI fun r2 M1 =>
    brA (decide (r2 = 42))
     (PW sc n1 m_X1_readTerm 26 [] [some (vr 22), some (vr L), some (vi v2), some (vi v3), some (vi v4), some (vi r2)] M1 Q)
     (brA (decide (r2 = 47))
      (PW sc n1 m_X1_readTerm 26 [] [some (vr 22), some (vr L), some (vi v2), some (vi v3), some (vi v4), some (vi r2)] M1 Q)
      (brA (decide (r2 = 37))
       (PW sc n1 m_X1_readTerm 26 [] [some (vr 22), some (vr L), some (vi v2), some (vi v3), some (vi v4), some (vi r2)] M1 Q)
       (Q (vi 1) M1))))))) : PW sc n m_X1_readTerm 7 [] [some (vr 22), some (vr L), some (vi v2), some (vi v3), some (vi v4), o5] M Q := by
  rcases hL with rfl | rfl <;> exact pw_go rfl (fun j => Nat.beq j 7 || Nat.beq j 26) 51 h
theorem pw_X1_readTerm_26 {sc : List Int} {n : Nat} {L : Nat} (hL : L = 65 ∨ L = 73) {Q : Vv → MM → Prop} (v2 : Int) (v3 : Int) (v4 : Int) (v5 : Int) (M : MM) (h : ∀ n1, n1 < n → PC sc n1 m_X1_readFactor [vr 22, vr L, vi v2] (stM M 22 2 (w32 ((M 22 2) + 1))) (cI fun r2 M1 =>
  PC sc n1 m_X0_add [vr L, vi v5, vi 0] M1 (cI fun r4 M3 =>
   PW sc n1 m_X1_readTerm 7 [] [some (vr 22), some (vr L), some (vi v2), some (vi r2), some (vi (w32 (v4 + 1))), some (vi v5)] M3 Q))) : PW sc n m_X1_readTerm 26 [] [some (vr 22), some (vr L), some (vi v2), some (vi v3), some (vi v4), some (vi v5)] M Q := by
  rcases hL with rfl | rfl <;> exact pw_go rfl (fun j => Nat.beq j 7 || Nat.beq j 26) 51 h
theorem pc_X1_readFactor {sc : List Int} {n : Nat} {L : Nat} (hL : L = 65 ∨ L = 73) {Q : Vv → MM → Prop} (v2 : Int) (M : MM) (h : ∀ n1, n1 < n → PC sc n1 m_X1_next [vr 22] M (cI fun r2 M1 =>
  PC sc n1 m_X1_isDigit [vi r2] M1 (cI fun r4 M3 =>
   brA (decide (r4 = 0))
    (brA (decide (r2 ≠ 91))
     (PC sc n1 m_X0_factOf [vi r2] M3 (cI fun r6 M5 =>
      brA (decide (r6 ≠ ((-1))))
       (PC sc n1 m_X0_add [vr L, vi 97, vi r6] (stM M5 22 2 (w32 ((M5 22 2) + 1))) (cI fun r8 M7 =>
        Q (vi 1) M7))
       (PC sc n1 m_X1_fail [vr 22, vi 1] M5 (cI fun r10 M9 =>
        gIm (decide (r10 = 0) || decide (r10 = 1)) (Q (vi r10) M9)))))
     (brA (decide (v2 < 6))
      (PC sc n1 m_X1_readSum [vr 22, vr L, vi (w32 (v2 + 1))] (stM M3 22 2 (w32 ((M3 22 2) + 1))) (cI fun r12 M11 =>
       brA (decide (r12 = 0))
        (Q (vi 0) M11)
        (PC sc n1 m_X1_expect [vr 22, vi 93] M11 (cI fun r14 M13 =>
         brA (decide (r14 = 0))
          (Q (vi 0) M13)
          (Q (vi 1) M13)))))
      (PC sc n1 m_X1_fail [vr 22, vi 5] M3 (cI fun r16 M15 =>
       gIm (decide (r16 = 0) || decide (r16 = 1)) (Q (vi r16) M15)))))
    (PC sc n1 m_X1_readNumber [vr 22, vr L] M3 (cI fun r18 M17 =>
     gIm (decide (r18 = 0) || decide (r18 = 1)) (Q (vi r18) M17)))))) : PC sc n m_X1_readFactor [vr 22, vr L, vi v2] M Q := by
  rcases hL with rfl | rfl <;> exact pc_go rfl (fun j => false) 69 h
theorem pc_X1_readNumber {sc : List Int} {n : Nat} {L : Nat} (hL : L = 65 ∨ L = 73) {Q : Vv → MM → Prop}  (M : MM) (h : ∀ n1, n1 < n → PW sc n1 m_X1_readNumber 4 [] [some (vr 22), some (vr L), some (vi 0), some (vi 0)] M Q) : PC sc n m_X1_readNumber [vr 22, vr L] M Q := by
  rcases hL with rfl | rfl <;> exact pc_go rfl (fun j => Nat.beq j 4 || Nat.beq j 28) 48 h
theorem pw_X1_readNumber_4 {sc : List Int} {n : Nat} {L : Nat} (hL : L = 65 ∨ L = 73) {Q : Vv → MM → Prop} (v2 : Int) (v3 : Int) (M : MM) (h : ∀ n1, n1 < n → brA (decide (5 ≤ v3))
  (PW sc n1 m_X1_readNumber 28 [] [some (vr 22), some (vr L), some (vi v2), some (vi v3)] M Q)
  (PC sc n1 m_X1_next [vr 22] M (cI fun r2 M1 =>
   PC sc n1 m_X1_isDigit [vi r2] M1 (cI fun r4 M3 =>
    brA (decide (r4 = 0))
     (PW sc n1 m_X1_readNumber 28 [] [some (vr 22), some (vr L), some (vi v2), some (vi v3)] M3 Q)
     (PC sc n1 m_X1_next [vr 22] M3 (cI fun r6 M5 =>
      PW sc n1 m_X1_readNumber 4 [] [some (vr 22), some (vr L), some (vi (w32 ((w32 ((w32 (10 * v2)) + r6)) - 48))), some (vi (w32 (v3 + 1)))] (stM M5 22 2 (w32 ((M5 22 2) + 1))) Q)))))) : PW sc n m_X1_readNumber 4 [] [some (vr 22), some (vr L), some (vi v2), some (vi v3)] M Q := by
  rcases hL with rfl | rfl <;> exact pw_go rfl (fun j => Nat.beq j 4 || Nat.beq j 28) 48 h
theorem pw_X1_readNumber_28 {sc : List Int} {n : Nat} {L : Nat} (hL : L = 65 ∨ L = 73) {Q : Vv → MM → Prop} (v2 : Int) (v3 : Int) (M : MM) (h : ∀ n1, n1 < n → PC sc n1 m_X1_next [vr 22] M (cI fun r2 M1 =>
  PC sc n1 m_X1_isDigit [vi r2] M1 (cI fun r4 M3 =>
   brA (decide (r4 = 0))
    (PC sc n1 m_X0_add [vr L, vi 48, vi v2] M3 (cI fun r6 M5 =>
     Q (vi 1) M5))
    (PC sc n1 m_X1_fail [vr 22, vi 2] M3 (cI fun r8 M7 =>
     gIm (decide (r8 = 0) || decide (r8 = 1)) (Q (vi r8) M7)))))) : PW sc n m_X1_readNumber 28 [] [some (vr 22), some (vr L), some (vi v2), some (vi v3)] M Q := by
  rcases hL with rfl | rfl <;> exact pw_go rfl (fun j => Nat.beq j 4 || Nat.beq j 28) 48 h
theorem pc_X1_next {sc : List Int} {n : Nat} {Q : Vv → MM → Prop}  (M : MM) (h : ∀ n1, n1 < n → brA (decide ((M 22 2) < 0))
  (Q (vi ((-1))) M)
  (brA (decide ((M 22 1) ≤ (M 22 2)))
   (Q (vi ((-1))) M)
   (gIm (decide (0 ≤ (M 22 2)) && decide ((M 22 2) < 240)) (Q (vi (M 23 (M 22 2).toNat)) M)))) : PC sc n m_X1_next [vr 22] M Q := pc_go rfl (fun j => false) 21 h
theorem pc_X1_expect {sc : List Int} {n : Nat} {Q : Vv → MM → Prop} (v1 : Int) (M : MM) (h : ∀ n1, n1 < n → PC sc n1 m_X1_next [vr 22] M (cI fun r2 M1 =>
  brA (decide (r2 = v1))
   (Q (vi 1) (stM M1 22 2 (w32 ((M1 22 2) + 1))))
   (PC sc n1 m_X1_fail [vr 22, vi 1] M1 (cI fun r4 M3 =>
    gIm (decide (r4 = 0) || decide (r4 = 1)) (Q (vi r4) M3))))) : PC sc n m_X1_expect [vr 22, vi v1] M Q := pc_go rfl (fun j => false) 21 h
theorem pc_X1_fail {sc : List Int} {n : Nat} {Q : Vv → MM → Prop} (v1 : Int) (M : MM) (h : ∀ n1, n1 < n → Q (vi 0) (stM M 22 3 (w32 ((w32 (((-1000)) * v1)) - (M 22 2))))) : PC sc n m_X1_fail [vr 22, vi v1] M Q := pc_go rfl (fun j => false) 15 h
theorem pc_X1_isDigit {sc : List Int} {n : Nat} {Q : Vv → MM → Prop} (v0 : Int) (M : MM) (h : ∀ n1, n1 < n → brA (decide (v0 < 48))
  (Q (vi 0) M)
  (brA (decide (57 < v0))
   (Q (vi 0) M)
   (Q (vi 1) M))) : PC sc n m_X1_isDigit [vi v0] M Q := pc_go rfl (fun j => false) 15 h
theorem pc_X0_add {sc : List Int} {n : Nat} {L : Nat} (hL : L = 65 ∨ L = 73) {Q : Vv → MM → Prop} (v1 : Int) (v2 : Int) (M : MM) (h : ∀ n1, n1 < n → brA (decide (320 ≤ (M L 6)))
  (Q (vi (M L 6)) M)
  (gIm (decide (0 ≤ (M L 6)) && decide ((M L 6) < 320)) (gIm (decide (0 ≤ (M L 6)) && decide ((M L 6) < 320)) (Q (vi (M L 6)) (stM (stM (stM M ((L + 4)) ((M L 6).toNat) v1) ((L + 5)) ((M L 6).toNat) v2) L 6 (w32 ((M L 6) + 1))))))) : PC sc n m_X0_add [vr L, vi v1, vi v2] M Q := by
  rcases hL with rfl | rfl <;> exact pc_go rfl (fun j => false) 32 h
theorem pc_X0_factOf {sc : List Int} {n : Nat} {Q : Vv → MM → Prop} (v0 : Int) (M : MM) (h : ∀ n1, n1 < n → (v0 = 97 → Q (vi 3) M) ∧
  (v0 ≠ 97 → (v0 = 98 → Q (vi 4) M) ∧
  (v0 ≠ 98 → (v0 = 99 → Q (vi ((-1))) M) ∧
  (v0 ≠ 99 → (v0 = 100 → Q (vi 7) M) ∧
  (v0 ≠ 100 → (v0 = 101 → Q (vi ((-1))) M) ∧
  (v0 ≠ 101 → (v0 = 102 → Q (vi ((-1))) M) ∧
  (v0 ≠ 102 → (v0 = 103 → Q (vi 2) M) ∧
  (v0 ≠ 103 → (v0 = 104 → Q (vi 0) M) ∧
  (v0 ≠ 104 → (v0 = 105 → Q (vi ((-1))) M) ∧
  (v0 ≠ 105 → (v0 = 106 → Q (vi 1) M) ∧
  (v0 ≠ 106 → (v0 = 107 → Q (vi 5) M) ∧
  (v0 ≠ 107 → (v0 = 108 → Q (vi ((-1))) M) ∧
  (v0 ≠ 108 → (v0 = 109 → Q (vi ((-1))) M) ∧
  (v0 ≠ 109 → (v0 = 110 → Q (vi ((-1))) M) ∧
  (v0 ≠ 110 → (v0 = 111 → Q (vi 9) M) ∧
  (v0 ≠ 111 → (v0 = 112 → Q (vi ((-1))) M) ∧
  (v0 ≠ 112 → (v0 = 113 → Q (vi ((-1))) M) ∧
  (v0 ≠ 113 → (v0 = 114 → Q (vi ((-1))) M) ∧
  (v0 ≠ 114 → (v0 = 115 → Q (vi ((-1))) M) ∧
  (v0 ≠ 115 → (v0 = 116 → Q (vi 6) M) ∧
  (v0 ≠ 116 → (v0 = 117 → Q (vi ((-1))) M) ∧
  (v0 ≠ 117 → (v0 = 118 → Q (vi ((-1))) M) ∧
  (v0 ≠ 118 → (v0 = 119 → Q (vi 8) M) ∧
  (v0 ≠ 119 → Q (vi ((-1))) M)))))))))))))))))))))))) : PC sc n m_X0_factOf [vi v0] M Q := pc_go rfl (fun j => false) 29 h
def enO (o : Int) : Int := if o = 0 then 48 else if o = 1 then 97 else if o = 2 then 43 else if o = 3 then 45 else if o = 4 then 42 else if o = 5 then 47 else if o = 6 then 37 else if o = 7 then 60 else if o = 8 then 62 else if o = 9 then 61 else if o = 10 then 33 else if o = 11 then 38 else if o = 12 then 124 else 0
/- a command of the class is a code -/
def crR (M : MM) (L : Nat) (C : Nat → Int) (off i : Nat) : Prop := M (L + 4) (i + off) = enO (cop (C i)) ∧ ((cop (C i) = 0 ∨ cop (C i) = 1) → M (L + 5) (i + off) = carg (C i)) ∧ ((cop (C i) = 11 ∨ cop (C i) = 12) → carg (C i) = 0 ∨ M (L + 5) (i + off) = carg (C i) + off)
/- what the class's readers leave alone -/
def lcF (L : Nat) (M0 M : MM) : Prop := (∀ c, c ≠ 22 → c ≠ L → c ≠ L + 4 → c ≠ L + 5 → M c = M0 c) ∧ (∀ j, j ≠ 2 → j ≠ 3 → M 22 j = M0 22 j) ∧ ∀ j, j ≠ 6 → M L j = M0 L j
theorem lcF.rf (L : Nat) (M : MM) : lcF L M M := ⟨fun _ _ _ _ _ => rfl, fun _ _ _ => rfl, fun _ _ => rfl⟩
theorem lcF.st {L : Nat} {M0 M : MM} (h : lcF L M0 M) (hL : L = 65 ∨ L = 73) {k j : Nat} {v : Int} (hk : (k = 22 ∧ (j = 2 ∨ j = 3)) ∨ (k = L ∧ j = 6) ∨ k = L + 4 ∨ k = L + 5) : lcF L M0 (stM M k j v) := ⟨fun c h1 h2 h3 h4 => (stK (by omega)).trans (h.1 c h1 h2 h3 h4), fun i h1 h2 => by
  rw [stM_at, if_neg (by omega)]
  exact h.2.1 i h1 h2, fun i h1 => by
  rw [stM_at, if_neg (by omega)]
  exact h.2.2 i h1⟩
def lcX (L : Nat) (f : Int) (M0 M : MM) : Prop := lcF L M0 M ∧ M 22 3 = f
/- a piece of THE LAW is being read: it began at code a, codes stand off further on in the class -/
def lpI (L a off N p : Nat) (q : LC) (M0 M : MM) : Prop := lcF L M0 M ∧ (M 22 2 = (p : Int) ∧ M L 6 = ((q.1 + off : Nat) : Int)) ∧ (∀ i, i < a + off → M (L + 4) i = M0 (L + 4) i ∧ M (L + 5) i = M0 (L + 5) i) ∧ (∀ i, a ≤ i → i < q.1 → crR M L q.2 off i) ∧ (a ≤ q.1 ∧ q.1 ≤ p ∧ p ≤ N ∧ N ≤ 240 ∧ off ≤ 33)
theorem lpI.pl {L a off N p p' : Nat} {q : LC} {M0 M : MM} (I : lpI L a off N p q M0 M) (hL : L = 65 ∨ L = 73) (h1 : p ≤ p') (h2 : p' ≤ N) {v : Int} (hv : v = (p' : Int)) : lpI L a off N p' q M0 (stM M 22 2 v) := by
  subst hv
  have hb := I.2.2.2.2
  refine ⟨I.1.st hL (.inl ⟨rfl, .inl rfl⟩), ⟨stE, (stN (by omega)).trans I.2.1.2⟩, fun i hi => ?_, fun i h3 h4 => ?_, by omega⟩
  · rw [stN (by omega), stN (by omega)]
    exact I.2.2.1 i hi
  · have := I.2.2.2.1 i h3 h4
    unfold crR at this ⊢
    rw [stN (by omega), stN (by omega)]
    exact this
theorem lpI.x {L a off N p : Nat} {q : LC} {M0 M : MM} (I : lpI L a off N p q M0 M) (hL : L = 65 ∨ L = 73) (f : Int) : lcX L f M0 (stM M 22 3 f) := ⟨I.1.st hL (.inl ⟨rfl, .inr rfl⟩), stE⟩
/- a code more -/
theorem lpI.add {L a off N p : Nat} {q : LC} {M0 M : MM} (I : lpI L a off N p q M0 M) (hL : L = 65 ∨ L = 73) (hp : q.1 + 1 ≤ p) {x sg v z : Int} (hz : z = ((q.1 + 1 + off : Nat) : Int)) (h1 : sg = enO (cop x)) (h2 : (cop x = 0 ∨ cop x = 1) → v = carg x) (h3 : (cop x = 11 ∨ cop x = 12) → carg x = 0) : lpI L a off N p (emC q x) M0 (stM (stM (stM M (L + 4) (q.1 + off) sg) (L + 5) (q.1 + off) v) L 6 z) := by
  subst hz h1
  have hb := I.2.2.2.2
  refine ⟨((I.1.st hL (.inr (.inr (.inl rfl)))).st hL (.inr (.inr (.inr rfl)))).st hL (.inr (.inl ⟨rfl, rfl⟩)), ⟨?_, stE⟩, fun i hi => ?_, fun i h4 h5 => ?_, ?_⟩
  · rw [stN (by omega), stN (by omega), stN (by omega)]
    exact I.2.1.1
  · rw [stN (by omega), stN (by omega), stO (by omega), stN (by omega), stO (by omega), stN (by omega)]
    exact I.2.2.1 i hi
  · have h5 : i < q.1 + 1 := h5
    by_cases e : i = q.1
    · subst e
      have ex : (emC q x).2 q.1 = x := if_pos rfl
      unfold crR
      rw [ex, stN (by omega), stN (by omega), stE, stN (by omega), stE]
      exact ⟨rfl, h2, fun z => .inl (h3 z)⟩
    · have ex : (emC q x).2 i = q.2 i := if_neg e
      have := I.2.2.2.1 i h4 (by omega)
      unfold crR at this ⊢
      rw [ex, stN (by omega), stN (by omega), stO (by omega), stN (by omega), stO (by omega), stN (by omega)]
      exact this
  · show a ≤ q.1 + 1 ∧ q.1 + 1 ≤ p ∧ p ≤ N ∧ N ≤ 240 ∧ off ≤ 33
    omega
section LCS
variable {sc : List Int} {Q : Vv → MM → Prop} {t : Nat → Int} {N L a off : Nat} {M0 : MM}
set_option maxRecDepth 20000 in
theorem p_next {p n : Nat} {M : MM} (h2 : M 22 2 = (p : Int)) (h1 : M 22 1 = (N : Int)) (ht : ∀ i, i < N → M 23 i = t i) (k : ∀ x : Int, x = chL t N p → Q (vi x) M) : PC sc n m_X1_next [vr 22] M Q := by
  refine pc_X1_next M fun n1 _ => ?_
  rw [h2, h1, show ((p : Int)).toNat = p by omega]
  refine brF (by omega) (brP (fun q => k _ ?_) fun q => gMB (k _ ?_))
  · unfold chL
    rw [if_neg (by omega)]
  · unfold chL
    rw [if_pos (by omega), ht p (by omega)]
set_option maxRecDepth 20000 in
theorem p_isDigitC {c : Int} {n : Nat} {M : MM} (k0 : ¬ (48 ≤ c ∧ c ≤ 57) → ∀ x : Int, x = 0 → Q (vi x) M) (k1 : (48 ≤ c ∧ c ≤ 57) → ∀ x : Int, x = 1 → Q (vi x) M) : PC sc n m_X1_isDigit [vi c] M Q := pc_X1_isDigit c M fun n1 _ => brP (fun q => k0 (by omega) 0 rfl) fun q => brP (fun q2 => k0 (by omega) 0 rfl) fun q2 => k1 (by omega) 1 rfl
set_option maxRecDepth 20000 in
theorem p_fail {a : Int} {p n : Nat} {M : MM} (ha : 1 ≤ a ∧ a ≤ 7) (hp : p ≤ 240) (h2 : M 22 2 = (p : Int)) (k : ∀ x : Int, x = 0 → Q (vi x) (stM M 22 3 (-1000 * a - (p : Int)))) : PC sc n m_X1_fail [vr 22, vi a] M Q := pc_X1_fail a M fun n1 _ => by
  rw [h2, ew32 (z := -1000 * a) (by omega) (by omega), ew32 (z := -1000 * a - (p : Int)) (by omega) (by omega)]
  exact k 0 rfl
set_option maxRecDepth 20000 in
theorem p_factOfC {c : Int} {n : Nat} {M : MM} (k : ∀ x : Int, x = lfV c → Q (vi x) M) : PC sc n m_X0_factOf [vi c] M Q := by
  refine pc_X0_factOf c M fun n1 _ => ?_
  have hk : ∀ x : Int, x = lfV c → Q (vi x) M := k
  unfold lfV at hk
  have no : c ≠ 97 → c ≠ 98 → c ≠ 100 → c ≠ 103 → c ≠ 104 → c ≠ 106 → c ≠ 107 → c ≠ 111 → c ≠ 116 → c ≠ 119 → Q (vi (-1)) M := fun h1 h2 h3 h4 h5 h6 h7 h8 h9 h10 => hk _ (by
    rw [if_neg h5, if_neg h6, if_neg h4, if_neg h1, if_neg h2, if_neg h7, if_neg h9, if_neg h3, if_neg h10, if_neg h8])
  have yes : ∀ x : Int, lfV c = x → Q (vi x) M := fun x hx => k x hx.symm
  refine ⟨fun h => ?_, fun a1 => ⟨fun h => ?_, fun a2 => ⟨fun h => ?_, fun a3 => ⟨fun h => ?_, fun a4 => ⟨fun h => ?_, fun a5 => ⟨fun h => ?_, fun a6 => ⟨fun h => ?_, fun a7 => ⟨fun h => ?_, fun a8 => ⟨fun h => ?_, fun a9 => ⟨fun h => ?_, fun a10 => ⟨fun h => ?_, fun a11 => ⟨fun h => ?_, fun a12 => ⟨fun h => ?_, fun a13 => ⟨fun h => ?_, fun a14 => ⟨fun h => ?_, fun a15 => ⟨fun h => ?_, fun a16 => ⟨fun h => ?_, fun a17 => ⟨fun h => ?_, fun a18 => ⟨fun h => ?_, fun a19 => ⟨fun h => ?_, fun a20 => ⟨fun h => ?_, fun a21 => ⟨fun h => ?_, fun a22 => ⟨fun h => ?_, fun a23 => ?_⟩⟩⟩⟩⟩⟩⟩⟩⟩⟩⟩⟩⟩⟩⟩⟩⟩⟩⟩⟩⟩⟩⟩
  all_goals first | (subst h; exact yes _ rfl) | exact no (by omega) (by omega) (by omega) (by omega) (by omega) (by omega) (by omega) (by omega) (by omega) (by omega)
set_option maxRecDepth 20000 in
theorem p_addC (hL : L = 65 ∨ L = 73) {p n : Nat} {q : LC} {M : MM} (I : lpI L a off N p q M0 M) (hp : q.1 + 1 ≤ p) {x sg v : Int} (h1 : sg = enO (cop x)) (h2 : (cop x = 0 ∨ cop x = 1) → v = carg x) (h3 : (cop x = 11 ∨ cop x = 12) → carg x = 0) (k : ∀ M1, lpI L a off N p (emC q x) M0 M1 → Q (vi ((q.1 + off : Nat) : Int)) M1) : PC sc n m_X0_add [vr L, vi sg, vi v] M Q := by
  have hb := I.2.2.2.2
  refine pc_X0_add hL sg v M fun n1 _ => ?_
  rw [I.2.1.2, show (((q.1 + off : Nat) : Int)).toNat = q.1 + off by omega, ew32 (z := ((q.1 + off : Nat) : Int) + 1) (by omega) (by omega)]
  exact brF (by omega) (gMB (gMB (k _ (I.add hL hp (by omega) h1 h2 h3))))
/- what is asked of a reader of a factor, a term, a sum -/
/- the codes that were there stay -/
def preC (q q1 : LC) : Prop := q.1 ≤ q1.1 ∧ ∀ i, i < q.1 → q1.2 i = q.2 i
theorem preC.rf (q : LC) : preC q q := ⟨Nat.le_refl _, fun _ _ => rfl⟩
theorem preC.tr {q q1 q2 : LC} (h : preC q q1) (g : preC q1 q2) : preC q q2 := ⟨Nat.le_trans h.1 g.1, fun i hi => (g.2 i (Nat.lt_of_lt_of_le hi h.1)).trans (h.2 i hi)⟩
theorem preC.em {q q1 : LC} (h : preC q q1) (x : Int) : preC q (emC q1 x) := ⟨Nat.le_succ_of_le h.1, fun i hi => (if_neg (by have := h.1; omega)).trans (h.2 i hi)⟩
def rdQ (t : Nat → Int) (L a off N : Nat) (M0 : MM) (x : Nat × Int) (W : List Int) (q : LC) (cl : CL) (p : Nat) (E : Nat → Prop) (Q : Vv → MM → Prop) : Prop := (∀ f M1, outL t N p (zsA x W q cl) = .inl f → lcX L f M0 M1 → ∀ z : Int, z = 0 → Q (vi z) M1) ∧ ∀ p1 q1 M1, outL t N p (zsA x W q cl) = outL t N p1 (zsB x W q1 cl) → lpI L a off N p1 q1 M0 M1 → p < p1 → (p + q1.1 ≤ p1 + q.1 ∧ preC q q1) → E p1 → ∀ z : Int, z = 1 → Q (vi z) M1
theorem lpI.NN {p : Nat} {q : LC} {M : MM} (I : lpI L a off N p q M0 M) (hL : L = 65 ∨ L = 73) (hN : M0 22 1 = (N : Int)) (ht : ∀ i, i < N → M0 23 i = t i) : M 22 1 = (N : Int) ∧ ∀ i, i < N → M 23 i = t i := ⟨(I.1.2.1 1 (by decide) (by decide)).trans hN, fun i hi => by
  rw [I.1.1 23 (by decide) (by omega) (by omega) (by omega)]
  exact ht i hi⟩
theorem chL_lt {p : Nat} (h : chL t N p ≠ -1) : p < N := by
  unfold chL at h
  by_cases q : p < N
  · exact q
  · rw [if_neg q] at h
    exact absurd rfl h
theorem chL_at {p : Nat} (h : p < N) : chL t N p = t p := if_pos h
set_option maxRecDepth 20000 in
theorem f_number (hL : L = 65 ∨ L = 73) (hN : M0 22 1 = (N : Int)) (ht : ∀ i, i < N → M0 23 i = t i) {x : Nat × Int} {W : List Int} {q : LC} {cl : CL} {p n : Nat} {M : MM} (I : lpI L a off N p q M0 M) (hd : 48 ≤ chL t N p ∧ chL t N p ≤ 57) (K : rdQ t L a off N M0 x W q cl p (fun _ => True) Q) : PC sc n m_X1_readNumber [vr 22, vr L] M Q := by
  have hb := I.2.2.2.2
  have hp : p < N := chL_lt (t := t) (by omega)
  have hc := chL_at (t := t) hp
  have h0 : outL t N p (zsA x W q cl) = outL t N (p + 1) (zsN x 1 (t p - 48) W q cl) := outL_go hp (by
    show ztA x W q cl (t p) p = _
    unfold ztA
    rw [if_neg (by omega), if_pos (by omega)])
  have fin : ∀ (i p1 n : Nat) (v : Int) (o : Int) (M1 : MM), p < p1 → (0 ≤ v ∧ v ≤ 99999) → outL t N p (zsA x W q cl) = outL t N p1 (zsN x i v W q cl) → lpI L a off N p1 q M0 M1 → (5 ≤ i ∨ ¬ (48 ≤ chL t N p1 ∧ chL t N p1 ≤ 57)) → PW sc n m_X1_readNumber 28 [] [some (vr 22), some (vr L), some (vi v), some (vi o)] M1 Q := fun i p1 n v o M1 hp1 hv ho I1 hi => by
    have hb1 := I1.2.2.2.2
    have hl := I1.NN hL hN ht
    refine pw_X1_readNumber_28 hL v o M1 fun n1 _ => p_next I1.2.1.1 hl.1 hl.2 fun c hc => p_isDigitC (fun hnd y hy => brT hy ?_) fun hdd y hy => brF (by omega) ?_
    · have hcv : cop v = 0 ∧ carg v = v := by
        unfold cop carg
        omega
      refine p_addC hL I1 (by omega) (x := v) (by rw [hcv.1]; rfl) (fun _ => hcv.2.symm) (fun z => by omega) fun M2 I2 => K.2 p1 (emC q v) M2 ?_ I2 hp1 ⟨by show p + (q.1 + 1) ≤ p1 + q.1; omega, (preC.rf q).em _⟩ trivial 1 rfl
      rw [ho]
      refine outL_eq (by show (1 : Nat) ≠ 6; decide) (by show (2 : Nat) ≠ 6; decide) fun hlt => ?_
      show ztN x i v W q cl (t p1) p1 = ztB x W (emC q v) cl (t p1) p1
      unfold ztN
      rw [chL_at hlt] at hc
      rw [if_neg (by omega)]
    · have hlt : p1 < N := chL_lt (t := t) (by omega)
      have h5 : 5 ≤ i := by
        rcases hi with z | z
        · exact z
        · exact absurd (by omega) z
      refine p_fail (by omega) (by omega) I1.2.1.1 fun w hw => gMB (K.1 _ _ ?_ (I1.x hL _) w hw)
      rw [ho, outL_no hlt (f := -1000 * 2 - (p1 : Int))]
      show ztN x i v W q cl (t p1) p1 = _
      unfold ztN
      rw [chL_at hlt] at hc
      rw [if_pos (by omega), if_pos h5]
      rfl
  have lp : ∀ (m i p1 n : Nat) (v : Int) (M1 : MM), i + m = 5 → 1 ≤ i → p < p1 → (0 ≤ v ∧ v ≤ pwT i) → outL t N p (zsA x W q cl) = outL t N p1 (zsN x i v W q cl) → lpI L a off N p1 q M0 M1 → PW sc n m_X1_readNumber 4 [] [some (vr 22), some (vr L), some (vi v), some (vi (i : Int))] M1 Q := by
    intro m
    induction m with
    | zero =>
      intro i p1 n v M1 hi h1 hp1 hv ho I1
      have := pwT_5 i (by omega)
      exact pw_X1_readNumber_4 hL _ _ M1 fun n1 _ => brT (by omega) (fin i p1 n1 v _ M1 hp1 (by omega) ho I1 (.inl (by omega)))
    | succ m ih =>
      intro i p1 n v M1 hi h1 hp1 hv ho I1
      have hpw := pwT_5 (i + 1) (by omega)
      have hpw2 : pwT (i + 1) = 10 * pwT i + 9 := rfl
      have hl := I1.NN hL hN ht
      have hb1 := I1.2.2.2.2
      refine pw_X1_readNumber_4 hL _ _ M1 fun n1 _ => brF (by omega) (p_next I1.2.1.1 hl.1 hl.2 fun c hc => p_isDigitC (fun hnd y hy => brT hy (fin i p1 n1 v _ M1 hp1 (by omega) ho I1 (.inr (by omega)))) fun hdd y hy => brF (by omega) (p_next I1.2.1.1 hl.1 hl.2 fun c2 hc2 => cI_i ?_))
      have hlt : p1 < N := chL_lt (t := t) (by omega)
      rw [chL_at hlt] at hc hc2
      rw [I1.2.1.1, show w32 ((p1 : Int) + 1) = ((p1 + 1 : Nat) : Int) from ew32 (by omega) (by omega), ew32 (z := 10 * v) (by omega) (by omega), ew32 (z := 10 * v + c2) (by omega) (by omega), ew32 (z := 10 * v + c2 - 48) (by omega) (by omega), show w32 ((i : Int) + 1) = ((i + 1 : Nat) : Int) from ew32 (by omega) (by omega)]
      refine ih (i + 1) (p1 + 1) n1 _ _ (by omega) (by omega) (by omega) (by omega) ?_ (I1.pl hL (by omega) (by omega) rfl)
      rw [ho]
      refine outL_go hlt ?_
      show ztN x i v W q cl (t p1) p1 = _
      unfold ztN
      rw [if_pos (by omega), if_neg (by omega), ← hc2]
  have hl := I.NN hL hN ht
  refine pc_X1_readNumber hL M fun n1 _ => pw_X1_readNumber_4 hL _ _ M fun n2 _ => brF (by omega) (p_next I.2.1.1 hl.1 hl.2 fun c hc => p_isDigitC (fun hnd y hy => by omega) fun hdd y hy => brF (by omega) (p_next I.2.1.1 hl.1 hl.2 fun c2 hc2 => cI_i ?_))
  rw [I.2.1.1, show w32 ((p : Int) + 1) = ((p + 1 : Nat) : Int) from ew32 (by omega) (by omega), show w32 (10 * 0) = 0 from rfl, ew32 (z := 0 + c2) (by omega) (by omega), ew32 (z := 0 + c2 - 48) (by omega) (by omega), show w32 (0 + 1) = ((1 : Nat) : Int) from rfl, show 0 + c2 - 48 = t p - 48 by omega]
  exact lp 4 1 (p + 1) n2 _ _ rfl (by omega) (by omega) (by show 0 ≤ t p - 48 ∧ t p - 48 ≤ 9; omega) h0 (I.pl hL (by omega) (by omega) rfl)
def facP (t : Nat → Int) (L a off N : Nat) (M0 : MM) (sc : List Int) (n : Nat) : Prop := ∀ (Q : Vv → MM → Prop) (x : Nat × Int) (W : List Int) (q : LC) (cl : CL) (p : Nat) (M : MM), lpI L a off N p q M0 M → opn W ≤ 6 → rdQ t L a off N M0 x W q cl p (fun _ => True) Q → PC sc n m_X1_readFactor [vr 22, vr L, vi (opn W : Int)] M Q
def termP (t : Nat → Int) (L a off N : Nat) (M0 : MM) (sc : List Int) (n : Nat) : Prop := ∀ (Q : Vv → MM → Prop) (x : Nat × Int) (W : List Int) (q : LC) (cl : CL) (p : Nat) (M : MM), lpI L a off N p q M0 M → opn W ≤ 6 → topM W → rdQ t L a off N M0 x W q cl p (fun p1 => ¬ (4 ≤ ssV (chL t N p1) ∧ ssV (chL t N p1) ≤ 6)) Q → PC sc n m_X1_readTerm [vr 22, vr L, vi (opn W : Int)] M Q
def sumP (t : Nat → Int) (L a off N : Nat) (M0 : MM) (sc : List Int) (n : Nat) : Prop := ∀ (Q : Vv → MM → Prop) (x : Nat × Int) (W : List Int) (q : LC) (cl : CL) (p : Nat) (M : MM), lpI L a off N p q M0 M → opn W ≤ 6 → topS W → rdQ t L a off N M0 x W q cl p (fun p1 => ssV (chL t N p1) = -1) Q → PC sc n m_X1_readSum [vr 22, vr L, vi (opn W : Int)] M Q
set_option maxRecDepth 20000 in
theorem p_expect {c : Int} {p n : Nat} {M : MM} (hc : c ≠ -1) (h2 : M 22 2 = (p : Int)) (h1 : M 22 1 = (N : Int)) (hN : N ≤ 240) (hp : p ≤ N) (ht : ∀ i, i < N → M 23 i = t i) (k0 : chL t N p ≠ c → ∀ x : Int, x = 0 → Q (vi x) (stM M 22 3 (-1000 - (p : Int)))) (k1 : p < N → t p = c → ∀ x : Int, x = 1 → Q (vi x) (stM M 22 2 ((p + 1 : Nat) : Int))) : PC sc n m_X1_expect [vr 22, vi c] M Q := by
  refine pc_X1_expect c M fun n1 _ => p_next h2 h1 ht fun y hy => cI_i ?_
  rw [h2, show w32 ((p : Int) + 1) = ((p + 1 : Nat) : Int) from ew32 (by omega) (by omega)]
  refine brP (fun z => ?_) fun z => p_fail (by omega) (by omega) h2 fun w hw => gMB ?_
  · have hlt : p < N := chL_lt (t := t) (by omega)
    rw [chL_at hlt] at hy
    exact k1 hlt (by omega) 1 rfl
  · rw [show -1000 * 1 - (p : Int) = -1000 - (p : Int) by omega]
    exact k0 (by omega) w hw
theorem opn_u (o : Int) (W : List Int) : opn (1048576 * o :: W) = opn W + (if o = 10 ∨ o = 13 ∨ o = 14 then 1 else 0) := by
  show opn W + (if cop (1048576 * o) = 10 ∨ cop (1048576 * o) = 13 ∨ cop (1048576 * o) = 14 then 1 else 0) = _
  rw [cop_u]
set_option maxRecDepth 20000 in
theorem f_fac (hL : L = 65 ∨ L = 73) (hN : M0 22 1 = (N : Int)) (ht : ∀ i, i < N → M0 23 i = t i) {n : Nat} (ih : ∀ n1, n1 < n → sumP t L a off N M0 sc n1) : facP t L a off N M0 sc n := by
  intro Q x W q cl p M I hW K
  have hb := I.2.2.2.2
  have hl := I.NN hL hN ht
  refine pc_X1_readFactor hL _ M fun n1 h1 => p_next I.2.1.1 hl.1 hl.2 fun c hc => p_isDigitC (fun hnd y hy => brT hy ?_) fun hdd y hy => brF (by omega) (f_number (x := x) (W := W) (q := q) (cl := cl) hL hN ht I (by omega) ⟨fun f M1 h2 h3 z hz => gMB (K.1 f M1 h2 h3 z hz), fun p1 q1 M1 h2 h3 h4 h5 h6 z hz => gMB (K.2 p1 q1 M1 h2 h3 h4 h5 h6 z hz)⟩)
  have bad : ∀ f : Int, (p < N → ztA x W q cl (t p) p = .inl f) → (N ≤ p → f = -1000 - (p : Int)) → outL t N p (zsA x W q cl) = .inl f := fun f h1 h2 => by
    by_cases z : p < N
    · exact outL_no z (h1 z)
    · rw [outL_end (by omega) (by show (0 : Nat) ≠ 6; decide), h2 (by omega)]
      show Sum.inl (-1000 * 1 - (p : Int)) = _
      rw [show -1000 * 1 - (p : Int) = -1000 - (p : Int) by omega]
  rw [I.2.1.1]
  refine brP (fun h91 => p_factOfC fun r hr => cI_i ?_) fun h91 => ?_
  · rw [I.2.1.1]
    refine brP (fun hr1 => ?_) fun hr1 => p_fail (by omega) (by omega) I.2.1.1 fun w hw => gMB (K.1 _ _ (bad _ (fun hlt => ?_) fun z => by omega) (I.x hL _) w hw)
    · have hlt : p < N := chL_lt (t := t) (fun z => by
        rw [z] at hc
        subst hc
        exact hr1 hr)
      rw [chL_at hlt] at hc
      subst hc
      have hr2 := lfV_r (t p)
      rw [show w32 ((p : Int) + 1) = ((p + 1 : Nat) : Int) from ew32 (by omega) (by omega)]
      have hcv : cop (1048576 + lfV (t p)) = 1 ∧ carg (1048576 + lfV (t p)) = lfV (t p) := by
        unfold cop carg
        omega
      refine p_addC hL (I.pl hL (p' := p + 1) (by omega) (by omega) rfl) (by omega) (x := 1048576 + lfV (t p)) (by rw [hcv.1]; rfl) (fun _ => by rw [hcv.2]; exact hr) (fun z => by omega) fun M2 I2 => K.2 (p + 1) _ M2 (outL_go hlt ?_) I2 (by omega) ⟨by show p + (q.1 + 1) ≤ p + 1 + q.1; omega, (preC.rf q).em _⟩ trivial 1 rfl
      show ztA x W q cl (t p) p = _
      unfold ztA
      rw [if_neg h91, if_neg hnd, if_pos (by omega)]
    · rw [chL_at hlt] at hc
      subst hc
      unfold ztA
      rw [if_neg h91, if_neg hnd, if_neg (by omega)]
      rfl
  · have h91 := Classical.not_not.mp h91
    have hlt : p < N := chL_lt (t := t) (by omega)
    rw [chL_at hlt] at hc
    subst hc
    refine brP (fun h6 => ?_) fun h6 => p_fail (by omega) (by omega) I.2.1.1 fun w hw => gMB (K.1 _ _ (bad _ (fun _ => ?_) fun z => by omega) (I.x hL _) w hw)
    · rw [show w32 ((p : Int) + 1) = ((p + 1 : Nat) : Int) from ew32 (by omega) (by omega)]
      have ho : opn (1048576 * 14 :: W) = opn W + 1 := by rw [opn_u, if_pos (.inr (.inr rfl))]
      rw [show w32 ((opn W : Int) + 1) = (opn (1048576 * 14 :: W) : Int) by rw [ho]; exact ew32 (by omega) (by omega)]
      have hgo : outL t N p (zsA x W q cl) = outL t N (p + 1) (zsA x (1048576 * 14 :: W) q cl) := outL_go hlt (by
        show ztA x W q cl (t p) p = _
        unfold ztA
        rw [if_pos h91, if_neg (by omega)])
      have htop : topS (1048576 * 14 :: W) := by
        show ¬ (2 ≤ cop (1048576 * 14) ∧ cop (1048576 * 14) ≤ 6)
        rw [cop_u]
        omega
      have hos : hasOS (1048576 * 14 :: W) := by
        show (decide (cop (1048576 * 14) = 14) || hasO W) = true
        rw [cop_u, decide_eq_true rfl]
        rfl
      refine ih n1 h1 _ x (1048576 * 14 :: W) q cl (p + 1) _ (I.pl hL (by omega) (by omega) rfl) (by omega) htop ⟨fun f M1 h2 h3 z hz => brT hz (K.1 f M1 (hgo.trans h2) h3 0 rfl), fun p1 q1 M1 h2 h3 h4 h5 h6 z hz => brF (by omega) ?_⟩
      have hl1 := h3.NN hL hN ht
      have hb1 := h3.2.2.2.2
      refine p_expect (by decide) h3.2.1.1 hl1.1 hb1.2.2.2.1 hb1.2.2.1 hl1.2 (fun hne w hw => brT hw (K.1 _ _ ?_ (h3.x hL _) 0 rfl)) fun hlt1 he w hw => brF (by omega) (K.2 (p1 + 1) q1 _ ?_ (h3.pl hL (by omega) (by omega) rfl) (by omega) ⟨by omega, h5.2⟩ trivial 1 rfl)
      · rw [hgo, h2]
        by_cases z : p1 < N
        · refine outL_no z ?_
          show ztB x (1048576 * 14 :: W) q1 cl (t p1) p1 = _
          have h6 : ssV (chL t N p1) = -1 := h6
          rw [chL_at z] at hne h6
          rw [ztB_os htop hos _ _ _ _ h6, if_neg hne]
          show Sum.inl (-1000 * 1 - (p1 : Int)) = _
          rw [show -1000 * 1 - (p1 : Int) = -1000 - (p1 : Int) by omega]
        · rw [outL_end (by omega) (by show (2 : Nat) ≠ 6; decide)]
          show Sum.inl (-1000 * 1 - (p1 : Int)) = _
          rw [show -1000 * 1 - (p1 : Int) = -1000 - (p1 : Int) by omega]
      · rw [hgo, h2]
        refine outL_go hlt1 ?_
        show ztB x (1048576 * 14 :: W) q1 cl (t p1) p1 = _
        have h6 : ssV (chL t N p1) = -1 := h6
        rw [chL_at hlt1] at h6
        rw [ztB_os htop hos _ _ _ _ h6, if_pos he]
        rfl
    · unfold ztA
      rw [if_pos h91, if_pos (by omega)]
      rfl
theorem enO_ss {c : Int} (h : 2 ≤ ssV c ∧ ssV c ≤ 6) : enO (ssV c) = c := by
  unfold ssV at h ⊢
  by_cases h1 : c = 43
  · rw [if_pos h1, h1]
    rfl
  · rw [if_neg h1] at h ⊢
    by_cases h2 : c = 45
    · rw [if_pos h2, h2]
      rfl
    · rw [if_neg h2] at h ⊢
      by_cases h3 : c = 42
      · rw [if_pos h3, h3]
        rfl
      · rw [if_neg h3] at h ⊢
        by_cases h4 : c = 47
        · rw [if_pos h4, h4]
          rfl
        · rw [if_neg h4] at h ⊢
          by_cases h5 : c = 37
          · rw [if_pos h5, h5]
            rfl
          · rw [if_neg h5] at h
            omega
theorem ssV_mul {c : Int} : (4 ≤ ssV c ∧ ssV c ≤ 6) ↔ (c = 42 ∨ c = 47 ∨ c = 37) := by
  unfold ssV
  by_cases h1 : c = 43
  · rw [if_pos h1]
    omega
  · rw [if_neg h1]
    by_cases h2 : c = 45
    · rw [if_pos h2]
      omega
    · rw [if_neg h2]
      by_cases h3 : c = 42
      · rw [if_pos h3]
        omega
      · rw [if_neg h3]
        by_cases h4 : c = 47
        · rw [if_pos h4]
          omega
        · rw [if_neg h4]
          by_cases h5 : c = 37
          · rw [if_pos h5]
            omega
          · rw [if_neg h5]
            omega
theorem ssV_add {c : Int} : (ssV c = 2 ∨ ssV c = 3) ↔ (c = 43 ∨ c = 45) := by
  unfold ssV
  by_cases h1 : c = 43
  · rw [if_pos h1]
    omega
  · rw [if_neg h1]
    by_cases h2 : c = 45
    · rw [if_pos h2]
      omega
    · rw [if_neg h2]
      by_cases h3 : c = 42
      · rw [if_pos h3]
        omega
      · rw [if_neg h3]
        by_cases h4 : c = 47
        · rw [if_pos h4]
          omega
        · rw [if_neg h4]
          by_cases h5 : c = 37
          · rw [if_pos h5]
            omega
          · rw [if_neg h5]
            omega
set_option maxRecDepth 20000 in
theorem f_term (hL : L = 65 ∨ L = 73) (hN : M0 22 1 = (N : Int)) (ht : ∀ i, i < N → M0 23 i = t i) {n : Nat} (ih : ∀ n1, n1 < n → facP t L a off N M0 sc n1) : termP t L a off N M0 sc n := by
  intro Q x W q cl p M I hW hT K
  have hb := I.2.2.2.2
  have lp : ∀ (n1 : Nat), n1 < n → ∀ (i p1 : Nat) (q1 : LC) (o5 : Option Vv) (M1 : MM), p < p1 → i < p1 → (p + q1.1 ≤ p1 + q.1 ∧ preC q q1) → outL t N p (zsA x W q cl) = outL t N p1 (zsB x W q1 cl) → lpI L a off N p1 q1 M0 M1 → PW sc n1 m_X1_readTerm 7 [] [some (vr 22), some (vr L), some (vi (opn W : Int)), some (vi 1), some (vi (i : Int)), o5] M1 Q := by
    intro n1
    induction n1 using Nat.strongRecOn with
    | ind n1 ihn =>
      intro hn i p1 q1 o5 M1 hp hi hs ho I1
      have hb1 := I1.2.2.2.2
      have hl := I1.NN hL hN ht
      refine pw_X1_readTerm_7 hL _ _ _ o5 M1 fun n2 h2 => brP (fun h240 => gMB (K.2 p1 q1 M1 ho I1 hp hs ?_ 1 rfl)) fun h240 => brF (by decide) (p_next I1.2.1.1 hl.1 hl.2 fun c hc => ?_)
      · omega
      · have m26 : ssV (chL t N p1) = ssV c → (4 ≤ ssV c ∧ ssV c ≤ 6) → PW sc n2 m_X1_readTerm 26 [] [some (vr 22), some (vr L), some (vi (opn W : Int)), some (vi 1), some (vi (i : Int)), some (vi c)] M1 Q := fun _ hm => by
          have hlt : p1 < N := chL_lt (t := t) (fun z => by
            rw [z] at hc
            subst hc
            have : ssV (-1) = -1 := rfl
            omega)
          rw [chL_at hlt] at hc
          subst hc
          have hgo : outL t N p1 (zsB x W q1 cl) = outL t N (p1 + 1) (zsA x (1048576 * ssV (t p1) :: W) q1 cl) := outL_go hlt (ztB_s2 hT _ _ _ _ hm)
          have hop : opn (1048576 * ssV (t p1) :: W) = opn W := by rw [opn_u, if_neg (by omega)]; rfl
          refine pw_X1_readTerm_26 hL _ _ _ _ M1 fun n3 h3 => ?_
          rw [I1.2.1.1, show w32 ((p1 : Int) + 1) = ((p1 + 1 : Nat) : Int) from ew32 (by omega) (by omega), ← hop]
          refine ih n3 (by omega) _ x (1048576 * ssV (t p1) :: W) q1 cl (p1 + 1) _ (I1.pl hL (by omega) (by omega) rfl) (by omega) ⟨fun f M2 g1 g2 z hz => ?_, fun p2 q2 M2 g1 g2 g3 g4 _ z hz => ?_⟩
          · subst hz
            refine pc_X0_add hL _ _ M2 fun n4 _ => ?_
            have xb : ∀ (n : Nat) (d v : Int) (M3 : MM) (r : Int), lcX L f M0 M3 → PW sc n m_X1_readTerm 7 [] [some (vr 22), some (vr L), some (vi d), some (vi 0), some (vi v), some (vi r)] M3 Q := fun n d v M3 r X => pw_X1_readTerm_7 hL _ _ _ _ M3 fun n5 _ => brP (fun _ => gMB (K.1 f M3 ((ho.trans hgo).trans g1) X 0 rfl)) fun _ => brT rfl (gMB (K.1 f M3 ((ho.trans hgo).trans g1) X 0 rfl))
            refine brP (fun _ => xb n3 _ _ M2 _ g2) fun _ => gMB (gMB (xb n3 _ _ _ _ ⟨((g2.1.st hL (.inr (.inr (.inl rfl)))).st hL (.inr (.inr (.inr rfl)))).st hL (.inr (.inl ⟨rfl, rfl⟩)), ?_⟩))
            rw [stN (by omega), stN (by omega), stN (by omega)]
            exact g2.2
          · subst hz
            have hb2 := g2.2.2.2.2
            refine p_addC hL g2 (by omega) (x := 1048576 * ssV (t p1)) (by rw [cop_u, enO_ss (by omega)]) (fun z => by rw [cop_u] at z; omega) (fun z => by rw [cop_u] at z; omega) fun M3 I3 => ?_
            rw [hop, show w32 ((i : Int) + 1) = ((i + 1 : Nat) : Int) from ew32 (by omega) (by omega)]
            refine ihn n3 (by omega) (by omega) (i + 1) p2 (emC q2 (1048576 * ssV (t p1))) _ M3 (by omega) (by omega) ⟨by show p + (q2.1 + 1) ≤ p2 + q.1; omega, (hs.2.tr g4.2).em _⟩ ?_ I3
            rw [ho, hgo, g1]
            exact outL_eq (by show (2 : Nat) ≠ 6; decide) (by show (2 : Nat) ≠ 6; decide) fun _ => ztB_mul hm _ _ _ _ _
        have mm := ssV_mul (c := c)
        refine brP (fun g => m26 (by rw [hc]) (mm.mpr (.inl g))) fun g => brP (fun g2 => m26 (by rw [hc]) (mm.mpr (.inr (.inl g2)))) fun g2 => brP (fun g3 => m26 (by rw [hc]) (mm.mpr (.inr (.inr g3)))) fun g3 => K.2 p1 q1 M1 ho I1 hp hs (by
          show ¬ (4 ≤ ssV (chL t N p1) ∧ ssV (chL t N p1) ≤ 6)
          rw [← hc]
          exact fun z => by
            have := mm.mp z
            omega) 1 rfl
  refine pc_X1_readTerm hL _ M fun n1 h1 => ih n1 h1 _ x W q cl p M I hW ⟨fun f M1 g1 g2 z hz => ?_, fun p1 q1 M1 g1 g2 g3 g4 _ z hz => ?_⟩
  · subst hz
    exact pw_X1_readTerm_7 hL _ _ _ _ M1 fun n5 _ => brP (fun _ => gMB (K.1 f M1 g1 g2 0 rfl)) fun _ => brT rfl (gMB (K.1 f M1 g1 g2 0 rfl))
  · subst hz
    exact lp n1 h1 0 p1 q1 none M1 g3 (by omega) g4 g1 g2
set_option maxRecDepth 20000 in
theorem f_sum (hL : L = 65 ∨ L = 73) (hN : M0 22 1 = (N : Int)) (ht : ∀ i, i < N → M0 23 i = t i) {n : Nat} (ih : ∀ n1, n1 < n → termP t L a off N M0 sc n1) : sumP t L a off N M0 sc n := by
  intro Q x W q cl p M I hW hT K
  have hb := I.2.2.2.2
  have hTM : topM W := by
    cases W with
    | nil => trivial
    | cons w W =>
      have hT : ¬ (2 ≤ cop w ∧ cop w ≤ 6) := hT
      show ¬ (4 ≤ cop w ∧ cop w ≤ 6)
      omega
  have lp : ∀ (n1 : Nat), n1 < n → ∀ (i p1 : Nat) (q1 : LC) (o5 : Option Vv) (M1 : MM), p < p1 → i < p1 → (p + q1.1 ≤ p1 + q.1 ∧ preC q q1) → ¬ (4 ≤ ssV (chL t N p1) ∧ ssV (chL t N p1) ≤ 6) → outL t N p (zsA x W q cl) = outL t N p1 (zsB x W q1 cl) → lpI L a off N p1 q1 M0 M1 → PW sc n1 m_X1_readSum 7 [] [some (vr 22), some (vr L), some (vi (opn W : Int)), some (vi 1), some (vi (i : Int)), o5] M1 Q := by
    intro n1
    induction n1 using Nat.strongRecOn with
    | ind n1 ihn =>
      intro hn i p1 q1 o5 M1 hp hi hs hnm ho I1
      have hb1 := I1.2.2.2.2
      have hl := I1.NN hL hN ht
      refine pw_X1_readSum_7 hL _ _ _ o5 M1 fun n2 h2 => brP (fun h240 => gMB (K.2 p1 q1 M1 ho I1 hp hs ?_ 1 rfl)) fun h240 => brF (by decide) (p_next I1.2.1.1 hl.1 hl.2 fun c hc => ?_)
      · omega
      · have mm := ssV_add (c := c)
        have hr := ssV_r c
        have m23 : (ssV c = 2 ∨ ssV c = 3) → PW sc n2 m_X1_readSum 23 [] [some (vr 22), some (vr L), some (vi (opn W : Int)), some (vi 1), some (vi (i : Int)), some (vi c)] M1 Q := fun hm => by
          have hlt : p1 < N := chL_lt (t := t) (fun z => by
            rw [z] at hc
            subst hc
            have : ssV (-1) = -1 := rfl
            omega)
          rw [chL_at hlt] at hc
          subst hc
          have hgo : outL t N p1 (zsB x W q1 cl) = outL t N (p1 + 1) (zsA x (1048576 * ssV (t p1) :: W) q1 cl) := outL_go hlt (ztB_s1 hT _ _ _ _ hm)
          have hop : opn (1048576 * ssV (t p1) :: W) = opn W := by rw [opn_u, if_neg (by omega)]; rfl
          refine pw_X1_readSum_23 hL _ _ _ _ M1 fun n3 h3 => ?_
          rw [I1.2.1.1, show w32 ((p1 : Int) + 1) = ((p1 + 1 : Nat) : Int) from ew32 (by omega) (by omega), ← hop]
          refine ih n3 (by omega) _ x (1048576 * ssV (t p1) :: W) q1 cl (p1 + 1) _ (I1.pl hL (by omega) (by omega) rfl) (by omega) (by
            show ¬ (4 ≤ cop (1048576 * ssV (t p1)) ∧ cop (1048576 * ssV (t p1)) ≤ 6)
            rw [cop_u]
            omega) ⟨fun f M2 g1 g2 z hz => ?_, fun p2 q2 M2 g1 g2 g3 g4 g5 z hz => ?_⟩
          · subst hz
            refine pc_X0_add hL _ _ M2 fun n4 _ => ?_
            have xb : ∀ (n : Nat) (d v : Int) (M3 : MM) (r : Int), lcX L f M0 M3 → PW sc n m_X1_readSum 7 [] [some (vr 22), some (vr L), some (vi d), some (vi 0), some (vi v), some (vi r)] M3 Q := fun n d v M3 r X => pw_X1_readSum_7 hL _ _ _ _ M3 fun n5 _ => brP (fun _ => gMB (K.1 f M3 ((ho.trans hgo).trans g1) X 0 rfl)) fun _ => brT rfl (gMB (K.1 f M3 ((ho.trans hgo).trans g1) X 0 rfl))
            refine brP (fun _ => xb n3 _ _ M2 _ g2) fun _ => gMB (gMB (xb n3 _ _ _ _ ⟨((g2.1.st hL (.inr (.inr (.inl rfl)))).st hL (.inr (.inr (.inr rfl)))).st hL (.inr (.inl ⟨rfl, rfl⟩)), ?_⟩))
            rw [stN (by omega), stN (by omega), stN (by omega)]
            exact g2.2
          · subst hz
            have hb2 := g2.2.2.2.2
            refine p_addC hL g2 (by omega) (x := 1048576 * ssV (t p1)) (by rw [cop_u, enO_ss (by omega)]) (fun z => by rw [cop_u] at z; omega) (fun z => by rw [cop_u] at z; omega) fun M3 I3 => ?_
            rw [hop, show w32 ((i : Int) + 1) = ((i + 1 : Nat) : Int) from ew32 (by omega) (by omega)]
            refine ihn n3 (by omega) (by omega) (i + 1) p2 (emC q2 (1048576 * ssV (t p1))) _ M3 (by omega) (by omega) ⟨by show p + (q2.1 + 1) ≤ p2 + q.1; omega, (hs.2.tr g4.2).em _⟩ g5 ?_ I3
            rw [ho, hgo, g1]
            refine outL_eq (by show (2 : Nat) ≠ 6; decide) (by show (2 : Nat) ≠ 6; decide) fun hlt2 => ztB_add hm _ _ _ _ _ ?_
            have g5 : ¬ (4 ≤ ssV (chL t N p2) ∧ ssV (chL t N p2) ≤ 6) := g5
            rw [chL_at hlt2] at g5
            exact g5
        refine brP (fun g => m23 (mm.mpr (.inl g))) fun g => brP (fun g2 => m23 (mm.mpr (.inr g2))) fun g2 => K.2 p1 q1 M1 ho I1 hp hs ?_ 1 rfl
        rw [hc] at mm hr g g2
        omega
  refine pc_X1_readSum hL _ M fun n1 h1 => ih n1 h1 _ x W q cl p M I hW hTM ⟨fun f M1 g1 g2 z hz => ?_, fun p1 q1 M1 g1 g2 g3 g4 g5 z hz => ?_⟩
  · subst hz
    exact pw_X1_readSum_7 hL _ _ _ _ M1 fun n5 _ => brP (fun _ => gMB (K.1 f M1 g1 g2 0 rfl)) fun _ => brT rfl (gMB (K.1 f M1 g1 g2 0 rfl))
  · subst hz
    exact lp n1 h1 0 p1 q1 none M1 g3 (by omega) g4 g5 g1 g2
set_option maxRecDepth 20000 in
theorem f_sumC (hL : L = 65 ∨ L = 73) (hN : M0 22 1 = (N : Int)) (ht : ∀ i, i < N → M0 23 i = t i) : ∀ n, sumP t L a off N M0 sc n ∧ termP t L a off N M0 sc n ∧ facP t L a off N M0 sc n := by
  intro n
  induction n using Nat.strongRecOn with
  | ind n ih => exact ⟨f_sum hL hN ht fun n1 h => (ih n1 h).2.1, f_term hL hN ht fun n1 h => (ih n1 h).2.2, f_fac hL hN ht fun n1 h => (ih n1 h).1⟩
end LCS
