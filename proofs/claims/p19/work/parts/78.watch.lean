/-! PART 78: WATCH: both sides by one function of the walks and the town -/
theorem pc_X11_watch {sc : List Int} {n : Nat} {Q : Vv → MM → Prop} (v1 : Int) (M : MM) (h : ∀ n1, n1 < n → PC sc n1 m_X11_isIn [vi v1, vi 0, vi 1] M (cI fun r2 M1 =>
  brA (decide (r2 ≠ 0))
   (gIm (decide (0 < M1 0 10)) (PC sc n1 m_X3_lookOut [vr 32, vr ((M1 0 10).toNat - 1), vr 3] M1 (fun _ M3 =>
    brA (decide ((M3 32 2) ≠ ((-1))))
     (brA (decide (v1 ≠ 0))
      (Q (vi (M3 32 1)) M3)
      (Q (vi (M3 32 2)) M3))
     (Q (vi ((-2))) M3))))
   (Q (vi ((-1))) M1))) : PC sc n m_X11_watch [vr 0, vi v1] M Q := pc_go rfl (fun j => false) 36 h
theorem pc_X3_lookOut {sc : List Int} {n : Nat} {T : Nat} (hT : T = 57 ∨ T = 61) {Q : Vv → MM → Prop}  (M : MM) (h : ∀ n1, n1 < n → PC sc n1 m_X3_countVisits [vr 32, vr T, vr 3] M (fun _ M1 =>
  PW sc n1 m_X3_lookOut 6 [] [some (vr 32), some (vr T), some (vr 3), some (vi 0), none] M1 Q)) : PC sc n m_X3_lookOut [vr 32, vr T, vr 3] M Q := by
  rcases hT with rfl | rfl <;> exact pc_go rfl (fun j => Nat.beq j 6 || Nat.beq j 25) 56 h
theorem pw_X3_lookOut_6 {sc : List Int} {n : Nat} {T : Nat} (hT : T = 57 ∨ T = 61) {Q : Vv → MM → Prop} (v3 : Int) (o4 : Option Vv) (M : MM) (h : ∀ n1, n1 < n → brA (decide (64 ≤ v3))
  (PC sc n1 m_X3_chooseMost [vr 32] M (fun _ M1 =>
   Q (vi 0) M1))
  (gIm (decide (0 ≤ v3) && decide (v3 < 64)) (PC sc n1 m_X9_at [vr T, vi v3] (stM M 34 (v3.toNat) ((-1))) (cI fun r3 M2 =>
   brA (decide (r3 ≠ 0))
    (PW sc n1 m_X3_lookOut 6 [] [some (vr 32), some (vr T), some (vr 3), some (vi (w32 (v3 + 1))), o4] M2 Q)
    (gIm (decide (0 ≤ v3) && decide (v3 < 64)) (PW sc n1 m_X3_lookOut 25 [] [some (vr 32), some (vr T), some (vr 3), some (vi v3), some (vi 0)] (stM M2 34 (v3.toNat) 0) Q)))))) : PW sc n m_X3_lookOut 6 [] [some (vr 32), some (vr T), some (vr 3), some (vi v3), o4] M Q := by
  rcases hT with rfl | rfl <;> exact pw_go rfl (fun j => Nat.beq j 6 || Nat.beq j 25) 56 h
theorem pw_X3_lookOut_25 {sc : List Int} {n : Nat} {T : Nat} (hT : T = 57 ∨ T = 61) {Q : Vv → MM → Prop} (v3 : Int) (v4 : Int) (M : MM) (h : ∀ n1, n1 < n → brA (decide (64 ≤ v4))
  (PW sc n1 m_X3_lookOut 6 [] [some (vr 32), some (vr T), some (vr 3), some (vi (w32 (v3 + 1))), some (vi v4)] M Q)
  (PC sc n1 m_X9_sees [vr T, vi v3, vi v4] M (cI fun r2 M1 =>
   brA (decide (r2 = 0))
    (PW sc n1 m_X3_lookOut 25 [] [some (vr 32), some (vr T), some (vr 3), some (vi v3), some (vi (w32 (v4 + 1)))] M1 Q)
    (gIm (decide (0 ≤ v3) && decide (v3 < 64)) (gIm (decide (0 ≤ v4) && decide (v4 < 64)) (gIm (decide (0 ≤ v3) && decide (v3 < 64)) (PW sc n1 m_X3_lookOut 25 [] [some (vr 32), some (vr T), some (vr 3), some (vi v3), some (vi (w32 (v4 + 1)))] (stM M1 34 (v3.toNat) (w32 ((M1 34 v3.toNat) + (M1 35 v4.toNat)))) Q))))))) : PW sc n m_X3_lookOut 25 [] [some (vr 32), some (vr T), some (vr 3), some (vi v3), some (vi v4)] M Q := by
  rcases hT with rfl | rfl <;> exact pw_go rfl (fun j => Nat.beq j 6 || Nat.beq j 25) 56 h
theorem pc_X3_countVisits {sc : List Int} {n : Nat} {T : Nat} (hT : T = 57 ∨ T = 61) {Q : Vv → MM → Prop}  (M : MM) (h : ∀ n1, n1 < n → PW sc n1 m_X3_countVisits 2 [] [some (vr 32), some (vr T), some (vr 3), some (vi 0), none, none] M Q) : PC sc n m_X3_countVisits [vr 32, vr T, vr 3] M Q := by
  rcases hT with rfl | rfl <;> exact pc_go rfl (fun j => Nat.beq j 2 || Nat.beq j 14 || Nat.beq j 32) 56 h
theorem pw_X3_countVisits_2 {sc : List Int} {n : Nat} {T : Nat} (hT : T = 57 ∨ T = 61) {Q : Vv → MM → Prop} (v3 : Int) (o4 : Option Vv) (o5 : Option Vv) (M : MM) (h : ∀ n1, n1 < n → brA (decide (64 ≤ v3))
  (PW sc n1 m_X3_countVisits 14 [] [some (vr 32), some (vr T), some (vr 3), some (vi 0), o4, o5] M Q)
  (gIm (decide (0 ≤ v3) && decide (v3 < 64)) (PW sc n1 m_X3_countVisits 2 [] [some (vr 32), some (vr T), some (vr 3), some (vi (w32 (v3 + 1))), o4, o5] (stM M 35 (v3.toNat) 0) Q))) : PW sc n m_X3_countVisits 2 [] [some (vr 32), some (vr T), some (vr 3), some (vi v3), o4, o5] M Q := by
  rcases hT with rfl | rfl <;> exact pw_go rfl (fun j => Nat.beq j 2 || Nat.beq j 14 || Nat.beq j 32) 56 h
theorem pw_X3_countVisits_14 {sc : List Int} {n : Nat} {T : Nat} (hT : T = 57 ∨ T = 61) {Q : Vv → MM → Prop} (v3 : Int) (o4 : Option Vv) (o5 : Option Vv) (M : MM) (h : ∀ n1, n1 < n → brA (decide (10 ≤ v3))
  (Q (vi 0) M)
  (gIm (decide (0 ≤ v3) && decide (v3 < 10)) (brA (decide ((M ((T + 2)) v3.toNat) = ((-1))))
   (PW sc n1 m_X3_countVisits 14 [] [some (vr 32), some (vr T), some (vr 3), some (vi (w32 (v3 + 1))), o4, o5] M Q)
   (PC sc n1 m_X10_trace [vr 3, vr T, vi v3, vr 36] M (cI fun r2 M1 =>
    PW sc n1 m_X3_countVisits 32 [] [some (vr 32), some (vr T), some (vr 3), some (vi v3), some (vi r2), some (vi 0)] M1 Q))))) : PW sc n m_X3_countVisits 14 [] [some (vr 32), some (vr T), some (vr 3), some (vi v3), o4, o5] M Q := by
  rcases hT with rfl | rfl <;> exact pw_go rfl (fun j => Nat.beq j 2 || Nat.beq j 14 || Nat.beq j 32) 56 h
theorem pw_X3_countVisits_32 {sc : List Int} {n : Nat} {T : Nat} (hT : T = 57 ∨ T = 61) {Q : Vv → MM → Prop} (v3 : Int) (v4 : Int) (v5 : Int) (M : MM) (h : ∀ n1, n1 < n → brA (decide (v4 < v5))
  (PW sc n1 m_X3_countVisits 14 [] [some (vr 32), some (vr T), some (vr 3), some (vi (w32 (v3 + 1))), some (vi v4), some (vi v5)] M Q)
  (gIm (decide (0 ≤ v5) && decide (v5 < 64)) (gIm (decide (0 ≤ (M 36 v5.toNat)) && decide ((M 36 v5.toNat) < 64)) (gIm (decide (0 ≤ (M 36 v5.toNat)) && decide ((M 36 v5.toNat) < 64)) (PW sc n1 m_X3_countVisits 32 [] [some (vr 32), some (vr T), some (vr 3), some (vi v3), some (vi v4), some (vi (w32 (v5 + 1)))] (stM M 35 ((M 36 v5.toNat).toNat) (w32 ((M 35 (M 36 v5.toNat).toNat) + 1))) Q))))) : PW sc n m_X3_countVisits 32 [] [some (vr 32), some (vr T), some (vr 3), some (vi v3), some (vi v4), some (vi v5)] M Q := by
  rcases hT with rfl | rfl <;> exact pw_go rfl (fun j => Nat.beq j 2 || Nat.beq j 14 || Nat.beq j 32) 56 h
theorem pc_X3_chooseMost {sc : List Int} {n : Nat} {Q : Vv → MM → Prop}  (M : MM) (h : ∀ n1, n1 < n → PW sc n1 m_X3_chooseMost 8 [] [some (vr 32), some (vi 0)] (stM (stM M 32 1 ((-1))) 32 2 ((-1))) Q) : PC sc n m_X3_chooseMost [vr 32] M Q := pc_go rfl (fun j => Nat.beq j 8) 35 h
theorem pw_X3_chooseMost_8 {sc : List Int} {n : Nat} {Q : Vv → MM → Prop} (v1 : Int) (M : MM) (h : ∀ n1, n1 < n → brA (decide (64 ≤ v1))
  (Q (vi 0) M)
  (gIm (decide (0 ≤ v1) && decide (v1 < 64)) (brA (decide ((M 34 v1.toNat) ≤ (M 32 1)))
   (PW sc n1 m_X3_chooseMost 8 [] [some (vr 32), some (vi (w32 (v1 + 1)))] M Q)
   (gIm (decide (0 ≤ v1) && decide (v1 < 64)) (PW sc n1 m_X3_chooseMost 8 [] [some (vr 32), some (vi (w32 (v1 + 1)))] (stM (stM M 32 1 (M 34 v1.toNat)) 32 2 v1) Q))))) : PW sc n m_X3_chooseMost 8 [] [some (vr 32), some (vi v1)] M Q := pw_go rfl (fun j => Nat.beq j 8) 35 h
theorem pc_X12_watch {sc : List Int} {n : Nat} {Q : Vv → MM → Prop} (v1 : Int) (M : MM) (h : ∀ n1, n1 < n → PC sc n1 m_X12_in [vi v1, vi 0, vi 1] M (cI fun r2 M1 =>
  brA (decide (r2 ≠ 0))
   (PW sc n1 m_X12_watch 13 [] [some (vr 81), some (vi v1), some (vi ((-2))), some (vi ((-1))), some (vi 0), none] M1 Q)
   (Q (vi ((-1))) M1))) : PC sc n m_X12_watch [vr 81, vi v1] M Q := pc_go rfl (fun j => Nat.beq j 13) 50 h
theorem pw_X12_watch_13 {sc : List Int} {n : Nat} {Q : Vv → MM → Prop} (v1 : Int) (v2 : Int) (v3 : Int) (v4 : Int) (o5 : Option Vv) (M : MM) (h : ∀ n1, n1 < n → brA (decide (64 ≤ v4))
  (brA (decide (v1 = 0))
   (Q (vi v2) M)
   (brA (decide (v2 ≠ ((-2))))
    (Q (vi v3) M)
    (Q (vi v2) M)))
  (gIm (decide (0 ≤ v4) && decide (v4 < 64)) (brA (decide ((M 85 v4.toNat) = 0))
   (PC sc n1 m_X12_watchedFrom [vr 81, vi v4] M (cI fun r2 M1 =>
    brA (decide (v3 < r2))
     (PW sc n1 m_X12_watch 13 [] [some (vr 81), some (vi v1), some (vi v4), some (vi r2), some (vi (w32 (v4 + 1))), some (vi r2)] M1 Q)
     (PW sc n1 m_X12_watch 13 [] [some (vr 81), some (vi v1), some (vi v2), some (vi v3), some (vi (w32 (v4 + 1))), some (vi r2)] M1 Q)))
   (PW sc n1 m_X12_watch 13 [] [some (vr 81), some (vi v1), some (vi v2), some (vi v3), some (vi (w32 (v4 + 1))), o5] M Q)))) : PW sc n m_X12_watch 13 [] [some (vr 81), some (vi v1), some (vi v2), some (vi v3), some (vi v4), o5] M Q := pw_go rfl (fun j => Nat.beq j 13) 50 h
theorem pc_X12_watchedFrom {sc : List Int} {n : Nat} {Q : Vv → MM → Prop} (v1 : Int) (M : MM) (h : ∀ n1, n1 < n → PW sc n1 m_X12_watchedFrom 4 [] [some (vr 81), some (vi v1), some (vi 0), some (vi 0), none, none] M Q) : PC sc n m_X12_watchedFrom [vr 81, vi v1] M Q := pc_go rfl (fun j => Nat.beq j 4 || Nat.beq j 19 || Nat.beq j 41) 63 h
theorem pw_X12_watchedFrom_4 {sc : List Int} {n : Nat} {Q : Vv → MM → Prop} (v1 : Int) (v2 : Int) (v3 : Int) (o4 : Option Vv) (o5 : Option Vv) (M : MM) (h : ∀ n1, n1 < n → brA (decide (10 ≤ v3))
  (Q (vi v2) M)
  (PC sc n1 m_X12_hasSpot [vr 81, vi v3] M (cI fun r2 M1 =>
   brA (decide (r2 ≠ 0))
    (gIm (decide (0 ≤ v3) && decide (v3 < 10)) (PW sc n1 m_X12_watchedFrom 19 [] [some (vr 81), some (vi v1), some (vi v2), some (vi v3), some (vi (M1 86 v3.toNat)), some (vi 0)] M1 Q))
    (PW sc n1 m_X12_watchedFrom 4 [] [some (vr 81), some (vi v1), some (vi v2), some (vi (w32 (v3 + 1))), o4, o5] M1 Q)))) : PW sc n m_X12_watchedFrom 4 [] [some (vr 81), some (vi v1), some (vi v2), some (vi v3), o4, o5] M Q := pw_go rfl (fun j => Nat.beq j 4 || Nat.beq j 19 || Nat.beq j 41) 63 h
theorem pw_X12_watchedFrom_19 {sc : List Int} {n : Nat} {Q : Vv → MM → Prop} (v1 : Int) (v2 : Int) (v3 : Int) (v4 : Int) (v5 : Int) (M : MM) (h : ∀ n1, n1 < n → gIm (decide (0 ≤ v3) && decide (v3 < 10)) (brA (decide ((M 88 v3.toNat) < v5))
  (PW sc n1 m_X12_watchedFrom 4 [] [some (vr 81), some (vi v1), some (vi v2), some (vi (w32 (v3 + 1))), some (vi v4), some (vi v5)] M Q)
  (brA (decide (v5 ≤ 0))
   (PW sc n1 m_X12_watchedFrom 41 [] [some (vr 81), some (vi v1), some (vi v2), some (vi v3), some (vi v4), some (vi v5)] M Q)
   (gIm (decide (0 ≤ (w32 ((w32 ((w32 (60 * v3)) + v5)) - 1))) && decide ((w32 ((w32 ((w32 (60 * v3)) + v5)) - 1)) < 600)) (PC sc n1 m_X12_stepTo [vr 81, vi v4, vi (M 89 (w32 ((w32 ((w32 (60 * v3)) + v5)) - 1)).toNat)] M (cI fun r2 M1 =>
    PW sc n1 m_X12_watchedFrom 41 [] [some (vr 81), some (vi v1), some (vi v2), some (vi v3), some (vi r2), some (vi v5)] M1 Q)))))) : PW sc n m_X12_watchedFrom 19 [] [some (vr 81), some (vi v1), some (vi v2), some (vi v3), some (vi v4), some (vi v5)] M Q := pw_go rfl (fun j => Nat.beq j 4 || Nat.beq j 19 || Nat.beq j 41) 63 h
theorem pw_X12_watchedFrom_41 {sc : List Int} {n : Nat} {Q : Vv → MM → Prop} (v1 : Int) (v2 : Int) (v3 : Int) (v4 : Int) (v5 : Int) (M : MM) (h : ∀ n1, n1 < n → PC sc n1 m_X12_isSeen [vr 81, vi v1, vi v4] M (cI fun r2 M1 =>
  brA (decide (r2 = 0))
   (PW sc n1 m_X12_watchedFrom 19 [] [some (vr 81), some (vi v1), some (vi (w32 (v2 + 0))), some (vi v3), some (vi v4), some (vi (w32 (v5 + 1)))] M1 Q)
   (PW sc n1 m_X12_watchedFrom 19 [] [some (vr 81), some (vi v1), some (vi (w32 (v2 + 1))), some (vi v3), some (vi v4), some (vi (w32 (v5 + 1)))] M1 Q))) : PW sc n m_X12_watchedFrom 41 [] [some (vr 81), some (vi v1), some (vi v2), some (vi v3), some (vi v4), some (vi v5)] M Q := pw_go rfl (fun j => Nat.beq j 4 || Nat.beq j 19 || Nat.beq j 41) 63 h
def posL (f : Nat → Int) (n : Nat) : List Int := match n with
  | 0 => []
  | n + 1 => posL f n ++ [f n]
/- where all houses' walkers are, minute by minute -/
def allL (F : Nat → Nat → Int) (sz : Nat → Nat) (A : Nat → Int) (h : Nat) : List Int := match h with
  | 0 => []
  | h + 1 => if 0 ≤ A h then allL F sz A h ++ posL (F h) (sz h + 1) else allL F sz A h
def cnV (P : List Int) (g : Nat) : Int := match P with
  | [] => 0
  | x :: P => cnV P g + (if x = (g : Int) then 1 else 0)
def snV (B : Int → Bool) (P : List Int) : Int := match P with
  | [] => 0
  | x :: P => snV B P + (if B x = true then 1 else 0)
def smV (B : Int → Bool) (P : List Int) (n : Nat) : Int := match n with
  | 0 => 0
  | n + 1 => smV B P n + (if B (n : Int) = true then cnV P n else 0)
theorem cnV_sn (x : Int) (g : Nat) : ∀ P : List Int, cnV (P ++ [x]) g = cnV P g + (if x = (g : Int) then 1 else 0)
  | [] => rfl
  | y :: P => by
    show cnV (P ++ [x]) g + _ = cnV P g + _ + _
    rw [cnV_sn x g P]
    omega
theorem snV_sn (B : Int → Bool) (x : Int) : ∀ P : List Int, snV B (P ++ [x]) = snV B P + (if B x = true then 1 else 0)
  | [] => rfl
  | y :: P => by
    show snV B (P ++ [x]) + _ = snV B P + _ + _
    rw [snV_sn B x P]
    omega
theorem cnV_r (g : Nat) : ∀ P : List Int, 0 ≤ cnV P g ∧ cnV P g ≤ (P.length : Int)
  | [] => ⟨Int.le_refl _, Int.le_refl _⟩
  | y :: P => by
    have := cnV_r g P
    show 0 ≤ cnV P g + (if y = (g : Int) then 1 else 0) ∧ cnV P g + (if y = (g : Int) then 1 else 0) ≤ ((P.length + 1 : Nat) : Int)
    split <;> omega
theorem snV_r (B : Int → Bool) : ∀ P : List Int, 0 ≤ snV B P ∧ snV B P ≤ (P.length : Int)
  | [] => ⟨Int.le_refl _, Int.le_refl _⟩
  | y :: P => by
    have := snV_r B P
    show 0 ≤ snV B P + (if B y = true then 1 else 0) ∧ snV B P + (if B y = true then 1 else 0) ≤ ((P.length + 1 : Nat) : Int)
    split <;> omega
theorem smV_c (B : Int → Bool) (x : Int) (P : List Int) : ∀ n : Nat, smV B (x :: P) n = smV B P n + (if (0 ≤ x ∧ x < (n : Int)) ∧ B x = true then 1 else 0)
  | 0 => by
    show (0 : Int) = 0 + _
    rw [if_neg (by omega)]
    rfl
  | n + 1 => by
    show smV B (x :: P) n + (if B (n : Int) = true then cnV P n + (if x = (n : Int) then 1 else 0) else 0) = smV B P n + (if B (n : Int) = true then cnV P n else 0) + _
    rw [smV_c B x P n]
    by_cases e : x = (n : Int)
    · subst e
      rw [if_pos rfl, if_neg (by omega)]
      by_cases b : B (n : Int) = true
      · rw [if_pos b, if_pos b, if_pos ⟨by omega, b⟩]
        omega
      · rw [if_neg b, if_neg b, if_neg fun z => b z.2]
    · rw [if_neg e]
      by_cases b : B x = true ∧ 0 ≤ x ∧ x < (n : Int)
      · rw [if_pos ⟨b.2, b.1⟩, if_pos (show (0 ≤ x ∧ x < ((n + 1 : Nat) : Int)) ∧ B x = true from ⟨by omega, b.1⟩)]
        split <;> omega
      · rw [if_neg fun z => b ⟨z.2, z.1⟩, if_neg (show ¬ ((0 ≤ x ∧ x < ((n + 1 : Nat) : Int)) ∧ B x = true) from fun z => b ⟨z.2, by omega⟩)]
        split <;> omega
theorem smV_64 (B : Int → Bool) : ∀ P : List Int, (∀ x, x ∈ P → 0 ≤ x ∧ x ≤ 63) → smV B P 64 = snV B P
  | [], _ => by
    have : ∀ n, smV B [] n = 0 := by
      intro n
      induction n with
      | zero => rfl
      | succ n ih =>
        show smV B [] n + (if B (n : Int) = true then cnV [] n else 0) = 0
        rw [ih]
        split <;> rfl
    exact this 64
  | x :: P, h => by
    have hx := h x (.head _)
    rw [smV_c, smV_64 B P fun y hy => h y (.tail _ hy)]
    show snV B P + _ = snV B P + _
    by_cases b : B x = true
    · rw [if_pos ⟨by omega, b⟩, if_pos b]
    · rw [if_neg fun z => b z.2, if_neg b]
theorem smV_r (B : Int → Bool) (P : List Int) : ∀ n : Nat, n ≤ 64 → 0 ≤ smV B P n ∧ smV B P n ≤ n * (P.length : Int)
  | 0, _ => ⟨Int.le_refl _, by show (0 : Int) ≤ ((0 : Nat) : Int) * _; rw [show ((0 : Nat) : Int) = 0 from rfl, Int.zero_mul]; exact Int.le_refl _⟩
  | n + 1, h => by
    have i := smV_r B P n (by omega)
    have c := cnV_r n P
    show 0 ≤ smV B P n + (if B (n : Int) = true then cnV P n else 0) ∧ smV B P n + (if B (n : Int) = true then cnV P n else 0) ≤ ((n + 1 : Nat) : Int) * (P.length : Int)
    rw [show ((n + 1 : Nat) : Int) * (P.length : Int) = (n : Int) * (P.length : Int) + (P.length : Int) by rw [show ((n + 1 : Nat) : Int) = (n : Int) + 1 from rfl, Int.add_mul, Int.one_mul]]
    split <;> omega
theorem posL_l (f : Nat → Int) : ∀ n, (posL f n).length = n
  | 0 => rfl
  | n + 1 => by
    show (posL f n ++ [f n]).length = n + 1
    rw [List.length_append, posL_l f n]
    rfl
theorem posL_m {f : Nat → Int} (h : ∀ i, 0 ≤ f i ∧ f i ≤ 63) : ∀ n x, x ∈ posL f n → 0 ≤ x ∧ x ≤ 63
  | 0, x, hx => by cases hx
  | n + 1, x, hx => by
    rcases List.mem_append.mp hx with q | q
    · exact posL_m h n x q
    · cases q with
      | head => exact h n
      | tail _ q => cases q
theorem allL_s (F : Nat → Nat → Int) (sz : Nat → Nat) (A : Nat → Int) (h : Nat) : allL F sz A (h + 1) = if 0 ≤ A h then allL F sz A h ++ posL (F h) (sz h + 1) else allL F sz A h := rfl
theorem allL_l {F : Nat → Nat → Int} {sz : Nat → Nat} {A : Nat → Int} (hs : ∀ h, sz h ≤ 60) : ∀ h, (allL F sz A h).length ≤ 61 * h
  | 0 => Nat.le_refl _
  | h + 1 => by
    have := allL_l (F := F) (A := A) hs h
    have := hs h
    rw [allL_s]
    split
    · rw [List.length_append, posL_l]
      omega
    · omega
theorem allL_m {F : Nat → Nat → Int} {sz : Nat → Nat} {A : Nat → Int} (hF : ∀ h, 0 ≤ A h → ∀ i, 0 ≤ F h i ∧ F h i ≤ 63) : ∀ h x, x ∈ allL F sz A h → 0 ≤ x ∧ x ≤ 63
  | 0, x, hx => by cases hx
  | h + 1, x, hx => by
    rw [allL_s] at hx
    by_cases c : 0 ≤ A h
    · rw [if_pos c] at hx
      rcases List.mem_append.mp hx with q | q
      · exact allL_m hF h x q
      · exact posL_m (hF h c) _ x q
    · rw [if_neg c] at hx
      exact allL_m hF h x hx
theorem allL_0 {F : Nat → Nat → Int} {sz : Nat → Nat} {A : Nat → Int} : ∀ h, (∀ g, g < h → A g < 0) → allL F sz A h = []
  | 0, _ => rfl
  | h + 1, k => by
    rw [allL_s, if_neg (by have := k h (by omega); omega)]
    exact allL_0 h fun g hg => k g (by omega)
/- the most, and the first spot that has it -/
def chM (A : Nat → Int) (n : Nat) : Int × Int := match n with
  | 0 => (-1, -1)
  | n + 1 => if A n ≤ (chM A n).1 then chM A n else (A n, (n : Int))
theorem chM_s (A : Nat → Int) (n : Nat) : chM A (n + 1) = if A n ≤ (chM A n).1 then chM A n else (A n, (n : Int)) := rfl
theorem chM_r (A : Nat → Int) : ∀ n, -1 ≤ (chM A n).1 ∧ -1 ≤ (chM A n).2
  | 0 => ⟨Int.le_refl _, Int.le_refl _⟩
  | n + 1 => by
    have := chM_r A n
    rw [chM_s]
    split
    · exact this
    · exact ⟨by show -1 ≤ A n; omega, by show -1 ≤ (n : Int); omega⟩
theorem chM_eq {A A' : Nat → Int} : ∀ n, (∀ s, s < n → A s = A' s) → chM A n = chM A' n
  | 0, _ => rfl
  | n + 1, h => by rw [chM_s, chM_s, chM_eq n fun s hs => h s (by omega), h n (by omega)]
def waV (K : Nat → Int) (P : List Int) (what : Int) : Int := if 0 ≤ what ∧ what ≤ 1 then (if (chM (fun s => if K s = 0 then snV (seeB K s) P else -1) 64).2 = -1 then -2 else if what = 0 then (chM (fun s => if K s = 0 then snV (seeB K s) P else -1) 64).2 else (chM (fun s => if K s = 0 then snV (seeB K s) P else -1) 64).1) else -1
section WAT
variable {sc : List Int} {Q : Vv → MM → Prop} {T : Nat}
set_option maxRecDepth 20000 in
theorem f_choose {A : Nat → Int} {M : MM} (hA : ∀ s, s < 64 → M 34 s = A s) {n : Nat} (k : ∀ M1, M1 32 1 = (chM A 64).1 → M1 32 2 = (chM A 64).2 → Q (vi 0) M1) : PC sc n m_X3_chooseMost [vr 32] M Q := by
  have lp : ∀ (m i n : Nat) (M1 : MM), i + m = 64 → (∀ s, s < 64 → M1 34 s = A s) → M1 32 1 = (chM A i).1 → M1 32 2 = (chM A i).2 → PW sc n m_X3_chooseMost 8 [] [some (vr 32), some (vi (i : Int))] M1 Q := by
    intro m
    induction m with
    | zero =>
      intro i n M1 hi a1 a2 a3
      have hi : i = 64 := hi
      subst hi
      exact pw_X3_chooseMost_8 _ M1 fun n2 _ => brT (by decide) (k M1 a2 a3)
    | succ m ih =>
      intro i n M1 hi a1 a2 a3
      refine pw_X3_chooseMost_8 _ M1 fun n2 _ => ?_
      rw [show ((i : Int)).toNat = i by omega, a1 i (by omega), a2, show w32 ((i : Int) + 1) = ((i + 1 : Nat) : Int) from ew32 (by omega) (by omega)]
      refine brF (by omega) (gMB (brP (fun g => ?_) fun g => gMB ?_))
      · refine ih (i + 1) n2 M1 (by omega) a1 ?_ ?_
        · rw [chM_s, if_pos g]
          exact a2
        · rw [chM_s, if_pos g]
          exact a3
      · refine ih (i + 1) n2 _ (by omega) (fun s hs => (stN (by decide)).trans ((stN (by decide)).trans (a1 s hs))) ?_ ?_
        · rw [chM_s, if_neg g]
          exact (stO (by decide)).trans stE
        · rw [chM_s, if_neg g]
          exact stE
  exact pc_X3_chooseMost M fun n1 _ => lp 64 0 n1 _ rfl (fun s hs => (stN (by decide)).trans ((stN (by decide)).trans (hA s hs))) ((stO (by decide)).trans stE) stE
/- the class counts where all walkers are -/
set_option maxRecDepth 20000 in
theorem f_visits (hT : T = 57 ∨ T = 61) {F : Nat → Nat → Int} {sz : Nat → Nat} {A : Nat → Int} {M : MM} (hr : ∀ g, g < 10 → (M (T + 2) g = -1 ∧ A g < 0) ∨ (M (T + 2) g = A g ∧ 0 ≤ A g ∧ A g ≤ 63)) (h4 : ∀ g, g < 10 → M 4 g = (sz g : Int)) (hsz : ∀ g, sz g ≤ 60) (hD : ∀ g, g < 10 → ∀ i, 0 ≤ M (6 + g) i ∧ M (6 + g) i ≤ 4) (hF : ∀ g, g < 10 → ∀ i, F g i = posV (M (T + 1)) (M (6 + g)) (sz g) (A g) i) {n : Nat} (k : ∀ M1, (∀ c, c ≠ 35 → c ≠ 36 → M1 c = M c) → (∀ g, g < 64 → M1 35 g = cnV (allL F sz A 10) g) → Q (vi 0) M1) : PC sc n m_X3_countVisits [vr 32, vr T, vr 3] M Q := by
  have main : ∀ (m h n : Nat) (o4 o5 : Option Vv) (M1 : MM), h + m = 10 → (∀ c, c ≠ 35 → c ≠ 36 → M1 c = M c) → (∀ g, g < 64 → M1 35 g = cnV (allL F sz A h) g) → PW sc n m_X3_countVisits 14 [] [some (vr 32), some (vr T), some (vr 3), some (vi (h : Int)), o4, o5] M1 Q := by
    intro m
    induction m with
    | zero =>
      intro h n o4 o5 M1 hh a1 a2
      have hh : h = 10 := hh
      subst hh
      exact pw_X3_countVisits_14 hT _ o4 o5 M1 fun n2 _ => brT (by decide) (k M1 a1 a2)
    | succ m ih =>
      intro h n o4 o5 M1 hh a1 a2
      have h10 : h < 10 := by omega
      have hrh := hr h h10
      have hszh := hsz h
      refine pw_X3_countVisits_14 hT _ o4 o5 M1 fun n2 _ => ?_
      rw [show ((h : Int)).toNat = h by omega, a1 (T + 2) (by omega) (by omega), show w32 ((h : Int) + 1) = ((h + 1 : Nat) : Int) from ew32 (by omega) (by omega)]
      refine brF (by omega) (gMB (brP (fun g => ih (h + 1) n2 _ _ M1 (by omega) a1 fun s hs => ?_) fun g => ?_))
      · rw [allL_s, if_neg (by omega)]
        exact a2 s hs
      · have hA : M (T + 2) h = A h ∧ 0 ≤ A h ∧ A h ≤ 63 := by omega
        have lp : ∀ (m i n : Nat) (M2 : MM), i + m = sz h + 1 → (∀ c, c ≠ 35 → c ≠ 36 → M2 c = M c) → (∀ j, j ≤ sz h → M2 36 j = F h j) → (∀ g, g < 64 → M2 35 g = cnV (allL F sz A h ++ posL (F h) i) g) → PW sc n m_X3_countVisits 32 [] [some (vr 32), some (vr T), some (vr 3), some (vi (h : Int)), some (vi (sz h : Int)), some (vi (i : Int))] M2 Q := by
          intro m
          induction m with
          | zero =>
            intro i n M2 hi b1 b2 b3
            refine pw_X3_countVisits_32 hT _ _ _ M2 fun n3 _ => ?_
            rw [show w32 ((h : Int) + 1) = ((h + 1 : Nat) : Int) from ew32 (by omega) (by omega)]
            refine brT (by omega) (ih (h + 1) n3 _ _ M2 (by omega) b1 fun s hs => ?_)
            rw [allL_s, if_pos hA.2.1, show sz h + 1 = i by omega]
            exact b3 s hs
          | succ m ih2 =>
            intro i n M2 hi b1 b2 b3
            refine pw_X3_countVisits_32 hT _ _ _ M2 fun n3 _ => ?_
            have hp : 0 ≤ F h i ∧ F h i ≤ 63 := by
              rw [hF h h10]
              exact posV_r hA.2 i
            have hc := cnV_r (F h i).toNat (allL F sz A h ++ posL (F h) i)
            have hl := allL_l (F := F) (sz := sz) (A := A) hsz h
            have hll : (allL F sz A h ++ posL (F h) i).length = (allL F sz A h).length + i := by rw [List.length_append, posL_l]
            rw [show ((i : Int)).toNat = i by omega, b2 i (by omega), b3 _ (by omega), show w32 ((i : Int) + 1) = ((i + 1 : Nat) : Int) from ew32 (by omega) (by omega), show w32 (cnV (allL F sz A h ++ posL (F h) i) (F h i).toNat + 1) = cnV (allL F sz A h ++ posL (F h) i) (F h i).toNat + 1 from ew32 (by omega) (by omega)]
            refine brF (by omega) (gMB (gMB (gMB (ih2 (i + 1) n3 _ (by omega) (fun c c1 c2 => (stK c1).trans (b1 c c1 c2)) (fun j hj => (stN (by decide)).trans (b2 j hj)) fun s hs => ?_))))
            show _ = cnV (allL F sz A h ++ (posL (F h) i ++ [F h i])) s
            rw [← List.append_assoc, cnV_sn]
            by_cases e : s = (F h i).toNat
            · rw [e, stE, if_pos (by omega)]
            · rw [stO e, b3 s hs, if_neg (by omega)]
              omega
        refine f_trace hT h10 (.inr (.inr rfl)) (a := A h) (sz := sz h) hA.2 (by rw [a1 (T + 2) (by omega) (by omega)]; exact hA.1) (by rw [a1 4 (by decide) (by decide)]; exact h4 h h10) hszh (by rw [a1 (6 + h) (by omega) (by omega)]; exact hD h h10) fun M2 f2 p2 => cI_i ?_
        rw [a1 (T + 1) (by omega) (by omega), a1 (6 + h) (by omega) (by omega)] at p2
        exact lp (sz h + 1) 0 n2 M2 (Nat.zero_add _) (fun c c1 c2 => (f2 c c2).trans (a1 c c1 c2)) (fun j hj => by rw [hF h h10]; exact p2 j hj) fun g hg => by
          rw [f2 35 (by decide)]
          show M1 35 g = cnV (allL F sz A h ++ []) g
          rw [List.append_nil]
          exact a2 g hg
  have clr : ∀ (m i n : Nat) (M1 : MM), i + m = 64 → (∀ c, c ≠ 35 → c ≠ 36 → M1 c = M c) → (∀ g, g < i → M1 35 g = 0) → PW sc n m_X3_countVisits 2 [] [some (vr 32), some (vr T), some (vr 3), some (vi (i : Int)), none, none] M1 Q := by
    intro m
    induction m with
    | zero =>
      intro i n M1 hi a1 a2
      have hi : i = 64 := hi
      subst hi
      exact pw_X3_countVisits_2 hT _ _ _ M1 fun n2 _ => brT (by decide) (main 10 0 n2 _ _ M1 rfl a1 a2)
    | succ m ih =>
      intro i n M1 hi a1 a2
      refine pw_X3_countVisits_2 hT _ _ _ M1 fun n2 _ => ?_
      rw [show ((i : Int)).toNat = i by omega, show w32 ((i : Int) + 1) = ((i + 1 : Nat) : Int) from ew32 (by omega) (by omega)]
      refine brF (by omega) (gMB (ih (i + 1) n2 _ (by omega) (fun c c1 c2 => (stK c1).trans (a1 c c1 c2)) fun g hg => ?_))
      by_cases e : g = i
      · subst e
        exact stE
      · exact (stO e).trans (a2 g (by omega))
  exact pc_X3_countVisits hT M fun n1 _ => clr 64 0 n1 M rfl (fun _ _ _ => rfl) fun g hg => absurd hg (Nat.not_lt_zero g)
set_option maxRecDepth 20000 in
theorem f_watchC (hT : T = 57 ∨ T = 61) {F : Nat → Nat → Int} {sz : Nat → Nat} {A : Nat → Int} {M : MM} {w : Int} (e10 : M 0 10 = (T : Int) + 1) (hr : ∀ g, g < 10 → (M (T + 2) g = -1 ∧ A g < 0) ∨ (M (T + 2) g = A g ∧ 0 ≤ A g ∧ A g ≤ 63)) (h4 : ∀ g, g < 10 → M 4 g = (sz g : Int)) (hsz : ∀ g, sz g ≤ 60) (hD : ∀ g, g < 10 → ∀ i, 0 ≤ M (6 + g) i ∧ M (6 + g) i ≤ 4) (hF : ∀ g, g < 10 → ∀ i, F g i = posV (M (T + 1)) (M (6 + g)) (sz g) (A g) i) (hP : ∀ x, x ∈ allL F sz A 10 → 0 ≤ x ∧ x ≤ 63) (hS : allL F sz A 10 = [] ∨ ∀ f t : Nat, f < 64 → t < 64 → bil (M (T + 3) f) t = seeB (M (T + 1)) f t) {n : Nat} (k : ∀ M1, Q (vi (waV (M (T + 1)) (allL F sz A 10) w)) M1) : PC sc n m_X11_watch [vr 0, vi w] M Q := by
  obtain ⟨P, hPe⟩ : ∃ P, P = allL F sz A 10 := ⟨_, rfl⟩
  obtain ⟨K, hK⟩ : ∃ K, K = M (T + 1) := ⟨_, rfl⟩
  have hPl : P.length ≤ 610 := by rw [hPe]; exact allL_l hsz 10
  unfold waV at k
  refine pc_X11_watch w M fun n1 _ => p_isIn (fun g x hx => cI_i (brF (by omega) ?_)) fun g x hx => cI_i (brT (by omega) ?_)
  · have k := k M
    rw [if_neg g] at k
    exact k
  rw [if_pos g] at k
  rw [e10, show ((T : Int) + 1).toNat - 1 = T by omega]
  refine gMB (pc_X3_lookOut hT M fun n2 _ => f_visits hT hr h4 hsz hD hF fun M1 f1 v1 => ?_)
  rw [← hPe] at k v1 hP hS
  rw [← hK] at k hS
  have fin : ∀ (n : Nat) (M2 : MM) (Q' : Vv → MM → Prop), (∀ s, s < 64 → M2 34 s = if K s = 0 then snV (seeB K s) P else -1) → (∀ M3, M3 32 1 = (chM (fun s => if K s = 0 then snV (seeB K s) P else -1) 64).1 → M3 32 2 = (chM (fun s => if K s = 0 then snV (seeB K s) P else -1) 64).2 → Q' (vi 0) M3) → PC sc n m_X3_chooseMost [vr 32] M2 Q' := fun n M2 Q' h34 k2 => f_choose h34 k2
  have out : ∀ (m s n : Nat) (o4 : Option Vv) (M2 : MM) (Q' : Vv → MM → Prop), s + m = 64 → (∀ c, c ≠ 34 → c ≠ 35 → c ≠ 36 → M2 c = M c) → (∀ g, g < 64 → M2 35 g = cnV P g) → (∀ s', s' < s → M2 34 s' = if K s' = 0 then snV (seeB K s') P else -1) → (∀ M3, M3 32 1 = (chM (fun s => if K s = 0 then snV (seeB K s) P else -1) 64).1 → M3 32 2 = (chM (fun s => if K s = 0 then snV (seeB K s) P else -1) 64).2 → Q' (vi 0) M3) → PW sc n m_X3_lookOut 6 [] [some (vr 32), some (vr T), some (vr 3), some (vi (s : Int)), o4] M2 Q' := by
    intro m
    induction m with
    | zero =>
      intro s n o4 M2 Q' hs a1 a2 a3 k2
      have hs : s = 64 := hs
      subst hs
      exact pw_X3_lookOut_6 hT _ o4 M2 fun n3 _ => brT (by decide) (fin n3 M2 _ a3 k2)
    | succ m ih =>
      intro s n o4 M2 Q' hs a1 a2 a3 k2
      refine pw_X3_lookOut_6 hT _ o4 M2 fun n3 _ => ?_
      rw [show ((s : Int)).toNat = s by omega, show w32 ((s : Int) + 1) = ((s + 1 : Nat) : Int) from ew32 (by omega) (by omega)]
      refine brF (by omega) (gMB (pc_X9_at hT _ _ fun n4 _ => brF (by omega) (brF (by omega) (gMB (cI_i ?_)))))
      rw [show ((s : Int)).toNat = s by omega, stN (k := 34) (k' := T + 1) (by omega), a1 (T + 1) (by omega) (by omega) (by omega), ← hK]
      have nxt : ∀ (n : Nat) (o4 : Option Vv) (M3 : MM), (∀ c, c ≠ 34 → c ≠ 35 → c ≠ 36 → M3 c = M c) → (∀ g, g < 64 → M3 35 g = cnV P g) → (∀ s', s' < s → M3 34 s' = if K s' = 0 then snV (seeB K s') P else -1) → (M3 34 s = if K s = 0 then snV (seeB K s) P else -1) → PW sc n m_X3_lookOut 6 [] [some (vr 32), some (vr T), some (vr 3), some (vi ((s + 1 : Nat) : Int)), o4] M3 Q' := fun n o4 M3 b1 b2 b3 b4 => ih (s + 1) n o4 M3 Q' (by omega) b1 b2 (fun s' hs' => by
        by_cases e : s' = s
        · subst e
          exact b4
        · exact b3 s' (by omega)) k2
      refine brP (fun g => nxt n3 _ _ (fun c c1 c2 c3 => (stK c1).trans (a1 c c1 c2 c3)) (fun g hg => (stN (by decide)).trans (a2 g hg)) (fun s' hs' => (stO (by omega)).trans (a3 s' hs')) ?_) fun g => gMB ?_
      · rw [stE, if_neg g]
      · have g0 : K s = 0 := Classical.not_not.mp g
        have inn : ∀ (m i n : Nat) (M3 : MM), i + m = 64 → (∀ c, c ≠ 34 → c ≠ 35 → c ≠ 36 → M3 c = M c) → (∀ g, g < 64 → M3 35 g = cnV P g) → (∀ s', s' < s → M3 34 s' = if K s' = 0 then snV (seeB K s') P else -1) → M3 34 s = smV (seeB K s) P i → PW sc n m_X3_lookOut 25 [] [some (vr 32), some (vr T), some (vr 3), some (vi (s : Int)), some (vi (i : Int))] M3 Q' := by
          intro m
          induction m with
          | zero =>
            intro i n M3 hi b1 b2 b3 b4
            have hi : i = 64 := hi
            subst hi
            refine pw_X3_lookOut_25 hT _ _ M3 fun n5 _ => ?_
            rw [show w32 ((s : Int) + 1) = ((s + 1 : Nat) : Int) from ew32 (by omega) (by omega)]
            refine brT (by decide) (nxt n5 _ M3 b1 b2 b3 ?_)
            rw [if_pos g0, b4, smV_64 _ _ hP]
          | succ m ih2 =>
            intro i n M3 hi b1 b2 b3 b4
            refine pw_X3_lookOut_25 hT _ _ M3 fun n5 _ => ?_
            have hsr := smV_r (seeB K s) P i (by omega)
            have hc := cnV_r i P
            have hml : (i : Int) * (P.length : Int) ≤ 64 * 610 := Int.mul_le_mul (by omega) (by omega) (by omega) (by decide)
            rw [show ((i : Int)).toNat = i by omega, show ((s : Int)).toNat = s by omega, show w32 ((i : Int) + 1) = ((i + 1 : Nat) : Int) from ew32 (by omega) (by omega)]
            have no : (seeB K s (i : Int) = false ∨ cnV P i = 0) → PW sc n5 m_X3_lookOut 25 [] [some (vr 32), some (vr T), some (vr 3), some (vi (s : Int)), some (vi ((i + 1 : Nat) : Int))] M3 Q' := fun z => ih2 (i + 1) n5 M3 (by omega) b1 b2 b3 (by
              rw [b4]
              show _ = smV (seeB K s) P i + (if seeB K s (i : Int) = true then cnV P i else 0)
              rcases z with z | z
              · rw [z, if_neg (by decide)]
                omega
              · rw [z]
                split <;> omega)
            have yes : (seeB K s (i : Int) = true ∨ cnV P i = 0) → PW sc n5 m_X3_lookOut 25 [] [some (vr 32), some (vr T), some (vr 3), some (vi (s : Int)), some (vi ((i + 1 : Nat) : Int))] (stM M3 34 s (smV (seeB K s) P i + cnV P i)) Q' := fun z => ih2 (i + 1) n5 _ (by omega) (fun c c1 c2 c3 => (stK c1).trans (b1 c c1 c2 c3)) (fun g hg => (stN (by decide)).trans (b2 g hg)) (fun s' hs' => (stO (by omega)).trans (b3 s' hs')) (by
              rw [stE]
              show _ = smV (seeB K s) P i + (if seeB K s (i : Int) = true then cnV P i else 0)
              rcases z with z | z
              · rw [if_pos z]
              · rw [z]
                split <;> omega)
            refine brF (by omega) ?_
            rcases hS with hS | hS
            · have h0 : cnV P i = 0 := by rw [hS]; rfl
              refine pc_X9_sees hT _ _ M3 fun n6 _ => brF (by omega) (brF (by omega) (brF (by omega) (brT (by omega) (gMB (brP (fun _ => cI_i (brT rfl (no (.inr h0)))) fun _ => cI_i (brF (by decide) (gMB (gMB (gMB ?_)))))))))
              have y := yes (.inr h0)
              rw [b4, b2 i (by omega)]
              rw [show w32 (smV (seeB K s) P i + cnV P i) = smV (seeB K s) P i + cnV P i from ew32 (by omega) (by omega)]
              exact y
            · refine f_sees hT (K := K) (by omega) (by rw [b1 (T + 3) (by omega) (by omega) (by omega)]; exact hS) (fun z x hx => cI_i (brT hx (no (.inl ?_)))) fun _ z x hx => cI_i (brF (by omega) (gMB (gMB (gMB ?_))))
              · cases e : seeB K s (i : Int)
                · rfl
                · exact absurd ⟨by omega, e⟩ z
              · have y := yes (.inl z)
                rw [b4, b2 i (by omega)]
                rw [show w32 (smV (seeB K s) P i + cnV P i) = smV (seeB K s) P i + cnV P i from ew32 (by omega) (by omega)]
                exact y
        exact inn 64 0 n3 _ rfl (fun c c1 c2 c3 => (stK c1).trans ((stK c1).trans (a1 c c1 c2 c3))) (fun g hg => (stN (by decide)).trans ((stN (by decide)).trans (a2 g hg))) (fun s' hs' => (stO (by omega)).trans ((stO (by omega)).trans (a3 s' hs'))) stE
  refine out 64 0 n2 none M1 _ rfl (fun c _ c2 c3 => f1 c c2 c3) v1 (fun s' hs' => absurd hs' (Nat.not_lt_zero s')) fun M3 m1 m2 => ?_
  have k := k M3
  rw [m1, m2]
  refine brP (fun h => brP (fun hw => ?_) fun hw => ?_) fun h => ?_
  · rw [if_neg h, if_neg hw] at k
    exact k
  · rw [if_neg h, if_pos (Classical.not_not.mp hw)] at k
    exact k
  · rw [if_pos (Classical.not_not.mp h)] at k
    exact k
set_option maxRecDepth 20000 in
theorem f_watchedM {F : Nat → Nat → Int} {sz : Nat → Nat} {M : MM} {s : Nat} (hs : s < 64) (hr : ∀ g, M 86 g ≤ 63) (h88 : ∀ g, g < 10 → M 88 g = (sz g : Int)) (hsz : ∀ g, sz g ≤ 60) (hF : ∀ g, g < 10 → ∀ i, F g i = posV (M 85) (fun j => M 89 (60 * g + j)) (sz g) (M 86 g) i) {n : Nat} (k : Q (vi (snV (seeB (M 85) s) (allL F sz (M 86) 10))) M) : PC sc n m_X12_watchedFrom [vr 81, vi (s : Int)] M Q := by
  have main : ∀ (m h n : Nat) (o4 o5 : Option Vv), h + m = 10 → PW sc n m_X12_watchedFrom 4 [] [some (vr 81), some (vi (s : Int)), some (vi (snV (seeB (M 85) s) (allL F sz (M 86) h))), some (vi (h : Int)), o4, o5] M Q := by
    intro m
    induction m with
    | zero =>
      intro h n o4 o5 hh
      have hh : h = 10 := hh
      subst hh
      exact pw_X12_watchedFrom_4 _ _ _ o4 o5 M fun n2 _ => brT (by decide) k
    | succ m ih =>
      intro h n o4 o5 hh
      have h10 : h < 10 := by omega
      have hszh := hsz h
      refine pw_X12_watchedFrom_4 _ _ _ o4 o5 M fun n2 _ => ?_
      rw [show w32 ((h : Int) + 1) = ((h + 1 : Nat) : Int) from ew32 (by omega) (by omega)]
      refine brF (by omega) (f_hasSpotM (fun g x hx => cI_i (brF (by omega) ?_)) fun g x hx => cI_i (brT (by omega) (gMB ?_)))
      · rw [show ((h : Int)).toNat = h by omega] at g
        have e : allL F sz (M 86) (h + 1) = allL F sz (M 86) h := by rw [allL_s, if_neg fun z => g ⟨by omega, z⟩]
        rw [← e]
        exact ih (h + 1) n2 _ _ (by omega)
      · rw [show ((h : Int)).toNat = h by omega] at g ⊢
        have hA : 0 ≤ M 86 h ∧ M 86 h ≤ 63 := ⟨g.2, hr h⟩
        have hl := allL_l (F := F) (sz := sz) (A := M 86) hsz h
        have hp : ∀ i, 0 ≤ F h i ∧ F h i ≤ 63 := fun i => by rw [hF h h10]; exact posV_r hA i
        have lp : ∀ (m i n : Nat), i + m = sz h + 1 → PW sc n m_X12_watchedFrom 19 [] [some (vr 81), some (vi (s : Int)), some (vi (snV (seeB (M 85) s) (allL F sz (M 86) h ++ posL (F h) i))), some (vi (h : Int)), some (vi (F h (i - 1))), some (vi (i : Int))] M Q := by
          intro m
          induction m with
          | zero =>
            intro i n hi
            refine pw_X12_watchedFrom_19 _ _ _ _ _ M fun n3 _ => gMB ?_
            rw [show ((h : Int)).toNat = h by omega, h88 h h10, show w32 ((h : Int) + 1) = ((h + 1 : Nat) : Int) from ew32 (by omega) (by omega)]
            have e : allL F sz (M 86) (h + 1) = allL F sz (M 86) h ++ posL (F h) i := by rw [allL_s, if_pos hA.1, show sz h + 1 = i by omega]
            rw [← e]
            exact brT (by omega) (ih (h + 1) n3 _ _ (by omega))
          | succ m ih2 =>
            intro i n hi
            have e41 : ∀ n, PW sc n m_X12_watchedFrom 41 [] [some (vr 81), some (vi (s : Int)), some (vi (snV (seeB (M 85) s) (allL F sz (M 86) h ++ posL (F h) i))), some (vi (h : Int)), some (vi (F h i)), some (vi (i : Int))] M Q := fun n => by
              refine pw_X12_watchedFrom_41 _ _ _ _ _ M fun n4 _ => ?_
              have hc := snV_r (seeB (M 85) s) (allL F sz (M 86) h ++ posL (F h) i)
              have hll : (allL F sz (M 86) h ++ posL (F h) i).length = (allL F sz (M 86) h).length + i := by rw [List.length_append, posL_l]
              have nx := ih2 (i + 1) n4 (by omega)
              have e1 : allL F sz (M 86) h ++ posL (F h) (i + 1) = (allL F sz (M 86) h ++ posL (F h) i) ++ [F h i] := (List.append_assoc _ _ _).symm
              rw [e1, snV_sn] at nx
              rw [show w32 ((i : Int) + 1) = ((i + 1 : Nat) : Int) from ew32 (by omega) (by omega), show w32 (snV (seeB (M 85) s) (allL F sz (M 86) h ++ posL (F h) i) + 0) = snV (seeB (M 85) s) (allL F sz (M 86) h ++ posL (F h) i) + 0 from ew32 (by omega) (by omega), show w32 (snV (seeB (M 85) s) (allL F sz (M 86) h ++ posL (F h) i) + 1) = snV (seeB (M 85) s) (allL F sz (M 86) h ++ posL (F h) i) + 1 from ew32 (by omega) (by omega)]
              refine f_isSeen (by omega) (hp i) (fun z x hx => cI_i (brT hx ?_)) fun z x hx => cI_i (brF (by omega) ?_)
              · rw [if_neg (by rw [z]; decide)] at nx
                exact nx
              · rw [if_pos z] at nx
                exact nx
            refine pw_X12_watchedFrom_19 _ _ _ _ _ M fun n3 _ => gMB ?_
            rw [show ((h : Int)).toNat = h by omega, h88 h h10]
            refine brF (by omega) (brP (fun g0 => ?_) fun g0 => ?_)
            · have i0 : i = 0 := by omega
              subst i0
              exact e41 n3
            · rw [show w32 (60 * (h : Int)) = 60 * (h : Int) from ew32 (by omega) (by omega), show w32 (60 * (h : Int) + (i : Int)) = 60 * (h : Int) + (i : Int) from ew32 (by omega) (by omega), show w32 (60 * (h : Int) + (i : Int) - 1) = 60 * (h : Int) + (i : Int) - 1 from ew32 (by omega) (by omega), show (60 * (h : Int) + (i : Int) - 1).toNat = 60 * h + (i - 1) by omega]
              refine gMB (p_stepTo (hp _) (cI_i ?_))
              have e : F h i = stpV (M 85) (F h (i - 1)) (M 89 (60 * h + (i - 1))) := by
                obtain ⟨i', ei⟩ : ∃ i', i = i' + 1 := ⟨i - 1, by omega⟩
                subst ei
                rw [hF h h10, hF h h10, posV_s, if_pos (by omega)]
                rfl
              rw [← e]
              exact e41 n3
        have z := lp (sz h + 1) 0 n2 (Nat.zero_add _)
        have e0 : F h (0 - 1) = M 86 h := by rw [hF h h10]; rfl
        rw [e0] at z
        have e1 : allL F sz (M 86) h ++ posL (F h) 0 = allL F sz (M 86) h := List.append_nil _
        rw [e1] at z
        exact z
  exact pc_X12_watchedFrom _ M fun n1 _ => main 10 0 n1 none none rfl
set_option maxRecDepth 20000 in
theorem f_watchM {F : Nat → Nat → Int} {sz : Nat → Nat} {M : MM} {w : Int} (hr : ∀ g, M 86 g ≤ 63) (h88 : ∀ g, g < 10 → M 88 g = (sz g : Int)) (hsz : ∀ g, sz g ≤ 60) (hF : ∀ g, g < 10 → ∀ i, F g i = posV (M 85) (fun j => M 89 (60 * g + j)) (sz g) (M 86 g) i) {n : Nat} (k : Q (vi (waV (M 85) (allL F sz (M 86) 10) w)) M) : PC sc n m_X12_watch [vr 81, vi w] M Q := by
  obtain ⟨A, hA⟩ : ∃ A : Nat → Int, A = fun s => if M 85 s = 0 then snV (seeB (M 85) s) (allL F sz (M 86) 10) else -1 := ⟨_, rfl⟩
  unfold waV at k
  rw [← hA] at k
  refine pc_X12_watch w M fun n1 _ => p_in (fun g x hx => cI_i (brF (by omega) ?_)) fun g x hx => cI_i (brT (by omega) ?_)
  · rw [if_neg g] at k
    exact k
  rw [if_pos g] at k
  have lp : ∀ (m i n : Nat) (b : Int) (o5 : Option Vv), i + m = 64 → b = (if (chM A i).2 = -1 then -2 else (chM A i).2) → PW sc n m_X12_watch 13 [] [some (vr 81), some (vi w), some (vi b), some (vi (chM A i).1), some (vi (i : Int)), o5] M Q := by
    intro m
    induction m with
    | zero =>
      intro i n b o5 hi hb
      have hi : i = 64 := hi
      subst hi
      have hcr := chM_r A 64
      refine pw_X12_watch_13 _ _ _ _ o5 M fun n2 _ => brT (by decide) (brP (fun g0 => ?_) fun g0 => brP (fun g1 => ?_) fun g1 => ?_)
      · by_cases c : (chM A 64).2 = -1
        · rw [if_pos c] at k hb
          rw [hb]
          exact k
        · rw [if_neg c, if_pos g0] at k
          rw [if_neg c] at hb
          rw [hb]
          exact k
      · by_cases c : (chM A 64).2 = -1
        · rw [if_pos c] at hb
          exact absurd hb g1
        · rw [if_neg c, if_neg g0] at k
          exact k
      · by_cases c : (chM A 64).2 = -1
        · rw [if_pos c] at k hb
          rw [hb]
          exact k
        · rw [if_neg c] at hb
          omega
    | succ m ih =>
      intro i n b o5 hi hb
      have hcr := chM_r A i
      refine pw_X12_watch_13 _ _ _ _ o5 M fun n2 _ => ?_
      rw [show ((i : Int)).toNat = i by omega, show w32 ((i : Int) + 1) = ((i + 1 : Nat) : Int) from ew32 (by omega) (by omega)]
      refine brF (by omega) (gMB (brP (fun g0 => f_watchedM (by omega) hr h88 hsz hF (cI_i ?_)) fun g0 => ?_))
      · have eA : A i = snV (seeB (M 85) i) (allL F sz (M 86) 10) := by rw [hA]; exact if_pos g0
        have hsr := snV_r (seeB (M 85) i) (allL F sz (M 86) 10)
        rw [← eA] at hsr ⊢
        refine brP (fun g1 => ?_) fun g1 => ?_
        · have e : chM A (i + 1) = (A i, (i : Int)) := by rw [chM_s, if_neg (by omega)]
          have z := ih (i + 1) n2 (i : Int) (some (vi (A i))) (by omega) (by
            rw [e]
            show (i : Int) = if (i : Int) = -1 then -2 else (i : Int)
            rw [if_neg (by omega)])
          rw [e] at z
          exact z
        · have e : chM A (i + 1) = chM A i := by rw [chM_s, if_pos (by omega)]
          have z := ih (i + 1) n2 b (some (vi (A i))) (by omega) (by rw [e]; exact hb)
          rw [e] at z
          exact z
      · have eA : A i = -1 := by rw [hA]; exact if_neg g0
        have e : chM A (i + 1) = chM A i := by rw [chM_s, if_pos (by omega)]
        have z := ih (i + 1) n2 b o5 (by omega) (by rw [e]; exact hb)
        rw [e] at z
        exact z
  exact lp 64 0 n1 (-2) none rfl rfl
end WAT
