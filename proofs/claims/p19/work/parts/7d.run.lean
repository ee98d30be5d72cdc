/-! PART 7d: THE LAW's run of the class comes to what the reference's codes come to -/
theorem pc_X0_run {sc : List Int} {n : Nat} {L : Nat} (hL : L = 65 ∨ L = 73) {Q : Vv → MM → Prop} (v1 : Int) (M : MM) (h : ∀ n1, n1 < n → PW sc n1 m_X0_run 10 [] [some (vr L), some (vi v1), some (vi v1), some (vi 0), none, none, none] (stM (stM M L 9 0) L 10 0) Q) : PC sc n m_X0_run [vr L, vi v1] M Q := by
  rcases hL with rfl | rfl <;> exact pc_go rfl (fun j => Nat.beq j 10 || Nat.beq j 54) 129 h
theorem pw_X0_run_10 {sc : List Int} {n : Nat} {L : Nat} (hL : L = 65 ∨ L = 73) {Q : Vv → MM → Prop} (v1 : Int) (v2 : Int) (v3 : Int) (o4 : Option Vv) (o5 : Option Vv) (o6 : Option Vv) (M : MM) (h : ∀ n1, n1 < n → brA (decide (320 ≤ v3))
  (brA (decide ((M L 10) = 0))
   (PC sc n1 m_X0_pop [vr L] M (cI fun r2 M1 =>
    Q (vi r2) M1))
   (Q (vi 0) M))
  (brA (decide ((M L 10) ≠ 0))
   (brA (decide ((M L 10) = 0))
    (PC sc n1 m_X0_pop [vr L] M (cI fun r4 M3 =>
     Q (vi r4) M3))
    (Q (vi 0) M))
   (brA (decide (v2 < 0))
    (brA (decide ((M L 10) = 0))
     (PC sc n1 m_X0_pop [vr L] M (cI fun r6 M5 =>
      Q (vi r6) M5))
     (Q (vi 0) M))
    (brA (decide ((M L 6) ≤ v2))
     (brA (decide ((M L 10) = 0))
      (PC sc n1 m_X0_pop [vr L] M (cI fun r8 M7 =>
       Q (vi r8) M7))
      (Q (vi 0) M))
     (gIm (decide (0 ≤ v2) && decide (v2 < 320)) (brA (decide ((M ((L + 4)) v2.toNat) ≠ 59))
      (gIm (decide (0 ≤ v2) && decide (v2 < 320)) (gIm (decide (0 ≤ v2) && decide (v2 < 320)) (brA (decide ((M ((L + 4)) v2.toNat) = 38))
       (PC sc n1 m_X0_pop [vr L] M (cI fun r10 M9 =>
        brA (decide (r10 = 0))
         (PW sc n1 m_X0_run 54 [vi 0] [some (vr L), some (vi v1), some (vi (w32 (v2 + 1))), some (vi v3), some (vi (M ((L + 4)) v2.toNat)), some (vi (M ((L + 5)) v2.toNat)), some (vi r10)] M9 Q)
         (PW sc n1 m_X0_run 54 [vi 1] [some (vr L), some (vi v1), some (vi (w32 (v2 + 1))), some (vi v3), some (vi (M ((L + 4)) v2.toNat)), some (vi (M ((L + 5)) v2.toNat)), some (vi r10)] M9 Q)))
       (brA (decide ((M ((L + 4)) v2.toNat) ≠ 124))
        (brA (decide ((M ((L + 4)) v2.toNat) ≠ 48))
         (brA (decide ((M ((L + 4)) v2.toNat) ≠ 97))
          (brA (decide ((M ((L + 4)) v2.toNat) ≠ 33))
           (PC sc n1 m_X0_pop [vr L] M (cI fun r12 M11 =>
            PC sc n1 m_X0_pop [vr L] M11 (cI fun r14 M13 =>
             PC sc n1 m_X0_work [vr L, vi (M ((L + 4)) v2.toNat), vi r14, vi r12] M13 (cI fun r16 M15 =>
              PC sc n1 m_X0_push [vr L, vi r16] M15 (fun _ M17 =>
               PW sc n1 m_X0_run 10 [] [some (vr L), some (vi v1), some (vi (w32 (v2 + 1))), some (vi (w32 (v3 + 1))), some (vi (M ((L + 4)) v2.toNat)), some (vi (M ((L + 5)) v2.toNat)), some (vi r12)] M17 Q)))))
           (PC sc n1 m_X0_pop [vr L] M (cI fun r19 M18 =>
            brA (decide (r19 ≠ 0))
             (PC sc n1 m_X0_push [vr L, vi 0] M18 (fun _ M20 =>
              PW sc n1 m_X0_run 10 [] [some (vr L), some (vi v1), some (vi (w32 (v2 + 1))), some (vi (w32 (v3 + 1))), some (vi (M ((L + 4)) v2.toNat)), some (vi (M ((L + 5)) v2.toNat)), o6] M20 Q))
             (PC sc n1 m_X0_push [vr L, vi 1] M18 (fun _ M21 =>
              PW sc n1 m_X0_run 10 [] [some (vr L), some (vi v1), some (vi (w32 (v2 + 1))), some (vi (w32 (v3 + 1))), some (vi (M ((L + 4)) v2.toNat)), some (vi (M ((L + 5)) v2.toNat)), o6] M21 Q)))))
          (brA (decide ((M ((L + 5)) v2.toNat) < 0))
           (PC sc n1 m_X0_push [vr L, vi 0] M (fun _ M22 =>
            PW sc n1 m_X0_run 10 [] [some (vr L), some (vi v1), some (vi (w32 (v2 + 1))), some (vi (w32 (v3 + 1))), some (vi (M ((L + 4)) v2.toNat)), some (vi (M ((L + 5)) v2.toNat)), o6] M22 Q))
           (brA (decide (10 ≤ (M ((L + 5)) v2.toNat)))
            (PC sc n1 m_X0_push [vr L, vi 0] M (fun _ M23 =>
             PW sc n1 m_X0_run 10 [] [some (vr L), some (vi v1), some (vi (w32 (v2 + 1))), some (vi (w32 (v3 + 1))), some (vi (M ((L + 4)) v2.toNat)), some (vi (M ((L + 5)) v2.toNat)), o6] M23 Q))
            (gIm (decide (0 ≤ (M ((L + 5)) v2.toNat)) && decide ((M ((L + 5)) v2.toNat) < 10)) (PC sc n1 m_X0_push [vr L, vi (M ((L + 6)) (M ((L + 5)) v2.toNat).toNat)] M (fun _ M24 =>
             PW sc n1 m_X0_run 10 [] [some (vr L), some (vi v1), some (vi (w32 (v2 + 1))), some (vi (w32 (v3 + 1))), some (vi (M ((L + 4)) v2.toNat)), some (vi (M ((L + 5)) v2.toNat)), o6] M24 Q))))))
         (PC sc n1 m_X0_push [vr L, vi (M ((L + 5)) v2.toNat)] M (fun _ M25 =>
          PW sc n1 m_X0_run 10 [] [some (vr L), some (vi v1), some (vi (w32 (v2 + 1))), some (vi (w32 (v3 + 1))), some (vi (M ((L + 4)) v2.toNat)), some (vi (M ((L + 5)) v2.toNat)), o6] M25 Q)))
        (PC sc n1 m_X0_pop [vr L] M (cI fun r27 M26 =>
         brA (decide (r27 = 0))
          (PW sc n1 m_X0_run 54 [vi 0] [some (vr L), some (vi v1), some (vi (w32 (v2 + 1))), some (vi v3), some (vi (M ((L + 4)) v2.toNat)), some (vi (M ((L + 5)) v2.toNat)), some (vi r27)] M26 Q)
          (PW sc n1 m_X0_run 54 [vi 1] [some (vr L), some (vi v1), some (vi (w32 (v2 + 1))), some (vi v3), some (vi (M ((L + 4)) v2.toNat)), some (vi (M ((L + 5)) v2.toNat)), some (vi r27)] M26 Q)))))))
      (brA (decide ((M L 10) = 0))
       (PC sc n1 m_X0_pop [vr L] M (cI fun r29 M28 =>
        Q (vi r29) M28))
       (Q (vi 0) M)))))))) : PW sc n m_X0_run 10 [] [some (vr L), some (vi v1), some (vi v2), some (vi v3), o4, o5, o6] M Q := by
  rcases hL with rfl | rfl <;> exact pw_go rfl (fun j => Nat.beq j 10 || Nat.beq j 54) 129 h
theorem pw_X0_run_54 {sc : List Int} {n : Nat} {L : Nat} (hL : L = 65 ∨ L = 73) {Q : Vv → MM → Prop} (v1 : Int) (v2 : Int) (v3 : Int) (v4 : Int) (v5 : Int) (v6 : Int) (s0 : Int) (M : MM) (h : ∀ n1, n1 < n → brA (decide (v4 ≠ 124))
  (brA (decide (s0 ≠ 0))
   (PW sc n1 m_X0_run 10 [] [some (vr L), some (vi v1), some (vi v2), some (vi (w32 (v3 + 1))), some (vi v4), some (vi v5), some (vi v6)] M Q)
   (PC sc n1 m_X0_push [vr L, vi v6] M (fun _ M1 =>
    PW sc n1 m_X0_run 10 [] [some (vr L), some (vi v1), some (vi v5), some (vi (w32 (v3 + 1))), some (vi v4), some (vi v5), some (vi v6)] M1 Q)))
  (brA (decide (s0 ≠ 1))
   (PW sc n1 m_X0_run 10 [] [some (vr L), some (vi v1), some (vi v2), some (vi (w32 (v3 + 1))), some (vi v4), some (vi v5), some (vi v6)] M Q)
   (PC sc n1 m_X0_push [vr L, vi v6] M (fun _ M2 =>
    PW sc n1 m_X0_run 10 [] [some (vr L), some (vi v1), some (vi v5), some (vi (w32 (v3 + 1))), some (vi v4), some (vi v5), some (vi v6)] M2 Q)))) : PW sc n m_X0_run 54 [vi s0] [some (vr L), some (vi v1), some (vi v2), some (vi v3), some (vi v4), some (vi v5), some (vi v6)] M Q := by
  rcases hL with rfl | rfl <;> exact pw_go rfl (fun j => Nat.beq j 10 || Nat.beq j 54) 129 h
theorem pc_X0_push {sc : List Int} {n : Nat} {L : Nat} (hL : L = 65 ∨ L = 73) {Q : Vv → MM → Prop} (v1 : Int) (M : MM) (h : ∀ n1, n1 < n → brA (decide (64 ≤ (M L 9)))
  (Q (vi 0) M)
  (gIm (decide (0 ≤ (M L 9)) && decide ((M L 9) < 64)) (Q (vi 0) (stM (stM M ((L + 7)) ((M L 9).toNat) v1) L 9 (w32 ((M L 9) + 1)))))) : PC sc n m_X0_push [vr L, vi v1] M Q := by
  rcases hL with rfl | rfl <;> exact pc_go rfl (fun j => false) 22 h
theorem pc_X0_pop {sc : List Int} {n : Nat} {L : Nat} (hL : L = 65 ∨ L = 73) {Q : Vv → MM → Prop}  (M : MM) (h : ∀ n1, n1 < n → brA (decide (0 < (M L 9)))
  (gIm (decide (0 ≤ (w32 ((M L 9) - 1))) && decide ((w32 ((M L 9) - 1)) < 64)) (Q (vi (M ((L + 7)) (w32 ((M L 9) - 1)).toNat)) (stM M L 9 (w32 ((M L 9) - 1)))))
  (Q (vi 0) M)) : PC sc n m_X0_pop [vr L] M Q := by
  rcases hL with rfl | rfl <;> exact pc_go rfl (fun j => false) 22 h
theorem pc_X0_work {sc : List Int} {n : Nat} {L : Nat} (hL : L = 65 ∨ L = 73) {Q : Vv → MM → Prop} (v1 : Int) (v2 : Int) (v3 : Int) (M : MM) (h : ∀ n1, n1 < n → brA (decide (v1 = 47))
  (brA (decide (v3 ≠ 0))
   (PW sc n1 m_X0_work 13 [] [some (vr L), some (vi v1), some (vi v2), some (vi v3)] M Q)
   (Q (vi 0) (stM M L 10 1)))
  (brA (decide (v1 ≠ 37))
   (PW sc n1 m_X0_work 13 [] [some (vr L), some (vi v1), some (vi v2), some (vi v3)] M Q)
   (brA (decide (v3 ≠ 0))
    (PW sc n1 m_X0_work 13 [] [some (vr L), some (vi v1), some (vi v2), some (vi v3)] M Q)
    (Q (vi 0) (stM M L 10 1))))) : PC sc n m_X0_work [vr L, vi v1, vi v2, vi v3] M Q := by
  rcases hL with rfl | rfl <;> exact pc_go rfl (fun j => Nat.beq j 13) 61 h
theorem pw_X0_work_13 {sc : List Int} {n : Nat} {L : Nat} (hL : L = 65 ∨ L = 73) {Q : Vv → MM → Prop} (v1 : Int) (v2 : Int) (v3 : Int) (M : MM) (h : ∀ n1, n1 < n → (v1 = 37 → gIm (decide (v3 ≠ 0)) (Q (vi (Int.tmod v2 v3)) M)) ∧
  (v1 ≠ 37 → (v1 = 42 → Q (vi (w32 (v2 * v3))) M) ∧
  (v1 ≠ 42 → (v1 = 43 → Q (vi (w32 (v2 + v3))) M) ∧
  (v1 ≠ 43 → (v1 = 45 → Q (vi (w32 (v2 - v3))) M) ∧
  (v1 ≠ 45 → (v1 = 47 → gIm (decide (v3 ≠ 0)) (Q (vi (w32 (Int.tdiv v2 v3))) M)) ∧
  (v1 ≠ 47 → (v1 = 60 → brA (decide (v3 ≤ v2))
   (Q (vi 0) M)
   (Q (vi 1) M)) ∧
  (v1 ≠ 60 → (v1 = 62 → brA (decide (v2 ≤ v3))
   (Q (vi 0) M)
   (Q (vi 1) M)) ∧
  (v1 ≠ 62 → brA (decide (v2 ≠ v3))
   (Q (vi 0) M)
   (Q (vi 1) M))))))))) : PW sc n m_X0_work 13 [] [some (vr L), some (vi v1), some (vi v2), some (vi v3)] M Q := by
  rcases hL with rfl | rfl <;> exact pw_go rfl (fun j => Nat.beq j 13) 61 h
/- numbers that are what their types say -/
def okst (t : List Bool) (s : List Int) : Prop := match t, s with
  | [], [] => True
  | b :: t, x :: s => (b = true → x = 0 ∨ x = 1) ∧ okst t s
  | _, _ => False
theorem okst_l : ∀ {t : List Bool} {s : List Int}, okst t s → s.length = t.length
  | [], [], _ => rfl
  | b :: t, x :: s, h => by
    show s.length + 1 = t.length + 1
    rw [okst_l h.2]
  | [], _ :: _, h => h.elim
  | _ :: _, [], h => h.elim
theorem okst_c {b : Bool} {t : List Bool} : ∀ {s : List Int}, okst (b :: t) s → ∃ x r, s = x :: r ∧ (b = true → x = 0 ∨ x = 1) ∧ okst t r
  | [], h => h.elim
  | x :: r, h => ⟨x, r, rfl, h.1, h.2⟩
theorem okst_n : ∀ {s : List Int}, okst [] s → s = []
  | [], _ => rfl
  | _ :: _, h => h.elim
def stk7 (L : Nat) (M : MM) (s : List Int) : Prop := match s with
  | [] => True
  | x :: s => M (L + 7) s.length = x ∧ stk7 L M s
theorem stk7.eq {L : Nat} {M M1 : MM} : ∀ {s : List Int}, stk7 L M s → (∀ i, i < s.length → M1 (L + 7) i = M (L + 7) i) → stk7 L M1 s
  | [], _, _ => trivial
  | _ :: s, h, e => ⟨(e s.length (Nat.lt_succ_self _)).trans h.1, stk7.eq h.2 fun i hi => e i (Nat.lt_succ_of_lt hi)⟩
def rnF (L : Nat) (M0 M : MM) : Prop := (∀ c, c ≠ L → c ≠ L + 7 → M c = M0 c) ∧ ∀ j, j ≠ 9 → j ≠ 10 → M L j = M0 L j
def rnI (L : Nat) (M0 M : MM) (s : List Int) : Prop := rnF L M0 M ∧ (M L 9 = (s.length : Int) ∧ M L 10 = 0) ∧ stk7 L M s
section RUN
variable {sc : List Int} {Q : Vv → MM → Prop} {L : Nat} {M0 : MM}
set_option maxRecDepth 20000 in
theorem p_push (hL : L = 65 ∨ L = 73) {s : List Int} {v : Int} {n : Nat} {M : MM} (I : rnI L M0 M s) (hs : s.length ≤ 60) (k : ∀ M1, rnI L M0 M1 (v :: s) → Q (vi 0) M1) : PC sc n m_X0_push [vr L, vi v] M Q := by
  obtain ⟨⟨f1, f2⟩, ⟨e9, e10⟩, hk⟩ := I
  refine pc_X0_push hL v M fun n1 _ => ?_
  rw [e9, show ((s.length : Int)).toNat = s.length by omega, show w32 ((s.length : Int) + 1) = ((s.length + 1 : Nat) : Int) from ew32 (by omega) (by omega)]
  refine brF (by omega) (gMB (k _ ⟨⟨fun c c1 c2 => (stK c1).trans ((stK c2).trans (f1 c c1 c2)), fun j j1 j2 => (stO j1).trans ((stN (by omega)).trans (f2 j j1 j2))⟩, ⟨stE, (stO (by decide)).trans ((stN (by omega)).trans e10)⟩, (stN (by omega)).trans stE, hk.eq fun i hi => (stN (by omega)).trans (stO (by omega))⟩))
set_option maxRecDepth 20000 in
theorem p_pop (hL : L = 65 ∨ L = 73) {s : List Int} {x : Int} {n : Nat} {M : MM} (I : rnI L M0 M (x :: s)) (hs : s.length ≤ 60) (k : ∀ M1, rnI L M0 M1 s → Q (vi x) M1) : PC sc n m_X0_pop [vr L] M Q := by
  obtain ⟨⟨f1, f2⟩, ⟨e9, e10⟩, hk⟩ := I
  have hl : (x :: s).length = s.length + 1 := rfl
  refine pc_X0_pop hL M fun n1 _ => ?_
  rw [e9, hl, show w32 (((s.length + 1 : Nat) : Int) - 1) = (s.length : Int) from (ew32 (by omega) (by omega)).trans (by omega), show ((s.length : Int)).toNat = s.length by omega, hk.1]
  exact brT (by omega) (gMB (k _ ⟨⟨fun c c1 c2 => (stK c1).trans (f1 c c1 c2), fun j j1 j2 => (stO j1).trans (f2 j j1 j2)⟩, ⟨stE, (stO (by decide)).trans e10⟩, hk.2.eq fun i hi => stN (by omega)⟩))
set_option maxRecDepth 20000 in
theorem p_work (hL : L = 65 ∨ L = 73) {op x y : Int} {n : Nat} {M : MM} (ho : 2 ≤ op ∧ op ≤ 9) (k0 : (op = 5 ∨ op = 6) ∧ y = 0 → Q (vi 0) (stM M L 10 1)) (k1 : ¬ ((op = 5 ∨ op = 6) ∧ y = 0) → Q (vi (cvR op x y)) M) : PC sc n m_X0_work [vr L, vi (enO op), vi x, vi y] M Q := by
  have w13 : ∀ n, ¬ ((op = 5 ∨ op = 6) ∧ y = 0) → PW sc n m_X0_work 13 [] [some (vr L), some (vi (enO op)), some (vi x), some (vi y)] M Q := fun n h => by
    have k := k1 h
    unfold cvR at k
    refine pw_X0_work_13 hL _ x y M fun n2 _ => ?_
    rcases (show op = 2 ∨ op = 3 ∨ op = 4 ∨ op = 5 ∨ op = 6 ∨ op = 7 ∨ op = 8 ∨ op = 9 by omega) with e | e | e | e | e | e | e | e <;> subst e
    · exact ⟨fun z => absurd z (by decide), fun _ => ⟨fun z => absurd z (by decide), fun _ => ⟨fun _ => k, fun z => absurd rfl z⟩⟩⟩
    · exact ⟨fun z => absurd z (by decide), fun _ => ⟨fun z => absurd z (by decide), fun _ => ⟨fun z => absurd z (by decide), fun _ => ⟨fun _ => k, fun z => absurd rfl z⟩⟩⟩⟩
    · exact ⟨fun z => absurd z (by decide), fun _ => ⟨fun _ => k, fun z => absurd rfl z⟩⟩
    · exact ⟨fun z => absurd z (by decide), fun _ => ⟨fun z => absurd z (by decide), fun _ => ⟨fun z => absurd z (by decide), fun _ => ⟨fun z => absurd z (by decide), fun _ => ⟨fun _ => gMB k, fun z => absurd rfl z⟩⟩⟩⟩⟩
    · exact ⟨fun _ => gMB k, fun z => absurd rfl z⟩
    · refine ⟨fun z => absurd z (by decide), fun _ => ⟨fun z => absurd z (by decide), fun _ => ⟨fun z => absurd z (by decide), fun _ => ⟨fun z => absurd z (by decide), fun _ => ⟨fun z => absurd z (by decide), fun _ => ⟨fun _ => brP (fun g => ?_) fun g => ?_, fun z => absurd rfl z⟩⟩⟩⟩⟩⟩
      · have k : Q (vi (ind (x < y))) M := k
        rw [show ind (x < y) = 0 from if_neg (by omega)] at k
        exact k
      · have k : Q (vi (ind (x < y))) M := k
        rw [show ind (x < y) = 1 from if_pos (by omega)] at k
        exact k
    · refine ⟨fun z => absurd z (by decide), fun _ => ⟨fun z => absurd z (by decide), fun _ => ⟨fun z => absurd z (by decide), fun _ => ⟨fun z => absurd z (by decide), fun _ => ⟨fun z => absurd z (by decide), fun _ => ⟨fun z => absurd z (by decide), fun _ => ⟨fun _ => brP (fun g => ?_) fun g => ?_, fun z => absurd rfl z⟩⟩⟩⟩⟩⟩⟩
      · have k : Q (vi (ind (y < x))) M := k
        rw [show ind (y < x) = 0 from if_neg (by omega)] at k
        exact k
      · have k : Q (vi (ind (y < x))) M := k
        rw [show ind (y < x) = 1 from if_pos (by omega)] at k
        exact k
    · refine ⟨fun z => absurd z (by decide), fun _ => ⟨fun z => absurd z (by decide), fun _ => ⟨fun z => absurd z (by decide), fun _ => ⟨fun z => absurd z (by decide), fun _ => ⟨fun z => absurd z (by decide), fun _ => ⟨fun z => absurd z (by decide), fun _ => ⟨fun z => absurd z (by decide), fun _ => brP (fun g => ?_) fun g => ?_⟩⟩⟩⟩⟩⟩⟩
      · have k : Q (vi (ind (x = y))) M := k
        rw [show ind (x = y) = 0 from if_neg g] at k
        exact k
      · have k : Q (vi (ind (x = y))) M := k
        rw [show ind (x = y) = 1 from if_pos (Classical.not_not.mp g)] at k
        exact k
  refine pc_X0_work hL _ x y M fun n1 _ => brP (fun h => brP (fun g => w13 _ fun z => g z.2) fun g => k0 ⟨.inl ?_, Classical.not_not.mp g⟩) fun h => brP (fun g => w13 _ fun z => ?_) fun g => brP (fun g2 => w13 _ fun z => g2 z.2) fun g2 => k0 ⟨.inr ?_, Classical.not_not.mp g2⟩
  · rcases (show op = 2 ∨ op = 3 ∨ op = 4 ∨ op = 5 ∨ op = 6 ∨ op = 7 ∨ op = 8 ∨ op = 9 by omega) with e | e | e | e | e | e | e | e <;> subst e <;> first | rfl | exact absurd h (by decide)
  · rcases z.1 with e | e <;> subst e
    · exact h rfl
    · exact g rfl
  · have g := Classical.not_not.mp g
    rcases (show op = 2 ∨ op = 3 ∨ op = 4 ∨ op = 5 ∨ op = 6 ∨ op = 7 ∨ op = 8 ∨ op = 9 by omega) with e | e | e | e | e | e | e | e <;> subst e <;> first | rfl | exact absurd g (by decide)
theorem enO_n59 {o : Int} : enO o ≠ 59 := by
  unfold enO
  repeat' split
  all_goals decide
theorem enO_op {o : Int} (h : 2 ≤ o ∧ o ≤ 9) : enO o ≠ 38 ∧ enO o ≠ 124 ∧ enO o ≠ 48 ∧ enO o ≠ 97 ∧ enO o ≠ 33 := by
  rcases (show o = 2 ∨ o = 3 ∨ o = 4 ∨ o = 5 ∨ o = 6 ∨ o = 7 ∨ o = 8 ∨ o = 9 by omega) with e | e | e | e | e | e | e | e <;> subst e <;> decide
theorem cvR_b {op x y : Int} (h : 7 ≤ op ∧ op ≤ 9) : cvR op x y = 0 ∨ cvR op x y = 1 := by
  have i : ∀ (P : Prop) [Decidable P], ind P = 0 ∨ ind P = 1 := fun P _ => by
    unfold ind
    split
    · exact .inr rfl
    · exact .inl rfl
  unfold cvR
  rw [if_neg (by omega), if_neg (by omega), if_neg (by omega), if_neg (by omega), if_neg (by omega)]
  split
  · exact i _
  · split
    · exact i _
    · exact i _
/- a run of the class's commands -/
set_option maxRecDepth 20000 in
theorem f_run (hL : L = 65 ∨ L = 73) {C Fc : Nat → Int} {a b off : Nat} {tt : Bool} (hc : cpl C a b [tt]) (hb : b ≤ 240 ∧ off ≤ 33) (hcr : ∀ i, a ≤ i → i < b → crR M0 L C off i) (he : M0 (L + 4) (b + off) = 59) (h6 : ((b + off : Nat) : Int) < M0 L 6) (hF : ∀ j, j < 10 → M0 (L + 6) j = Fc j) {n : Nat} (k : ∀ M1, rnF L M0 M1 → (tt = true → ev C Fc 261 a b [] = 0 ∨ ev C Fc 261 a b [] = 1) → Q (vi (ev C Fc 261 a b [])) M1) : PC sc n m_X0_run [vr L, vi ((a + off : Nat) : Int)] M0 Q := by
  obtain ⟨⟨hab, -⟩, ty, t1, t2, t3, t4⟩ := hc
  obtain ⟨E, hE⟩ : ∃ E, E = ev C Fc 261 a b [] := ⟨_, rfl⟩
  rw [← hE] at k
  have lp : ∀ (m f kk i n : Nat) (st : List Int) (o4 o5 o6 : Option Vv) (M : MM), b - kk ≤ m → a ≤ kk → kk ≤ b → i ≤ kk → b - kk < f → okst (ty kk) st → E = ev C Fc f kk b st → rnI L M0 M st → PW sc n m_X0_run 10 [] [some (vr L), some (vi ((a + off : Nat) : Int)), some (vi ((kk + off : Nat) : Int)), some (vi (i : Int)), o4, o5, o6] M Q := by
    intro m
    induction m with
    | zero =>
      intro f kk i n st o4 o5 o6 M hm h1 h2 h3 hf hs hev I
      have hk : kk = b := by omega
      subst hk
      rw [t2] at hs
      obtain ⟨x, r, e1, hx, hr⟩ := okst_c hs
      have hr := okst_n hr
      subst hr e1
      obtain ⟨f, rfl⟩ : ∃ f', f = f' + 1 := ⟨f - 1, by omega⟩
      rw [ev_succ, if_pos (Nat.le_refl _)] at hev
      have hev : E = x := hev
      refine pw_X0_run_10 hL _ _ _ o4 o5 o6 M fun n1 _ => ?_
      rw [I.2.1.2, I.1.2 6 (by decide) (by decide), show (((kk + off : Nat) : Int)).toNat = kk + off by omega, I.1.1 (L + 4) (by omega) (by omega), he]
      refine brF (by omega) (brF (by decide) (brF (by omega) (brF (by omega) (gMB (brF (by decide) (brT rfl (p_pop hL I (by decide) fun M1 I1 => cI_i ?_)))))))
      have K := k M1 I1.1 (fun z => by rw [hev]; exact hx z)
      rw [hev] at K
      exact K
    | succ m ih =>
      intro f kk i n st o4 o5 o6 M hm h1 h2 h3 hf hs hev I
      by_cases hkb : kk = b
      · exact ih f kk i n st o4 o5 o6 M (by omega) h1 h2 h3 hf hs hev I
      · obtain ⟨f, rfl⟩ : ∃ f', f = f' + 1 := ⟨f - 1, by omega⟩
        have hlt : kk < b := by omega
        have hcrk := hcr kk h1 hlt
        have hstp := t4 kk h1 hlt
        have hlen := okst_l hs
        have h40 := t3 kk
        have h41 := t3 (kk + 1)
        rw [ev_succ, if_neg (by omega)] at hev
        have ec : C kk / 1048576 = cop (C kk) := rfl
        have ea : C kk % 1048576 = carg (C kk) := rfl
        rw [ec, ea] at hev
        refine pw_X0_run_10 hL _ _ _ o4 o5 o6 M fun n1 _ => ?_
        rw [I.2.1.2, I.1.2 6 (by decide) (by decide), show (((kk + off : Nat) : Int)).toNat = kk + off by omega, I.1.1 (L + 4) (by omega) (by omega), I.1.1 (L + 5) (by omega) (by omega), I.1.1 (L + 6) (by omega) (by omega), hcrk.1, show w32 (((kk + off : Nat) : Int) + 1) = ((kk + 1 + off : Nat) : Int) from (ew32 (by omega) (by omega)).trans (by omega), show w32 ((i : Int) + 1) = ((i + 1 : Nat) : Int) from ew32 (by omega) (by omega)]
        refine brF (by omega) (brF (by decide) (brF (by omega) (brF (by omega) (gMB (brT enO_n59 (gMB (gMB ?_)))))))
        have nx : ∀ (n : Nat) (st' : List Int) (o4 o5 o6 : Option Vv) (M' : MM), okst (ty (kk + 1)) st' → E = ev C Fc f (kk + 1) b st' → rnI L M0 M' st' → PW sc n m_X0_run 10 [] [some (vr L), some (vi ((a + off : Nat) : Int)), some (vi ((kk + 1 + off : Nat) : Int)), some (vi ((i + 1 : Nat) : Int)), o4, o5, o6] M' Q := fun n st' o4 o5 o6 M' q1 q2 q3 => ih f (kk + 1) (i + 1) n st' o4 o5 o6 M' (by omega) (by omega) (by omega) (by omega) (by omega) q1 q2 q3
        have bin : (2 ≤ cop (C kk) ∧ cop (C kk) ≤ 9) → ∀ {r : List Bool}, okst (false :: false :: r) st → (∀ (x y : Int) (r' : List Int), okst r r' → okst (ty (kk + 1)) (cvR (cop (C kk)) x y :: r')) → PC sc n1 m_X0_pop [vr L] M (cI fun r12 M11 => PC sc n1 m_X0_pop [vr L] M11 (cI fun r14 M13 => PC sc n1 m_X0_work [vr L, vi (enO (cop (C kk))), vi r14, vi r12] M13 (cI fun r16 M15 => PC sc n1 m_X0_push [vr L, vi r16] M15 (fun _ M17 => PW sc n1 m_X0_run 10 [] [some (vr L), some (vi ((a + off : Nat) : Int)), some (vi ((kk + 1 + off : Nat) : Int)), some (vi ((i + 1 : Nat) : Int)), some (vi (enO (cop (C kk)))), some (vi (M0 (L + 5) (kk + off))), some (vi r12)] M17 Q)))) := fun ho r hs2 hok => by
          obtain ⟨y, s1, e1, -, hs1⟩ := okst_c hs2
          obtain ⟨x, r', e2, -, hr'⟩ := okst_c hs1
          subst e2
          subst e1
          have hl : (y :: x :: r').length = r'.length + 2 := rfl
          rw [if_neg (by omega), if_neg (by omega), if_neg (by omega), if_neg (by omega)] at hev
          have hev : E = if (cop (C kk) = 5 ∨ cop (C kk) = 6) ∧ y = 0 then 0 else ev C Fc f (kk + 1) b (cvR (cop (C kk)) x y :: r') := hev
          refine p_pop hL I (by show r'.length + 1 ≤ 60; omega) fun M1 I1 => cI_i (p_pop hL I1 (by omega) fun M2 I2 => cI_i (p_work hL ho (fun g => cI_i ?_) fun g => cI_i ?_))
          · rw [if_pos g] at hev
            refine pc_X0_push hL _ _ fun n2 _ => ?_
            have e9 : stM M2 L 10 1 L 9 = (r'.length : Int) := (stO (by decide)).trans I2.2.1.1
            rw [e9]
            refine brF (by omega) (gMB (pw_X0_run_10 hL _ _ _ _ _ _ _ fun n3 _ => ?_))
            have e10 : ∀ v w : Int, stM (stM (stM M2 L 10 1) (L + 7) ((r'.length : Int)).toNat v) L 9 w L 10 = 1 := fun v w => (stO (by decide)).trans ((stN (by omega)).trans stE)
            rw [e10]
            have K := k (stM (stM (stM M2 L 10 1) (L + 7) ((r'.length : Int)).toNat 0) L 9 (w32 ((r'.length : Int) + 1))) ⟨fun c c1 c2 => (stK c1).trans ((stK c2).trans ((stK c1).trans (I2.1.1 c c1 c2))), fun j j1 j2 => (stO j1).trans ((stN (by omega)).trans ((stO j2).trans (I2.1.2 j j1 j2)))⟩ fun _ => .inl hev
            rw [hev] at K
            exact brF (by omega) (brT (by decide) (brF (by decide) K))
          · rw [if_neg g] at hev
            exact p_push hL I2 (by omega) fun M3 I3 => nx _ _ _ _ _ M3 (hok x y r' hr') hev I3
        rcases hstp with ⟨hr, hst⟩ | ⟨hr, hj, j1, j2, j3, j4, j5⟩
        · rcases hst with ⟨c, c2⟩ | ⟨c, c1, c2⟩ | ⟨c, r, c1, c2⟩ | ⟨c, r, c1, c2⟩ | ⟨c, r, c1, c2⟩
          · rw [c, show enO 0 = 48 from rfl, hcrk.2.1 (.inl c)]
            rw [if_pos c] at hev
            exact brF (by decide) (brT (by decide) (brF (by decide) (p_push hL I (by omega) fun M1 I1 => nx _ _ _ _ _ M1 (by rw [c2]; exact ⟨fun z => (by cases z), hs⟩) hev I1)))
          · have hg := carg_r (C kk)
            rw [c, show enO 1 = 97 from rfl, hcrk.2.1 (.inr c), hF _ (by omega)]
            rw [if_neg (by omega), if_pos c] at hev
            exact brF (by decide) (brT (by decide) (brT (by decide) (brF (by decide) (brF (by omega) (brF (by omega) (gMB (p_push hL I (by omega) fun M1 I1 => nx _ _ _ _ _ M1 (by rw [c2]; exact ⟨fun z => (by cases z), hs⟩) hev I1)))))))
          · have hn := enO_op (o := cop (C kk)) (by omega)
            exact brF hn.1 (brT hn.2.1 (brT hn.2.2.1 (brT hn.2.2.2.1 (brT hn.2.2.2.2 (bin (by omega) (by rw [c1] at hs; exact hs) fun x y r' hr' => by rw [c2]; exact ⟨fun z => (by cases z), hr'⟩)))))
          · have hn := enO_op (o := cop (C kk)) (by omega)
            exact brF hn.1 (brT hn.2.1 (brT hn.2.2.1 (brT hn.2.2.2.1 (brT hn.2.2.2.2 (bin (by omega) (by rw [c1] at hs; exact hs) fun x y r' hr' => by rw [c2]; exact ⟨fun _ => cvR_b (by omega), hr'⟩)))))
          · rw [c1] at hs
            obtain ⟨x, r', e1, hx, hr'⟩ := okst_c hs
            subst e1
            have hl : (x :: r').length = r'.length + 1 := rfl
            have hx := hx rfl
            rw [c, show enO 10 = 33 from rfl]
            rw [if_neg (by omega), if_neg (by omega), if_pos c] at hev
            have hev : E = ev C Fc f (kk + 1) b (w32 (1 - x) :: r') := hev
            refine brF (by decide) (brT (by decide) (brT (by decide) (brT (by decide) (brF (by decide) (p_pop hL I (by omega) fun M1 I1 => cI_i (brP (fun g => ?_) fun g => ?_))))))
            · have e2 : w32 (1 - x) = 0 := by rw [show 1 - x = 0 by omega]; rfl
              rw [e2] at hev
              exact p_push hL I1 (by omega) fun M2 I2 => nx _ _ _ _ _ M2 (by rw [c2]; exact ⟨fun _ => .inl rfl, hr'⟩) hev I2
            · have e2 : w32 (1 - x) = 1 := by rw [show 1 - x = 1 by omega]; rfl
              rw [e2] at hev
              exact p_push hL I1 (by omega) fun M2 I2 => nx _ _ _ _ _ M2 (by rw [c2]; exact ⟨fun _ => .inr rfl, hr'⟩) hev I2
        · rw [j1] at hs
          obtain ⟨x, r', e1, hx, hr'⟩ := okst_c hs
          have hr' := okst_n hr'
          subst hr' e1
          have hx := hx rfl
          rw [if_neg (by omega), if_neg (by omega), if_neg (by omega), if_pos hj] at hev
          have hev : E = if x = (if cop (C kk) = 12 then 1 else 0) then ev C Fc f (carg (C kk)).toNat b [x] else ev C Fc f (kk + 1) b [] := hev
          have hop : M0 (L + 5) (kk + off) = (((carg (C kk)).toNat + off : Nat) : Int) := by
            rcases hcrk.2.2 hj with z | z
            · omega
            · omega
          rw [hop]
          have jmp : ∀ (n : Nat) (o4 o5 o6 : Option Vv) (M' : MM), E = ev C Fc f (carg (C kk)).toNat b [x] → rnI L M0 M' [x] → PW sc n m_X0_run 10 [] [some (vr L), some (vi ((a + off : Nat) : Int)), some (vi (((carg (C kk)).toNat + off : Nat) : Int)), some (vi ((i + 1 : Nat) : Int)), o4, o5, o6] M' Q := fun n o4 o5 o6 M' q2 q3 => ih f (carg (C kk)).toNat (i + 1) n [x] o4 o5 o6 M' (by omega) (by omega) (by omega) (by omega) (by omega) (by rw [j5]; exact ⟨fun _ => hx, trivial⟩) q2 q3
          have e54 : ∀ (n : Nat) (s0 : Int) (M' : MM), rnI L M0 M' [] → s0 = (if x = 0 then 0 else 1) → PW sc n m_X0_run 54 [vi s0] [some (vr L), some (vi ((a + off : Nat) : Int)), some (vi ((kk + 1 + off : Nat) : Int)), some (vi (i : Int)), some (vi (enO (cop (C kk)))), some (vi (((carg (C kk)).toNat + off : Nat) : Int)), some (vi x)] M' Q := fun n s0 M' I' hs0 => by
            refine pw_X0_run_54 hL _ _ _ _ _ _ _ M' fun n2 _ => ?_
            rw [show w32 ((i : Int) + 1) = ((i + 1 : Nat) : Int) from ew32 (by omega) (by omega)]
            rcases hj with hj | hj
            · rw [hj, show enO 11 = 38 from rfl]
              rw [hj, if_neg (show ¬ (11 : Int) = 12 by decide)] at hev
              refine brT (by decide) (brP (fun g => ?_) fun g => ?_)
              · have hx1 : x ≠ 0 := fun z => g (by rw [hs0, if_pos z])
                rw [if_neg hx1] at hev
                exact nx _ [] _ _ _ M' (by rw [j2]; trivial) hev I'
              · have hx1 : x = 0 := by
                  by_cases z : x = 0
                  · exact z
                  · rw [if_neg z] at hs0
                    omega
                rw [if_pos hx1] at hev
                exact p_push hL I' (by decide) fun M2 I2 => jmp _ _ _ _ M2 hev I2
            · rw [hj, show enO 12 = 124 from rfl]
              rw [hj, if_pos (show (12 : Int) = 12 from rfl)] at hev
              refine brF (by decide) (brP (fun g => ?_) fun g => ?_)
              · have hx1 : ¬ x = 1 := fun z => g (by rw [hs0, if_neg (by omega)])
                rw [if_neg hx1] at hev
                exact nx _ [] _ _ _ M' (by rw [j2]; trivial) hev I'
              · have hx1 : x = 1 := by
                  by_cases z : x = 0
                  · rw [if_pos z] at hs0
                    omega
                  · omega
                rw [if_pos hx1] at hev
                exact p_push hL I' (by decide) fun M2 I2 => jmp _ _ _ _ M2 hev I2
          have pp : ∀ n, PC sc n m_X0_pop [vr L] M (cI fun r10 M9 => brA (decide (r10 = 0)) (PW sc n m_X0_run 54 [vi 0] [some (vr L), some (vi ((a + off : Nat) : Int)), some (vi ((kk + 1 + off : Nat) : Int)), some (vi (i : Int)), some (vi (enO (cop (C kk)))), some (vi (((carg (C kk)).toNat + off : Nat) : Int)), some (vi r10)] M9 Q) (PW sc n m_X0_run 54 [vi 1] [some (vr L), some (vi ((a + off : Nat) : Int)), some (vi ((kk + 1 + off : Nat) : Int)), some (vi (i : Int)), some (vi (enO (cop (C kk)))), some (vi (((carg (C kk)).toNat + off : Nat) : Int)), some (vi r10)] M9 Q)) := fun n => p_pop hL I (by decide) fun M1 I1 => cI_i (brP (fun g => e54 n 0 M1 I1 (if_pos g).symm) fun g => e54 n 1 M1 I1 (if_neg g).symm)
          rcases hj with hj | hj
          · exact brT (by rw [hj]; rfl) (pp n1)
          · exact brF (by rw [hj]; decide) (brF (fun z => z (by rw [hj]; rfl)) (pp n1))
  refine pc_X0_run hL _ M0 fun n1 _ => lp (b - a) 261 a 0 n1 [] none none none _ (Nat.le_refl _) (Nat.le_refl _) hab (Nat.zero_le _) (by omega) (by rw [t1]; trivial) hE ⟨⟨fun c c1 c2 => (stK c1).trans (stK c1), fun j j1 j2 => (stO j2).trans (stO j1)⟩, ⟨(stO (by decide)).trans stE, stE⟩, trivial⟩
end RUN
