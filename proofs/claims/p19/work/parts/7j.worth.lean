/-! PART 7j: what THE LAW asks of both sides: worth and byLaw, fear, rumour -/
theorem pc_X0_worth {sc : List Int} {n : Nat} {L : Nat} (hL : L = 65 ∨ L = 73) {Q : Vv → MM → Prop} (v1 : Int) (v2 : Int) (M : MM) (h : ∀ n1, n1 < n → PW sc n1 m_X0_worth 2 [] [some (vr L), some (vi v1), some (vi v2), some (vi 0)] M Q) : PC sc n m_X0_worth [vr L, vi v1, vi v2] M Q := by
  rcases hL with rfl | rfl <;> exact pc_go rfl (fun j => Nat.beq j 2) 39 h
theorem pw_X0_worth_2 {sc : List Int} {n : Nat} {L : Nat} (hL : L = 65 ∨ L = 73) {Q : Vv → MM → Prop} (v1 : Int) (v2 : Int) (v3 : Int) (M : MM) (h : ∀ n1, n1 < n → brA (decide ((M L 0) ≤ v3))
  (Q (vi 0) M)
  (gIm (decide (0 ≤ v3) && decide (v3 < 16)) (brA (decide ((M ((L + 1)) v3.toNat) ≠ v1))
   (PW sc n1 m_X0_worth 2 [] [some (vr L), some (vi v1), some (vi v2), some (vi (w32 (v3 + 1)))] M Q)
   (gIm (decide (0 ≤ v3) && decide (v3 < 16)) (PC sc n1 m_X0_run [vr L, vi (M ((L + 3)) v3.toNat)] M (cI fun r2 M1 =>
    brA (decide (r2 = 0))
     (PW sc n1 m_X0_worth 2 [] [some (vr L), some (vi v1), some (vi v2), some (vi (w32 (v3 + 1)))] M1 Q)
     (gIm (decide (0 ≤ v3) && decide (v3 < 16)) (PC sc n1 m_X0_run [vr L, vi (M1 ((L + 2)) v3.toNat)] M1 (cI fun r4 M3 =>
      Q (vi (mMax 0 (mMin v2 r4))) M3))))))))) : PW sc n m_X0_worth 2 [] [some (vr L), some (vi v1), some (vi v2), some (vi v3)] M Q := by
  rcases hL with rfl | rfl <;> exact pw_go rfl (fun j => Nat.beq j 2) 39 h
theorem pc_X0_tellStranger {sc : List Int} {n : Nat} {L : Nat} (hL : L = 65 ∨ L = 73) {N : Nat} (hN : N = 25 ∨ N = 46 ∨ N = 51) {Q : Vv → MM → Prop} (v2 : Int) (v3 : Int) (v4 : Int) (M : MM) (h : ∀ n1, n1 < n → PC sc n1 m_X0_tellNight [vr L, vi v2, vi (M N 6)] M (fun _ M1 =>
  gIm (decide (0 ≤ v3) && decide (v3 < 10)) (gIm (decide (0 ≤ v3) && decide (v3 < 10)) (Q (vi 0) (stM (stM (stM (stM M1 ((L + 6)) 2 v3) ((L + 6)) 4 (M1 ((N + 2)) v3.toNat)) ((L + 6)) 5 (M1 ((N + 3)) v3.toNat)) ((L + 6)) 6 v4))))) : PC sc n m_X0_tellStranger [vr L, vr N, vi v2, vi v3, vi v4] M Q := by
  rcases hL with rfl | rfl <;> rcases hN with rfl | rfl | rfl <;> exact pc_go rfl (fun j => false) 37 h
theorem pc_X0_fearOf {sc : List Int} {n : Nat} {L : Nat} (hL : L = 65 ∨ L = 73) {N : Nat} (hN : N = 25 ∨ N = 46 ∨ N = 51) {Q : Vv → MM → Prop} (v2 : Int) (v3 : Int) (v4 : Int) (v5 : Int) (M : MM) (h : ∀ n1, n1 < n → PC sc n1 m_X0_tellStranger [vr L, vr N, vi v2, vi v3, vi v5] M (fun _ M1 =>
  PC sc n1 m_X0_worth [vr L, vi 102, vi 99] (stM M1 ((L + 6)) 3 v4) (cI fun r3 M2 =>
   Q (vi r3) M2))) : PC sc n m_X0_fearOf [vr L, vr N, vi v2, vi v3, vi v4, vi v5] M Q := by
  rcases hL with rfl | rfl <;> rcases hN with rfl | rfl | rfl <;> exact pc_go rfl (fun j => false) 21 h
theorem pc_X0_payOf {sc : List Int} {n : Nat} {L : Nat} (hL : L = 65 ∨ L = 73) {N : Nat} (hN : N = 25 ∨ N = 46 ∨ N = 51) {Q : Vv → MM → Prop} (v2 : Int) (v3 : Int) (v4 : Int) (M : MM) (h : ∀ n1, n1 < n → PC sc n1 m_X0_tellStranger [vr L, vr N, vi v2, vi v3, vi v4] M (fun _ M1 =>
  PC sc n1 m_X0_worth [vr L, vi 99, vi 999] M1 (cI fun r3 M2 =>
   Q (vi r3) M2))) : PC sc n m_X0_payOf [vr L, vr N, vi v2, vi v3, vi v4] M Q := by
  rcases hL with rfl | rfl <;> rcases hN with rfl | rfl | rfl <;> exact pc_go rfl (fun j => false) 16 h
theorem pc_X0_tenths {sc : List Int} {n : Nat} {L : Nat} (hL : L = 65 ∨ L = 73) {T : Nat} (hT : T = 57 ∨ T = 61) {Q : Vv → MM → Prop} (v2 : Int) (v3 : Int) (v4 : Int) (M : MM) (h : ∀ n1, n1 < n → PC sc n1 m_X0_tellNight [vr L, vi v3, vi v2] M (fun _ M1 =>
  gIm (decide (0 ≤ v3) && decide (v3 < 10)) (gIm (decide (0 ≤ v4) && decide (v4 < 10)) (PC sc n1 m_X11_stepsBetween [vi (M1 ((T + 2)) v3.toNat), vi (M1 ((T + 2)) v4.toNat)] (stM M1 ((L + 6)) 1 v4) (cI fun r3 M2 =>
   PC sc n1 m_X0_worth [vr L, vi 114, vi 10] (stM M2 ((L + 6)) 9 r3) (cI fun r5 M4 =>
    Q (vi r5) M4)))))) : PC sc n m_X0_tenths [vr L, vr T, vi v2, vi v3, vi v4] M Q := by
  rcases hL with rfl | rfl <;> rcases hT with rfl | rfl <;> exact pc_go rfl (fun j => false) 32 h
theorem pc_X11_stepsBetween {sc : List Int} {n : Nat} {Q : Vv → MM → Prop} (v0 : Int) (v1 : Int) (M : MM) (h : ∀ n1, n1 < n → Q (vi (w32 ((mAbs (w32 ((Int.tmod v0 8) - (Int.tmod v1 8)))) + (mAbs (w32 ((w32 (Int.tdiv v0 8)) - (w32 (Int.tdiv v1 8)))))))) M) : PC sc n m_X11_stepsBetween [vi v0, vi v1] M Q := pc_go rfl (fun j => false) 27 h
theorem pc_X12_farOf {sc : List Int} {n : Nat} {Q : Vv → MM → Prop} (v0 : Int) (v1 : Int) (M : MM) (h : ∀ n1, n1 < n → PC sc n1 m_X12_size [vi (w32 ((Int.tmod v0 8) - (Int.tmod v1 8)))] M (cI fun r2 M1 =>
  PC sc n1 m_X12_size [vi (w32 ((w32 (Int.tdiv v0 8)) - (w32 (Int.tdiv v1 8))))] M1 (cI fun r4 M3 =>
   Q (vi (w32 (r2 + r4))) M3))) : PC sc n m_X12_farOf [vi v0, vi v1] M Q := pc_go rfl (fun j => false) 23 h
theorem pc_X12_size {sc : List Int} {n : Nat} {Q : Vv → MM → Prop} (v0 : Int) (M : MM) (h : ∀ n1, n1 < n → brA (decide (0 ≤ v0))
  (Q (vi v0) M)
  (Q (vi (w32 (-v0))) M)) : PC sc n m_X12_size [vi v0] M Q := pc_go rfl (fun j => false) 12 h
theorem pc_X12_feelsStranger {sc : List Int} {n : Nat} {Q : Vv → MM → Prop} (v1 : Int) (v2 : Int) (v3 : Int) (v4 : Int) (M : MM) (h : ∀ n1, n1 < n → PC sc n1 m_X12_feels [vr 81, vi v1, vi (M 82 34)] M (fun _ M1 =>
  gIm (decide (0 ≤ (w32 (0 + v2))) && decide ((w32 (0 + v2)) < 36)) (PC sc n1 m_X12_farOf [vi (M1 82 (w32 (0 + v2)).toNat), vi v3] (stM M1 109 2 v2) (cI fun r3 M2 =>
   gIm (decide (0 ≤ (w32 (10 + v2))) && decide ((w32 (10 + v2)) < 36)) (gIm (decide (0 ≤ (w32 (20 + v2))) && decide ((w32 (20 + v2)) < 36)) (Q (vi 0) (stM (stM (stM (stM M2 109 3 r3) 109 4 (M2 82 (w32 (10 + v2)).toNat)) 109 5 (M2 82 (w32 (20 + v2)).toNat)) 109 6 v4))))))) : PC sc n m_X12_feelsStranger [vr 81, vi v1, vi v2, vi v3, vi v4] M Q := pc_go rfl (fun j => false) 55 h
theorem pc_X12_fearOf {sc : List Int} {n : Nat} {Q : Vv → MM → Prop} (v1 : Int) (v2 : Int) (v3 : Int) (v4 : Int) (M : MM) (h : ∀ n1, n1 < n → PC sc n1 m_X12_feelsStranger [vr 81, vi v1, vi v2, vi v3, vi v4] M (fun _ M1 =>
  PC sc n1 m_X12_byLaw [vr 81, vi 102, vi 99] M1 (cI fun r3 M2 =>
   Q (vi r3) M2))) : PC sc n m_X12_fearOf [vr 81, vi v1, vi v2, vi v3, vi v4] M Q := pc_go rfl (fun j => false) 16 h
theorem pc_X12_rumourOf {sc : List Int} {n : Nat} {Q : Vv → MM → Prop} (v1 : Int) (v2 : Int) (M : MM) (h : ∀ n1, n1 < n → PC sc n1 m_X12_feels [vr 81, vi v1, vi (M 82 34)] M (fun _ M1 =>
  gIm (decide (0 ≤ v1) && decide (v1 < 10)) (gIm (decide (0 ≤ v2) && decide (v2 < 10)) (PC sc n1 m_X12_farOf [vi (M1 86 v1.toNat), vi (M1 86 v2.toNat)] (stM M1 109 1 v2) (cI fun r3 M2 =>
   PC sc n1 m_X12_byLaw [vr 81, vi 114, vi 10] (stM M2 109 9 r3) (cI fun r5 M4 =>
    Q (vi r5) M4)))))) : PC sc n m_X12_rumourOf [vr 81, vi v1, vi v2] M Q := pc_go rfl (fun j => false) 35 h
/- the facts of a STRANGER, of a rumour -/
def Fst (h nt g a b c t : Int) (j : Nat) : Int := if j = 6 then t else if j = 5 then c else if j = 4 then b else if j = 3 then a else if j = 2 then g else Fh h nt j
def Frm (h nt o a : Int) (j : Nat) : Int := if j = 9 then a else if j = 1 then o else Fh h nt j
/- how far a spot is from a spot -/
def faO (a b : Int) : Int := w32 (mAbs (w32 (Int.tmod a 8 - Int.tmod b 8)) + mAbs (w32 (w32 (Int.tdiv a 8) - w32 (Int.tdiv b 8))))
theorem mm_clip {hi v : Int} (h : 0 ≤ hi) : mMax 0 (mMin hi v) = clipv hi v := by
  unfold mMax mMin clipv
  split <;> split <;> (try split) <;> omega
section WTH
variable {sc : List Int} {Q : Vv → MM → Prop} {L : Nat}
/- the sum of a clause, asked of the class -/
set_option maxRecDepth 20000 in
theorem f_val (hL : L = 65 ∨ L = 73) {M M1 : MM} {q : LC} {cl : CL} (R : rL1 M L q cl) (f : lqF L M M1) {Fc : Nat → Int} (hF : ∀ j, j < 10 → M1 (L + 6) j = Fc j) {k n : Nat} (hk : k < cl.1) (h9 : M 98 k ≠ 109) (K : ∀ M2, lqF L M M2 → M2 (L + 6) = M1 (L + 6) → Q (vi (ev (M 97) Fc 261 (M 99 k).toNat (M 100 k).toNat [])) M2) : PC sc n m_X0_run [vr L, vi (M1 (L + 2) k)] M1 Q := by
  obtain ⟨⟨⟨l0, l6⟩, lc, lT, l16, l240⟩, ⟨m19, ⟨mq, m97⟩, m16, mc⟩, hD⟩ := R
  obtain ⟨⟨c1, c2, c3⟩, ⟨c4, c5⟩, c6, c7, c8, c9⟩ := lc k hk
  obtain ⟨d1, d2, d3⟩ := hD k hk
  obtain ⟨e1, e2, e3, e4⟩ := mc k hk
  have hT := lT k hk
  have g := f.1
  rw [g (L + 2) (by omega) (by omega) (by omega), c2]
  rw [e2, e3, show ((cl.2.2.1 k : Int)).toNat = cl.2.2.1 k by omega, show ((cl.2.2.2.1 k : Int)).toNat = cl.2.2.2.1 k by omega] at K
  have hC : ∀ i, cl.2.2.1 k ≤ i → i < cl.2.2.2.1 k → M 97 i = q.2 i := fun i _ i2 => (m97 i (by omega)).1
  refine f_run hL (tt := false) ((d2 (by rw [← e1]; exact h9)).ex hC) (by omega) (fun i i1 i2 => ?_) ?_ ?_ hF fun M2 f2 hb => K M2 ⟨fun c a1 a2 a3 => (f2.1 c a1 a3).trans (f.1 c a1 a2 a3), fun j j1 j2 => (f2.2 j j1 j2).trans (f.2 j j1 j2)⟩ (f2.1 (L + 6) (by omega) (by omega))
  · have z := c6 i i1 i2
    unfold crR at z ⊢
    rw [g (L + 4) (by omega) (by omega) (by omega), g (L + 5) (by omega) (by omega) (by omega), hC i i1 i2]
    exact z
  · rw [g (L + 4) (by omega) (by omega) (by omega)]
    exact c7
  · rw [f.2 6 (by decide) (by decide), l6]
    omega
theorem lqF.tr {M M1 M2 : MM} (f : lqF L M M1) (g : lqF L M1 M2) : lqF L M M2 := ⟨fun c a1 a2 a3 => (g.1 c a1 a2 a3).trans (f.1 c a1 a2 a3), fun j j1 j2 => (g.2 j j1 j2).trans (f.2 j j1 j2)⟩
set_option maxRecDepth 20000 in
theorem f_worthC (hL : L = 65 ∨ L = 73) {M M1 : MM} {q : LC} {cl : CL} (R : rL1 M L q cl) (f : lqF L M M1) {Fc : Nat → Int} (hF : ∀ j, j < 10 → M1 (L + 6) j = Fc j) {le hi : Int} (hle : le ≠ 109) (hhi : 0 ≤ hi) {n : Nat} (K : ∀ M2, lqF L M M2 → Q (vi (bl M Fc le hi)) M2) : PC sc n m_X0_worth [vr L, vi le, vi hi] M1 Q := by
  have l0 := R.1.1.1
  have l16 := R.1.2.2.2.1
  have m19 := R.2.1.1
  obtain ⟨E, hE⟩ : ∃ E, E = bl M Fc le hi := ⟨_, rfl⟩
  rw [← hE] at K
  unfold bl at hE
  refine pc_X0_worth hL _ _ M1 fun n1 _ => ?_
  have lp : ∀ (m k n : Nat) (M2 : MM), k + m = 17 → k ≤ cl.1 → lqF L M M2 → (∀ j, j < 10 → M2 (L + 6) j = Fc j) → E = blv (M 81 19) (M 98) (M 97) (M 99) (M 100) (M 101) Fc le hi m k → PW sc n m_X0_worth 2 [] [some (vr L), some (vi le), some (vi hi), some (vi (k : Int))] M2 Q := by
    intro m
    induction m with
    | zero =>
      intro k n M2 hk h1 f2 t2 e
      omega
    | succ m ih =>
      intro k n M2 hk h1 f2 t2 e
      rw [blv_succ, m19] at e
      refine pw_X0_worth_2 hL _ _ _ M2 fun n2 _ => ?_
      rw [f2.2 0 (by decide) (by decide), l0, show ((k : Int)).toNat = k by omega, show w32 ((k : Int) + 1) = ((k + 1 : Nat) : Int) from ew32 (by omega) (by omega)]
      refine brP (fun g => ?_) fun g => gMB ?_
      · rw [if_pos g] at e
        have z := K M2 f2
        rw [e] at z
        exact z
      · have hk2 : k < cl.1 := by omega
        have c1 := (R.1.2.1 k hk2).1.1
        have e98 := (R.2.1.2.2.2 k hk2).1
        rw [if_neg g] at e
        rw [f2.1 (L + 1) (by omega) (by omega) (by omega), c1, ← e98]
        refine brP (fun g2 => ?_) fun g2 => gMB (f_cond hL R f2 t2 hk2 fun M3 f3 t3 hb => cI_i ?_)
        · rw [if_pos g2, ← m19] at e
          exact ih (k + 1) n2 M2 (by omega) (by omega) f2 t2 e
        · rw [if_neg g2] at e
          have g2 := Classical.not_not.mp g2
          refine brP (fun g3 => ?_) fun g3 => gMB (f_val hL R f3 (Fc := Fc) (fun j hj => by rw [t3]; exact t2 j hj) hk2 (by rw [g2]; exact hle) fun M4 f4 t4 => cI_i ?_)
          · rw [if_neg (by omega), ← m19] at e
            exact ih (k + 1) n2 M3 (by omega) (by omega) f3 (fun j hj => by rw [t3]; exact t2 j hj) e
          · rw [if_pos (by omega)] at e
            have z := K M4 f4
            rw [e] at z
            rw [mm_clip hhi]
            exact z
  exact lp 17 0 n1 M1 rfl (Nat.zero_le _) f hF hE
/- what a question about a STRANGER leaves as it was, class -/
set_option maxRecDepth 20000 in
theorem f_tellStranger (hL : L = 65 ∨ L = 73) {N : Nat} (hN : N = 25 ∨ N = 46 ∨ N = 51) {h g t : Int} {M : MM} {n : Nat} (k : ∀ M1, lqF L M M1 → (∀ j, j < 10 → M1 (L + 6) j = Fst h (M N 6) g 0 (M (N + 2) g.toNat) (M (N + 3) g.toNat) t j) → Q (vi 0) M1) : PC sc n m_X0_tellStranger [vr L, vr N, vi h, vi g, vi t] M Q := by
  refine pc_X0_tellStranger hL hN _ _ _ M fun n1 _ => f_tellNight hL fun M1 f1 t1 => gMB (gMB (k _ ⟨fun c _ c2 _ => (stK c2).trans ((stK c2).trans ((stK c2).trans ((stK c2).trans (f1 c c2)))), fun j _ _ => by rw [stK (by omega), stK (by omega), stK (by omega), stK (by omega), f1 L (by omega)]⟩ fun j hj => ?_))
  rw [f1 (N + 2) (by omega), f1 (N + 3) (by omega)]
  unfold Fst
  by_cases e6 : j = 6
  · subst e6
    rw [if_pos rfl]
    exact stE
  rw [stO e6, if_neg e6]
  by_cases e5 : j = 5
  · subst e5
    rw [if_pos rfl]
    exact stE
  rw [stO e5, if_neg e5]
  by_cases e4 : j = 4
  · subst e4
    rw [if_pos rfl]
    exact stE
  rw [stO e4, if_neg e4]
  by_cases e3 : j = 3
  · subst e3
    rw [if_pos rfl, stO (by decide), t1 3 (by decide)]
    rfl
  rw [if_neg e3]
  by_cases e2 : j = 2
  · subst e2
    rw [if_pos rfl]
    exact stE
  rw [stO e2, if_neg e2]
  exact t1 j hj
set_option maxRecDepth 20000 in
theorem f_fearOfC (hL : L = 65 ∨ L = 73) {N : Nat} (hN : N = 25 ∨ N = 46 ∨ N = 51) {M M1 : MM} {q : LC} {cl : CL} (R : rL1 M L q cl) (f : lqF L M M1) {h g a t : Int} {n : Nat} (K : ∀ M2, lqF L M M2 → Q (vi (bl M (Fst h (M1 N 6) g a (M1 (N + 2) g.toNat) (M1 (N + 3) g.toNat) t) 102 99)) M2) : PC sc n m_X0_fearOf [vr L, vr N, vi h, vi g, vi a, vi t] M1 Q := by
  refine pc_X0_fearOf hL hN _ _ _ _ M1 fun n1 _ => f_tellStranger hL hN fun M2 f2 t2 => f_worthC hL R (Fc := Fst h (M1 N 6) g a (M1 (N + 2) g.toNat) (M1 (N + 3) g.toNat) t) (f.tr ⟨fun c c1 c2 c3 => (stK c2).trans (f2.1 c c1 c2 c3), fun j j1 j2 => by rw [stK (by omega)]; exact f2.2 j j1 j2⟩) (fun j hj => ?_) (by decide) (by decide) fun M3 f3 => K M3 f3
  by_cases e3 : j = 3
  · subst e3
    exact stE
  · rw [stO e3, t2 j hj]
    unfold Fst
    by_cases e6 : j = 6
    · rw [if_pos e6, if_pos e6]
    rw [if_neg e6, if_neg e6]
    by_cases e5 : j = 5
    · rw [if_pos e5, if_pos e5]
    rw [if_neg e5, if_neg e5]
    by_cases e4 : j = 4
    · rw [if_pos e4, if_pos e4]
    rw [if_neg e4, if_neg e4, if_neg e3, if_neg e3]
set_option maxRecDepth 20000 in
theorem f_payOfC (hL : L = 65 ∨ L = 73) {N : Nat} (hN : N = 25 ∨ N = 46 ∨ N = 51) {M M1 : MM} {q : LC} {cl : CL} (R : rL1 M L q cl) (f : lqF L M M1) {h g t : Int} {n : Nat} (K : ∀ (x : Int) (M2 : MM), lqF L M M2 → Q (vi x) M2) : PC sc n m_X0_payOf [vr L, vr N, vi h, vi g, vi t] M1 Q := pc_X0_payOf hL hN _ _ _ M1 fun n1 _ => f_tellStranger hL hN fun M2 f2 t2 => f_worthC hL R (f.tr f2) t2 (by decide) (by decide) fun M3 f3 => K _ M3 f3
set_option maxRecDepth 20000 in
theorem f_stepsBetween {a b : Int} {M : MM} {n : Nat} (k : Q (vi (faO a b)) M) : PC sc n m_X11_stepsBetween [vi a, vi b] M Q := pc_X11_stepsBetween _ _ M fun _ _ => k
set_option maxRecDepth 20000 in
theorem f_size {v : Int} {M : MM} {n : Nat} (k : Q (vi (mAbs v)) M) : PC sc n m_X12_size [vi v] M Q := by
  unfold mAbs at k
  refine pc_X12_size _ M fun _ _ => brP (fun g => ?_) fun g => ?_
  · rw [if_pos g] at k
    exact k
  · rw [if_neg g, Int.zero_sub] at k
    exact k
set_option maxRecDepth 20000 in
theorem f_farOf {a b : Int} {M : MM} {n : Nat} (k : Q (vi (faO a b)) M) : PC sc n m_X12_farOf [vi a, vi b] M Q := pc_X12_farOf _ _ M fun n1 _ => f_size (cI_i (f_size (cI_i k)))
set_option maxRecDepth 20000 in
theorem f_feelsStrangerM {h s t : Int} {g : Nat} (hg : g < 10) {M : MM} {n : Nat} (k : ∀ M1, (∀ c, c ≠ 109 → M1 c = M c) → (∀ j, j < 10 → M1 109 j = Fst h (M 82 34) g (faO (M 82 g) s) (M 82 (10 + g)) (M 82 (20 + g)) t j) → Q (vi 0) M1) : PC sc n m_X12_feelsStranger [vr 81, vi h, vi (g : Int), vi s, vi t] M Q := by
  refine pc_X12_feelsStranger _ _ _ _ M fun n1 _ => ?_
  rw [show w32 (0 + (g : Int)) = (g : Int) by rw [Int.zero_add]; exact ew32 (by omega) (by omega), show w32 (10 + (g : Int)) = ((10 + g : Nat) : Int) from ew32 (by omega) (by omega), show w32 (20 + (g : Int)) = ((20 + g : Nat) : Int) from ew32 (by omega) (by omega), show ((g : Int)).toNat = g by omega, show (((10 + g : Nat) : Int)).toNat = 10 + g by omega, show (((20 + g : Nat) : Int)).toNat = 20 + g by omega]
  refine f_feelsM fun M1 f1 t1 => gMB ?_
  rw [f1 82 (by decide)]
  refine f_farOf (cI_i (gMB (gMB (k _ (fun c hc => (stK hc).trans ((stK hc).trans ((stK hc).trans ((stK hc).trans ((stK hc).trans (f1 c hc)))))) fun j hj => ?_))))
  rw [show ∀ x y, stM M1 109 x y 82 = M 82 from fun x y => (stK (by decide)).trans (f1 82 (by decide))]
  unfold Fst
  by_cases e6 : j = 6
  · subst e6
    rw [if_pos rfl]
    exact stE
  rw [stO e6, if_neg e6]
  by_cases e5 : j = 5
  · subst e5
    rw [if_pos rfl]
    exact stE
  rw [stO e5, if_neg e5]
  by_cases e4 : j = 4
  · subst e4
    rw [if_pos rfl]
    exact stE
  rw [stO e4, if_neg e4]
  by_cases e3 : j = 3
  · subst e3
    rw [if_pos rfl]
    exact stE
  rw [stO e3, if_neg e3]
  by_cases e2 : j = 2
  · subst e2
    rw [if_pos rfl]
    exact stE
  rw [stO e2, if_neg e2]
  exact t1 j hj
/- what stands fast of THE LAW for the reference's questions -/
def lwJ (M : MM) : Prop := axJ M ∧ cdR M ∧ M 81 19 ≤ 16
theorem lwJ.eq {M M1 : MM} (J : lwJ M) (h19 : M1 81 19 = M 81 19) (hc : ∀ c, 97 ≤ c → c ≤ 101 → M1 c = M c) : lwJ M1 := ⟨axJ_eq ⟨h19, hc 97 (by decide) (by decide), hc 98 (by decide) (by decide), hc 99 (by decide) (by decide), hc 100 (by decide) (by decide), hc 101 (by decide) (by decide)⟩ J.1, fun k hk => by rw [hc 97 (by decide) (by decide)]; exact J.2.1 k hk, by rw [h19]; exact J.2.2⟩
theorem bl_eq {M M1 : MM} (h19 : M1 81 19 = M 81 19) (hc : ∀ c, 97 ≤ c → c ≤ 101 → M1 c = M c) (Fc : Nat → Int) (le hi : Int) : bl M1 Fc le hi = bl M Fc le hi := by
  unfold bl
  rw [h19, hc 97 (by decide) (by decide), hc 98 (by decide) (by decide), hc 99 (by decide) (by decide), hc 100 (by decide) (by decide), hc 101 (by decide) (by decide)]
set_option maxRecDepth 20000 in
theorem f_fearOfM {h s t : Int} {g : Nat} (hg : g < 10) {M : MM} {n : Nat} (J : lwJ M) (k : ∀ M1, (∀ c, c ≠ 108 → c ≠ 109 → M1 c = M c) → Q (vi (bl M (Fst h (M 82 34) g (faO (M 82 g) s) (M 82 (10 + g)) (M 82 (20 + g)) t) 102 99)) M1) : PC sc n m_X12_fearOf [vr 81, vi h, vi (g : Int), vi s, vi t] M Q := pc_X12_fearOf _ _ _ _ M fun n1 _ => f_feelsStrangerM hg fun M1 f1 t1 => by
  have J1 : lwJ M1 := J.eq (congrFun (f1 81 (by decide)) 19) fun c c1 c2 => f1 c (by omega)
  refine f_byLawM (by decide) J1.1 J1.2.1 J1.2.2 t1 fun M2 f2 => cI_i ?_
  rw [bl_eq (congrFun (f1 81 (by decide)) 19) fun c c1 c2 => f1 c (by omega)]
  exact k M2 fun c c8 c9 => (f2 c c8).trans (f1 c c9)
set_option maxRecDepth 20000 in
theorem f_rumourOfM {h j : Nat} (hh : h < 10) (hj : j < 10) {M : MM} {n : Nat} (J : lwJ M) (k : ∀ M1, (∀ c, c ≠ 108 → c ≠ 109 → M1 c = M c) → Q (vi (bl M (Frm h (M 82 34) j (faO (M 86 h) (M 86 j))) 114 10)) M1) : PC sc n m_X12_rumourOf [vr 81, vi (h : Int), vi (j : Int)] M Q := pc_X12_rumourOf _ _ M fun n1 _ => f_feelsM fun M1 f1 t1 => by
  rw [show ((h : Int)).toNat = h by omega, show ((j : Int)).toNat = j by omega, f1 86 (by decide)]
  refine gMB (gMB (f_farOf (cI_i ?_)))
  have J1 : lwJ (stM (stM M1 109 1 (j : Int)) 109 9 (faO (M 86 h) (M 86 j))) := J.eq (by rw [stK (by decide), stK (by decide), f1 81 (by decide)]) fun c c1 c2 => (stK (by omega)).trans ((stK (by omega)).trans (f1 c (by omega)))
  refine f_byLawM (by decide) J1.1 J1.2.1 J1.2.2 (Fc := Frm h (M 82 34) j (faO (M 86 h) (M 86 j))) (fun i hi => ?_) fun M2 f2 => cI_i ?_
  · unfold Frm
    by_cases e9 : i = 9
    · subst e9
      rw [if_pos rfl]
      exact stE
    rw [stO e9, if_neg e9]
    by_cases e1 : i = 1
    · subst e1
      rw [if_pos rfl]
      exact stE
    rw [stO e1, if_neg e1]
    exact t1 i hi
  · rw [bl_eq (M := M) (by rw [stK (by decide), stK (by decide), f1 81 (by decide)]) fun c c1 c2 => (stK (by omega)).trans ((stK (by omega)).trans (f1 c (by omega)))]
    exact k M2 fun c c8 c9 => (f2 c c8).trans ((stK c9).trans ((stK c9).trans (f1 c c9)))
set_option maxRecDepth 20000 in
theorem f_tenthsC (hL : L = 65 ∨ L = 73) {T : Nat} (hT : T = 57 ∨ T = 61) {M M1 : MM} {q : LC} {cl : CL} (R : rL1 M L q cl) (f : lqF L M M1) {nt : Int} {h j : Nat} (hh : h < 10) (hj : j < 10) {n : Nat} (K : ∀ M2, lqF L M M2 → Q (vi (bl M (Frm h nt j (faO (M1 (T + 2) h) (M1 (T + 2) j))) 114 10)) M2) : PC sc n m_X0_tenths [vr L, vr T, vi nt, vi (h : Int), vi (j : Int)] M1 Q := by
  refine pc_X0_tenths hL hT _ _ _ M1 fun n1 _ => f_tellNight hL fun M2 f2 t2 => ?_
  rw [show ((h : Int)).toNat = h by omega, show ((j : Int)).toNat = j by omega, f2 (T + 2) (by omega)]
  refine gMB (gMB (f_stepsBetween (cI_i (f_worthC hL R (Fc := Frm h nt j (faO (M1 (T + 2) h) (M1 (T + 2) j))) (f.tr ⟨fun c c1 c2 c3 => (stK c2).trans ((stK c2).trans (f2 c c2)), fun i _ _ => by rw [stK (by omega), stK (by omega), f2 L (by omega)]⟩) (fun i hi => ?_) (by decide) (by decide) fun M3 f3 => cI_i (K M3 f3)))))
  unfold Frm
  by_cases e9 : i = 9
  · subst e9
    rw [if_pos rfl]
    exact stE
  rw [stO e9, if_neg e9]
  by_cases e1 : i = 1
  · subst e1
    rw [if_pos rfl]
    exact stE
  rw [stO e1, if_neg e1]
  exact t2 i hi
end WTH
