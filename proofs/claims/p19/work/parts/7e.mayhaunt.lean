/-! PART 7e: mayHaunt of the class is the reference's -/
theorem pc_X0_mayHaunt {sc : List Int} {n : Nat} {L : Nat} (hL : L = 65 ∨ L = 73) {Q : Vv → MM → Prop} (v1 : Int) (v2 : Int) (M : MM) (h : ∀ n1, n1 < n → PC sc n1 m_X0_tellNight [vr L, vi v1, vi v2] M (fun _ M1 =>
  PW sc n1 m_X0_mayHaunt 8 [] [some (vr L), some (vi v1), some (vi v2), some (vi 0), some (vi 0)] M1 Q)) : PC sc n m_X0_mayHaunt [vr L, vi v1, vi v2] M Q := by
  rcases hL with rfl | rfl <;> exact pc_go rfl (fun j => Nat.beq j 8) 42 h
theorem pw_X0_mayHaunt_8 {sc : List Int} {n : Nat} {L : Nat} (hL : L = 65 ∨ L = 73) {Q : Vv → MM → Prop} (v1 : Int) (v2 : Int) (v3 : Int) (v4 : Int) (M : MM) (h : ∀ n1, n1 < n → brA (decide ((M L 0) ≤ v4))
  (brA (decide (v3 ≠ 0))
   (Q (vi 0) M)
   (Q (vi 1) M))
  (gIm (decide (0 ≤ v4) && decide (v4 < 16)) (brA (decide ((M ((L + 1)) v4.toNat) ≠ 109))
   (PW sc n1 m_X0_mayHaunt 8 [] [some (vr L), some (vi v1), some (vi v2), some (vi v3), some (vi (w32 (v4 + 1)))] M Q)
   (gIm (decide (0 ≤ v4) && decide (v4 < 16)) (PC sc n1 m_X0_run [vr L, vi (M ((L + 3)) v4.toNat)] M (cI fun r2 M1 =>
    brA (decide (r2 = 0))
     (PW sc n1 m_X0_mayHaunt 8 [] [some (vr L), some (vi v1), some (vi v2), some (vi 1), some (vi (w32 (v4 + 1)))] M1 Q)
     (Q (vi 1) M1))))))) : PW sc n m_X0_mayHaunt 8 [] [some (vr L), some (vi v1), some (vi v2), some (vi v3), some (vi v4)] M Q := by
  rcases hL with rfl | rfl <;> exact pw_go rfl (fun j => Nat.beq j 8) 42 h
theorem pc_X0_tellNight {sc : List Int} {n : Nat} {L : Nat} (hL : L = 65 ∨ L = 73) {Q : Vv → MM → Prop} (v1 : Int) (v2 : Int) (M : MM) (h : ∀ n1, n1 < n → PW sc n1 m_X0_tellNight 2 [] [some (vr L), some (vi v1), some (vi v2), some (vi 0)] M Q) : PC sc n m_X0_tellNight [vr L, vi v1, vi v2] M Q := by
  rcases hL with rfl | rfl <;> exact pc_go rfl (fun j => Nat.beq j 2) 35 h
theorem pw_X0_tellNight_2 {sc : List Int} {n : Nat} {L : Nat} (hL : L = 65 ∨ L = 73) {Q : Vv → MM → Prop} (v1 : Int) (v2 : Int) (v3 : Int) (M : MM) (h : ∀ n1, n1 < n → brA (decide (10 ≤ v3))
  (Q (vi 0) (stM (stM (stM M ((L + 6)) 0 v1) ((L + 6)) 7 v2) ((L + 6)) 8 (Int.tmod v2 7)))
  (gIm (decide (0 ≤ v3) && decide (v3 < 10)) (PW sc n1 m_X0_tellNight 2 [] [some (vr L), some (vi v1), some (vi v2), some (vi (w32 (v3 + 1)))] (stM M ((L + 6)) (v3.toNat) 0) Q))) : PW sc n m_X0_tellNight 2 [] [some (vr L), some (vi v1), some (vi v2), some (vi v3)] M Q := by
  rcases hL with rfl | rfl <;> exact pw_go rfl (fun j => Nat.beq j 2) 35 h
/- THE LAW is alike on both sides, and its codes are well typed -/
def rL1 (M : MM) (L : Nat) (q : LC) (cl : CL) : Prop := lwR M L cl q.2 q.1 ∧ mlR M q cl ∧ clD q.2 cl q.1
section MYH
variable {sc : List Int} {Q : Vv → MM → Prop} {L : Nat}
set_option maxRecDepth 20000 in
theorem f_tellNight (hL : L = 65 ∨ L = 73) {h night : Int} {M : MM} {n : Nat} (k : ∀ M1, (∀ c, c ≠ L + 6 → M1 c = M c) → (∀ j, j < 10 → M1 (L + 6) j = Fh h night j) → Q (vi 0) M1) : PC sc n m_X0_tellNight [vr L, vi h, vi night] M Q := by
  have lp : ∀ (m i n : Nat) (M1 : MM), i + m = 10 → (∀ c, c ≠ L + 6 → M1 c = M c) → (∀ j, j < i → M1 (L + 6) j = 0) → PW sc n m_X0_tellNight 2 [] [some (vr L), some (vi h), some (vi night), some (vi (i : Int))] M1 Q := by
    intro m
    induction m with
    | zero =>
      intro i n M1 hi a1 a2
      have hi : i = 10 := hi
      subst hi
      refine pw_X0_tellNight_2 hL _ _ _ M1 fun n1 _ => brT (by decide) (k _ (fun c hc => (stK hc).trans ((stK hc).trans ((stK hc).trans (a1 c hc)))) fun j hj => ?_)
      unfold Fh
      by_cases e8 : j = 8
      · subst e8
        exact stE
      · rw [stO e8, if_neg e8]
        by_cases e7 : j = 7
        · subst e7
          exact stE
        · rw [stO e7, if_neg e7]
          by_cases e0 : j = 0
          · subst e0
            exact stE
          · rw [stO e0, if_neg e0]
            exact a2 j hj
    | succ m ih =>
      intro i n M1 hi a1 a2
      refine pw_X0_tellNight_2 hL _ _ _ M1 fun n1 _ => ?_
      rw [show ((i : Int)).toNat = i by omega, show w32 ((i : Int) + 1) = ((i + 1 : Nat) : Int) from ew32 (by omega) (by omega)]
      refine brF (by omega) (gMB (ih (i + 1) n1 _ (by omega) (fun c hc => (stK hc).trans (a1 c hc)) fun j hj => ?_))
      by_cases e : j = i
      · subst e
        exact stE
      · exact (stO e).trans (a2 j (by omega))
  exact pc_X0_tellNight hL _ _ M fun n1 _ => lp 10 0 n1 M rfl (fun _ _ => rfl) fun j hj => absurd hj (Nat.not_lt_zero j)
/- what a question to the class's law leaves as it was -/
def lqF (L : Nat) (M M1 : MM) : Prop := (∀ c, c ≠ L → c ≠ L + 6 → c ≠ L + 7 → M1 c = M c) ∧ ∀ j, j ≠ 9 → j ≠ 10 → M1 L j = M L j
/- the condition of a clause, asked of the class -/
set_option maxRecDepth 20000 in
theorem f_cond (hL : L = 65 ∨ L = 73) {M M1 : MM} {q : LC} {cl : CL} (R : rL1 M L q cl) (f : lqF L M M1) {Fc : Nat → Int} (hF : ∀ j, j < 10 → M1 (L + 6) j = Fc j) {k n : Nat} (hk : k < cl.1) (K : ∀ M2, lqF L M M2 → M2 (L + 6) = M1 (L + 6) → (ev (M 97) Fc 261 (M 100 k).toNat (M 101 k).toNat [] = 0 ∨ ev (M 97) Fc 261 (M 100 k).toNat (M 101 k).toNat [] = 1) → Q (vi (ev (M 97) Fc 261 (M 100 k).toNat (M 101 k).toNat [])) M2) : PC sc n m_X0_run [vr L, vi (M1 (L + 3) k)] M1 Q := by
  obtain ⟨⟨⟨l0, l6⟩, lc, lT, l16, l240⟩, ⟨m19, ⟨mq, m97⟩, m16, mc⟩, hD⟩ := R
  obtain ⟨⟨c1, c2, c3⟩, ⟨c4, c5⟩, c6, c7, c8, c9⟩ := lc k hk
  obtain ⟨d1, d2, d3⟩ := hD k hk
  obtain ⟨e1, e2, e3, e4⟩ := mc k hk
  have hT := lT k hk
  have g := f.1
  rw [g (L + 3) (by omega) (by omega) (by omega), c3, show cl.2.2.2.1 k + 2 * k + 1 = cl.2.2.2.1 k + (2 * k + 1) by omega]
  rw [e3, e4, show ((cl.2.2.2.1 k : Int)).toNat = cl.2.2.2.1 k by omega, show ((cl.2.2.2.2 k : Int)).toNat = cl.2.2.2.2 k by omega] at K
  have hC : ∀ i, cl.2.2.2.1 k ≤ i → i < cl.2.2.2.2 k → M 97 i = q.2 i := fun i _ i2 => (m97 i (by omega)).1
  refine f_run hL (tt := true) (d3.ex hC) (by omega) (fun i i1 i2 => ?_) ?_ ?_ hF fun M2 f2 hb => K M2 ⟨fun c a1 a2 a3 => (f2.1 c a1 a3).trans (f.1 c a1 a2 a3), fun j j1 j2 => (f2.2 j j1 j2).trans (f.2 j j1 j2)⟩ (f2.1 (L + 6) (by omega) (by omega)) (hb rfl)
  · have z := c8 i i1 i2
    unfold crR at z ⊢
    rw [g (L + 4) (by omega) (by omega) (by omega), g (L + 5) (by omega) (by omega) (by omega), hC i i1 i2]
    exact z
  · rw [g (L + 4) (by omega) (by omega) (by omega), show cl.2.2.2.2 k + (2 * k + 1) = cl.2.2.2.2 k + 2 * k + 1 by omega]
    exact c9
  · rw [f.2 6 (by decide) (by decide), l6]
    omega
set_option maxRecDepth 20000 in
theorem f_mayHauntC (hL : L = 65 ∨ L = 73) {h night : Int} {M : MM} {q : LC} {cl : CL} (R : rL1 M L q cl) {n : Nat} (K : ∀ M1, lqF L M M1 → Q (vi (mh M h night)) M1) : PC sc n m_X0_mayHaunt [vr L, vi h, vi night] M Q := by
  have l0 := R.1.1.1
  have l16 := R.1.2.2.2.1
  have m19 := R.2.1.1
  obtain ⟨E, hE⟩ : ∃ E, E = mh M h night := ⟨_, rfl⟩
  rw [← hE] at K
  unfold mh at hE
  refine pc_X0_mayHaunt hL _ _ M fun n1 _ => f_tellNight hL fun M1 f1 t1 => ?_
  have lp : ∀ (m k n : Nat) (any : Int) (M2 : MM), k + m = 17 → k ≤ cl.1 → lqF L M M2 → (∀ j, j < 10 → M2 (L + 6) j = Fh h night j) → E = mhv (M 81 19) (M 98) (M 97) (M 100) (M 101) (Fh h night) m k any → PW sc n m_X0_mayHaunt 8 [] [some (vr L), some (vi h), some (vi night), some (vi any), some (vi (k : Int))] M2 Q := by
    intro m
    induction m with
    | zero =>
      intro k n any M2 hk h1 f2 t2 e
      omega
    | succ m ih =>
      intro k n any M2 hk h1 f2 t2 e
      rw [mhv_succ, m19] at e
      refine pw_X0_mayHaunt_8 hL _ _ _ _ M2 fun n2 _ => ?_
      rw [f2.2 0 (by decide) (by decide), l0, show ((k : Int)).toNat = k by omega, show w32 ((k : Int) + 1) = ((k + 1 : Nat) : Int) from ew32 (by omega) (by omega)]
      refine brP (fun g => ?_) fun g => gMB ?_
      · rw [if_pos g] at e
        refine brP (fun g2 => ?_) fun g2 => ?_
        · rw [if_pos g2] at e
          have z := K M2 f2
          rw [e] at z
          exact z
        · rw [if_neg g2] at e
          have z := K M2 f2
          rw [e] at z
          exact z
      · have hk2 : k < cl.1 := by omega
        have c1 := (R.1.2.1 k hk2).1.1
        have e98 := (R.2.1.2.2.2 k hk2).1
        rw [if_neg g] at e
        rw [f2.1 (L + 1) (by omega) (by omega) (by omega), c1, ← e98]
        refine brP (fun g2 => ?_) fun g2 => gMB (f_cond hL R f2 t2 hk2 fun M3 f3 t3 hb => cI_i ?_)
        · rw [if_neg g2, ← m19] at e
          exact ih (k + 1) n2 any M2 (by omega) (by omega) f2 t2 e
        · rw [if_pos (Classical.not_not.mp g2)] at e
          refine brP (fun g3 => ?_) fun g3 => ?_
          · rw [if_pos (by omega), ← m19] at e
            exact ih (k + 1) n2 1 M3 (by omega) (by omega) f3 (fun j hj => by rw [t3]; exact t2 j hj) e
          · rw [if_neg (by omega)] at e
            have z := K M3 f3
            rw [e] at z
            exact z
  exact lp 17 0 n1 0 M1 rfl (Nat.zero_le _) ⟨fun c _ c2 _ => f1 c c2, fun j _ _ => congrFun (f1 L (by omega)) j⟩ t1 hE
end MYH
