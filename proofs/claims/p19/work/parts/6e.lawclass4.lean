/-! PART 6e: THE LAW of the class: all clauses, the public method -/
section LEC
variable {sc : List Int} {Q : Vv → MM → Prop} {t : Nat → Int} {N L : Nat}
def q0L : LC := (0, fun _ => 0)
def cl0L : CL := (0, fun _ => 0, fun _ => 0, fun _ => 0, fun _ => 0)
/- what reading THE LAW leaves as it was -/
def ldF (L : Nat) (M M1 : MM) : Prop := (∀ c, c ≠ 22 → c ≠ 23 → (c < L ∨ L + 5 < c) → M1 c = M c) ∧ ∀ j, j ≠ 0 → j ≠ 6 → M1 L j = M L j
/- THE LAW as the class holds it -/
def lwR (M : MM) (L : Nat) (cl : CL) (C : Nat → Int) (c : Nat) : Prop := (M L 0 = (cl.1 : Int) ∧ M L 6 = ((c + 2 * cl.1 : Nat) : Int)) ∧ clR M L cl C ∧ (∀ k, k < cl.1 → cl.2.2.2.2 k ≤ c) ∧ cl.1 ≤ 16 ∧ c ≤ 240
theorem outL_D {q : LC} {cl : CL} {p : Nat} (hp : p = N) : outL t N p (zsD q cl) = .inr (zsD q cl) := by
  subst hp
  unfold outL
  rw [Nat.sub_self]
  exact if_pos rfl
set_option maxRecDepth 20000 in
theorem f_readLaw (hL : L = 65 ∨ L = 73) {M : MM} (h1 : 1 ≤ N ∧ N ≤ 240) (h2 : (N : Int) ≤ M 1 1) (ht : ∀ i, M 2 i = t i) (ht0 : ∀ i, 0 ≤ t i) {n : Nat} (k0 : ∀ f M1, outL t N 0 (zsK q0L cl0L) = .inl f → ldF L M M1 → Q (vi f) M1) (k1 : ∀ q cl M1, outL t N 0 (zsK q0L cl0L) = .inr (zsD q cl) → ldF L M M1 → lwR M1 L cl q.2 q.1 → Q (vi (cl.1 : Int)) M1) : PC sc n m_X1_read [vr 22, vr 1, vi (N : Int), vr L] M Q := by
  refine pc_X1_read hL _ M fun n1 _ => ?_
  rw [show mMin (N : Int) 240 = (N : Int) by unfold mMin; rw [if_neg (by omega)]]
  have fin : ∀ (n : Nat) (o5 : Option Vv) (Ma : MM), (∀ c, c ≠ 22 → c ≠ 23 → Ma c = M c) → Ma 22 1 = (N : Int) → (∀ j, j < N → Ma 23 j = t j) → PW sc n m_X1_read 7 [] [some (vr 22), some (vr 1), some (vi (N : Int)), some (vr L), some (vi (N : Int)), o5] Ma Q := fun n o5 Ma a1 a2 a3 => by
    refine pw_X1_read_7 hL _ _ o5 Ma fun n2 _ => ?_
    rw [a2]
    refine brT (Int.le_refl _) (pc_X0_clear hL _ fun n3 _ => ?_)
    obtain ⟨M3, hM3⟩ : ∃ M3, M3 = stM (stM (stM (stM Ma 22 2 0) 22 3 0) L 0 0) L 6 0 := ⟨_, rfl⟩
    rw [← hM3]
    have b1 : M3 22 1 = (N : Int) := by
      rw [hM3, stN (by omega), stN (by omega), stO (by decide), stO (by decide)]
      exact a2
    have b2 : ∀ i, i < N → M3 23 i = t i := fun i hi => by
      rw [hM3, stN (by omega), stN (by omega), stN (by decide), stN (by decide)]
      exact a3 i hi
    have b3 : ldF L M M3 := by
      rw [hM3]
      exact ⟨fun c c1 c2 c3 => by
        rw [stK (by omega), stK (by omega), stK c1, stK c1]
        exact a1 c c1 c2, fun j j1 j2 => by
        rw [stO j2, stO j1, stN (by omega), stN (by omega), a1 L (by omega) (by omega)]⟩
    have tr : ∀ {M4 : MM}, lrF L M3 M4 → ldF L M M4 := fun {M4} f => ⟨fun c c1 c2 c3 => (f.1 c c1 c3).trans (b3.1 c c1 c2 c3), fun j j1 j2 => (f.2.2 j j1 j2).trans (b3.2 j j1 j2)⟩
    have I0 : lsI L N 0 q0L cl0L M3 M3 := by
      refine ⟨⟨fun _ _ _ => rfl, fun _ _ _ => rfl, fun _ _ _ => rfl⟩, ⟨?_, ?_, ?_⟩, fun k hk => absurd hk (Nat.not_lt_zero k), fun k hk => absurd hk (Nat.not_lt_zero k), Nat.zero_le _, Nat.zero_le _, Nat.zero_le _, h1.2⟩
      · rw [hM3, stN (by omega), stN (by omega), stO (by decide)]
        exact stE
      · rw [hM3, stO (by decide)]
        exact stE
      · rw [hM3]
        exact stE
    clear hM3
    have bad : ∀ (n : Nat) (f : Int) (v4 v5 : Int) (M4 : MM), v4 = 0 → outL t N 0 (zsK q0L cl0L) = .inl f → lrF L M3 M4 → M4 22 3 = f → PW sc n m_X1_read 34 [] [some (vr 22), some (vr 1), some (vi (N : Int)), some (vr L), some (vi v4), some (vi v5)] M4 Q := fun n f v4 v5 M4 hv ho hf hz => by
      have K := k0 f M4 ho (tr hf)
      rw [← hz] at K
      exact pw_X1_read_34 hL _ _ _ M4 fun n5 _ => brP (fun _ => brT hv K) fun _ => brT hv (brT hv K)
    have lp : ∀ (n : Nat) (i p : Nat) (q : LC) (cl : CL) (v4 : Int) (M4 : MM), v4 = 1 → i < p → outL t N 0 (zsK q0L cl0L) = outL t N p (zsD q cl) → lsI L N p q cl M3 M4 → PW sc n m_X1_read 34 [] [some (vr 22), some (vr 1), some (vi (N : Int)), some (vr L), some (vi v4), some (vi (i : Int))] M4 Q := by
      intro n
      induction n using Nat.strongRecOn with
      | ind n ih =>
        intro i p q cl v4 M4 hv hi ho I
        have hb := I.2.2.2.2
        have c1 : M4 22 1 = (N : Int) := (I.1.2.1 1 (by decide) (by decide)).trans b1
        have c2 : ∀ j, j < N → M4 23 j = t j := fun j hj => by
          rw [I.1.1 23 (by decide) (by omega)]
          exact b2 j hj
        refine pw_X1_read_34 hL _ _ _ M4 fun n5 h5 => brF (by omega) (brF (by omega) ?_)
        rw [c1, I.2.1.1]
        refine brP (fun g => brF (by omega) ?_) fun g => p_expect (by decide) I.2.1.1 c1 hb.2.2.2 hb.2.2.1 c2 (fun hne w hw => ?_) fun hlt h59 w hw => ?_
        · rw [I.2.1.2.1]
          exact k1 q cl M4 (ho.trans (outL_D (by omega))) (tr I.1) ⟨⟨I.2.1.2.1, I.2.1.2.2⟩, I.2.2.1, I.2.2.2.1, hb.1, by omega⟩
        · have hlt : p < N := by omega
          rw [chL_at hlt] at hne
          refine cI_i (brT hw (bad _ (-1000 * 1 - (p : Int)) _ _ _ rfl (ho.trans (outL_no hlt ?_)) ⟨fun c d1 d2 => (stK d1).trans (I.1.1 c d1 d2), fun j d1 d2 => (stO d2).trans (I.1.2.1 j d1 d2), fun j d1 d2 => (stN (by omega)).trans (I.1.2.2 j d1 d2)⟩ ?_))
          · show (if t p = 59 then .inr (zsK q cl) else flt 1 p) = _
            rw [if_neg hne]
            rfl
          · rw [stE]
            omega
        · refine cI_i (brF (by omega) ?_)
          rw [show w32 ((i : Int) + 1) = ((i + 1 : Nat) : Int) from ew32 (by omega) (by omega)]
          have hgo : outL t N 0 (zsK q0L cl0L) = outL t N (p + 1) (zsK q cl) := ho.trans (outL_go hlt (by
            show (if t p = 59 then .inr (zsK q cl) else flt 1 p) = _
            exact if_pos h59))
          refine f_clause hL b1 b2 ht0 (p := p + 1) (q := q) (cl := cl) (M0 := M3) ⟨⟨fun c d1 d2 => (stK d1).trans (I.1.1 c d1 d2), fun j d1 d2 => (stO d1).trans (I.1.2.1 j d1 d2), fun j d1 d2 => (stN (by omega)).trans (I.1.2.2 j d1 d2)⟩, ⟨stE, (stN (by omega)).trans I.2.1.2.1, (stN (by omega)).trans I.2.1.2.2⟩, I.2.2.1.eq I.2.2.2.1 (fun k _ => ⟨stN (by omega), stN (by omega), stN (by omega)⟩) (fun j _ => ⟨stN (by omega), stN (by omega)⟩) (fun _ _ => rfl), I.2.2.2.1, by omega⟩ (fun f M5 e1 e2 e3 z hz => cI_i (brT hz (bad _ f _ _ _ rfl (hgo.trans e1) e2 e3))) fun p1 q1 cl1 M5 e1 e2 e3 z hz => cI_i (brF (by omega) (ih n5 h5 (i + 1) p1 q1 cl1 _ M5 rfl (by omega) (hgo.trans e1) e3))
    refine f_clause hL b1 b2 ht0 I0 (fun f M5 e1 e2 e3 z hz => cI_i (bad _ f _ _ _ hz e1 e2 e3)) fun p1 q1 cl1 M5 e1 e2 e3 z hz => cI_i (lp _ 0 p1 q1 cl1 _ M5 hz (by omega) e1 e3)
  have cp : ∀ (m i n : Nat) (o5 : Option Vv) (Ma : MM), i + m = N → (∀ c, c ≠ 22 → c ≠ 23 → Ma c = M c) → Ma 22 1 = (N : Int) → (∀ j, j < i → Ma 23 j = t j) → PW sc n m_X1_read 7 [] [some (vr 22), some (vr 1), some (vi (N : Int)), some (vr L), some (vi (i : Int)), o5] Ma Q := by
    intro m
    induction m with
    | zero =>
      intro i n o5 Ma hi a1 a2 a3
      have hi : i = N := hi
      subst hi
      exact fin n o5 Ma a1 a2 a3
    | succ m ih =>
      intro i n o5 Ma hi a1 a2 a3
      refine pw_X1_read_7 hL _ _ o5 Ma fun n2 _ => ?_
      rw [a2]
      refine brF (by omega) (p_at (by rw [a1 1 (by decide) (by decide)]; omega) (cI_i (gMB ?_)))
      rw [show ((i : Int)).toNat = i by omega, a1 2 (by decide) (by decide), ht i, show w32 ((i : Int) + 1) = ((i + 1 : Nat) : Int) from ew32 (by omega) (by omega)]
      refine ih (i + 1) n2 o5 _ (by omega) (fun c c1 c2 => (stK c2).trans (a1 c c1 c2)) ((stN (by decide)).trans a2) fun j hj => ?_
      by_cases e : j = i
      · subst e
        exact stE
      · rw [stO e]
        exact a3 j (by omega)
  exact cp N 0 n1 none _ (Nat.zero_add _) (fun c c1 c2 => stK c1) stE fun j hj => absurd hj (Nat.not_lt_zero j)
/- LAW of the class -/
set_option maxRecDepth 20000 in
theorem f_lawC {v : Int} {n L L2 : Nat} {M : MM} (hL : (L = 65 ∧ L2 = 73) ∨ (L = 73 ∧ L2 = 65)) (e12 : M 0 12 = (L2 : Int) + 1) (e13 : M 0 13 = (L : Int) + 1) (ht : ∀ i, M 2 i = t i) (ht0 : ∀ i, 0 ≤ t i) (k0 : ¬ (1 ≤ v ∧ v ≤ 240 ∧ v ≤ M 1 1) → Q (vi (-1)) M) (k1 : (1 ≤ v ∧ v ≤ 240 ∧ v ≤ M 1 1) → ∀ f M1, outL t v.toNat 0 (zsK q0L cl0L) = .inl f → (∀ c, c ≠ 1 → c ≠ 22 → c ≠ 23 → (c < L ∨ L + 5 < c) → M1 c = M c) → M1 1 1 = 0 → Q (vi f) M1) (k2 : (1 ≤ v ∧ v ≤ 240 ∧ v ≤ M 1 1) → ∀ q cl M1, outL t v.toNat 0 (zsK q0L cl0L) = .inr (zsD q cl) → (∀ c, c ≠ 0 → c ≠ 1 → c ≠ 22 → c ≠ 23 → (c < L ∨ L + 5 < c) → M1 c = M c) → M1 1 1 = 0 → (M1 0 12 = (L : Int) + 1 ∧ M1 0 13 = (L2 : Int) + 1 ∧ ∀ j, j ≠ 12 → j ≠ 13 → M1 0 j = M 0 j) → lwR M1 L cl q.2 q.1 → Q (vi (cl.1 : Int)) M1) : PC sc n m_X11_law [vr 0, vi v] M Q := by
  refine pc_X11_law v M fun n1 _ => p_hasText (fun q y hy => cI_i (brF (by omega) (k0 q))) fun q y hy => cI_i (brT (by omega) ?_)
  have k3 := k1 q
  have k4 := k2 q
  clear k0 k1 k2
  obtain ⟨N, hN⟩ : ∃ N : Nat, v = (N : Int) := ⟨v.toNat, by omega⟩
  subst hN
  rw [show ((N : Int)).toNat = N by omega] at k3 k4
  rw [e13, show ((L : Int) + 1).toNat - 1 = L by omega]
  refine gMB (f_readLaw (by omega) (by omega) q.2.2 ht ht0 (fun f M1 h1 h2 => cI_i (pc_X7_empty M1 fun n2 _ => brT (outL_neg h1) (k3 f _ h1 (fun c c1 c2 c3 c4 => (stK c1).trans (h2.1 c c2 c3 c4)) stE))) fun q1 cl1 M1 h1 h2 h3 => cI_i (pc_X7_empty M1 fun n2 _ => brF (by omega) (gMB (gMB ?_))))
  have e0 : ∀ j, stM M1 1 1 0 0 j = M 0 j := fun j => (stN (by decide)).trans (congrFun (h2.1 0 (by decide) (by decide) (by omega)) j)
  rw [e0, e0, e12, e13, show (((L : Int) + 1).toNat - 1 : Nat) = L by omega, show (((L2 : Int) + 1).toNat - 1 : Nat) = L2 by omega]
  refine k4 q1 cl1 _ h1 (fun c c0 c1 c2 c3 c4 => ?_) ?_ ⟨?_, stE, fun j j1 j2 => ?_⟩ ?_
  · rw [stK c0, stK c0, stK c1]
    exact h2.1 c c2 c3 c4
  · rw [stN (by decide), stN (by decide)]
    exact stE
  · rw [stO (by decide)]
    exact stE
  · rw [stO j2, stO j1]
    exact e0 j
  · have hk : ∀ c, L ≤ c → c ≤ L + 5 → stM (stM (stM M1 1 1 0) 0 12 ((L : Int) + 1)) 0 13 ((L2 : Int) + 1) c = M1 c := fun c c1 c2 => by
      rw [stK (by omega), stK (by omega), stK (by omega)]
    refine ⟨?_, h3.2.1.eq h3.2.2.1 (fun k hk1 => ⟨?_, ?_, ?_⟩) (fun i hi => ⟨?_, ?_⟩) (fun _ _ => rfl), h3.2.2⟩
    · rw [hk L (by omega) (by omega)]
      exact h3.1
    · rw [hk (L + 1) (by omega) (by omega)]
    · rw [hk (L + 2) (by omega) (by omega)]
    · rw [hk (L + 3) (by omega) (by omega)]
    · rw [hk (L + 4) (by omega) (by omega)]
    · rw [hk (L + 5) (by omega) (by omega)]
end LEC
