/-! PART 6d: THE LAW's text, read by the class: clauses, the whole -/
theorem pc_X11_law {sc : List Int} {n : Nat} {Q : Vv → MM → Prop} (v1 : Int) (M : MM) (h : ∀ n1, n1 < n → PC sc n1 m_X7_hasText [vr 1, vi v1, vi 240] M (cI fun r2 M1 =>
  brA (decide (r2 ≠ 0))
   (gIm (decide (0 < M1 0 13)) (PC sc n1 m_X1_read [vr 22, vr 1, vi v1, vr ((M1 0 13).toNat - 1)] M1 (cI fun r4 M3 =>
    PC sc n1 m_X7_empty [vr 1] M3 (fun _ M5 =>
     brA (decide (r4 < 0))
      (Q (vi r4) M5)
      (gIm (decide (0 < M5 0 12)) (gIm (decide (0 < M5 0 13)) (Q (vi r4) (stM (stM M5 0 12 ((((M5 0 13).toNat - 1 : Nat) : Int) + 1)) 0 13 ((((M5 0 12).toNat - 1 : Nat) : Int) + 1)))))))))
   (Q (vi ((-1))) M1))) : PC sc n m_X11_law [vr 0, vi v1] M Q := pc_go rfl (fun j => false) 39 h
theorem flt_neg {n f : Int} {p : Nat} (hn : 1 ≤ n) (h : flt n p = .inl f) : f < 0 := by
  have : -1000 * n - (p : Int) = f := Sum.inl.inj h
  omega
theorem ztA_neg {x : Nat × Int} {W : List Int} {q : LC} {cl : CL} {ch f : Int} {p : Nat} (h : ztA x W q cl ch p = .inl f) : f < 0 := by
  unfold ztA at h
  split at h
  · split at h
    · exact flt_neg (by decide) h
    · cases h
  · split at h
    · cases h
    · split at h
      · cases h
      · exact flt_neg (by decide) h
theorem ztR_neg {W : List Int} {q : LC} {cl : CL} {ch f : Int} {p : Nat} (h : ztR W q cl ch p = .inl f) : f < 0 := by
  unfold ztR at h
  split at h
  · split at h
    · exact flt_neg (by decide) h
    · split at h
      · cases h
      · cases h
  · split at h
    · cases h
    · split at h
      · cases h
      · exact flt_neg (by decide) h
theorem ztO_neg {q : LC} {cl : CL} {ch f : Int} {p : Nat} (h : ztO q cl ch p = .inl f) : f < 0 := by
  unfold ztO at h
  split at h
  · cases h
  · exact flt_neg (by decide) h
theorem ztE_neg {x : Nat × Int} {W : List Int} {q : LC} {cl : CL} {ch f : Int} {p : Nat} (h : ztE x W q cl ch p = .inl f) : f < 0 := by
  unfold ztE at h
  split at h
  · exact ztO_neg h
  · split at h
    · cases h
    · exact flt_neg (by decide) h
  · exact ztR_neg h
theorem ztB_neg {x : Nat × Int} {W : List Int} {q : LC} {cl : CL} {ch f : Int} {p : Nat} (h : ztB x W q cl ch p = .inl f) : f < 0 := by
  unfold ztB at h
  split at h
  · cases h
  · split at h
    · cases h
    · split at h
      · split at h
        · cases h
        · exact flt_neg (by decide) h
      · exact ztE_neg h
theorem ztN_neg {x : Nat × Int} {cnt : Nat} {v : Int} {W : List Int} {q : LC} {cl : CL} {ch f : Int} {p : Nat} (h : ztN x cnt v W q cl ch p = .inl f) : f < 0 := by
  unfold ztN at h
  split at h
  · split at h
    · exact flt_neg (by decide) h
    · cases h
  · exact ztB_neg h
theorem ztP_neg {W : List Int} {q : LC} {cl : CL} {ch f : Int} {p : Nat} (h : ztP W q cl ch p = .inl f) : f < 0 := by
  unfold ztP at h
  split at h
  · split at h
    · exact flt_neg (by decide) h
    · cases h
  · split at h
    · split at h
      · exact flt_neg (by decide) h
      · cases h
    · exact ztA_neg h
theorem ztK_neg {q : LC} {cl : CL} {ch f : Int} {p : Nat} (h : ztK q cl ch p = .inl f) : f < 0 := by
  unfold ztK at h
  split at h
  · split at h
    · exact flt_neg (by decide) h
    · split at h
      · cases h
      · cases h
  · exact flt_neg (by decide) h
theorem stepL_neg {S : LSt} {ch f : Int} {p : Nat} (h : stepL S ch p = .inl f) : f < 0 := by
  unfold stepL at h
  split at h
  · exact ztA_neg h
  · exact ztN_neg h
  · exact ztB_neg h
  · exact ztP_neg h
  · exact ztR_neg h
  · exact ztO_neg h
  · split at h
    · cases h
    · exact flt_neg (by decide) h
  · exact ztK_neg h
theorem outL_neg {t : Nat → Int} {N p : Nat} {S : LSt} {f : Int} (h : outL t N p S = .inl f) : f < 0 := by
  have : ∀ (m p : Nat) (S : LSt), runL t m p S = .inl f → f < 0 := by
    intro m
    induction m with
    | zero =>
      intro p S h
      have h : (if S.1.1 = 6 then .inr S else flt 1 p) = Sum.inl f := h
      split at h
      · cases h
      · exact flt_neg (by decide) h
    | succ m ih =>
      intro p S h
      have h : (match stepL S (t p) p with
        | .inl f => .inl f
        | .inr S2 => runL t m (p + 1) S2) = Sum.inl f := h
      cases e : stepL S (t p) p with
      | inl g =>
        rw [e] at h
        have h : (Sum.inl g : LRs) = Sum.inl f := h
        rw [← Sum.inl.inj h]
        exact stepL_neg e
      | inr S2 =>
        rw [e] at h
        exact ih _ _ h
  exact this _ _ _ h
/- the clauses that the class has read -/
def clR (M : MM) (L : Nat) (cl : CL) (C : Nat → Int) : Prop := ∀ k, k < cl.1 → (M (L + 1) k = cl.2.1 k ∧ M (L + 2) k = ((cl.2.2.1 k + 2 * k : Nat) : Int) ∧ M (L + 3) k = ((cl.2.2.2.1 k + 2 * k + 1 : Nat) : Int)) ∧ (cl.2.2.1 k ≤ cl.2.2.2.1 k ∧ cl.2.2.2.1 k ≤ cl.2.2.2.2 k) ∧ (∀ i, cl.2.2.1 k ≤ i → i < cl.2.2.2.1 k → crR M L C (2 * k) i) ∧ M (L + 4) (cl.2.2.2.1 k + 2 * k) = 59 ∧ (∀ i, cl.2.2.2.1 k ≤ i → i < cl.2.2.2.2 k → crR M L C (2 * k + 1) i) ∧ M (L + 4) (cl.2.2.2.2 k + 2 * k + 1) = 59
def lrF (L : Nat) (M0 M : MM) : Prop := (∀ c, c ≠ 22 → (c < L ∨ L + 5 < c) → M c = M0 c) ∧ (∀ j, j ≠ 2 → j ≠ 3 → M 22 j = M0 22 j) ∧ ∀ j, j ≠ 0 → j ≠ 6 → M L j = M0 L j
/- the class between clauses -/
def lsI (L N p : Nat) (q : LC) (cl : CL) (M0 M : MM) : Prop := lrF L M0 M ∧ (M 22 2 = (p : Int) ∧ M L 0 = (cl.1 : Int) ∧ M L 6 = ((q.1 + 2 * cl.1 : Nat) : Int)) ∧ clR M L cl q.2 ∧ (∀ k, k < cl.1 → cl.2.2.2.2 k ≤ q.1) ∧ (cl.1 ≤ 16 ∧ q.1 ≤ p ∧ p ≤ N ∧ N ≤ 240)
/- what is kept of clauses where codes from b on alone change -/
theorem clR.eq {M M1 : MM} {L : Nat} {cl : CL} {C C1 : Nat → Int} {c : Nat} (h : clR M L cl C) (hT : ∀ k, k < cl.1 → cl.2.2.2.2 k ≤ c) (h1 : ∀ k, k < cl.1 → M1 (L + 1) k = M (L + 1) k ∧ M1 (L + 2) k = M (L + 2) k ∧ M1 (L + 3) k = M (L + 3) k) (h4 : ∀ i, i < c + 2 * cl.1 → M1 (L + 4) i = M (L + 4) i ∧ M1 (L + 5) i = M (L + 5) i) (hC : ∀ i, i < c → C1 i = C i) : clR M1 L cl C1 := fun k hk => by
  obtain ⟨⟨a1, a2, a3⟩, a4, a5, a6, a7, a8⟩ := h k hk
  obtain ⟨b1, b2, b3⟩ := h1 k hk
  have hTk := hT k hk
  refine ⟨⟨b1.trans a1, b2.trans a2, b3.trans a3⟩, a4, fun i i1 i2 => ?_, ?_, fun i i1 i2 => ?_, ?_⟩
  · have := a5 i i1 i2
    unfold crR at this ⊢
    rw [hC i (by omega), (h4 (i + 2 * k) (by omega)).1, (h4 (i + 2 * k) (by omega)).2]
    exact this
  · rw [(h4 _ (by omega)).1]
    exact a6
  · have := a7 i i1 i2
    unfold crR at this ⊢
    rw [hC i (by omega), (h4 (i + (2 * k + 1)) (by omega)).1, (h4 (i + (2 * k + 1)) (by omega)).2]
    exact this
  · rw [(h4 _ (by omega)).1]
    exact a8
section LES
variable {sc : List Int} {Q : Vv → MM → Prop} {t : Nat → Int} {N L : Nat} {M0 : MM}
set_option maxRecDepth 20000 in
theorem f_clause (hL : L = 65 ∨ L = 73) (hN : M0 22 1 = (N : Int)) (ht : ∀ i, i < N → M0 23 i = t i) (ht0 : ∀ i, 0 ≤ t i) {p n : Nat} {q : LC} {cl : CL} {M : MM} (I : lsI L N p q cl M0 M) (k0 : ∀ f M1, outL t N p (zsK q cl) = .inl f → lrF L M0 M1 → M1 22 3 = f → ∀ z : Int, z = 0 → Q (vi z) M1) (k1 : ∀ p1 q1 cl1 M1, outL t N p (zsK q cl) = outL t N p1 (zsD q1 cl1) → p < p1 → lsI L N p1 q1 cl1 M0 M1 → ∀ z : Int, z = 1 → Q (vi z) M1) : PC sc n m_X1_readClause [vr 22, vr L] M Q := by
  obtain ⟨fr, ⟨e2, eL0, eL6⟩, hcl, hTO, hb⟩ := id I
  have hlM : M 22 1 = (N : Int) := (fr.2.1 1 (by decide) (by decide)).trans hN
  have htM : ∀ i, i < N → M 23 i = t i := fun i hi => by
    rw [fr.1 23 (by decide) (by omega)]
    exact ht i hi
  have frX : ∀ v : Int, lrF L M0 (stM M 22 3 v) := fun v => ⟨fun c h1 h2 => (stK h1).trans (fr.1 c h1 h2), fun j h1 h2 => (stO h2).trans (fr.2.1 j h1 h2), fun j h1 h2 => (stN (by omega)).trans (fr.2.2 j h1 h2)⟩
  have e1 : ∀ p : Nat, flt 1 p = .inl (-1000 - (p : Int)) := fun p => by
    show Sum.inl (-1000 * 1 - (p : Int)) = _
    rw [show -1000 * 1 - (p : Int) = -1000 - (p : Int) by omega]
  refine pc_X1_readClause hL M fun n1 h1 => p_next e2 hlM htM fun c hc => cI_i ?_
  have go : isCl c → PW sc n1 m_X1_readClause 19 [] [some (vr 22), some (vr L), some (vi c)] M Q := fun hcl' => by
    have hlt : p < N := chL_lt (t := t) (by unfold isCl at hcl'; omega)
    rw [chL_at hlt] at hc
    refine pw_X1_readClause_19 hL c M fun n2 h2 => ?_
    rw [eL0, e2]
    refine brP (fun h16 => ?_) fun h16 => p_fail (by omega) (by omega) e2 fun w hw => gMB (k0 _ _ (outL_no hlt ?_) (frX _) stE w hw)
    · have e19 : w32 ((p : Int) + 1) = ((p + 1 : Nat) : Int) := ew32 (by omega) (by omega)
      rw [e19]
      clear e19
      refine pc_X0_openClause hL _ _ fun n3 _ => ?_
      rw [stN (k := 22) (k' := L) (by omega), stN (k := 22) (k' := L) (by omega), eL0, eL6, show ((cl.1 : Int)).toNat = cl.1 by omega, show w32 ((cl.1 : Int) + 1) = ((cl.1 + 1 : Nat) : Int) from ew32 (by omega) (by omega)]
      refine brF (by omega) (gMB (gMB (gMB ?_)))
      obtain ⟨Ma, hMa⟩ : ∃ Ma, Ma = stM (stM (stM (stM (stM M 22 2 ((p + 1 : Nat) : Int)) (L + 1) cl.1 c) (L + 2) cl.1 ((q.1 + 2 * cl.1 : Nat) : Int)) (L + 3) cl.1 ((q.1 + 2 * cl.1 : Nat) : Int)) L 0 ((cl.1 + 1 : Nat) : Int) := ⟨_, rfl⟩
      rw [← hMa]
      have fra : lrF L M0 Ma := by
        rw [hMa]
        refine ⟨fun d h1 h2 => ?_, fun j h1 h2 => ?_, fun j h1 h2 => ?_⟩
        · rw [stK (by omega), stK (by omega), stK (by omega), stK (by omega), stK (by omega)]
          exact fr.1 d h1 h2
        · rw [stN (by omega), stN (by omega), stN (by omega), stN (by omega), stO (by omega)]
          exact fr.2.1 j h1 h2
        · rw [stO (by omega), stN (by omega), stN (by omega), stN (by omega), stN (by omega)]
          exact fr.2.2 j h1 h2
      have a2 : Ma 22 2 = ((p + 1 : Nat) : Int) := by
        rw [hMa, stN (by omega), stN (by omega), stN (by omega), stN (by omega), stE]
      have aL0 : Ma L 0 = ((cl.1 + 1 : Nat) : Int) := by
        rw [hMa]
        exact stE
      have aL6 : Ma L 6 = ((q.1 + 2 * cl.1 : Nat) : Int) := by
        rw [hMa, stO (by decide), stN (by omega), stN (by omega), stN (by omega), stN (by omega)]
        exact eL6
      have aA : ∀ k, (k ≠ cl.1 → Ma (L + 1) k = M (L + 1) k ∧ Ma (L + 2) k = M (L + 2) k ∧ Ma (L + 3) k = M (L + 3) k) := fun k hk => by
        rw [hMa, stN (by omega), stN (by omega), stN (by omega), stO hk, stN (by omega), stN (by omega), stN (by omega), stO hk, stN (by omega), stN (by omega), stN (by omega), stO hk, stN (by omega), stN (by omega), stN (by omega)]
        exact ⟨rfl, rfl, rfl⟩
      have aK : Ma (L + 1) cl.1 = c ∧ Ma (L + 2) cl.1 = ((q.1 + 2 * cl.1 : Nat) : Int) := by
        rw [hMa, stN (by omega), stN (by omega), stN (by omega), stE, stN (by omega), stN (by omega), stE]
        exact ⟨rfl, rfl⟩
      have a45 : ∀ i, Ma (L + 4) i = M (L + 4) i ∧ Ma (L + 5) i = M (L + 5) i := fun i => by
        rw [hMa, stN (by omega), stN (by omega), stN (by omega), stN (by omega), stN (by omega), stN (by omega), stN (by omega), stN (by omega), stN (by omega), stN (by omega)]
        exact ⟨rfl, rfl⟩
      clear hMa
      have clA : CL := (cl.1, upF cl.2.1 cl.1 c, upF cl.2.2.1 cl.1 q.1, cl.2.2.2.1, cl.2.2.2.2)
      have lfa : lrF L M0 Ma := fra
      have aN : Ma 22 1 = (N : Int) := (fra.2.1 1 (by decide) (by decide)).trans hN
      have aT : ∀ i, i < N → Ma 23 i = t i := fun i hi => by
        rw [fra.1 23 (by decide) (by omega)]
        exact ht i hi
      have lrlc : ∀ {Mb Mc : MM}, lrF L M0 Mb → lcF L Mb Mc → lrF L M0 Mc := fun f g => ⟨fun d h1 h2 => (g.1 d h1 (by omega) (by omega) (by omega)).trans (f.1 d h1 h2), fun j h1 h2 => (g.2.1 j h1 h2).trans (f.2.1 j h1 h2), fun j h1 h2 => (g.2.2 j h2).trans (f.2.2 j h1 h2)⟩
      -- behind the E
      have h46 : ∀ (n p1 : Nat) (q1 : LC) (M1 : MM), lpI L q.1 (2 * cl.1) N p1 q1 Ma M1 → p < p1 → preC q q1 → (∀ f : Int, (chL t N p1 ≠ 40 → outL t N p (zsK q cl) = .inl (-1000 - (p1 : Int)))) → (p1 < N → t p1 = 40 → outL t N p (zsK q cl) = outL t N (p1 + 1) (zsP [1048576 * 13] q1 (cl.1, upF cl.2.1 cl.1 c, upF cl.2.2.1 cl.1 q.1, upF cl.2.2.2.1 cl.1 q1.1, cl.2.2.2.2))) → PW sc n m_X1_readClause 46 [] [some (vr 22), some (vr L), some (vi c)] M1 Q := by
        intro n p1 q1 M1 I1 hp1 hpre hno hyes
        obtain ⟨f1, ⟨b2, bL6⟩, bas, bcr, bb⟩ := id I1
        have bL0 : M1 L 0 = ((cl.1 + 1 : Nat) : Int) := (f1.2.2 0 (by decide)).trans aL0
        refine pw_X1_readClause_46 hL c M1 fun n2 _ => pc_X0_add hL _ _ M1 fun n3 _ => ?_
        rw [bL6, show (((q1.1 + 2 * cl.1 : Nat) : Int)).toNat = q1.1 + 2 * cl.1 by omega, show w32 (((q1.1 + 2 * cl.1 : Nat) : Int) + 1) = ((q1.1 + (2 * cl.1 + 1) : Nat) : Int) from ew32 (by omega) (by omega)]
        refine brF (by omega) (gMB (gMB (cI_i (pc_X0_openCondition hL _ fun n4 _ => ?_))))
        rw [stO (k := L) (j := 6) (j' := 0) (by decide), stN (k := L + 5) (k' := L) (by omega), stN (k := L + 4) (k' := L) (by omega), bL0, stE, show w32 (((cl.1 + 1 : Nat) : Int) - 1) = (cl.1 : Int) by rw [ew32 (by omega) (by omega)]; omega, show ((cl.1 : Int)).toNat = cl.1 by omega]
        refine brF (by omega) (gMB ?_)
        obtain ⟨Mb, hMb⟩ : ∃ Mb, Mb = stM (stM (stM (stM M1 (L + 4) (q1.1 + 2 * cl.1) 59) (L + 5) (q1.1 + 2 * cl.1) 0) L 6 ((q1.1 + (2 * cl.1 + 1) : Nat) : Int)) (L + 3) cl.1 ((q1.1 + (2 * cl.1 + 1) : Nat) : Int) := ⟨_, rfl⟩
        rw [← hMb]
        have c2 : Mb 22 2 = (p1 : Int) := by
          rw [hMb, stN (by omega), stN (by omega), stN (by omega), stN (by omega)]
          exact b2
        have cF : lrF L M0 Mb := by
          have f2 := lrlc fra f1
          rw [hMb]
          refine ⟨fun d h1 h2 => ?_, fun j h1 h2 => ?_, fun j h1 h2 => ?_⟩
          · rw [stK (by omega), stK (by omega), stK (by omega), stK (by omega)]
            exact f2.1 d h1 h2
          · rw [stN (by omega), stN (by omega), stN (by omega), stN (by omega)]
            exact f2.2.1 j h1 h2
          · rw [stN (by omega), stO (by omega), stN (by omega), stN (by omega)]
            exact f2.2.2 j h1 h2
        have cL0 : Mb L 0 = ((cl.1 + 1 : Nat) : Int) := by
          rw [hMb, stN (by omega), stO (by omega), stN (by omega), stN (by omega)]
          exact bL0
        have cL6 : Mb L 6 = ((q1.1 + (2 * cl.1 + 1) : Nat) : Int) := by
          rw [hMb, stN (by omega), stE]
        have cA : ∀ k, (k ≠ cl.1 → Mb (L + 1) k = M (L + 1) k ∧ Mb (L + 2) k = M (L + 2) k ∧ Mb (L + 3) k = M (L + 3) k) := fun k hk => by
          have g1 := f1.1 (L + 1) (by omega) (by omega) (by omega) (by omega)
          have g2 := f1.1 (L + 2) (by omega) (by omega) (by omega) (by omega)
          have g3 := f1.1 (L + 3) (by omega) (by omega) (by omega) (by omega)
          rw [hMb, stN (by omega), stN (by omega), stN (by omega), stN (by omega), stN (by omega), stN (by omega), stN (by omega), stN (by omega), stO hk, stN (by omega), stN (by omega), stN (by omega), g1, g2, g3]
          exact aA k hk
        have cK : Mb (L + 1) cl.1 = c ∧ Mb (L + 2) cl.1 = ((q.1 + 2 * cl.1 : Nat) : Int) ∧ Mb (L + 3) cl.1 = ((q1.1 + (2 * cl.1 + 1) : Nat) : Int) := by
          have g1 := f1.1 (L + 1) (by omega) (by omega) (by omega) (by omega)
          have g2 := f1.1 (L + 2) (by omega) (by omega) (by omega) (by omega)
          rw [hMb, stN (by omega), stN (by omega), stN (by omega), stN (by omega), stN (by omega), stN (by omega), stN (by omega), stN (by omega), stE, g1, g2]
          exact ⟨aK.1, aK.2, rfl⟩
        have c45 : ∀ i, i ≠ q1.1 + 2 * cl.1 → Mb (L + 4) i = M1 (L + 4) i ∧ Mb (L + 5) i = M1 (L + 5) i := fun i hi => by
          rw [hMb, stN (by omega), stN (by omega), stN (by omega), stO hi, stN (by omega), stN (by omega), stO hi, stN (by omega)]
          exact ⟨rfl, rfl⟩
        have c59 : Mb (L + 4) (q1.1 + 2 * cl.1) = 59 := by
          rw [hMb, stN (by omega), stN (by omega), stN (by omega), stE]
        clear hMb
        have cN : Mb 22 1 = (N : Int) := (cF.2.1 1 (by decide) (by decide)).trans hN
        have cT : ∀ i, i < N → Mb 23 i = t i := fun i hi => by
          rw [cF.1 23 (by decide) (by omega)]
          exact ht i hi
        have cX : ∀ v : Int, lrF L M0 (stM Mb 22 3 v) := fun v => ⟨fun d h1 h2 => (stK h1).trans (cF.1 d h1 h2), fun j h1 h2 => (stO h2).trans (cF.2.1 j h1 h2), fun j h1 h2 => (stN (by omega)).trans (cF.2.2 j h1 h2)⟩
        refine p_expect (by decide) c2 cN (by omega) (by omega) cT (fun hne w hw => brT hw (k0 _ _ (hno 0 hne) (cX _) stE 0 rfl)) fun hlt1 h40 w hw => brF (by omega) ?_
        have hgo := hyes hlt1 h40
        -- the condition
        obtain ⟨Mc, hMc⟩ : ∃ Mc, Mc = stM Mb 22 2 ((p1 + 1 : Nat) : Int) := ⟨_, rfl⟩
        rw [← hMc]
        have d2 : Mc 22 2 = ((p1 + 1 : Nat) : Int) := by rw [hMc]; exact stE
        have dF : lrF L M0 Mc := by
          rw [hMc]
          exact ⟨fun d h1 h2 => (stK h1).trans (cF.1 d h1 h2), fun j h1 h2 => (stO h1).trans (cF.2.1 j h1 h2), fun j h1 h2 => (stN (by omega)).trans (cF.2.2 j h1 h2)⟩
        have dE : ∀ d, d ≠ 22 → Mc d = Mb d := fun d hd => by rw [hMc]; exact stK hd
        clear hMc
        have dN : Mc 22 1 = (N : Int) := (dF.2.1 1 (by decide) (by decide)).trans hN
        have dT : ∀ i, i < N → Mc 23 i = t i := fun i hi => by
          rw [dF.1 23 (by decide) (by omega)]
          exact ht i hi
        have I2 : lpI L q1.1 (2 * cl.1 + 1) N (p1 + 1) q1 Mc Mc := ⟨lcF.rf L Mc, ⟨d2, by rw [dE L (by omega)]; exact cL6⟩, fun i _ => ⟨rfl, rfl⟩, fun i i1 i2 => by omega, by omega⟩
        have h13 : cop (1048576 * 13) = 13 := cop_u 13
        have hop : opn [1048576 * 13] = 1 := by rw [opn_u, if_pos (.inr (.inl rfl))]; rfl
        have hE := (f_condC (sc := sc) (a := q1.1) (off := 2 * cl.1 + 1) hL dN dT ht0 n2).2.2
        rw [show (1 : Int) = (opn [1048576 * 13] : Int) by rw [hop]; rfl]
        refine hE _ [1048576 * 13] q1 (cl.1, upF cl.2.1 cl.1 c, upF cl.2.2.1 cl.1 q.1, upF cl.2.2.2.1 cl.1 q1.1, cl.2.2.2.2) (p1 + 1) Mc I2 (by omega) ⟨by show ¬ (2 ≤ cop (1048576 * 13) ∧ cop (1048576 * 13) ≤ 6); rw [h13]; omega, fun z => by
          rcases hasO_c z with z | z
          · rw [h13] at z
            omega
          · exact absurd z (by decide), fun z => by cases z⟩ h13 ⟨fun f M3 g1 g2 z hz => brT hz (k0 f M3 (hgo.trans g1) (lrlc dF g2.1) g2.2 0 rfl), fun p2 q2 M3 g1 g2 g3 g4 g5 z hz => brF (by omega) ?_⟩
        obtain ⟨f3, ⟨v2, vL6⟩, vas, vcr, vb⟩ := id g2
        have hl3 := g2.NN hL dN dT
        refine p_expect (by decide) v2 hl3.1 (by omega) (by omega) hl3.2 (fun hne w hw => brF (fun z => z hw) ?_) fun hlt2 h41 w hw => brT (by omega) ?_
        · refine k0 _ _ ?_ (lrlc dF (f3.st hL (.inl ⟨rfl, .inr rfl⟩))) stE 0 rfl
          rw [hgo, g1]
          by_cases z : p2 < N
          · have g5 : chL t N p2 ≠ 38 ∧ chL t N p2 ≠ 124 := g5
            rw [chL_at z] at hne g5
            rw [← e1 p2]
            refine (outL_no z ?_).trans (e1 p2).symm
            show ztR [1048576 * 13] q2 _ (t p2) p2 = _
            exact ztR_bad _ _ _ _ hne g5.1 g5.2
          · rw [outL_end (by omega) (by show (4 : Nat) ≠ 6; decide), e1]
        · refine pc_X0_add hL _ _ _ fun n5 _ => ?_
          rw [stN (k := 22) (k' := L) (by omega), vL6, show (((q2.1 + (2 * cl.1 + 1) : Nat) : Int)).toNat = q2.1 + (2 * cl.1 + 1) by omega, show w32 (((q2.1 + (2 * cl.1 + 1) : Nat) : Int) + 1) = ((q2.1 + 2 * (cl.1 + 1) : Nat) : Int) from by rw [ew32 (by omega) (by omega)]; omega]
          refine brF (by omega) (gMB (gMB (cI_i ?_)))
          have hdone : outL t N p (zsK q cl) = outL t N (p2 + 1) (zsD q2 (cl.1 + 1, upF cl.2.1 cl.1 c, upF cl.2.2.1 cl.1 q.1, upF cl.2.2.2.1 cl.1 q1.1, upF cl.2.2.2.2 cl.1 q2.1)) := by
            rw [hgo, g1]
            refine outL_go hlt2 ?_
            show ztR [1048576 * 13] q2 _ (t p2) p2 = _
            rw [h41]
            exact ztR_last h13 _ _ _
          have hp2 := g4.2
          refine k1 (p2 + 1) q2 _ _ hdone (by omega) ⟨?_, ⟨?_, ?_, stE⟩, fun k hk => ?_, fun k hk => ?_, ?_⟩ 1 rfl
          · have f5 := lrlc dF f3
            refine ⟨fun d h1 h2 => ?_, fun j h1 h2 => ?_, fun j h1 h2 => ?_⟩
            · rw [stK (by omega), stK (by omega), stK (by omega), stK (by omega)]
              exact f5.1 d h1 h2
            · rw [stN (by omega), stN (by omega), stN (by omega), stO (by omega)]
              exact f5.2.1 j h1 h2
            · rw [stO (by omega), stN (by omega), stN (by omega), stN (by omega)]
              exact f5.2.2 j h1 h2
          · rw [stN (by omega), stN (by omega), stN (by omega), stE]
          · rw [stO (by decide), stN (by omega), stN (by omega), stN (by omega), f3.2.2 0 (by decide), dE L (by omega)]
            exact cL0
          · have hk : k < cl.1 + 1 := hk
            have w1 : ∀ d, d = L + 1 ∨ d = L + 2 ∨ d = L + 3 → ∀ i, stM (stM (stM (stM M3 22 2 ((p2 + 1 : Nat) : Int)) (L + 4) (q2.1 + (2 * cl.1 + 1)) 59) (L + 5) (q2.1 + (2 * cl.1 + 1)) 0) L 6 ((q2.1 + 2 * (cl.1 + 1) : Nat) : Int) d i = Mb d i := fun d hd i => by
              rw [stN (by omega), stN (by omega), stN (by omega), stN (by omega), f3.1 d (by omega) (by omega) (by omega) (by omega), dE d (by omega)]
            have w4 : ∀ i, i ≠ q2.1 + (2 * cl.1 + 1) → stM (stM (stM (stM M3 22 2 ((p2 + 1 : Nat) : Int)) (L + 4) (q2.1 + (2 * cl.1 + 1)) 59) (L + 5) (q2.1 + (2 * cl.1 + 1)) 0) L 6 ((q2.1 + 2 * (cl.1 + 1) : Nat) : Int) (L + 4) i = M3 (L + 4) i ∧ stM (stM (stM (stM M3 22 2 ((p2 + 1 : Nat) : Int)) (L + 4) (q2.1 + (2 * cl.1 + 1)) 59) (L + 5) (q2.1 + (2 * cl.1 + 1)) 0) L 6 ((q2.1 + 2 * (cl.1 + 1) : Nat) : Int) (L + 5) i = M3 (L + 5) i := fun i hi => by
              rw [stN (by omega), stN (by omega), stO hi, stN (by omega), stN (by omega), stO hi, stN (by omega), stN (by omega)]
              exact ⟨rfl, rfl⟩
            have w59 : stM (stM (stM (stM M3 22 2 ((p2 + 1 : Nat) : Int)) (L + 4) (q2.1 + (2 * cl.1 + 1)) 59) (L + 5) (q2.1 + (2 * cl.1 + 1)) 0) L 6 ((q2.1 + 2 * (cl.1 + 1) : Nat) : Int) (L + 4) (q2.1 + (2 * cl.1 + 1)) = 59 := by
              rw [stN (by omega), stN (by omega), stE]
            generalize stM (stM (stM (stM M3 22 2 ((p2 + 1 : Nat) : Int)) (L + 4) (q2.1 + (2 * cl.1 + 1)) 59) (L + 5) (q2.1 + (2 * cl.1 + 1)) 0) L 6 ((q2.1 + 2 * (cl.1 + 1) : Nat) : Int) = Mz at w1 w4 w59
            have low : ∀ i, i < q1.1 + (2 * cl.1 + 1) → Mz (L + 4) i = Mb (L + 4) i ∧ Mz (L + 5) i = Mb (L + 5) i := fun i hi => by
              have hp1 := hp2.1
              obtain ⟨x1, x2⟩ := w4 i (by omega)
              obtain ⟨y1, y2⟩ := vas i hi
              rw [x1, x2, y1, y2, dE (L + 4) (by omega), dE (L + 5) (by omega)]
              exact ⟨rfl, rfl⟩
            by_cases e : k = cl.1
            · subst e
              have u0 : upF cl.2.1 cl.1 c cl.1 = c := if_pos rfl
              have u1 : upF cl.2.2.1 cl.1 q.1 cl.1 = q.1 := if_pos rfl
              have u2 : upF cl.2.2.2.1 cl.1 q1.1 cl.1 = q1.1 := if_pos rfl
              have u3 : upF cl.2.2.2.2 cl.1 q2.1 cl.1 = q2.1 := if_pos rfl
              dsimp only
              rw [u0, u1, u2, u3, w1 _ (.inl rfl), w1 _ (.inr (.inl rfl)), w1 _ (.inr (.inr rfl))]
              refine ⟨⟨cK.1, cK.2.1, ?_⟩, ⟨hpre.1, hp2.1⟩, fun i i1 i2 => ?_, ?_, fun i i1 i2 => ?_, ?_⟩
              · rw [cK.2.2]
                omega
              · have := bcr i i1 i2
                unfold crR at this ⊢
                rw [hp2.2 i i2, (low (i + 2 * cl.1) (by omega)).1, (low (i + 2 * cl.1) (by omega)).2, (c45 (i + 2 * cl.1) (by omega)).1, (c45 (i + 2 * cl.1) (by omega)).2]
                exact this
              · rw [(low _ (by omega)).1]
                exact c59
              · have := vcr i i1 i2
                unfold crR at this ⊢
                rw [(w4 (i + (2 * cl.1 + 1)) (by omega)).1, (w4 (i + (2 * cl.1 + 1)) (by omega)).2]
                exact this
              · rw [show q2.1 + 2 * cl.1 + 1 = q2.1 + (2 * cl.1 + 1) by omega]
                exact w59
            · have hk2 : k < cl.1 := by omega
              have hold : clR Mz L cl q2.2 := clR.eq (c := q.1) hcl hTO (fun k' hk' => by
                obtain ⟨x1, x2, x3⟩ := cA k' (by omega)
                rw [w1 _ (.inl rfl), w1 _ (.inr (.inl rfl)), w1 _ (.inr (.inr rfl)), x1, x2, x3]
                exact ⟨rfl, rfl, rfl⟩) (fun i hi => by
                have hq1 := hpre.1
                obtain ⟨x1, x2⟩ := low i (by omega)
                obtain ⟨y1, y2⟩ := c45 i (by omega)
                obtain ⟨z1, z2⟩ := bas i (by omega)
                obtain ⟨o1, o2⟩ := a45 i
                rw [x1, x2, y1, y2, z1, z2, o1, o2]
                exact ⟨rfl, rfl⟩) (fun i hi => by
                have hq1 := hpre.1
                rw [hp2.2 i (by omega), hpre.2 i hi])
              have u0 : upF cl.2.1 cl.1 c k = cl.2.1 k := if_neg e
              have u1 : upF cl.2.2.1 cl.1 q.1 k = cl.2.2.1 k := if_neg e
              have u2 : upF cl.2.2.2.1 cl.1 q1.1 k = cl.2.2.2.1 k := if_neg e
              have u3 : upF cl.2.2.2.2 cl.1 q2.1 k = cl.2.2.2.2 k := if_neg e
              dsimp only
              rw [u0, u1, u2, u3]
              exact hold k hk2
          · have hk : k < cl.1 + 1 := hk
            show upF cl.2.2.2.2 cl.1 q2.1 k ≤ q2.1
            by_cases e : k = cl.1
            · rw [show upF cl.2.2.2.2 cl.1 q2.1 k = q2.1 from if_pos e]
              exact Nat.le_refl _
            · rw [show upF cl.2.2.2.2 cl.1 q2.1 k = cl.2.2.2.2 k from if_neg e]
              have := hTO k (by omega)
              have h5 := hpre.1
              have h6 := hp2.1
              omega
          · show cl.1 + 1 ≤ 16 ∧ q2.1 ≤ p2 + 1 ∧ p2 + 1 ≤ N ∧ N ≤ 240
            omega
      have Ia : lpI L q.1 (2 * cl.1) N (p + 1) q Ma Ma := ⟨lcF.rf L Ma, ⟨a2, aL6⟩, fun i _ => ⟨rfl, rfl⟩, fun i i1 i2 => by omega, by omega⟩
      have h16n : cl.1 ≠ 16 := by omega
      refine brP (fun h109 => ?_) fun h109 => ?_
      · have hgo : outL t N p (zsK q cl) = outL t N (p + 1) (zsO q (cl.1, upF cl.2.1 cl.1 c, upF cl.2.2.1 cl.1 q.1, cl.2.2.2.1, cl.2.2.2.2)) := outL_go hlt (by
          show ztK q cl (t p) p = _
          unfold ztK
          unfold isCl at hcl'
          rw [if_pos (by omega), if_neg h16n, if_pos (by omega), ← hc])
        refine h46 n2 (p + 1) q Ma Ia (by omega) (preC.rf q) (fun _ hne => ?_) fun hlt1 h40 => ?_
        · rw [hgo]
          by_cases z : p + 1 < N
          · rw [chL_at z] at hne
            rw [← e1]
            refine (outL_no z ?_).trans (e1 _).symm
            show ztO q _ (t (p + 1)) (p + 1) = _
            unfold ztO
            rw [if_neg hne, e1]
          · rw [outL_end (by omega) (by show (5 : Nat) ≠ 6; decide), e1]
        · rw [hgo]
          refine outL_go hlt1 ?_
          show ztO q _ (t (p + 1)) (p + 1) = _
          unfold ztO
          rw [if_pos h40]
          rfl
      · have hgo : outL t N p (zsK q cl) = outL t N (p + 1) (zsA (0, 0) [] q (cl.1, upF cl.2.1 cl.1 c, upF cl.2.2.1 cl.1 q.1, cl.2.2.2.1, cl.2.2.2.2)) := outL_go hlt (by
          show ztK q cl (t p) p = _
          unfold ztK
          unfold isCl at hcl'
          rw [if_pos (by omega), if_neg h16n, if_neg (by omega), ← hc])
        have hS := (f_sumC (sc := sc) (a := q.1) (off := 2 * cl.1) hL aN aT n2).1
        refine hS _ (0, 0) [] q (cl.1, upF cl.2.1 cl.1 c, upF cl.2.2.1 cl.1 q.1, cl.2.2.2.1, cl.2.2.2.2) (p + 1) Ma Ia (by decide) trivial ⟨fun f M2 g1 g2 z hz => brF (by omega) (k0 f M2 (hgo.trans g1) (lrlc fra g2.1) g2.2 0 rfl), fun p1 q1 M2 g1 g2 g3 g4 g5 z hz => brT (by omega) (h46 n2 p1 q1 M2 g2 (by omega) g4.2 (fun _ hne => ?_) fun hlt1 h40 => ?_)⟩
        · rw [hgo, g1]
          refine outB_bad trivial (fun z => absurd z (by decide)) g5 fun hlt1 => ?_
          rw [chL_at hlt1] at hne
          show ztO q1 _ (t p1) p1 = _
          unfold ztO
          rw [if_neg hne]
        · rw [hgo, g1]
          refine outL_go hlt1 ?_
          have g5 : ssV (chL t N p1) = -1 := g5
          rw [chL_at hlt1] at g5
          show ztB (0, 0) [] q1 _ (t p1) p1 = _
          rw [ztB_no (W := []) trivial (fun z => absurd z (by decide)) _ _ _ _ g5]
          show ztO q1 _ (t p1) p1 = _
          unfold ztO
          rw [if_pos h40]
          rfl
    · show ztK q cl (t p) p = _
      unfold ztK
      unfold isCl at hcl'
      rw [if_pos (by omega), if_pos (by omega)]
      rfl
  refine brP (fun g => go (.inl g)) fun g1 => brP (fun g => go (.inr (.inl g))) fun g2 => brP (fun g => go (.inr (.inr (.inl g)))) fun g3 => brP (fun g => go (.inr (.inr (.inr g)))) fun g4 => p_fail (by omega) (by omega) e2 fun w hw => gMB (k0 _ _ ?_ (frX _) stE w hw)
  rw [show -1000 * 1 - (p : Int) = -1000 - (p : Int) by omega]
  by_cases z : p < N
  · rw [chL_at z] at hc
    rw [← e1]
    refine (outL_no z ?_).trans (e1 _).symm
    show ztK q cl (t p) p = _
    unfold ztK
    rw [if_neg (by omega), e1]
  · rw [outL_end (by omega) (by show (7 : Nat) ≠ 6; decide), e1]
end LES
