/-! PART 66: QUARTER: the reference's method -/
/- told strangers on walls are told no more -/
def tdP (K : Nat → Int) (M : MM) (i : Nat) (g : Nat) : Bool := bit (M 82 30) g && !(decide (g < i) && decide (K (M 82 g).toNat = 1))
def tdI (K : Nat → Int) (M M1 : MM) (i : Nat) : Prop := (∀ c, c ≠ 82 → M1 c = M c) ∧ (∀ j, j ≠ 30 → M1 82 j = M 82 j) ∧ setB (M1 82 30) (tdP K M i)
section QTN
variable {sc : List Int} {Q : Vv → MM → Prop} {t : Nat → Int} {N : Nat}
set_option maxRecDepth 20000 in
theorem p_isToldM {g n : Nat} (hg : g < 10) {M : MM} (k0 : bit (M 82 30) g = false → ∀ x : Int, x = 0 → Q (vi x) M) (k1 : bit (M 82 30) g = true → ∀ x : Int, x = 1 → Q (vi x) M) : PC sc n m_X12_isTold [vr 81, vi (g : Int)] M Q := pc_X12_isTold _ M fun n1 _ => p_isTen (fun h => by omega) fun h x hx => brF (by omega) (p_has (by omega) (fun q y hy => brT hy (k0 q 0 rfl)) fun q y hy => brF (by omega) (k1 q 1 rfl))
set_option maxRecDepth 20000 in
theorem f_tdLoop {v1 v2 v3 : Int} {K : Nat → Int} {M : MM} (hK : ∀ j, j < 64 → M 85 j = K j) (h30 : 0 ≤ M 82 30 ∧ M 82 30 < 1024) (k : ∀ M1, tdI K M M1 10 → Q (vi v3) M1) : ∀ (m i n : Nat) (M1 : MM), i + m = 10 → tdI K M M1 i → PW sc n m_X12_quarter 120 [] [some (vr 81), some (vi v1), some (vi v2), some (vi v3), some (vi (i : Int))] M1 Q := by
  intro m
  induction m with
  | zero =>
    intro i n M1 hi I
    have hi : i = 10 := hi
    subst hi
    exact pw_X12_quarter_120 _ _ _ _ M1 fun n1 _ => brT (by omega) (k M1 I)
  | succ m ih =>
    intro i n M1 hi I
    obtain ⟨f1, f2, fs⟩ := id I
    have hb : bit (M1 82 30) i = bit (M 82 30) i := by
      rw [fs.2 i (by omega)]
      unfold tdP
      rw [decide_eq_false (show ¬ i < i by omega), Bool.false_and, Bool.not_false, Bool.and_true]
    have stay : bit (M 82 30) i = false ∨ K (M 82 i).toNat ≠ 1 → tdI K M M1 (i + 1) := fun q => ⟨f1, f2, setB_p fs fun g hg => by
      unfold tdP
      by_cases e : g = i
      · subst e
        rcases q with q | q
        · rw [q, Bool.false_and, Bool.false_and]
        · rw [decide_eq_false q, Bool.and_false, Bool.and_false]
      · rw [show decide (g < i + 1) = decide (g < i) from decide_eq_decide.mpr (by omega)]⟩
    refine pw_X12_quarter_120 _ _ _ _ M1 fun n1 _ => brF (by omega) ?_
    rw [show w32 ((i : Int) + 1) = ((i + 1 : Nat) : Int) from ew32 (by omega) (by omega)]
    refine p_isToldM (by omega) (fun q x hx => brT hx (ih (i + 1) n1 M1 (by omega) (stay (.inl (hb.symm.trans q))))) fun q x hx => brF (by omega) ?_
    rw [ew32 (z := 0 + (i : Int)) (by omega) (by omega), show (0 + (i : Int)).toNat = i by omega, f2 i (by omega), f1 85 (by decide)]
    refine gMB (gMI fun g1 g2 => ?_)
    rw [hK _ (by omega)]
    refine brP (fun g => ih (i + 1) n1 M1 (by omega) (stay (.inr g))) fun g => ?_
    have g := Classical.not_not.mp g
    refine ih (i + 1) n1 _ (by omega) ⟨fun c hc => (stK hc).trans (f1 c hc), fun j hj => (stO hj).trans (f2 j hj), ?_⟩
    rw [stE]
    refine setB_clr fs (by omega) fun j hj => ?_
    unfold tdP
    by_cases e : j = i
    · subst e
      rw [decide_eq_true (show j < j + 1 by omega), decide_eq_true g, decide_eq_true (rfl : j = j)]
      cases bit (M 82 30) j <;> cases decide (j < j) <;> rfl
    · rw [show decide (j < i + 1) = decide (j < i) from decide_eq_decide.mpr (by omega), decide_eq_false e, Bool.not_false, Bool.and_true]
/- after a QUARTER's text the reference takes what it has read -/
def qfM (N : Nat) (K H : Nat → Int) (M M1 : MM) : Prop := (∀ c, c ≠ 81 → c ≠ 82 → c ≠ 85 → c ≠ 86 → c ≠ 102 → c ≠ 103 → M1 c = M c) ∧ (∀ j, j ≠ 10 → j ≠ 11 → j ≠ 12 → j ≠ 13 → M1 81 j = M 81 j) ∧ M1 81 10 = 0 ∧ (∀ j, j < 64 → M1 85 j = K j) ∧ (∀ h, h < 10 → M1 86 h = hm (H h)) ∧ (∀ j, j ≠ 30 → M1 82 j = M 82 j) ∧ setB (M1 82 30) (tdP K M 10)
set_option maxRecDepth 20000 in
theorem f_quarterM (ht0 : ∀ i, 0 ≤ t i ∧ t i ≤ 255) {K0 H0 : Nat → Int} (hH0 : ∀ h, h < 10 → H0 h = -1) {v : Int} {n : Nat} {M : MM} (ht : ∀ i, bAnd (M 90 i) 255 = t i) (h30 : 0 ≤ M 82 30 ∧ M 82 30 < 1024) (k0 : ¬ (1 ≤ v ∧ v ≤ 120 ∧ v ≤ M 81 10) → Q (vi (-1)) M) (k1 : (1 ≤ v ∧ v ≤ 120 ∧ v ≤ M 81 10) → (qz t v.toNat v.toNat 0 0 0 0 K0 H0).1 < 0 → ∀ M1, (∀ c, c ≠ 81 → c ≠ 102 → c ≠ 103 → M1 c = M c) → (∀ j, j ≠ 10 → j ≠ 11 → j ≠ 12 → j ≠ 13 → M1 81 j = M 81 j) → M1 81 10 = 0 → Q (vi (qz t v.toNat v.toNat 0 0 0 0 K0 H0).1) M1) (k2 : (1 ≤ v ∧ v ≤ 120 ∧ v ≤ M 81 10) → ¬ (qz t v.toNat v.toNat 0 0 0 0 K0 H0).1 < 0 → ∀ M1, qfM v.toNat (qz t v.toNat v.toNat 0 0 0 0 K0 H0).2.1 (qz t v.toNat v.toNat 0 0 0 0 K0 H0).2.2 M M1 → Q (vi (hcnt (qz t v.toNat v.toNat 0 0 0 0 K0 H0).2.2 10)) M1) : PC sc n m_X12_quarter [vr 81, vi v] M Q := by
  refine pc_X12_quarter v M fun n1 _ => p_in (fun h x hx => brT hx (k0 fun z => h ⟨z.1, z.2.1⟩)) fun h x hx => brF (by omega) (brP (fun h2 => ?_) fun h2 => k0 fun z => h2 z.2.2)
  have hv : 1 ≤ v ∧ v ≤ 120 ∧ v ≤ M 81 10 := ⟨h.1, h.2, h2⟩
  have k1 := k1 hv
  have k2 := k2 hv
  clear k0
  obtain ⟨N, hN⟩ : ∃ N : Nat, v = (N : Int) := ⟨v.toNat, by omega⟩
  subst hN
  rw [show ((N : Int)).toNat = N by omega] at k1 k2
  have fin0 : ∀ (n : Nat) (M1 : MM) (v3 : Int) (o4 : Option Vv), frM M M1 → M1 81 13 = (qz t N N 0 0 0 0 K0 H0).1 → (qz t N N 0 0 0 0 K0 H0).1 < 0 → PW sc n m_X12_quarter 67 [] [some (vr 81), some (vi (N : Int)), some (vi 0), some (vi v3), o4] M1 Q := fun n M1 v3 o4 f e q => by
    refine pw_X12_quarter_67 _ _ _ o4 M1 fun n2 _ => brF (by omega) ?_
    rw [e]
    exact k1 q _ (fun c c1 c2 c3 => (stK c1).trans (f.1 c c1 c2 c3)) (fun j h1 h2 h3 h4 => (stO h1).trans (f.2 j h2 h3 h4)) stE
  have bad54 : ∀ (n : Nat) (M1 : MM) (v3 : Int) (o4 : Option Vv), frM M M1 → M1 81 13 = (qz t N N 0 0 0 0 K0 H0).1 → (qz t N N 0 0 0 0 K0 H0).1 < 0 → PW sc n m_X12_quarter 54 [] [some (vr 81), some (vi (N : Int)), some (vi 0), some (vi v3), o4] M1 Q := fun n M1 v3 o4 f e q => pw_X12_quarter_54 _ _ _ o4 M1 fun n2 _ => brT rfl (fin0 n2 M1 v3 o4 f e q)
  have bad35 : ∀ (m r n : Nat) (M1 : MM) (o4 : Option Vv), frM M M1 → M1 81 13 = (qz t N N 0 0 0 0 K0 H0).1 → (qz t N N 0 0 0 0 K0 H0).1 < 0 → PW sc n m_X12_quarter 35 [] [some (vr 81), some (vi (N : Int)), some (vi 0), some (vi (r : Int)), o4] M1 Q := fun m r n M1 o4 f e q => pw_X12_quarter_35 _ _ _ o4 M1 fun n2 _ => brP (fun _ => bad54 n2 M1 _ o4 f e q) fun _ => brT rfl (bad54 n2 M1 _ o4 f e q)
  have fin1 : ∀ (n p : Nat) (K H : Nat → Int) (M1 : MM) (v3 : Int) (o4 : Option Vv), N ≤ p → qz t N (N - p) p 0 8 7 K H = qz t N N 0 0 0 0 K0 H0 → qmI N p 7 8 K H M M1 → PW sc n m_X12_quarter 67 [] [some (vr 81), some (vi (N : Int)), some (vi 1), some (vi v3), o4] M1 Q := fun n p K H M1 v3 o4 hp e I => by
    rw [show N - p = 0 by omega] at e
    have e : ((0 : Int), K, H) = qz t N N 0 0 0 0 K0 H0 := e
    rw [← e] at k2
    have k2 := k2 (by show ¬ (0 : Int) < 0; omega)
    have f1 := I.1
    have hK := I.2.2.1
    have hH := I.2.2.2
    have l3 : ∀ (n : Nat) (M2 : MM), (∀ c, c ≠ 81 → c ≠ 85 → c ≠ 86 → c ≠ 102 → c ≠ 103 → M2 c = M c) → (∀ j, j ≠ 10 → j ≠ 11 → j ≠ 12 → j ≠ 13 → M2 81 j = M 81 j) → M2 81 10 = 0 → (∀ j, j < 64 → M2 85 j = K j) → (∀ h, h < 10 → M2 86 h = hm (H h)) → PW sc n m_X12_quarter 120 [] [some (vr 81), some (vi (N : Int)), some (vi 1), some (vi (hcnt H 10)), some (vi 0)] M2 Q := fun n M2 a1 a2 a3 a4 a5 => by
      have e82 := a1 82 (by decide) (by decide) (by decide) (by decide) (by decide)
      refine f_tdLoop (M := M2) (K := K) a4 (by rw [e82]; exact h30) (fun M3 I3 => ?_) 10 0 n M2 rfl ⟨fun _ _ => rfl, fun _ _ => rfl, setB_p (setB_self (by rw [e82]; exact h30)) fun i hi => by
        unfold tdP
        rw [decide_eq_false (show ¬ i < 0 by omega), Bool.false_and, Bool.not_false, Bool.and_true]⟩
      refine k2 M3 ⟨fun c c1 c2 c3 c4 c5 c6 => (I3.1 c c2).trans (a1 c c1 c3 c4 c5 c6), fun j h1 h2 h3 h4 => by rw [I3.1 81 (by decide)]; exact a2 j h1 h2 h3 h4, by rw [I3.1 81 (by decide)]; exact a3, fun j hj => by rw [I3.1 85 (by decide)]; exact a4 j hj, fun j hj => by rw [I3.1 86 (by decide)]; exact a5 j hj, fun j hj => (I3.2.1 j hj).trans (by rw [e82]), ?_⟩
      have := I3.2.2
      unfold tdP at this ⊢
      rw [e82] at this
      exact this
    have l2 : ∀ (m i n : Nat) (M2 : MM), i + m = 10 → (∀ c, c ≠ 81 → c ≠ 85 → c ≠ 86 → c ≠ 102 → c ≠ 103 → M2 c = M c) → (∀ j, j ≠ 10 → j ≠ 11 → j ≠ 12 → j ≠ 13 → M2 81 j = M 81 j) → M2 81 10 = 0 → (∀ j, j < 64 → M2 85 j = K j) → (∀ h, h < 10 → M2 103 h = hm (H h)) → (∀ h, h < i → M2 86 h = hm (H h)) → PW sc n m_X12_quarter 94 [] [some (vr 81), some (vi (N : Int)), some (vi 1), some (vi (hcnt H i)), some (vi (i : Int))] M2 Q := by
      intro m
      induction m with
      | zero =>
        intro i n M2 hi a1 a2 a3 a4 a5 a6
        have hi : i = 10 := hi
        subst hi
        exact pw_X12_quarter_94 _ _ _ _ M2 fun n2 _ => brT (by omega) (l3 n2 M2 a1 a2 a3 a4 a6)
      | succ m ih =>
        intro i n M2 hi a1 a2 a3 a4 a5 a6
        have hc := hcnt_r H i
        refine pw_X12_quarter_94 _ _ _ _ M2 fun n2 _ => brF (by omega) (gMB (gMB (gMB ?_)))
        rw [show ((i : Int)).toNat = i by omega, stE, a5 i (by omega), ew32 (z := hcnt H i + 0) (by omega) (by omega), ew32 (z := hcnt H i + 1) (by omega) (by omega), show w32 ((i : Int) + 1) = ((i + 1 : Nat) : Int) from ew32 (by omega) (by omega)]
        have nx : ∀ z : Int, z = hcnt H (i + 1) → PW sc n2 m_X12_quarter 94 [] [some (vr 81), some (vi (N : Int)), some (vi 1), some (vi z), some (vi ((i + 1 : Nat) : Int))] (stM M2 86 i (hm (H i))) Q := fun z hz => by
          subst hz
          refine ih (i + 1) n2 _ (by omega) (fun c c1 c2 c3 c4 c5 => (stK c3).trans (a1 c c1 c2 c3 c4 c5)) (fun j h1 h2 h3 h4 => (stN (by decide)).trans (a2 j h1 h2 h3 h4)) ((stN (by decide)).trans a3) (fun j hj => (stN (by decide)).trans (a4 j hj)) (fun h hh => (stN (by decide)).trans (a5 h hh)) fun h hh => ?_
          by_cases e : h = i
          · subst e
            exact stE
          · rw [stO e]
            exact a6 h (by omega)
        have hs : hcnt H (i + 1) = hcnt H i + ind (H i ≠ -1) := rfl
        have hh := (hH i (by omega)).2
        unfold hm at nx ⊢
        refine brP (fun q => nx _ ?_) fun q => nx _ ?_
        · rw [hs, show ind (H i ≠ -1) = 0 from if_neg (fun z => by rw [if_neg z] at q; omega)]
        · rw [hs, show ind (H i ≠ -1) = 1 from if_pos (fun z => by rw [if_pos z] at q; omega)]
    have l1 : ∀ (m i n : Nat) (M2 : MM) (v3 : Int), i + m = 64 → (∀ c, c ≠ 81 → c ≠ 85 → c ≠ 86 → c ≠ 102 → c ≠ 103 → M2 c = M c) → (∀ j, j ≠ 10 → j ≠ 11 → j ≠ 12 → j ≠ 13 → M2 81 j = M 81 j) → M2 81 10 = 0 → (∀ j, j < i → M2 85 j = K j) → (∀ j, j < 64 → M2 102 j = K j) → (∀ h, h < 10 → M2 103 h = hm (H h)) → v3 = 0 → PW sc n m_X12_quarter 79 [] [some (vr 81), some (vi (N : Int)), some (vi 1), some (vi v3), some (vi (i : Int))] M2 Q := by
      intro m
      induction m with
      | zero =>
        intro i n M2 v3 hi a1 a2 a3 a4 a5 a6 hv3
        have hi : i = 64 := hi
        subst hi hv3
        exact pw_X12_quarter_79 _ _ _ _ M2 fun n2 _ => brT (by omega) (l2 10 0 n2 M2 rfl a1 a2 a3 a4 a6 fun h hh => by omega)
      | succ m ih =>
        intro i n M2 v3 hi a1 a2 a3 a4 a5 a6 hv3
        refine pw_X12_quarter_79 _ _ _ _ M2 fun n2 _ => brF (by omega) (gMB (gMB ?_))
        rw [show ((i : Int)).toNat = i by omega, a5 i (by omega), show w32 ((i : Int) + 1) = ((i + 1 : Nat) : Int) from ew32 (by omega) (by omega)]
        refine ih (i + 1) n2 _ _ (by omega) (fun c c1 c2 c3 c4 c5 => (stK c2).trans (a1 c c1 c2 c3 c4 c5)) (fun j h1 h2 h3 h4 => (stN (by decide)).trans (a2 j h1 h2 h3 h4)) ((stN (by decide)).trans a3) (fun j hj => ?_) (fun j hj => (stN (by decide)).trans (a5 j hj)) (fun h hh => (stN (by decide)).trans (a6 h hh)) hv3
        by_cases e : j = i
        · subst e
          exact stE
        · rw [stO e]
          exact a4 j (by omega)
    refine pw_X12_quarter_67 _ _ _ o4 M1 fun n2 _ => brT (by omega) (l1 64 0 n2 _ 0 rfl (fun c c1 c2 c3 c4 c5 => (stK c1).trans (f1.1 c c1 c4 c5)) (fun j h1 h2 h3 h4 => (stO h1).trans (f1.2 j h2 h3 h4)) stE (fun j hj => by omega) (fun j hj => (stN (by decide)).trans (hK j hj)) (fun h hh => (stN (by decide)).trans (hH h hh).1) rfl)
  have good54 : ∀ (n p : Nat) (K H : Nat → Int) (M1 : MM) (v3 : Int) (o4 : Option Vv), p ≤ N → (p < N → ¬ isSp (t p)) → qz t N (N - p) p 0 8 7 K H = qz t N N 0 0 0 0 K0 H0 → qmI N p 7 8 K H M M1 → PW sc n m_X12_quarter 54 [] [some (vr 81), some (vi (N : Int)), some (vi 1), some (vi v3), o4] M1 Q := fun n p K H M1 v3 o4 hp hs e I => by
    refine pw_X12_quarter_54 _ _ _ o4 M1 fun n2 _ => ?_
    rw [I.2.1.1, I.2.1.2]
    refine brF (by omega) (brP (fun q => fin1 n2 p K H M1 v3 o4 (by omega) e I) fun q => p_wrong (by omega) (by omega) fun w hw => ?_)
    subst hw
    have hb := qz_bad (t := t) (N := N) (p := p) (x := 8) (y := 7) (K := K) (H := H) (by omega) (hs (by omega)) (fun _ => .inr (by omega))
    rw [e] at hb
    exact fin0 n2 _ v3 o4 (I.1.st1 (.inr (.inr rfl))) (by rw [stE, hb]; omega) (by omega)
  have good35 : ∀ (m r p n : Nat) (K H : Nat → Int) (M1 : MM) (o4 : Option Vv), r + m = 8 → 1 ≤ r → p ≤ N → (p < N → ¬ isSp (t p)) → qz t N (N - p) p 0 8 (r - 1) K H = qz t N N 0 0 0 0 K0 H0 → qmI N p (r - 1) 8 K H M M1 → PW sc n m_X12_quarter 35 [] [some (vr 81), some (vi (N : Int)), some (vi 1), some (vi (r : Int)), o4] M1 Q := by
    intro m
    induction m with
    | zero =>
      intro r p n K H M1 o4 hr hr1 hp hs e I
      have hr : r = 8 := hr
      subst hr
      exact pw_X12_quarter_35 _ _ _ o4 M1 fun n2 _ => brT (by omega) (good54 n2 p K H M1 _ o4 hp hs e I)
    | succ m ih =>
      intro r p n K H M1 o4 hr hr1 hp hs e I
      have htM : ∀ i, bAnd (M1 90 i) 255 = t i := fun i => by rw [I.1.1 90 (by decide) (by decide) (by decide)]; exact ht i
      have e1 : ∀ _ : Unit, w32 ((r : Int) + 1) = ((r + 1 : Nat) : Int) := fun _ => ew32 (by omega) (by omega)
      refine pw_X12_quarter_35 _ _ _ o4 M1 fun n2 _ => brF (by omega) (brF (by omega) (pc_X12_takes 47 M1 fun n3 _ => ?_))
      rw [e1 ()]
      refine p_here I.2.1.1 I.2.1.2 htM (fun q c hc => brF (by omega) ?_) fun q c hc => ?_
      · rw [I.2.1.1]
        refine p_wrong (by omega) (by omega) fun w hw => gMB (brT hw (bad35 0 (r + 1) n2 _ o4 (I.1.st1 (.inr (.inr rfl))) ?_ ?_))
        · have := qz_end (t := t) (x := 8) (y := r - 1) (K := K) (H := H) q 0 (by omega)
          rw [e] at this
          rw [stE, this]
          omega
        · have := qz_end (t := t) (x := 8) (y := r - 1) (K := K) (H := H) q 0 (by omega)
          rw [e] at this
          omega
      · subst hc
        refine brP (fun h47 => ?_) fun h47 => ?_
        · rw [I.2.1.1, show w32 ((p : Int) + 1) = ((p + 1 : Nat) : Int) from ew32 (by omega) (by omega)]
          have hz : qz t N (N - p) p 0 8 (r - 1) K H = qz t N (N - (p + 1)) (p + 1) 0 0 r K H := by
            obtain ⟨m', hm'⟩ : ∃ m', N - p = m' + 1 := ⟨N - p - 1, by omega⟩
            rw [hm', qz_succ, if_neg (by omega), if_pos h47, if_neg (by omega), show N - (p + 1) = m' by omega, show r - 1 + 1 = r by omega]
          rw [hz] at e
          have I1 : qmI N (p + 1) r 0 K H M (stM M1 81 11 ((p + 1 : Nat) : Int)) := by
            have := I.pl (p' := p + 1) (v := ((p + 1 : Nat) : Int)) rfl
            exact ⟨this.1, this.2.1, fun j hj => this.2.2.1 j (by omega), this.2.2.2⟩
          exact cI_i (brF (by decide) (pc_X12_readsRow _ _ fun n4 _ => f_row (M0 := M) ht ht0 (by omega) (y := r) (by omega) 8 0 (p + 1) n4 K H none none none _ rfl (by omega) I1 (fun M2 f2 h13 q2 z hz2 => brT hz2 (bad35 0 (r + 1) n2 M2 o4 f2 (by rw [h13, e]) (by rw [← e]; exact q2))) fun p' K' H' M2 hz2 hp' hs' I2 z hz3 => brF (by omega) (ih (r + 1) p' n2 K' H' M2 o4 (by omega) (by omega) hp' hs' (by rw [show r + 1 - 1 = r by omega, hz2]; exact e) (by rw [show r + 1 - 1 = r by omega]; exact I2))))
        · have hb := qz_bad (t := t) (x := 8) (y := r - 1) (K := K) (H := H) q (hs q) (fun z => absurd z h47)
          rw [e] at hb
          rw [I.2.1.1]
          exact p_wrong (by omega) (by omega) fun w hw => gMB (brT hw (bad35 0 (r + 1) n2 _ o4 (I.1.st1 (.inr (.inr rfl))) (by rw [stE, hb]; omega) (by omega)))
  have l0 : ∀ (m i n : Nat) (M1 : MM) (v2 : Int) (o3 o4 : Option Vv), i + m = 10 → frM M M1 → M1 81 11 = 0 → M1 81 12 = (N : Int) → (∀ h, h < i → M1 103 h = -2) → PW sc n m_X12_quarter 19 [] [some (vr 81), some (vi (N : Int)), some (vi (i : Int)), o3, o4] M1 Q := by
    intro m
    induction m with
    | zero =>
      intro i n M1 v2 o3 o4 hi f e11 e12 e103
      have hi : i = 10 := hi
      subst hi
      refine pw_X12_quarter_19 _ _ o3 o4 M1 fun n2 _ => brT (by omega) (pc_X12_readsRow _ M1 fun n3 _ => f_row (y := 0) (M0 := M) ht ht0 (by omega) (by omega) 8 0 0 n3 K0 H0 none none none M1 rfl (by omega) ⟨f, ⟨e11, e12⟩, fun j hj => by omega, fun h hh => ⟨?_, .inl (hH0 h hh)⟩⟩ (fun M2 f2 h13 q2 z hz => ?_) fun p' K' H' M2 hz hp' hs' I2 z hz2 => ?_)
      · unfold hm
        rw [hH0 h hh, if_pos rfl]
        exact e103 h hh
      · subst hz
        exact bad35 0 1 n2 M2 o4 f2 h13 q2
      · subst hz2
        exact good35 7 1 p' n2 K' H' M2 o4 rfl (by omega) hp' hs' hz I2
    | succ m ih =>
      intro i n M1 v2 o3 o4 hi f e11 e12 e103
      refine pw_X12_quarter_19 _ _ o3 o4 M1 fun n2 _ => brF (by omega) (gMB ?_)
      rw [show ((i : Int)).toNat = i by omega, show w32 ((i : Int) + 1) = ((i + 1 : Nat) : Int) from ew32 (by omega) (by omega)]
      refine ih (i + 1) n2 _ v2 o3 o4 (by omega) (f.st2 (.inr rfl)) ((stN (by decide)).trans e11) ((stN (by decide)).trans e12) fun h hh => ?_
      by_cases e : h = i
      · subst e
        exact stE
      · rw [stO e]
        exact e103 h (by omega)
  exact l0 10 0 n1 _ 0 none none rfl (((frM.rf M).st1 (.inl rfl)).st1 (.inr (.inl rfl))) ((stO (by decide)).trans stE) stE fun h hh => by omega
end QTN
