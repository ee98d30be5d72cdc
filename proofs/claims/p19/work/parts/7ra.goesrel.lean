/-! PART 7ra: goes keeps now alike, and its answers -/
/- a set of houses, laid bit by bit -/
def sbV (p : Nat → Bool) (n i : Nat) (acc : Int) : Int := match n with
  | 0 => acc
  | n + 1 => if p i = true then sbV p n (i + 1) (bOr acc (bShl 1 (i : Int))) else sbV p n (i + 1) acc
theorem sbV_s (p : Nat → Bool) (n i : Nat) (acc : Int) : sbV p (n + 1) i acc = if p i = true then sbV p n (i + 1) (bOr acc (bShl 1 (i : Int))) else sbV p n (i + 1) acc := rfl
theorem sbV_no {p : Nat → Bool} (h : ∀ i, p i = false) : ∀ (n i : Nat) (acc : Int), sbV p n i acc = acc
  | 0, _, _ => rfl
  | n + 1, i, acc => by
    rw [sbV_s, if_neg (by rw [h i]; decide)]
    exact sbV_no h n (i + 1) acc
theorem sbV_set {p : Nat → Bool} : setB (sbV p 10 0 0) p := by
  have lp : ∀ (m i : Nat) (acc : Int), i + m = 10 → setB acc (fun j => decide (j < i) && p j) → setB (sbV p m i acc) p := by
    intro m
    induction m with
    | zero =>
      intro i acc hi h
      have hi : i = 10 := hi
      subst hi
      exact setB_p h fun j hj => by rw [decide_eq_true hj, Bool.true_and]
    | succ m ih =>
      intro i acc hi h
      rw [sbV_s]
      by_cases e : p i = true
      · rw [if_pos e]
        refine ih (i + 1) _ (by omega) (setB_or h (by omega) fun j hj => ?_)
        by_cases c : j = i
        · subst c
          rw [e, decide_eq_true (show j < j + 1 by omega), decide_eq_true (show j = j from rfl), Bool.or_true]
          rfl
        · rw [decide_eq_false c, Bool.or_false, decide_eq_decide.mpr (show j < i + 1 ↔ j < i by omega)]
      · rw [if_neg e]
        refine ih (i + 1) _ (by omega) (setB_p h fun j hj => ?_)
        by_cases c : j = i
        · subst c
          rw [Bool.eq_false_iff.mpr e, Bool.and_false, Bool.and_false]
        · rw [decide_eq_decide.mpr (show j < i + 1 ↔ j < i by omega)]
  exact lp 10 0 0 rfl (setB_0 fun i hi => by rw [decide_eq_false (Nat.not_lt_zero i), Bool.false_and])
/- the houses that have spots, as a set -/
def spB (M : MM) : Int := sbV (spV M) 10 0 0
theorem spB_eq {M : MM} {v : Int} (h : setB v (spV M)) : v = spB M := setB_eq h sbV_set
section GOR
variable {sc : List Int} {M M1 : MM}
/-- the houses that know it and X behind the days, by what the reference holds -/
def goV (M : MM) (hs nn v : Int) : Int × Int := ruD (spV M) (rmV M) nn.toNat (bAnd hs v, M 82 35)
theorem rmV_eq (e19 : M1 81 19 = M 81 19) (ec : ∀ c, 97 ≤ c → c ≤ 101 → M1 c = M c) (e34 : M1 82 34 = M 82 34) (e86 : M1 86 = M 86) : rmV M1 = rmV M := by
  funext h j
  unfold rmV
  rw [bl_eq e19 ec, e34, e86]
theorem spV_eq (e86 : M1 86 = M 86) : spV M1 = spV M := by
  funext j
  unfold spV
  rw [e86]
theorem goV_up (u : UpX M M1) (hs nn v : Int) : goV M1 hs nn v = goV M hs nn v := by
  unfold goV
  rw [rmV_eq (u 81 (by decide) 19) (fun c _ _ => u.f c (by omega)) (u 82 (by decide) 34) (u.f 86 (by decide)), spV_eq (u.f 86 (by decide)), u 82 (by decide) 35]
def MdN_goes (hs nn x : Int) (M1 : MM) : Prop := (¬ gsOk hs nn → x = -1 ∧ rN M1) ∧ (gsOk hs nn → ∀ v, setB v (spV M1) → x = (goV M1 hs nn v).1 ∧ ∀ R : Nat → Int, (∀ j, j < 36 → j ≠ 35 → R j = M1 82 j) → R 35 = (goV M1 hs nn v).2 → nwP M1 (M1 81 8) R (M1 81 61) (M1 84))
theorem csN_goes {hs nn : Int} (i0 : in32 hs) (i1 : in32 nn) (G : GdS M) (W : rL M) (V : rN M) : CA FF sc YF 59 m_X11_goes [vr 0, vi hs, vi nn] M (fun r M1 => ∃ x, r = vi x ∧ MdN_goes hs nn x M1) := by
  obtain ⟨T, hT, v0, v1, hr, hh, hS⟩ := G.tw
  obtain ⟨L, q, cl, hL, h12, R0⟩ := W
  obtain ⟨⟨a1, a2⟩, w, k⟩ := id V
  have w7 : M 46 7 = M 82 35 := w.2.1.2.2
  have A : ruA L T q cl M := ⟨R0, w.2.1.2.1, hh⟩
  refine ((cf_goes i0 i1 G.1).and fun n => f_goesC (Q := fun r M1 => UpX M M1 → ∃ x, r = vi x ∧ MdN_goes hs nn x M1) hL hT A v0 h12 (fun no _ => ⟨-1, rfl, fun _ => ⟨rfl, V⟩, fun y => absurd y no⟩) fun ok v hv M1 F e7 u => ⟨_, rfl, fun z => absurd ok z, fun _ v2 hv2 => ?_⟩).mono fun r M1 q => q.2 q.1.2.2.1
  rw [spV_eq (u.f 86 (by decide))] at hv2
  have ev : v2 = v := setB_eq hv2 hv
  subst ev
  rw [goV_up u]
  unfold goV
  rw [w7] at e7 ⊢
  refine ⟨rfl, fun R hR hR35 => ?_⟩
  have o : ∀ c, c ≠ 46 → c ≠ L → c ≠ L + 6 → c ≠ L + 7 → M1 c = M c := F.1
  have oR : ∀ j, j < 36 → j ≠ 35 → R j = M 82 j := fun j h1 h2 => (hR j h1 h2).trans (u 82 (by decide) j)
  rw [u 81 (by decide) 8, u 81 (by decide) 61, u.f 84 (by decide)]
  refine ⟨⟨?_, ?_⟩, w.st (fun i i1 i2 j _ => by rw [o (46 + i) (by omega) (by omega) (by omega) (by omega)]) (fun j hj => oR j (by omega) (by omega)) ?_ ?_ ?_ ?_, fun z => (k z).eq (fun i i1 i2 j _ => by rw [o (51 + i) (by omega) (by omega) (by omega) (by omega)]) (by rw [o 51 (by decide) (by omega) (by omega) (by omega)]) (by rw [o 51 (by decide) (by omega) (by omega) (by omega)]) (by rw [o 51 (by decide) (by omega) (by omega) (by omega)]) .rf⟩
  · rw [o 0 (by decide) (by omega) (by omega) (by omega)]
    exact a1
  · rw [o 0 (by decide) (by omega) (by omega) (by omega)]
    exact a2
  · rw [F.2.2 4 (by decide), oR 32 (by decide) (by decide)]
    exact w.2.1.1
  · rw [F.2.2 6 (by decide), oR 34 (by decide) (by decide)]
    exact w.2.1.2.1
  · rw [hR35]
    exact e7
  · rw [oR 34 (by decide) (by decide)]
    exact w.2.2
theorem msN_goes {hs nn x : Int} (i0 : in32 hs) (i1 : in32 nn) (g : axG M) (V : MdN_goes hs nn x M) : CA FF sc YF 59 m_X12_goes [vr 81, vi hs, vi nn] M (fun r M1 => ∃ y, r = vi y ∧ rN M1 ∧ y = x) := by
  refine ((mf_goes i0 i1 g).and fun n => f_goesM (Q := fun r M1 => LoX M M1 → ∃ y, r = vi y ∧ rN M1 ∧ y = x) (lwJ.of g) (fun no _ => ⟨-1, rfl, (V.1 no).2, (V.1 no).1.symm⟩) fun ok v hv M1 F e35 l => ?_).mono fun r M1 q => q.2 q.1.2.2.1
  obtain ⟨ex, hR⟩ := V.2 ok v hv
  refine ⟨_, rfl, ?_, ex.symm⟩
  unfold rN
  rw [F.1 81 (by decide) (by decide) (by decide), F.1 84 (by decide) (by decide) (by decide)]
  exact nwP.eq (hR (M1 82) (fun j _ h => F.2 j h) e35) (.lo l) .rf .rf
end GOR
