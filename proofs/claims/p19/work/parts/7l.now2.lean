/-! PART 7l: now alike: dog, tells, stranger -/
section NWD
variable {sc : List Int} {M M1 : MM} {Q : Vv → MM → Prop}
def dgD (h b d : Int) : Int := if b = 0 then bAnd d (bXor (bShl 1 h) (-1)) else bOr d (bShl 1 h)
def dgS (h : Int) (S : Nat → Int) (j : Nat) : Int := if j = 32 then bAnd (S 32) (bXor (bShl 1 h) (-1)) else S j
def MdN_dog (h b : Int) (M1 : MM) : Prop := (¬ (0 ≤ h ∧ h ≤ 9) → rN M1) ∧ ((0 ≤ h ∧ h ≤ 9) → nwP M1 (dgD h b (M1 81 8)) (dgS h (M1 82)) (M1 81 61) (M1 84))
theorem csN_dog {h b : Int} (i0 : in32 h) (hb : b = 0 ∨ b = 1) (g : axG M) (V : rN M) : CA FF sc YF 59 m_X11_dog [vr 0, vi h, vi b] M (fun r M1 => (∃ y, r = vi y) ∧ MdN_dog h b M1) := by
  obtain ⟨⟨a1, a2⟩, w, c⟩ := id V
  have fin : ∀ (s1 : Int) (n : Nat) (v3 : Int), v3 = bShl 1 h → (0 ≤ h ∧ h ≤ 9) → s1 = dgD h b (M 81 8) → PW sc n m_X11_dog 23 [vi s1, vr 0] [some (vr 0), some (vi h), some (vi b), some (vi v3)] M (fun _ M1 => UpX M M1 → MdN_dog h b M1) := fun s1 n v3 h3 hh hs => pw_X11_dog_23 _ _ _ _ M fun n1 _ u => ⟨fun z => absurd hh z, fun _ => by
    subst h3
    have e8 : M 81 8 = stM (stM M 0 15 s1) 46 4 (bAnd (stM M 0 15 s1 46 4) (bXor (bShl 1 h) (-1))) 81 8 := by rw [stK (by decide), stK (by decide)]
    have e82 : stM (stM M 0 15 s1) 46 4 (bAnd (stM M 0 15 s1 46 4) (bXor (bShl 1 h) (-1))) 82 = M 82 := by rw [stK (by decide), stK (by decide)]
    refine ⟨⟨?_, ?_⟩, w.st (fun i i1 i2 j _ => congrFun ((stK (by omega)).trans (stK (by omega))) j) (fun j hj => ?_) ?_ ?_ ?_ ?_, fun z => (c ?_).eq (fun i i1 i2 j _ => congrFun ((stK (by omega)).trans (stK (by omega))) j) (by rw [stK (by decide), stK (by decide)]) (by rw [stK (by decide), stK (by decide)]) (by rw [stK (by decide), stK (by decide)]) fun j _ _ => by rw [stK (by decide), stK (by decide)]⟩
    · rw [← e8, stK (by decide)]
      exact stE.trans hs
    · rw [stK (by decide), stO (by decide), stK (by decide), stK (by decide)]
      exact a2
    · unfold dgS
      rw [if_neg (by omega), e82]
    · rw [e82]
      refine stE.trans ?_
      rw [stK (by decide), w.2.1.1]
      rfl
    · rw [e82, stO (by decide), stK (by decide)]
      exact w.2.1.2.1
    · rw [e82, stO (by decide), stK (by decide)]
      exact w.2.1.2.2
    · rw [e82]
      exact w.2.2
    · rw [stK (by decide), stK (by decide)] at z
      exact z⟩
  refine ((cf_dog i0 hb g).and fun n => pc_X11_dog (Q := fun _ M1 => UpX M M1 → MdN_dog h b M1) _ _ M fun n1 _ => p_isHouse (fun hh z hz => cI_i (brF (by omega) fun u => ⟨fun _ => V, fun y => absurd y hh⟩)) fun hh z hz => cI_i (brT (by omega) (brP (fun hb0 => fin _ _ _ rfl hh ?_) fun hb0 => fin _ _ _ rfl hh ?_))).mono fun r M1 q => ⟨q.1.1, q.2 q.1.2.2.1⟩
  · unfold dgD
    rw [if_pos hb0, a1]
  · unfold dgD
    rw [if_neg hb0, a1]
theorem msN_dog {h b : Int} (i0 : in32 h) (hb : b = 0 ∨ b = 1) (g : axG M) (V : MdN_dog h b M) : CA FF sc YF 59 m_X12_dog [vr 81, vi h, vi b] M (fun r M1 => (∃ y, r = vi y) ∧ rN M1) := by
  have fin : ∀ (s1 : Int) (n : Nat), (0 ≤ h ∧ h ≤ 9) → s1 = dgD h b (M 81 8) → PW sc n m_X12_dog 23 [vi s1, vr 81] [some (vr 81), some (vi h), some (vi b)] M (fun _ M1 => LoX M M1 → rN M1) := fun s1 n hh hs => pw_X12_dog_23 _ _ _ M fun n1 _ l => by
    unfold rN
    have e8 : stM (stM M 81 8 s1) 82 32 (bAnd (stM M 81 8 s1 82 32) (bXor (bShl 1 h) (-1))) 81 8 = dgD h b (M 81 8) := by
      rw [stK (by decide)]
      exact stE.trans hs
    have e61 : stM (stM M 81 8 s1) 82 32 (bAnd (stM M 81 8 s1 82 32) (bXor (bShl 1 h) (-1))) 81 61 = M 81 61 := by rw [stK (by decide), stO (by decide)]
    rw [e8, e61]
    refine nwP.eq (V.2 hh) (.lo l) (fun j _ _ => ?_) fun j _ _ => by rw [stK (by decide), stK (by decide)]
    unfold dgS
    by_cases e : j = 32
    · subst e
      rw [if_pos rfl]
      refine stE.trans ?_
      rw [stK (by decide)]
    · rw [if_neg e, stO e, stK (by decide)]
  refine ((mf_dog i0 hb g).and fun n => pc_X12_dog (Q := fun _ M1 => LoX M M1 → rN M1) _ _ M fun n1 _ => p_isTen (fun hh z hz => cI_i (brF (by omega) fun l => V.1 hh)) fun hh z hz => cI_i (brT (by omega) (brP (fun hb0 => fin _ _ hh ?_) fun hb0 => fin _ _ hh ?_))).mono fun r M1 q => ⟨q.1.1, q.2 q.1.2.2.1⟩
  · unfold dgD
    rw [if_pos hb0]
  · unfold dgD
    rw [if_neg hb0]
/-! tells -/
abbrev tlOk (h d : Int) (S : Nat → Int) : Prop := (0 ≤ h ∧ h ≤ 9) ∧ bit d h.toNat = true ∧ bit (S 32) h.toNat = false
def tlV (h d : Int) (S : Nat → Int) : Int := if tlOk h d S then 1 else 0
def tlS (h d : Int) (S : Nat → Int) (j : Nat) : Int := if j = 32 ∧ tlOk h d S then bOr (S 32) (bShl 1 h) else S j
def MdN_tells (h x : Int) (M1 : MM) : Prop := x = tlV h (M1 81 8) (M1 82) ∧ nwP M1 (M1 81 8) (tlS h (M1 81 8) (M1 82)) (M1 81 61) (M1 84)
theorem csN_tells {h : Int} (i0 : in32 h) (g : axG M) (V : rN M) : CA FF sc YF 59 m_X11_tells [vr 0, vi h] M (fun r M1 => ∃ x, r = vi x ∧ MdN_tells h x M1) := by
  obtain ⟨⟨a1, a2⟩, w, c⟩ := id V
  have no : ¬ tlOk h (M 81 8) (M 82) → UpX M M → ∃ x, vi 0 = vi x ∧ MdN_tells h x M := fun z u => ⟨0, rfl, (if_neg z).symm, nwP.eq V ⟨⟨rfl, rfl⟩, fun _ _ => ⟨fun _ _ _ _ _ => rfl, rfl, rfl, rfl⟩⟩ (fun j _ _ => if_neg fun y => z y.2) .rf⟩
  refine ((cf_tells i0 g).and fun n => pc_X11_tells (Q := fun r M1 => UpX M M1 → ∃ x, r = vi x ∧ MdN_tells h x M1) _ M fun n1 _ => p_isHouse (fun hh z hz => cI_i (brT hz (no fun y => hh y.1))) fun hh z hz => cI_i (brF (by omega) ?_)).mono fun r M1 q => q.2 q.1.2.2.1
  have eh : h = ((h.toNat : Nat) : Int) := by omega
  have hr : ∀ P : Int → Prop, P ((h.toNat : Nat) : Int) → P h := fun P p => by rw [eh]; exact p
  rw [a1]
  refine hr (fun v => PC sc n1 m_X11_hasBit [vi (M 81 8), vi v] M _) (p_hasC (by omega) (fun q x hx => cI_i (brT hx (no fun y => absurd (q.symm.trans y.2.1) (by decide)))) fun q x hx => cI_i (brF (by omega) ?_))
  rw [w.2.1.1]
  refine hr (fun v => PC sc n1 m_X11_hasBit [vi (M 82 32), vi v] M _) (p_hasC (by omega) (fun q2 x hx => cI_i (brT hx ?_)) fun q2 x hx => cI_i (brF (by omega) (no fun y => absurd (q2.symm.trans y.2.2) (by decide))))
  have ok : tlOk h (M 81 8) (M 82) := ⟨hh, q, q2⟩
  intro u
  refine ⟨1, rfl, ?_, ⟨?_, ?_⟩, w.st (fun i i1 i2 j _ => congrFun (stK (by omega)) j) (fun j hj => ?_) ?_ ?_ ?_ ?_, fun z => (c ?_).eq (fun i i1 i2 j _ => congrFun (stK (by omega)) j) (by rw [stK (by decide)]) (by rw [stK (by decide)]) (by rw [stK (by decide)]) fun j _ _ => by rw [stK (by decide)]⟩
  · rw [stK (by decide), stK (by decide)]
    exact (if_pos ok).symm
  · rw [stK (by decide), stK (by decide)]
    exact a1
  · rw [stK (by decide), stK (by decide)]
    exact a2
  · rw [stK (by decide), stK (by decide)]
    exact if_neg (by omega)
  · rw [stK (c := 81) (by decide), stK (c := 82) (by decide)]
    refine stE.trans ?_
    rw [w.2.1.1]
    exact (if_pos ⟨rfl, ok⟩).symm
  · rw [stK (c := 81) (by decide), stK (c := 82) (by decide), stO (by decide)]
    exact w.2.1.2.1.trans (if_neg (by omega)).symm
  · rw [stK (c := 81) (by decide), stK (c := 82) (by decide), stO (by decide)]
    exact w.2.1.2.2.trans (if_neg (by omega)).symm
  · rw [stK (c := 81) (by decide), stK (c := 82) (by decide), show tlS h (M 81 8) (M 82) 34 = M 82 34 from if_neg (by omega)]
    exact w.2.2
  · rw [stK (by decide)] at z
    exact z
theorem msN_tells {h x : Int} (i0 : in32 h) (g : axG M) (V : MdN_tells h x M) : CA FF sc YF 59 m_X12_tells [vr 81, vi h] M (fun r M1 => ∃ y, r = vi y ∧ rN M1 ∧ y = x) := by
  obtain ⟨V1, V2⟩ := V
  have no : ¬ tlOk h (M 81 8) (M 82) → LoX M M → ∃ y, vi 0 = vi y ∧ rN M ∧ y = x := fun z l => ⟨0, rfl, nwP.eq V2 (.lo l) (fun j _ _ => (if_neg fun y => z y.2).symm) .rf, by rw [V1]; exact (if_neg z).symm⟩
  refine ((mf_tells i0 g).and fun n => pc_X12_tells (Q := fun r M1 => LoX M M1 → ∃ y, r = vi y ∧ rN M1 ∧ y = x) _ M fun n1 _ => p_isTen (fun hh z hz => cI_i (brT hz (no fun y => hh y.1))) fun hh z hz => cI_i (brF (by omega) ?_)).mono fun r M1 q => q.2 q.1.2.2.1
  have eh : h = ((h.toNat : Nat) : Int) := by omega
  have hr : ∀ P : Int → Prop, P ((h.toNat : Nat) : Int) → P h := fun P p => by rw [eh]; exact p
  refine hr (fun v => PC sc n1 m_X12_has [vi (M 81 8), vi v] M _) (p_has (by omega) (fun q x hx => cI_i (brT hx (no fun y => absurd (q.symm.trans y.2.1) (by decide)))) fun q x hx => cI_i (brF (by omega) ?_))
  refine hr (fun v => PC sc n1 m_X12_has [vi (M 82 32), vi v] M _) (p_has (by omega) (fun q2 x hx => cI_i (brT hx ?_)) fun q2 x hx => cI_i (brF (by omega) (no fun y => absurd (q2.symm.trans y.2.2) (by decide))))
  have ok : tlOk h (M 81 8) (M 82) := ⟨hh, q, q2⟩
  intro l
  refine ⟨1, rfl, ?_, by rw [V1]; exact (if_pos ok).symm⟩
  unfold rN
  rw [stK (c := 81) (by decide), stK (c := 84) (by decide)]
  refine nwP.eq V2 (.lo l) (fun j _ _ => ?_) .rf
  unfold tlS
  by_cases e : j = 32
  · subst e
    rw [if_pos ⟨rfl, ok⟩]
    exact stE
  · rw [if_neg fun z => e z.1]
    exact stO e
/-! stranger -/
def srS (g s c : Int) (S : Nat → Int) (j : Nat) : Int := if (j : Int) = 20 + g then c else if (j : Int) = 10 + g then 0 else if (j : Int) = g then s else if j = 31 then bAnd (S 31) (bXor (bShl 1 g) (-1)) else if j = 30 then bOr (S 30) (bShl 1 g) else S j
def MdN_stranger (g x y c : Int) (M1 : MM) : Prop := (¬ stOk (M1 85) g x y c → rN M1) ∧ (stOk (M1 85) g x y c → nwP M1 (M1 81 8) (srS g (8 * y + x) c (M1 82)) (M1 81 61) (M1 84))
set_option maxRecDepth 20000 in
theorem f_strangerC2 {g x y c : Int} {n T : Nat} (hT : T = 57 ∨ T = 61) (e10 : M 0 10 = (T : Int) + 1) (k0 : ¬ stOk (M (T + 1)) g x y c → Q (vi 0) M) (k1 : stOk (M (T + 1)) g x y c → Q (vi 1) (stM (stM (stM (stM M 47 g.toNat (8 * y + x)) 48 g.toNat 0) 49 g.toNat c) 50 g.toNat 0)) : PC sc n m_X11_stranger [vr 0, vi g, vi x, vi y, vi c] M Q := by
  refine pc_X11_stranger g x y c M fun n1 _ => p_isStr (fun h z hz => cI_i (brT hz (k0 (fun w => h w.1)))) fun h1 z hz => cI_i (brF (by omega) (p_isIn (fun h z hz => cI_i (brT hz (k0 (fun w => h w.2.1)))) fun h2 z hz => cI_i (brF (by omega) (p_isIn (fun h z hz => cI_i (brF (by omega) (k0 (fun w => h w.2.2.1)))) fun h3 z hz => cI_i (brT (by omega) (p_isIn (fun h z hz => cI_i (brT hz (k0 (fun w => h w.2.2.2.1)))) fun h4 z hz => cI_i (brF (by omega) ?_)))))))
  rw [e10, show ((T : Int) + 1).toNat - 1 = T by omega, show w32 (8 * y) = 8 * y from ew32 (by omega) (by omega), show w32 (8 * y + x) = 8 * y + x from ew32 (by omega) (by omega)]
  refine gMB (gMB (f_isWall hT (fun h z hz => cI_i (brT hz (pc_X8_putStranger _ _ _ M fun n2 _ => gMB (gMB (gMB (gMB (k1 ?_))))))) fun h z hz => cI_i (brF (by omega) (k0 ?_))))
  · unfold wl at h
    exact ⟨h1, h2, h3, h4, fun w => h (.inr (.inr w))⟩
  · unfold wl at h
    intro w
    rcases h with h | h | h
    · omega
    · omega
    · exact w.2.2.2.2 h
theorem bit_set {v : Int} {g i : Nat} (hg : g < 10) (hi : i < 10) : bit (bOr v (bShl 1 (g : Int))) i = (bit v i || decide (i = g)) := by rw [bit_or, bit_shl (by omega) (by omega)]
theorem bit_clr {v : Int} {g i : Nat} (hg : g < 10) (hi : i < 10) : bit (bAnd v (bXor (bShl 1 (g : Int)) (-1))) i = (bit v i && !decide (i = g)) := by rw [bit_and, bit_not _ (by omega), bit_shl (by omega) (by omega)]
theorem csN_stranger {g x y c : Int} (i0 : in32 g) (i1 : in32 x) (i2 : in32 y) (i3 : in32 c) (G : axG M) (W : rW M) (V : rN M) : CA FF sc YF 59 m_X11_stranger [vr 0, vi g, vi x, vi y, vi c] M (fun r M1 => (∃ z, r = vi z) ∧ MdN_stranger g x y c M1) := by
  obtain ⟨⟨a1, a2⟩, w, k⟩ := id V
  obtain ⟨T, hT, v0, v1, v2⟩ := W
  have e : stOk (M (T + 1)) g x y c ↔ stOk (M 85) g x y c := by
    unfold stOk
    constructor
    · intro ⟨a, b, c, d, w⟩
      exact ⟨a, b, c, d, by rw [← v1 _ (by omega)]; exact w⟩
    · intro ⟨a, b, c, d, w⟩
      exact ⟨a, b, c, d, by rw [v1 _ (by omega)]; exact w⟩
  refine ((cf_stranger i0 i1 i2 i3 G).and fun n => f_strangerC2 (Q := fun _ M1 => MdN_stranger g x y c M1) hT v0 (fun h => ⟨fun _ => V, fun z => absurd (e.mpr z) h⟩) fun h => ⟨fun z => absurd (e.mp h) z, fun _ => ?_⟩).mono fun r M1 q => ⟨q.1.1, q.2⟩
  obtain ⟨h1, h2, h3, h4, -⟩ := h
  obtain ⟨i, hi⟩ : ∃ i : Nat, g = (i : Int) := ⟨g.toNat, by omega⟩
  subst hi
  have hi : i < 10 := by omega
  obtain ⟨s, hs⟩ : ∃ s, s = 8 * y + x := ⟨_, rfl⟩
  rw [← hs, show ((i : Int)).toNat = i by omega]
  have hs : 0 ≤ s ∧ s < 64 := by omega
  refine ⟨⟨?_, ?_⟩, ⟨fun q hq => ?_, ⟨?_, ?_, ?_⟩, ?_⟩, fun z => (k ?_).eq (fun i i1 i2 j _ => congrFun ((stK (by omega)).trans ((stK (by omega)).trans ((stK (by omega)).trans (stK (by omega))))) j) rfl rfl rfl fun j _ _ => rfl⟩
  · exact a1
  · exact a2
  · have wq := w.1 q hq
    have o : ∀ j : Nat, j ≠ i → j ≠ 10 + i → j ≠ 20 + i → j ≠ 30 → j ≠ 31 → srS (i : Int) s c (M 82) j = M 82 j := fun j j1 j2 j3 j4 j5 => by
      unfold srS
      rw [if_neg (by omega), if_neg (by omega), if_neg (by omega), if_neg j5, if_neg j4]
    have o30 : srS (i : Int) s c (M 82) 30 = bOr (M 82 30) (bShl 1 (i : Int)) := by
      unfold srS
      rw [if_neg (by omega), if_neg (by omega), if_neg (by omega), if_neg (by decide), if_pos rfl]
    have o31 : srS (i : Int) s c (M 82) 31 = bAnd (M 82 31) (bXor (bShl 1 (i : Int)) (-1)) := by
      unfold srS
      rw [if_neg (by omega), if_neg (by omega), if_neg (by omega), if_pos rfl]
    show nwG (stM M 47 i s 47) (stM M 48 i 0 48) (stM M 49 i c 49) (stM M 50 i 0 50) (srS (i : Int) s c (M 82)) q
    unfold nwG
    rw [o30, o31, bit_set hi hq, bit_clr hi hq]
    by_cases e : q = i
    · subst e
      have s1 : srS (q : Int) s c (M 82) q = s := by
        unfold srS
        rw [if_neg (by omega), if_neg (by omega), if_pos rfl]
      have s2 : srS (q : Int) s c (M 82) (10 + q) = 0 := by
        unfold srS
        rw [if_neg (by omega), if_pos (by omega)]
      have s3 : srS (q : Int) s c (M 82) (20 + q) = c := by
        unfold srS
        rw [if_pos (by omega)]
      rw [s1, s2, s3, stE, stE, stE, stE, decide_eq_true rfl, Bool.or_true, Bool.not_true, Bool.and_false]
      exact ⟨fun _ => ⟨⟨rfl, hs⟩, rfl, rfl, rfl⟩, fun z => by cases z⟩
    · rw [stO e, stO e, stO e, stO e, o q e (by omega) (by omega) (by omega) (by omega), o (10 + q) (by omega) (by omega) (by omega) (by omega) (by omega), o (20 + q) (by omega) (by omega) (by omega) (by omega) (by omega), decide_eq_false e, Bool.or_false, Bool.not_false, Bool.and_true]
      exact wq
  · refine w.2.1.1.trans (Eq.symm ?_)
    unfold srS
    rw [if_neg (by omega), if_neg (by omega), if_neg (by omega), if_neg (by decide), if_neg (by decide)]
    rfl
  · refine w.2.1.2.1.trans (Eq.symm ?_)
    unfold srS
    rw [if_neg (by omega), if_neg (by omega), if_neg (by omega), if_neg (by decide), if_neg (by decide)]
    rfl
  · refine w.2.1.2.2.trans (Eq.symm ?_)
    unfold srS
    rw [if_neg (by omega), if_neg (by omega), if_neg (by omega), if_neg (by decide), if_neg (by decide)]
    rfl
  · unfold srS
    rw [if_neg (by omega), if_neg (by omega), if_neg (by omega), if_neg (by decide), if_neg (by decide)]
    exact w.2.2
  · exact z
set_option maxRecDepth 20000 in
theorem f_strangerM2 {g x y c : Int} {n : Nat} (k0 : ¬ stOk (M 85) g x y c → Q (vi 0) M) (k1 : stOk (M 85) g x y c → ∀ M1, (∀ c, c ≠ 82 → M1 c = M c) → (∀ j, j < 36 → M1 82 j = srS g (8 * y + x) c (M 82) j) → Q (vi 1) M1) : PC sc n m_X12_stranger [vr 81, vi g, vi x, vi y, vi c] M Q := by
  refine pc_X12_stranger g x y c M fun n1 _ => p_isTen (fun h z hz => cI_i (brT hz (k0 (fun w => h w.1)))) fun h1 z hz => cI_i (brF (by omega) (p_in (fun h z hz => cI_i (brT hz (k0 (fun w => h w.2.1)))) fun h2 z hz => cI_i (brF (by omega) (p_in (fun h z hz => cI_i (brT hz (k0 (fun w => h w.2.2.1)))) fun h3 z hz => cI_i (brF (by omega) (p_in (fun h z hz => cI_i (brT hz (k0 (fun w => h w.2.2.2.1)))) fun h4 z hz => cI_i (brF (by omega) ?_)))))))
  rw [show w32 (8 * y) = 8 * y from ew32 (by omega) (by omega), show w32 (8 * y + x) = 8 * y + x from ew32 (by omega) (by omega), show w32 (0 + g) = g by rw [Int.zero_add]; exact ew32 (by omega) (by omega), show w32 (10 + g) = 10 + g from ew32 (by omega) (by omega), show w32 (20 + g) = 20 + g from ew32 (by omega) (by omega)]
  refine gMB (brP (fun h => gMB (gMB (gMB (k1 ⟨h1, h2, h3, h4, h⟩ _ (fun c hc => (stK hc).trans ((stK hc).trans ((stK hc).trans ((stK hc).trans (stK hc))))) fun j hj => ?_)))) fun h => k0 (fun w => h w.2.2.2.2))
  unfold srS
  by_cases e1 : (j : Int) = 20 + g
  · rw [if_pos e1, show j = (20 + g).toNat by omega]
    exact stE
  rw [if_neg e1, stO (by omega)]
  by_cases e2 : (j : Int) = 10 + g
  · rw [if_pos e2, show j = (10 + g).toNat by omega]
    exact stE
  rw [if_neg e2, stO (by omega)]
  by_cases e3 : (j : Int) = g
  · rw [if_pos e3, show j = g.toNat by omega]
    exact stE
  rw [if_neg e3, stO (by omega)]
  by_cases e4 : j = 31
  · subst e4
    rw [if_pos rfl]
    exact stE
  rw [if_neg e4, stO e4]
  by_cases e5 : j = 30
  · subst e5
    rw [if_pos rfl]
    exact stE
  rw [if_neg e5, stO e5]
theorem msN_stranger {g x y c : Int} (i0 : in32 g) (i1 : in32 x) (i2 : in32 y) (i3 : in32 c) (G : axG M) (V : MdN_stranger g x y c M) : CA FF sc YF 59 m_X12_stranger [vr 81, vi g, vi x, vi y, vi c] M (fun r M1 => (∃ z, r = vi z) ∧ rN M1) := by
  refine ((mf_stranger i0 i1 i2 i3 G).and fun n => f_strangerM2 (Q := fun _ M1 => LoX M M1 → rN M1) (fun h _ => V.1 h) fun h M1 f1 f2 l => ?_).mono fun r M1 q => ⟨q.1.1, q.2 q.1.2.2.1⟩
  unfold rN
  rw [f1 81 (by decide), f1 84 (by decide)]
  exact nwP.eq (V.2 h) (.lo l) (fun j hj _ => f2 j hj) .rf
end NWD
