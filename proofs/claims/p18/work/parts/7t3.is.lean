/-! PART 7t3: the answers of strangerIs -/
theorem pc_X11_strangerIs {sc : List Int} {n : Nat} {Q : Vv → MM → Prop} (v1 : Int) (v2 : Int) (M : MM) (h : ∀ n1, n1 < n → PC sc n1 m_X11_isStranger [vi v1] M (cI fun r2 M1 =>
  brA (decide (r2 = 0))
   (Q (vi ((-1))) M1)
   (PC sc n1 m_X8_isTold [vr 46, vi v1] M1 (cI fun r4 M3 =>
    brA (decide (r4 ≠ 0))
     ((v2 = 0 → gIm (decide (0 ≤ v1) && decide (v1 < 10)) (Q (vi (M3 47 v1.toNat)) M3)) ∧
      (v2 ≠ 0 → (v2 = 1 → gIm (decide (0 ≤ v1) && decide (v1 < 10)) (Q (vi (M3 48 v1.toNat)) M3)) ∧
      (v2 ≠ 1 → (v2 = 2 → gIm (decide (0 ≤ v1) && decide (v1 < 10)) (Q (vi (M3 49 v1.toNat)) M3)) ∧
      (v2 ≠ 2 → (v2 = 3 → gIm (decide (0 ≤ v1) && decide (v1 < 10)) (Q (vi (M3 50 v1.toNat)) M3)) ∧
      (v2 ≠ 3 → (v2 = 4 → gIm (decide (0 ≤ v1) && decide (v1 < 10)) (brA (decide ((M3 50 v1.toNat) ≠ 1))
       (gIm (decide (0 < M3 0 10)) (gIm (decide (0 ≤ v1) && decide (v1 < 10)) (gIm (kd YF ((M3 0 10).toNat - 1) == 18) (PC sc n1 m_X9_housesSeenFrom [vr ((M3 0 10).toNat - 1), vi (M3 47 v1.toNat)] M3 (cI fun r6 M5 =>
        Q (vi r6) M5)))))
       (Q (vi 0) M3))) ∧
      (v2 ≠ 4 → Q (vi ((-1))) M3))))))
     (Q (vi ((-1))) M3))))) : PC sc n m_X11_strangerIs [vr 0, vi v1, vi v2] M Q := pc_go rfl (fun j => false) 61 h
theorem pc_X9_housesSeenFrom {sc : List Int} {n : Nat} {T : Nat} (hT : T = 57 ∨ T = 61) {Q : Vv → MM → Prop} (v1 : Int) (M : MM) (h : ∀ n1, n1 < n → PW sc n1 m_X9_housesSeenFrom 4 [] [some (vr T), some (vi v1), some (vi 0), some (vi 0)] M Q) : PC sc n m_X9_housesSeenFrom [vr T, vi v1] M Q := by
  rcases hT with rfl | rfl <;> exact pc_go rfl (fun j => Nat.beq j 4) 30 h
theorem pw_X9_housesSeenFrom_4 {sc : List Int} {n : Nat} {T : Nat} (hT : T = 57 ∨ T = 61) {Q : Vv → MM → Prop} (v1 : Int) (v2 : Int) (v3 : Int) (M : MM) (h : ∀ n1, n1 < n → brA (decide (10 ≤ v3))
  (Q (vi v2) M)
  (gIm (decide (0 ≤ v3) && decide (v3 < 10)) (PC sc n1 m_X9_sees [vr T, vi v1, vi (M ((T + 2)) v3.toNat)] M (cI fun r2 M1 =>
   brA (decide (r2 = 0))
    (PW sc n1 m_X9_housesSeenFrom 4 [] [some (vr T), some (vi v1), some (vi v2), some (vi (w32 (v3 + 1)))] M1 Q)
    (PW sc n1 m_X9_housesSeenFrom 4 [] [some (vr T), some (vi v1), some (vi (bOr v2 (bShl 1 v3))), some (vi (w32 (v3 + 1)))] M1 Q))))) : PW sc n m_X9_housesSeenFrom 4 [] [some (vr T), some (vi v1), some (vi v2), some (vi v3)] M Q := by
  rcases hT with rfl | rfl <;> exact pw_go rfl (fun j => Nat.beq j 4) 30 h
theorem pc_X12_strangerIs {sc : List Int} {n : Nat} {Q : Vv → MM → Prop} (v1 : Int) (v2 : Int) (M : MM) (h : ∀ n1, n1 < n → PC sc n1 m_X12_isTold [vr 81, vi v1] M (cI fun r2 M1 =>
  brA (decide (r2 ≠ 0))
   ((v2 = 0 → gIm (decide (0 ≤ (w32 (0 + v1))) && decide ((w32 (0 + v1)) < 36)) (Q (vi (M1 82 (w32 (0 + v1)).toNat)) M1)) ∧
    (v2 ≠ 0 → (v2 = 1 → gIm (decide (0 ≤ (w32 (10 + v1))) && decide ((w32 (10 + v1)) < 36)) (Q (vi (M1 82 (w32 (10 + v1)).toNat)) M1)) ∧
    (v2 ≠ 1 → (v2 = 2 → gIm (decide (0 ≤ (w32 (20 + v1))) && decide ((w32 (20 + v1)) < 36)) (Q (vi (M1 82 (w32 (20 + v1)).toNat)) M1)) ∧
    (v2 ≠ 2 → (v2 = 3 → PC sc n1 m_X12_has [vi (M1 82 31), vi v1] M1 (cI fun r6 M5 =>
     brA (decide (r6 = 0))
      (Q (vi 0) M5)
      (Q (vi 1) M5))) ∧
    (v2 ≠ 3 → (v2 = 4 → PC sc n1 m_X12_housesSeen [vr 81, vi v1] M1 (cI fun r4 M3 =>
     Q (vi r4) M3)) ∧
    (v2 ≠ 4 → Q (vi ((-1))) M1))))))
   (Q (vi ((-1))) M1))) : PC sc n m_X12_strangerIs [vr 81, vi v1, vi v2] M Q := pc_go rfl (fun j => false) 51 h
theorem pc_X12_housesSeen {sc : List Int} {n : Nat} {Q : Vv → MM → Prop} (v1 : Int) (M : MM) (h : ∀ n1, n1 < n → PW sc n1 m_X12_housesSeen 4 [] [some (vr 81), some (vi v1), some (vi 0), some (vi 0)] M Q) : PC sc n m_X12_housesSeen [vr 81, vi v1] M Q := pc_go rfl (fun j => Nat.beq j 4) 43 h
theorem pw_X12_housesSeen_4 {sc : List Int} {n : Nat} {Q : Vv → MM → Prop} (v1 : Int) (v2 : Int) (v3 : Int) (M : MM) (h : ∀ n1, n1 < n → brA (decide (10 ≤ v3))
  (Q (vi v2) M)
  (PC sc n1 m_X12_isThere [vr 81, vi v1] M (cI fun r2 M1 =>
   brA (decide (r2 = 0))
    (PW sc n1 m_X12_housesSeen 4 [] [some (vr 81), some (vi v1), some (vi v2), some (vi (w32 (v3 + 1)))] M1 Q)
    (PC sc n1 m_X12_hasSpot [vr 81, vi v3] M1 (cI fun r4 M3 =>
     brA (decide (r4 = 0))
      (PW sc n1 m_X12_housesSeen 4 [] [some (vr 81), some (vi v1), some (vi v2), some (vi (w32 (v3 + 1)))] M3 Q)
      (gIm (decide (0 ≤ (w32 (0 + v1))) && decide ((w32 (0 + v1)) < 36)) (gIm (decide (0 ≤ v3) && decide (v3 < 10)) (PC sc n1 m_X12_isSeen [vr 81, vi (M3 82 (w32 (0 + v1)).toNat), vi (M3 86 v3.toNat)] M3 (cI fun r6 M5 =>
       brA (decide (r6 = 0))
        (PW sc n1 m_X12_housesSeen 4 [] [some (vr 81), some (vi v1), some (vi v2), some (vi (w32 (v3 + 1)))] M5 Q)
        (PW sc n1 m_X12_housesSeen 4 [] [some (vr 81), some (vi v1), some (vi (bOr v2 (bShl 1 v3))), some (vi (w32 (v3 + 1)))] M5 Q)))))))))) : PW sc n m_X12_housesSeen 4 [] [some (vr 81), some (vi v1), some (vi v2), some (vi v3)] M Q := pw_go rfl (fun j => Nat.beq j 4) 43 h
section SIA
variable {sc : List Int} {Q : Vv → MM → Prop}
set_option maxRecDepth 20000 in
theorem f_sees2 {T : Nat} (hT : T = 57 ∨ T = 61) {K : Nat → Int} {M : MM} {n : Nat} {s t : Int} (hs : 0 ≤ s ∧ s < 64) (hS : (0 ≤ t ∧ t < 64) → ∀ f t : Nat, f < 64 → t < 64 → bil (M (T + 3) f) t = seeB K f t) (k0 : ¬ ((0 ≤ t ∧ t < 64) ∧ seeB K s t = true) → ∀ x : Int, x = 0 → Q (vi x) M) (k1 : (0 ≤ t ∧ t < 64) → seeB K s t = true → ∀ x : Int, x = 1 → Q (vi x) M) : PC sc n m_X9_sees [vr T, vi s, vi t] M Q := by
  by_cases r : 0 ≤ t ∧ t < 64
  · exact f_sees hT hs (hS r) k0 k1
  · exact pc_X9_sees hT s t M fun n1 _ => brF (by omega) (brF (by omega) (brP (fun h => k0 (fun z => r z.1) 0 rfl) fun h => brP (fun h2 => absurd (show 0 ≤ t ∧ t < 64 by omega) r) fun h2 => k0 (fun z => r z.1) 0 rfl))
set_option maxRecDepth 20000 in
theorem p_isToldK {g n : Nat} (hg : g < 10) {M : MM} (k0 : M 47 g = -1 → ∀ x : Int, x = 0 → Q (vi x) M) (k1 : M 47 g ≠ -1 → ∀ x : Int, x = 1 → Q (vi x) M) : PC sc n m_X8_isTold [vr 46, vi (g : Int)] M Q := pc_X8_isTold _ M fun n1 _ => gMB (by
  rw [show ((g : Int)).toNat = g by omega]
  exact brP (fun h => k0 (by omega) 0 rfl) fun h => k1 (by omega) 1 rfl)
/- which houses one sees -/
set_option maxRecDepth 20000 in
theorem f_seenFrom {T : Nat} (hT : T = 57 ∨ T = 61) {K : Nat → Int} {M : MM} {s : Int} (hs : 0 ≤ s ∧ s < 64) (hr : ∀ i, -1 ≤ M (T + 2) i ∧ M (T + 2) i ≤ 63) (hS : ∀ h, h < 10 → 0 ≤ M (T + 2) h → ∀ f t : Nat, f < 64 → t < 64 → bil (M (T + 3) f) t = seeB K f t) {p : Nat → Bool} (hp : ∀ h, h < 10 → p h = (decide (0 ≤ M (T + 2) h) && seeB K s (M (T + 2) h))) {n : Nat} (k : Q (vi (sbV p 10 0 0)) M) : PC sc n m_X9_housesSeenFrom [vr T, vi s] M Q := by
  have lp : ∀ (m i n : Nat) (acc : Int), i + m = 10 → Q (vi (sbV p m i acc)) M → PW sc n m_X9_housesSeenFrom 4 [] [some (vr T), some (vi s), some (vi acc), some (vi (i : Int))] M Q := by
    intro m
    induction m with
    | zero =>
      intro i n acc hi k
      have hi : i = 10 := hi
      subst hi
      exact pw_X9_housesSeenFrom_4 hT _ _ _ M fun n1 _ => brT (by decide) k
    | succ m ih =>
      intro i n acc hi k
      rw [sbV_s] at k
      have e := hp i (by omega)
      have r := hr i
      refine pw_X9_housesSeenFrom_4 hT _ _ _ M fun n1 _ => brF (by omega) (gMB ?_)
      rw [show ((i : Int)).toNat = i by omega, show w32 ((i : Int) + 1) = ((i + 1 : Nat) : Int) from ew32 (by omega) (by omega)]
      refine f_sees2 hT hs (fun z => hS i (by omega) z.1) (fun no x hx => cI_i (brT hx (ih (i + 1) n1 acc (by omega) ?_))) fun y1 y2 x hx => cI_i (brF (by omega) (ih (i + 1) n1 _ (by omega) ?_))
      · rw [if_neg] at k
        · exact k
        · rw [e, Bool.and_eq_true]
          intro z
          have z1 := of_decide_eq_true z.1
          exact no ⟨by omega, z.2⟩
      · rw [if_pos (by rw [e, y2, decide_eq_true y1.1]; rfl)] at k
        exact k
  exact pc_X9_housesSeenFrom hT _ M fun n1 _ => lp 10 0 n1 0 rfl k
def sgP (M : MM) (g h : Nat) : Bool := (bit (M 82 30) g && !bit (M 82 31) g) && (decide (0 ≤ M 86 h) && seeB (M 85) (M 82 g) (M 86 h))
/- what strangerIs tells, by what the reference holds -/
def siV (M : MM) (g w : Int) : Int := if (0 ≤ g ∧ g ≤ 9) ∧ bit (M 82 30) g.toNat = true then (if w = 0 then M 82 g.toNat else if w = 1 then M 82 (10 + g.toNat) else if w = 2 then M 82 (20 + g.toNat) else if w = 3 then (if bit (M 82 31) g.toNat = true then 1 else 0) else if w = 4 then sbV (sgP M g.toNat) 10 0 0 else -1) else -1
theorem siV_up {M M1 : MM} (u : UpX M M1) (g w : Int) : siV M1 g w = siV M g w := by
  have e : ∀ g, sgP M1 g = sgP M g := fun g => by
    funext h
    unfold sgP
    rw [u.f 82 (by decide), u.f 85 (by decide), u.f 86 (by decide)]
  unfold siV
  rw [e, u.f 82 (by decide)]
set_option maxRecDepth 20000 in
theorem f_sIsC {M : MM} (G : GdS M) (V : rN M) {g w : Int} {n : Nat} : PC sc n m_X11_strangerIs [vr 0, vi g, vi w] M (fun r _ => r = vi (siV M g w)) := by
  obtain ⟨T, hT, v0, v1, hr, hh, hS⟩ := G.tw
  refine pc_X11_strangerIs _ _ M fun n1 _ => p_isStr (fun h x hx => cI_i (brT hx ?_)) fun hg x hx => cI_i (brF (by omega) ?_)
  · unfold siV
    rw [if_neg fun z => h z.1]
  obtain ⟨i, hi⟩ : ∃ i : Nat, g = (i : Int) := ⟨g.toNat, by omega⟩
  subst hi
  have hi : i < 10 := by omega
  rw [show ((i : Int)).toNat = i by omega]
  obtain ⟨z1, z2⟩ := V.2.1.1 i hi
  refine p_isToldK hi (fun no x hx => cI_i (brF (by omega) ?_)) fun yes x hx => cI_i (brT (by omega) ?_)
  · have b : ¬ bit (M 82 30) i = true := fun b => by
      obtain ⟨⟨y1, y2, -⟩, -⟩ := z1 b
      have y1 : M 47 i = M 82 i := y1
      omega
    unfold siV
    rw [show ((i : Int)).toNat = i by omega, if_neg fun z => b z.2]
  have b : bit (M 82 30) i = true := by
    cases e : bit (M 82 30) i
    · exact absurd (z2 e).1 yes
    · rfl
  obtain ⟨⟨y1, y2, y2'⟩, y3, y4, y5⟩ := z1 b
  have y1 : M 47 i = M 82 i := y1
  have y3 : M 48 i = M 82 (10 + i) := y3
  have y4 : M 49 i = M 82 (20 + i) := y4
  have y5 : M 50 i = (if bit (M 82 31) i then 1 else 0) := y5
  have eV : siV M (i : Int) w = (if w = 0 then M 82 i else if w = 1 then M 82 (10 + i) else if w = 2 then M 82 (20 + i) else if w = 3 then (if bit (M 82 31) i = true then 1 else 0) else if w = 4 then sbV (sgP M i) 10 0 0 else -1) := by
    unfold siV
    rw [show ((i : Int)).toNat = i by omega, if_pos ⟨hg, b⟩]
  rw [eV, v0, show ((T : Int) + 1).toNat - 1 = T by omega, y1, y3, y4, y5]
  refine ⟨fun e => gMB (by rw [if_pos e]), fun e0 => ⟨fun e => gMB (by rw [if_neg e0, if_pos e]), fun e1 => ⟨fun e => gMB (by rw [if_neg e0, if_neg e1, if_pos e]), fun e2 => ⟨fun e => gMB (by rw [if_neg e0, if_neg e1, if_neg e2, if_pos e]), fun e3 => ⟨fun e => gMB ?_, fun e4 => by rw [if_neg e0, if_neg e1, if_neg e2, if_neg e3, if_neg e4]⟩⟩⟩⟩⟩
  rw [if_neg e0, if_neg e1, if_neg e2, if_neg e3, if_pos e]
  cases pd : bit (M 82 31) i
  · rw [if_neg (by decide)]
    refine brT (by decide) (gMB (gMB (gMB (f_seenFrom (p := sgP M i) hT ⟨y2, y2'⟩ hr (fun h h1 h2 => hS ⟨h, h1, (hh h h1).1.mpr (by omega)⟩) (fun h h1 => ?_) (cI_i rfl)))))
    obtain ⟨s1, s2⟩ := hh h h1
    have r := hr h
    unfold sgP
    rw [b, pd, Bool.not_false, Bool.and_true, Bool.true_and]
    by_cases c : M (T + 2) h = -1
    · rw [decide_eq_false (show ¬ 0 ≤ M 86 h from fun z => s1.mp z c), decide_eq_false (show ¬ 0 ≤ M (T + 2) h by omega), Bool.false_and, Bool.false_and]
    · rw [decide_eq_true (s1.mpr c), decide_eq_true (show 0 ≤ M (T + 2) h by omega), s2 c]
  · rw [if_pos rfl]
    refine brF (by decide) ?_
    rw [sbV_no]
    intro h
    unfold sgP
    rw [pd, Bool.not_true, Bool.and_false, Bool.false_and]
set_option maxRecDepth 20000 in
theorem f_hSeenM {M : MM} (G : axG M) {g : Nat} (hg : g < 10) {n : Nat} (k : Q (vi (sbV (sgP M g) 10 0 0)) M) : PC sc n m_X12_housesSeen [vr 81, vi (g : Int)] M Q := by
  have rg := r82s G.1 g hg
  have lp : ∀ (m i n : Nat) (acc : Int), i + m = 10 → Q (vi (sbV (sgP M g) m i acc)) M → PW sc n m_X12_housesSeen 4 [] [some (vr 81), some (vi (g : Int)), some (vi acc), some (vi (i : Int))] M Q := by
    intro m
    induction m with
    | zero =>
      intro i n acc hi k
      have hi : i = 10 := hi
      subst hi
      exact pw_X12_housesSeen_4 _ _ _ M fun n1 _ => brT (by decide) k
    | succ m ih =>
      intro i n acc hi k
      rw [sbV_s] at k
      have no : sgP M g i = false → ∀ n, PW sc n m_X12_housesSeen 4 [] [some (vr 81), some (vi (g : Int)), some (vi acc), some (vi ((i + 1 : Nat) : Int))] M Q := fun e n => ih (i + 1) n acc (by omega) (by rw [e, if_neg (by decide)] at k; exact k)
      have r86 := rA_86 G.1 i
      refine pw_X12_housesSeen_4 _ _ _ M fun n1 _ => brF (by omega) ?_
      rw [show ((i : Int)).toNat = i by omega, show w32 ((i : Int) + 1) = ((i + 1 : Nat) : Int) from ew32 (by omega) (by omega), show w32 (0 + (g : Int)) = (g : Int) by rw [Int.zero_add]; exact ew32 (by omega) (by omega), show ((g : Int)).toNat = g by omega]
      refine p_isThereM hg (fun q x hx => cI_i (brT hx (no ?_ n1))) fun b1 b2 x hx => cI_i (brF (by omega) (f_hasSpotM (fun q x hx => cI_i (brT hx (no ?_ n1))) fun q x hx => cI_i (brF (by omega) (gMB (gMB (f_isSeen ⟨rg.1, rg.2⟩ ⟨?_, r86.2⟩ (fun b3 x hx => cI_i (brT hx (no ?_ n1))) fun b3 x hx => cI_i (brF (by omega) (ih (i + 1) n1 _ (by omega) ?_))))))))
      · unfold sgP
        cases e1 : bit (M 82 30) g
        · rfl
        · cases e2 : bit (M 82 31) g
          · exact absurd ⟨e1, e2⟩ q
          · rfl
      · unfold sgP
        rw [decide_eq_false (show ¬ 0 ≤ M 86 i from fun z => q ⟨by omega, by rw [show ((i : Int)).toNat = i by omega]; exact z⟩), Bool.false_and, Bool.and_false]
      · have := q.2
        rw [show ((i : Int)).toNat = i by omega] at this
        exact this
      · unfold sgP
        rw [b3, Bool.and_false, Bool.and_false]
      · have h86 := q.2
        rw [show ((i : Int)).toNat = i by omega] at h86
        rw [if_pos] at k
        · exact k
        · unfold sgP
          rw [b1, b2, b3, decide_eq_true h86]
          rfl
  exact pc_X12_housesSeen _ M fun n1 _ => lp 10 0 n1 0 rfl k
set_option maxRecDepth 20000 in
theorem f_sIsM {M : MM} (G : axG M) {g w : Int} {n : Nat} : PC sc n m_X12_strangerIs [vr 81, vi g, vi w] M (fun r _ => r = vi (siV M g w)) := by
  by_cases hg : 0 ≤ g ∧ g ≤ 9
  · obtain ⟨i, hi⟩ : ∃ i : Nat, g = (i : Int) := ⟨g.toNat, by omega⟩
    subst hi
    have hi : i < 10 := by omega
    refine pc_X12_strangerIs _ _ M fun n1 _ => ?_
    rw [show w32 (0 + (i : Int)) = (i : Int) by rw [Int.zero_add]; exact ew32 (by omega) (by omega), show w32 (10 + (i : Int)) = ((10 + i : Nat) : Int) from ew32 (by omega) (by omega), show w32 (20 + (i : Int)) = ((20 + i : Nat) : Int) from ew32 (by omega) (by omega), show ((i : Int)).toNat = i by omega, show (((10 + i : Nat) : Int)).toNat = 10 + i by omega, show (((20 + i : Nat) : Int)).toNat = 20 + i by omega]
    refine p_isToldM hi (fun q x hx => cI_i (brF (by omega) ?_)) fun b x hx => cI_i (brT (by omega) ?_)
    · unfold siV
      rw [show ((i : Int)).toNat = i by omega, if_neg fun z => absurd (q.symm.trans z.2) (by decide)]
    have eV : siV M (i : Int) w = (if w = 0 then M 82 i else if w = 1 then M 82 (10 + i) else if w = 2 then M 82 (20 + i) else if w = 3 then (if bit (M 82 31) i = true then 1 else 0) else if w = 4 then sbV (sgP M i) 10 0 0 else -1) := by
      unfold siV
      rw [show ((i : Int)).toNat = i by omega, if_pos ⟨hg, b⟩]
    rw [eV]
    refine ⟨fun e => gMB (by rw [if_pos e]), fun e0 => ⟨fun e => gMB (by rw [if_neg e0, if_pos e]), fun e1 => ⟨fun e => gMB (by rw [if_neg e0, if_neg e1, if_pos e]), fun e2 => ⟨fun e => ?_, fun e3 => ⟨fun e => ?_, fun e4 => by rw [if_neg e0, if_neg e1, if_neg e2, if_neg e3, if_neg e4]⟩⟩⟩⟩⟩
    · rw [if_neg e0, if_neg e1, if_neg e2, if_pos e]
      exact p_has (by omega) (fun q x hx => cI_i (brT hx (by rw [q, if_neg (by decide)]))) fun q x hx => cI_i (brF (by omega) (by rw [q, if_pos rfl]))
    · rw [if_neg e0, if_neg e1, if_neg e2, if_neg e3, if_pos e]
      exact f_hSeenM G hi (cI_i rfl)
  · exact pc_X12_strangerIs _ _ M fun n1 _ => pc_X12_isTold _ M fun n2 _ => p_isTen (fun _ x hx => cI_i (brT hx (cI_i (brF (by decide) (by unfold siV; rw [if_neg fun z => hg z.1]))))) fun z => absurd z hg
theorem csQ_strangerIs {M : MM} {g w : Int} (i0 : in32 g) (i1 : in32 w) (G : GdA M) : CA FF sc YF 59 m_X11_strangerIs [vr 0, vi g, vi w] M (fun r M1 => ∃ x, r = vi x ∧ GdA M1 ∧ x = siV M1 g w) := csV G (by decide +kernel) (cf_strangerIs i0 i1 G.1.1) (V := fun M => siV M g w) (fun n => f_sIsC G.1 G.2.2.1) fun M1 u => siV_up u g w
theorem msQ_strangerIs {M : MM} {g w x : Int} (i0 : in32 g) (i1 : in32 w) (G : GdA M ∧ x = siV M g w) : CA FF sc YF 59 m_X12_strangerIs [vr 81, vi g, vi w] M (fun r M1 => ∃ y, r = vi y ∧ GdA M1 ∧ y = x) := msV (V := fun M => siV M g w) G (by decide +kernel) (mf_strangerIs i0 i1 G.1.1.1) fun n => f_sIsM G.1.1.1
end SIA
