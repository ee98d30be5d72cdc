/-! PART 69: CHECK of both -/
theorem pc_X12_check {sc : List Int} {n : Nat} {Q : Vv → MM → Prop} (v1 : Int) (M : MM) (h : ∀ n1, n1 < n → PC sc n1 m_X12_in [vi v1, vi 0, vi 10] M (cI fun r2 M1 =>
  brA (decide (r2 = 0))
   (Q (vi ((-2))) M1)
   (brA (decide (v1 ≤ (w32 (Int.tdiv (M1 81 10) 4))))
    (PW sc n1 m_X12_check 18 [] [some (vr 81), some (vi v1), some (vi 0)] (stM M1 81 10 0) Q)
    (Q (vi ((-2))) M1)))) : PC sc n m_X12_check [vr 81, vi v1] M Q := pc_go rfl (fun j => Nat.beq j 18) 48 h
theorem pw_X12_check_18 {sc : List Int} {n : Nat} {Q : Vv → MM → Prop} (v1 : Int) (v2 : Int) (M : MM) (h : ∀ n1, n1 < n → brA (decide (v1 ≤ v2))
  (Q (vi ((-1))) M)
  (PC sc n1 m_X12_tapeNumber [vr 81, vi v2] M (cI fun r2 M1 =>
   PC sc n1 m_X12_isTold [vr 81, vi v2] M1 (cI fun r4 M3 =>
    brA (decide (r4 = 0))
     (brA (decide (r2 = 0))
      (PW sc n1 m_X12_check 18 [] [some (vr 81), some (vi v1), some (vi (w32 (v2 + 1)))] M3 Q)
      (Q (vi v2) M3))
     (gIm (decide (0 ≤ (w32 (10 + v2))) && decide ((w32 (10 + v2)) < 36)) (brA (decide (r2 = (M3 82 (w32 (10 + v2)).toNat)))
      (PW sc n1 m_X12_check 18 [] [some (vr 81), some (vi v1), some (vi (w32 (v2 + 1)))] M3 Q)
      (Q (vi v2) M3))))))) : PW sc n m_X12_check 18 [] [some (vr 81), some (vi v1), some (vi v2)] M Q := pw_go rfl (fun j => Nat.beq j 18) 48 h
theorem pc_X12_tapeNumber {sc : List Int} {n : Nat} {Q : Vv → MM → Prop} (v1 : Int) (M : MM) (h : ∀ n1, n1 < n → PW sc n1 m_X12_tapeNumber 6 [] [some (vr 81), some (vi v1), some (vi 0), some (vi (w32 (4 * v1)))] M Q) : PC sc n m_X12_tapeNumber [vr 81, vi v1] M Q := pc_go rfl (fun j => Nat.beq j 6) 33 h
theorem pw_X12_tapeNumber_6 {sc : List Int} {n : Nat} {Q : Vv → MM → Prop} (v1 : Int) (v2 : Int) (v3 : Int) (M : MM) (h : ∀ n1, n1 < n → brA (decide ((w32 ((w32 (4 * v1)) + 4)) ≤ v3))
  (Q (vi v2) M)
  (gIm (decide (0 ≤ v3) && decide (v3 < 260)) (PW sc n1 m_X12_tapeNumber 6 [] [some (vr 81), some (vi v1), some (vi (bOr (bShl v2 8) (bAnd (M 90 v3.toNat) 255))), some (vi (w32 (v3 + 1)))] M Q))) : PW sc n m_X12_tapeNumber 6 [] [some (vr 81), some (vi v1), some (vi v2), some (vi v3)] M Q := pw_go rfl (fun j => Nat.beq j 6) 33 h
theorem pc_X11_check {sc : List Int} {n : Nat} {Q : Vv → MM → Prop} (v1 : Int) (M : MM) (h : ∀ n1, n1 < n → PC sc n1 m_X11_isIn [vi v1, vi 0, vi 10] M (cI fun r2 M1 =>
  brA (decide (r2 = 0))
   (Q (vi ((-2))) M1)
   (brA (decide ((w32 (4 * v1)) ≤ (M1 1 1)))
    (PW sc n1 m_X11_check 20 [] [some (vr 0), some (vi v1), some (vi ((-1))), some (vi (w32 (v1 - 1)))] M1 Q)
    (Q (vi ((-2))) M1)))) : PC sc n m_X11_check [vr 0, vi v1] M Q := pc_go rfl (fun j => Nat.beq j 20) 48 h
theorem pw_X11_check_20 {sc : List Int} {n : Nat} {Q : Vv → MM → Prop} (v1 : Int) (v2 : Int) (v3 : Int) (M : MM) (h : ∀ n1, n1 < n → brA (decide (v3 < 0))
  (PC sc n1 m_X7_empty [vr 1] M (fun _ M1 =>
   Q (vi v2) M1))
  (PC sc n1 m_X7_numberAt [vr 1, vi (w32 (4 * v3))] M (cI fun r3 M2 =>
   gIm (decide (0 ≤ v3) && decide (v3 < 10)) (brA (decide (r3 = (M2 48 v3.toNat)))
    (PW sc n1 m_X11_check 20 [] [some (vr 0), some (vi v1), some (vi v2), some (vi (w32 (v3 + (-1))))] M2 Q)
    (PW sc n1 m_X11_check 20 [] [some (vr 0), some (vi v1), some (vi v3), some (vi (w32 (v3 + (-1))))] M2 Q))))) : PW sc n m_X11_check 20 [] [some (vr 0), some (vi v1), some (vi v2), some (vi v3)] M Q := pw_go rfl (fun j => Nat.beq j 20) 48 h
theorem pc_X7_numberAt {sc : List Int} {n : Nat} {Q : Vv → MM → Prop} (v1 : Int) (M : MM) (h : ∀ n1, n1 < n → PW sc n1 m_X7_numberAt 4 [] [some (vr 1), some (vi v1), some (vi 0), some (vi 0)] M Q) : PC sc n m_X7_numberAt [vr 1, vi v1] M Q := pc_go rfl (fun j => Nat.beq j 4) 28 h
theorem pw_X7_numberAt_4 {sc : List Int} {n : Nat} {Q : Vv → MM → Prop} (v1 : Int) (v2 : Int) (v3 : Int) (M : MM) (h : ∀ n1, n1 < n → brA (decide (4 ≤ v3))
  (Q (vi v2) M)
  (PC sc n1 m_X7_at [vr 1, vi (w32 (v1 + v3))] M (cI fun r2 M1 =>
   PW sc n1 m_X7_numberAt 4 [] [some (vr 1), some (vi v1), some (vi (bOr (bShl v2 8) (bAnd r2 255))), some (vi (w32 (v3 + 1)))] M1 Q))) : PW sc n m_X7_numberAt 4 [] [some (vr 1), some (vi v1), some (vi v2), some (vi v3)] M Q := pw_go rfl (fun j => Nat.beq j 4) 28 h
/- four bytes from b on -/
def tn4 (t : Nat → Int) (b m k : Nat) (v : Int) : Int := match m with
  | 0 => v
  | m + 1 => tn4 t b m (k + 1) (bOr (bShl v 8) (t (b + k)))
def tnV (t : Nat → Int) (g : Nat) : Int := tn4 t (4 * g) 4 0 0
/- the first of m numbers from g on that is not so -/
def ckV (A F : Nat → Int) (m g : Nat) : Int := match m with
  | 0 => -1
  | m + 1 => if A g = F g then ckV A F m (g + 1) else (g : Int)
theorem ckV_s (A F : Nat → Int) (m g : Nat) : ckV A F (m + 1) g = (if A g = F g then ckV A F m (g + 1) else (g : Int)) := rfl
theorem ckV_F {A F F' : Nat → Int} : ∀ m g, (∀ i, g ≤ i → i < g + m → F i = F' i) → ckV A F m g = ckV A F' m g := by
  intro m
  induction m with
  | zero => intro g _; rfl
  | succ m ih =>
    intro g h
    rw [ckV_s, ckV_s, h g (by omega) (by omega), ih (g + 1) (fun i h1 h2 => h i (by omega) (by omega))]
/- FEAR as CHECK asks for it -/
def ckF (M : MM) (g : Nat) : Int := if bit (M 82 30) g = true then M 82 (10 + g) else 0
section CKE
variable {sc : List Int} {Q : Vv → MM → Prop} {t : Nat → Int}
set_option maxRecDepth 20000 in
theorem f_tapeNumber {g n : Nat} {M : MM} (hg : g < 10) (ht : ∀ i, bAnd (M 90 i) 255 = t i) (k : ∀ x : Int, x = tnV t g → Q (vi x) M) : PC sc n m_X12_tapeNumber [vr 81, vi (g : Int)] M Q := by
  have lp : ∀ (m i n : Nat) (v : Int), i + m = 4 → (∀ x : Int, x = tn4 t (4 * g) m i v → Q (vi x) M) → PW sc n m_X12_tapeNumber 6 [] [some (vr 81), some (vi (g : Int)), some (vi v), some (vi ((4 * g + i : Nat) : Int))] M Q := by
    intro m
    induction m with
    | zero =>
      intro i n v hi k
      refine pw_X12_tapeNumber_6 _ v _ M fun n1 _ => ?_
      rw [ew32 (z := 4 * (g : Int)) (by omega) (by omega), ew32 (z := 4 * (g : Int) + 4) (by omega) (by omega)]
      exact brT (by omega) (k v rfl)
    | succ m ih =>
      intro i n v hi k
      refine pw_X12_tapeNumber_6 _ v _ M fun n1 _ => ?_
      rw [ew32 (z := 4 * (g : Int)) (by omega) (by omega), ew32 (z := 4 * (g : Int) + 4) (by omega) (by omega), show (((4 * g + i : Nat) : Int)).toNat = 4 * g + i by omega, ht, show w32 (((4 * g + i : Nat) : Int) + 1) = ((4 * g + (i + 1) : Nat) : Int) from ew32 (by omega) (by omega)]
      exact brF (by omega) (gMB (ih (i + 1) n1 _ (by omega) k))
  refine pc_X12_tapeNumber _ M fun n1 _ => ?_
  rw [show w32 (4 * (g : Int)) = ((4 * g + 0 : Nat) : Int) from ew32 (by omega) (by omega)]
  exact lp 4 0 n1 0 rfl k
set_option maxRecDepth 20000 in
theorem f_numberAt {g n : Nat} {M : MM} (hg : g < 10) (hs : 4 * (g : Int) + 4 ≤ M 1 1) (ht : ∀ i, bAnd (M 2 i) 255 = t i) (k : ∀ x : Int, x = tnV t g → Q (vi x) M) : PC sc n m_X7_numberAt [vr 1, vi (4 * (g : Int))] M Q := by
  have lp : ∀ (m i n : Nat) (v : Int), i + m = 4 → (∀ x : Int, x = tn4 t (4 * g) m i v → Q (vi x) M) → PW sc n m_X7_numberAt 4 [] [some (vr 1), some (vi (4 * (g : Int))), some (vi v), some (vi (i : Int))] M Q := by
    intro m
    induction m with
    | zero =>
      intro i n v hi k
      have hi : i = 4 := hi
      subst hi
      exact pw_X7_numberAt_4 _ v _ M fun n1 _ => brT (by omega) (k v rfl)
    | succ m ih =>
      intro i n v hi k
      refine pw_X7_numberAt_4 _ v _ M fun n1 _ => brF (by omega) ?_
      rw [show w32 (4 * (g : Int) + (i : Int)) = ((4 * g + i : Nat) : Int) from ew32 (by omega) (by omega), show w32 ((i : Int) + 1) = ((i + 1 : Nat) : Int) from ew32 (by omega) (by omega)]
      refine p_at (by omega) (cI_i ?_)
      rw [show (((4 * g + i : Nat) : Int)).toNat = 4 * g + i by omega, ht]
      exact ih (i + 1) n1 _ (by omega) k
  exact pc_X7_numberAt _ M fun n1 _ => lp 4 0 n1 0 rfl k
set_option maxRecDepth 20000 in
theorem f_checkM {v : Int} {n : Nat} {M : MM} (hs : 0 ≤ M 81 10 ∧ M 81 10 ≤ 260) (ht : ∀ i, bAnd (M 90 i) 255 = t i) (k0 : ¬ (0 ≤ v ∧ v ≤ 10 ∧ 4 * v ≤ M 81 10) → Q (vi (-2)) M) (k1 : (0 ≤ v ∧ v ≤ 10 ∧ 4 * v ≤ M 81 10) → ∀ x : Int, x = ckV (tnV t) (ckF M) v.toNat 0 → Q (vi x) (stM M 81 10 0)) : PC sc n m_X12_check [vr 81, vi v] M Q := by
  refine pc_X12_check v M fun n1 _ => p_in (fun q x hx => brT hx (k0 fun z => q ⟨z.1, z.2.1⟩)) fun q x hx => brF (by omega) ?_
  rw [etdiv hs.1 (by omega) (by decide)]
  refine brP (fun h => ?_) fun h => k0 fun z => by omega
  have k3 := k1 ⟨q.1, q.2, by omega⟩
  clear k0 k1
  obtain ⟨N, hN⟩ : ∃ N : Nat, v = (N : Int) := ⟨v.toNat, by omega⟩
  subst hN
  rw [show ((N : Int)).toNat = N by omega] at k3
  have lp : ∀ (m g n : Nat), g + m = N → (∀ x : Int, x = ckV (tnV t) (ckF M) m g → Q (vi x) (stM M 81 10 0)) → PW sc n m_X12_check 18 [] [some (vr 81), some (vi (N : Int)), some (vi (g : Int))] (stM M 81 10 0) Q := by
    intro m
    induction m with
    | zero => intro g n hg k; exact pw_X12_check_18 _ _ _ fun n1 _ => brT (by omega) (k _ rfl)
    | succ m ih =>
      intro g n hg k
      rw [ckV_s] at k
      have go : tnV t g = ckF M g → ∀ n, PW sc n m_X12_check 18 [] [some (vr 81), some (vi (N : Int)), some (vi (w32 ((g : Int) + 1)))] (stM M 81 10 0) Q := fun e n => by
        rw [if_pos e] at k
        rw [show w32 ((g : Int) + 1) = ((g + 1 : Nat) : Int) from ew32 (by omega) (by omega)]
        exact ih (g + 1) n (by omega) k
      have no : ¬ tnV t g = ckF M g → Q (vi (g : Int)) (stM M 81 10 0) := fun e => by
        rw [if_neg e] at k
        exact k _ rfl
      refine pw_X12_check_18 _ _ _ fun n1 _ => brF (by omega) (f_tapeNumber (t := t) (by omega) (fun i => by rw [stN (by decide)]; exact ht i) fun x hx => p_isToldM (by omega) (fun hb y hy => brT hy ?_) fun hb y hy => brF (by omega) ?_)
      · rw [stN (by decide)] at hb
        have e : ckF M g = 0 := if_neg (by rw [hb]; decide)
        exact brP (fun z => go (by omega) n1) fun z => no (by omega)
      · rw [stN (by decide)] at hb
        have e : ckF M g = M 82 (10 + g) := if_pos hb
        rw [ew32 (z := 10 + (g : Int)) (by omega) (by omega), show (10 + (g : Int)).toNat = 10 + g by omega, stN (k := 81) (by decide)]
        exact gMB (brP (fun z => go (by omega) n1) fun z => no (by omega))
  exact lp N 0 n1 (Nat.zero_add _) k3
set_option maxRecDepth 20000 in
theorem f_checkC {v : Int} {n : Nat} {M : MM} (hs : 0 ≤ M 1 1 ∧ M 1 1 ≤ 260) (ht : ∀ i, bAnd (M 2 i) 255 = t i) (k0 : ¬ (0 ≤ v ∧ v ≤ 10 ∧ 4 * v ≤ M 1 1) → Q (vi (-2)) M) (k1 : (0 ≤ v ∧ v ≤ 10 ∧ 4 * v ≤ M 1 1) → ∀ x : Int, x = ckV (tnV t) (M 48) v.toNat 0 → Q (vi x) (stM M 1 1 0)) : PC sc n m_X11_check [vr 0, vi v] M Q := by
  refine pc_X11_check v M fun n1 _ => p_isIn (fun q x hx => brT hx (k0 fun z => q ⟨z.1, z.2.1⟩)) fun q x hx => brF (by omega) ?_
  rw [ew32 (z := 4 * v) (by omega) (by omega), ew32 (z := v - 1) (by omega) (by omega)]
  refine brP (fun h => ?_) fun h => k0 fun z => h z.2.2
  have k3 := k1 ⟨q.1, q.2, h⟩
  clear k0 k1
  obtain ⟨N, hN⟩ : ∃ N : Nat, v = (N : Int) := ⟨v.toNat, by omega⟩
  subst hN
  rw [show ((N : Int)).toNat = N by omega] at k3
  have lp : ∀ (g n m : Nat), g + m = N → (∀ x : Int, x = ckV (tnV t) (M 48) N 0 → Q (vi x) (stM M 1 1 0)) → PW sc n m_X11_check 20 [] [some (vr 0), some (vi (N : Int)), some (vi (ckV (tnV t) (M 48) m g)), some (vi ((g : Int) - 1))] M Q := by
    intro g
    induction g with
    | zero =>
      intro n m hg k
      refine pw_X11_check_20 _ _ _ M fun n1 _ => brT (by omega) (pc_X7_empty M fun n2 _ => k _ ?_)
      rw [show m = N by omega]
    | succ g ih =>
      intro n m hg k
      have nx : ∀ (n : Nat) (w : Int), w = ckV (tnV t) (M 48) (m + 1) g → PW sc n m_X11_check 20 [] [some (vr 0), some (vi (N : Int)), some (vi w), some (vi ((g : Int) - 1))] M Q := fun n w hw => by
        subst hw
        exact ih n (m + 1) (by omega) k
      refine pw_X11_check_20 _ _ _ M fun n1 _ => brF (by omega) ?_
      rw [show (((g + 1 : Nat) : Int) - 1) = (g : Int) by omega, ew32 (z := 4 * (g : Int)) (by omega) (by omega)]
      refine f_numberAt (by omega) (by omega) ht fun x hx => gMB ?_
      rw [show ((g : Int)).toNat = g by omega, show w32 ((g : Int) + -1) = (g : Int) - 1 from ew32 (by omega) (by omega)]
      refine brP (fun z => nx n1 _ ?_) fun z => nx n1 _ ?_
      · rw [ckV_s, if_pos (by omega)]
      · rw [ckV_s, if_neg (by omega)]
  exact lp N n1 0 rfl k3
end CKE
