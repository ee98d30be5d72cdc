/-! PART 64: QUARTER: the class's rest, and the reference -/
theorem pc_J6_bitCount_0f7a4 {sc : List Int} {n : Nat} {Q : Vv → MM → Prop} (v0 : Int) (M : MM) (h : ∀ n1, n1 < n → Q (vi (bAnd (w32 ((w32 ((bAnd (w32 ((w32 ((bAnd (w32 (v0 - (bAnd (bUsh v0 1) 1431655765))) 858993459) + (bAnd (bUsh (w32 (v0 - (bAnd (bUsh v0 1) 1431655765))) 2) 858993459))) + (bUsh (w32 ((bAnd (w32 (v0 - (bAnd (bUsh v0 1) 1431655765))) 858993459) + (bAnd (bUsh (w32 (v0 - (bAnd (bUsh v0 1) 1431655765))) 2) 858993459))) 4))) 252645135) + (bUsh (bAnd (w32 ((w32 ((bAnd (w32 (v0 - (bAnd (bUsh v0 1) 1431655765))) 858993459) + (bAnd (bUsh (w32 (v0 - (bAnd (bUsh v0 1) 1431655765))) 2) 858993459))) + (bUsh (w32 ((bAnd (w32 (v0 - (bAnd (bUsh v0 1) 1431655765))) 858993459) + (bAnd (bUsh (w32 (v0 - (bAnd (bUsh v0 1) 1431655765))) 2) 858993459))) 4))) 252645135) 8))) + (bUsh (w32 ((bAnd (w32 ((w32 ((bAnd (w32 (v0 - (bAnd (bUsh v0 1) 1431655765))) 858993459) + (bAnd (bUsh (w32 (v0 - (bAnd (bUsh v0 1) 1431655765))) 2) 858993459))) + (bUsh (w32 ((bAnd (w32 (v0 - (bAnd (bUsh v0 1) 1431655765))) 858993459) + (bAnd (bUsh (w32 (v0 - (bAnd (bUsh v0 1) 1431655765))) 2) 858993459))) 4))) 252645135) + (bUsh (bAnd (w32 ((w32 ((bAnd (w32 (v0 - (bAnd (bUsh v0 1) 1431655765))) 858993459) + (bAnd (bUsh (w32 (v0 - (bAnd (bUsh v0 1) 1431655765))) 2) 858993459))) + (bUsh (w32 ((bAnd (w32 (v0 - (bAnd (bUsh v0 1) 1431655765))) 858993459) + (bAnd (bUsh (w32 (v0 - (bAnd (bUsh v0 1) 1431655765))) 2) 858993459))) 4))) 252645135) 8))) 16))) 63)) M) : PC sc n m_J6_bitCount_0f7a4 [vi v0] M Q := pc_go rfl (fun j => false) 47 h
theorem pc_X8_dropFromWalls {sc : List Int} {n : Nat} {T : Nat} (hT : T = 57 ∨ T = 61) {Q : Vv → MM → Prop}  (M : MM) (h : ∀ n1, n1 < n → PW sc n1 m_X8_dropFromWalls 2 [] [some (vr 46), some (vr T), some (vi 0)] M Q) : PC sc n m_X8_dropFromWalls [vr 46, vr T] M Q := by
  rcases hT with rfl | rfl <;> exact pc_go rfl (fun j => Nat.beq j 2) 29 h
theorem pw_X8_dropFromWalls_2 {sc : List Int} {n : Nat} {T : Nat} (hT : T = 57 ∨ T = 61) {Q : Vv → MM → Prop} (v2 : Int) (M : MM) (h : ∀ n1, n1 < n → brA (decide (10 ≤ v2))
  (Q (vi 0) M)
  (PC sc n1 m_X8_isTold [vr 46, vi v2] M (cI fun r2 M1 =>
   brA (decide (r2 = 0))
    (PW sc n1 m_X8_dropFromWalls 2 [] [some (vr 46), some (vr T), some (vi (w32 (v2 + 1)))] M1 Q)
    (gIm (decide (0 ≤ v2) && decide (v2 < 10)) (PC sc n1 m_X9_isWall [vr T, vi (M1 47 v2.toNat)] M1 (cI fun r4 M3 =>
     brA (decide (r4 = 0))
      (PW sc n1 m_X8_dropFromWalls 2 [] [some (vr 46), some (vr T), some (vi (w32 (v2 + 1)))] M3 Q)
      (PC sc n1 m_X8_putStranger [vr 46, vi v2, vi ((-1)), vi 0] M3 (fun _ M5 =>
       PW sc n1 m_X8_dropFromWalls 2 [] [some (vr 46), some (vr T), some (vi (w32 (v2 + 1)))] M5 Q)))))))) : PW sc n m_X8_dropFromWalls 2 [] [some (vr 46), some (vr T), some (vi v2)] M Q := by
  rcases hT with rfl | rfl <;> exact pw_go rfl (fun j => Nat.beq j 2) 29 h
theorem pc_X9_isWall {sc : List Int} {n : Nat} {T : Nat} (hT : T = 57 ∨ T = 61) {Q : Vv → MM → Prop} (v1 : Int) (M : MM) (h : ∀ n1, n1 < n → PC sc n1 m_X9_at [vr T, vi v1] M (cI fun r2 M1 =>
  brA (decide (r2 ≠ 1))
   (Q (vi 0) M1)
   (Q (vi 1) M1))) : PC sc n m_X9_isWall [vr T, vi v1] M Q := by
  rcases hT with rfl | rfl <;> exact pc_go rfl (fun j => false) 14 h
theorem pc_X9_at {sc : List Int} {n : Nat} {T : Nat} (hT : T = 57 ∨ T = 61) {Q : Vv → MM → Prop} (v1 : Int) (M : MM) (h : ∀ n1, n1 < n → brA (decide (v1 < 0))
  (Q (vi 1) M)
  (brA (decide (64 ≤ v1))
   (Q (vi 1) M)
   (gIm (decide (0 ≤ v1) && decide (v1 < 64)) (Q (vi (M ((T + 1)) v1.toNat)) M)))) : PC sc n m_X9_at [vr T, vi v1] M Q := by
  rcases hT with rfl | rfl <;> exact pc_go rfl (fun j => false) 17 h
theorem pc_X8_isTold {sc : List Int} {n : Nat} {Q : Vv → MM → Prop} (v1 : Int) (M : MM) (h : ∀ n1, n1 < n → gIm (decide (0 ≤ v1) && decide (v1 < 10)) (brA (decide ((M 47 v1.toNat) = ((-1))))
  (Q (vi 0) M)
  (Q (vi 1) M))) : PC sc n m_X8_isTold [vr 46, vi v1] M Q := pc_go rfl (fun j => false) 15 h
theorem pc_X8_putStranger {sc : List Int} {n : Nat} {Q : Vv → MM → Prop} (v1 : Int) (v2 : Int) (v3 : Int) (M : MM) (h : ∀ n1, n1 < n → gIm (decide (0 ≤ v1) && decide (v1 < 10)) (gIm (decide (0 ≤ v1) && decide (v1 < 10)) (gIm (decide (0 ≤ v1) && decide (v1 < 10)) (gIm (decide (0 ≤ v1) && decide (v1 < 10)) (Q (vi 0) (stM (stM (stM (stM M 47 (v1.toNat) v2) 48 (v1.toNat) 0) 49 (v1.toNat) v3) 50 (v1.toNat) 0)))))) : PC sc n m_X8_putStranger [vr 46, vi v1, vi v2, vi v3] M Q := pc_go rfl (fun j => false) 26 h
theorem pc_X11_quarter {sc : List Int} {n : Nat} {Q : Vv → MM → Prop} (v1 : Int) (M : MM) (h : ∀ n1, n1 < n → PC sc n1 m_X7_hasText [vr 1, vi v1, vi 120] M (cI fun r2 M1 =>
  brA (decide (r2 ≠ 0))
   (gIm (decide (0 < M1 0 11)) (gIm (kd YF ((M1 0 11).toNat - 1) == 18) (PC sc n1 m_X9_read [vr ((M1 0 11).toNat - 1), vr 1, vi v1] M1 (cI fun r4 M3 =>
    PC sc n1 m_X7_empty [vr 1] M3 (fun _ M5 =>
     brA (decide (r4 < 0))
      (Q (vi r4) M5)
      (gIm (decide (0 < M5 0 10)) (gIm (decide (0 < M5 0 11)) (gIm (decide (0 < (((M5 0 11).toNat - 1 : Nat) : Int) + 1)) (PC sc n1 m_X8_dropFromWalls [vr 46, vr (((((M5 0 11).toNat - 1 : Nat) : Int) + 1).toNat - 1)] (stM (stM M5 0 10 ((((M5 0 11).toNat - 1 : Nat) : Int) + 1)) 0 11 ((((M5 0 10).toNat - 1 : Nat) : Int) + 1)) (fun _ M6 =>
       Q (vi r4) M6))))))))))
   (Q (vi ((-1))) M1))) : PC sc n m_X11_quarter [vr 0, vi v1] M Q := pc_go rfl (fun j => false) 42 h
def bcV (v : Int) : Int := (bAnd (w32 ((w32 ((bAnd (w32 ((w32 ((bAnd (w32 (v - (bAnd (bUsh v 1) 1431655765))) 858993459) + (bAnd (bUsh (w32 (v - (bAnd (bUsh v 1) 1431655765))) 2) 858993459))) + (bUsh (w32 ((bAnd (w32 (v - (bAnd (bUsh v 1) 1431655765))) 858993459) + (bAnd (bUsh (w32 (v - (bAnd (bUsh v 1) 1431655765))) 2) 858993459))) 4))) 252645135) + (bUsh (bAnd (w32 ((w32 ((bAnd (w32 (v - (bAnd (bUsh v 1) 1431655765))) 858993459) + (bAnd (bUsh (w32 (v - (bAnd (bUsh v 1) 1431655765))) 2) 858993459))) + (bUsh (w32 ((bAnd (w32 (v - (bAnd (bUsh v 1) 1431655765))) 858993459) + (bAnd (bUsh (w32 (v - (bAnd (bUsh v 1) 1431655765))) 2) 858993459))) 4))) 252645135) 8))) + (bUsh (w32 ((bAnd (w32 ((w32 ((bAnd (w32 (v - (bAnd (bUsh v 1) 1431655765))) 858993459) + (bAnd (bUsh (w32 (v - (bAnd (bUsh v 1) 1431655765))) 2) 858993459))) + (bUsh (w32 ((bAnd (w32 (v - (bAnd (bUsh v 1) 1431655765))) 858993459) + (bAnd (bUsh (w32 (v - (bAnd (bUsh v 1) 1431655765))) 2) 858993459))) 4))) 252645135) + (bUsh (bAnd (w32 ((w32 ((bAnd (w32 (v - (bAnd (bUsh v 1) 1431655765))) 858993459) + (bAnd (bUsh (w32 (v - (bAnd (bUsh v 1) 1431655765))) 2) 858993459))) + (bUsh (w32 ((bAnd (w32 (v - (bAnd (bUsh v 1) 1431655765))) 858993459) + (bAnd (bUsh (w32 (v - (bAnd (bUsh v 1) 1431655765))) 2) 858993459))) 4))) 252645135) 8))) 16))) 63)
theorem bcV_all : (List.range 1024).all (fun n => decide (bcV (n : Int) = bsum (n : Int) 10)) = true := by decide +kernel
theorem bcV_eq {v : Int} (h : 0 ≤ v ∧ v < 1024) : bcV v = bsum v 10 := by
  have h1 := List.all_eq_true.mp bcV_all v.toNat (List.mem_range.mpr (by omega))
  have h2 := of_decide_eq_true h1
  have e : ((v.toNat : Nat) : Int) = v := by omega
  rw [e] at h2
  exact h2
/- how many of the first n houses stand -/
def hcnt (H : Nat → Int) (n : Nat) : Int := match n with
  | 0 => 0
  | n + 1 => hcnt H n + ind (H n ≠ -1)
theorem hcnt_r (H : Nat → Int) : ∀ n, 0 ≤ hcnt H n ∧ hcnt H n ≤ n := by
  intro n
  induction n with
  | zero => exact ⟨Int.le_refl _, Int.le_refl _⟩
  | succ n ih =>
    have := ind_r (H n ≠ -1)
    show 0 ≤ hcnt H n + ind (H n ≠ -1) ∧ hcnt H n + ind (H n ≠ -1) ≤ ((n + 1 : Nat) : Int)
    omega
/- the bits of a set are those for which p holds -/
def setB (v : Int) (p : Nat → Bool) : Prop := (0 ≤ v ∧ v < 1024) ∧ ∀ i, i < 10 → bit v i = p i
theorem setB_eq {v w : Int} {p : Nat → Bool} (h : setB v p) (g : setB w p) : v = w := bit_ext h.1 g.1 fun i hi => (h.2 i hi).trans (g.2 i hi).symm
theorem setB_0 {p : Nat → Bool} (h : ∀ i, i < 10 → p i = false) : setB 0 p := ⟨by omega, fun i hi => by rw [bit_zero, h i hi]⟩
theorem setB_or {v : Int} {p q : Nat → Bool} {k : Nat} (h : setB v p) (hk : k < 10) (e : ∀ i, i < 10 → q i = (p i || decide (i = k))) : setB (bOr v (bShl 1 (k : Int))) q := ⟨by
  have h2 := h.1
  have h3 := bshl_r hk
  exact fbOr 10 1024 (by decide) h2 h3 (by decide), fun i hi => by
  rw [bit_or, bit_shl (by omega) (by omega), h.2 i hi, e i hi]⟩
theorem setB_clr {v : Int} {p q : Nat → Bool} {k : Nat} (h : setB v p) (hk : k < 10) (e : ∀ i, i < 10 → q i = (p i && !decide (i = k))) : setB (bAnd v (bXor (bShl 1 (k : Int)) (-1))) q := ⟨by
  have h2 := h.1
  have := fbAndL (bXor (bShl 1 (k : Int)) (-1)) (a := v) (hi := 1023) h2.1 (by omega) (by decide)
  omega, fun i hi => by
  rw [bit_and, bit_not _ (by omega), bit_shl (by omega) (by omega), h.2 i hi, e i hi]⟩
theorem setB_p {v : Int} {p q : Nat → Bool} (h : setB v p) (e : ∀ i, i < 10 → q i = p i) : setB v q := ⟨h.1, fun i hi => (h.2 i hi).trans (e i hi).symm⟩
theorem setB_self {v : Int} (h : 0 ≤ v ∧ v < 1024) : setB v (bit v) := ⟨h, fun _ _ => rfl⟩
def stands (H : Nat → Int) (i : Nat) : Bool := decide (H i ≠ -1)
theorem hcnt_b {v : Int} {H : Nat → Int} (h : setB v (stands H)) : bsum v 10 = hcnt H 10 := by
  have : ∀ n, n ≤ 10 → bsum v n = hcnt H n := by
    intro n
    induction n with
    | zero => intro _; rfl
    | succ n ih =>
      intro hn
      show bsum v n + btv v (n : Int) = hcnt H n + ind (H n ≠ -1)
      rw [ih (by omega), btv_bit v (by omega), h.2 n (by omega)]
      unfold stands
      by_cases q : H n ≠ -1
      · rw [decide_eq_true q, show ind (H n ≠ -1) = 1 from if_pos q]
        rfl
      · rw [decide_eq_false q, show ind (H n ≠ -1) = 0 from if_neg q]
        rfl
  exact this 10 (Nat.le_refl _)
/- a wall, or no spot -/
def wl (K : Nat → Int) (s : Int) : Prop := s < 0 ∨ 64 ≤ s ∨ K s.toNat = 1
section QTD
variable {sc : List Int} {Q : Vv → MM → Prop} {T : Nat}
set_option maxRecDepth 20000 in
theorem p_bitCount {v : Int} {n : Nat} {M : MM} (h : 0 ≤ v ∧ v < 1024) (k : Q (vi (bsum v 10)) M) : PC sc n m_J6_bitCount_0f7a4 [vi v] M Q := pc_J6_bitCount_0f7a4 v M fun n1 _ => by
  have e := bcV_eq h
  unfold bcV at e
  rw [e]
  exact k
set_option maxRecDepth 20000 in
theorem f_hws (hT : T = 57 ∨ T = 61) {H : Nat → Int} {n : Nat} {M : MM} (hH : M (T + 2) = H) (k : ∀ r, setB r (stands H) → Q (vi r) M) : PC sc n m_X9_housesWithSpots [vr T] M Q := by
  have lp : ∀ (m i n : Nat) (acc : Int), i + m = 10 → setB acc (fun j => decide (j < i) && stands H j) → PW sc n m_X9_housesWithSpots 4 [] [some (vr T), some (vi acc), some (vi (i : Int))] M Q := by
    intro m
    induction m with
    | zero =>
      intro i n acc hi h
      have hi : i = 10 := hi
      subst hi
      exact pw_X9_housesWithSpots_4 hT _ _ M fun n1 _ => brT (by omega) (k acc (setB_p h fun j hj => by
        rw [decide_eq_true hj, Bool.true_and]))
    | succ m ih =>
      intro i n acc hi h
      refine pw_X9_housesWithSpots_4 hT _ _ M fun n1 _ => brF (by omega) (gMB ?_)
      rw [hH, show ((i : Int)).toNat = i by omega, show w32 ((i : Int) + 1) = ((i + 1 : Nat) : Int) from ew32 (by omega) (by omega)]
      refine brP (fun q => ih (i + 1) n1 acc (by omega) (setB_p h fun j hj => ?_)) fun q => ih (i + 1) n1 _ (by omega) (setB_or h (by omega) fun j hj => ?_)
      · by_cases e : j = i
        · subst e
          have : stands H j = false := decide_eq_false (fun z => z q)
          rw [this, Bool.and_false, Bool.and_false]
        · rw [show decide (j < i + 1) = decide (j < i) from decide_eq_decide.mpr (by omega)]
      · by_cases e : j = i
        · subst e
          have : stands H j = true := decide_eq_true q
          rw [this, decide_eq_true (show j < j + 1 by omega), decide_eq_true (rfl : j = j), Bool.or_true]
          rfl
        · rw [show decide (j < i + 1) = decide (j < i) from decide_eq_decide.mpr (by omega), decide_eq_false e, Bool.or_false]
  exact pc_X9_housesWithSpots hT M fun n1 _ => lp 10 0 n1 0 rfl (setB_0 fun i hi => rfl)
set_option maxRecDepth 20000 in
theorem f_isWall (hT : T = 57 ∨ T = 61) {s : Int} {n : Nat} {M : MM} (k0 : ¬ wl (M (T + 1)) s → ∀ x : Int, x = 0 → Q (vi x) M) (k1 : wl (M (T + 1)) s → ∀ x : Int, x = 1 → Q (vi x) M) : PC sc n m_X9_isWall [vr T, vi s] M Q := by
  refine pc_X9_isWall hT s M fun n1 _ => pc_X9_at hT s M fun n2 _ => ?_
  have one : ∀ x : Int, x = 1 → wl (M (T + 1)) s → brA (decide (x ≠ 1)) (Q (vi 0) M) (Q (vi 1) M) := fun x hx h => brF (by omega) (k1 h 1 rfl)
  refine brP (fun h => one 1 rfl (.inl h)) fun h => brP (fun h2 => one 1 rfl (.inr (.inl h2))) fun h2 => gMB ?_
  have gen : ∀ x : Int, x = M (T + 1) s.toNat → brA (decide (x ≠ 1)) (Q (vi 0) M) (Q (vi 1) M) := fun x hx => brP (fun q => k0 (fun z => by
    unfold wl at z
    omega) 0 rfl) fun q => k1 (.inr (.inr (by omega))) 1 rfl
  exact gen _ rfl
/- strangers on walls are gone -/
def drpO (K : Nat → Int) (M : MM) (g : Nat) : Prop := M 47 g ≠ -1 ∧ wl K (M 47 g)
def drpI (K : Nat → Int) (M M1 : MM) (i : Nat) : Prop := (∀ c, c ≠ 47 → c ≠ 48 → c ≠ 49 → c ≠ 50 → M1 c = M c) ∧ ∀ g, (g < i → drpO K M g → M1 47 g = -1 ∧ M1 48 g = 0 ∧ M1 49 g = 0 ∧ M1 50 g = 0) ∧ (¬ (g < i ∧ drpO K M g) → M1 47 g = M 47 g ∧ M1 48 g = M 48 g ∧ M1 49 g = M 49 g ∧ M1 50 g = M 50 g)
set_option maxRecDepth 20000 in
theorem f_drop (hT : T = 57 ∨ T = 61) {K : Nat → Int} {n : Nat} {M : MM} (hK : M (T + 1) = K) (k : ∀ M1, drpI K M M1 10 → Q (vi 0) M1) : PC sc n m_X8_dropFromWalls [vr 46, vr T] M Q := by
  have lp : ∀ (m i n : Nat) (M1 : MM), i + m = 10 → drpI K M M1 i → PW sc n m_X8_dropFromWalls 2 [] [some (vr 46), some (vr T), some (vi (i : Int))] M1 Q := by
    intro m
    induction m with
    | zero =>
      intro i n M1 hi I
      have hi : i = 10 := hi
      subst hi
      exact pw_X8_dropFromWalls_2 hT _ M1 fun n1 _ => brT (by omega) (k M1 I)
    | succ m ih =>
      intro i n M1 hi I
      have hs := (I.2 i).2 (fun z => by omega)
      have it : ((i : Int)).toNat = i := by omega
      have e1 : ∀ _ : Unit, w32 ((i : Int) + 1) = ((i + 1 : Nat) : Int) := fun _ => ew32 (by omega) (by omega)
      have stay : ¬ drpO K M i → drpI K M M1 (i + 1) := fun q => ⟨I.1, fun g => ⟨fun h1 h2 => (I.2 g).1 (by
        have : g ≠ i := fun z => q (z ▸ h2)
        omega) h2, fun h => (I.2 g).2 (fun z => h ⟨by omega, z.2⟩)⟩⟩
      refine pw_X8_dropFromWalls_2 hT _ M1 fun n1 _ => ?_
      rw [e1 ()]
      have tl : ∀ r : Int, (r = 0 ↔ M 47 i = -1) → brA (decide (r = 0)) (PW sc n1 m_X8_dropFromWalls 2 [] [some (vr 46), some (vr T), some (vi ((i + 1 : Nat) : Int))] M1 Q) (gIm (decide (0 ≤ (i : Int)) && decide ((i : Int) < 10)) (PC sc n1 m_X9_isWall [vr T, vi (M1 47 ((i : Int)).toNat)] M1 (cI fun r4 M3 => brA (decide (r4 = 0)) (PW sc n1 m_X8_dropFromWalls 2 [] [some (vr 46), some (vr T), some (vi ((i + 1 : Nat) : Int))] M3 Q) (PC sc n1 m_X8_putStranger [vr 46, vi (i : Int), vi (-1), vi 0] M3 (fun _ M5 => PW sc n1 m_X8_dropFromWalls 2 [] [some (vr 46), some (vr T), some (vi ((i + 1 : Nat) : Int))] M5 Q))))) := fun r hr => by
        refine brP (fun h => ih (i + 1) n1 M1 (by omega) (stay fun z => z.1 (hr.mp h))) fun h => gMB ?_
        rw [it, hs.1]
        refine f_isWall hT (fun hw x hx => brT hx (ih (i + 1) n1 M1 (by omega) (stay fun z => hw (by
          rw [I.1 (T + 1) (by omega) (by omega) (by omega) (by omega), hK]
          exact z.2)))) fun hw x hx => brF (by omega) (pc_X8_putStranger _ _ _ M1 fun n2 _ => gMB (gMB (gMB (gMB ?_))))
        rw [I.1 (T + 1) (by omega) (by omega) (by omega) (by omega), hK] at hw
        have ho : drpO K M i := ⟨fun z => h (hr.mpr z), hw⟩
        rw [it]
        refine ih (i + 1) n1 _ (by omega) ⟨fun c h1 h2 h3 h4 => ?_, fun g => ⟨fun h1 h2 => ?_, fun h1 => ?_⟩⟩
        · rw [stK h4, stK h3, stK h2, stK h1]
          exact I.1 c h1 h2 h3 h4
        · by_cases e : g = i
          · subst e
            refine ⟨?_, ?_, ?_, stE⟩
            · rw [stN (by decide), stN (by decide), stN (by decide), stE]
            · rw [stN (by decide), stN (by decide), stE]
            · rw [stN (by decide), stE]
          · have hg := (I.2 g).1 (by omega) h2
            refine ⟨?_, ?_, ?_, ?_⟩
            · rw [stN (by decide), stN (by decide), stN (by decide), stO e]
              exact hg.1
            · rw [stN (by decide), stN (by decide), stO e, stN (by decide)]
              exact hg.2.1
            · rw [stN (by decide), stO e, stN (by decide), stN (by decide)]
              exact hg.2.2.1
            · rw [stO e, stN (by decide), stN (by decide), stN (by decide)]
              exact hg.2.2.2
        · have e : g ≠ i := fun z => by
            subst z
            exact h1 ⟨by omega, ho⟩
          have hg := (I.2 g).2 (fun z => h1 ⟨by omega, z.2⟩)
          refine ⟨?_, ?_, ?_, ?_⟩
          · rw [stN (by decide), stN (by decide), stN (by decide), stO e]
            exact hg.1
          · rw [stN (by decide), stN (by decide), stO e, stN (by decide)]
            exact hg.2.1
          · rw [stN (by decide), stO e, stN (by decide), stN (by decide)]
            exact hg.2.2.1
          · rw [stO e, stN (by decide), stN (by decide), stN (by decide)]
            exact hg.2.2.2
      refine brF (by omega) (pc_X8_isTold _ M1 fun n2 _ => gMB ?_)
      rw [it, hs.1]
      exact brP (fun h => tl 0 (by omega)) fun h => tl 1 (by omega)
  exact pc_X8_dropFromWalls hT M fun n1 _ => lp 10 0 n1 M rfl ⟨fun _ _ _ _ _ => rfl, fun g => ⟨fun h => by omega, fun _ => ⟨rfl, rfl, rfl, rfl⟩⟩⟩
set_option maxRecDepth 20000 in
theorem p_hasText {n m : Int} {f : Nat} {M : MM} (k0 : ¬ (1 ≤ n ∧ n ≤ m ∧ n ≤ M 1 1) → ∀ x : Int, x = 0 → Q (vi x) M) (k1 : (1 ≤ n ∧ n ≤ m ∧ n ≤ M 1 1) → ∀ x : Int, x = 1 → Q (vi x) M) : PC sc f m_X7_hasText [vr 1, vi n, vi m] M Q := pc_X7_hasText n m M fun n1 _ => brP (fun _ => k0 (by omega) 0 rfl) fun _ => brP (fun _ => k0 (by omega) 0 rfl) fun _ => brP (fun _ => k0 (by omega) 0 rfl) fun _ => k1 (by omega) 1 rfl
/- a Town's text, read -/
def qzR (t : Nat → Int) (N : Nat) (T : Nat) (M : MM) : Int × (Nat → Int) × (Nat → Int) := qz t N N 0 0 0 0 (upK (M (T + 1)) 0 64 0) (upK (M (T + 2)) 0 10 (-1))
set_option maxRecDepth 20000 in
theorem f_readC (hT : T = 57 ∨ T = 61) {t : Nat → Int} {N n : Nat} (hN : N ≤ 120) {M : MM} (ht : ∀ i, M 2 i = t i) (hs : (N : Int) ≤ M 1 1) (k0 : (qzR t N T M).1 < 0 → ∀ M1, frT T M M1 → Q (vi (qzR t N T M).1) M1) (k1 : ¬ (qzR t N T M).1 < 0 → ∀ M1, frT T M M1 → M1 (T + 1) = (qzR t N T M).2.1 → M1 (T + 2) = (qzR t N T M).2.2 → (∀ f t' : Nat, f < 64 → t' < 64 → bil (M1 (T + 3) f) t' = seeB (qzR t N T M).2.1 f t') → Q (vi (hcnt (qzR t N T M).2.2 10)) M1) : PC sc n m_X9_read [vr T, vr 1, vi (N : Int)] M Q := by
  refine pc_X9_read hT _ M fun n1 _ => f_clear hT fun M1 I1 => ?_
  have f1 := I1.1
  refine f_rdLoop (M0 := M) hT hN ht hs N 0 0 0 0 n1 _ _ none none M1 (Nat.zero_add _) (by omega) (by omega) (.inl rfl) I1 k0 fun q n2 M2 f2 eK eH => f_look hT eK fun M3 I3 => f_hws hT (H := (qzR t N T M).2.2) (by rw [I3.1 (T + 2) (by omega)]; exact eH) fun r hr => p_bitCount hr.1 ?_
  rw [hcnt_b hr]
  exact k1 q M3 (fun c hc => (I3.1 c (by omega)).trans (f2 c hc)) ((I3.1 (T + 1) (by omega)).trans eK) ((I3.1 (T + 2) (by omega)).trans eH) I3.2
set_option maxRecDepth 20000 in
theorem f_quarterC {S : Nat} (hTS : (T = 57 ∧ S = 61) ∨ (T = 61 ∧ S = 57)) {t : Nat → Int} {v : Int} {n : Nat} {M : MM} (ht : ∀ i, M 2 i = t i) (e10 : M 0 10 = (T : Int) + 1) (e11 : M 0 11 = (S : Int) + 1) (k0 : ¬ (1 ≤ v ∧ v ≤ 120 ∧ v ≤ M 1 1) → Q (vi (-1)) M) (k1 : (1 ≤ v ∧ v ≤ 120 ∧ v ≤ M 1 1) → (qzR t v.toNat S M).1 < 0 → ∀ M1, (∀ c, (c < S ∨ S + 3 < c) → c ≠ 1 → M1 c = M c) → M1 1 = (fun j => if j = 1 then 0 else M 1 j) → Q (vi (qzR t v.toNat S M).1) M1) (k2 : (1 ≤ v ∧ v ≤ 120 ∧ v ≤ M 1 1) → ¬ (qzR t v.toNat S M).1 < 0 → ∀ M1, (∀ c, (c < S ∨ S + 3 < c) → c ≠ 0 → c ≠ 1 → c ≠ 47 → c ≠ 48 → c ≠ 49 → c ≠ 50 → M1 c = M c) → M1 1 = (fun j => if j = 1 then 0 else M 1 j) → M1 0 = (fun j => if j = 11 then (T : Int) + 1 else if j = 10 then (S : Int) + 1 else M 0 j) → M1 (S + 1) = (qzR t v.toNat S M).2.1 → M1 (S + 2) = (qzR t v.toNat S M).2.2 → (∀ f t' : Nat, f < 64 → t' < 64 → bil (M1 (S + 3) f) t' = seeB (qzR t v.toNat S M).2.1 f t') → (∀ g, (g < 10 → drpO (qzR t v.toNat S M).2.1 M g → M1 47 g = -1 ∧ M1 48 g = 0 ∧ M1 49 g = 0 ∧ M1 50 g = 0) ∧ (¬ (g < 10 ∧ drpO (qzR t v.toNat S M).2.1 M g) → M1 47 g = M 47 g ∧ M1 48 g = M 48 g ∧ M1 49 g = M 49 g ∧ M1 50 g = M 50 g)) → Q (vi (hcnt (qzR t v.toNat S M).2.2 10)) M1) : PC sc n m_X11_quarter [vr 0, vi v] M Q := by
  have hS : S = 57 ∨ S = 61 := by omega
  refine pc_X11_quarter v M fun n1 _ => p_hasText (fun h x hx => brF (by omega) (k0 h)) fun h x hx => brT (by omega) (gMB (gMB ?_))
  rw [show (M 0 11).toNat - 1 = S by omega]
  have k1 := k1 h
  have k2 := k2 h
  clear k0
  obtain ⟨N, hN⟩ : ∃ N : Nat, v = (N : Int) := ⟨v.toNat, by omega⟩
  subst hN
  rw [show ((N : Int)).toNat = N by omega] at k1 k2
  refine f_readC hS (by omega) ht (by omega) (fun q M1 f1 => pc_X7_empty M1 fun n2 _ => brT q ?_) fun q M1 f1 eK eH eS => pc_X7_empty M1 fun n2 _ => ?_
  · refine k1 q _ (fun c hc h1 => (stK h1).trans (f1 c hc)) ?_
    rw [stF, f1 1 (by omega)]
  · have hc := hcnt_r (qzR t N S M).2.2 10
    have a10 : stM M1 1 1 0 0 10 = (T : Int) + 1 := by rw [stN (by decide), f1 0 (by omega)]; exact e10
    have a11 : stM M1 1 1 0 0 11 = (S : Int) + 1 := by rw [stN (by decide), f1 0 (by omega)]; exact e11
    refine brF (by omega) (gMB (gMB (gMB ?_)))
    rw [a10, a11, show (((S : Int) + 1).toNat - 1) = S by omega, show (((T : Int) + 1).toNat - 1) = T by omega, show (((S : Int) + 1).toNat - 1) = S by omega]
    refine f_drop hS (K := (qzR t N S M).2.1) (by rw [stK (by omega), stK (by omega), stK (by omega)]; exact eK) fun M2 I2 => ?_
    have b47 : ∀ c, c = 47 ∨ c = 48 ∨ c = 49 ∨ c = 50 → stM (stM (stM M1 1 1 0) 0 10 ((S : Int) + 1)) 0 11 ((T : Int) + 1) c = M c := fun c hc => by
      rw [stK (by omega), stK (by omega), stK (by omega)]
      exact f1 c (by omega)
    refine k2 q M2 (fun c h1 h2 h3 h4 h5 h6 h7 => ?_) ?_ ?_ ?_ ?_ (fun f t' hf ht' => ?_) fun g => ⟨fun h1 h2 => (I2.2 g).1 h1 ?_, fun h1 => ?_⟩
    · rw [I2.1 c h4 h5 h6 h7, stK (by omega), stK (by omega), stK (by omega)]
      exact f1 c h1
    · rw [I2.1 1 (by decide) (by decide) (by decide) (by decide), stK (by decide), stK (by decide), stF, f1 1 (by omega)]
    · rw [I2.1 0 (by decide) (by decide) (by decide) (by decide), stF, stF, stK (by decide), f1 0 (by omega)]
    · rw [I2.1 (S + 1) (by omega) (by omega) (by omega) (by omega), stK (by omega), stK (by omega), stK (by omega)]
      exact eK
    · rw [I2.1 (S + 2) (by omega) (by omega) (by omega) (by omega), stK (by omega), stK (by omega), stK (by omega)]
      exact eH
    · rw [I2.1 (S + 3) (by omega) (by omega) (by omega) (by omega), stK (by omega), stK (by omega), stK (by omega)]
      exact eS f t' hf ht'
    · unfold drpO at h2 ⊢
      rw [b47 47 (by omega)]
      exact h2
    · have := (I2.2 g).2 (fun z => h1 ⟨z.1, by
        have z2 := z.2
        unfold drpO at z2 ⊢
        rw [b47 47 (by omega)] at z2
        exact z2⟩)
      rw [b47 47 (by omega), b47 48 (by omega), b47 49 (by omega), b47 50 (by omega)] at this
      exact this
end QTD
