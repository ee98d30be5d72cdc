/-! PART 09: each op read backwards-/
section INV
variable {RT : List Rec} {R : Rec} {F : Nat → Nat → Nat} {X : Nat → List Int} {Y : YY} {M M' : MM} {L L' : LL} {st st' : List Vv} {i a b c sub idx : Nat} {v : Int} {tab : List (Int × Nat)} {pl : List Nat}
theorem sn {α β : Type} {x y : α} (h : (some (Sum.inl x) : Option (α ⊕ β)) = some (.inl y)) : x = y := Sum.inl.inj (Option.some.inj h)
theorem sn4 {g : Bool} {s s' : List Vv} {l l' : LL} {m m' : MM} (h : aN g s l m = some (.inl (true, s', l', m'))) : g = true ∧ s' = s ∧ l' = l ∧ m' = m := by
  have h := sn h
  simp only [Prod.mk.injEq] at h
  exact ⟨h.1, h.2.1.symm, h.2.2.1.symm, h.2.2.2.symm⟩
theorem an2 {x y : Bool} (h : (x && y) = true) : x = true ∧ y = true := by rwa [Bool.and_eq_true] at h
theorem an3 {x y z : Bool} (h : (x && (y && z)) = true) : x = true ∧ y = true ∧ z = true := ⟨(an2 h).1, an2 (an2 h).2⟩
theorem an4 {x y z w : Bool} (h : (x && (y && (z && w))) = true) : x = true ∧ y = true ∧ z = true ∧ w = true := ⟨(an2 h).1, an3 (an2 h).2⟩

theorem in_0 (hs : stp F X Y M L st (0, a, b, c, v, tab, sub, idx, pl) = some (.inl (true, st', L', M'))) : st' = vi v :: st ∧ L' = L ∧ M' = M := by
  rw [st_0] at hs
  exact (sn4 hs).2
theorem in_1 (hs : stp F X Y M L st (1, a, b, c, v, tab, sub, idx, pl) = some (.inl (true, st', L', M'))) : st' = vl v :: st ∧ L' = L ∧ M' = M := by
  rw [st_1] at hs
  exact (sn4 hs).2
theorem in_2 (hs : stp F X Y M L st (2, a, b, c, v, tab, sub, idx, pl) = some (.inl (true, st', L', M'))) : ∃ x : Int, L[a]? = some (some (vi x)) ∧ st' = vi x :: st ∧ L' = L ∧ M' = M := by
  rw [st_2] at hs
  split at hs
  · rename_i _ x hx
    exact ⟨x, hx, (sn4 hs).2⟩
  · cases hs
theorem in_3 (hs : stp F X Y M L st (3, a, b, c, v, tab, sub, idx, pl) = some (.inl (true, st', L', M'))) : ∃ x : Int, L[a]? = some (some (vl x)) ∧ st' = vl x :: st ∧ L' = L ∧ M' = M := by
  rw [st_3] at hs
  split at hs
  · rename_i _ x hx
    exact ⟨x, hx, (sn4 hs).2⟩
  · cases hs
theorem in_4 (hs : stp F X Y M L st (4, a, b, c, v, tab, sub, idx, pl) = some (.inl (true, st', L', M'))) : ∃ x : Nat, L[a]? = some (some (vr x)) ∧ st' = vr x :: st ∧ L' = L ∧ M' = M := by
  rw [st_4] at hs
  split at hs
  · rename_i _ x hx
    exact ⟨x, hx, (sn4 hs).2⟩
  · cases hs
theorem in_5 (hs : stp F X Y M L st (5, a, b, c, v, tab, sub, idx, pl) = some (.inl (true, st', L', M'))) : ∃ (x : Int) (s0 : List Vv), st = vi x :: s0 ∧ okSt L a = true ∧ a < L.length ∧ st' = s0 ∧ L' = L.set a (some (vi x)) ∧ M' = M := by
  rw [st_5] at hs
  split at hs
  · rename_i _ x s0
    obtain ⟨h1, h2⟩ := sn4 hs
    exact ⟨x, s0, rfl, (an2 h1).1, Nat.le_of_ble_eq_true (an2 h1).2, h2⟩
  · cases hs
theorem in_7 (hs : stp F X Y M L st (7, a, b, c, v, tab, sub, idx, pl) = some (.inl (true, st', L', M'))) : ∃ (x : Nat) (s0 : List Vv), st = vr x :: s0 ∧ okSt L a = true ∧ a < L.length ∧ st' = s0 ∧ L' = L.set a (some (vr x)) ∧ M' = M := by
  rw [st_7] at hs
  split at hs
  · rename_i _ x s0
    obtain ⟨h1, h2⟩ := sn4 hs
    exact ⟨x, s0, rfl, (an2 h1).1, Nat.le_of_ble_eq_true (an2 h1).2, h2⟩
  · cases hs
theorem in_6 (hs : stp F X Y M L st (6, a, b, c, v, tab, sub, idx, pl) = some (.inl (true, st', L', M'))) : ∃ (x : Int) (s0 : List Vv), st = vl x :: s0 ∧ okSt L a = true ∧ a + 1 < L.length ∧ st' = s0 ∧ L' = (L.set a (some (vl x))).set (a + 1) none ∧ M' = M := by
  rw [st_6] at hs
  split at hs
  · rename_i _ x s0
    obtain ⟨h1, h2⟩ := sn4 hs
    exact ⟨x, s0, rfl, (an2 h1).1, Nat.le_of_ble_eq_true (an2 h1).2, h2⟩
  · cases hs
theorem in_8 (hs : stp F X Y M L st (8, a, b, c, v, tab, sub, idx, pl) = some (.inl (true, st', L', M'))) : ∃ x : Int, L[a]? = some (some (vi x)) ∧ okSt L a = true ∧ st' = st ∧ L' = L.set a (some (vi (w32 (x + v)))) ∧ M' = M := by
  rw [st_8] at hs
  split at hs
  · rename_i _ x hx
    obtain ⟨h1, h2⟩ := sn4 hs
    exact ⟨x, hx, h1, h2⟩
  · cases hs
theorem in_9 (hs : stp F X Y M L st (9, a, b, c, v, tab, sub, idx, pl) = some (.inl (true, st', L', M'))) : ∃ (y x : Int) (s0 : List Vv), st = vi y :: vi x :: s0 ∧ bok a y = true ∧ st' = vi (bin a x y) :: s0 ∧ L' = L ∧ M' = M := by
  rw [st_9] at hs
  split at hs
  · rename_i _ y x s0
    exact ⟨y, x, s0, rfl, sn4 hs⟩
  · cases hs
theorem in_10 (hs : stp F X Y M L st (10, a, b, c, v, tab, sub, idx, pl) = some (.inl (true, st', L', M'))) : ∃ (x : Int) (s0 : List Vv), st = vi x :: s0 ∧ ((a = 0 ∧ st' = vi (w32 (-x)) :: s0) ∨ (a ≠ 0 ∧ st' = vi (w8 x) :: s0)) ∧ L' = L ∧ M' = M := by
  rw [st_10] at hs
  split at hs
  · rename_i _ x s0
    split at hs
    · exact ⟨x, s0, rfl, Or.inl ⟨rfl, (sn4 hs).2.1⟩, (sn4 hs).2.2⟩
    · rename_i ha
      exact ⟨x, s0, rfl, Or.inr ⟨ha, (sn4 hs).2.1⟩, (sn4 hs).2.2⟩
  · cases hs
theorem in_11 (hs : stp F X Y M L st (11, a, b, c, v, tab, sub, idx, pl) = some (.inl (true, st', L', M'))) : ∃ (y x : Int) (s0 : List Vv), st = vl y :: vl x :: s0 ∧ lok a y = true ∧ st' = vl (lbn a x y) :: s0 ∧ L' = L ∧ M' = M := by
  rw [st_11] at hs
  split at hs
  · rename_i _ y x s0
    exact ⟨y, x, s0, rfl, sn4 hs⟩
  · cases hs
theorem in_12 (hs : stp F X Y M L st (12, a, b, c, v, tab, sub, idx, pl) = some (.inl (true, st', L', M'))) : ∃ (x : Int) (s0 : List Vv), ((a = 0 ∧ st = vi x :: s0 ∧ st' = vl x :: s0) ∨ (a ≠ 0 ∧ st = vl x :: s0 ∧ st' = vi (w32 x) :: s0)) ∧ L' = L ∧ M' = M := by
  rw [st_12] at hs
  split at hs
  · split at hs
    · rename_i _ x s0
      exact ⟨x, s0, Or.inl ⟨rfl, rfl, (sn4 hs).2.1⟩, (sn4 hs).2.2⟩
    · cases hs
  · rename_i ha
    split at hs
    · rename_i _ x s0
      exact ⟨x, s0, Or.inr ⟨ha, rfl, (sn4 hs).2.1⟩, (sn4 hs).2.2⟩
    · cases hs
theorem in_13 (hs : stp F X Y M L st (13, a, b, c, v, tab, sub, idx, pl) = some (.inl (true, st', L', M'))) : ∃ (y x : Int) (s0 : List Vv), st = vi y :: vl x :: s0 ∧ ((a = 0 ∧ st' = vl (bShlL x y) :: s0) ∨ (a ≠ 0 ∧ st' = vl (bShrL x y) :: s0)) ∧ L' = L ∧ M' = M := by
  rw [st_13] at hs
  split at hs
  · rename_i _ y x s0
    split at hs
    · exact ⟨y, x, s0, rfl, Or.inl ⟨rfl, (sn4 hs).2.1⟩, (sn4 hs).2.2⟩
    · rename_i ha
      exact ⟨y, x, s0, rfl, Or.inr ⟨ha, (sn4 hs).2.1⟩, (sn4 hs).2.2⟩
  · cases hs
theorem in_14 (hs : stp F X Y M L st (14, a, b, c, v, tab, sub, idx, pl) = some (.inl (true, st', L', M'))) : ∃ (y x : Int) (s0 : List Vv), st = vl y :: vl x :: s0 ∧ st' = vi (lcm3 x y) :: s0 ∧ L' = L ∧ M' = M := by
  rw [st_14] at hs
  split at hs
  · rename_i _ y x s0
    exact ⟨y, x, s0, rfl, (sn4 hs).2⟩
  · cases hs
theorem in_19 (hs : stp F X Y M L st (19, a, b, c, v, tab, sub, idx, pl) = some (.inl (true, st', L', M'))) : ∃ (k : Nat) (s0 : List Vv), st = vr k :: s0 ∧ (kd Y k == 10 + a) = true ∧ st' = vi (M k b) :: s0 ∧ L' = L ∧ M' = M := by
  rw [st_19] at hs
  split at hs
  · rename_i _ k s0
    exact ⟨k, s0, rfl, sn4 hs⟩
  · cases hs
theorem in_20 (hs : stp F X Y M L st (20, a, b, c, v, tab, sub, idx, pl) = some (.inl (true, st', L', M'))) : ∃ (k : Nat) (s0 : List Vv), st = vr k :: s0 ∧ (kd Y k == 10 + a) = true ∧ rfK (F k b) (M k b) = true ∧ st' = vr (rfO (F k b) (M k b)) :: s0 ∧ L' = L ∧ M' = M := by
  rw [st_20] at hs
  split at hs
  · rename_i _ k s0
    obtain ⟨h1, h2⟩ := sn4 hs
    exact ⟨k, s0, rfl, (an2 h1).1, (an2 h1).2, h2⟩
  · cases hs
theorem in_21 (hs : stp F X Y M L st (21, a, b, c, v, tab, sub, idx, pl) = some (.inl (true, st', L', M'))) : ∃ (x : Int) (k : Nat) (s0 : List Vv), st = vi x :: vr k :: s0 ∧ (kd Y k == 10 + a) = true ∧ bl2 c x = true ∧ st' = s0 ∧ L' = L ∧ M' = stM M k b x := by
  rw [st_21] at hs
  split at hs
  · rename_i _ x k s0
    obtain ⟨h1, h2⟩ := sn4 hs
    exact ⟨x, k, s0, rfl, (an2 h1).1, (an2 h1).2, h2⟩
  · cases hs
theorem in_23 (hs : stp F X Y M L st (23, a, b, c, v, tab, sub, idx, pl) = some (.inl (true, st', L', M'))) : ∃ (x : Int) (k : Nat) (s0 : List Vv), st = vi x :: vr k :: s0 ∧ (kd Y k == 10 + a) = true ∧ bl2 c x = true ∧ st' = s0 ∧ L' = L ∧ M' = stM M k b x := by
  rw [st_23] at hs
  split at hs
  · rename_i _ x k s0
    obtain ⟨h1, h2⟩ := sn4 hs
    exact ⟨x, k, s0, rfl, (an2 h1).1, (an2 h1).2, h2⟩
  · cases hs
theorem in_22 (hs : stp F X Y M L st (22, a, b, c, v, tab, sub, idx, pl) = some (.inl (true, st', L', M'))) : ∃ (t k : Nat) (s0 : List Vv), st = vr t :: vr k :: s0 ∧ (kd Y k == 10 + a) = true ∧ (F k b == 0) = true ∧ st' = s0 ∧ L' = L ∧ M' = stM M k b ((t : Int) + 1) := by
  rw [st_22] at hs
  split at hs
  · rename_i _ t k s0
    obtain ⟨h1, h2⟩ := sn4 hs
    exact ⟨t, k, s0, rfl, (an2 h1).1, (an2 h1).2, h2⟩
  · cases hs
theorem in_24 (hs : stp F X Y M L st (24, a, b, c, v, tab, sub, idx, pl) = some (.inl (true, st', L', M'))) : ∃ (t k : Nat) (s0 : List Vv), st = vr t :: vr k :: s0 ∧ (kd Y k == 10 + a) = true ∧ (F k b == 0) = true ∧ st' = s0 ∧ L' = L ∧ M' = stM M k b ((t : Int) + 1) := by
  rw [st_24] at hs
  split at hs
  · rename_i _ t k s0
    obtain ⟨h1, h2⟩ := sn4 hs
    exact ⟨t, k, s0, rfl, (an2 h1).1, (an2 h1).2, h2⟩
  · cases hs
theorem in_25 (hs : stp F X Y M L st (25, a, b, c, v, tab, sub, idx, pl) = some (.inl (true, st', L', M'))) : (∃ (x : Int) (k : Nat) (s0 : List Vv), st = vi x :: vr k :: s0 ∧ (kd Y k == a) = true ∧ 0 ≤ x ∧ x < ln Y k ∧ L' = L ∧ M' = M ∧ ((a = 3 ∧ st' = vl (M k x.toNat) :: s0) ∨ (a = 4 ∧ rfK (F k x.toNat) (M k x.toNat) = true ∧ st' = vr (rfO (F k x.toNat) (M k x.toNat)) :: s0) ∨ (a ≠ 3 ∧ a ≠ 4 ∧ st' = vi (M k x.toNat) :: s0))) ∨ (∃ (x : Int) (k : Nat) (s0 : List Vv), st = vi x :: vx k :: s0 ∧ a = 0 ∧ 0 ≤ x ∧ x < ((X k).length : Int) ∧ st' = vi ((X k).getD x.toNat 0) :: s0 ∧ L' = L ∧ M' = M) := by
  rw [st_25] at hs
  split at hs
  · rename_i _ x k s0
    split at hs
    · obtain ⟨h1, h2, h3, h4⟩ := sn4 hs
      obtain ⟨g1, g2, g3⟩ := an3 h1
      exact Or.inl ⟨x, k, s0, rfl, g1, of_decide_eq_true g2, of_decide_eq_true g3, h3, h4, Or.inl ⟨rfl, h2⟩⟩
    · obtain ⟨h1, h2, h3, h4⟩ := sn4 hs
      obtain ⟨g1, g2, g3, g4⟩ := an4 h1
      exact Or.inl ⟨x, k, s0, rfl, g1, of_decide_eq_true g2, of_decide_eq_true g3, h3, h4, Or.inr (Or.inl ⟨rfl, g4, h2⟩)⟩
    · rename_i ha hb
      obtain ⟨h1, h2, h3, h4⟩ := sn4 hs
      obtain ⟨g1, g2, g3⟩ := an3 h1
      exact Or.inl ⟨x, k, s0, rfl, g1, of_decide_eq_true g2, of_decide_eq_true g3, h3, h4, Or.inr (Or.inr ⟨ha, hb, h2⟩)⟩
  · rename_i _ x k s0
    split at hs
    · obtain ⟨h1, h2⟩ := sn4 hs
      exact Or.inr ⟨x, k, s0, rfl, rfl, of_decide_eq_true (an2 h1).1, of_decide_eq_true (an2 h1).2, h2⟩
    · cases hs
  · cases hs
theorem in_26 (hs : stp F X Y M L st (26, a, b, c, v, tab, sub, idx, pl) = some (.inl (true, st', L', M'))) : ∃ (z x : Int) (k : Nat) (s0 : List Vv) (w : Int), (kd Y k == a) = true ∧ 0 ≤ x ∧ x < ln Y k ∧ st' = s0 ∧ L' = L ∧ M' = stM M k x.toNat w ∧ ((a = 3 ∧ st = vl z :: vi x :: vr k :: s0 ∧ w = z) ∨ (a = 0 ∧ st = vi z :: vi x :: vr k :: s0 ∧ w = z) ∨ (a = 1 ∧ st = vi z :: vi x :: vr k :: s0 ∧ w = w8 z) ∨ (a = 2 ∧ st = vi z :: vi x :: vr k :: s0 ∧ w = z ∧ bl2 1 z = true)) := by
  rw [st_26] at hs
  split at hs
  · split at hs
    · rename_i _ z x k s0
      obtain ⟨h1, h2, h3, h4⟩ := sn4 hs
      obtain ⟨g1, g2, g3⟩ := an3 h1
      exact ⟨z, x, k, s0, _, g1, of_decide_eq_true g2, of_decide_eq_true g3, h2, h3, h4, Or.inl ⟨rfl, rfl, rfl⟩⟩
    · cases hs
  · split at hs
    · rename_i _ z x k s0
      obtain ⟨h1, h2, h3, h4⟩ := sn4 hs
      obtain ⟨g1, g2, g3⟩ := an3 h1
      exact ⟨z, x, k, s0, _, g1, of_decide_eq_true g2, of_decide_eq_true g3, h2, h3, h4, Or.inr (Or.inl ⟨rfl, rfl, rfl⟩)⟩
    · cases hs
  · split at hs
    · rename_i _ z x k s0
      obtain ⟨h1, h2, h3, h4⟩ := sn4 hs
      obtain ⟨g1, g2, g3⟩ := an3 h1
      exact ⟨z, x, k, s0, _, g1, of_decide_eq_true g2, of_decide_eq_true g3, h2, h3, h4, Or.inr (Or.inr (Or.inl ⟨rfl, rfl, rfl⟩))⟩
    · cases hs
  · split at hs
    · rename_i _ z x k s0
      obtain ⟨h1, h2, h3, h4⟩ := sn4 hs
      obtain ⟨g1, g2, g3, g4⟩ := an4 h1
      exact ⟨z, x, k, s0, _, g1, of_decide_eq_true g2, of_decide_eq_true g3, h2, h3, h4, Or.inr (Or.inr (Or.inr ⟨rfl, rfl, rfl, g4⟩))⟩
    · cases hs
  · cases hs
theorem in_27 (hs : stp F X Y M L st (27, a, b, c, v, tab, sub, idx, pl) = some (.inl (true, st', L', M'))) : (a = 0 ∨ a = 1) ∧ st' = vx a :: st ∧ L' = L ∧ M' = M := by
  rw [st_27] at hs
  split at hs
  · exact ⟨Or.inl rfl, (sn4 hs).2⟩
  · exact ⟨Or.inr rfl, (sn4 hs).2⟩
  · cases hs
theorem in_28 (hs : stp F X Y M L st (28, a, b, c, v, tab, sub, idx, pl) = some (.inl (true, st', L', M'))) : st' = vx 2 :: st ∧ L' = L ∧ M' = M := by
  rw [st_28] at hs
  exact (sn4 hs).2
theorem in_29 (hs : stp F X Y M L st (29, a, b, c, v, tab, sub, idx, pl) = some (.inl (true, st', L', M'))) : ∃ s0 : List Vv, st = vx 2 :: s0 ∧ st' = vi ((X 2).length : Int) :: s0 ∧ L' = L ∧ M' = M := by
  rw [st_29] at hs
  split at hs
  · rename_i _ s0
    exact ⟨s0, rfl, (sn4 hs).2⟩
  · cases hs
theorem in_32 (hs : stp F X Y M L st (32, a, b, c, v, tab, sub, idx, pl) = some (.inl (true, st', L', M'))) : ∃ (k : Nat) (s0 : List Vv), st = vr k :: s0 ∧ st' = vr k :: vr k :: s0 ∧ L' = L ∧ M' = M := by
  rw [st_32] at hs
  split at hs
  · rename_i _ k s0
    exact ⟨k, s0, rfl, (sn4 hs).2⟩
  · cases hs
theorem in_33 (hs : stp F X Y M L st (33, a, b, c, v, tab, sub, idx, pl) = some (.inl (true, st', L', M'))) : ∃ (x : Int) (k : Nat) (s0 : List Vv), st = vi x :: vr k :: s0 ∧ st' = vi x :: vr k :: vi x :: vr k :: s0 ∧ L' = L ∧ M' = M := by
  rw [st_33] at hs
  split at hs
  · rename_i _ x k s0
    exact ⟨x, k, s0, rfl, (sn4 hs).2⟩
  · cases hs
theorem in_34 (hs : stp F X Y M L st (34, a, b, c, v, tab, sub, idx, pl) = some (.inl (true, st', L', M'))) : ∃ (x : Int) (s0 : List Vv), ((a = 0 ∧ st = vi x :: s0) ∨ (a ≠ 0 ∧ st = vl x :: s0)) ∧ st' = s0 ∧ L' = L ∧ M' = M := by
  rw [st_34] at hs
  split at hs
  · split at hs
    · rename_i _ x s0
      exact ⟨x, s0, Or.inl ⟨rfl, rfl⟩, (sn4 hs).2⟩
    · cases hs
  · rename_i ha
    split at hs
    · rename_i _ x s0
      exact ⟨x, s0, Or.inr ⟨ha, rfl⟩, (sn4 hs).2⟩
    · cases hs
theorem in_38 (hs : stp F X Y M L st (38, a, b, c, v, tab, sub, idx, pl) = some (.inl (true, st', L', M'))) : ∃ (k : Nat) (s0 : List Vv), st = vr k :: s0 ∧ catV s0 ≤ 8 ∧ st' = s0 ∧ L' = L ∧ M' = M := by
  rw [st_38] at hs
  split at hs
  · rename_i _ k s0
    split at hs
    · rename_i hb
      exact ⟨k, s0, rfl, Nat.le_of_ble_eq_true hb, (sn4 hs).2⟩
    · cases hs
  · cases hs
theorem in_39 (hs : stp F X Y M L st (39, a, b, c, v, tab, sub, idx, pl) = some (.inl (true, st', L', M'))) : ((a = 0 ∧ ∃ (x : Int) (s0 : List Vv), st = vi x :: s0 ∧ catV s0 ≤ 8 ∧ st' = vi (mAbs x) :: s0) ∨ (a ≠ 0 ∧ ∃ (y x : Int) (s0 : List Vv), st = vi y :: vi x :: s0 ∧ catV s0 ≤ 8 ∧ st' = vi (mMM a x y) :: s0)) ∧ L' = L ∧ M' = M := by
  rw [st_39] at hs
  split at hs
  · split at hs
    · rename_i _ x s0
      split at hs
      · rename_i hb
        exact ⟨Or.inl ⟨rfl, x, s0, rfl, Nat.le_of_ble_eq_true hb, (sn4 hs).2.1⟩, (sn4 hs).2.2⟩
      · cases hs
    · cases hs
  · rename_i ha
    split at hs
    · rename_i _ y x s0
      split at hs
      · rename_i hb
        exact ⟨Or.inr ⟨ha, y, x, s0, rfl, Nat.le_of_ble_eq_true hb, (sn4 hs).2.1⟩, (sn4 hs).2.2⟩
      · cases hs
    · cases hs
theorem in_15 (hs : stp F X Y M L st (15, a, b, c, v, tab, sub, idx, pl) = some (.inl (true, st', L', M'))) : False := by
  rw [st_15] at hs
  cases hs
theorem in_16 (hs : stp F X Y M L st (16, a, b, c, v, tab, sub, idx, pl) = some (.inl (true, st', L', M'))) : False := by
  rw [st_16] at hs
  split at hs <;> cases hs
theorem in_17 (hs : stp F X Y M L st (17, a, b, c, v, tab, sub, idx, pl) = some (.inl (true, st', L', M'))) : False := by
  rw [st_17] at hs
  split at hs <;> cases hs
theorem in_18 (hs : stp F X Y M L st (18, a, b, c, v, tab, sub, idx, pl) = some (.inl (true, st', L', M'))) : False := by
  rw [st_18] at hs
  split at hs <;> cases hs
theorem in_30 (hs : stp F X Y M L st (30, a, b, c, v, tab, sub, idx, pl) = some (.inl (true, st', L', M'))) : False := by
  rw [st_30] at hs
  split at hs <;> cases hs
theorem in_31 (hs : stp F X Y M L st (31, a, b, c, v, tab, sub, idx, pl) = some (.inl (true, st', L', M'))) : False := by
  rw [st_31] at hs
  split at hs <;> (split at hs <;> cases hs)
theorem in_35 (hs : stp F X Y M L st (35, a, b, c, v, tab, sub, idx, pl) = some (.inl (true, st', L', M'))) : False := by
  rw [st_35] at hs
  cases hs
theorem in_36 (hs : stp F X Y M L st (36, a, b, c, v, tab, sub, idx, pl) = some (.inl (true, st', L', M'))) : False := by
  rw [st_36] at hs
  split at hs
  · split at hs <;> cases hs
  · cases hs
theorem in_37 (hs : stp F X Y M L st (37, a, b, c, v, tab, sub, idx, pl) = some (.inl (true, st', L', M'))) : False := by
  rw [st_37] at hs
  split at hs
  · split at hs <;> cases hs
  · cases hs
end INV
