/-! PART 25: the checker's steps -/
def ai_ic (o : Option (Option ai_V)) : Option ai_L := match o with
  | some (some (.inl (false, l))) => some l
  | _ => none
def ai_lc (o : Option (Option ai_V)) : Option ai_L := match o with
  | some (some (.inl (true, l))) => some l
  | _ => none
def ai_rc (o : Option (Option ai_V)) : Option Nat := match o with
  | some (some (.inr (.inl k))) => some k
  | _ => none
def ai_is1 (S : ai_S) (c : Nat) (x : ai_L) : Bool := match c with
  | 0 => true
  | _ => ai_in 0 1 S x
/-- an index within its row -/
def ai_ix (S : ai_S) (i : ai_L) (n : Int) : Bool := ai_ge 2 S.2.1 S.2.2.2.1 i && ai_ge 2 S.2.1 S.2.2.2.1 (ai_ad1 (ai_neg i) (n - 1))
def ai_cat (st : List ai_V) : Nat := match st with
  | [] => 0
  | .inl (true, _) :: r => 2 + ai_cat r
  | _ :: r => 1 + ai_cat r
def ai_sr (S : ai_S) (l : ai_L) : Option Nat := match ai_bd S.2.1 l with
  | some p => match decide (p.1 = p.2) && decide (0 < p.1) with
    | true => some (p.1.toNat - 1)
    | false => none
  | none => none
abbrev ai_N : Type := ai_S → List ai_V → List (Option ai_V) → Bool
def ai_o0 (T : ai_T) (w : Nat) (S : ai_S) (ast : List ai_V) (aL : List (Option ai_V)) (a b c : Nat) (v : Int) (kN : ai_N) : Bool := kN S (.inl (false, ai_c v) :: ast) aL
def ai_o1 (T : ai_T) (w : Nat) (S : ai_S) (ast : List ai_V) (aL : List (Option ai_V)) (a b c : Nat) (v : Int) (kN : ai_N) : Bool := kN S (.inl (true, ai_c v) :: ast) aL
def ai_o2 (T : ai_T) (w : Nat) (S : ai_S) (ast : List ai_V) (aL : List (Option ai_V)) (a b c : Nat) (v : Int) (kN : ai_N) : Bool := match ai_ic aL[a]? with
  | some l => kN S (.inl (false, l) :: ast) aL
  | none => false
def ai_o3 (T : ai_T) (w : Nat) (S : ai_S) (ast : List ai_V) (aL : List (Option ai_V)) (a b c : Nat) (v : Int) (kN : ai_N) : Bool := match ai_lc aL[a]? with
  | some l => kN S (.inl (true, l) :: ast) aL
  | none => false
def ai_o4 (T : ai_T) (w : Nat) (S : ai_S) (ast : List ai_V) (aL : List (Option ai_V)) (a b c : Nat) (v : Int) (kN : ai_N) : Bool := match ai_rc aL[a]? with
  | some k => kN S (.inr (.inl k) :: ast) aL
  | none => false
def ai_o5 (T : ai_T) (w : Nat) (S : ai_S) (ast : List ai_V) (aL : List (Option ai_V)) (a b c : Nat) (v : Int) (kN : ai_N) : Bool := match ast with
  | .inl (false, l) :: st => match ai_okA aL a && Nat.blt a aL.length with
    | true => ai_fo (aL.set a (some (.inl (false, l)))) fun aL => kN S st aL
    | false => false
  | _ => false
def ai_o6 (T : ai_T) (w : Nat) (S : ai_S) (ast : List ai_V) (aL : List (Option ai_V)) (a b c : Nat) (v : Int) (kN : ai_N) : Bool := match ast with
  | .inl (true, l) :: st => match ai_okA aL a && Nat.blt (a + 1) aL.length with
    | true => ai_fo ((aL.set a (some (.inl (true, l)))).set (a + 1) none) fun aL => kN S st aL
    | false => false
  | _ => false
def ai_o7 (T : ai_T) (w : Nat) (S : ai_S) (ast : List ai_V) (aL : List (Option ai_V)) (a b c : Nat) (v : Int) (kN : ai_N) : Bool := match ast with
  | .inr (.inl k) :: st => match ai_okA aL a && Nat.blt a aL.length with
    | true => ai_fo (aL.set a (some (.inr (.inl k)))) fun aL => kN S st aL
    | false => false
  | _ => false
def ai_o8 (T : ai_T) (w : Nat) (S : ai_S) (ast : List ai_V) (aL : List (Option ai_V)) (a b c : Nat) (v : Int) (kN : ai_N) : Bool := match ai_ic aL[a]? with
  | some l => match ai_okA aL a with
    | true => ai_w S (ai_ad1 l v) fun S r => ai_fo (aL.set a (some (.inl (false, r)))) fun aL => kN S ast aL
    | false => false
  | none => false
def ai_o9 (T : ai_T) (w : Nat) (S : ai_S) (ast : List ai_V) (aL : List (Option ai_V)) (a b c : Nat) (v : Int) (kN : ai_N) : Bool := match ast with
  | .inl (false, y) :: .inl (false, x) :: st => ai_bin a S x y fun S r => kN S (.inl (false, r) :: st) aL
  | _ => false
def ai_o10a (T : ai_T) (w : Nat) (S : ai_S) (ast : List ai_V) (aL : List (Option ai_V)) (a b c : Nat) (v : Int) (kN : ai_N) : Bool := match ast with
  | .inl (false, x) :: st => ai_w S (ai_neg x) fun S r => kN S (.inl (false, r) :: st) aL
  | _ => false
def ai_o10b (T : ai_T) (w : Nat) (S : ai_S) (ast : List ai_V) (aL : List (Option ai_V)) (a b c : Nat) (v : Int) (kN : ai_N) : Bool := match ast with
  | .inl (false, x) :: st => match ai_in (-128) 127 S x with
    | true => kN S (.inl (false, x) :: st) aL
    | false => ai_fr S (-128) 127 fun S r => kN S (.inl (false, r) :: st) aL
  | _ => false
def ai_o10 (T : ai_T) (w : Nat) (S : ai_S) (ast : List ai_V) (aL : List (Option ai_V)) (a b c : Nat) (v : Int) (kN : ai_N) : Bool := match a with
  | 0 => ai_o10a T w S ast aL a b c v kN
  | _ => ai_o10b T w S ast aL a b c v kN
def ai_o11 (T : ai_T) (w : Nat) (S : ai_S) (ast : List ai_V) (aL : List (Option ai_V)) (a b c : Nat) (v : Int) (kN : ai_N) : Bool := match ast with
  | .inl (true, y) :: .inl (true, x) :: st => ai_lbn a S x y fun S r => kN S (.inl (true, r) :: st) aL
  | _ => false
def ai_o12a (T : ai_T) (w : Nat) (S : ai_S) (ast : List ai_V) (aL : List (Option ai_V)) (a b c : Nat) (v : Int) (kN : ai_N) : Bool := match ast with
  | .inl (false, x) :: st => kN S (.inl (true, x) :: st) aL
  | _ => false
def ai_o12b (T : ai_T) (w : Nat) (S : ai_S) (ast : List ai_V) (aL : List (Option ai_V)) (a b c : Nat) (v : Int) (kN : ai_N) : Bool := match ast with
  | .inl (true, x) :: st => ai_w S x fun S r => kN S (.inl (false, r) :: st) aL
  | _ => false
def ai_o12 (T : ai_T) (w : Nat) (S : ai_S) (ast : List ai_V) (aL : List (Option ai_V)) (a b c : Nat) (v : Int) (kN : ai_N) : Bool := match a with
  | 0 => ai_o12a T w S ast aL a b c v kN
  | _ => ai_o12b T w S ast aL a b c v kN
def ai_o13 (T : ai_T) (w : Nat) (S : ai_S) (ast : List ai_V) (aL : List (Option ai_V)) (a b c : Nat) (v : Int) (kN : ai_N) : Bool := match ast with
  | .inl (false, _) :: .inl (true, _) :: st => ai_T64 S fun S r => kN S (.inl (true, r) :: st) aL
  | _ => false
def ai_o14 (T : ai_T) (w : Nat) (S : ai_S) (ast : List ai_V) (aL : List (Option ai_V)) (a b c : Nat) (v : Int) (kN : ai_N) : Bool := match ast with
  | .inl (true, y) :: .inl (true, x) :: st => ai_as S (ai_ad1 (ai_sub y x) (-1)) (fun S => kN S (.inl (false, ai_c (-1)) :: st) aL) && (ai_eq S (ai_sub x y) (fun S => kN S (.inl (false, ai_c 0) :: st) aL) && ai_as S (ai_ad1 (ai_sub x y) (-1)) (fun S => kN S (.inl (false, ai_c 1) :: st) aL))
  | _ => false
def ai_o19 (T : ai_T) (w : Nat) (S : ai_S) (ast : List ai_V) (aL : List (Option ai_V)) (a b c : Nat) (v : Int) (kN : ai_N) : Bool := match ast with
  | .inr (.inl k) :: st => match kd YF k == 10 + a with
    | true => ai_ld T S k (ai_c b) fun S r => kN S (.inl (false, r) :: st) aL
    | false => false
  | _ => false
def ai_o20 (T : ai_T) (w : Nat) (S : ai_S) (ast : List ai_V) (aL : List (Option ai_V)) (a b c : Nat) (v : Int) (kN : ai_N) : Bool := match ast with
  | .inr (.inl k) :: st => match kd YF k == 10 + a with
    | true => match FF k b with
      | t + 1 => kN S (.inr (.inl t) :: st) aL
      | 0 => ai_ld T S k (ai_c b) fun S r => match ai_sr S r with
        | some t => kN S (.inr (.inl t) :: st) aL
        | none => false
    | false => false
  | _ => false
def ai_o21 (T : ai_T) (w : Nat) (S : ai_S) (ast : List ai_V) (aL : List (Option ai_V)) (a b c : Nat) (v : Int) (kN : ai_N) : Bool := match ast with
  | .inl (false, x) :: .inr (.inl k) :: st => match (kd YF k == 10 + a) && ai_is1 S c x with
    | true => ai_st T w S k (ai_c b) x fun S => kN S st aL
    | false => false
  | _ => false
def ai_o25 (T : ai_T) (w : Nat) (S : ai_S) (ast : List ai_V) (aL : List (Option ai_V)) (a b c : Nat) (v : Int) (kN : ai_N) : Bool := match ast with
  | .inl (false, i) :: .inr (.inl k) :: st => match (kd YF k == a) && ai_ix S i (ln YF k) with
    | true => match a with
      | 3 => ai_ld T S k i fun S r => kN S (.inl (true, r) :: st) aL
      | 4 => match ai_bd S.2.1 i with
        | some p => match decide (0 ≤ p.1) with
          | true => ai_ea (p.2 + 1 - p.1).toNat p.1 S i fun S j => match FF k j.toNat with
            | t + 1 => kN S (.inr (.inl t) :: st) aL
            | 0 => false
          | false => false
        | none => false
      | 0 => ai_ld T S k i fun S r => kN S (.inl (false, r) :: st) aL
      | 1 => ai_ld T S k i fun S r => kN S (.inl (false, r) :: st) aL
      | 2 => ai_ld T S k i fun S r => kN S (.inl (false, r) :: st) aL
      | _ => false
    | false => false
  | .inl (false, i) :: .inr (.inr k) :: st => match a with
    | 0 => match Nat.blt k 2 && ai_ix S i 5 with
      | true => ai_fr S (-1) 1 fun S r => kN S (.inl (false, r) :: st) aL
      | false => false
    | _ => false
  | _ => false
def ai_o26 (T : ai_T) (w : Nat) (S : ai_S) (ast : List ai_V) (aL : List (Option ai_V)) (a b c : Nat) (v : Int) (kN : ai_N) : Bool := match a with
  | 3 => match ast with
    | .inl (true, z) :: .inl (false, i) :: .inr (.inl k) :: st => match (kd YF k == a) && ai_ix S i (ln YF k) with
      | true => ai_st T w S k i z fun S => kN S st aL
      | false => false
    | _ => false
  | 0 => match ast with
    | .inl (false, z) :: .inl (false, i) :: .inr (.inl k) :: st => match (kd YF k == a) && ai_ix S i (ln YF k) with
      | true => ai_st T w S k i z fun S => kN S st aL
      | false => false
    | _ => false
  | 1 => match ast with
    | .inl (false, z) :: .inl (false, i) :: .inr (.inl k) :: st => match (kd YF k == a) && ai_ix S i (ln YF k) with
      | true => match ai_in (-128) 127 S z with
        | true => ai_st T w S k i z fun S => kN S st aL
        | false => ai_fr S (-128) 127 fun S z => ai_st T w S k i z fun S => kN S st aL
      | false => false
    | _ => false
  | 2 => match ast with
    | .inl (false, z) :: .inl (false, i) :: .inr (.inl k) :: st => match (kd YF k == a) && (ai_ix S i (ln YF k) && ai_in 0 1 S z) with
      | true => ai_st T w S k i z fun S => kN S st aL
      | false => false
    | _ => false
  | _ => false
def ai_o27 (T : ai_T) (w : Nat) (S : ai_S) (ast : List ai_V) (aL : List (Option ai_V)) (a b c : Nat) (v : Int) (kN : ai_N) : Bool := match a with
  | 0 => kN S (.inr (.inr 0) :: ast) aL
  | 1 => kN S (.inr (.inr 1) :: ast) aL
  | _ => false
def ai_o32 (T : ai_T) (w : Nat) (S : ai_S) (ast : List ai_V) (aL : List (Option ai_V)) (a b c : Nat) (v : Int) (kN : ai_N) : Bool := match ast with
  | .inr (.inl k) :: st => kN S (.inr (.inl k) :: .inr (.inl k) :: st) aL
  | _ => false
def ai_o33 (T : ai_T) (w : Nat) (S : ai_S) (ast : List ai_V) (aL : List (Option ai_V)) (a b c : Nat) (v : Int) (kN : ai_N) : Bool := match ast with
  | .inl (false, x) :: .inr (.inl k) :: st => kN S (.inl (false, x) :: .inr (.inl k) :: .inl (false, x) :: .inr (.inl k) :: st) aL
  | _ => false
def ai_o34a (T : ai_T) (w : Nat) (S : ai_S) (ast : List ai_V) (aL : List (Option ai_V)) (a b c : Nat) (v : Int) (kN : ai_N) : Bool := match ast with
  | .inl (false, _) :: st => kN S st aL
  | _ => false
def ai_o34b (T : ai_T) (w : Nat) (S : ai_S) (ast : List ai_V) (aL : List (Option ai_V)) (a b c : Nat) (v : Int) (kN : ai_N) : Bool := match ast with
  | .inl (true, _) :: st => kN S st aL
  | _ => false
def ai_o34 (T : ai_T) (w : Nat) (S : ai_S) (ast : List ai_V) (aL : List (Option ai_V)) (a b c : Nat) (v : Int) (kN : ai_N) : Bool := match a with
  | 0 => ai_o34a T w S ast aL a b c v kN
  | _ => ai_o34b T w S ast aL a b c v kN
def ai_o39a (T : ai_T) (w : Nat) (S : ai_S) (ast : List ai_V) (aL : List (Option ai_V)) (a b c : Nat) (v : Int) (kN : ai_N) : Bool := match ast with
  | .inl (false, x) :: st => match Nat.ble (ai_cat st) 8 with
    | true => ai_ab S x fun S r => kN S (.inl (false, r) :: st) aL
    | false => false
  | _ => false
def ai_o39b (T : ai_T) (w : Nat) (S : ai_S) (ast : List ai_V) (aL : List (Option ai_V)) (a b c : Nat) (v : Int) (kN : ai_N) : Bool := match ast with
  | .inl (false, y) :: .inl (false, x) :: st => match Nat.ble (ai_cat st) 8 with
    | true => ai_mm a S x y fun S r => kN S (.inl (false, r) :: st) aL
    | false => false
  | _ => false
def ai_o39 (T : ai_T) (w : Nat) (S : ai_S) (ast : List ai_V) (aL : List (Option ai_V)) (a b c : Nat) (v : Int) (kN : ai_N) : Bool := match a with
  | 0 => ai_o39a T w S ast aL a b c v kN
  | _ => ai_o39b T w S ast aL a b c v kN
def ai_op (T : ai_T) (w : Nat) (S : ai_S) (ast : List ai_V) (aL : List (Option ai_V)) (mi : MI) (kN : ai_N) : Bool := match mi with
  | (op, a, b, c, v, _, _, _, _) => match op with
    | 0 => ai_o0 T w S ast aL a b c v kN
    | 1 => ai_o1 T w S ast aL a b c v kN
    | 2 => ai_o2 T w S ast aL a b c v kN
    | 3 => ai_o3 T w S ast aL a b c v kN
    | 4 => ai_o4 T w S ast aL a b c v kN
    | 5 => ai_o5 T w S ast aL a b c v kN
    | 6 => ai_o6 T w S ast aL a b c v kN
    | 7 => ai_o7 T w S ast aL a b c v kN
    | 8 => ai_o8 T w S ast aL a b c v kN
    | 9 => ai_o9 T w S ast aL a b c v kN
    | 10 => ai_o10 T w S ast aL a b c v kN
    | 11 => ai_o11 T w S ast aL a b c v kN
    | 12 => ai_o12 T w S ast aL a b c v kN
    | 13 => ai_o13 T w S ast aL a b c v kN
    | 14 => ai_o14 T w S ast aL a b c v kN
    | 19 => ai_o19 T w S ast aL a b c v kN
    | 20 => ai_o20 T w S ast aL a b c v kN
    | 21 => ai_o21 T w S ast aL a b c v kN
    | 25 => ai_o25 T w S ast aL a b c v kN
    | 26 => ai_o26 T w S ast aL a b c v kN
    | 27 => ai_o27 T w S ast aL a b c v kN
    | 32 => ai_o32 T w S ast aL a b c v kN
    | 33 => ai_o33 T w S ast aL a b c v kN
    | 34 => ai_o34 T w S ast aL a b c v kN
    | 39 => ai_o39 T w S ast aL a b c v kN
    | _ => false
section AXOP
variable {T : ai_T} {w : Nat} {M0 M : MM} {ρ : Nat → Int} {sc : List Int}
theorem ai_RL.ic {n : Nat} {a : List (Option ai_V)} {v : LL} {i : Nat} {l : ai_L} (h : ai_RL n ρ a v) (e : ai_ic a[i]? = some l) : v[i]? = some (some (vi (ai_va ρ l))) ∧ ai_sc n l := by
  unfold ai_ic at e
  split at e
  · rename_i l' hl
    cases e
    obtain ⟨w, h1, v', h2, h3, h4⟩ := h.at hl
    rw [h1, h2, h4]
    exact ⟨rfl, h3⟩
  · cases e
theorem ai_RL.lc {n : Nat} {a : List (Option ai_V)} {v : LL} {i : Nat} {l : ai_L} (h : ai_RL n ρ a v) (e : ai_lc a[i]? = some l) : v[i]? = some (some (vl (ai_va ρ l))) ∧ ai_sc n l := by
  unfold ai_lc at e
  split at e
  · rename_i l' hl
    cases e
    obtain ⟨w, h1, v', h2, h3, h4⟩ := h.at hl
    rw [h1, h2, h4]
    exact ⟨rfl, h3⟩
  · cases e
theorem ai_RL.rc {n : Nat} {a : List (Option ai_V)} {v : LL} {i k : Nat} (h : ai_RL n ρ a v) (e : ai_rc a[i]? = some k) : v[i]? = some (some (vr k)) := by
  unfold ai_rc at e
  split at e
  · rename_i l' hl
    cases e
    obtain ⟨w, h1, v', h2, h3⟩ := h.at hl
    rw [h1, h2, show v' = vr k from h3]
  · cases e
theorem ai_is1_ok {S : ai_S} {c : Nat} {x : ai_L} (h : ai_is1 S c x = true) (o : ai_Ok T w M0 ρ S M) : bl2 c (ai_va ρ x) = true := by
  unfold ai_is1 at h
  unfold bl2
  split at h
  · rfl
  · have := ai_in_ok h o
    split
    · rfl
    · rw [Bool.or_eq_true, decide_eq_true_eq, decide_eq_true_eq]
      omega
theorem ai_ix_ok {S : ai_S} {i : ai_L} {n : Int} (h : ai_ix S i n = true) (o : ai_Ok T w M0 ρ S M) : 0 ≤ ai_va ρ i ∧ ai_va ρ i < n := by
  unfold ai_ix at h
  rw [Bool.and_eq_true] at h
  have h1 := ai_ge_ok o.1.1 o.1.2.2.1 h.1
  have h2 := ai_ge_ok o.1.1 o.1.2.2.1 h.2
  rw [ai_ad1_va, ai_neg_va] at h2
  omega
theorem ai_cat_ok {n : Nat} : ∀ {a : List ai_V} {v : List Vv}, ai_RS n ρ a v → catV v = ai_cat a
  | [], [], _ => rfl
  | .inl (true, l) :: as, v, h => by
    obtain ⟨v', rfl, -, h3⟩ := h.l
    have := ai_cat_ok h3
    show 2 + catV v' = 2 + ai_cat as
    omega
  | .inl (false, l) :: as, v, h => by
    obtain ⟨v', rfl, -, h3⟩ := h.i
    have := ai_cat_ok h3
    show 1 + catV v' = 1 + ai_cat as
    omega
  | .inr (.inl k) :: as, v, h => by
    obtain ⟨v', rfl, h3⟩ := h.r
    have := ai_cat_ok h3
    show 1 + catV v' = 1 + ai_cat as
    omega
  | .inr (.inr k) :: as, v, h => by
    obtain ⟨v', rfl, h3⟩ := h.x
    have := ai_cat_ok h3
    show 1 + catV v' = 1 + ai_cat as
    omega
  | [], _ :: _, h => h.elim
theorem ai_xar (k : Nat) (hk : k < 2) (j : Nat) (hj : j < 5) : -1 ≤ (xar sc k).getD j 0 ∧ (xar sc k).getD j 0 ≤ 1 ∧ (xar sc k).length = 5 := by
  have hk : k = 0 ∨ k = 1 := by omega
  rcases hk with rfl | rfl
  · have : ∀ j, j < 5 → -1 ≤ ([0, 1, 0, -1, 0] : List Int).getD j 0 ∧ ([0, 1, 0, -1, 0] : List Int).getD j 0 ≤ 1 := by decide
    exact ⟨(this j hj).1, (this j hj).2, rfl⟩
  · have : ∀ j, j < 5 → -1 ≤ ([1, 0, -1, 0, 0] : List Int).getD j 0 ∧ ([1, 0, -1, 0, 0] : List Int).getD j 0 ≤ 1 := by decide
    exact ⟨(this j hj).1, (this j hj).2, rfl⟩
theorem ai_RS.pi {n : Nat} {l : ai_L} {a : List ai_V} {v : List Vv} (h : ai_RS n ρ a v) (hc : ai_sc n l) : ai_RS n ρ (.inl (false, l) :: a) (vi (ai_va ρ l) :: v) := ⟨⟨hc, rfl⟩, h⟩
theorem ai_RS.pl {n : Nat} {l : ai_L} {a : List ai_V} {v : List Vv} (h : ai_RS n ρ a v) (hc : ai_sc n l) : ai_RS n ρ (.inl (true, l) :: a) (vl (ai_va ρ l) :: v) := ⟨⟨hc, rfl⟩, h⟩
theorem ai_RS.pr {n : Nat} {k : Nat} {a : List ai_V} {v : List Vv} (h : ai_RS n ρ a v) : ai_RS n ρ (.inr (.inl k) :: a) (vr k :: v) := ⟨rfl, h⟩
theorem ai_RS.px {n : Nat} {k : Nat} {a : List ai_V} {v : List Vv} (h : ai_RS n ρ a v) : ai_RS n ρ (.inr (.inr k) :: a) (vx k :: v) := ⟨rfl, h⟩
theorem ai_RS.pc {n : Nat} {c : Int} {a : List ai_V} {v : List Vv} (h : ai_RS n ρ a v) : ai_RS n ρ (.inl (false, ai_c c) :: a) (vi c :: v) := ⟨⟨trivial, by rw [ai_c_va]⟩, h⟩
theorem ai_RS.pC {n : Nat} {c : Int} {a : List ai_V} {v : List Vv} (h : ai_RS n ρ a v) : ai_RS n ρ (.inl (true, ai_c c) :: a) (vl c :: v) := ⟨⟨trivial, by rw [ai_c_va]⟩, h⟩
theorem ai_RL.si {n i : Nat} {l : ai_L} {a : List (Option ai_V)} {v : LL} (h : ai_RL n ρ a v) (hc : ai_sc n l) : ai_RL n ρ (a.set i (some (.inl (false, l)))) (v.set i (some (vi (ai_va ρ l)))) := ai_RL.set (o := some (.inl (false, l))) ⟨_, rfl, hc, rfl⟩ h
theorem ai_RL.sl {n i : Nat} {l : ai_L} {a : List (Option ai_V)} {v : LL} (h : ai_RL n ρ a v) (hc : ai_sc n l) : ai_RL n ρ (a.set i (some (.inl (true, l)))) (v.set i (some (vl (ai_va ρ l)))) := ai_RL.set (o := some (.inl (true, l))) ⟨_, rfl, hc, rfl⟩ h
theorem ai_RL.sr {n i : Nat} {k : Nat} {a : List (Option ai_V)} {v : LL} (h : ai_RL n ρ a v) : ai_RL n ρ (a.set i (some (.inr (.inl k)))) (v.set i (some (vr k))) := ai_RL.set (o := some (.inr (.inl k))) ⟨_, rfl, rfl⟩ h
theorem ai_RL.sn {n i : Nat} {a : List (Option ai_V)} {v : LL} (h : ai_RL n ρ a v) : ai_RL n ρ (a.set i none) (v.set i none) := ai_RL.set (o := none) (w := none) (fun x q => by cases q) h
/-- the checker goes on behind a step -/
def ai_G (T : ai_T) (w : Nat) (M0 : MM) (ρ : Nat → Int) (n : Nat) (kN : ai_N) (st : List Vv) (L : LL) (M : MM) : Prop := ∃ ρ' S' ast' aL', ai_X n ρ S'.1 ρ' ∧ ai_Ok T w M0 ρ' S' M ∧ ai_RS S'.1 ρ' ast' st ∧ ai_RL S'.1 ρ' aL' L ∧ kN S' ast' aL' = true
/-- a value pushed -/
theorem aN_t {g : Bool} {st : List Vv} {L : LL} {M : MM} (e : g = true) : (some (.inl (g, st, L, M)) : Option Act) = some (.inl (true, st, L, M)) := by rw [e]
def ai_pv (b : Bool) (v : Int) : Vv := match b with
  | true => vl v
  | false => vi v
theorem ai_G.of {n : Nat} {v : Int} {b : Bool} {ast : List ai_V} {aL : List (Option ai_V)} {st : List Vv} {L : LL} {kN : ai_N} (h : ai_R T w M0 M ρ n v (fun S r => kN S (.inl (b, r) :: ast) aL)) (hs : ai_RS n ρ ast st) (hl : ai_RL n ρ aL L) : ai_G T w M0 ρ n kN (ai_pv b v :: st) L M := by
  obtain ⟨ρ', S', l, hX, o, hsc, hv, h⟩ := h
  refine ⟨ρ', S', .inl (b, l) :: ast, aL, hX, o, ⟨⟨hsc, ?_⟩, hs.X hX⟩, hl.X hX, h⟩
  rw [← hv]
  cases b <;> rfl
theorem ai_G.nop {S : ai_S} {ast : List ai_V} {aL : List (Option ai_V)} {st : List Vv} {L : LL} {kN : ai_N} (o : ai_Ok T w M0 ρ S M) (h : kN S ast aL = true) (hs : ai_RS S.1 ρ ast st) (hl : ai_RL S.1 ρ aL L) : ai_G T w M0 ρ S.1 kN st L M := ⟨ρ, S, ast, aL, ai_X.rf _ _, o, hs, hl, h⟩
theorem ai_G.at {S S' : ai_S} {ast : List ai_V} {aL : List (Option ai_V)} {st : List Vv} {L : LL} {kN : ai_N} (e : S'.1 = S.1) (o : ai_Ok T w M0 ρ S' M) (h : kN S' ast aL = true) (hs : ai_RS S.1 ρ ast st) (hl : ai_RL S.1 ρ aL L) : ai_G T w M0 ρ S.1 kN st L M := ⟨ρ, S', ast, aL, by rw [e]; exact ai_X.rf _ _, o, by rw [e]; exact hs, by rw [e]; exact hl, h⟩
set_option maxHeartbeats 2000000 in
theorem ai_op_ok {S : ai_S} {ast : List ai_V} {aL : List (Option ai_V)} {mi : MI} {kN : ai_N} {st : List Vv} {L : LL} (h : ai_op T w S ast aL mi kN = true) (o : ai_Ok T w M0 ρ S M) (hs : ai_RS S.1 ρ ast st) (hl : ai_RL S.1 ρ aL L) : ∃ st' L' M', stp FF (xar sc) YF M L st mi = some (.inl (true, st', L', M')) ∧ ai_G T w M0 ρ S.1 kN st' L' M' := by
  obtain ⟨op, a, b, c, v, tab, sub, idx, pl⟩ := mi
  revert h
  match op with
  | 0 =>
    intro h
    exact ⟨vi v :: st, L, M, rfl, .nop o h hs.pc hl⟩
  | 1 =>
    intro h
    exact ⟨vl v :: st, L, M, rfl, .nop o h hs.pC hl⟩
  | 2 =>
    intro h
    replace h : ai_o2 T w S ast aL a b c v kN = true := h
    unfold ai_o2 at h
    split at h
    · rename_i l he
      have hv := hl.ic he
      refine ⟨vi (ai_va ρ l) :: st, L, M, ?_, .nop o h (hs.pi hv.2) hl⟩
      show (match L[a]? with
        | some (some (.inl x)) => aN true (vi x :: st) L M
        | _ => none) = _
      rw [hv.1]
    · cases h
  | 3 =>
    intro h
    replace h : ai_o3 T w S ast aL a b c v kN = true := h
    unfold ai_o3 at h
    split at h
    · rename_i l he
      have hv := hl.lc he
      refine ⟨vl (ai_va ρ l) :: st, L, M, ?_, .nop o h (hs.pl hv.2) hl⟩
      show (match L[a]? with
        | some (some (.inr (.inl x))) => aN true (vl x :: st) L M
        | _ => none) = _
      rw [hv.1]
    · cases h
  | 4 =>
    intro h
    replace h : ai_o4 T w S ast aL a b c v kN = true := h
    unfold ai_o4 at h
    split at h
    · rename_i k he
      refine ⟨vr k :: st, L, M, ?_, .nop o h hs.pr hl⟩
      show (match L[a]? with
        | some (some (.inr (.inr (.inl k)))) => aN true (vr k :: st) L M
        | _ => none) = _
      rw [hl.rc he]
    · cases h
  | 5 =>
    intro h
    replace h : ai_o5 T w S ast aL a b c v kN = true := h
    unfold ai_o5 at h
    split at h
    · rename_i l st0
      obtain ⟨st', rfl, hc, hs'⟩ := hs.i
      split at h
      · rename_i hk
        rw [Bool.and_eq_true] at hk
        rw [ai_fo_eq] at h
        refine ⟨st', L.set a (some (vi (ai_va ρ l))), M, ?_, .nop o h hs' (hl.si hc)⟩
        exact aN_t (by rw [ai_okA_ok hl hk.1, ← hl.len, hk.2]; rfl)
      · cases h
    · cases h
  | 6 =>
    intro h
    replace h : ai_o6 T w S ast aL a b c v kN = true := h
    unfold ai_o6 at h
    split at h
    · rename_i l st0
      obtain ⟨st', rfl, hc, hs'⟩ := hs.l
      split at h
      · rename_i hk
        rw [Bool.and_eq_true] at hk
        rw [ai_fo_eq] at h
        refine ⟨st', (L.set a (some (vl (ai_va ρ l)))).set (a + 1) none, M, ?_, .nop o h hs' (hl.sl hc).sn⟩
        exact aN_t (by rw [ai_okA_ok hl hk.1, ← hl.len, hk.2]; rfl)
      · cases h
    · cases h
  | 7 =>
    intro h
    replace h : ai_o7 T w S ast aL a b c v kN = true := h
    unfold ai_o7 at h
    split at h
    · rename_i k st0
      obtain ⟨st', rfl, hs'⟩ := hs.r
      split at h
      · rename_i hk
        rw [Bool.and_eq_true] at hk
        rw [ai_fo_eq] at h
        refine ⟨st', L.set a (some (vr k)), M, ?_, .nop o h hs' hl.sr⟩
        exact aN_t (by rw [ai_okA_ok hl hk.1, ← hl.len, hk.2]; rfl)
      · cases h
    · cases h
  | 8 =>
    intro h
    replace h : ai_o8 T w S ast aL a b c v kN = true := h
    unfold ai_o8 at h
    split at h
    · rename_i l he
      have hv := hl.ic he
      split at h
      · rename_i hk
        obtain ⟨ρ', S', r, hX, o', hsc, hv', h⟩ := ai_w_ok h o (ai_ad1_sc hv.2) rfl
        dsimp only at h
        rw [ai_fo_eq] at h
        refine ⟨st, L.set a (some (vi (w32 (ai_va ρ (ai_ad1 l v))))), M, ?_, ρ', S', ast, aL.set a (some (.inl (false, r))), hX, o', hs.X hX, by rw [← hv']; exact (hl.X hX).si hsc, h⟩
        show (match L[a]? with
          | some (some (.inl x)) => aN (okSt L a) st (L.set a (some (vi (w32 (x + v))))) M
          | _ => none) = _
        rw [hv.1]
        dsimp only
        rw [ai_okA_ok hl hk, ai_ad1_va]
      · cases h
    · cases h
  | 9 =>
    intro h
    replace h : ai_o9 T w S ast aL a b c v kN = true := h
    unfold ai_o9 at h
    split at h
    · rename_i y x st0
      obtain ⟨st1, rfl, hy, hs1⟩ := hs.i
      obtain ⟨st2, rfl, hx, hs2⟩ := hs1.i
      obtain ⟨h1, h2⟩ := ai_bin_ok h o hx hy
      refine ⟨_, _, _, ?_, .of (b := false) h2 hs2 hl⟩
      exact aN_t h1
    · cases h
  | 10 =>
    intro h
    cases a with
    | zero =>
      replace h : ai_o10a T w S ast aL 0 b c v kN = true := h
      unfold ai_o10a at h
      split at h
      · rename_i x st0
        obtain ⟨st1, rfl, hx, hs1⟩ := hs.i
        exact ⟨vi (w32 (-ai_va ρ x)) :: st1, L, M, rfl, .of (b := false) (ai_w_ok h o (ai_neg_sc hx) (ai_neg_va _ _)) hs1 hl⟩
      · cases h
    | succ a =>
      replace h : ai_o10b T w S ast aL (a + 1) b c v kN = true := h
      unfold ai_o10b at h
      split at h
      · rename_i x st0
        obtain ⟨st1, rfl, hx, hs1⟩ := hs.i
        refine ⟨vi (w8 (ai_va ρ x)) :: st1, L, M, rfl, ?_⟩
        split at h
        · rename_i hi
          have hi := ai_in_ok hi o
          rw [ew8 hi.1 hi.2]
          exact .nop o h hs hl
        · exact .of (b := false) (.fr h o _ (fw8 _)) hs1 hl
      · cases h
  | 11 =>
    intro h
    replace h : ai_o11 T w S ast aL a b c v kN = true := h
    unfold ai_o11 at h
    split at h
    · rename_i y x st0
      obtain ⟨st1, rfl, hy, hs1⟩ := hs.l
      obtain ⟨st2, rfl, hx, hs2⟩ := hs1.l
      obtain ⟨h1, h2⟩ := ai_lbn_ok h o hx hy
      refine ⟨_, _, _, ?_, .of (b := true) h2 hs2 hl⟩
      exact aN_t h1
    · cases h
  | 12 =>
    intro h
    cases a with
    | zero =>
      replace h : ai_o12a T w S ast aL 0 b c v kN = true := h
      unfold ai_o12a at h
      split at h
      · obtain ⟨st1, rfl, hx, hs1⟩ := hs.i
        exact ⟨_, L, M, rfl, .nop o h (hs1.pl hx) hl⟩
      · cases h
    | succ a =>
      replace h : ai_o12b T w S ast aL (a + 1) b c v kN = true := h
      unfold ai_o12b at h
      split at h
      · rename_i x st0
        obtain ⟨st1, rfl, hx, hs1⟩ := hs.l
        exact ⟨vi (w32 (ai_va ρ x)) :: st1, L, M, rfl, .of (b := false) (ai_w_ok h o hx rfl) hs1 hl⟩
      · cases h
  | 13 =>
    intro h
    replace h : ai_o13 T w S ast aL a b c v kN = true := h
    unfold ai_o13 at h
    split at h
    · rename_i y x st0
      obtain ⟨st1, rfl, hy, hs1⟩ := hs.i
      obtain ⟨st2, rfl, hx, hs2⟩ := hs1.l
      have h : ai_fr S (-9223372036854775808) 9223372036854775807 (fun S r => kN S (.inl (true, r) :: st0) aL) = true := h
      cases a with
      | zero => exact ⟨vl (bShlL (ai_va ρ x) (ai_va ρ y)) :: st2, L, M, rfl, .of (b := true) (.fr h o _ (fbits64 _)) hs2 hl⟩
      | succ a => exact ⟨vl (bShrL (ai_va ρ x) (ai_va ρ y)) :: st2, L, M, rfl, .of (b := true) (.fr h o _ (fbits64 _)) hs2 hl⟩
    · cases h
  | 14 =>
    intro h
    replace h : ai_o14 T w S ast aL a b c v kN = true := h
    unfold ai_o14 at h
    split at h
    · rename_i y x st0
      obtain ⟨st1, rfl, hy, hs1⟩ := hs.l
      obtain ⟨st2, rfl, hx, hs2⟩ := hs1.l
      rw [Bool.and_eq_true, Bool.and_eq_true] at h
      refine ⟨_, _, _, rfl, ?_⟩
      rcases flcm3 (ai_va ρ x) (ai_va ρ y) with ⟨e, hh⟩ | ⟨e, hh⟩ | ⟨e, hh⟩
      · obtain ⟨S', e1, o1, h1⟩ := ai_as_ok h.1 o (ai_ad1_sc (ai_sub_sc hy hx)) (by rw [ai_ad1_va, ai_sub_va]; omega)
        rw [e]
        exact .at e1 o1 h1 ⟨⟨trivial, by rw [ai_c_va]⟩, hs2⟩ hl
      · obtain ⟨S', e1, o1, h1⟩ := ai_eq_ok h.2.1 o (ai_sub_sc hx hy) (by rw [ai_sub_va]; omega)
        rw [e]
        exact .at e1 o1 h1 ⟨⟨trivial, by rw [ai_c_va]⟩, hs2⟩ hl
      · obtain ⟨S', e1, o1, h1⟩ := ai_as_ok h.2.2 o (ai_ad1_sc (ai_sub_sc hx hy)) (by rw [ai_ad1_va, ai_sub_va]; omega)
        rw [e]
        exact .at e1 o1 h1 ⟨⟨trivial, by rw [ai_c_va]⟩, hs2⟩ hl
    · cases h
  | 19 =>
    intro h
    replace h : ai_o19 T w S ast aL a b c v kN = true := h
    unfold ai_o19 at h
    split at h
    · rename_i k st0
      obtain ⟨st1, rfl, hs1⟩ := hs.r
      split at h
      · rename_i hk
        have h1 := ai_ld_ok h o (ai_c_sc _ _) (by rw [ai_c_va]; omega)
        rw [ai_c_va, Int.toNat_natCast] at h1
        refine ⟨_, _, _, ?_, .of (b := false) h1 hs1 hl⟩
        exact aN_t hk
      · cases h
    · cases h
  | 20 =>
    intro h
    replace h : ai_o20 T w S ast aL a b c v kN = true := h
    unfold ai_o20 at h
    split at h
    · rename_i k st0
      obtain ⟨st1, rfl, hs1⟩ := hs.r
      split at h
      · rename_i hk
        split at h
        · rename_i t ht
          refine ⟨vr t :: st1, L, M, ?_, .nop o h hs1.pr hl⟩
          show (some (.inl ((kd YF k == 10 + a) && rfK (FF k b) (M k b), vr (rfO (FF k b) (M k b)) :: st1, L, M)) : Option Act) = _
          rw [hk, ht]
          rfl
        · rename_i ht
          have h1 := ai_ld_ok h o (ai_c_sc _ _) (by rw [ai_c_va]; omega)
          rw [ai_c_va, Int.toNat_natCast] at h1
          obtain ⟨ρ', S', l, hX, o', hsc, hv, h⟩ := h1
          dsimp only at h
          split at h
          · rename_i t he
            unfold ai_sr at he
            split at he
            · rename_i p hp
              have hp := ai_bd_ok hp o'
              split at he
              · rename_i hc
                cases he
                rw [Bool.and_eq_true, decide_eq_true_eq, decide_eq_true_eq] at hc
                have e : M k b = p.1 := by omega
                refine ⟨vr (p.1.toNat - 1) :: st1, L, M, ?_, ρ', S', _, _, hX, o', (hs1.X hX).pr, hl.X hX, h⟩
                show (some (.inl ((kd YF k == 10 + a) && rfK (FF k b) (M k b), vr (rfO (FF k b) (M k b)) :: st1, L, M)) : Option Act) = _
                rw [hk, ht, e]
                show (some (.inl (true && decide (0 < p.1), vr (p.1.toNat - 1) :: st1, L, M)) : Option Act) = _
                rw [decide_eq_true hc.2]
                rfl
              · cases he
            · cases he
          · cases h
      · cases h
    · cases h
  | 21 =>
    intro h
    replace h : ai_o21 T w S ast aL a b c v kN = true := h
    unfold ai_o21 at h
    split at h
    · rename_i x k st0
      obtain ⟨st1, rfl, hx, hs1⟩ := hs.i
      obtain ⟨st2, rfl, hs2⟩ := hs1.r
      split at h
      · rename_i hk
        rw [Bool.and_eq_true] at hk
        obtain ⟨S', e1, o1, h1⟩ := ai_st_ok h o (ai_c_sc _ _) (by rw [ai_c_va]; omega) hx
        rw [ai_c_va, Int.toNat_natCast] at o1
        refine ⟨_, _, _, ?_, .at e1 o1 h1 hs2 hl⟩
        exact aN_t (by rw [hk.1, ai_is1_ok hk.2 o]; rfl)
      · cases h
    · cases h
  | 25 =>
    intro h
    replace h : ai_o25 T w S ast aL a b c v kN = true := h
    unfold ai_o25 at h
    split at h
    · rename_i i k st0
      obtain ⟨st1, rfl, hi, hs1⟩ := hs.i
      obtain ⟨st2, rfl, hs2⟩ := hs1.r
      split at h
      · rename_i hk
        rw [Bool.and_eq_true] at hk
        have hb := ai_ix_ok hk.2 o
        split at h
        · refine ⟨_, _, _, ?_, .of (b := true) (ai_ld_ok h o hi hb.1) hs2 hl⟩
          exact aN_t (by rw [hk.1, decide_eq_true hb.1, decide_eq_true hb.2]; rfl)
        · split at h
          · rename_i p hp
            have hp := ai_bd_ok hp o
            split at h
            · rename_i h0
              have h0 := of_decide_eq_true h0
              obtain ⟨S', e1, o1, h1⟩ := ai_ea_ok o hi _ _ h hp.1 (by omega)
              split at h1
              · rename_i t ht
                refine ⟨vr t :: st2, L, M, ?_, .at e1 o1 h1 hs2.pr hl⟩
                show (some (.inl ((kd YF k == 4) && (decide (0 ≤ ai_va ρ i) && (decide (ai_va ρ i < ln YF k) && rfK (FF k (ai_va ρ i).toNat) (M k (ai_va ρ i).toNat))), vr (rfO (FF k (ai_va ρ i).toNat) (M k (ai_va ρ i).toNat)) :: st2, L, M)) : Option Act) = _
                rw [hk.1, decide_eq_true hb.1, decide_eq_true hb.2, ht]
                rfl
              · cases h1
            · cases h
          · cases h
        · exact ⟨vi (M k (ai_va ρ i).toNat) :: st2, L, M, aN_t (by rw [hk.1, decide_eq_true hb.1, decide_eq_true hb.2]; rfl), .of (b := false) (ai_ld_ok h o hi hb.1) hs2 hl⟩
        · exact ⟨vi (M k (ai_va ρ i).toNat) :: st2, L, M, aN_t (by rw [hk.1, decide_eq_true hb.1, decide_eq_true hb.2]; rfl), .of (b := false) (ai_ld_ok h o hi hb.1) hs2 hl⟩
        · exact ⟨vi (M k (ai_va ρ i).toNat) :: st2, L, M, aN_t (by rw [hk.1, decide_eq_true hb.1, decide_eq_true hb.2]; rfl), .of (b := false) (ai_ld_ok h o hi hb.1) hs2 hl⟩
        · cases h
      · cases h
    · rename_i i k st0
      obtain ⟨st1, rfl, hi, hs1⟩ := hs.i
      obtain ⟨st2, rfl, hs2⟩ := hs1.x
      split at h
      · split at h
        · rename_i hk
          rw [Bool.and_eq_true] at hk
          have hb := ai_ix_ok hk.2 o
          have hk2 : k < 2 := by
            have := hk.1
            rw [Nat.blt_eq] at this
            exact this
          have hx := ai_xar (sc := sc) k hk2 (ai_va ρ i).toNat (by omega)
          refine ⟨_, _, _, ?_, .of (b := false) (.fr h o ((xar sc k).getD (ai_va ρ i).toNat 0) ⟨hx.1, hx.2.1⟩) hs2 hl⟩
          exact aN_t (by rw [hx.2.2, decide_eq_true hb.1]; exact decide_eq_true hb.2)
        · cases h
      · cases h
    · cases h
  | 26 =>
    intro h
    replace h : ai_o26 T w S ast aL a b c v kN = true := h
    unfold ai_o26 at h
    split at h
    · split at h
      · rename_i z i k st0
        obtain ⟨st1, rfl, hz, hs1⟩ := hs.l
        obtain ⟨st2, rfl, hi, hs2⟩ := hs1.i
        obtain ⟨st3, rfl, hs3⟩ := hs2.r
        split at h
        · rename_i hk
          rw [Bool.and_eq_true] at hk
          have hb := ai_ix_ok hk.2 o
          obtain ⟨S', e1, o1, h1⟩ := ai_st_ok h o hi hb.1 hz
          refine ⟨_, _, _, ?_, .at e1 o1 h1 hs3 hl⟩
          exact aN_t (by rw [hk.1, decide_eq_true hb.1, decide_eq_true hb.2]; rfl)
        · cases h
      · cases h
    · split at h
      · rename_i z i k st0
        obtain ⟨st1, rfl, hz, hs1⟩ := hs.i
        obtain ⟨st2, rfl, hi, hs2⟩ := hs1.i
        obtain ⟨st3, rfl, hs3⟩ := hs2.r
        split at h
        · rename_i hk
          rw [Bool.and_eq_true] at hk
          have hb := ai_ix_ok hk.2 o
          obtain ⟨S', e1, o1, h1⟩ := ai_st_ok h o hi hb.1 hz
          refine ⟨_, _, _, ?_, .at e1 o1 h1 hs3 hl⟩
          exact aN_t (by rw [hk.1, decide_eq_true hb.1, decide_eq_true hb.2]; rfl)
        · cases h
      · cases h
    · split at h
      · rename_i z i k st0
        obtain ⟨st1, rfl, hz, hs1⟩ := hs.i
        obtain ⟨st2, rfl, hi, hs2⟩ := hs1.i
        obtain ⟨st3, rfl, hs3⟩ := hs2.r
        split at h
        · rename_i hk
          rw [Bool.and_eq_true] at hk
          have hb := ai_ix_ok hk.2 o
          split at h
          · rename_i hn
            have hn := ai_in_ok hn o
            obtain ⟨S', e1, o1, h1⟩ := ai_st_ok h o hi hb.1 hz
            refine ⟨_, _, _, ?_, .at e1 o1 h1 hs3 hl⟩
            show (some (.inl ((kd YF k == 1) && (decide (0 ≤ ai_va ρ i) && decide (ai_va ρ i < ln YF k)), st3, L, stM M k (ai_va ρ i).toNat (w8 (ai_va ρ z)))) : Option Act) = _
            rw [hk.1, decide_eq_true hb.1, decide_eq_true hb.2, ew8 hn.1 hn.2]
            rfl
          · obtain ⟨ρ', S', l, hX, o', hsc, hv, h⟩ := ai_fr_ok h o (w8 (ai_va ρ z)) (fw8 _).1 (fw8 _).2
            obtain ⟨S2, e1, o1, h1⟩ := ai_st_ok h o' (hX.sc hi) (by rw [hX.va hi]; exact hb.1) hsc
            rw [hX.va hi, hv] at o1
            refine ⟨_, _, _, ?_, ρ', S2, st0, aL, by rw [e1]; exact hX, o1, by rw [e1]; exact hs3.X hX, by rw [e1]; exact hl.X hX, h1⟩
            exact aN_t (by rw [hk.1, decide_eq_true hb.1, decide_eq_true hb.2]; rfl)
        · cases h
      · cases h
    · split at h
      · rename_i z i k st0
        obtain ⟨st1, rfl, hz, hs1⟩ := hs.i
        obtain ⟨st2, rfl, hi, hs2⟩ := hs1.i
        obtain ⟨st3, rfl, hs3⟩ := hs2.r
        split at h
        · rename_i hk
          rw [Bool.and_eq_true, Bool.and_eq_true] at hk
          have hb := ai_ix_ok hk.2.1 o
          have hn := ai_in_ok hk.2.2 o
          obtain ⟨S', e1, o1, h1⟩ := ai_st_ok h o hi hb.1 hz
          refine ⟨_, _, _, ?_, .at e1 o1 h1 hs3 hl⟩
          have hq : (decide (ai_va ρ z = 0) || decide (ai_va ρ z = 1)) = true := by
            rw [Bool.or_eq_true, decide_eq_true_eq, decide_eq_true_eq]
            omega
          exact aN_t (by rw [hk.1, decide_eq_true hb.1, decide_eq_true hb.2]; exact hq)
        · cases h
      · cases h
    · cases h
  | 27 =>
    intro h
    replace h : ai_o27 T w S ast aL a b c v kN = true := h
    unfold ai_o27 at h
    split at h
    · exact ⟨_, _, _, rfl, .nop o h ⟨rfl, hs⟩ hl⟩
    · exact ⟨_, _, _, rfl, .nop o h ⟨rfl, hs⟩ hl⟩
    · cases h
  | 32 =>
    intro h
    replace h : ai_o32 T w S ast aL a b c v kN = true := h
    unfold ai_o32 at h
    split at h
    · obtain ⟨st1, rfl, hs1⟩ := hs.r
      exact ⟨_, _, _, rfl, .nop o h ⟨rfl, rfl, hs1⟩ hl⟩
    · cases h
  | 33 =>
    intro h
    replace h : ai_o33 T w S ast aL a b c v kN = true := h
    unfold ai_o33 at h
    split at h
    · obtain ⟨st1, rfl, hx, hs1⟩ := hs.i
      obtain ⟨st2, rfl, hs2⟩ := hs1.r
      exact ⟨_, _, _, rfl, .nop o h ⟨⟨hx, rfl⟩, rfl, ⟨hx, rfl⟩, rfl, hs2⟩ hl⟩
    · cases h
  | 34 =>
    intro h
    cases a with
    | zero =>
      replace h : ai_o34a T w S ast aL 0 b c v kN = true := h
      unfold ai_o34a at h
      split at h
      · obtain ⟨st1, rfl, hx, hs1⟩ := hs.i
        exact ⟨_, _, _, rfl, .nop o h hs1 hl⟩
      · cases h
    | succ a =>
      replace h : ai_o34b T w S ast aL (a + 1) b c v kN = true := h
      unfold ai_o34b at h
      split at h
      · obtain ⟨st1, rfl, hx, hs1⟩ := hs.l
        exact ⟨st1, L, M, rfl, .nop o h hs1 hl⟩
      · cases h
  | 39 =>
    intro h
    cases a with
    | zero =>
      replace h : ai_o39a T w S ast aL 0 b c v kN = true := h
      unfold ai_o39a at h
      split at h
      · obtain ⟨st1, rfl, hx, hs1⟩ := hs.i
        split at h
        · rename_i hk
          refine ⟨_, _, _, ?_, .of (b := false) (ai_ab_ok h o hx) hs1 hl⟩
          show (match Nat.ble (catV st1) 8 with
            | true => aN true (vi (mAbs _) :: st1) L M
            | false => none) = _
          rw [ai_cat_ok hs1, hk]
          rfl
        · cases h
      · cases h
    | succ a =>
      replace h : ai_o39b T w S ast aL (a + 1) b c v kN = true := h
      unfold ai_o39b at h
      split at h
      · rename_i y x st0
        obtain ⟨st1, rfl, hy, hs1⟩ := hs.i
        obtain ⟨st2, rfl, hx, hs2⟩ := hs1.i
        split at h
        · rename_i hk
          refine ⟨_, _, _, ?_, .of (b := false) (ai_mm_ok h o) hs2 hl⟩
          show (match Nat.ble (catV st2) 8 with
            | true => aN true (vi (mMM (a + 1) _ _) :: st2) L M
            | false => none) = _
          rw [ai_cat_ok hs2, hk]
          rfl
        · cases h
      · cases h
  | 15 => exact fun h => by cases h
  | 16 => exact fun h => by cases h
  | 17 => exact fun h => by cases h
  | 18 => exact fun h => by cases h
  | 22 => exact fun h => by cases h
  | 23 => exact fun h => by cases h
  | 24 => exact fun h => by cases h
  | 28 => exact fun h => by cases h
  | 29 => exact fun h => by cases h
  | 30 => exact fun h => by cases h
  | 31 => exact fun h => by cases h
  | 35 => exact fun h => by cases h
  | 36 => exact fun h => by cases h
  | 37 => exact fun h => by cases h
  | 38 => exact fun h => by cases h
  | n + 40 => exact fun h => by cases h
end AXOP
