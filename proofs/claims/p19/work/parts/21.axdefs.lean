/-! PART 21: a checker of our own for methods of the small machine: values are linear forms over symbols, states say in which ranges the symbols lie, what stands in cells, which forms are not negative, which are not 0 -/
abbrev ai_L : Type := List (Int × Nat) × Int
abbrev ai_V : Type := (Bool × ai_L) ⊕ (Nat ⊕ Nat)
abbrev ai_F : Type := Nat × ai_L × ai_L
abbrev ai_I : Type := Nat × Int × Int
/-- next symbol, ranges, cells, forms not negative, forms not 0 -/
abbrev ai_S : Type := Nat × List ai_I × List ai_F × List ai_L × List ai_L
abbrev ai_T : Type := List (Bool × List (Int × Int))
abbrev ai_D : Type := Nat × Nat × ai_L
abbrev ai_A : Type := List ai_D × List (Nat × ai_L) × List ai_I × List ai_L × List ai_L
abbrev ai_Q : Type := List (Int × Int) × List (Nat × ai_L) × List ai_L × List ai_L
/-- method, entry, symbols at entry, what it may write, kind of its answer, ends, height -/
abbrev ai_P : Type := Nat × ai_A × Nat × Nat × Nat × List ai_Q × Nat
/-! forcing: nothing but the order in which the kernel reckons -/
def ai_fn (n : Nat) (k : Nat → Bool) : Bool := match n with
  | 0 => k 0
  | m + 1 => k (Nat.succ m)
def ai_fi (x : Int) (k : Int → Bool) : Bool := match x with
  | .ofNat n => ai_fn n fun n => k (.ofNat n)
  | .negSucc n => ai_fn n fun n => k (.negSucc n)
def ai_fo {α : Type} (l : List α) (k : List α → Bool) : Bool := match l with
  | [] => k []
  | a :: r => ai_fo r fun r => k (a :: r)
def ai_ft (l : List (Int × Nat)) (k : List (Int × Nat) → Bool) : Bool := match l with
  | [] => k []
  | (a, s) :: r => ai_fi a fun a => ai_ft r fun r => k ((a, s) :: r)
def ai_fl (x : ai_L) (k : ai_L → Bool) : Bool := match x with
  | (l, c) => ai_ft l fun l => ai_fi c fun c => k (l, c)
theorem ai_fn_eq (n : Nat) (k : Nat → Bool) : ai_fn n k = k n := by cases n <;> rfl
theorem ai_fi_eq (x : Int) (k : Int → Bool) : ai_fi x k = k x := by cases x <;> (unfold ai_fi; dsimp only; rw [ai_fn_eq])
theorem ai_fo_eq {α : Type} (l : List α) (k : List α → Bool) : ai_fo l k = k l := by
  induction l generalizing k with
  | nil => rfl
  | cons a r ih => unfold ai_fo; rw [ih]
theorem ai_ft_eq (l : List (Int × Nat)) (k : List (Int × Nat) → Bool) : ai_ft l k = k l := by
  induction l generalizing k with
  | nil => rfl
  | cons p r ih => obtain ⟨a, s⟩ := p; unfold ai_ft; rw [ai_fi_eq, ih]
theorem ai_fl_eq (x : ai_L) (k : ai_L → Bool) : ai_fl x k = k x := by
  obtain ⟨l, c⟩ := x
  unfold ai_fl
  dsimp only
  rw [ai_ft_eq, ai_fi_eq]
/-! linear forms -/
def ai_c (c : Int) : ai_L := ([], c)
def ai_s (s : Nat) : ai_L := ([(1, s)], 0)
def ai_ins (a : Int) (s : Nat) (l : List (Int × Nat)) : List (Int × Nat) := match l with
  | [] => [(a, s)]
  | p :: r => match Nat.beq s p.2 with
    | true => match decide (a + p.1 = 0) with
      | true => r
      | false => (a + p.1, s) :: r
    | false => match Nat.blt s p.2 with
      | true => (a, s) :: p :: r
      | false => p :: ai_ins a s r
def ai_adT (x y : List (Int × Nat)) : List (Int × Nat) := match x with
  | [] => y
  | p :: r => ai_ins p.1 p.2 (ai_adT r y)
def ai_add (x y : ai_L) : ai_L := (ai_adT x.1 y.1, x.2 + y.2)
def ai_muT (c : Int) (x : List (Int × Nat)) : List (Int × Nat) := match x with
  | [] => []
  | p :: r => (c * p.1, p.2) :: ai_muT c r
def ai_mul (c : Int) (x : ai_L) : ai_L := match decide (c = 0) with
  | true => ([], 0)
  | false => (ai_muT c x.1, c * x.2)
def ai_neg (x : ai_L) : ai_L := (ai_muT (-1) x.1, -x.2)
def ai_sub (x y : ai_L) : ai_L := ai_add (ai_neg y) x
def ai_ad1 (x : ai_L) (c : Int) : ai_L := (x.1, x.2 + c)
def ai_eqT (x y : List (Int × Nat)) : Bool := match x, y with
  | [], [] => true
  | p :: r, q :: t => Nat.beq p.2 q.2 && (decide (p.1 = q.1) && ai_eqT r t)
  | _, _ => false
def ai_eqL (x y : ai_L) : Bool := decide (x.2 = y.2) && ai_eqT x.1 y.1
/-! their values -/
def ai_vaT (ρ : Nat → Int) (l : List (Int × Nat)) : Int := match l with
  | [] => 0
  | p :: r => p.1 * ρ p.2 + ai_vaT ρ r
def ai_va (ρ : Nat → Int) (x : ai_L) : Int := ai_vaT ρ x.1 + x.2
def ai_scT (n : Nat) (l : List (Int × Nat)) : Prop := match l with
  | [] => True
  | p :: r => p.2 < n ∧ ai_scT n r
def ai_sc (n : Nat) (x : ai_L) : Prop := ai_scT n x.1
theorem ai_ins_va (ρ : Nat → Int) (a : Int) (s : Nat) (l : List (Int × Nat)) : ai_vaT ρ (ai_ins a s l) = a * ρ s + ai_vaT ρ l := by
  induction l with
  | nil => rfl
  | cons p r ih =>
    unfold ai_ins
    split
    · rename_i h
      have hs := Nat.eq_of_beq_eq_true h
      subst hs
      split
      · rename_i h2
        have h3 := of_decide_eq_true h2
        have h4 : a * ρ p.2 + p.1 * ρ p.2 = 0 := by rw [← Int.add_mul, h3, Int.zero_mul]
        show ai_vaT ρ r = a * ρ p.2 + (p.1 * ρ p.2 + ai_vaT ρ r)
        omega
      · show (a + p.1) * ρ p.2 + ai_vaT ρ r = a * ρ p.2 + (p.1 * ρ p.2 + ai_vaT ρ r)
        rw [Int.add_mul]
        omega
    · split
      · rfl
      · show p.1 * ρ p.2 + ai_vaT ρ (ai_ins a s r) = a * ρ s + (p.1 * ρ p.2 + ai_vaT ρ r)
        rw [ih]
        omega
theorem ai_ins_sc {n : Nat} {a : Int} {s : Nat} {l : List (Int × Nat)} (hs : s < n) (hl : ai_scT n l) : ai_scT n (ai_ins a s l) := by
  induction l with
  | nil => exact ⟨hs, trivial⟩
  | cons p r ih =>
    unfold ai_ins
    split
    · split
      · exact hl.2
      · exact ⟨hs, hl.2⟩
    · split
      · exact ⟨hs, hl⟩
      · exact ⟨hl.1, ih hl.2⟩
theorem ai_adT_va (ρ : Nat → Int) (x y : List (Int × Nat)) : ai_vaT ρ (ai_adT x y) = ai_vaT ρ x + ai_vaT ρ y := by
  induction x with
  | nil => show ai_vaT ρ y = 0 + ai_vaT ρ y; omega
  | cons p r ih =>
    show ai_vaT ρ (ai_ins p.1 p.2 (ai_adT r y)) = p.1 * ρ p.2 + ai_vaT ρ r + ai_vaT ρ y
    rw [ai_ins_va, ih]
    omega
theorem ai_adT_sc {n : Nat} {x y : List (Int × Nat)} (hx : ai_scT n x) (hy : ai_scT n y) : ai_scT n (ai_adT x y) := by
  induction x with
  | nil => exact hy
  | cons p r ih => exact ai_ins_sc hx.1 (ih hx.2)
theorem ai_add_va (ρ : Nat → Int) (x y : ai_L) : ai_va ρ (ai_add x y) = ai_va ρ x + ai_va ρ y := by
  show ai_vaT ρ (ai_adT x.1 y.1) + (x.2 + y.2) = ai_vaT ρ x.1 + x.2 + (ai_vaT ρ y.1 + y.2)
  rw [ai_adT_va]
  omega
theorem ai_add_sc {n : Nat} {x y : ai_L} (hx : ai_sc n x) (hy : ai_sc n y) : ai_sc n (ai_add x y) := ai_adT_sc hx hy
theorem ai_muT_va (ρ : Nat → Int) (c : Int) (x : List (Int × Nat)) : ai_vaT ρ (ai_muT c x) = c * ai_vaT ρ x := by
  induction x with
  | nil => exact (Int.mul_zero c).symm
  | cons p r ih =>
    show c * p.1 * ρ p.2 + ai_vaT ρ (ai_muT c r) = c * (p.1 * ρ p.2 + ai_vaT ρ r)
    rw [ih, Int.mul_add, Int.mul_assoc]
theorem ai_muT_sc {n : Nat} {c : Int} {x : List (Int × Nat)} (hx : ai_scT n x) : ai_scT n (ai_muT c x) := by
  induction x with
  | nil => trivial
  | cons p r ih => exact ⟨hx.1, ih hx.2⟩
theorem ai_mul_va (ρ : Nat → Int) (c : Int) (x : ai_L) : ai_va ρ (ai_mul c x) = c * ai_va ρ x := by
  unfold ai_mul
  split
  · rename_i h
    rw [of_decide_eq_true h, Int.zero_mul]
    rfl
  · show ai_vaT ρ (ai_muT c x.1) + c * x.2 = c * (ai_vaT ρ x.1 + x.2)
    rw [ai_muT_va, Int.mul_add]
theorem ai_mul_sc {n : Nat} {c : Int} {x : ai_L} (hx : ai_sc n x) : ai_sc n (ai_mul c x) := by
  unfold ai_mul
  split
  · trivial
  · exact ai_muT_sc hx
theorem ai_neg_va (ρ : Nat → Int) (x : ai_L) : ai_va ρ (ai_neg x) = -ai_va ρ x := by
  show ai_vaT ρ (ai_muT (-1) x.1) + -x.2 = -(ai_vaT ρ x.1 + x.2)
  rw [ai_muT_va]
  omega
theorem ai_neg_sc {n : Nat} {x : ai_L} (hx : ai_sc n x) : ai_sc n (ai_neg x) := ai_muT_sc (x := x.1) hx
theorem ai_sub_va (ρ : Nat → Int) (x y : ai_L) : ai_va ρ (ai_sub x y) = ai_va ρ x - ai_va ρ y := by
  unfold ai_sub
  rw [ai_add_va, ai_neg_va]
  omega
theorem ai_sub_sc {n : Nat} {x y : ai_L} (hx : ai_sc n x) (hy : ai_sc n y) : ai_sc n (ai_sub x y) := ai_add_sc (ai_neg_sc hy) hx
theorem ai_ad1_va (ρ : Nat → Int) (x : ai_L) (c : Int) : ai_va ρ (ai_ad1 x c) = ai_va ρ x + c := by
  show ai_vaT ρ x.1 + (x.2 + c) = ai_vaT ρ x.1 + x.2 + c
  omega
theorem ai_ad1_sc {n : Nat} {x : ai_L} {c : Int} (hx : ai_sc n x) : ai_sc n (ai_ad1 x c) := hx
theorem ai_c_va (ρ : Nat → Int) (c : Int) : ai_va ρ (ai_c c) = c := Int.zero_add c
theorem ai_c_sc (n : Nat) (c : Int) : ai_sc n (ai_c c) := trivial
theorem ai_s_va (ρ : Nat → Int) (s : Nat) : ai_va ρ (ai_s s) = ρ s := by
  show 1 * ρ s + 0 + 0 = ρ s
  omega
theorem ai_s_sc {n s : Nat} (h : s < n) : ai_sc n (ai_s s) := ⟨h, trivial⟩
theorem ai_eqT_eq {x y : List (Int × Nat)} (h : ai_eqT x y = true) : x = y := by
  induction x generalizing y with
  | nil =>
    cases y with
    | nil => rfl
    | cons q t => cases h
  | cons p r ih =>
    cases y with
    | nil => cases h
    | cons q t =>
      have h1 : (Nat.beq p.2 q.2 && (decide (p.1 = q.1) && ai_eqT r t)) = true := h
      rw [Bool.and_eq_true, Bool.and_eq_true] at h1
      have e1 := Nat.eq_of_beq_eq_true h1.1
      have e2 := of_decide_eq_true h1.2.1
      rw [ih h1.2.2]
      congr 1
      exact Prod.ext e2 e1
theorem ai_eqL_eq {x y : ai_L} (h : ai_eqL x y = true) : x = y := by
  unfold ai_eqL at h
  rw [Bool.and_eq_true] at h
  exact Prod.ext (ai_eqT_eq h.2) (of_decide_eq_true h.1)
/-- an older state's symbols are as they were -/
def ai_X (n : Nat) (ρ : Nat → Int) (n' : Nat) (ρ' : Nat → Int) : Prop := n ≤ n' ∧ ∀ s, s < n → ρ' s = ρ s
theorem ai_X.rf (n : Nat) (ρ : Nat → Int) : ai_X n ρ n ρ := ⟨Nat.le_refl _, fun _ _ => rfl⟩
theorem ai_X.tr {n n1 n2 : Nat} {ρ ρ1 ρ2 : Nat → Int} (h : ai_X n ρ n1 ρ1) (g : ai_X n1 ρ1 n2 ρ2) : ai_X n ρ n2 ρ2 := ⟨Nat.le_trans h.1 g.1, fun s hs => (g.2 s (Nat.lt_of_lt_of_le hs h.1)).trans (h.2 s hs)⟩
theorem ai_vaT_X {n : Nat} {ρ ρ' : Nat → Int} (h : ∀ s, s < n → ρ' s = ρ s) {l : List (Int × Nat)} (hl : ai_scT n l) : ai_vaT ρ' l = ai_vaT ρ l := by
  induction l with
  | nil => rfl
  | cons p r ih =>
    show p.1 * ρ' p.2 + ai_vaT ρ' r = p.1 * ρ p.2 + ai_vaT ρ r
    rw [ih hl.2, h _ hl.1]
theorem ai_X.va {n n' : Nat} {ρ ρ' : Nat → Int} (h : ai_X n ρ n' ρ') {x : ai_L} (hx : ai_sc n x) : ai_va ρ' x = ai_va ρ x := by
  unfold ai_va
  rw [ai_vaT_X h.2 hx]
theorem ai_scT_le {n n' : Nat} (h : n ≤ n') {l : List (Int × Nat)} (hl : ai_scT n l) : ai_scT n' l := by
  induction l with
  | nil => trivial
  | cons p r ih => exact ⟨Nat.lt_of_lt_of_le hl.1 h, ih hl.2⟩
theorem ai_X.sc {n n' : Nat} {ρ ρ' : Nat → Int} (h : ai_X n ρ n' ρ') {x : ai_L} (hx : ai_sc n x) : ai_sc n' x := ai_scT_le h.1 hx
/-! ranges -/
def ai_lk (E : List ai_I) (s : Nat) : Option (Int × Int) := match E with
  | [] => none
  | p :: r => match Nat.beq s p.1 with
    | true => some p.2
    | false => ai_lk r s
def ai_lbT (E : List ai_I) (l : List (Int × Nat)) (c : Int) : Option Int := match l with
  | [] => some c
  | p :: r => match ai_lk E p.2 with
    | none => none
    | some q => ai_lbT E r (match decide (0 ≤ p.1) with
      | true => c + p.1 * q.1
      | false => c + p.1 * q.2)
def ai_lb (E : List ai_I) (x : ai_L) : Option Int := ai_lbT E x.1 x.2
def ai_ubT (E : List ai_I) (l : List (Int × Nat)) (c : Int) : Option Int := match l with
  | [] => some c
  | p :: r => match ai_lk E p.2 with
    | none => none
    | some q => ai_ubT E r (match decide (0 ≤ p.1) with
      | true => c + p.1 * q.2
      | false => c + p.1 * q.1)
def ai_ub (E : List ai_I) (x : ai_L) : Option Int := ai_ubT E x.1 x.2
def ai_ge0 (E : List ai_I) (x : ai_L) : Bool := match ai_lb E x with
  | some y => decide (0 ≤ y)
  | none => false
def ai_ge (d : Nat) (E : List ai_I) (C : List ai_L) (x : ai_L) : Bool := match d with
  | 0 => ai_ge0 E x
  | d + 1 => ai_ge0 E x || C.any (fun c => ai_ge d E C (ai_sub x c))
/-- what the ranges say -/
def ai_EO (n : Nat) (ρ : Nat → Int) (E : List ai_I) : Prop := ∀ q ∈ E, q.1 < n ∧ q.2.1 ≤ ρ q.1 ∧ ρ q.1 ≤ q.2.2
def ai_CO (n : Nat) (ρ : Nat → Int) (C : List ai_L) : Prop := ∀ x ∈ C, ai_sc n x ∧ 0 ≤ ai_va ρ x
def ai_NO (n : Nat) (ρ : Nat → Int) (N : List ai_L) : Prop := ∀ x ∈ N, ai_sc n x ∧ ai_va ρ x ≠ 0
theorem ai_lk_ok {n : Nat} {ρ : Nat → Int} {E : List ai_I} (h : ai_EO n ρ E) {s : Nat} {q : Int × Int} (e : ai_lk E s = some q) : q.1 ≤ ρ s ∧ ρ s ≤ q.2 ∧ s < n := by
  induction E with
  | nil => cases e
  | cons p r ih =>
    unfold ai_lk at e
    split at e
    · rename_i hb
      have hs := Nat.eq_of_beq_eq_true hb
      cases e
      subst hs
      have := h p List.mem_cons_self
      exact ⟨this.2.1, this.2.2, this.1⟩
    · exact ih (fun q hq => h q (List.mem_cons_of_mem _ hq)) e
theorem ai_mulp {a x y : Int} (ha : 0 ≤ a) (h : x ≤ y) : a * x ≤ a * y := Int.mul_le_mul_of_nonneg_left h ha
theorem ai_muln {a x y : Int} (ha : a ≤ 0) (h : x ≤ y) : a * y ≤ a * x := Int.mul_le_mul_of_nonpos_left ha h
theorem ai_lbT_ok {n : Nat} {ρ : Nat → Int} {E : List ai_I} (h : ai_EO n ρ E) {l : List (Int × Nat)} {c y : Int} (e : ai_lbT E l c = some y) : y ≤ ai_vaT ρ l + c := by
  induction l generalizing c with
  | nil =>
    cases e
    show y ≤ 0 + y
    omega
  | cons p r ih =>
    unfold ai_lbT at e
    split at e
    · cases e
    · rename_i q hq
      have hk := ai_lk_ok h hq
      have h2 := ih e
      show y ≤ p.1 * ρ p.2 + ai_vaT ρ r + c
      split at h2
      · rename_i hp
        have := ai_mulp (of_decide_eq_true hp) hk.1
        omega
      · rename_i hp
        have := ai_muln (a := p.1) (by have := of_decide_eq_false hp; omega) hk.2.1
        omega
theorem ai_ubT_ok {n : Nat} {ρ : Nat → Int} {E : List ai_I} (h : ai_EO n ρ E) {l : List (Int × Nat)} {c y : Int} (e : ai_ubT E l c = some y) : ai_vaT ρ l + c ≤ y := by
  induction l generalizing c with
  | nil =>
    cases e
    show 0 + y ≤ y
    omega
  | cons p r ih =>
    unfold ai_ubT at e
    split at e
    · cases e
    · rename_i q hq
      have hk := ai_lk_ok h hq
      have h2 := ih e
      show p.1 * ρ p.2 + ai_vaT ρ r + c ≤ y
      split at h2
      · rename_i hp
        have := ai_mulp (of_decide_eq_true hp) hk.2.1
        omega
      · rename_i hp
        have := ai_muln (a := p.1) (by have := of_decide_eq_false hp; omega) hk.1
        omega
theorem ai_lb_ok {n : Nat} {ρ : Nat → Int} {E : List ai_I} (h : ai_EO n ρ E) {x : ai_L} {y : Int} (e : ai_lb E x = some y) : y ≤ ai_va ρ x := ai_lbT_ok h e
theorem ai_ub_ok {n : Nat} {ρ : Nat → Int} {E : List ai_I} (h : ai_EO n ρ E) {x : ai_L} {y : Int} (e : ai_ub E x = some y) : ai_va ρ x ≤ y := ai_ubT_ok h e
theorem ai_ge0_ok {n : Nat} {ρ : Nat → Int} {E : List ai_I} (h : ai_EO n ρ E) {x : ai_L} (e : ai_ge0 E x = true) : 0 ≤ ai_va ρ x := by
  unfold ai_ge0 at e
  split at e
  · rename_i y hy
    have := ai_lb_ok h hy
    have := of_decide_eq_true e
    omega
  · cases e
theorem ai_ge_ok {n : Nat} {ρ : Nat → Int} {E : List ai_I} {C : List ai_L} (h : ai_EO n ρ E) (hC : ai_CO n ρ C) {d : Nat} {x : ai_L} (e : ai_ge d E C x = true) : 0 ≤ ai_va ρ x := by
  induction d generalizing x with
  | zero => exact ai_ge0_ok h e
  | succ d ih =>
    unfold ai_ge at e
    rw [Bool.or_eq_true] at e
    rcases e with e | e
    · exact ai_ge0_ok h e
    · rw [List.any_eq_true] at e
      obtain ⟨c, hc, e⟩ := e
      have h1 := ih e
      rw [ai_sub_va] at h1
      have := (hC c hc).2
      omega
