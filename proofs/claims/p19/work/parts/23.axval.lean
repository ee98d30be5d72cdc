/-! PART 23: the checker's operations on values -/
def ai_in (lo hi : Int) (S : ai_S) (x : ai_L) : Bool := ai_ge 2 S.2.1 S.2.2.2.1 (ai_ad1 x (-lo)) && ai_ge 2 S.2.1 S.2.2.2.1 (ai_ad1 (ai_neg x) hi)
def ai_T32 (S : ai_S) (k : ai_S → ai_L → Bool) : Bool := ai_fr S (-2147483648) 2147483647 k
def ai_T64 (S : ai_S) (k : ai_S → ai_L → Bool) : Bool := ai_fr S (-9223372036854775808) 9223372036854775807 k
def ai_w (S : ai_S) (x : ai_L) (k : ai_S → ai_L → Bool) : Bool := match ai_in (-2147483648) 2147483647 S x with
  | true => ai_fl x fun x => k S x
  | false => ai_T32 S k
def ai_W (S : ai_S) (x : ai_L) (k : ai_S → ai_L → Bool) : Bool := match ai_in (-9223372036854775808) 9223372036854775807 S x with
  | true => ai_fl x fun x => k S x
  | false => ai_T64 S k
def ai_bd (E : List ai_I) (x : ai_L) : Option (Int × Int) := match ai_lb E x with
  | none => none
  | some a => match ai_ub E x with
    | none => none
    | some b => some (a, b)
def ai_mi (a b : Int) : Int := match decide (a ≤ b) with
  | true => a
  | false => b
def ai_ma (a b : Int) : Int := match decide (a ≤ b) with
  | true => b
  | false => a
def ai_nz (S : ai_S) (y : ai_L) : Bool := (match ai_bd S.2.1 y with
  | some p => decide (0 < p.1) || decide (p.2 < 0)
  | none => false) || ai_mN S.2.2.2.2 y
def ai_mp (S : ai_S) (x y : ai_L) (m : Int) (k : ai_S → ai_L → Bool) (d : Bool) : Bool := match ai_bd S.2.1 x, ai_bd S.2.1 y with
  | some p, some q => match decide (0 ≤ p.1) && (decide (0 ≤ q.1) && decide (p.2 * q.2 ≤ m)) with
    | true => ai_fr S (p.1 * q.1) (p.2 * q.2) k
    | false => d
  | _, _ => d
def ai_mu (S : ai_S) (x y : ai_L) (k : ai_S → ai_L → Bool) : Bool := match x.1 with
  | [] => ai_w S (ai_mul x.2 y) k
  | _ :: _ => match y.1 with
    | [] => ai_w S (ai_mul y.2 x) k
    | _ :: _ => ai_mp S x y 2147483647 k (ai_T32 S k)
def ai_muL (S : ai_S) (x y : ai_L) (k : ai_S → ai_L → Bool) : Bool := match x.1 with
  | [] => ai_W S (ai_mul x.2 y) k
  | _ :: _ => match y.1 with
    | [] => ai_W S (ai_mul y.2 x) k
    | _ :: _ => ai_mp S x y 9223372036854775807 k (ai_T64 S k)
def ai_an (S : ai_S) (x y : ai_L) (m : Int) (k : ai_S → ai_L → Bool) (d : Bool) : Bool := match ai_bd S.2.1 x, ai_bd S.2.1 y with
  | some p, some q => match decide (0 ≤ p.1) && decide (p.2 ≤ m) with
    | true => match decide (0 ≤ q.1) && decide (q.2 ≤ m) with
      | true => ai_fr S 0 (ai_mi p.2 q.2) k
      | false => ai_fr S 0 p.2 k
    | false => match decide (0 ≤ q.1) && decide (q.2 ≤ m) with
      | true => ai_fr S 0 q.2 k
      | false => d
  | _, _ => d
def ai_pwT : List (Nat × Int) := [(1, 2), (2, 4), (3, 8), (4, 16), (5, 32), (6, 64), (8, 256), (9, 512), (10, 1024), (11, 2048), (12, 4096), (16, 65536), (20, 1048576), (30, 1073741824)]
def ai_pw (l : List (Nat × Int)) (b d : Int) : Option Int := match l with
  | [] => none
  | p :: r => match decide (b < p.2) && decide (d < p.2) with
    | true => some p.2
    | false => ai_pw r b d
def ai_or (S : ai_S) (x y : ai_L) (k : ai_S → ai_L → Bool) : Bool := match ai_bd S.2.1 x, ai_bd S.2.1 y with
  | some p, some q => match decide (0 ≤ p.1) && decide (0 ≤ q.1) with
    | true => match ai_pw ai_pwT p.2 q.2 with
      | some N => ai_fr S 0 (N - 1) k
      | none => ai_T32 S k
    | false => ai_T32 S k
  | _, _ => ai_T32 S k
def ai_xo (S : ai_S) (x y : ai_L) (k : ai_S → ai_L → Bool) : Bool := match ai_eqL y (ai_c (-1)) && ai_in (-2147483648) 2147483647 S x with
  | true => ai_fl (ai_ad1 (ai_neg x) (-1)) fun x => k S x
  | false => ai_or S x y k
def ai_sh (S : ai_S) (x y : ai_L) (k : ai_S → ai_L → Bool) : Bool := match ai_eqL x (ai_c 1) with
  | true => match ai_bd S.2.1 y with
    | some q => match decide (0 ≤ q.1) && decide (q.2 ≤ 30) with
      | true => ai_fr S ((2 ^ q.1.toNat : Nat) : Int) ((2 ^ q.2.toNat : Nat) : Int) k
      | false => ai_T32 S k
    | none => ai_T32 S k
  | false => ai_T32 S k
def ai_dv (S : ai_S) (x y : ai_L) (m : Int) (k : ai_S → ai_L → Bool) (d : Bool) : Bool := match ai_bd S.2.1 x, ai_bd S.2.1 y with
  | some p, some q => match decide (0 ≤ p.1) && (decide (p.2 ≤ m) && decide (1 ≤ q.1)) with
    | true => ai_fr S 0 (p.2 / q.1) k
    | false => match decide (-m ≤ p.1) && (decide (p.2 ≤ m) && decide (1 ≤ q.1)) with
      | true => ai_fr S (ai_mi p.1 0) (ai_ma p.2 0) k
      | false => ai_nz S y && d
  | _, _ => ai_nz S y && d
def ai_rm (S : ai_S) (x y : ai_L) (lo hi : Int) (k : ai_S → ai_L → Bool) : Bool := match ai_bd S.2.1 x, ai_bd S.2.1 y with
  | some p, some q => match decide (1 ≤ q.1) with
    | true => match decide (0 ≤ p.1) with
      | true => ai_fr S 0 (ai_mi p.2 (q.2 - 1)) k
      | false => ai_fr S (1 - q.2) (q.2 - 1) k
    | false => ai_nz S y && (decide (lo ≤ p.1) && (decide (p.2 ≤ hi) && ai_fr S lo hi k))
  | _, _ => false
def ai_ea (m : Nat) (a : Int) (S : ai_S) (l : ai_L) (kk : ai_S → Int → Bool) : Bool := match m with
  | 0 => true
  | m + 1 => ai_eq S (ai_ad1 l (-a)) (fun S => kk S a) && ai_ea m (a + 1) S l kk
def ai_sj (S : ai_S) (x : ai_L) (j : Int) (k : ai_S → ai_L → Bool) : Bool := match ai_bd S.2.1 x with
  | none => false
  | some p => ai_fn (2 ^ j.toNat) fun N => ai_fr S (p.1 / (N : Int)) (p.2 / (N : Int)) fun S r => ai_as S (ai_sub x (ai_mul (N : Int) r)) fun S => ai_as S (ai_ad1 (ai_sub (ai_mul (N : Int) r) x) ((N : Int) - 1)) fun S => k S r
def ai_s7 (S : ai_S) (x y : ai_L) (k : ai_S → ai_L → Bool) : Bool := match ai_bd S.2.1 x, ai_bd S.2.1 y with
  | some p, some q => match (decide (0 ≤ p.1) && decide (p.2 ≤ 1023)) && (decide (0 ≤ q.1) && decide (q.2 ≤ 8)) with
    | true => ai_ea (q.2 + 1 - q.1).toNat q.1 S y fun S j => ai_sj S x j k
    | false => ai_T32 S k
  | _, _ => ai_T32 S k
def ai_a3 (S : ai_S) (x y : ai_L) (k : ai_S → ai_L → Bool) : Bool := match ai_eqL y (ai_c 3) with
  | true => match ai_bd S.2.1 x with
    | some p => match decide (0 ≤ p.1) && decide (p.2 ≤ 1023) with
      | true => ai_eq S (ai_ad1 x (-p.2)) (fun S => ai_fi (p.2 % 4) fun z => k S (ai_c z)) && ai_as S (ai_ad1 (ai_neg x) (p.2 - 1)) (fun S => ai_fr S 0 3 k)
      | false => ai_an S x y 2147483647 k (ai_T32 S k)
    | none => ai_an S x y 2147483647 k (ai_T32 S k)
  | false => ai_an S x y 2147483647 k (ai_T32 S k)
def ai_bin (a : Nat) (S : ai_S) (x y : ai_L) (k : ai_S → ai_L → Bool) : Bool := match a with
  | 0 => ai_w S (ai_add y x) k
  | 1 => ai_w S (ai_sub x y) k
  | 2 => ai_mu S x y k
  | 3 => ai_a3 S x y k
  | 4 => ai_or S x y k
  | 5 => ai_xo S x y k
  | 6 => ai_sh S x y k
  | 7 => ai_s7 S x y k
  | 8 => ai_T32 S k
  | 9 => ai_dv S x y 2147483647 k (ai_T32 S k)
  | _ => ai_rm S x y (-2147483648) 2147483647 k
def ai_lbn (a : Nat) (S : ai_S) (x y : ai_L) (k : ai_S → ai_L → Bool) : Bool := match a with
  | 0 => ai_W S (ai_add y x) k
  | 1 => ai_W S (ai_sub x y) k
  | 2 => ai_muL S x y k
  | 3 => ai_an S x y 9223372036854775807 k (ai_T64 S k)
  | 4 => ai_T64 S k
  | 5 => ai_dv S x y 9223372036854775807 k (ai_T64 S k)
  | _ => ai_rm S x y (-9223372036854775808) 9223372036854775807 k
def ai_ab (S : ai_S) (x : ai_L) (k : ai_S → ai_L → Bool) : Bool := match ai_bd S.2.1 x with
  | some p => match decide (0 ≤ p.1) with
    | true => k S x
    | false => match decide (-2147483647 ≤ p.1) && decide (p.2 ≤ 2147483647) with
      | true => ai_fr S 0 (ai_ma (-p.1) p.2) k
      | false => false
  | none => false
def ai_mm (a : Nat) (S : ai_S) (x y : ai_L) (k : ai_S → ai_L → Bool) : Bool := match ai_bd S.2.1 x, ai_bd S.2.1 y with
  | some p, some q => match a with
    | 1 => ai_fr S (ai_ma p.1 q.1) (ai_ma p.2 q.2) k
    | _ => ai_fr S (ai_mi p.1 q.1) (ai_mi p.2 q.2) k
  | _, _ => false
section AXVAL
variable {T : ai_T} {w : Nat} {M0 M : MM} {ρ : Nat → Int}
/-- the checker goes on with a value -/
def ai_R (T : ai_T) (w : Nat) (M0 M : MM) (ρ : Nat → Int) (n : Nat) (v : Int) (k : ai_S → ai_L → Bool) : Prop := ∃ ρ' S' l, ai_X n ρ S'.1 ρ' ∧ ai_Ok T w M0 ρ' S' M ∧ ai_sc S'.1 l ∧ ai_va ρ' l = v ∧ k S' l = true
theorem ai_R.of {S : ai_S} {x : ai_L} {v : Int} {k : ai_S → ai_L → Bool} (o : ai_Ok T w M0 ρ S M) (hx : ai_sc S.1 x) (e : ai_va ρ x = v) (h : k S x = true) : ai_R T w M0 M ρ S.1 v k := ⟨ρ, S, x, ai_X.rf _ _, o, hx, e, h⟩
theorem ai_R.fr {S : ai_S} {lo hi : Int} {k : ai_S → ai_L → Bool} (h : ai_fr S lo hi k = true) (o : ai_Ok T w M0 ρ S M) (v : Int) (hv : lo ≤ v ∧ v ≤ hi) : ai_R T w M0 M ρ S.1 v k := ai_fr_ok h o v hv.1 hv.2
theorem ai_in_ok {S : ai_S} {x : ai_L} {lo hi : Int} (h : ai_in lo hi S x = true) (o : ai_Ok T w M0 ρ S M) : lo ≤ ai_va ρ x ∧ ai_va ρ x ≤ hi := by
  unfold ai_in at h
  rw [Bool.and_eq_true] at h
  have h1 := ai_ge_ok o.1.1 o.1.2.2.1 h.1
  have h2 := ai_ge_ok o.1.1 o.1.2.2.1 h.2
  rw [ai_ad1_va] at h1
  rw [ai_ad1_va, ai_neg_va] at h2
  omega
theorem ai_w_ok {S : ai_S} {x : ai_L} {v : Int} {k : ai_S → ai_L → Bool} (h : ai_w S x k = true) (o : ai_Ok T w M0 ρ S M) (hx : ai_sc S.1 x) (e : ai_va ρ x = v) : ai_R T w M0 M ρ S.1 (w32 v) k := by
  subst e
  unfold ai_w at h
  split at h
  · rename_i hi
    have hi := ai_in_ok hi o
    rw [ai_fl_eq] at h
    exact .of o hx (ew32 hi.1 hi.2).symm h
  · exact .fr h o _ (fw32 _)
theorem ai_W_ok {S : ai_S} {x : ai_L} {v : Int} {k : ai_S → ai_L → Bool} (h : ai_W S x k = true) (o : ai_Ok T w M0 ρ S M) (hx : ai_sc S.1 x) (e : ai_va ρ x = v) : ai_R T w M0 M ρ S.1 (w64 v) k := by
  subst e
  unfold ai_W at h
  split at h
  · rename_i hi
    have hi := ai_in_ok hi o
    rw [ai_fl_eq] at h
    exact .of o hx (ew64 hi.1 hi.2).symm h
  · exact .fr h o _ (fw64 _)
theorem ai_bd_ok {S : ai_S} {x : ai_L} {p : Int × Int} (h : ai_bd S.2.1 x = some p) (o : ai_Ok T w M0 ρ S M) : p.1 ≤ ai_va ρ x ∧ ai_va ρ x ≤ p.2 := by
  unfold ai_bd at h
  split at h
  · cases h
  · rename_i a ha
    split at h
    · cases h
    · rename_i b hb
      cases h
      exact ⟨ai_lb_ok o.1.1 ha, ai_ub_ok o.1.1 hb⟩
theorem ai_mi_ok (a b : Int) : ai_mi a b ≤ a ∧ ai_mi a b ≤ b ∧ (ai_mi a b = a ∨ ai_mi a b = b) := by
  unfold ai_mi
  split
  · rename_i h
    have := of_decide_eq_true h
    exact ⟨Int.le_refl _, this, .inl rfl⟩
  · rename_i h
    have := of_decide_eq_false h
    exact ⟨by omega, Int.le_refl _, .inr rfl⟩
theorem ai_ma_ok (a b : Int) : a ≤ ai_ma a b ∧ b ≤ ai_ma a b ∧ (ai_ma a b = a ∨ ai_ma a b = b) := by
  unfold ai_ma
  split
  · rename_i h
    have := of_decide_eq_true h
    exact ⟨this, Int.le_refl _, .inr rfl⟩
  · rename_i h
    have := of_decide_eq_false h
    exact ⟨Int.le_refl _, by omega, .inl rfl⟩
theorem ai_nz_ok {S : ai_S} {y : ai_L} (h : ai_nz S y = true) (o : ai_Ok T w M0 ρ S M) : ai_va ρ y ≠ 0 := by
  unfold ai_nz at h
  rw [Bool.or_eq_true] at h
  rcases h with h | h
  · split at h
    · rename_i p hp
      have := ai_bd_ok hp o
      rw [Bool.or_eq_true, decide_eq_true_eq, decide_eq_true_eq] at h
      omega
    · cases h
  · exact ai_mN_ok o.1.2.2.2 h
theorem ai_va_nil {x : ai_L} (h : x.1 = []) : ai_va ρ x = x.2 := by
  unfold ai_va
  rw [h]
  exact Int.zero_add _
theorem ai_mp_ok {S : ai_S} {x y : ai_L} {m : Int} {k : ai_S → ai_L → Bool} {d : Bool} (h : ai_mp S x y m k d = true) (o : ai_Ok T w M0 ρ S M) : d = true ∨ (0 ≤ ai_va ρ x * ai_va ρ y ∧ ai_va ρ x * ai_va ρ y ≤ m ∧ ai_R T w M0 M ρ S.1 (ai_va ρ x * ai_va ρ y) k) := by
  unfold ai_mp at h
  split at h
  · rename_i p q hp hq
    have hp := ai_bd_ok hp o
    have hq := ai_bd_ok hq o
    split at h
    · rename_i hc
      rw [Bool.and_eq_true, Bool.and_eq_true, decide_eq_true_eq, decide_eq_true_eq, decide_eq_true_eq] at hc
      have hb := fmulnn hc.1 hc.2.1 hp.1 hp.2 hq.1 hq.2
      have h0 := Int.mul_nonneg hc.1 hc.2.1
      exact .inr ⟨by omega, by omega, .fr h o _ hb⟩
    · exact .inl h
  · exact .inl h
theorem ai_mu_ok {S : ai_S} {x y : ai_L} {k : ai_S → ai_L → Bool} (h : ai_mu S x y k = true) (o : ai_Ok T w M0 ρ S M) (hx : ai_sc S.1 x) (hy : ai_sc S.1 y) : ai_R T w M0 M ρ S.1 (w32 (ai_va ρ x * ai_va ρ y)) k := by
  unfold ai_mu at h
  split at h
  · rename_i he
    exact ai_w_ok h o (ai_mul_sc hy) (by rw [ai_mul_va, ai_va_nil he])
  · split at h
    · rename_i he
      exact ai_w_ok h o (ai_mul_sc hx) (by rw [ai_mul_va, ai_va_nil he, Int.mul_comm])
    · rcases ai_mp_ok h o with h | ⟨h1, h2, h3⟩
      · exact .fr h o _ (fw32 _)
      · rw [ew32 (by omega) h2]
        exact h3
theorem ai_muL_ok {S : ai_S} {x y : ai_L} {k : ai_S → ai_L → Bool} (h : ai_muL S x y k = true) (o : ai_Ok T w M0 ρ S M) (hx : ai_sc S.1 x) (hy : ai_sc S.1 y) : ai_R T w M0 M ρ S.1 (w64 (ai_va ρ x * ai_va ρ y)) k := by
  unfold ai_muL at h
  split at h
  · rename_i he
    exact ai_W_ok h o (ai_mul_sc hy) (by rw [ai_mul_va, ai_va_nil he])
  · split at h
    · rename_i he
      exact ai_W_ok h o (ai_mul_sc hx) (by rw [ai_mul_va, ai_va_nil he, Int.mul_comm])
    · rcases ai_mp_ok h o with h | ⟨h1, h2, h3⟩
      · exact .fr h o _ (fw64 _)
      · rw [ew64 (by omega) h2]
        exact h3
theorem ai_an_ok {S : ai_S} {x y : ai_L} {m v : Int} {k : ai_S → ai_L → Bool} {d : Bool} (h : ai_an S x y m k d = true) (o : ai_Ok T w M0 ρ S M) (h1 : ∀ hi, 0 ≤ ai_va ρ x → ai_va ρ x ≤ hi → hi ≤ m → 0 ≤ v ∧ v ≤ hi) (h2 : ∀ hi, 0 ≤ ai_va ρ y → ai_va ρ y ≤ hi → hi ≤ m → 0 ≤ v ∧ v ≤ hi) : d = true ∨ ai_R T w M0 M ρ S.1 v k := by
  unfold ai_an at h
  split at h
  · rename_i p q hp hq
    have hp := ai_bd_ok hp o
    have hq := ai_bd_ok hq o
    split at h
    · rename_i hc
      rw [Bool.and_eq_true, decide_eq_true_eq, decide_eq_true_eq] at hc
      have r1 := h1 p.2 (by omega) hp.2 hc.2
      split at h
      · rename_i hd
        rw [Bool.and_eq_true, decide_eq_true_eq, decide_eq_true_eq] at hd
        have r2 := h2 q.2 (by omega) hq.2 hd.2
        refine .inr (.fr h o _ ⟨r1.1, ?_⟩)
        rcases (ai_mi_ok p.2 q.2).2.2 with e | e <;> (rw [e]; omega)
      · exact .inr (.fr h o _ r1)
    · split at h
      · rename_i hd
        rw [Bool.and_eq_true, decide_eq_true_eq, decide_eq_true_eq] at hd
        have r2 := h2 q.2 (by omega) hq.2 hd.2
        exact .inr (.fr h o _ r2)
      · exact .inl h
  · exact .inl h
theorem ai_pw_ok {l : List (Nat × Int)} {b d N : Int} (h : ai_pw l b d = some N) : ∃ n, (n, N) ∈ l ∧ b < N ∧ d < N := by
  induction l with
  | nil => cases h
  | cons p r ih =>
    unfold ai_pw at h
    split at h
    · rename_i hc
      cases h
      rw [Bool.and_eq_true, decide_eq_true_eq, decide_eq_true_eq] at hc
      exact ⟨p.1, List.mem_cons_self, hc.1, hc.2⟩
    · obtain ⟨n, h1, h2⟩ := ih h
      exact ⟨n, List.mem_cons_of_mem _ h1, h2⟩
theorem ai_pwT_ok : ∀ p ∈ ai_pwT, (2 : Int) ^ p.1 = p.2 ∧ p.1 ≤ 31 := by decide +kernel
theorem ai_or_ok {S : ai_S} {x y : ai_L} {v : Int} {k : ai_S → ai_L → Bool} (h : ai_or S x y k = true) (o : ai_Ok T w M0 ρ S M) (h0 : -2147483648 ≤ v ∧ v ≤ 2147483647) (h1 : ∀ (n : Nat) (N : Int), (2 : Int) ^ n = N → n ≤ 31 → 0 ≤ ai_va ρ x ∧ ai_va ρ x < N → 0 ≤ ai_va ρ y ∧ ai_va ρ y < N → 0 ≤ v ∧ v < N) : ai_R T w M0 M ρ S.1 v k := by
  unfold ai_or at h
  split at h
  · rename_i p q hp hq
    have hp := ai_bd_ok hp o
    have hq := ai_bd_ok hq o
    split at h
    · rename_i hc
      rw [Bool.and_eq_true, decide_eq_true_eq, decide_eq_true_eq] at hc
      split at h
      · rename_i N hN
        obtain ⟨n, hm, h2, h3⟩ := ai_pw_ok hN
        have hn := ai_pwT_ok _ hm
        have := h1 n N hn.1 hn.2 (by omega) (by omega)
        exact .fr h o _ (by omega)
      · exact .fr h o _ h0
    · exact .fr h o _ h0
  · exact .fr h o _ h0
theorem ai_sh_ok {S : ai_S} {x y : ai_L} {k : ai_S → ai_L → Bool} (h : ai_sh S x y k = true) (o : ai_Ok T w M0 ρ S M) : ai_R T w M0 M ρ S.1 (bShl (ai_va ρ x) (ai_va ρ y)) k := by
  unfold ai_sh at h
  split at h
  · rename_i he
    rw [ai_eqL_eq he, ai_c_va]
    split at h
    · rename_i q hq
      have hq := ai_bd_ok hq o
      split at h
      · rename_i hc
        rw [Bool.and_eq_true, decide_eq_true_eq, decide_eq_true_eq] at hc
        refine .fr h o _ ?_
        rw [ebShl1 (by omega) (by omega)]
        have e1 : 2 ^ q.1.toNat ≤ 2 ^ (ai_va ρ y).toNat := Nat.pow_le_pow_right (by decide) (by omega)
        have e2 : 2 ^ (ai_va ρ y).toNat ≤ 2 ^ q.2.toNat := Nat.pow_le_pow_right (by decide) (by omega)
        exact ⟨Int.ofNat_le.mpr e1, Int.ofNat_le.mpr e2⟩
      · exact .fr h o _ (fbits _)
    · exact .fr h o _ (fbits _)
  · exact .fr h o _ (fbits _)
theorem ai_dv_ok {S : ai_S} {x y : ai_L} {m v : Int} {k : ai_S → ai_L → Bool} {d : Bool} (h : ai_dv S x y m k d = true) (o : ai_Ok T w M0 ρ S M) (hv : 0 ≤ ai_va ρ x → ai_va ρ x ≤ m → 0 < ai_va ρ y → v = ai_va ρ x / ai_va ρ y) (hv2 : -m ≤ ai_va ρ x → ai_va ρ x ≤ m → 0 < ai_va ρ y → (0 ≤ ai_va ρ x → 0 ≤ v ∧ v ≤ ai_va ρ x) ∧ (ai_va ρ x < 0 → ai_va ρ x ≤ v ∧ v ≤ 0)) : ai_va ρ y ≠ 0 ∧ (d = true ∨ ai_R T w M0 M ρ S.1 v k) := by
  unfold ai_dv at h
  split at h
  · rename_i p q hp hq
    have hp := ai_bd_ok hp o
    have hq := ai_bd_ok hq o
    split at h
    · rename_i hc
      rw [Bool.and_eq_true, Bool.and_eq_true, decide_eq_true_eq, decide_eq_true_eq, decide_eq_true_eq] at hc
      refine ⟨by omega, .inr (.fr h o _ ?_)⟩
      rw [hv (by omega) (by omega) (by omega)]
      exact fediv (by omega) hp.2 (by omega) hq.1
    · split at h
      · rename_i hc
        rw [Bool.and_eq_true, Bool.and_eq_true, decide_eq_true_eq, decide_eq_true_eq, decide_eq_true_eq] at hc
        have h2 := hv2 (by omega) (by omega) (by omega)
        have m1 := ai_mi_ok p.1 0
        have m2 := ai_ma_ok p.2 0
        refine ⟨by omega, .inr (.fr h o _ ?_)⟩
        rcases Int.lt_or_le (ai_va ρ x) 0 with hx | hx
        · have := h2.2 hx
          omega
        · have := h2.1 hx
          omega
      · rw [Bool.and_eq_true] at h
        exact ⟨ai_nz_ok h.1 o, .inl h.2⟩
  · rw [Bool.and_eq_true] at h
    exact ⟨ai_nz_ok h.1 o, .inl h.2⟩
theorem ai_rm_ok {S : ai_S} {x y : ai_L} {lo hi : Int} {k : ai_S → ai_L → Bool} (h : ai_rm S x y lo hi k = true) (o : ai_Ok T w M0 ρ S M) (hv : lo ≤ ai_va ρ x → ai_va ρ x ≤ hi → lo ≤ Int.tmod (ai_va ρ x) (ai_va ρ y) ∧ Int.tmod (ai_va ρ x) (ai_va ρ y) ≤ hi) : ai_va ρ y ≠ 0 ∧ ai_R T w M0 M ρ S.1 (Int.tmod (ai_va ρ x) (ai_va ρ y)) k := by
  unfold ai_rm at h
  split at h
  · rename_i p q hp hq
    have hp := ai_bd_ok hp o
    have hq := ai_bd_ok hq o
    split at h
    · rename_i hc
      have hc := of_decide_eq_true hc
      have hf := ftmod (ai_va ρ x) (b := ai_va ρ y) (by omega)
      refine ⟨by omega, ?_⟩
      split at h
      · rename_i hd
        have hd := of_decide_eq_true hd
        refine .fr h o _ ?_
        have e := etmod (a := ai_va ρ x) (b := ai_va ρ y) (by omega)
        have e1 := Int.emod_nonneg (ai_va ρ x) (b := ai_va ρ y) (by omega)
        have e2 : ai_va ρ x % ai_va ρ y ≤ ai_va ρ x := by
          have h1 := Int.emod_add_mul_ediv (ai_va ρ x) (ai_va ρ y)
          have h2 := Int.mul_nonneg (a := ai_va ρ y) (b := ai_va ρ x / ai_va ρ y) (by omega) (Int.ediv_nonneg (by omega) (by omega))
          omega
        rcases (ai_mi_ok p.2 (q.2 - 1)).2.2 with e3 | e3 <;> (rw [e3]; omega)
      · exact .fr h o _ (by omega)
    · rw [Bool.and_eq_true, Bool.and_eq_true, Bool.and_eq_true, decide_eq_true_eq, decide_eq_true_eq] at h
      exact ⟨ai_nz_ok h.1 o, .fr h.2.2.2 o _ (hv (by omega) (by omega))⟩
  · cases h
theorem ftdiv {x y : Int} (hy : 0 < y) : (0 ≤ x → 0 ≤ x.tdiv y ∧ x.tdiv y ≤ x) ∧ (x < 0 → x ≤ x.tdiv y ∧ x.tdiv y ≤ 0) := by
  refine ⟨fun hx => ?_, fun hx => ?_⟩
  · rw [Int.tdiv_eq_ediv_of_nonneg hx]
    exact ⟨Int.ediv_nonneg hx (by omega), Int.ediv_le_self y hx⟩
  · have e : x.tdiv y = -((-x).tdiv y) := by rw [Int.neg_tdiv, Int.neg_neg]
    have h0 : 0 ≤ -x := by omega
    rw [e, Int.tdiv_eq_ediv_of_nonneg h0]
    have h1 := Int.ediv_nonneg h0 (by omega : 0 ≤ y)
    have h2 := Int.ediv_le_self y h0
    omega
theorem ai_ea_ok {S : ai_S} {l : ai_L} {kk : ai_S → Int → Bool} (o : ai_Ok T w M0 ρ S M) (hl : ai_sc S.1 l) : ∀ (m : Nat) (a : Int), ai_ea m a S l kk = true → a ≤ ai_va ρ l → ai_va ρ l < a + m → ∃ S', S'.1 = S.1 ∧ ai_Ok T w M0 ρ S' M ∧ kk S' (ai_va ρ l) = true := by
  intro m
  induction m with
  | zero => intro a _ h1 h2; omega
  | succ m ih =>
    intro a h h1 h2
    unfold ai_ea at h
    rw [Bool.and_eq_true] at h
    by_cases e : ai_va ρ l = a
    · rw [e]
      exact ai_eq_ok h.1 o (ai_ad1_sc hl) (by rw [ai_ad1_va]; omega)
    · exact ih (a + 1) h.2 (by omega) (by omega)
theorem rows_shr : ∀ j, j < 9 → ∀ x, x < 1024 → bShr ((x : Nat) : Int) ((j : Nat) : Int) = ((x / 2 ^ j : Nat) : Int) := by decide +kernel
theorem rows_and : ∀ x, x < 1024 → bAnd ((x : Nat) : Int) 3 = ((x % 4 : Nat) : Int) := by decide +kernel
theorem ai_s7_ok {S : ai_S} {x y : ai_L} {k : ai_S → ai_L → Bool} (h : ai_s7 S x y k = true) (o : ai_Ok T w M0 ρ S M) (hx : ai_sc S.1 x) (hy : ai_sc S.1 y) : ai_R T w M0 M ρ S.1 (bShr (ai_va ρ x) (ai_va ρ y)) k := by
  unfold ai_s7 at h
  split at h
  · rename_i p q hp hq
    have hp := ai_bd_ok hp o
    have hq := ai_bd_ok hq o
    split at h
    · rename_i hc
      rw [Bool.and_eq_true, Bool.and_eq_true, Bool.and_eq_true, decide_eq_true_eq, decide_eq_true_eq, decide_eq_true_eq, decide_eq_true_eq] at hc
      obtain ⟨S1, e1, o1, h⟩ := ai_ea_ok o hy _ _ h hq.1 (by omega)
      have hx1 : ai_sc S1.1 x := by rw [e1]; exact hx
      unfold ai_sj at h
      split at h
      · cases h
      · rename_i p1 hp1
        have hp1 := ai_bd_ok hp1 o1
        rw [ai_fn_eq] at h
        have hr := rows_shr (ai_va ρ y).toNat (by omega) (ai_va ρ x).toNat (by omega)
        rw [Int.toNat_of_nonneg (by omega), Int.toNat_of_nonneg (by omega)] at hr
        have hN : 0 < ((2 ^ (ai_va ρ y).toNat : Nat) : Int) := Int.natCast_pos.mpr (Nat.two_pow_pos _)
        generalize ((2 ^ (ai_va ρ y).toNat : Nat)) = N at h hr hN
        have hr2 : bShr (ai_va ρ x) (ai_va ρ y) = ai_va ρ x / (N : Int) := by
          rw [hr, Int.natCast_ediv, Int.toNat_of_nonneg (by omega)]
        have b1 : p1.1 / (N : Int) ≤ ai_va ρ x / (N : Int) := Int.ediv_le_ediv hN hp1.1
        have b2 : ai_va ρ x / (N : Int) ≤ p1.2 / (N : Int) := Int.ediv_le_ediv hN hp1.2
        obtain ⟨ρ2, S2, l, X2, o2, c2, v2, h⟩ := ai_fr_ok h o1 (ai_va ρ x / (N : Int)) b1 b2
        have xv : ai_va ρ2 x = ai_va ρ x := X2.va hx1
        have d1 := Int.mul_ediv_self_le (x := ai_va ρ x) (k := (N : Int)) (by omega)
        have d2 := Int.lt_mul_ediv_self_add (x := ai_va ρ x) (k := (N : Int)) hN
        obtain ⟨S3, e3, o3, h⟩ := ai_as_ok h o2 (ai_sub_sc (X2.sc hx1) (ai_mul_sc c2)) (by rw [ai_sub_va, ai_mul_va, xv, v2]; omega)
        obtain ⟨S4, e4, o4, h⟩ := ai_as_ok h o3 (by rw [e3]; exact ai_ad1_sc (ai_sub_sc (ai_mul_sc c2) (X2.sc hx1))) (by rw [ai_ad1_va, ai_sub_va, ai_mul_va, xv, v2]; omega)
        have X3 : ai_X S.1 ρ S4.1 ρ2 := by
          rw [e4, e3, ← e1]
          exact X2
        exact ⟨ρ2, S4, l, X3, o4, by rw [e4, e3]; exact c2, by rw [hr2, v2], h⟩
    · exact .fr (show ai_fr S (-2147483648) 2147483647 k = true from h) o _ (fbits _)
  · exact .fr (show ai_fr S (-2147483648) 2147483647 k = true from h) o _ (fbits _)
theorem ai_an32_ok {S : ai_S} {x y : ai_L} {k : ai_S → ai_L → Bool} (h : ai_an S x y 2147483647 k (ai_T32 S k) = true) (o : ai_Ok T w M0 ρ S M) : ai_R T w M0 M ρ S.1 (bAnd (ai_va ρ x) (ai_va ρ y)) k := by
  rcases ai_an_ok (v := bAnd (ai_va ρ x) (ai_va ρ y)) h o (fun hi h1 h2 h3 => fbAndL _ h1 h2 h3) (fun hi h1 h2 h3 => fbAnd _ h1 h2 h3) with h | h
  · exact .fr h o _ (fbits _)
  · exact h
theorem ai_a3_ok {S : ai_S} {x y : ai_L} {k : ai_S → ai_L → Bool} (h : ai_a3 S x y k = true) (o : ai_Ok T w M0 ρ S M) (hx : ai_sc S.1 x) : ai_R T w M0 M ρ S.1 (bAnd (ai_va ρ x) (ai_va ρ y)) k := by
  unfold ai_a3 at h
  split at h
  · rename_i he
    split at h
    · rename_i p hp
      have hp := ai_bd_ok hp o
      split at h
      · rename_i hc
        rw [Bool.and_eq_true, decide_eq_true_eq, decide_eq_true_eq] at hc
        rw [Bool.and_eq_true] at h
        have hr := rows_and (ai_va ρ x).toNat (by omega)
        rw [Int.toNat_of_nonneg (by omega)] at hr
        have hr2 : bAnd (ai_va ρ x) (ai_va ρ y) = ai_va ρ x % 4 := by
          rw [ai_eqL_eq he, ai_c_va, hr]
          omega
        by_cases e : ai_va ρ x = p.2
        · obtain ⟨S1, e1, o1, h1⟩ := ai_eq_ok h.1 o (ai_ad1_sc hx) (by rw [ai_ad1_va]; omega)
          rw [ai_fi_eq] at h1
          exact ⟨ρ, S1, ai_c (p.2 % 4), by rw [e1]; exact ai_X.rf _ _, o1, trivial, by rw [ai_c_va, hr2, e], h1⟩
        · obtain ⟨S1, e1, o1, h1⟩ := ai_as_ok h.2 o (ai_ad1_sc (ai_neg_sc hx)) (by rw [ai_ad1_va, ai_neg_va]; omega)
          rw [← e1]
          exact .fr h1 o1 _ (by rw [hr2]; omega)
      · exact ai_an32_ok h o
    · exact ai_an32_ok h o
  · exact ai_an32_ok h o
theorem ai_bin_ok {a : Nat} {S : ai_S} {x y : ai_L} {k : ai_S → ai_L → Bool} (h : ai_bin a S x y k = true) (o : ai_Ok T w M0 ρ S M) (hx : ai_sc S.1 x) (hy : ai_sc S.1 y) : bok a (ai_va ρ y) = true ∧ ai_R T w M0 M ρ S.1 (bin a (ai_va ρ x) (ai_va ρ y)) k := by
  match a, h with
  | 0, h => exact ⟨rfl, ai_w_ok h o (ai_add_sc hy hx) (by rw [ai_add_va]; omega)⟩
  | 1, h => exact ⟨rfl, ai_w_ok h o (ai_sub_sc hx hy) (by rw [ai_sub_va])⟩
  | 2, h => exact ⟨rfl, ai_mu_ok h o hx hy⟩
  | 3, h => exact ⟨rfl, ai_a3_ok h o hx⟩
  | 4, h => exact ⟨rfl, ai_or_ok h o (fbits _) (fun n N hN hn h1 h2 => fbOr n N hN h1 h2 hn)⟩
  | 5, h =>
    refine ⟨rfl, ?_⟩
    show ai_R T w M0 M ρ S.1 (bXor (ai_va ρ x) (ai_va ρ y)) k
    have h : ai_xo S x y k = true := h
    unfold ai_xo at h
    split at h
    · rename_i hc
      rw [Bool.and_eq_true] at hc
      have hi := ai_in_ok hc.2 o
      rw [ai_fl_eq] at h
      rw [ai_eqL_eq hc.1, ai_c_va, ebNot _ ⟨hi.1, by omega⟩]
      exact .of o (ai_ad1_sc (ai_neg_sc hx)) (by rw [ai_ad1_va, ai_neg_va]; omega) h
    · exact ai_or_ok h o (fbits _) (fun n N hN hn h1 h2 => fbXor n N hN h1 h2 hn)
  | 6, h => exact ⟨rfl, ai_sh_ok h o⟩
  | 7, h => exact ⟨rfl, ai_s7_ok h o hx hy⟩
  | 8, h => exact ⟨rfl, .fr (show ai_fr S (-2147483648) 2147483647 k = true from h) o _ (fbits _)⟩
  | 9, h =>
    obtain ⟨h1, h2⟩ := ai_dv_ok (v := w32 (Int.tdiv (ai_va ρ x) (ai_va ρ y))) h o (fun a b c => etdiv a b c) (fun a b c => by
      have hf := ftdiv (x := ai_va ρ x) c
      rcases Int.lt_or_le (ai_va ρ x) 0 with hx | hx
      · have := hf.2 hx
        rw [ew32 (by omega) (by omega)]
        omega
      · have := hf.1 hx
        rw [ew32 (by omega) (by omega)]
        omega)
    refine ⟨decide_eq_true h1, ?_⟩
    rcases h2 with h | h
    · exact .fr h o _ (fw32 _)
    · exact h
  | n + 10, h =>
    obtain ⟨h1, h2⟩ := ai_rm_ok h o (fun a b => by have := in32_tmod (ai_va ρ y) (⟨a, by omega⟩ : in32 (ai_va ρ x)); exact ⟨this.1, by have := this.2; omega⟩)
    refine ⟨?_, h2⟩
    unfold bok
    split <;> first | exact decide_eq_true h1 | rfl
theorem ai_lbn_ok {a : Nat} {S : ai_S} {x y : ai_L} {k : ai_S → ai_L → Bool} (h : ai_lbn a S x y k = true) (o : ai_Ok T w M0 ρ S M) (hx : ai_sc S.1 x) (hy : ai_sc S.1 y) : lok a (ai_va ρ y) = true ∧ ai_R T w M0 M ρ S.1 (lbn a (ai_va ρ x) (ai_va ρ y)) k := by
  match a, h with
  | 0, h => exact ⟨rfl, ai_W_ok h o (ai_add_sc hy hx) (by rw [ai_add_va]; omega)⟩
  | 1, h => exact ⟨rfl, ai_W_ok h o (ai_sub_sc hx hy) (by rw [ai_sub_va])⟩
  | 2, h => exact ⟨rfl, ai_muL_ok h o hx hy⟩
  | 3, h =>
    refine ⟨rfl, ?_⟩
    rcases ai_an_ok (v := bAndL (ai_va ρ x) (ai_va ρ y)) h o (fun hi h1 h2 h3 => by
      have e : bAndL (ai_va ρ x) (ai_va ρ y) = bAndL (ai_va ρ y) (ai_va ρ x) := by
        show (i64 _ &&& i64 _).toInt = (i64 _ &&& i64 _).toInt
        rw [Int64.and_comm]
      rw [e]
      exact fbAnd64 _ h1 h2 h3) (fun hi h1 h2 h3 => fbAnd64 _ h1 h2 h3) with h | h
    · exact .fr h o _ (fbits64 _)
    · exact h
  | 4, h => exact ⟨rfl, .fr (show ai_fr S (-9223372036854775808) 9223372036854775807 k = true from h) o _ (fbits64 _)⟩
  | 5, h =>
    obtain ⟨h1, h2⟩ := ai_dv_ok (v := w64 (Int.tdiv (ai_va ρ x) (ai_va ρ y))) h o (fun a b c => by
      rw [Int.tdiv_eq_ediv_of_nonneg a]
      have := Int.ediv_nonneg a (Int.le_of_lt c)
      have := Int.ediv_le_self (ai_va ρ y) a
      exact ew64 (by omega) (by omega)) (fun a b c => by
      have hf := ftdiv (x := ai_va ρ x) c
      rcases Int.lt_or_le (ai_va ρ x) 0 with hx | hx
      · have := hf.2 hx
        rw [ew64 (by omega) (by omega)]
        omega
      · have := hf.1 hx
        rw [ew64 (by omega) (by omega)]
        omega)
    refine ⟨decide_eq_true h1, ?_⟩
    rcases h2 with h | h
    · exact .fr h o _ (fw64 _)
    · exact h
  | n + 6, h =>
    obtain ⟨h1, h2⟩ := ai_rm_ok h o (fun a b => by have := in64_tmod (ai_va ρ y) (⟨a, by omega⟩ : in64 (ai_va ρ x)); exact ⟨this.1, by have := this.2; omega⟩)
    refine ⟨?_, h2⟩
    unfold lok
    split <;> first | exact decide_eq_true h1 | rfl
theorem ai_ab_ok {S : ai_S} {x : ai_L} {k : ai_S → ai_L → Bool} (h : ai_ab S x k = true) (o : ai_Ok T w M0 ρ S M) (hx : ai_sc S.1 x) : ai_R T w M0 M ρ S.1 (mAbs (ai_va ρ x)) k := by
  unfold ai_ab at h
  split at h
  · rename_i p hp
    have hp := ai_bd_ok hp o
    have hf := fmAbs (ai_va ρ x)
    split at h
    · rename_i hc
      have hc := of_decide_eq_true hc
      exact .of o hx (by omega) h
    · split at h
      · rename_i hd
        rw [Bool.and_eq_true, decide_eq_true_eq, decide_eq_true_eq] at hd
        have hm := ai_ma_ok (-p.1) p.2
        refine .fr h o _ ?_
        rcases hf with ⟨h1, h2⟩ | ⟨h1, h2⟩
        · rw [h2]; omega
        · rw [h2 (by omega) (by omega)]; omega
      · cases h
  · cases h
theorem ai_mm_ok {a : Nat} {S : ai_S} {x y : ai_L} {k : ai_S → ai_L → Bool} (h : ai_mm a S x y k = true) (o : ai_Ok T w M0 ρ S M) : ai_R T w M0 M ρ S.1 (mMM a (ai_va ρ x) (ai_va ρ y)) k := by
  unfold ai_mm at h
  split at h
  · rename_i p q hp hq
    have hp := ai_bd_ok hp o
    have hq := ai_bd_ok hq o
    unfold mMM
    split at h
    · have h1 := ai_ma_ok p.1 q.1
      have h2 := ai_ma_ok p.2 q.2
      have hf := fmMax (ai_va ρ x) (ai_va ρ y)
      refine .fr h o _ ?_
      show _ ≤ mMax _ _ ∧ mMax _ _ ≤ _
      omega
    · rename_i h0
      have h1 := ai_mi_ok p.1 q.1
      have h2 := ai_mi_ok p.2 q.2
      have hf := fmMin (ai_va ρ x) (ai_va ρ y)
      split
      · exact absurd rfl h0
      · refine .fr h o _ ?_
        omega
  · cases h
end AXVAL
