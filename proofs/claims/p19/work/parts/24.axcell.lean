/-! PART 24: the checker reads and writes cells; what stack and locals stand for -/
def ai_hu (l : List (Int × Int)) (r : Int × Int) : Int × Int := match l with
  | [] => r
  | q :: t => ai_hu t (ai_mi r.1 q.1, ai_ma r.2 q.2)
def ai_rgI (T : ai_T) (k : Nat) (a b : Int) : Option (Int × Int) := match T[k]? with
  | none => none
  | some p => match p.1 with
    | true => match p.2 with
      | q :: _ => some q
      | [] => none
    | false => match decide (0 ≤ a) && decide (b < (p.2.length : Int)) with
      | true => match (p.2.drop a.toNat).take (b + 1 - a).toNat with
        | [] => none
        | q :: t => some (ai_hu t q)
      | false => none
def ai_ov (T : ai_T) (S : ai_S) (k : Nat) (a b : Int) (v : ai_L) : Bool := match T[k]? with
  | none => false
  | some p => match p.1 with
    | true => match p.2 with
      | q :: _ => ai_in q.1 q.2 S v
      | [] => false
    | false => (decide (0 ≤ a) && decide (b < (p.2.length : Int))) && ((p.2.drop a.toNat).take (b + 1 - a).toNat).all (fun q => ai_in q.1 q.2 S v)
def ai_sa (T : ai_T) (k : Nat) (a b : Int) (p : Nat → Bool) : Bool := match ai_un T k with
  | true => p (64 * k)
  | false => (decide (0 ≤ a) && decide (b ≤ a + 64)) && (List.range (b + 1 - a).toNat).all (fun i => p (64 * k + (a.toNat + i)))
def ai_fd (F : List ai_F) (k : Nat) (i : ai_L) : Option ai_L := match F with
  | [] => none
  | f :: r => match Nat.beq f.1 k && ai_eqL f.2.1 i with
    | true => some f.2.2
    | false => ai_fd r k i
def ai_ld (T : ai_T) (S : ai_S) (k : Nat) (i : ai_L) (kk : ai_S → ai_L → Bool) : Bool := match ai_fd S.2.2.1 k i with
  | some v => kk S v
  | none => match ai_bd S.2.1 i with
    | none => false
    | some p => match ai_rgI T k p.1 p.2 with
      | none => false
      | some r => ai_fr S r.1 r.2 fun S' v => match S' with
        | (n, E, F, C, N) => kk (n, E, (k, i, v) :: F, C, N) v
/-- two places are not the same -/
def ai_na (E : List ai_I) (i i' : ai_L) : Bool := match ai_bd E (ai_sub i i') with
  | some p => decide (0 < p.1) || decide (p.2 < 0)
  | none => false
def ai_kl (E : List ai_I) (F : List ai_F) (k : Nat) (i : ai_L) : List ai_F := match F with
  | [] => []
  | f :: r => match Nat.beq f.1 k with
    | true => match ai_na E f.2.1 i with
      | true => f :: ai_kl E r k i
      | false => ai_kl E r k i
    | false => f :: ai_kl E r k i
def ai_st (T : ai_T) (w : Nat) (S : ai_S) (k : Nat) (i v : ai_L) (kk : ai_S → Bool) : Bool := match ai_bd S.2.1 i with
  | none => false
  | some p => match ai_sa T k p.1 p.2 (fun s => w.testBit s) && ai_ov T S k p.1 p.2 v with
    | true => match S with
      | (n, E, F, C, N) => ai_fo (ai_kl E F k i) fun F => kk (n, E, (k, i, v) :: F, C, N)
    | false => false
/-- cells that a call leaves as they are -/
def ai_kw (T : ai_T) (w : Nat) (E : List ai_I) (F : List ai_F) : List ai_F := match F with
  | [] => []
  | f :: r => match ai_bd E f.2.1 with
    | some p => match ai_sa T f.1 p.1 p.2 (fun s => !w.testBit s) with
      | true => f :: ai_kw T w E r
      | false => ai_kw T w E r
    | none => ai_kw T w E r
def ai_RV (n : Nat) (ρ : Nat → Int) (a : ai_V) (v : Vv) : Prop := match a with
  | .inl p => ai_sc n p.2 ∧ v = (match p.1 with
    | true => vl (ai_va ρ p.2)
    | false => vi (ai_va ρ p.2))
  | .inr (.inl k) => v = vr k
  | .inr (.inr k) => v = vx k
def ai_RS (n : Nat) (ρ : Nat → Int) (a : List ai_V) (v : List Vv) : Prop := match a, v with
  | [], [] => True
  | a :: as, v :: vs => ai_RV n ρ a v ∧ ai_RS n ρ as vs
  | _, _ => False
def ai_RO (n : Nat) (ρ : Nat → Int) (a : Option ai_V) (w : Option Vv) : Prop := match a with
  | some (.inl p) => ∃ v, w = some v ∧ ai_RV n ρ (.inl p) v
  | some (.inr (.inl k)) => ∃ v, w = some v ∧ ai_RV n ρ (.inr (.inl k)) v
  | some (.inr (.inr _)) => True
  | none => ∀ x, w ≠ some (vl x)
def ai_RL (n : Nat) (ρ : Nat → Int) (a : List (Option ai_V)) (v : LL) : Prop := match a, v with
  | [], [] => True
  | a :: as, v :: vs => ai_RO n ρ a v ∧ ai_RL n ρ as vs
  | _, _ => False
def ai_okA (L : List (Option ai_V)) (i : Nat) : Bool := match i with
  | 0 => true
  | j + 1 => match L[j]? with
    | some (some (.inl (true, _))) => false
    | some (some (.inr (.inr _))) => false
    | _ => true
section AXCELL
variable {T : ai_T} {w : Nat} {M0 M : MM} {ρ : Nat → Int}
theorem ai_hu_ok {l : List (Int × Int)} {r : Int × Int} : (ai_hu l r).1 ≤ r.1 ∧ r.2 ≤ (ai_hu l r).2 ∧ ∀ q ∈ l, (ai_hu l r).1 ≤ q.1 ∧ q.2 ≤ (ai_hu l r).2 := by
  induction l generalizing r with
  | nil => exact ⟨Int.le_refl _, Int.le_refl _, fun q hq => by cases hq⟩
  | cons p t ih =>
    have h := ih (r := (ai_mi r.1 p.1, ai_ma r.2 p.2))
    have h1 := ai_mi_ok r.1 p.1
    have h2 := ai_ma_ok r.2 p.2
    unfold ai_hu
    dsimp only at h
    refine ⟨by omega, by omega, fun q hq => ?_⟩
    rcases List.mem_cons.mp hq with rfl | hq
    · omega
    · exact h.2.2 q hq
theorem ai_tk_mem {α : Type} {l : List α} {a b j : Int} (ha : 0 ≤ a) (hb : b < (l.length : Int)) (h1 : a ≤ j) (h2 : j ≤ b) : ∃ q, l[j.toNat]? = some q ∧ q ∈ (l.drop a.toNat).take (b + 1 - a).toNat := by
  have hj : j.toNat < l.length := by omega
  refine ⟨l[j.toNat], List.getElem?_eq_getElem hj, ?_⟩
  rw [List.mem_iff_getElem?]
  refine ⟨j.toNat - a.toNat, ?_⟩
  rw [List.getElem?_take_of_lt (by omega), List.getElem?_drop, show a.toNat + (j.toNat - a.toNat) = j.toNat by omega]
  exact List.getElem?_eq_getElem hj
theorem ai_rgI_ok {k : Nat} {a b j : Int} {r : Int × Int} (hG : ai_GI T M) (h : ai_rgI T k a b = some r) (h0 : 0 ≤ j) (h1 : a ≤ j) (h2 : j ≤ b) : r.1 ≤ M k j.toNat ∧ M k j.toNat ≤ r.2 := by
  have hg := hG k j.toNat
  unfold ai_rgI at h
  unfold ai_rg at hg
  split at h
  · cases h
  · rename_i p hp
    rw [hp] at hg
    dsimp only at hg
    split at h
    · rename_i hu
      rw [hu] at hg
      dsimp only at hg
      split at h
      · rename_i q t hq
        rw [hq] at hg
        cases h
        exact hg
      · cases h
    · rename_i hu
      rw [hu] at hg
      dsimp only at hg
      split at h
      · rename_i hc
        rw [Bool.and_eq_true, decide_eq_true_eq, decide_eq_true_eq] at hc
        obtain ⟨q, e1, e2⟩ := ai_tk_mem hc.1 hc.2 h1 h2
        rw [e1] at hg
        dsimp only at hg
        split at h
        · cases h
        · rename_i q0 t ht
          cases h
          rw [ht] at e2
          have hh := ai_hu_ok (l := t) (r := q0)
          rcases List.mem_cons.mp e2 with rfl | e2
          · omega
          · have := hh.2.2 q e2
            omega
      · cases h
theorem ai_ov_ok {S : ai_S} {k : Nat} {a b j : Int} {v : ai_L} (h : ai_ov T S k a b v = true) (o : ai_Ok T w M0 ρ S M) (h1 : a ≤ j) (h2 : j ≤ b) : (ai_rg T k j.toNat).1 ≤ ai_va ρ v ∧ ai_va ρ v ≤ (ai_rg T k j.toNat).2 := by
  unfold ai_ov at h
  unfold ai_rg
  split at h
  · cases h
  · rename_i p hp
    rw [hp]
    dsimp only
    split at h
    · rename_i hu
      rw [hu]
      dsimp only
      split at h
      · rename_i q t hq
        rw [hq]
        exact ai_in_ok h o
      · cases h
    · rename_i hu
      rw [hu]
      dsimp only
      rw [Bool.and_eq_true, Bool.and_eq_true, decide_eq_true_eq, decide_eq_true_eq] at h
      obtain ⟨q, e1, e2⟩ := ai_tk_mem h.1.1 h.1.2 h1 h2
      rw [e1]
      exact ai_in_ok (List.all_eq_true.mp h.2 q e2) o
theorem ai_sa_ok {k : Nat} {a b j : Int} {p : Nat → Bool} (h : ai_sa T k a b p = true) (h1 : a ≤ j) (h2 : j ≤ b) : p (ai_sl T k j.toNat) = true := by
  unfold ai_sa at h
  unfold ai_sl
  split at h
  · rename_i hu
    rw [hu]
    exact h
  · rename_i hu
    rw [hu]
    rw [Bool.and_eq_true, Bool.and_eq_true, decide_eq_true_eq, decide_eq_true_eq] at h
    have := List.all_eq_true.mp h.2 (j.toNat - a.toNat) (List.mem_range.mpr (by omega))
    rw [show 64 * k + (a.toNat + (j.toNat - a.toNat)) = 64 * k + j.toNat by omega] at this
    exact this
theorem ai_fd_ok {n : Nat} {F : List ai_F} {k : Nat} {i v : ai_L} (oF : ai_FO n ρ M F) (h : ai_fd F k i = some v) : ai_sc n v ∧ M k (ai_va ρ i).toNat = ai_va ρ v := by
  induction F with
  | nil => cases h
  | cons f r ih =>
    unfold ai_fd at h
    split at h
    · rename_i hc
      rw [Bool.and_eq_true] at hc
      cases h
      have h1 := oF f List.mem_cons_self
      rw [← Nat.eq_of_beq_eq_true hc.1, ← ai_eqL_eq hc.2]
      exact ⟨h1.2.1, h1.2.2.2⟩
    · exact ih (fun f hf => oF f (List.mem_cons_of_mem _ hf)) h
theorem ai_ld_ok {S : ai_S} {k : Nat} {i : ai_L} {kk : ai_S → ai_L → Bool} (h : ai_ld T S k i kk = true) (o : ai_Ok T w M0 ρ S M) (hi : ai_sc S.1 i) (h0 : 0 ≤ ai_va ρ i) : ai_R T w M0 M ρ S.1 (M k (ai_va ρ i).toNat) kk := by
  unfold ai_ld at h
  split at h
  · rename_i v hv
    have := ai_fd_ok o.1.2.1 hv
    exact .of o this.1 this.2.symm h
  · split at h
    · cases h
    · rename_i p hp
      have hp := ai_bd_ok hp o
      split at h
      · cases h
      · rename_i r hr
        have hr := ai_rgI_ok o.2.1 hr h0 hp.1 hp.2
        obtain ⟨ρ', S', l, hX, o', hl, hv, h⟩ := ai_fr_ok h o _ hr.1 hr.2
        obtain ⟨n, E, F, C, N⟩ := S'
        refine ⟨ρ', (n, E, (k, i, l) :: F, C, N), l, hX, ⟨⟨o'.1.1, fun f hf => ?_, o'.1.2.2⟩, o'.2⟩, hl, hv, h⟩
        rcases List.mem_cons.mp hf with rfl | hf
        · refine ⟨hX.sc hi, hl, ?_, ?_⟩
          · show 0 ≤ ai_va ρ' i
            rw [hX.va hi]
            exact h0
          · show M k (ai_va ρ' i).toNat = ai_va ρ' l
            rw [hX.va hi, hv]
        · exact o'.1.2.1 f hf
theorem ai_na_ok {S : ai_S} {i i' : ai_L} (h : ai_na S.2.1 i i' = true) (o : ai_Ok T w M0 ρ S M) : ai_va ρ i ≠ ai_va ρ i' := by
  unfold ai_na at h
  split at h
  · rename_i p hp
    have hp := ai_bd_ok hp o
    rw [ai_sub_va] at hp
    rw [Bool.or_eq_true, decide_eq_true_eq, decide_eq_true_eq] at h
    omega
  · cases h
theorem ai_kl_ok {S : ai_S} (o : ai_Ok T w M0 ρ S M) {F : List ai_F} {k : Nat} {i : ai_L} : ∀ f ∈ ai_kl S.2.1 F k i, f ∈ F ∧ (f.1 = k → ai_va ρ f.2.1 ≠ ai_va ρ i) := by
  induction F with
  | nil => intro f hf; cases hf
  | cons g r ih =>
    intro f hf
    unfold ai_kl at hf
    split at hf
    · split at hf
      · rename_i hn
        rcases List.mem_cons.mp hf with rfl | hf
        · exact ⟨List.mem_cons_self, fun _ => ai_na_ok hn o⟩
        · exact ⟨List.mem_cons_of_mem _ (ih f hf).1, (ih f hf).2⟩
      · exact ⟨List.mem_cons_of_mem _ (ih f hf).1, (ih f hf).2⟩
    · rename_i hn
      rcases List.mem_cons.mp hf with rfl | hf
      · refine ⟨List.mem_cons_self, fun e => ?_⟩
        rw [e, Nat.beq_refl] at hn
        cases hn
      · exact ⟨List.mem_cons_of_mem _ (ih f hf).1, (ih f hf).2⟩
theorem ai_st_ok {S : ai_S} {k : Nat} {i v : ai_L} {kk : ai_S → Bool} (h : ai_st T w S k i v kk = true) (o : ai_Ok T w M0 ρ S M) (hi : ai_sc S.1 i) (h0 : 0 ≤ ai_va ρ i) (hv : ai_sc S.1 v) : ∃ S', S'.1 = S.1 ∧ ai_Ok T w M0 ρ S' (stM M k (ai_va ρ i).toNat (ai_va ρ v)) ∧ kk S' = true := by
  unfold ai_st at h
  split at h
  · cases h
  · rename_i p hp
    have hp := ai_bd_ok hp o
    split at h
    · rename_i hc
      rw [Bool.and_eq_true] at hc
      have hw := ai_sa_ok hc.1 hp.1 hp.2
      have hr := ai_ov_ok hc.2 o hp.1 hp.2
      have hk := ai_kl_ok o (F := S.2.2.1) (k := k) (i := i)
      obtain ⟨n, E, F, C, N⟩ := S
      dsimp only at h
      rw [ai_fo_eq] at h
      refine ⟨(n, E, (k, i, v) :: ai_kl E F k i, C, N), rfl, ⟨⟨o.1.1, fun f hf => ?_, o.1.2.2⟩, fun k' j' => ?_, fun k' j' hs => ?_⟩, h⟩
      · rcases List.mem_cons.mp hf with rfl | hf
        · exact ⟨hi, hv, h0, if_pos ⟨rfl, rfl⟩⟩
        · obtain ⟨h1, h2⟩ := hk f hf
          have h3 := o.1.2.1 f h1
          refine ⟨h3.1, h3.2.1, h3.2.2.1, ?_⟩
          rw [stM_at, if_neg, h3.2.2.2]
          intro e
          have := h2 e.1
          have h4 := h3.2.2.1
          omega
      · rw [stM_at]
        split
        · rename_i e
          rw [e.1, e.2]
          exact hr
        · exact o.2.1 k' j'
      · rw [stM_at, if_neg, o.2.2 k' j' hs]
        intro e
        rw [e.1, e.2] at hs
        rw [hs] at hw
        cases hw
    · cases h
theorem ai_kw_ok {S : ai_S} {w' : Nat} {M' : MM} (o : ai_Ok T w M0 ρ S M) (hf : ai_Fr T w' M M') {F : List ai_F} (oF : ai_FO S.1 ρ M F) : ai_FO S.1 ρ M' (ai_kw T w' S.2.1 F) := by
  induction F with
  | nil => intro f hf; cases hf
  | cons g r ih =>
    have oF' : ai_FO S.1 ρ M r := fun f hf => oF f (List.mem_cons_of_mem _ hf)
    intro f hm
    unfold ai_kw at hm
    split at hm
    · rename_i p hp
      have hp := ai_bd_ok hp o
      split at hm
      · rename_i hs
        rcases List.mem_cons.mp hm with rfl | hm
        · have h1 := oF f List.mem_cons_self
          refine ⟨h1.1, h1.2.1, h1.2.2.1, ?_⟩
          rw [hf f.1 _ (by have := ai_sa_ok hs hp.1 hp.2; rw [Bool.not_eq_true'] at this; exact this)]
          exact h1.2.2.2
        · exact ih oF' f hm
      · exact ih oF' f hm
    · exact ih oF' f hm
/-! stack and locals -/
variable {n n' : Nat} {ρ' : Nat → Int}
theorem ai_RV.X (hX : ai_X n ρ n' ρ') {a : ai_V} {v : Vv} (h : ai_RV n ρ a v) : ai_RV n' ρ' a v := by
  rcases a with ⟨b, l⟩ | k | k
  · obtain ⟨h1, h2⟩ := h
    refine ⟨hX.sc h1, ?_⟩
    dsimp only at h2 ⊢
    rw [hX.va h1]
    exact h2
  · exact h
  · exact h
theorem ai_RS.X (hX : ai_X n ρ n' ρ') : ∀ {a : List ai_V} {v : List Vv}, ai_RS n ρ a v → ai_RS n' ρ' a v
  | [], [], _ => trivial
  | _ :: _, _ :: _, h => ⟨h.1.X hX, ai_RS.X hX h.2⟩
  | [], _ :: _, h => h
  | _ :: _, [], h => h
theorem ai_RO.X (hX : ai_X n ρ n' ρ') {a : Option ai_V} {v : Option Vv} (h : ai_RO n ρ a v) : ai_RO n' ρ' a v := by
  rcases a with _ | p | k | k
  · exact h
  · obtain ⟨v, h1, h2⟩ := h
    exact ⟨v, h1, h2.X hX⟩
  · obtain ⟨v, h1, h2⟩ := h
    exact ⟨v, h1, h2.X hX⟩
  · trivial
theorem ai_RL.X (hX : ai_X n ρ n' ρ') : ∀ {a : List (Option ai_V)} {v : LL}, ai_RL n ρ a v → ai_RL n' ρ' a v
  | [], [], _ => trivial
  | _ :: _, _ :: _, h => ⟨h.1.X hX, ai_RL.X hX h.2⟩
  | [], _ :: _, h => h
  | _ :: _, [], h => h
theorem ai_RS.i {l : ai_L} {a : List ai_V} {v : List Vv} (h : ai_RS n ρ (.inl (false, l) :: a) v) : ∃ v', v = vi (ai_va ρ l) :: v' ∧ ai_sc n l ∧ ai_RS n ρ a v' := by
  cases v with
  | nil => exact h.elim
  | cons x r =>
    obtain ⟨⟨h1, h2⟩, h3⟩ := h
    exact ⟨r, by rw [h2], h1, h3⟩
theorem ai_RS.l {l : ai_L} {a : List ai_V} {v : List Vv} (h : ai_RS n ρ (.inl (true, l) :: a) v) : ∃ v', v = vl (ai_va ρ l) :: v' ∧ ai_sc n l ∧ ai_RS n ρ a v' := by
  cases v with
  | nil => exact h.elim
  | cons x r =>
    obtain ⟨⟨h1, h2⟩, h3⟩ := h
    exact ⟨r, by rw [h2], h1, h3⟩
theorem ai_RS.r {k : Nat} {a : List ai_V} {v : List Vv} (h : ai_RS n ρ (.inr (.inl k) :: a) v) : ∃ v', v = vr k :: v' ∧ ai_RS n ρ a v' := by
  cases v with
  | nil => exact h.elim
  | cons x r =>
    obtain ⟨h2, h3⟩ := h
    exact ⟨r, by rw [show x = vr k from h2], h3⟩
theorem ai_RS.x {k : Nat} {a : List ai_V} {v : List Vv} (h : ai_RS n ρ (.inr (.inr k) :: a) v) : ∃ v', v = vx k :: v' ∧ ai_RS n ρ a v' := by
  cases v with
  | nil => exact h.elim
  | cons x r =>
    obtain ⟨h2, h3⟩ := h
    exact ⟨r, by rw [show x = vx k from h2], h3⟩
theorem ai_RS.nil {v : List Vv} (h : ai_RS n ρ [] v) : v = [] := by
  cases v with
  | nil => rfl
  | cons x r => exact h.elim
theorem ai_RL.len : ∀ {a : List (Option ai_V)} {v : LL}, ai_RL n ρ a v → a.length = v.length
  | [], [], _ => rfl
  | _ :: _, _ :: _, h => congrArg (· + 1) (ai_RL.len h.2)
  | [], _ :: _, h => h.elim
  | _ :: _, [], h => h.elim
theorem ai_RL.at : ∀ {a : List (Option ai_V)} {v : LL} {i : Nat} {o : Option ai_V}, ai_RL n ρ a v → a[i]? = some o → ∃ w, v[i]? = some w ∧ ai_RO n ρ o w
  | [], [], _, _, _, e => by cases e
  | x :: as, y :: vs, 0, o, h, e => by
    cases e
    exact ⟨y, rfl, h.1⟩
  | x :: as, y :: vs, i + 1, o, h, e => ai_RL.at (i := i) h.2 e
  | [], _ :: _, _, _, h, _ => h.elim
  | _ :: _, [], _, _, h, _ => h.elim
theorem ai_RL.set {o : Option ai_V} {w : Option Vv} (ho : ai_RO n ρ o w) : ∀ {a : List (Option ai_V)} {v : LL} {i : Nat}, ai_RL n ρ a v → ai_RL n ρ (a.set i o) (v.set i w)
  | [], [], _, _ => trivial
  | x :: as, y :: vs, 0, h => ⟨ho, h.2⟩
  | x :: as, y :: vs, i + 1, h => ⟨h.1, ai_RL.set ho (i := i) h.2⟩
  | [], _ :: _, _, h => h.elim
  | _ :: _, [], _, h => h.elim
theorem ai_okA_ok {a : List (Option ai_V)} {v : LL} {i : Nat} (h : ai_RL n ρ a v) (hk : ai_okA a i = true) : okSt v i = true := by
  cases i with
  | zero => rfl
  | succ j =>
    unfold okSt
    dsimp only
    split
    · rename_i x hx
      exfalso
      have hj : j < a.length := by rw [h.len]; exact (List.getElem?_eq_some_iff.mp hx).1
      obtain ⟨w, h1, h2⟩ := h.at (List.getElem?_eq_getElem hj)
      rw [hx] at h1
      cases h1
      unfold ai_okA at hk
      dsimp only at hk
      rw [List.getElem?_eq_getElem hj] at hk
      generalize a[j] = o at h2 hk
      rcases o with _ | ⟨b, l⟩ | k | k
      · exact h2 x rfl
      · obtain ⟨v, e1, e2, e3⟩ := h2
        cases e1
        cases b
        · cases e3
        · cases hk
      · obtain ⟨v, e1, e2⟩ := h2
        cases e1
        cases e2
      · cases hk
    · rfl
end AXCELL
