/-! PART 22: the checker's states: what a branch tells, new symbols, cells read and written -/
def ai_big : Int × Int := (-9223372036854775808, 9223372036854775807)
def ai_rg (T : ai_T) (k j : Nat) : Int × Int := match T[k]? with
  | some p => match p.1 with
    | true => match p.2 with
      | q :: _ => q
      | [] => ai_big
    | false => match p.2[j]? with
      | some q => q
      | none => ai_big
  | none => ai_big
def ai_un (T : ai_T) (k : Nat) : Bool := match T[k]? with
  | some p => p.1
  | none => false
/-- the slot of a cell -/
def ai_sl (T : ai_T) (k j : Nat) : Nat := match ai_un T k with
  | true => 64 * k
  | false => 64 * k + j
def ai_GI (T : ai_T) (M : MM) : Prop := ∀ k j, (ai_rg T k j).1 ≤ M k j ∧ M k j ≤ (ai_rg T k j).2
def ai_Fr (T : ai_T) (w : Nat) (M M' : MM) : Prop := ∀ k j, w.testBit (ai_sl T k j) = false → M' k j = M k j
def ai_FO (n : Nat) (ρ : Nat → Int) (M : MM) (F : List ai_F) : Prop := ∀ f ∈ F, ai_sc n f.2.1 ∧ ai_sc n f.2.2 ∧ 0 ≤ ai_va ρ f.2.1 ∧ M f.1 (ai_va ρ f.2.1).toNat = ai_va ρ f.2.2
def ai_K (ρ : Nat → Int) (S : ai_S) (M : MM) : Prop := ai_EO S.1 ρ S.2.1 ∧ ai_FO S.1 ρ M S.2.2.1 ∧ ai_CO S.1 ρ S.2.2.2.1 ∧ ai_NO S.1 ρ S.2.2.2.2
def ai_Ok (T : ai_T) (w : Nat) (M0 : MM) (ρ : Nat → Int) (S : ai_S) (M : MM) : Prop := ai_K ρ S M ∧ ai_GI T M ∧ ai_Fr T w M0 M
/-- tighter ranges out of a form that is not negative; U is a bound of it -/
def ai_tig (U : Int) (l : List (Int × Nat)) (E0 E : List ai_I) (k : List ai_I → Bool) : Bool := match l with
  | [] => k E
  | p :: r => match ai_lk E0 p.2 with
    | none => ai_tig U r E0 E k
    | some q => match decide (0 < p.1) with
      | true => ai_fi (q.2 - U / p.1) fun lo => match decide (q.1 < lo) with
        | true => ai_tig U r E0 ((p.2, lo, q.2) :: E) k
        | false => ai_tig U r E0 E k
      | false => match decide (p.1 < 0) with
        | true => ai_fi (q.1 + U / (-p.1)) fun hi => match decide (hi < q.2) with
          | true => ai_tig U r E0 ((p.2, q.1, hi) :: E) k
          | false => ai_tig U r E0 E k
        | false => ai_tig U r E0 E k
def ai_as (S : ai_S) (x : ai_L) (k : ai_S → Bool) : Bool := match S with
  | (n, E, F, C, N) => match ai_ge 1 E C (ai_ad1 (ai_neg x) (-1)) with
    | true => true
    | false => match ai_ub E x with
      | none => k (n, E, F, C, N)
      | some U => ai_fi U fun U => ai_tig U x.1 E E fun E' => match x.1 with
        | [] => k (n, E', F, C, N)
        | _ :: [] => k (n, E', F, C, N)
        | _ :: _ :: _ => ai_fl x fun x => k (n, E', F, x :: C, N)
def ai_mN (N : List ai_L) (z : ai_L) : Bool := N.any (fun y => ai_eqL y z)
def ai_eq (S : ai_S) (z : ai_L) (k : ai_S → Bool) : Bool := match ai_mN S.2.2.2.2 z with
  | true => true
  | false => ai_as S z fun S => ai_as S (ai_neg z) k
def ai_ne (S : ai_S) (z : ai_L) (k : ai_S → Bool) : Bool := match ai_lb S.2.1 z with
  | none => k S
  | some l => match decide (l = 0) with
    | true => ai_as S (ai_ad1 z (-1)) k
    | false => match ai_ub S.2.1 z with
      | none => k S
      | some u => match decide (u = 0) with
        | true => ai_as S (ai_ad1 (ai_neg z) (-1)) k
        | false => match decide (0 < l) || decide (u < 0) with
          | true => k S
          | false => ai_fl z fun z => ai_fl (ai_neg z) fun z' => match S with
            | (n, E, F, C, N) => k (n, E, F, C, z :: z' :: N)
def ai_cm (b : Nat) (S : ai_S) (x y : ai_L) (k : ai_S → Bool) : Bool := match b with
  | 0 => ai_eq S (ai_sub x y) k
  | 1 => ai_ne S (ai_sub x y) k
  | 2 => ai_as S (ai_ad1 (ai_sub y x) (-1)) k
  | 3 => ai_as S (ai_sub x y) k
  | 4 => ai_as S (ai_ad1 (ai_sub x y) (-1)) k
  | _ => ai_as S (ai_sub y x) k
def ai_ng (b : Nat) : Nat := match b with
  | 0 => 1
  | 1 => 0
  | 2 => 3
  | 3 => 2
  | 4 => 5
  | _ => 4
/-- a new symbol -/
def ai_fr (S : ai_S) (lo hi : Int) (k : ai_S → ai_L → Bool) : Bool := ai_fi lo fun lo => ai_fi hi fun hi => match decide (lo = hi) with
  | true => k S (ai_c lo)
  | false => match S with
    | (n, E, F, C, N) => ai_fn (n + 1) fun n' => k (n', (n, lo, hi) :: E, F, C, N) (ai_s n)
section AXST
variable {T : ai_T} {w : Nat} {M0 M : MM} {ρ : Nat → Int}
theorem ai_tig_ok {n : Nat} {U : Int} {E0 : List ai_I} (h0 : ai_EO n ρ E0) {x : Int} (hx : 0 ≤ x) : ∀ (l : List (Int × Nat)) (E : List ai_I) (k : List ai_I → Bool), ai_EO n ρ E → (∀ p ∈ l, ∀ q, ai_lk E0 p.2 = some q → (0 ≤ p.1 → x ≤ U - p.1 * q.2 + p.1 * ρ p.2) ∧ (p.1 < 0 → x ≤ U - p.1 * q.1 + p.1 * ρ p.2)) → ai_tig U l E0 E k = true → ∃ E', ai_EO n ρ E' ∧ k E' = true := by
  intro l
  induction l with
  | nil => intro E k hE _ h; exact ⟨E, hE, h⟩
  | cons p r ih =>
    intro E k hE hp h
    have hp' : ∀ p ∈ r, ∀ q, ai_lk E0 p.2 = some q → (0 ≤ p.1 → x ≤ U - p.1 * q.2 + p.1 * ρ p.2) ∧ (p.1 < 0 → x ≤ U - p.1 * q.1 + p.1 * ρ p.2) := fun p hm => hp p (List.mem_cons_of_mem _ hm)
    unfold ai_tig at h
    split at h
    · exact ih _ _ hE hp' h
    · rename_i q hq
      have hk := ai_lk_ok h0 hq
      have hb := hp p List.mem_cons_self q hq
      split at h
      · rename_i ha
        have ha := of_decide_eq_true ha
        rw [ai_fi_eq] at h
        split at h
        · refine ih _ _ (fun z hz => ?_) hp' h
          rcases List.mem_cons.mp hz with rfl | hz
          · refine ⟨hk.2.2, ?_, hk.2.1⟩
            have h1 := hb.1 (by omega)
            show q.2 - U / p.1 ≤ ρ p.2
            have h2 : p.1 * (q.2 - ρ p.2) ≤ U := by rw [Int.mul_sub]; omega
            have h3 : (q.2 - ρ p.2) ≤ U / p.1 := Int.le_ediv_of_mul_le ha (by rw [Int.mul_comm]; exact h2)
            omega
          · exact hE z hz
        · exact ih _ _ hE hp' h
      · split at h
        · rename_i ha
          have ha := of_decide_eq_true ha
          rw [ai_fi_eq] at h
          split at h
          · refine ih _ _ (fun z hz => ?_) hp' h
            rcases List.mem_cons.mp hz with rfl | hz
            · refine ⟨hk.2.2, hk.1, ?_⟩
              have h1 := hb.2 ha
              show ρ p.2 ≤ q.1 + U / (-p.1)
              have h2 : (-p.1) * (ρ p.2 - q.1) ≤ U := by rw [Int.mul_sub, Int.neg_mul, Int.neg_mul]; omega
              have h3 : (ρ p.2 - q.1) ≤ U / (-p.1) := Int.le_ediv_of_mul_le (by omega) (by rw [Int.mul_comm]; exact h2)
              omega
            · exact hE z hz
          · exact ih _ _ hE hp' h
        · exact ih _ _ hE hp' h
theorem ai_ubT_at {n : Nat} {E : List ai_I} (h : ai_EO n ρ E) : ∀ {l : List (Int × Nat)} {c U : Int}, ai_ubT E l c = some U → ∀ p ∈ l, ∀ q, ai_lk E p.2 = some q → (0 ≤ p.1 → ai_vaT ρ l + c ≤ U - p.1 * q.2 + p.1 * ρ p.2) ∧ (p.1 < 0 → ai_vaT ρ l + c ≤ U - p.1 * q.1 + p.1 * ρ p.2) := by
  intro l
  induction l with
  | nil => intro c U _ p hp; cases hp
  | cons a r ih =>
    intro c U e p hp q hq
    have e0 := e
    unfold ai_ubT at e
    split at e
    · cases e
    · rename_i q' hq'
      have hk := ai_lk_ok h hq'
      show (0 ≤ p.1 → a.1 * ρ a.2 + ai_vaT ρ r + c ≤ U - p.1 * q.2 + p.1 * ρ p.2) ∧ (p.1 < 0 → a.1 * ρ a.2 + ai_vaT ρ r + c ≤ U - p.1 * q.1 + p.1 * ρ p.2)
      rcases List.mem_cons.mp hp with rfl | hp
      · have e2 : q = q' := Option.some.inj (hq.symm.trans hq')
        subst e2
        have h1 := ai_ubT_ok h e
        split at h1
        · rename_i hh
          have hh := of_decide_eq_true hh
          exact ⟨fun _ => by omega, fun hn => by omega⟩
        · rename_i hh
          have hh := of_decide_eq_false hh
          exact ⟨fun hn => by omega, fun _ => by omega⟩
      · have h1 := ih e p hp q hq
        split at h1
        · rename_i hh
          have := ai_mulp (of_decide_eq_true hh) hk.2.1
          exact ⟨fun hn => by have := h1.1 hn; omega, fun hn => by have := h1.2 hn; omega⟩
        · rename_i hh
          have := ai_muln (a := a.1) (by have := of_decide_eq_false hh; omega) hk.1
          exact ⟨fun hn => by have := h1.1 hn; omega, fun hn => by have := h1.2 hn; omega⟩
/-- a form that is not negative -/
theorem ai_as_ok {S : ai_S} {x : ai_L} {k : ai_S → Bool} (h : ai_as S x k = true) (o : ai_Ok T w M0 ρ S M) (hs : ai_sc S.1 x) (hx : 0 ≤ ai_va ρ x) : ∃ S', S'.1 = S.1 ∧ ai_Ok T w M0 ρ S' M ∧ k S' = true := by
  obtain ⟨n, E, F, C, N⟩ := S
  obtain ⟨⟨oE, oF, oC, oN⟩, oG, oR⟩ := o
  unfold ai_as at h
  dsimp only at h
  split at h
  · rename_i hg
    have := ai_ge_ok oE oC hg
    rw [ai_ad1_va, ai_neg_va] at this
    omega
  · split at h
    · exact ⟨_, rfl, ⟨⟨oE, oF, oC, oN⟩, oG, oR⟩, h⟩
    · rename_i U hU
      rw [ai_fi_eq] at h
      obtain ⟨E', hE', h⟩ := ai_tig_ok (x := ai_va ρ x) oE hx _ _ _ oE (fun p hp q hq => ai_ubT_at oE hU p hp q hq) h
      split at h
      · exact ⟨(n, E', F, C, N), rfl, ⟨⟨hE', oF, oC, oN⟩, oG, oR⟩, h⟩
      · exact ⟨(n, E', F, C, N), rfl, ⟨⟨hE', oF, oC, oN⟩, oG, oR⟩, h⟩
      · rw [ai_fl_eq] at h
        refine ⟨(n, E', F, x :: C, N), rfl, ⟨⟨hE', oF, fun z hz => ?_, oN⟩, oG, oR⟩, h⟩
        rcases List.mem_cons.mp hz with rfl | hz
        · exact ⟨hs, hx⟩
        · exact oC z hz
theorem ai_mN_ok {n : Nat} {N : List ai_L} (oN : ai_NO n ρ N) {z : ai_L} (h : ai_mN N z = true) : ai_va ρ z ≠ 0 := by
  unfold ai_mN at h
  rw [List.any_eq_true] at h
  obtain ⟨y, hy, h⟩ := h
  rw [← ai_eqL_eq h]
  exact (oN y hy).2
theorem ai_eq_ok {S : ai_S} {z : ai_L} {k : ai_S → Bool} (h : ai_eq S z k = true) (o : ai_Ok T w M0 ρ S M) (hs : ai_sc S.1 z) (hz : ai_va ρ z = 0) : ∃ S', S'.1 = S.1 ∧ ai_Ok T w M0 ρ S' M ∧ k S' = true := by
  unfold ai_eq at h
  split at h
  · rename_i hn
    exact absurd hz (ai_mN_ok o.1.2.2.2 hn)
  · obtain ⟨S1, e1, o1, h1⟩ := ai_as_ok h o hs (by omega)
    obtain ⟨S2, e2, o2, h2⟩ := ai_as_ok h1 o1 (by rw [e1]; exact ai_neg_sc hs) (by rw [ai_neg_va]; omega)
    exact ⟨S2, e2.trans e1, o2, h2⟩
theorem ai_ne_ok {S : ai_S} {z : ai_L} {k : ai_S → Bool} (h : ai_ne S z k = true) (o : ai_Ok T w M0 ρ S M) (hs : ai_sc S.1 z) (hz : ai_va ρ z ≠ 0) : ∃ S', S'.1 = S.1 ∧ ai_Ok T w M0 ρ S' M ∧ k S' = true := by
  unfold ai_ne at h
  split at h
  · exact ⟨S, rfl, o, h⟩
  · rename_i l hl
    have hl := ai_lb_ok o.1.1 hl
    split at h
    · rename_i h0
      have h0 := of_decide_eq_true h0
      exact ai_as_ok h o (ai_ad1_sc hs) (by rw [ai_ad1_va]; omega)
    · split at h
      · exact ⟨S, rfl, o, h⟩
      · rename_i u hu
        have hu := ai_ub_ok o.1.1 hu
        split at h
        · rename_i h0
          have h0 := of_decide_eq_true h0
          exact ai_as_ok h o (ai_ad1_sc (ai_neg_sc hs)) (by rw [ai_ad1_va, ai_neg_va]; omega)
        · split at h
          · exact ⟨S, rfl, o, h⟩
          · rw [ai_fl_eq, ai_fl_eq] at h
            obtain ⟨n, E, F, C, N⟩ := S
            obtain ⟨⟨oE, oF, oC, oN⟩, oG, oR⟩ := o
            refine ⟨(n, E, F, C, z :: ai_neg z :: N), rfl, ⟨⟨oE, oF, oC, fun y hy => ?_⟩, oG, oR⟩, h⟩
            rcases List.mem_cons.mp hy with rfl | hy
            · exact ⟨hs, hz⟩
            · rcases List.mem_cons.mp hy with rfl | hy
              · exact ⟨ai_neg_sc hs, by rw [ai_neg_va]; omega⟩
              · exact oN y hy
theorem ai_ng_ok {b : Nat} {x y : Int} (h : cmpB b x y = false) : cmpB (ai_ng b) x y = true := by
  match b, h with
  | 0, h => exact decide_eq_true (of_decide_eq_false h : ¬ x = y)
  | 1, h => exact decide_eq_true (by have := of_decide_eq_false (h : decide (x ≠ y) = false); omega : x = y)
  | 2, h => exact decide_eq_true (by have := of_decide_eq_false (h : decide (x < y) = false); omega : y ≤ x)
  | 3, h => exact decide_eq_true (by have := of_decide_eq_false (h : decide (y ≤ x) = false); omega : x < y)
  | 4, h => exact decide_eq_true (by have := of_decide_eq_false (h : decide (y < x) = false); omega : x ≤ y)
  | n + 5, h => exact decide_eq_true (by have := of_decide_eq_false (h : decide (x ≤ y) = false); omega : y < x)
theorem ai_cm_ok {S : ai_S} {b : Nat} {x y : ai_L} {k : ai_S → Bool} (h : ai_cm b S x y k = true) (o : ai_Ok T w M0 ρ S M) (hx : ai_sc S.1 x) (hy : ai_sc S.1 y) (hb : cmpB b (ai_va ρ x) (ai_va ρ y) = true) : ∃ S', S'.1 = S.1 ∧ ai_Ok T w M0 ρ S' M ∧ k S' = true := by
  unfold cmpB at hb
  unfold ai_cm at h
  split at h
  · have hb := of_decide_eq_true hb
    exact ai_eq_ok h o (ai_sub_sc hx hy) (by rw [ai_sub_va]; omega)
  · have hb := of_decide_eq_true hb
    exact ai_ne_ok h o (ai_sub_sc hx hy) (by rw [ai_sub_va]; omega)
  · have hb := of_decide_eq_true hb
    exact ai_as_ok h o (ai_ad1_sc (ai_sub_sc hy hx)) (by rw [ai_ad1_va, ai_sub_va]; omega)
  · have hb := of_decide_eq_true hb
    exact ai_as_ok h o (ai_sub_sc hx hy) (by rw [ai_sub_va]; omega)
  · have hb := of_decide_eq_true hb
    exact ai_as_ok h o (ai_ad1_sc (ai_sub_sc hx hy)) (by rw [ai_ad1_va, ai_sub_va]; omega)
  · rename_i h0 h1 h2 h3 h4
    have hb : ai_va ρ x ≤ ai_va ρ y := by
      split at hb
      · exact absurd rfl h0
      · exact absurd rfl h1
      · exact absurd rfl h2
      · exact absurd rfl h3
      · exact absurd rfl h4
      · exact of_decide_eq_true hb
    exact ai_as_ok h o (ai_sub_sc hy hx) (by rw [ai_sub_va]; omega)
def ai_up (ρ : Nat → Int) (n : Nat) (v : Int) : Nat → Int := fun s => if s = n then v else ρ s
theorem ai_up_X (ρ : Nat → Int) (n : Nat) (v : Int) : ai_X n ρ (n + 1) (ai_up ρ n v) := ⟨Nat.le_succ n, fun s hs => if_neg (by omega)⟩
theorem ai_up_at (ρ : Nat → Int) (n : Nat) (v : Int) : ai_up ρ n v n = v := if_pos rfl
theorem ai_EO.X {n n' : Nat} {ρ' : Nat → Int} {E : List ai_I} (h : ai_EO n ρ E) (hX : ai_X n ρ n' ρ') : ai_EO n' ρ' E := fun q hq => by
  have := h q hq
  rw [hX.2 _ this.1]
  exact ⟨Nat.lt_of_lt_of_le this.1 hX.1, this.2⟩
theorem ai_FO.X {n n' : Nat} {ρ' : Nat → Int} {F : List ai_F} (h : ai_FO n ρ M F) (hX : ai_X n ρ n' ρ') : ai_FO n' ρ' M F := fun f hf => by
  have := h f hf
  rw [hX.va this.1, hX.va this.2.1]
  exact ⟨hX.sc this.1, hX.sc this.2.1, this.2.2⟩
theorem ai_CO.X {n n' : Nat} {ρ' : Nat → Int} {C : List ai_L} (h : ai_CO n ρ C) (hX : ai_X n ρ n' ρ') : ai_CO n' ρ' C := fun x hx => by
  have := h x hx
  rw [hX.va this.1]
  exact ⟨hX.sc this.1, this.2⟩
theorem ai_NO.X {n n' : Nat} {ρ' : Nat → Int} {C : List ai_L} (h : ai_NO n ρ C) (hX : ai_X n ρ n' ρ') : ai_NO n' ρ' C := fun x hx => by
  have := h x hx
  rw [hX.va this.1]
  exact ⟨hX.sc this.1, this.2⟩
theorem ai_fr_ok {S : ai_S} {lo hi : Int} {k : ai_S → ai_L → Bool} (h : ai_fr S lo hi k = true) (o : ai_Ok T w M0 ρ S M) (v : Int) (h1 : lo ≤ v) (h2 : v ≤ hi) : ∃ ρ' S' l, ai_X S.1 ρ S'.1 ρ' ∧ ai_Ok T w M0 ρ' S' M ∧ ai_sc S'.1 l ∧ ai_va ρ' l = v ∧ k S' l = true := by
  unfold ai_fr at h
  rw [ai_fi_eq, ai_fi_eq] at h
  split at h
  · rename_i he
    have he := of_decide_eq_true he
    exact ⟨ρ, S, ai_c lo, ai_X.rf _ _, o, trivial, by rw [ai_c_va]; omega, h⟩
  · obtain ⟨n, E, F, C, N⟩ := S
    obtain ⟨⟨oE, oF, oC, oN⟩, oG, oR⟩ := o
    dsimp only at h
    rw [ai_fn_eq] at h
    have hX := ai_up_X ρ n v
    refine ⟨ai_up ρ n v, (n + 1, (n, lo, hi) :: E, F, C, N), ai_s n, hX, ⟨⟨fun q hq => ?_, oF.X hX, oC.X hX, oN.X hX⟩, oG, oR⟩, ai_s_sc (Nat.lt_succ_self n), (ai_s_va _ _).trans (ai_up_at ρ n v), h⟩
    rcases List.mem_cons.mp hq with rfl | hq
    · refine ⟨Nat.lt_succ_self n, ?_⟩
      show lo ≤ ai_up ρ n v n ∧ ai_up ρ n v n ≤ hi
      rw [ai_up_at]
      exact ⟨h1, h2⟩
    · exact oE.X hX q hq
end AXST
