/-! PART 26: what is written at a method's entry, at its loops' heads and its ends; how a state fits it -/
def ai_d1 (n : Nat) (d : ai_D) : Option ai_V := match d.1 with
  | 0 => none
  | 1 => some (.inl (false, ai_s n))
  | 2 => some (.inl (true, ai_s n))
  | 3 => some (.inr (.inl d.2.1))
  | 4 => some (.inr (.inr d.2.1))
  | 5 => some (.inl (false, d.2.2))
  | _ => some (.inl (true, d.2.2))
def ai_dn (d : ai_D) : Nat := match d.1 with
  | 1 => 1
  | 2 => 1
  | _ => 0
def ai_bL (n : Nat) (l : List ai_D) : List (Option ai_V) := match l with
  | [] => []
  | d :: r => ai_d1 n d :: ai_bL (n + ai_dn d) r
def ai_nL (n : Nat) (l : List ai_D) : Nat := match l with
  | [] => n
  | d :: r => ai_nL (n + ai_dn d) r
def ai_bF (n : Nat) (l : List (Nat × ai_L)) : List ai_F := match l with
  | [] => []
  | c :: r => (c.1, c.2, ai_s n) :: ai_bF (n + 1) r
def ai_aS (n : Nat) (A : ai_A) : ai_S := (ai_nL n A.1 + A.2.1.length, A.2.2.1, ai_bF (ai_nL n A.1) A.2.1, A.2.2.2.1, A.2.2.2.2)
/-- a form over the symbols of an annotation, in a state's symbols -/
def ai_sb (σ : List ai_L) (l : List (Int × Nat)) (c : Int) : Option ai_L := match l with
  | [] => some ([], c)
  | p :: r => match σ[p.2]? with
    | none => none
    | some x => match ai_sb σ r c with
      | none => none
      | some y => some (ai_add (ai_mul p.1 x) y)
def ai_n0 (a : Option ai_V) : Option (List ai_L) := match a with
  | some (.inl (true, _)) => none
  | some (.inl (false, _)) => some []
  | some (.inr (.inl _)) => some []
  | some (.inr (.inr _)) => none
  | none => some []
def ai_n1 (a : Option ai_V) : Option (List ai_L) := match a with
  | some (.inl (false, l)) => some [l]
  | _ => none
def ai_n2 (a : Option ai_V) : Option (List ai_L) := match a with
  | some (.inl (true, l)) => some [l]
  | _ => none
def ai_n3 (k : Nat) (a : Option ai_V) : Option (List ai_L) := match a with
  | some (.inr (.inl k')) => match Nat.beq k' k with
    | true => some []
    | false => none
  | _ => none
def ai_n4 (_ : Nat) (_ : Option ai_V) : Option (List ai_L) := some []
def ai_nq (σ : List ai_L) (l l' : ai_L) : Option (List ai_L) := match ai_sb σ l.1 l.2 with
  | some y => match ai_eqL y l' with
    | true => some []
    | false => none
  | none => none
def ai_n5 (σ : List ai_L) (l : ai_L) (a : Option ai_V) : Option (List ai_L) := match a with
  | some (.inl (false, l')) => ai_nq σ l l'
  | _ => none
def ai_n6 (σ : List ai_L) (l : ai_L) (a : Option ai_V) : Option (List ai_L) := match a with
  | some (.inl (true, l')) => ai_nq σ l l'
  | _ => none
def ai_m1 (σ : List ai_L) (d : ai_D) (a : Option ai_V) : Option (List ai_L) := match d.1 with
  | 0 => ai_n0 a
  | 1 => ai_n1 a
  | 2 => ai_n2 a
  | 3 => ai_n3 d.2.1 a
  | 4 => ai_n4 d.2.1 a
  | 5 => ai_n5 σ d.2.2 a
  | _ => ai_n6 σ d.2.2 a
def ai_mL (σ : List ai_L) (ds : List ai_D) (aL : List (Option ai_V)) : Option (List ai_L) := match ds, aL with
  | [], [] => some σ
  | d :: r, a :: as => match ai_m1 σ d a with
    | some e => ai_mL (σ ++ e) r as
    | none => none
  | _, _ => none
def ai_mF (T : ai_T) (σ : List ai_L) (S : ai_S) (cs : List (Nat × ai_L)) (k : ai_S → List ai_L → Bool) : Bool := match cs with
  | [] => k S σ
  | c :: r => match ai_sb σ c.2.1 c.2.2 with
    | none => false
    | some i => ai_fl i fun i => match ai_ge 2 S.2.1 S.2.2.2.1 i with
      | false => false
      | true => ai_ld T S c.1 i fun S' v => ai_fo (σ ++ [v]) fun σ => ai_mF T σ S' r k
def ai_mE (S : ai_S) (σ : List ai_L) (B : List ai_I × List ai_L × List ai_L) : Bool := B.1.all (fun q => match σ[q.1]? with
  | some x => ai_in q.2.1 q.2.2 S x
  | none => false) && (B.2.1.all (fun c => match ai_sb σ c.1 c.2 with
  | some y => ai_ge 2 S.2.1 S.2.2.2.1 y
  | none => false) && B.2.2.all (fun c => match ai_sb σ c.1 c.2 with
  | some y => ai_nz S y
  | none => false))
def ai_ck (T : ai_T) (S : ai_S) (σ : List ai_L) (A : ai_A) (aL : List (Option ai_V)) (k : ai_S → List ai_L → Bool) : Bool := match ai_mL σ A.1 aL with
  | none => false
  | some σ1 => ai_fo σ1 fun σ1 => ai_mF T σ1 S A.2.1 fun S' σ2 => ai_mE S' σ2 A.2.2 && k S' σ2
def ai_Sc (n : Nat) (σ : List ai_L) : Prop := ∀ x ∈ σ, ai_sc n x
/-- the annotation's symbols are these forms' values -/
def ai_Sv (ρ : Nat → Int) (σ : List ai_L) (ρn : Nat → Int) : Prop := ∀ s x, σ[s]? = some x → ρn s = ai_va ρ x
def ai_rs (ρ : Nat → Int) (σ : List ai_L) : Nat → Int := fun s => match σ[s]? with
  | some x => ai_va ρ x
  | none => 0
theorem ai_rs_Sv (ρ : Nat → Int) (σ : List ai_L) : ai_Sv ρ σ (ai_rs ρ σ) := fun s x h => by
  unfold ai_rs
  rw [h]
theorem ai_Sv.pre {ρ ρn : Nat → Int} {σ e : List ai_L} (h : ai_Sv ρ (σ ++ e) ρn) : ai_Sv ρ σ ρn := fun s x hs => h s x (by
  rw [List.getElem?_append_left (List.getElem?_eq_some_iff.mp hs).1]
  exact hs)
theorem ai_Sc.X {n n' : Nat} {ρ ρ' : Nat → Int} {σ : List ai_L} (h : ai_Sc n σ) (hX : ai_X n ρ n' ρ') : ai_Sc n' σ := fun x hx => hX.sc (h x hx)
theorem ai_Sc.app {n : Nat} {σ : List ai_L} {v : ai_L} (h : ai_Sc n σ) (hv : ai_sc n v) : ai_Sc n (σ ++ [v]) := fun x hx => by
  rcases List.mem_append.mp hx with hx | hx
  · exact h x hx
  · rw [List.mem_singleton.mp hx]
    exact hv
theorem ai_sb_ok {n : Nat} {σ : List ai_L} (hσ : ai_Sc n σ) {l : List (Int × Nat)} {c : Int} {y : ai_L} (h : ai_sb σ l c = some y) : ai_sc n y ∧ ai_scT σ.length l ∧ ∀ ρ ρn, ai_Sv ρ σ ρn → ai_va ρ y = ai_vaT ρn l + c := by
  induction l generalizing y with
  | nil =>
    cases h
    exact ⟨trivial, trivial, fun ρ ρn _ => rfl⟩
  | cons p r ih =>
    unfold ai_sb at h
    split at h
    · cases h
    · rename_i x hx
      split at h
      · cases h
      · rename_i z hz
        cases h
        obtain ⟨h1, h2, h3⟩ := ih hz
        have hm : x ∈ σ := List.mem_of_getElem? hx
        refine ⟨ai_add_sc (ai_mul_sc (hσ x hm)) h1, ⟨(List.getElem?_eq_some_iff.mp hx).1, h2⟩, fun ρ ρn hv => ?_⟩
        rw [ai_add_va, ai_mul_va, h3 ρ ρn hv, ← hv _ _ hx]
        show _ = p.1 * ρn p.2 + ai_vaT ρn r + c
        omega
section AXANN
variable {T : ai_T} {w : Nat} {M0 M : MM} {ρ : Nat → Int}
theorem ai_nq_ok {n : Nat} {σ e : List ai_L} {l l' : ai_L} (h : ai_nq σ l l' = some e) (hσ : ai_Sc n σ) : e = [] ∧ ai_sc σ.length l ∧ ∀ ρn, ai_Sv ρ σ ρn → ai_va ρn l = ai_va ρ l' := by
  unfold ai_nq at h
  split at h
  · rename_i y hy
    split at h
    · rename_i he
      cases h
      have hs := ai_sb_ok hσ hy
      rw [← ai_eqL_eq he]
      exact ⟨rfl, hs.2.1, fun ρn hS => (hs.2.2 ρ ρn hS).symm⟩
    · cases h
  · cases h
theorem ai_Sc.nil (n : Nat) : ai_Sc n [] := fun x hx => absurd hx List.not_mem_nil
theorem ai_m1_ok {n : Nat} {σ e : List ai_L} {d : ai_D} {a : Option ai_V} {v : Option Vv} (h : ai_m1 σ d a = some e) (hv : ai_RO n ρ a v) (hσ : ai_Sc n σ) : ai_Sc n e ∧ e.length = ai_dn d ∧ ∀ N ρn, σ.length + e.length ≤ N → ai_Sv ρ (σ ++ e) ρn → ai_RO N ρn (ai_d1 σ.length d) v := by
  obtain ⟨t, k, l⟩ := d
  revert h
  match t with
  | 0 =>
    intro h
    replace h : ai_n0 a = some e := h
    have e0 : e = [] ∧ ∀ x, v ≠ some (vl x) := by
      rcases a with _ | ⟨b, l'⟩ | k' | k'
      · cases h
        exact ⟨rfl, hv⟩
      · obtain ⟨v', e1, e2, e3⟩ := hv
        cases b
        · cases h
          exact ⟨rfl, fun x hx => by rw [hx] at e1; cases e1; cases e3⟩
        · cases h
      · obtain ⟨v', e1, e2⟩ := hv
        cases h
        exact ⟨rfl, fun x hx => by rw [hx] at e1; cases e1; cases e2⟩
      · cases h
    rw [e0.1]
    exact ⟨ai_Sc.nil _, rfl, fun N ρn _ _ => e0.2⟩
  | 1 =>
    intro h
    replace h : ai_n1 a = some e := h
    unfold ai_n1 at h
    split at h
    · rename_i l'
      cases h
      obtain ⟨v', e1, e2, e3⟩ := hv
      refine ⟨fun x hx => by rw [List.mem_singleton.mp hx]; exact e2, rfl, fun N ρn hN hS => ⟨v', e1, ai_s_sc (by have : ([l'] : List ai_L).length = 1 := rfl; omega), ?_⟩⟩
      rw [e3]
      show vi _ = vi _
      rw [ai_s_va, hS σ.length l' (by rw [List.getElem?_append_right (Nat.le_refl _), Nat.sub_self]; rfl)]
    · cases h
  | 2 =>
    intro h
    replace h : ai_n2 a = some e := h
    unfold ai_n2 at h
    split at h
    · rename_i l'
      cases h
      obtain ⟨v', e1, e2, e3⟩ := hv
      refine ⟨fun x hx => by rw [List.mem_singleton.mp hx]; exact e2, rfl, fun N ρn hN hS => ⟨v', e1, ai_s_sc (by have : ([l'] : List ai_L).length = 1 := rfl; omega), ?_⟩⟩
      rw [e3]
      show vl _ = vl _
      rw [ai_s_va, hS σ.length l' (by rw [List.getElem?_append_right (Nat.le_refl _), Nat.sub_self]; rfl)]
    · cases h
  | 3 =>
    intro h
    replace h : ai_n3 k a = some e := h
    unfold ai_n3 at h
    split at h
    · rename_i k'
      split at h
      · rename_i hk
        cases h
        rw [Nat.eq_of_beq_eq_true hk] at hv
        exact ⟨ai_Sc.nil _, rfl, fun N ρn _ _ => hv⟩
      · cases h
    · cases h
  | 4 =>
    intro h
    replace h : ai_n4 k a = some e := h
    unfold ai_n4 at h
    cases h
    exact ⟨ai_Sc.nil _, rfl, fun N ρn _ _ => trivial⟩
  | 5 =>
    intro h
    replace h : ai_n5 σ l a = some e := h
    unfold ai_n5 at h
    split at h
    · rename_i l'
      obtain ⟨v', e1, e2, e3⟩ := hv
      obtain ⟨rfl, hs, hq⟩ := ai_nq_ok (ρ := ρ) h hσ
      refine ⟨ai_Sc.nil _, rfl, fun N ρn hN hS => ⟨v', e1, ai_scT_le (by have : ([] : List ai_L).length = 0 := rfl; omega) hs, ?_⟩⟩
      rw [e3]
      show vi _ = vi _
      rw [hq ρn hS.pre]
    · cases h
  | t + 6 =>
    intro h
    replace h : ai_n6 σ l a = some e := h
    unfold ai_n6 at h
    split at h
    · rename_i l'
      obtain ⟨v', e1, e2, e3⟩ := hv
      obtain ⟨rfl, hs, hq⟩ := ai_nq_ok (ρ := ρ) h hσ
      refine ⟨ai_Sc.nil _, rfl, fun N ρn hN hS => ⟨v', e1, ai_scT_le (by have : ([] : List ai_L).length = 0 := rfl; omega) hs, ?_⟩⟩
      rw [e3]
      show vl _ = vl _
      rw [hq ρn hS.pre]
    · cases h
theorem ai_mL_ok {n : Nat} : ∀ {ds : List ai_D} {σ σ1 : List ai_L} {aL : List (Option ai_V)} {L : LL}, ai_mL σ ds aL = some σ1 → ai_RL n ρ aL L → ai_Sc n σ → ai_Sc n σ1 ∧ (∃ e, σ1 = σ ++ e) ∧ σ1.length = ai_nL σ.length ds ∧ ∀ N ρn, σ1.length ≤ N → ai_Sv ρ σ1 ρn → ai_RL N ρn (ai_bL σ.length ds) L := by
  intro ds
  induction ds with
  | nil =>
    intro σ σ1 aL L h hl hσ
    cases aL with
    | nil =>
      cases h
      cases L with
      | nil => exact ⟨hσ, ⟨[], (List.append_nil _).symm⟩, rfl, fun _ _ _ _ => trivial⟩
      | cons x y => exact hl.elim
    | cons a as => cases h
  | cons d r ih =>
    intro σ σ1 aL L h hl hσ
    cases aL with
    | nil => cases h
    | cons a as =>
      cases L with
      | nil => exact hl.elim
      | cons v vs =>
        unfold ai_mL at h
        split at h
        · rename_i e he
          have h1 := ai_m1_ok he hl.1 hσ
          have h2 := ih h hl.2 (fun x hx => by
            rcases List.mem_append.mp hx with hx | hx
            · exact hσ x hx
            · exact h1.1 x hx)
          obtain ⟨g1, ⟨e2, g2⟩, g3, g4⟩ := h2
          have hlen : (σ ++ e).length = σ.length + ai_dn d := by rw [List.length_append, h1.2.1]
          refine ⟨g1, ⟨e ++ e2, by rw [g2, List.append_assoc]⟩, ?_, fun N ρn hN hS => ⟨?_, ?_⟩⟩
          · rw [g3, hlen]
            rfl
          · refine h1.2.2 N ρn ?_ ?_
            · rw [g2, List.length_append, List.length_append] at hN
              omega
            · rw [g2] at hS
              exact hS.pre
          · have := g4 N ρn hN hS
            rw [hlen] at this
            exact this
        · cases h
theorem ai_mF_ok : ∀ {cs : List (Nat × ai_L)} {σ : List ai_L} {S : ai_S} {ρ : Nat → Int} {k : ai_S → List ai_L → Bool}, ai_mF T σ S cs k = true → ai_Ok T w M0 ρ S M → ai_Sc S.1 σ → ∃ ρ' S' e, ai_X S.1 ρ S'.1 ρ' ∧ ai_Ok T w M0 ρ' S' M ∧ ai_Sc S'.1 (σ ++ e) ∧ e.length = cs.length ∧ (∀ N ρn, σ.length + e.length ≤ N → ai_Sv ρ' (σ ++ e) ρn → ai_FO N ρn M (ai_bF σ.length cs)) ∧ k S' (σ ++ e) = true := by
  intro cs
  induction cs with
  | nil =>
    intro σ S ρ k h o hσ
    refine ⟨ρ, S, [], ai_X.rf _ _, o, by rw [List.append_nil]; exact hσ, rfl, fun N ρn _ _ f hf => (by cases hf), by rw [List.append_nil]; exact h⟩
  | cons c r ih =>
    intro σ S ρ k h o hσ
    unfold ai_mF at h
    split at h
    · cases h
    · rename_i i hi
      rw [ai_fl_eq] at h
      have hs := ai_sb_ok hσ hi
      split at h
      · cases h
      · rename_i hg
        have hg := ai_ge_ok o.1.1 o.1.2.2.1 hg
        obtain ⟨ρ1, S1, v, X1, o1, c1, v1, h⟩ := ai_ld_ok h o hs.1 hg
        dsimp only at h
        rw [ai_fo_eq] at h
        obtain ⟨ρ2, S2, e, X2, o2, c2, le, f2, h⟩ := ih h o1 ((hσ.X X1).app c1)
        have e0 : σ ++ [v] ++ e = σ ++ v :: e := by rw [List.append_assoc]; rfl
        rw [e0] at c2 f2 h
        refine ⟨ρ2, S2, v :: e, X1.tr X2, o2, c2, congrArg (· + 1) le, fun N ρn hN hS f hf => ?_, h⟩
        have hl : (σ ++ [v]).length = σ.length + 1 := by rw [List.length_append]; rfl
        have hl2 : (v :: e).length = e.length + 1 := rfl
        rcases List.mem_cons.mp hf with rfl | hf
        · have q := hs.2.2 ρ2 ρn hS.pre
          have q2 : ai_va ρn c.2 = ai_va ρ i := by
            rw [(X1.tr X2).va hs.1] at q
            exact q.symm
          have q3 : ρn σ.length = ai_va ρ2 v := hS σ.length v (by rw [List.getElem?_append_right (Nat.le_refl _), Nat.sub_self]; rfl)
          refine ⟨ai_scT_le (by omega) hs.2.1, ai_s_sc (by omega), by rw [q2]; exact hg, ?_⟩
          show M c.1 (ai_va ρn c.2).toNat = ai_va ρn (ai_s σ.length)
          rw [q2, ai_s_va, q3, X2.va c1, v1]
        · exact f2 N ρn (by omega) hS f (by rw [hl]; exact hf)
theorem ai_mE_ok {S : ai_S} {σ : List ai_L} {ρn : Nat → Int} {B : List ai_I × List ai_L × List ai_L} (h : ai_mE S σ B = true) (o : ai_Ok T w M0 ρ S M) (hσ : ai_Sc S.1 σ) (hS : ai_Sv ρ σ ρn) : ai_EO σ.length ρn B.1 ∧ ai_CO σ.length ρn B.2.1 ∧ ai_NO σ.length ρn B.2.2 := by
  unfold ai_mE at h
  rw [Bool.and_eq_true, Bool.and_eq_true, List.all_eq_true, List.all_eq_true, List.all_eq_true] at h
  refine ⟨fun q hq => ?_, fun c hc => ?_, fun c hc => ?_⟩
  · have := h.1 q hq
    split at this
    · rename_i x hx
      have h1 := ai_in_ok this o
      rw [hS _ _ hx]
      exact ⟨(List.getElem?_eq_some_iff.mp hx).1, h1⟩
    · cases this
  · have := h.2.1 c hc
    split at this
    · rename_i y hy
      have h1 := ai_sb_ok hσ hy
      have h2 := ai_ge_ok o.1.1 o.1.2.2.1 this
      rw [h1.2.2 ρ ρn hS] at h2
      exact ⟨h1.2.1, h2⟩
    · cases this
  · have := h.2.2 c hc
    split at this
    · rename_i y hy
      have h1 := ai_sb_ok hσ hy
      have h2 := ai_nz_ok this o
      rw [h1.2.2 ρ ρn hS] at h2
      exact ⟨h1.2.1, h2⟩
    · cases this
theorem ai_ck_ok {S : ai_S} {σ : List ai_L} {A : ai_A} {aL : List (Option ai_V)} {L : LL} {k : ai_S → List ai_L → Bool} (h : ai_ck T S σ A aL k = true) (o : ai_Ok T w M0 ρ S M) (hl : ai_RL S.1 ρ aL L) (hσ : ai_Sc S.1 σ) : ∃ ρ' S' e, ai_X S.1 ρ S'.1 ρ' ∧ ai_Ok T w M0 ρ' S' M ∧ ai_Sc S'.1 (σ ++ e) ∧ (σ ++ e).length = (ai_aS σ.length A).1 ∧ ai_RL (ai_aS σ.length A).1 (ai_rs ρ' (σ ++ e)) (ai_bL σ.length A.1) L ∧ ai_K (ai_rs ρ' (σ ++ e)) (ai_aS σ.length A) M ∧ k S' (σ ++ e) = true := by
  unfold ai_ck at h
  split at h
  · cases h
  · rename_i σ1 h1
    rw [ai_fo_eq] at h
    obtain ⟨g1, ⟨e1, g2⟩, g3, g4⟩ := ai_mL_ok h1 hl hσ
    obtain ⟨ρ', S', e, X1, o1, c1, le, f1, h⟩ := ai_mF_ok h o g1
    rw [Bool.and_eq_true] at h
    have e0 : σ1 ++ e = σ ++ (e1 ++ e) := by rw [g2, List.append_assoc]
    have hlen : (σ1 ++ e).length = (ai_aS σ.length A).1 := by
      rw [List.length_append, g3, le]
      rfl
    have hS : ai_Sv ρ' (σ1 ++ e) (ai_rs ρ' (σ1 ++ e)) := ai_rs_Sv _ _
    have hE := ai_mE_ok h.1 o1 c1 hS
    rw [hlen] at hE
    refine ⟨ρ', S', e1 ++ e, X1, o1, by rw [← e0]; exact c1, by rw [← e0]; exact hlen, ?_, ?_, by rw [← e0]; exact h.2⟩
    · rw [← e0]
      refine g4 _ _ ?_ (fun s x hs => ?_)
      · rw [← hlen, List.length_append]
        omega
      · rw [hS.pre s x hs]
        exact X1.va (g1 x (List.mem_of_getElem? hs))
    · rw [← e0]
      refine ⟨hE.1, ?_, hE.2.1, hE.2.2⟩
      have := f1 (ai_aS σ.length A).1 _ (by rw [← hlen, List.length_append]; omega) hS
      rw [g3] at this
      exact this
end AXANN
