/-! PART 40: contracts by hand: from the checker's words to ours and back -/
def ax_as (ρ : Nat → Int) (n : Nat) (ds : List ai_D) : List Vv := match ds with
  | [] => []
  | d :: r => match d.1 with
    | 0 => ax_as ρ n r
    | 1 => vi (ρ n) :: ax_as ρ (n + 1) r
    | 2 => vl (ρ n) :: ax_as ρ (n + 1) r
    | _ + 3 => vr d.2.1 :: ax_as ρ n r
def ax_ds (ds : List ai_D) : Bool := ds.all (fun d => Nat.ble d.1 3)
/-- the values that stand in locals -/
def ax_vs (L : LL) : List Vv := match L with
  | [] => []
  | none :: r => ax_vs r
  | some v :: r => v :: ax_vs r
theorem ax_vs_rep (m : Nat) : ax_vs (List.replicate m none) = [] := by
  induction m with
  | zero => rfl
  | succ m ih => exact ih
theorem ax_vs_ent (as : List Vv) (m : Nat) : ax_vs (argLL as ++ List.replicate m none) = as := by
  induction as with
  | nil => exact ax_vs_rep m
  | cons v r ih =>
    have e : argLL (v :: r) = (match isLv v with
      | true => [some v, none]
      | false => [some v]) ++ argLL r := rfl
    rw [e, List.append_assoc]
    cases isLv v
    · show v :: ax_vs (argLL r ++ List.replicate m none) = v :: r
      rw [ih]
    · show v :: ax_vs (argLL r ++ List.replicate m none) = v :: r
      rw [ih]
theorem ax_cnt {N : Nat} {ρ : Nat → Int} : ∀ {ds : List ai_D} {n : Nat} {L : LL}, ax_ds ds = true → ai_RL N ρ (ai_bL n ds) L → ai_ar ds ≤ (ax_vs L).length := by
  intro ds
  induction ds with
  | nil => intro n L _ _; exact Nat.zero_le _
  | cons d r ih =>
    intro n L ho h
    have ho2 : (Nat.ble d.1 3 && ax_ds r) = true := ho
    rw [Bool.and_eq_true] at ho2
    cases L with
    | nil => exact h.elim
    | cons w ws =>
      obtain ⟨h1, h2⟩ := h
      have h3 := ih ho2.2 h2
      obtain ⟨t, k, l⟩ := d
      match t, ho2.1, h1 with
      | 0, _, h1 =>
        show ai_ar r ≤ _
        cases w with
        | none => exact h3
        | some v => exact Nat.le_succ_of_le h3
      | 1, _, h1 =>
        obtain ⟨v, e, -⟩ := h1
        subst e
        exact Nat.succ_le_succ h3
      | 2, _, h1 =>
        obtain ⟨v, e, -⟩ := h1
        subst e
        exact Nat.succ_le_succ h3
      | 3, _, h1 =>
        obtain ⟨v, e, -⟩ := h1
        subst e
        exact Nat.succ_le_succ h3
      | t + 4, hb, _ => exact absurd (Nat.le_of_ble_eq_true hb) (by omega)
theorem ax_vs_eq {N : Nat} {ρ : Nat → Int} : ∀ {ds : List ai_D} {n : Nat} {L : LL}, ax_ds ds = true → ai_RL N ρ (ai_bL n ds) L → (ax_vs L).length = ai_ar ds → ax_vs L = ax_as ρ n ds := by
  intro ds
  induction ds with
  | nil =>
    intro n L _ h _
    cases L with
    | nil => rfl
    | cons w ws => exact h.elim
  | cons d r ih =>
    intro n L ho h hl
    have ho2 : (Nat.ble d.1 3 && ax_ds r) = true := ho
    rw [Bool.and_eq_true] at ho2
    cases L with
    | nil => exact h.elim
    | cons w ws =>
      obtain ⟨h1, h2⟩ := h
      have hc := ax_cnt ho2.2 h2
      obtain ⟨t, k, l⟩ := d
      match t, ho2.1, h1, h2, hc, hl with
      | 0, _, h1, h2, hc, hl =>
        have hl : (ax_vs (w :: ws)).length = ai_ar r := hl
        cases w with
        | none => exact ih (n := n) (L := ws) ho2.2 h2 hl
        | some v =>
          have : (ax_vs ws).length + 1 = ai_ar r := hl
          omega
      | 1, _, h1, h2, hc, hl =>
        obtain ⟨v, e, -, e2⟩ := h1
        subst e
        have hl : (ax_vs ws).length + 1 = ai_ar r + 1 := hl
        have h3 := ih ho2.2 h2 (by omega)
        show v :: ax_vs ws = vi (ρ n) :: ax_as ρ (n + 1) r
        rw [e2, ← ai_s_va ρ n]
        exact congrArg _ h3
      | 2, _, h1, h2, hc, hl =>
        obtain ⟨v, e, -, e2⟩ := h1
        subst e
        have hl : (ax_vs ws).length + 1 = ai_ar r + 1 := hl
        have h3 := ih ho2.2 h2 (by omega)
        show v :: ax_vs ws = vl (ρ n) :: ax_as ρ (n + 1) r
        rw [e2, ← ai_s_va ρ n]
        exact congrArg _ h3
      | 3, _, h1, h2, hc, hl =>
        obtain ⟨v, e, e2⟩ := h1
        subst e
        have hl : (ax_vs ws).length + 1 = ai_ar r + 1 := hl
        have h3 := ih ho2.2 h2 (by omega)
        show v :: ax_vs ws = vr k :: ax_as ρ n r
        rw [show v = vr k from e2]
        exact congrArg _ h3
      | t + 4, hb, _, _, _, _ => exact absurd (Nat.le_of_ble_eq_true hb) (by omega)
/-- a contract by hand -/
theorem ax_hand {T : ai_T} {J : MM → Prop} {sp : ai_P} (ho : ax_ds sp.2.1.1 = true) (H : ∀ (sc : List Int) (d : Nat) (ρ : Nat → Int) (M : MM) (Q : Vv → MM → Prop), ai_K ρ (ai_aS 0 sp.2.1) M → ai_GI T M → J M → (∀ r M1, ai_GI T M1 → ai_Fr T sp.2.2.2.1 M M1 → (∃ q ∈ sp.2.2.2.2.2.1, ai_PO sp.2.2.1 sp.2.2.2.2.1 ρ q r M1) → Q r M1) → CA FF sc YF (d + sp.2.2.2.2.2.2) sp.1 (ax_as ρ 0 sp.2.1.1) M Q) : ai_SP T J sp := fun sc d ρ M as Q _ hlen hl hK hG hJ hQ => by
  have e := ax_vs_eq ho hl (by unfold entLL; rw [ax_vs_ent]; exact hlen)
  unfold entLL at e
  rw [ax_vs_ent] at e
  rw [e]
  exact H sc d ρ M Q hK hG hJ hQ
theorem ax_poI {n0 : Nat} {ρ : Nat → Int} {lo hi x : Int} {M1 : MM} (h1 : lo ≤ x) (h2 : x ≤ hi) : ∃ q ∈ [(([(lo, hi)], [], [], []) : ai_Q)], ai_PO n0 1 ρ q (vi x) M1 := by
  refine ⟨_, List.mem_cons_self, rfl, ai_up ρ n0 x, fun s hs => if_neg (by omega), ?_, ?_, ?_, ?_, ?_⟩
  · show vi x = vi (ai_up ρ n0 x n0)
    rw [ai_up_at]
  · intro q hq
    rcases List.mem_cons.mp hq with rfl | hq
    · refine ⟨Nat.lt_succ_self n0, ?_⟩
      show lo ≤ ai_up ρ n0 x n0 ∧ ai_up ρ n0 x n0 ≤ hi
      rw [ai_up_at]
      exact ⟨h1, h2⟩
    · cases hq
  · intro f hf
    cases hf
  · intro f hf
    cases hf
  · intro f hf
    cases hf
/-! the other way: a contract is used -/
def ax_rh (l : List Int) : Nat → Int := fun s => l.getD s 0
theorem ax_i {n s : Nat} {ρ : Nat → Int} {x : Int} (h : s < n) (e : ρ s = x) : ai_RO n ρ (some (.inl (false, ai_s s))) (some (vi x)) := ⟨_, rfl, ai_s_sc h, by
  show vi x = vi _
  rw [ai_s_va, e]⟩
theorem ax_l {n s : Nat} {ρ : Nat → Int} {x : Int} (h : s < n) (e : ρ s = x) : ai_RO n ρ (some (.inl (true, ai_s s))) (some (vl x)) := ⟨_, rfl, ai_s_sc h, by
  show vl x = vl _
  rw [ai_s_va, e]⟩
theorem ax_r {n k : Nat} {ρ : Nat → Int} : ai_RO n ρ (some (.inr (.inl k))) (some (vr k)) := ⟨_, rfl, rfl⟩
theorem ax_o {n : Nat} {ρ : Nat → Int} : ai_RO n ρ none none := fun x q => by cases q
theorem ax_e0 {n : Nat} {ρ : Nat → Int} : ai_EO n ρ [] := fun _ h => by cases h
theorem ax_e1 {n s : Nat} {ρ : Nat → Int} {lo hi : Int} {l : List ai_I} (h : s < n) (h1 : lo ≤ ρ s) (h2 : ρ s ≤ hi) (t : ai_EO n ρ l) : ai_EO n ρ ((s, lo, hi) :: l) := fun q hq => by
  rcases List.mem_cons.mp hq with rfl | hq
  · exact ⟨h, h1, h2⟩
  · exact t q hq
theorem ax_f0 {n : Nat} {ρ : Nat → Int} {M : MM} : ai_FO n ρ M [] := fun _ h => by cases h
theorem ax_f1 {n s k : Nat} {ρ : Nat → Int} {M : MM} {x : ai_L} {i : Int} {l : List ai_F} (h : s < n) (hs : ∀ p ∈ x.1, p.2 < n) (e : ai_va ρ x = i) (h0 : 0 ≤ i) (hv : M k i.toNat = ρ s) (t : ai_FO n ρ M l) : ai_FO n ρ M ((k, x, ai_s s) :: l) := fun f hf => by
  rcases List.mem_cons.mp hf with rfl | hf
  · refine ⟨?_, ai_s_sc h, by rw [e]; exact h0, by rw [e, ai_s_va]; exact hv⟩
    have : ∀ (l : List (Int × Nat)), (∀ p ∈ l, p.2 < n) → ai_scT n l := by
      intro l
      induction l with
      | nil => intro _; trivial
      | cons p r ih => intro h; exact ⟨h p List.mem_cons_self, ih fun q hq => h q (List.mem_cons_of_mem _ hq)⟩
    exact this x.1 hs
  · exact t f hf
theorem ax_scT {n : Nat} : ∀ {l : List (Int × Nat)}, l.all (fun p => Nat.blt p.2 n) = true → ai_scT n l := by
  intro l
  induction l with
  | nil => intro _; trivial
  | cons p r ih =>
    intro h
    have h : (Nat.blt p.2 n && r.all (fun p => Nat.blt p.2 n)) = true := h
    rw [Bool.and_eq_true] at h
    exact ⟨Nat.le_of_ble_eq_true h.1, ih h.2⟩
theorem ax_c0 {n : Nat} {ρ : Nat → Int} : ai_CO n ρ [] := fun _ h => by cases h
theorem ax_c1 {n : Nat} {ρ : Nat → Int} {x : ai_L} {l : List ai_L} (h : x.1.all (fun p => Nat.blt p.2 n) = true) (h1 : 0 ≤ ai_va ρ x) (t : ai_CO n ρ l) : ai_CO n ρ (x :: l) := fun f hf => by
  rcases List.mem_cons.mp hf with rfl | hf
  · exact ⟨ax_scT h, h1⟩
  · exact t f hf
theorem ax_m0 {n : Nat} {ρ : Nat → Int} : ai_NO n ρ [] := fun _ h => by cases h
theorem ax_m1 {n : Nat} {ρ : Nat → Int} {x : ai_L} {l : List ai_L} (h : x.1.all (fun p => Nat.blt p.2 n) = true) (h1 : ai_va ρ x ≠ 0) (t : ai_NO n ρ l) : ai_NO n ρ (x :: l) := fun f hf => by
  rcases List.mem_cons.mp hf with rfl | hf
  · exact ⟨ax_scT h, h1⟩
  · exact t f hf
theorem ax_q1 {α : Type} {q : α} {P : α → Prop} (h : ∃ x ∈ [q], P x) : P q := by
  obtain ⟨x, hx, h⟩ := h
  rw [List.mem_singleton] at hx
  rw [← hx]
  exact h
theorem ax_q2 {α : Type} {q : α} {l : List α} {P : α → Prop} (h : ∃ x ∈ q :: l, P x) : P q ∨ ∃ x ∈ l, P x := by
  obtain ⟨x, hx, h⟩ := h
  rcases List.mem_cons.mp hx with rfl | hx
  · exact .inl h
  · exact .inr ⟨x, hx, h⟩
/-! what a call leaves -/
theorem ax_frA {w k : Nat} {M M1 : MM} (h : ai_Fr ax_T w M M1) (hu : ai_un ax_T k = true) (hw : w.testBit (64 * k) = false) (j : Nat) : M1 k j = M k j := h k j (by unfold ai_sl; rw [hu]; exact hw)
theorem ax_frO {w k j : Nat} {M M1 : MM} (h : ai_Fr ax_T w M M1) (hu : ai_un ax_T k = false) (hw : w.testBit (64 * k + j) = false) : M1 k j = M k j := h k j (by unfold ai_sl; rw [hu]; exact hw)
theorem ax_fr0 {w : Nat} {M : MM} : ai_Fr ax_T w M M := fun _ _ _ => rfl
theorem ax_frT {w : Nat} {M M1 M2 : MM} (h : ai_Fr ax_T w M M1) (g : ai_Fr ax_T w M1 M2) : ai_Fr ax_T w M M2 := fun k j hs => (g k j hs).trans (h k j hs)
theorem ax_frW {w w' : Nat} {M M1 : MM} (h : ai_Fr ax_T w M M1) (e : w &&& w' = w) : ai_Fr ax_T w' M M1 := fun k j hs => h k j (by rw [← e, Nat.testBit_and, hs, Bool.and_false])
theorem ax_frS {w k j : Nat} {v : Int} {M M1 : MM} (h : ai_Fr ax_T w M M1) (hw : w.testBit (ai_sl ax_T k j) = true) : ai_Fr ax_T w M (stM M1 k j v) := fun k' j' hs => by
  rw [stM_at, if_neg, h k' j' hs]
  rintro ⟨rfl, rfl⟩
  rw [hw] at hs
  cases hs
theorem ax_frSA {w k j : Nat} {v : Int} {M M1 : MM} (h : ai_Fr ax_T w M M1) (hu : ai_un ax_T k = true) (hw : w.testBit (64 * k) = true) : ai_Fr ax_T w M (stM M1 k j v) := ax_frS h (by unfold ai_sl; rw [hu]; exact hw)
theorem ax_frSO {w k j : Nat} {v : Int} {M M1 : MM} (h : ai_Fr ax_T w M M1) (hu : ai_un ax_T k = false) (hw : w.testBit (64 * k + j) = true) : ai_Fr ax_T w M (stM M1 k j v) := ax_frS h (by unfold ai_sl; rw [hu]; exact hw)
theorem ax_giS {k j : Nat} {v : Int} {M : MM} (h : ai_GI ax_T M) (h1 : (ai_rg ax_T k j).1 ≤ v) (h2 : v ≤ (ai_rg ax_T k j).2) : ai_GI ax_T (stM M k j v) := fun k' j' => by
  rw [stM_at]
  split
  · rename_i e
    rw [e.1, e.2]
    exact ⟨h1, h2⟩
  · exact h k' j'
theorem ax_rgA {k : Nat} {lo hi : Int} (h : ax_T[k]? = some (true, [(lo, hi)])) (j : Nat) : ai_rg ax_T k j = (lo, hi) := by
  unfold ai_rg
  rw [h]
theorem ax_giA {k : Nat} {lo hi : Int} (h : ax_T[k]? = some (true, [(lo, hi)])) {M : MM} (G : ai_GI ax_T M) (j : Nat) : lo ≤ M k j ∧ M k j ≤ hi := by
  have := G k j
  rw [ax_rgA h] at this
  exact this
theorem ax_giO {k j : Nat} {lo hi : Int} (h : ai_rg ax_T k j = (lo, hi)) {M : MM} (G : ai_GI ax_T M) : lo ≤ M k j ∧ M k j ≤ hi := by
  have := G k j
  rw [h] at this
  exact this
theorem ax_giSA {k j : Nat} {lo hi v : Int} (h : ax_T[k]? = some (true, [(lo, hi)])) {M : MM} (G : ai_GI ax_T M) (h1 : lo ≤ v) (h2 : v ≤ hi) : ai_GI ax_T (stM M k j v) := ax_giS G (by rw [ax_rgA h]; exact h1) (by rw [ax_rgA h]; exact h2)
theorem ax_giSO {k j : Nat} {lo hi v : Int} (h : ai_rg ax_T k j = (lo, hi)) {M : MM} (G : ai_GI ax_T M) (h1 : lo ≤ v) (h2 : v ≤ hi) : ai_GI ax_T (stM M k j v) := ax_giS G (by rw [h]; exact h1) (by rw [h]; exact h2)
theorem ax_j {J : MM → Prop} (H : ax_H J) {w : Nat} {M M1 : MM} (h : ai_Fr ax_T w M M1) (e : w &&& ax_wJ = 0) (j : J M) : J M1 := H.1 w M M1 e h j
