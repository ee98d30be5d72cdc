/-! PART 28: the checker is right -/
section AXS
variable {T : ai_T} {w : Nat} {M0 : MM} {n0 : Nat} {ρ0 : Nat → Int} {mst : Option ai_L} {μ : Int} {cl : List ai_P} {inl : List Nat} {sc : List Int} {J : MM → Prop}
theorem ai_sy_at : ∀ (m a s : Nat), s < m → (ai_sy a m)[s]? = some (ai_s (a + s))
  | m + 1, a, 0, _ => rfl
  | m + 1, a, s + 1, h => by
    show (ai_sy (a + 1) m)[s]? = _
    rw [ai_sy_at m (a + 1) s (by omega), show a + 1 + s = a + (s + 1) by omega]
theorem ai_sy_len : ∀ (m a : Nat), (ai_sy a m).length = m
  | 0, _ => rfl
  | m + 1, a => congrArg (· + 1) (ai_sy_len m (a + 1))
theorem ai_sy_Sc {n : Nat} : ∀ (m a : Nat), a + m ≤ n → ai_Sc n (ai_sy a m)
  | 0, _, _ => ai_Sc.nil _
  | m + 1, a, h => fun x hx => by
    rcases List.mem_cons.mp hx with rfl | hx
    · exact ai_s_sc (by omega)
    · exact ai_sy_Sc m (a + 1) (by omega) x hx
theorem ai_cu_mem {cuts : ai_C} {j : Nat} {q : ai_A × ai_L} (h : ai_cu cuts j = some q) : (j, q) ∈ cuts := by
  induction cuts with
  | nil => cases h
  | cons p r ih =>
    unfold ai_cu at h
    split at h
    · rename_i hb
      cases h
      rw [← Nat.eq_of_beq_eq_true hb]
      exact List.mem_cons_self
    · exact List.mem_cons_of_mem _ (ih h)
def ai_Hc (T : ai_T) (w : Nat) (M0 : MM) (n0 : Nat) (ρ0 : Nat → Int) (mst : Option ai_L) (μ : Int) (sc : List Int) (d h m : Nat) (Q : Vv → MM → Prop) (cuts : ai_C) : Prop := ∀ j A ms, ai_cu cuts j = some (A, ms) → ∀ ρn L M, (∀ s, s < n0 → ρn s = ρ0 s) → ai_RL (ai_aS n0 A).1 ρn (ai_bL n0 A.1) L → ai_Ok T w M0 ρn (ai_aS n0 A) M → ai_sc (ai_aS n0 A).1 ms → 0 ≤ ai_va ρn ms → (∀ m0, mst = some m0 → ai_va ρn ms < μ) → WP FF sc YF (d + h) m j [] L M Q
def ai_Ag (n0 : Nat) (ρ0 : Nat → Int) (mst : Option ai_L) (μ : Int) (n : Nat) (ρ : Nat → Int) : Prop := n0 ≤ n ∧ (∀ s, s < n0 → ρ s = ρ0 s) ∧ ∀ m0, mst = some m0 → ai_sc n m0 ∧ ai_va ρ m0 = μ
theorem ai_Ag.X {n n' : Nat} {ρ ρ' : Nat → Int} (h : ai_Ag n0 ρ0 mst μ n ρ) (hX : ai_X n ρ n' ρ') : ai_Ag n0 ρ0 mst μ n' ρ' := ⟨Nat.le_trans h.1 hX.1, fun s hs => (hX.2 s (Nat.lt_of_lt_of_le hs h.1)).trans (h.2.1 s hs), fun m0 hm => ⟨hX.sc (h.2.2 m0 hm).1, (hX.va (h.2.2 m0 hm).1).trans (h.2.2 m0 hm).2⟩⟩
def ai_Hr (T : ai_T) (w : Nat) (M0 : MM) (n : Nat) (ρ : Nat → Int) (ret : ai_V → ai_S → Bool) (Q : Vv → MM → Prop) : Prop := ∀ ρ' S' rv r M', ai_X n ρ S'.1 ρ' → ai_Ok T w M0 ρ' S' M' → ai_RV S'.1 ρ' rv r → ret rv S' = true → Q r M'
theorem ai_Hr.X {n n' : Nat} {ρ ρ' : Nat → Int} {ret : ai_V → ai_S → Bool} {Q : Vv → MM → Prop} (h : ai_Hr T w M0 n ρ ret Q) (hX : ai_X n ρ n' ρ') : ai_Hr T w M0 n' ρ' ret Q := fun ρ2 S2 rv r M2 X2 o hr e => h ρ2 S2 rv r M2 (hX.tr X2) o hr e
def ai_So (T : ai_T) (w : Nat) (M0 : MM) (n0 : Nat) (ρ0 : Nat → Int) (mst : Option ai_L) (μ : Int) (sc : List Int) (rec : ai_Rc) : Prop := ∀ cuts h code rest i ast aL S ret m d ρ st L M Q, rec cuts h code rest i ast aL S ret = true → (PP RTL m).2 = code → rest = code.drop i → ai_Ok T w M0 ρ S M → ai_RS S.1 ρ ast st → ai_RL S.1 ρ aL L → ai_Ag n0 ρ0 mst μ S.1 ρ → ai_Hc T w M0 n0 ρ0 mst μ sc d h m Q cuts → ai_Hr T w M0 S.1 ρ ret Q → WP FF sc YF (d + h) m i st L M Q
theorem ai_go_ok {rec : ai_Rc} (hrec : ai_So T w M0 n0 ρ0 mst μ sc rec) {cuts : ai_C} {h : Nat} {code rest : List MI} {j : Nat} {S : ai_S} {ast : List ai_V} {aL : List (Option ai_V)} {ret : ai_V → ai_S → Bool} {m d : Nat} {ρ : Nat → Int} {st : List Vv} {L : LL} {M : MM} {Q : Vv → MM → Prop} (e : ai_go T n0 mst rec cuts h code rest j S ast aL ret = true) (hc : (PP RTL m).2 = code) (hr : rest = code.drop j) (o : ai_Ok T w M0 ρ S M) (hs : ai_RS S.1 ρ ast st) (hl : ai_RL S.1 ρ aL L) (hA : ai_Ag n0 ρ0 mst μ S.1 ρ) (hC : ai_Hc T w M0 n0 ρ0 mst μ sc d h m Q cuts) (hR : ai_Hr T w M0 S.1 ρ ret Q) : WP FF sc YF (d + h) m j st L M Q := by
  unfold ai_go at e
  split at e
  · exact hrec _ _ _ _ _ _ _ _ _ _ _ _ _ _ _ _ e hc hr o hs hl hA hC hR
  · rename_i q hq
    obtain ⟨A, ms⟩ := q
    split at e
    · rw [hs.nil]
      obtain ⟨ρ', S', ex, X1, o1, c1, l1, r1, k1, e⟩ := ai_ck_ok e o hl (ai_sy_Sc n0 0 (by have := hA.1; omega))
      rw [ai_sy_len] at l1 r1 k1
      have hA' := hA.X X1
      have hS := ai_rs_Sv ρ' (ai_sy 0 n0 ++ ex)
      have hag : ∀ s, s < n0 → ai_rs ρ' (ai_sy 0 n0 ++ ex) s = ρ0 s := fun s hs => by
        rw [hS.pre s _ (ai_sy_at n0 0 s hs), ai_s_va, Nat.zero_add]
        exact hA'.2.1 s hs
      unfold ai_me at e
      split at e
      · cases e
      · rename_i a ha
        rw [Bool.and_eq_true] at e
        have hb := ai_sb_ok c1 ha
        have hv := hb.2.2 ρ' _ hS
        have hv : ai_va ρ' a = ai_va (ai_rs ρ' (ai_sy 0 n0 ++ ex)) ms := hv
        have g0 := ai_ge_ok o1.1.1 o1.1.2.2.1 e.1
        refine hC j A ms hq _ L M hag r1 ⟨k1, o1.2⟩ (by rw [← l1]; exact hb.2.1) (by omega) (fun m0 hm => ?_)
        subst hm
        have g1 := ai_ge_ok o1.1.1 o1.1.2.2.1 e.2
        rw [ai_ad1_va, ai_sub_va, (hA'.2.2 m0 rfl).2] at g1
        omega
    · cases e
theorem ai_RS.take {n : Nat} {ρ : Nat → Int} : ∀ {a : List ai_V} {v : List Vv} {b : Nat}, ai_RS n ρ a v → ai_RS n ρ (a.take b) (v.take b)
  | _, _, 0, _ => by
    rw [List.take_zero, List.take_zero]
    trivial
  | [], [], b + 1, _ => trivial
  | _ :: _, _ :: _, b + 1, h => ⟨h.1, ai_RS.take (b := b) h.2⟩
  | [], _ :: _, _ + 1, h => h.elim
  | _ :: _, [], _ + 1, h => h.elim
theorem ai_RS.drop {n : Nat} {ρ : Nat → Int} : ∀ {a : List ai_V} {v : List Vv} {b : Nat}, ai_RS n ρ a v → ai_RS n ρ (a.drop b) (v.drop b)
  | _, _, 0, h => h
  | [], [], b + 1, _ => trivial
  | _ :: _, _ :: _, b + 1, h => ai_RS.drop (b := b) h.2
  | [], _ :: _, _ + 1, h => h.elim
  | _ :: _, [], _ + 1, h => h.elim
theorem ai_RS.len {n : Nat} {ρ : Nat → Int} : ∀ {a : List ai_V} {v : List Vv}, ai_RS n ρ a v → a.length = v.length
  | [], [], _ => rfl
  | _ :: _, _ :: _, h => congrArg (· + 1) h.2.len
  | [], _ :: _, h => h.elim
  | _ :: _, [], h => h.elim
theorem ai_RS.app {n : Nat} {ρ : Nat → Int} {a' : List ai_V} {v' : List Vv} (h' : ai_RS n ρ a' v') : ∀ {a : List ai_V} {v : List Vv}, ai_RS n ρ a v → ai_RS n ρ (a ++ a') (v ++ v')
  | [], [], _ => h'
  | _ :: _, _ :: _, h => ⟨h.1, ai_RS.app h' h.2⟩
  | [], _ :: _, h => h.elim
  | _ :: _, [], h => h.elim
theorem ai_RS.rev {n : Nat} {ρ : Nat → Int} : ∀ {a : List ai_V} {v : List Vv}, ai_RS n ρ a v → ai_RS n ρ a.reverse v.reverse
  | [], [], _ => trivial
  | x :: xs, y :: ys, h => by
    rw [List.reverse_cons, List.reverse_cons]
    exact ai_RS.app (a' := [x]) (v' := [y]) ⟨h.1, trivial⟩ h.2.rev
  | [], _ :: _, h => h.elim
  | _ :: _, [], h => h.elim
theorem ai_nx_ok {n : Nat} {ρ : Nat → Int} : ∀ {a : List ai_V} {v : List Vv}, ai_nx a = true → ai_RS n ρ a v → v.all (fun x => !isXv x) = true
  | [], [], _, _ => rfl
  | .inl (true, l) :: as, v, e, h => by
    obtain ⟨v', rfl, -, h3⟩ := h.l
    exact ai_nx_ok (a := as) (v := v') e h3
  | .inl (false, l) :: as, v, e, h => by
    obtain ⟨v', rfl, -, h3⟩ := h.i
    exact ai_nx_ok (a := as) (v := v') e h3
  | .inr (.inl k) :: as, v, e, h => by
    obtain ⟨v', rfl, h3⟩ := h.r
    exact ai_nx_ok (a := as) (v := v') e h3
  | .inr (.inr k) :: as, v, e, h => by cases e
  | [], _ :: _, _, h => h.elim
theorem ai_rv_ok {n : Nat} {ρ : Nat → Int} {sub ci : Nat} {a : List ai_V} {v : List Vv} (e : ai_rv sub ci a = true) (h : ai_RS n ρ a v) : rcv sub ci YF v = true := by
  match sub, e with
  | 0, e => rfl
  | 1, e => rfl
  | 2, e =>
    match a, e, h with
    | .inr (.inl k) :: as, e, h =>
      obtain ⟨v', rfl, h3⟩ := h.r
      exact e
    | .inr (.inr k) :: as, e, h => cases e
    | .inl p :: as, e, h => cases e
    | [], e, h => cases e
  | 3, e =>
    match a, e, h with
    | .inr (.inl k) :: as, e, h =>
      obtain ⟨v', rfl, h3⟩ := h.r
      rfl
    | .inr (.inr k) :: as, e, h => cases e
    | .inl p :: as, e, h => cases e
    | [], e, h => cases e
  | 4, e =>
    match a, e, h with
    | .inr (.inl k) :: as, e, h =>
      obtain ⟨v', rfl, h3⟩ := h.r
      rfl
    | .inr (.inr k) :: as, e, h => cases e
    | .inl p :: as, e, h => cases e
    | [], e, h => cases e
  | s + 5, e => rfl
theorem ai_RL.app {n : Nat} {ρ : Nat → Int} {a' : List (Option ai_V)} {v' : LL} (h' : ai_RL n ρ a' v') : ∀ {a : List (Option ai_V)} {v : LL}, ai_RL n ρ a v → ai_RL n ρ (a ++ a') (v ++ v')
  | [], [], _ => h'
  | _ :: _, _ :: _, h => ⟨h.1, ai_RL.app h' h.2⟩
  | [], _ :: _, h => h.elim
  | _ :: _, [], h => h.elim
theorem ai_RL.rep {n : Nat} {ρ : Nat → Int} : ∀ (m : Nat), ai_RL n ρ (List.replicate m none) (List.replicate m none)
  | 0 => trivial
  | m + 1 => ⟨(fun x q => by cases q), ai_RL.rep m⟩
theorem ai_ag_ok {n : Nat} {ρ : Nat → Int} : ∀ {a : List ai_V} {v : List Vv}, ai_RS n ρ a v → ai_RL n ρ (ai_ag a) (argLL v)
  | [], [], _ => trivial
  | .inl (true, l) :: as, v, h => by
    obtain ⟨v', rfl, h2, h3⟩ := h.l
    exact ⟨⟨_, rfl, h2, rfl⟩, (fun x q => by cases q), ai_ag_ok h3⟩
  | .inl (false, l) :: as, v, h => by
    obtain ⟨v', rfl, h2, h3⟩ := h.i
    exact ⟨⟨_, rfl, h2, rfl⟩, ai_ag_ok h3⟩
  | .inr (.inl k) :: as, v, h => by
    obtain ⟨v', rfl, h3⟩ := h.r
    exact ⟨⟨_, rfl, rfl⟩, ai_ag_ok h3⟩
  | .inr (.inr k) :: as, v, h => by
    obtain ⟨v', rfl, h3⟩ := h.x
    exact ⟨trivial, ai_ag_ok h3⟩
  | [], _ :: _, h => h.elim
theorem ai_en_ok {n nL : Nat} {ρ : Nat → Int} {a : List ai_V} {v : List Vv} (h : ai_RS n ρ a v) : ai_RL n ρ (ai_en nL a) (entLL nL v) := by
  unfold ai_en entLL
  rw [ai_cat_ok h]
  exact ai_RL.app (ai_RL.rep _) (ai_ag_ok h)
theorem ai_sw_ok {ρ : Nat → Int} {M : MM} {x : ai_L} {t : Nat} {k : ai_S → Nat → Bool} : ∀ {tab : List (Int × Nat)} {S : ai_S}, ai_sw S x tab t k = true → ai_Ok T w M0 ρ S M → ai_sc S.1 x → ∃ S', S'.1 = S.1 ∧ ai_Ok T w M0 ρ S' M ∧ k S' (swt tab t (ai_va ρ x)) = true := by
  intro tab
  induction tab with
  | nil => intro S h o hx; exact ⟨S, rfl, o, h⟩
  | cons p ps ih =>
    intro S h o hx
    unfold ai_sw at h
    rw [Bool.and_eq_true] at h
    unfold swt
    by_cases e : ai_va ρ x = p.1
    · rw [if_pos e]
      exact ai_eq_ok h.1 o (ai_ad1_sc hx) (by rw [ai_ad1_va]; omega)
    · rw [if_neg e]
      obtain ⟨S1, e1, o1, h1⟩ := ai_ne_ok h.2 o (ai_ad1_sc hx) (by rw [ai_ad1_va]; omega)
      obtain ⟨S2, e2, o2, h2⟩ := ih h1 o1 (by rw [e1]; exact hx)
      exact ⟨S2, e2.trans e1, o2, h2⟩
theorem ai_nF_ok {n : Nat} {σ : List ai_L} (hσ : ai_Sc n σ) {M1 : MM} {ρ' ρ1 : Nat → Int} (hS : ai_Sv ρ' σ ρ1) {N N1 : Nat} (hN : n ≤ N) : ∀ {cs : List (Nat × ai_L)} {a b : Nat} {F : List ai_F}, ai_nF σ a cs = some F → (∀ i, i < cs.length → ρ' (a + i) = ρ1 (b + i)) → a + cs.length ≤ N → ai_FO N1 ρ1 M1 (ai_bF b cs) → ai_FO N ρ' M1 F := by
  intro cs
  induction cs with
  | nil => intro a b F h _ _ _ f hf; cases h; cases hf
  | cons c r ih =>
    intro a b F h he hl hF
    unfold ai_nF at h
    split at h
    · cases h
    · rename_i i hi
      split at h
      · cases h
      · rename_i t ht
        cases h
        have hl' : (c :: r).length = r.length + 1 := rfl
        have hb := ai_sb_ok hσ hi
        have hv : ai_va ρ' i = ai_va ρ1 c.2 := hb.2.2 ρ' ρ1 hS
        have h0 := hF _ List.mem_cons_self
        dsimp only at h0
        intro f hf
        rcases List.mem_cons.mp hf with rfl | hf
        · refine ⟨ai_scT_le hN hb.1, ai_s_sc (by omega), ?_, ?_⟩
          · show 0 ≤ ai_va ρ' i
            rw [hv]
            exact h0.2.2.1
          · show M1 c.1 (ai_va ρ' i).toNat = ai_va ρ' (ai_s a)
            rw [hv, h0.2.2.2, ai_s_va, ai_s_va]
            exact (he 0 (by omega)).symm
        · exact ih (a := a + 1) (b := b + 1) ht (fun i hi => by
            have := he (i + 1) (by omega)
            rw [show a + 1 + i = a + (i + 1) by omega, show b + 1 + i = b + (i + 1) by omega]
            exact this) (by omega) (fun f hf => hF f (List.mem_cons_of_mem _ hf)) f hf
theorem ai_zE_ok {N N1 : Nat} {ρ' ρ1 : Nat → Int} : ∀ {l : List (Int × Int)} {a b : Nat}, (∀ i, i < l.length → ρ' (a + i) = ρ1 (b + i)) → a + l.length ≤ N → ai_EO N1 ρ1 (ai_zE b l) → ai_EO N ρ' (ai_zE a l) := by
  intro l
  induction l with
  | nil => intro a b _ _ _ q hq; cases hq
  | cons p r ih =>
    intro a b he hl hE q hq
    have hl' : (p :: r).length = r.length + 1 := rfl
    rcases List.mem_cons.mp hq with rfl | hq
    · have h0 := hE _ List.mem_cons_self
      have h1 := he 0 (by omega)
      refine ⟨by show a < N; omega, ?_⟩
      show p.1 ≤ ρ' a ∧ ρ' a ≤ p.2
      rw [show ρ' a = ρ1 b from h1]
      exact h0.2
    · exact ih (a := a + 1) (b := b + 1) (fun i hi => by
        have := he (i + 1) (by omega)
        rw [show a + 1 + i = a + (i + 1) by omega, show b + 1 + i = b + (i + 1) by omega]
        exact this) (by omega) (fun f hf => hE f (List.mem_cons_of_mem _ hf)) q hq
theorem ai_cs_ok {M : MM} {σ : List ai_L} {ρ ρ1 : Nat → Int} {k : ai_S → Bool} (hS : ai_Sv ρ σ ρ1) : ∀ {C : List ai_L} {S : ai_S}, ai_cs σ C S k = true → ai_Ok T w M0 ρ S M → ai_Sc S.1 σ → (∀ c ∈ C, 0 ≤ ai_va ρ1 c) → ∃ S', S'.1 = S.1 ∧ ai_Ok T w M0 ρ S' M ∧ k S' = true := by
  intro C
  induction C with
  | nil => intro S h o _ _; exact ⟨S, rfl, o, h⟩
  | cons c r ih =>
    intro S h o hσ hC
    unfold ai_cs at h
    split at h
    · cases h
    · rename_i y hy
      rw [ai_fl_eq] at h
      have hb := ai_sb_ok hσ hy
      have hv : ai_va ρ y = ai_va ρ1 c := hb.2.2 ρ ρ1 hS
      obtain ⟨S1, e1, o1, h1⟩ := ai_as_ok h o hb.1 (by rw [hv]; exact hC c List.mem_cons_self)
      obtain ⟨S2, e2, o2, h2⟩ := ih h1 o1 (by rw [e1]; exact hσ) (fun c hc => hC c (List.mem_cons_of_mem _ hc))
      exact ⟨S2, e2.trans e1, o2, h2⟩
theorem ai_cn_ok {M : MM} {σ : List ai_L} {ρ ρ1 : Nat → Int} {k : ai_S → Bool} (hS : ai_Sv ρ σ ρ1) : ∀ {C : List ai_L} {S : ai_S}, ai_cn σ C S k = true → ai_Ok T w M0 ρ S M → ai_Sc S.1 σ → (∀ c ∈ C, ai_va ρ1 c ≠ 0) → ∃ S', S'.1 = S.1 ∧ ai_Ok T w M0 ρ S' M ∧ k S' = true := by
  intro C
  induction C with
  | nil => intro S h o _ _; exact ⟨S, rfl, o, h⟩
  | cons c r ih =>
    intro S h o hσ hC
    unfold ai_cn at h
    split at h
    · cases h
    · rename_i y hy
      rw [ai_fl_eq] at h
      have hb := ai_sb_ok hσ hy
      have hv : ai_va ρ y = ai_va ρ1 c := hb.2.2 ρ ρ1 hS
      obtain ⟨S1, e1, o1, h1⟩ := ai_ne_ok h o hb.1 (by rw [hv]; exact hC c List.mem_cons_self)
      obtain ⟨S2, e2, o2, h2⟩ := ih h1 o1 (by rw [e1]; exact hσ) (fun c hc => hC c (List.mem_cons_of_mem _ hc))
      exact ⟨S2, e2.trans e1, o2, h2⟩
/-- behind a call: its end's words, in the caller's symbols -/
theorem ai_po_ok {w' n1 rk : Nat} {σ : List ai_L} {S : ai_S} {q : ai_Q} {k : ai_S → ai_L → Bool} {ρ : Nat → Int} {M M1 : MM} {r : Vv} (h : ai_po T w' σ S q k = true) (o : ai_Ok T w M0 ρ S M) (hσ : ai_Sc S.1 σ) (hn : σ.length = n1) (hG : ai_GI T M1) (hF : ai_Fr T w' M M1) (hw : w' &&& w = w') (hq : ai_PO n1 rk (ai_rs ρ σ) q r M1) : ∃ ρ' S' l, ai_X S.1 ρ S'.1 ρ' ∧ ai_Ok T w M0 ρ' S' M1 ∧ ai_sc S'.1 l ∧ r = ai_pv (Nat.beq rk 2) (ai_va ρ' l) ∧ k S' l = true := by
  obtain ⟨n, E, F, C, N⟩ := S
  obtain ⟨hlen, ρ1, h0, hr, kE, kF, kC, kN⟩ := hq
  unfold ai_po at h
  dsimp only at h
  rw [Bool.and_eq_true] at h
  obtain ⟨-, h⟩ := h
  split at h
  · cases h
  · rename_i F1 hF1
    rw [ai_fo_eq, ai_fo_eq, ai_fn_eq, ai_fo_eq] at h
    have hex : ∃ ρ2 : Nat → Int, ρ2 = fun s => if s < n then ρ s else ρ1 (n1 + (s - n)) := ⟨_, rfl⟩
    obtain ⟨ρ2, hρ2⟩ := hex
    have hX : ai_X n ρ (n + q.1.length) ρ2 := ⟨Nat.le_add_right _ _, fun s hs => by rw [hρ2]; exact if_pos hs⟩
    have hnew : ∀ i, ρ2 (n + i) = ρ1 (n1 + i) := fun i => by
      rw [hρ2]
      show (if n + i < n then ρ (n + i) else ρ1 (n1 + (n + i - n))) = _
      rw [if_neg (by omega), show n + i - n = i by omega]
    have hσ' : ai_Sv ρ2 σ ρ1 := fun s x hs => by
      have hl := (List.getElem?_eq_some_iff.mp hs).1
      rw [h0 s (by omega), ai_rs_Sv ρ σ s x hs]
      exact (hX.va (hσ x (List.mem_of_getElem? hs))).symm
    have hσ2 : ai_Sv ρ2 (σ ++ ai_sy n q.1.length) ρ1 := fun s x hs => by
      rcases Nat.lt_or_ge s σ.length with hl | hl
      · rw [List.getElem?_append_left hl] at hs
        exact hσ' s x hs
      · rw [List.getElem?_append_right hl] at hs
        have hl2 := (List.getElem?_eq_some_iff.mp hs).1
        rw [ai_sy_len] at hl2
        rw [ai_sy_at _ _ _ hl2] at hs
        cases hs
        rw [ai_s_va, hnew]
        congr 1
        omega
    have hsc2 : ai_Sc (n + q.1.length) (σ ++ ai_sy n q.1.length) := fun x hx => by
      rcases List.mem_append.mp hx with hx | hx
      · exact hX.sc (hσ x hx)
      · exact ai_sy_Sc q.1.length n (Nat.le_refl _) x hx
    have hFr : ai_Fr T w M0 M1 := fun k j hs => by
      rw [hF k j ?_, o.2.2 k j hs]
      rw [← hw, Nat.testBit_and, hs, Bool.and_false]
    have oS : ai_Ok T w M0 ρ2 (n + q.1.length, ai_zE n q.1 ++ E, F1 ++ ai_kw T w' E F, C, N) M1 := by
      refine ⟨⟨fun p hp => ?_, fun f hf => ?_, o.1.2.2.1.X hX, o.1.2.2.2.X hX⟩, hG, hFr⟩
      · rcases List.mem_append.mp hp with hp | hp
        · exact ai_zE_ok (N := n + q.1.length) (fun i _ => hnew i) (Nat.le_refl _) kE p hp
        · exact o.1.1.X hX p hp
      · rcases List.mem_append.mp hf with hf | hf
        · exact ai_nF_ok hσ hσ' (N := n + q.1.length) (by omega) hF1 (fun i hi => by
            rw [show n + 1 + i = n + (i + 1) by omega, show n1 + 1 + i = n1 + (i + 1) by omega]
            exact hnew (i + 1)) (by omega) kF f hf
        · exact (ai_kw_ok o hF o.1.2.1).X hX f hf
    obtain ⟨S1, e1, o1, h⟩ := ai_cs_ok hσ2 h oS hsc2 (fun c hc => (kC c hc).2)
    obtain ⟨S2, e2, o2, h⟩ := ai_cn_ok hσ2 h o1 (by rw [e1]; exact hsc2) (fun c hc => (kN c hc).2)
    have e3 : S2.1 = n + q.1.length := e2.trans e1
    refine ⟨ρ2, S2, ai_rl n q.1, by rw [e3]; exact hX, o2, ?_, ?_, h⟩
    · unfold ai_rl
      split
      · rw [e3]
        exact ai_s_sc (by omega)
      · split
        · trivial
        · rw [e3]
          exact ai_s_sc (by omega)
    · rw [hr]
      congr 1
      unfold ai_rl
      split
      · rw [ai_s_va]
        exact (hnew 0).symm
      · rename_i p t ht
        split
        · rename_i hd
          have hd := of_decide_eq_true hd
          rw [ht] at kE
          have := (kE _ List.mem_cons_self).2
          dsimp only at this
          rw [ai_c_va]
          omega
        · rw [ai_s_va]
          exact (hnew 0).symm
theorem ai_drop {α : Type} {l : List α} {i : Nat} {x : α} {r : List α} (h : x :: r = l.drop i) : l[i]? = some x ∧ r = l.drop (i + 1) := by
  constructor
  · have : (l.drop i)[0]? = some x := by rw [← h]; rfl
    rw [List.getElem?_drop] at this
    exact this
  · rw [← List.drop_drop, ← h]
    rfl
theorem ai_call_ok {rec : ai_Rc} (hcl : ∀ sp ∈ cl, ai_SP T J sp) (hJ : ∀ M, ai_Fr T w M0 M → J M) (hrec : ai_So T w M0 n0 ρ0 mst μ sc rec) {cuts : ai_C} {h : Nat} {code r : List MI} {i : Nat} {S : ai_S} {ast : List ai_V} {aL : List (Option ai_V)} {ret : ai_V → ai_S → Bool} {m d a b c sub idx : Nat} {v : Int} {tab : List (Int × Nat)} {pl : List Nat} {ρ : Nat → Int} {st : List Vv} {L : LL} {M : MM} {Q : Vv → MM → Prop} (e : ai_call T w n0 mst cl inl rec cuts h code r (i + 1) ast aL S ret a b c sub pl = true) (hc : (PP RTL m).2 = code) (hi : code[i]? = some (30, a, b, c, v, tab, sub, idx, pl)) (hr : r = code.drop (i + 1)) (o : ai_Ok T w M0 ρ S M) (hs : ai_RS S.1 ρ ast st) (hl : ai_RL S.1 ρ aL L) (hA : ai_Ag n0 ρ0 mst μ S.1 ρ) (hC : ai_Hc T w M0 n0 ρ0 mst μ sc d h m Q cuts) (hR : ai_Hr T w M0 S.1 ρ ret Q) : WP FF sc YF (d + h) m i st L M Q := by
  unfold ai_call at e
  split at e
  · cases e
  · rename_i hg
    rw [Bool.and_eq_true, Bool.and_eq_true, Bool.and_eq_true] at hg
    obtain ⟨⟨g1, g2⟩, g3, g4⟩ := hg
    cases h with
    | zero => cases e
    | succ h' =>
      dsimp only at e
      rw [ai_fo_eq, ai_fo_eq, Bool.and_eq_true] at e
      have hs1 := hs.take (b := b)
      have hs2 := hs.drop (b := b)
      have hs3 := hs1.rev
      have q1 : stp FF (xar sc) YF M L st (30, a, b, c, v, tab, sub, idx, pl) = some (.inr (.inr (.inr (.inl (rcv sub (pl.getD 3 0) YF (st.take b).reverse, a, (st.take b).reverse, c, st.drop b))))) := by
        show (match (st.take b).all (fun v => !isXv v) && (Nat.ble (catV (st.drop b)) 8 && (st.take b).length == b) with
          | true => aC (rcv sub (pl.getD 3 0) YF (st.take b).reverse) a (st.take b).reverse c (st.drop b)
          | false => none) = _
        rw [ai_nx_ok g2 hs1, ai_cat_ok hs2, g3, ← hs1.len]
        have : ((ast.take b).length == b) = true := beq_iff_eq.mpr (Nat.eq_of_beq_eq_true g1)
        rw [this]
        rfl
      have hm2 : (PP RTL m).2[i]? = some (30, a, b, c, v, tab, sub, idx, pl) := by rw [hc]; exact hi
      refine WP.call (d := d + h') hm2 q1 (ai_rv_ok g4 hs3) ?_
      obtain ⟨e0, e⟩ := e
      have hcat : Nat.ble (catV (st.take b).reverse) (PP RTL a).1 = true := by rw [ai_cat_ok hs3]; exact e0
      rw [Bool.or_eq_true] at e
      rcases e with e | e
      · rw [List.any_eq_true] at e
        obtain ⟨sp, hsp, e⟩ := e
        rw [Bool.and_eq_true, Bool.and_eq_true, Bool.and_eq_true, Bool.and_eq_true] at e
        obtain ⟨⟨x1, x0⟩, ⟨x2, x3⟩, e⟩ := e
        have har := Nat.eq_of_beq_eq_true x0
        have hm := Nat.eq_of_beq_eq_true x1
        have hw := Nat.eq_of_beq_eq_true x3
        have hh : sp.2.2.2.2.2.2 ≤ h' := Nat.le_of_ble_eq_true x2
        obtain ⟨ρ', S', σ, X1, o1, c1, l1, r1, k1, e⟩ := ai_ck_ok e o (ai_en_ok hs3) (ai_Sc.nil _)
        rw [List.nil_append] at c1 l1 r1 k1 e
        rw [Bool.and_eq_true, List.all_eq_true] at e
        have hn := Nat.eq_of_beq_eq_true e.1
        have l2 : (ai_aS ([] : List ai_L).length sp.2.1).1 = sp.2.2.1 := by rw [← l1, hn]
        rw [l2] at r1
        have hcall := hcl sp hsp sc (d + (h' - sp.2.2.2.2.2.2)) (ai_rs ρ' σ) M (st.take b).reverse (fun r' M' => WP FF sc YF (d + h' + 1) m (i + 1) (psh c r' (st.drop b)) L M' Q) (by rw [hm]; exact hcat) (by rw [List.length_reverse, ← hs1.len, Nat.eq_of_beq_eq_true g1, har]) (by rw [hm]; exact r1) k1 o1.2.1 (hJ M o1.2.2) (fun r' M1 G1 F1 hq => by
          obtain ⟨q, hqm, hq⟩ := hq
          obtain ⟨ρ2, S2, l, X2, o2, c2, v2, e2⟩ := ai_po_ok (e.2 q hqm) o1 c1 hn G1 F1 hw hq
          have X3 := X1.tr X2
          refine ai_go_ok (h := h' + 1) (d := d) hrec e2 hc hr o2 ?_ (hl.X X3) (hA.X X3) hC (hR.X X3)
          have hp : ai_RV S2.1 ρ2 (.inl (Nat.beq sp.2.2.2.2.1 2, l)) r' := by
            refine ⟨c2, ?_⟩
            rw [v2]
            unfold ai_pv
            rfl
          cases c with
          | zero => exact hs2.X X3
          | succ c => exact ⟨hp, hs2.X X3⟩)
        rw [hm] at hcall
        rw [show d + (h' - sp.2.2.2.2.2.2) + sp.2.2.2.2.2.2 = d + h' by omega] at hcall
        exact hcall
      · rw [Bool.and_eq_true, Bool.and_eq_true] at e
        obtain ⟨-, e1, e⟩ := e
        have hh : 1 ≤ h' := Nat.le_of_ble_eq_true e1
        refine ⟨hcat, Nat.ble_eq_true_of_le (by omega), ?_⟩
        split at e
        · cases e
        · rename_i x t hxt
          refine hrec _ _ _ _ _ _ _ _ _ a d ρ [] _ M _ e hxt rfl o trivial (ai_en_ok hs3) hA (fun j A ms q => by cases q) (fun ρ' S' rv r' M' X1 o1 hv e2 => ?_)
          refine ai_go_ok (h := h' + 1) (d := d) hrec e2 hc hr o1 ?_ (hl.X X1) (hA.X X1) hC (hR.X X1)
          cases c with
          | zero => exact hs2.X X1
          | succ c => exact ⟨hv, hs2.X X1⟩
theorem ai_re_ok {S : ai_S} {ast : List ai_V} {a b c sub idx : Nat} {v : Int} {tab : List (Int × Nat)} {pl : List Nat} {ret : ai_V → ai_S → Bool} {ρ : Nat → Int} {st : List Vv} {L : LL} {M : MM} (h : ai_re S ast a c ret = true) (o : ai_Ok T w M0 ρ S M) (hs : ai_RS S.1 ρ ast st) : ∃ rv r, stp FF (xar sc) YF M L st (31, a, b, c, v, tab, sub, idx, pl) = some (.inr (.inr (.inr (.inr (.inl (true, r)))))) ∧ ai_RV S.1 ρ rv r ∧ ret rv S = true := by
  match a, h with
  | 0, h =>
    match ast, h, hs with
    | [], h, hs =>
      rw [hs.nil]
      exact ⟨.inl (false, ai_c 0), vi 0, rfl, ⟨trivial, by rw [ai_c_va]⟩, h⟩
  | 1, h =>
    match ast, h, hs with
    | [.inl (false, x)], h, hs =>
      obtain ⟨st', rfl, hx, hs'⟩ := hs.i
      rw [hs'.nil]
      have h : (ai_is1 S c x && ret (.inl (false, x)) S) = true := h
      rw [Bool.and_eq_true] at h
      refine ⟨.inl (false, x), vi (ai_va ρ x), ?_, ⟨hx, rfl⟩, h.2⟩
      show (some (.inr (.inr (.inr (.inr (.inl (bl2 c (ai_va ρ x), vi (ai_va ρ x))))))) : Option Act) = _
      rw [ai_is1_ok h.1 o]
  | n + 2, h =>
    match ast, h, hs with
    | [.inl (true, x)], h, hs =>
      obtain ⟨st', rfl, hx, hs'⟩ := hs.l
      rw [hs'.nil]
      exact ⟨.inl (true, x), vl (ai_va ρ x), rfl, ⟨hx, rfl⟩, h⟩
theorem ai_step_ok {rec : ai_Rc} (hcl : ∀ sp ∈ cl, ai_SP T J sp) (hJ : ∀ M, ai_Fr T w M0 M → J M) (hrec : ai_So T w M0 n0 ρ0 mst μ sc rec) : ai_So T w M0 n0 ρ0 mst μ sc (ai_step T w n0 mst cl inl rec) := by
  intro cuts h code rest i ast aL S ret m d ρ st L M Q e hc hr o hs hl hA hC hR
  unfold ai_step at e
  dsimp only at e
  split at e
  · cases e
  · rename_i mi r
    obtain ⟨op, a, b, c, v, tab, sub, idx, pl⟩ := mi
    obtain ⟨hi, hr'⟩ := ai_drop hr
    clear hr
    have hi2 : (PP RTL m).2[i]? = some (op, a, b, c, v, tab, sub, idx, pl) := by rw [hc]; exact hi
    dsimp only at e
    split at e
    · refine WP.step (j := a) (st' := st) (L' := L) (M' := M) (fun n => by rw [exec, hi2]; rfl) ?_
      exact ai_go_ok hrec e hc rfl o hs hl hA hC hR
    · unfold ai_if at e
      split at e
      · rename_i x st0
        obtain ⟨st1, rfl, hx, hs1⟩ := hs.i
        rw [Bool.and_eq_true] at e
        cases hb : cmpB b (ai_va ρ x) 0 with
        | true =>
          obtain ⟨S1, e1, o1, h1⟩ := ai_cm_ok e.1 o hx (ai_c_sc _ _) (by rw [ai_c_va]; exact hb)
          refine WP.step (j := a) (st' := st1) (L' := L) (M' := M) (fun n => by
            rw [exec, hi2]
            show (match cmpB b (ai_va ρ x) 0 with
              | true => _
              | false => _) = _
            rw [hb]) ?_
          exact ai_go_ok hrec h1 hc rfl o1 (by rw [e1]; exact hs1) (by rw [e1]; exact hl) (by rw [e1]; exact hA) hC (by rw [e1]; exact hR)
        | false =>
          obtain ⟨S1, e1, o1, h1⟩ := ai_cm_ok e.2 o hx (ai_c_sc _ _) (by rw [ai_c_va]; exact ai_ng_ok hb)
          dsimp only at h1
          rw [ai_fn_eq] at h1
          refine WP.step (j := i + 1) (st' := st1) (L' := L) (M' := M) (fun n => by
            rw [exec, hi2]
            show (match cmpB b (ai_va ρ x) 0 with
              | true => _
              | false => _) = _
            rw [hb]) ?_
          exact ai_go_ok hrec h1 hc hr' o1 (by rw [e1]; exact hs1) (by rw [e1]; exact hl) (by rw [e1]; exact hA) hC (by rw [e1]; exact hR)
      · cases e
    · unfold ai_ic2 at e
      split at e
      · rename_i y x st0
        obtain ⟨st1, rfl, hy, hs1⟩ := hs.i
        obtain ⟨st2, rfl, hx, hs2⟩ := hs1.i
        rw [Bool.and_eq_true] at e
        cases hb : cmpB b (ai_va ρ x) (ai_va ρ y) with
        | true =>
          obtain ⟨S1, e1, o1, h1⟩ := ai_cm_ok e.1 o hx hy hb
          refine WP.step (j := a) (st' := st2) (L' := L) (M' := M) (fun n => by
            rw [exec, hi2]
            show (match cmpB b (ai_va ρ x) (ai_va ρ y) with
              | true => _
              | false => _) = _
            rw [hb]) ?_
          exact ai_go_ok hrec h1 hc rfl o1 (by rw [e1]; exact hs2) (by rw [e1]; exact hl) (by rw [e1]; exact hA) hC (by rw [e1]; exact hR)
        | false =>
          obtain ⟨S1, e1, o1, h1⟩ := ai_cm_ok e.2 o hx hy (ai_ng_ok hb)
          dsimp only at h1
          rw [ai_fn_eq] at h1
          refine WP.step (j := i + 1) (st' := st2) (L' := L) (M' := M) (fun n => by
            rw [exec, hi2]
            show (match cmpB b (ai_va ρ x) (ai_va ρ y) with
              | true => _
              | false => _) = _
            rw [hb]) ?_
          exact ai_go_ok hrec h1 hc hr' o1 (by rw [e1]; exact hs2) (by rw [e1]; exact hl) (by rw [e1]; exact hA) hC (by rw [e1]; exact hR)
      · cases e
    · unfold ai_s18 at e
      split at e
      · rename_i x st0
        obtain ⟨st1, rfl, hx, hs1⟩ := hs.i
        obtain ⟨S1, e1, o1, h1⟩ := ai_sw_ok e o hx
        refine WP.step (j := swt tab a (ai_va ρ x)) (st' := st1) (L' := L) (M' := M) (fun n => by rw [exec, hi2]; rfl) ?_
        exact ai_go_ok hrec h1 hc rfl o1 (by rw [e1]; exact hs1) (by rw [e1]; exact hl) (by rw [e1]; exact hA) hC (by rw [e1]; exact hR)
      · cases e
    · rw [ai_fn_eq] at e
      exact ai_call_ok hcl hJ hrec e hc hi hr' o hs hl hA hC hR
    · obtain ⟨rv, r', h1, h2, h3⟩ := ai_re_ok (sc := sc) (b := b) (v := v) (tab := tab) (sub := sub) (idx := idx) (pl := pl) (L := L) e o hs
      exact ⟨1, r', M, by rw [exec, hi2]; dsimp only; rw [h1], hR ρ S rv r' M (ai_X.rf _ _) o h2 h3⟩
    · obtain ⟨st', L', M', h1, ρ', S', ast', aL', X1, o1, s1, l1, e⟩ := ai_op_ok (sc := sc) e o hs hl
      dsimp only at e
      rw [ai_fn_eq] at e
      refine WP.step (j := i + 1) (st' := st') (L' := L') (M' := M') (fun n => by rw [exec, hi2]; dsimp only; rw [h1]) ?_
      exact ai_go_ok hrec e hc hr' o1 s1 l1 (hA.X X1) hC (hR.X X1)
theorem ai_ax_ok (hcl : ∀ sp ∈ cl, ai_SP T J sp) (hJ : ∀ M, ai_Fr T w M0 M → J M) : ∀ n, ai_So T w M0 n0 ρ0 mst μ sc (ai_ax T w n0 mst cl inl n)
  | 0 => fun _ _ _ _ _ _ _ _ _ _ _ _ _ _ _ _ e => by cases e
  | n + 1 => ai_step_ok hcl hJ (ai_ax_ok hcl hJ n)
end AXS
theorem ai_rt_ok {T : ai_T} {w : Nat} {M0 M : MM} {ρ : Nat → Int} {n0 rk : Nat} {qs : List ai_Q} {S : ai_S} {rv : ai_V} {r : Vv} {ρ0 : Nat → Int} (h : ai_rt T n0 rk qs rv S = true) (o : ai_Ok T w M0 ρ S M) (hr : ai_RV S.1 ρ rv r) (hn : n0 ≤ S.1) (ha : ∀ s, s < n0 → ρ s = ρ0 s) : ∃ q ∈ qs, ai_PO n0 rk ρ0 q r M := by
  unfold ai_rt at h
  split at h
  · rename_i b l
    rw [Bool.and_eq_true, List.any_eq_true] at h
    obtain ⟨hb, q, hq, h⟩ := h
    rw [Bool.and_eq_true] at h
    have hlen := Nat.eq_of_beq_eq_true h.1
    have hb := eq_of_beq hb
    obtain ⟨h1, h2⟩ := hr
    obtain ⟨ρ', S', e, X1, o1, c1, le, f1, h⟩ := ai_mF_ok h.2 o ((ai_sy_Sc n0 0 (by omega)).app h1)
    have hS := ai_rs_Sv ρ' (ai_sy 0 n0 ++ [l] ++ e)
    have hE := ai_mE_ok h o1 c1 hS
    have l0 : (ai_sy 0 n0 ++ [l]).length = n0 + 1 := by rw [List.length_append, ai_sy_len]; rfl
    have l1 : (ai_sy 0 n0 ++ [l] ++ e).length = n0 + q.1.length := by rw [List.length_append, l0, le]; omega
    rw [l1] at hE
    refine ⟨q, hq, hlen, ai_rs ρ' (ai_sy 0 n0 ++ [l] ++ e), fun s hs => ?_, ?_, hE.1, ?_, hE.2.1, hE.2.2⟩
    · have := hS.pre.pre s _ (ai_sy_at n0 0 s hs)
      rw [this, ai_s_va, Nat.zero_add, X1.2 s (by omega)]
      exact ha s hs
    · have e1 : ai_rs ρ' (ai_sy 0 n0 ++ [l] ++ e) n0 = ai_va ρ l := by
        rw [hS.pre n0 l (by rw [List.getElem?_append_right (by rw [ai_sy_len]; omega), ai_sy_len, Nat.sub_self]; rfl)]
        exact X1.va h1
      rw [e1, ← hb]
      dsimp only at h2
      rw [h2]
      unfold ai_pv
      rfl
    · have := f1 (n0 + q.1.length) _ (by rw [← List.length_append, l1]; omega) hS
      rw [l0] at this
      exact this
  · cases h
/-- a method whose checker says true keeps its contract -/
theorem ai_chk_ok {T : ai_T} {J : MM → Prop} {wJ : Nat} (hst : ∀ w M M', w &&& wJ = 0 → ai_Fr T w M M' → J M → J M') {cl : List ai_P} {inl : List Nat} {sp : ai_P} {cuts : ai_C} {fuel : Nat} (hcl : ∀ sp ∈ cl, ai_SP T J sp) (h : ai_chk T wJ cl inl sp cuts fuel = true) : ai_SP T J sp := by
  intro sc d ρ M as Q hcat _ hl hK hG hJM hQ
  obtain ⟨m, A, n0, w, rk, qs, ht⟩ := sp
  unfold ai_chk at h
  dsimp only at h hcat hl hK hQ ⊢
  split at h
  · cases h
  · rename_i x t hxt
    rw [Bool.and_eq_true, Bool.and_eq_true, Bool.and_eq_true, Bool.and_eq_true, List.all_eq_true] at h
    obtain ⟨⟨⟨hn, hw⟩, hh⟩, he, hcs⟩ := h
    have hn := Nat.eq_of_beq_eq_true hn
    have hw := Nat.eq_of_beq_eq_true hw
    have hJ : ∀ M', ai_Fr T w M M' → J M' := fun M' hf => hst w M M' hw hf hJM
    have hh := Nat.le_of_ble_eq_true hh
    have hFr : ai_Fr T w M M := fun _ _ _ => rfl
    -- the loops' heads, by the measure
    have hloop : ∀ (n : Nat) (j : Nat) (B : ai_A) (ms : ai_L), ai_cu cuts j = some (B, ms) → ∀ ρn L M1, (∀ s, s < n0 → ρn s = ρ s) → ai_RL (ai_aS n0 B).1 ρn (ai_bL n0 B.1) L → ai_Ok T w M ρn (ai_aS n0 B) M1 → ai_sc (ai_aS n0 B).1 ms → 0 ≤ ai_va ρn ms → (ai_va ρn ms).toNat < n → WP FF sc YF (d + ht) m j [] L M1 Q := by
      intro n
      induction n with
      | zero => intro j B ms _ ρn L M1 _ _ _ _ _ hlt; omega
      | succ n ih =>
        intro j B ms hj ρn L M1 hag hl1 ho hsc hms hlt
        have hq := hcs _ (ai_cu_mem hj)
        dsimp only at hq
        have hn0 : n0 ≤ (ai_aS n0 B).1 := by
          have : ∀ (l : List ai_D) (k : Nat), k ≤ ai_nL k l := by
            intro l
            induction l with
            | nil => intro k; exact Nat.le_refl _
            | cons d r ih => intro k; exact Nat.le_trans (Nat.le_add_right _ _) (ih _)
          exact Nat.le_trans (this B.1 n0) (Nat.le_add_right _ _)
        refine ai_ax_ok (ρ0 := ρ) (μ := ai_va ρn ms) hcl hJ fuel cuts ht _ _ j [] _ _ _ m d ρn [] L M1 Q hq hxt rfl ho trivial hl1 ⟨hn0, hag, fun m0 hm => by cases hm; exact ⟨hsc, rfl⟩⟩ (fun j2 B2 ms2 hj2 ρ2 L2 M2 ag2 rl2 ok2 sc2 nn2 lt2 => ?_) (fun ρ' S' rv r M' X1 o1 hv e2 => ?_)
        · have := lt2 ms rfl
          exact ih j2 B2 ms2 hj2 ρ2 L2 M2 ag2 rl2 ok2 sc2 nn2 (by omega)
        · exact hQ r M' o1.2.1 o1.2.2 (ai_rt_ok e2 o1 hv (Nat.le_trans hn0 X1.1) (fun s hs => (X1.2 s (Nat.lt_of_lt_of_le hs hn0)).trans (hag s hs)))
    refine ⟨hcat, Nat.ble_eq_true_of_le (by omega), ?_⟩
    refine ai_ax_ok (ρ0 := ρ) (mst := none) (μ := 0) hcl hJ fuel cuts ht _ _ 0 [] _ _ _ m d ρ [] _ M Q he hxt rfl ⟨hK, hG, hFr⟩ trivial (by rw [← hn]; exact hl) ⟨Nat.le_of_eq hn, fun _ _ => rfl, fun m0 hm => by cases hm⟩ (fun j2 B2 ms2 hj2 ρ2 L2 M2 ag2 rl2 ok2 sc2 nn2 _ => ?_) (fun ρ' S' rv r M' X1 o1 hv e2 => ?_)
    · exact hloop _ j2 B2 ms2 hj2 ρ2 L2 M2 ag2 rl2 ok2 sc2 nn2 (Nat.lt_succ_self _)
    · exact hQ r M' o1.2.1 o1.2.2 (ai_rt_ok e2 o1 hv (Nat.le_trans (Nat.le_of_eq hn) X1.1) (fun s hs => X1.2 s (Nat.lt_of_lt_of_le hs (Nat.le_of_eq hn))))
