/-! PART 60: what every run that ends comes to (no guard, no end to show): 'PW', 'PC'; a run's depth and fuel don't matter -/
def PWk (sc : List Int) (k m i : Nat) (st : List Vv) (L : LL) (M : MM) (Q : Vv → MM → Prop) : Prop := ∀ (d : Nat) (r : Vv) (Y' : YY) (M' : MM), exec (PP RTL) FF (xar sc) k d m i st L YF M = some (r, Y', M') → Y' = YF ∧ Q r M'
def PW (sc : List Int) (n m i : Nat) (st : List Vv) (L : LL) (M : MM) (Q : Vv → MM → Prop) : Prop := ∀ k, k ≤ n → PWk sc k m i st L M Q
def PC (sc : List Int) (n m : Nat) (as : List Vv) (M : MM) (Q : Vv → MM → Prop) : Prop := PW sc n m 0 [] (entLL (PP RTL m).1 as) M Q
def gIm (c : Bool) (P : Prop) : Prop := match c with
  | true => P
  | false => True
theorem gMB {c : Bool} {P : Prop} (h : P) : gIm c P := by
  cases c
  · trivial
  · exact h
theorem gMA {p : Prop} [Decidable p] {P : Prop} (h : p → P) : gIm (decide p) P := by
  cases e : decide p
  · trivial
  · exact h (of_decide_eq_true e)
theorem gMI {x n : Int} {P : Prop} (h : 0 ≤ x → x < n → P) : gIm (decide (0 ≤ x) && decide (x < n)) P := by
  cases e : (decide (0 ≤ x) && decide (x < n))
  · trivial
  · rw [Bool.and_eq_true] at e
    exact h (of_decide_eq_true e.1) (of_decide_eq_true e.2)
theorem gMC {c : Bool} {P : Prop} (h : c = true → P) : gIm c P := by
  cases c
  · trivial
  · exact h rfl
theorem PW.mono {sc : List Int} {n m i : Nat} {st : List Vv} {L : LL} {M : MM} {Q Q' : Vv → MM → Prop} (h : PW sc n m i st L M Q) (hq : ∀ r M', Q r M' → Q' r M') : PW sc n m i st L M Q' := fun k hk d r Y' M' e => ⟨(h k hk d r Y' M' e).1, hq r M' (h k hk d r Y' M' e).2⟩
theorem PC.mono {sc : List Int} {n m : Nat} {as : List Vv} {M : MM} {Q Q' : Vv → MM → Prop} (h : PC sc n m as M Q) (hq : ∀ r M', Q r M' → Q' r M') : PC sc n m as M Q' := PW.mono h hq
theorem PW.le {sc : List Int} {n n' m i : Nat} {st : List Vv} {L : LL} {M : MM} {Q : Vv → MM → Prop} (h : PW sc n m i st L M Q) (e : n' ≤ n) : PW sc n' m i st L M Q := fun k hk => h k (Nat.le_trans hk e)
theorem PW.and {sc : List Int} {n m i : Nat} {st : List Vv} {L : LL} {M : MM} {Q Q' : Vv → MM → Prop} (h : PW sc n m i st L M Q) (g : PW sc n m i st L M Q') : PW sc n m i st L M (fun r M' => Q r M' ∧ Q' r M') := fun k hk d r Y' M' e => ⟨(h k hk d r Y' M' e).1, (h k hk d r Y' M' e).2, (g k hk d r Y' M' e).2⟩
theorem PC.and {sc : List Int} {n m : Nat} {as : List Vv} {M : MM} {Q Q' : Vv → MM → Prop} (h : PC sc n m as M Q) (g : PC sc n m as M Q') : PC sc n m as M (fun r M' => Q r M' ∧ Q' r M') := PW.and h g
/-! more depth, the same run -/
theorem exec_dp (P : Nat → Nat × List MI) (F : Nat → Nat → Nat) (X : Nat → List Int) : ∀ (n d m i : Nat) (st : List Vv) (L : LL) (Y : YY) (M : MM) (o : Vv × YY × MM), exec P F X n d m i st L Y M = some o → exec P F X n (d + 1) m i st L Y M = some o := by
  intro n
  induction n with
  | zero => intro d m i st L Y M o h; cases h
  | succ n ih =>
    intro d m i st L Y M o h
    rw [exec] at h ⊢
    revert h
    cases (P m).2[i]? with
    | none => exact id
    | some mi =>
      dsimp only
      cases stp F X Y M L st mi with
      | none => exact id
      | some act =>
        rcases act with ⟨c, st', L', M'⟩ | ⟨c, t, st'⟩ | ⟨x, tab, t, st'⟩ | ⟨g, m', as, c, st'⟩ | ⟨c, v⟩ | ⟨st', Y', M'⟩ | ⟨t, st'⟩ <;> dsimp only
        · cases c
          · exact id
          · exact ih _ _ _ _ _ _ _ _
        · cases c <;> exact ih _ _ _ _ _ _ _ _
        · exact ih _ _ _ _ _ _ _ _
        · cases d with
          | zero => intro h; cases h
          | succ d =>
            dsimp only
            cases hb : g && (Nat.ble (catV as) (P m').1 && Nat.ble 1 d) with
            | false => intro h; cases h
            | true =>
              have hb2 : (g && (Nat.ble (catV as) (P m').1 && Nat.ble 1 (d + 1))) = true := by
                rw [Bool.and_eq_true, Bool.and_eq_true] at hb ⊢
                exact ⟨hb.1, hb.2.1, Nat.ble_eq_true_of_le (Nat.le_add_left 1 d)⟩
              rw [hb2]
              dsimp only
              cases h1 : exec P F X n d m' 0 [] (entLL (P m').1 as) Y M with
              | none => intro h; cases h
              | some q =>
                rw [ih _ _ _ _ _ _ _ _ h1]
                exact ih _ _ _ _ _ _ _ _
        · exact id
        · exact ih _ _ _ _ _ _ _ _
        · exact ih _ _ _ _ _ _ _ _
theorem exec_dps (P : Nat → Nat × List MI) (F : Nat → Nat → Nat) (X : Nat → List Int) {n d m i : Nat} {st : List Vv} {L : LL} {Y : YY} {M : MM} {o : Vv × YY × MM} (h : exec P F X n d m i st L Y M = some o) : ∀ k, exec P F X n (d + k) m i st L Y M = some o
  | 0 => h
  | k + 1 => exec_dp P F X _ _ _ _ _ _ _ _ _ (exec_dps P F X h k)
theorem exec_one (P : Nat → Nat × List MI) (F : Nat → Nat → Nat) (X : Nat → List Int) {n n' d d' m i : Nat} {st : List Vv} {L : LL} {Y : YY} {M : MM} {o o' : Vv × YY × MM} (h : exec P F X n d m i st L Y M = some o) (h' : exec P F X n' d' m i st L Y M = some o') : o = o' := by
  have e1 := exec_add P F X (exec_dps P F X h d') n'
  have e2 := exec_add P F X (exec_dps P F X h' d) n
  rw [Nat.add_comm n' n, Nat.add_comm d' d, e1] at e2
  exact Option.some.inj e2
/-- what a run that ends comes to, is what each one comes to -/
theorem PC.of {sc : List Int} {d n m : Nat} {as : List Vv} {M : MM} {Q : Vv → MM → Prop} (h : CA FF sc YF d m as M Q) : PC sc n m as M Q := fun k _ d' r Y' M' e => by
  obtain ⟨-, -, n0, r0, M0, h1, h2⟩ := h
  have := exec_one _ _ _ h1 e
  cases this
  exact ⟨rfl, h2⟩
/-- it ends, and each run that ends comes to more -/
theorem CA.and {sc : List Int} {d m : Nat} {as : List Vv} {M : MM} {Q Q' : Vv → MM → Prop} (h : CA FF sc YF d m as M Q) (g : ∀ n, PC sc n m as M Q') : CA FF sc YF d m as M (fun r M' => Q r M' ∧ Q' r M') := by
  obtain ⟨h1, h2, n, r, M1, h3, h4⟩ := h
  exact ⟨h1, h2, n, r, M1, h3, h4, ((g n) n (Nat.le_refl _) d r YF M1 h3).2⟩
def ppc (F : Nat → Nat → Nat) (X : Nat → List Int) (Y : YY) (code : List MI) (C : Nat → List Vv → MM → (Vv → MM → Prop) → Prop) (K : Nat → List Vv → LL → MM → Prop) (cut : Nat → Bool) (Q : Vv → MM → Prop) : Nat → Nat → List Vv → LL → MM → Prop
  | 0, i, st, L, M => K i st L M
  | n + 1, i, st, L, M => match code[i]? with
    | none => True
    | some mi => match stp F X Y M L st mi with
      | none => True
      | some (.inl (c, st', L', M')) => gIm c (match cut (i + 1) with
        | true => K (i + 1) st' L' M'
        | false => ppc F X Y code C K cut Q n (i + 1) st' L' M')
      | some (.inr (.inl (c, t, st'))) => brA c (match cut t with
        | true => K t st' L M
        | false => ppc F X Y code C K cut Q n t st' L M) (match cut (i + 1) with
        | true => K (i + 1) st' L M
        | false => ppc F X Y code C K cut Q n (i + 1) st' L M)
      | some (.inr (.inr (.inl (x, tab, t, st')))) => swA x tab t (fun j => match cut j with
        | true => K j st' L M
        | false => ppc F X Y code C K cut Q n j st' L M)
      | some (.inr (.inr (.inr (.inl (g, m', as, c, st'))))) => gIm g (match c with
        | 0 => C m' as M (fun _ M' => match cut (i + 1) with
          | true => K (i + 1) st' L M'
          | false => ppc F X Y code C K cut Q n (i + 1) st' L M')
        | 1 => C m' as M (cI fun x M' => match cut (i + 1) with
          | true => K (i + 1) (vi x :: st') L M'
          | false => ppc F X Y code C K cut Q n (i + 1) (vi x :: st') L M')
        | _ => C m' as M (cJ fun x M' => match cut (i + 1) with
          | true => K (i + 1) (vl x :: st') L M'
          | false => ppc F X Y code C K cut Q n (i + 1) (vl x :: st') L M'))
      | some (.inr (.inr (.inr (.inr (.inl (c, v)))))) => gIm c (Q v M)
      | some (.inr (.inr (.inr (.inr (.inr (.inl _)))))) => False
      | some (.inr (.inr (.inr (.inr (.inr (.inr (t, st'))))))) => match cut t with
        | true => K t st' L M
        | false => ppc F X Y code C K cut Q n t st' L M
section PPC
variable {sc : List Int} {m : Nat} {code : List MI} {C : Nat → List Vv → MM → (Vv → MM → Prop) → Prop} {K : Nat → List Vv → LL → MM → Prop} {cut : Nat → Bool} {Q : Vv → MM → Prop}
theorem ppc_step (hc : (PP RTL m).2 = code) {k N : Nat} (hC : ∀ m' as M Q', C m' as M Q' → PWk sc k m' 0 [] (entLL (PP RTL m').1 as) M Q') (hK : ∀ i st L M, K i st L M → PWk sc k m i st L M Q) (hN : ∀ i st L M, ppc FF (xar sc) YF code C K cut Q N i st L M → PWk sc k m i st L M Q) {i : Nat} {st : List Vv} {L : LL} {M : MM} (h : ppc FF (xar sc) YF code C K cut Q (N + 1) i st L M) : PWk sc (k + 1) m i st L M Q := by
  intro d r Y' M' e
  rw [exec] at e
  rw [ppc] at h
  cases hm : code[i]? with
  | none =>
    have hm2 : (PP RTL m).2[i]? = none := by rw [hc]; exact hm
    rw [hm2] at e
    cases e
  | some mi =>
    have hm2 : (PP RTL m).2[i]? = some mi := by rw [hc]; exact hm
    rw [hm] at h
    rw [hm2] at e
    dsimp only at h e
    cases hs : stp FF (xar sc) YF M L st mi with
    | none =>
      rw [hs] at e
      cases e
    | some act =>
      rw [hs] at h e
      rcases act with ⟨c, st', L', M1⟩ | ⟨c, t, st'⟩ | ⟨x, tab, t, st'⟩ | ⟨g, m', as, c, st'⟩ | ⟨c, v⟩ | ⟨st', Y1, M1⟩ | ⟨t, st'⟩ <;> dsimp only at h e
      · cases c with
        | true => exact cutK h (hK _ _ _ _) (hN _ _ _ _) d r Y' M' e
        | false => cases e
      · cases c with
        | true => exact cutK h (hK _ _ _ _) (hN _ _ _ _) d r Y' M' e
        | false => exact cutK h (hK _ _ _ _) (hN _ _ _ _) d r Y' M' e
      · exact cutK (swA_ok h) (hK _ _ _ _) (hN _ _ _ _) d r Y' M' e
      · cases d with
        | zero => cases e
        | succ d =>
          dsimp only at e
          cases hb : g && (Nat.ble (catV as) (PP RTL m').1 && Nat.ble 1 d) with
          | false =>
            rw [hb] at e
            cases e
          | true =>
            rw [hb] at e
            dsimp only at e
            have hg : g = true := by
              rw [Bool.and_eq_true] at hb
              exact hb.1
            subst hg
            cases h1 : exec (PP RTL) FF (xar sc) k d m' 0 [] (entLL (PP RTL m').1 as) YF M with
            | none =>
              rw [h1] at e
              cases e
            | some q =>
              obtain ⟨r1, Y1, M1⟩ := q
              rw [h1] at e
              dsimp only at e
              match c, h, e with
              | 0, h, e =>
                obtain ⟨rfl, q⟩ := hC _ _ _ _ h d r1 Y1 M1 h1
                exact cutK q (hK _ _ _ _) (hN _ _ _ _) _ r Y' M' e
              | 1, h, e =>
                obtain ⟨rfl, q⟩ := hC _ _ _ _ h d r1 Y1 M1 h1
                rcases r1 with x | x
                · exact cutK q (hK _ _ _ _) (hN _ _ _ _) _ r Y' M' e
                · exact q.elim
              | c + 2, h, e =>
                obtain ⟨rfl, q⟩ := hC _ _ _ _ h d r1 Y1 M1 h1
                rcases r1 with x | x | x
                · exact q.elim
                · exact cutK q (hK _ _ _ _) (hN _ _ _ _) _ r Y' M' e
                · exact q.elim
      · cases c with
        | true =>
          cases e
          exact ⟨rfl, h⟩
        | false => cases e
      · exact cutK h (hK _ _ _ _) (hN _ _ _ _) d r Y' M' e
theorem PWk_0 {i : Nat} {st : List Vv} {L : LL} {M : MM} : PWk sc 0 m i st L M Q := fun d r Y' M' e => by cases e
theorem ppc_le (hc : (PP RTL m).2 = code) {n : Nat} : ∀ (N k : Nat), k ≤ n → ∀ (i : Nat) (st : List Vv) (L : LL) (M : MM), ppc FF (xar sc) YF code (PC sc n) (fun i st L M => PW sc n m i st L M Q) cut Q N i st L M → PWk sc k m i st L M Q := by
  intro N
  induction N with
  | zero => intro k hk i st L M h; exact h k hk
  | succ N ih =>
    intro k hk i st L M h
    cases k with
    | zero => exact PWk_0
    | succ k => exact ppc_step hc (fun m' as M Q' h => h k (by omega)) (fun i st L M h => h k (by omega)) (fun i st L M h => ih k (by omega) i st L M h) h
/-- the region lemma's proof -/
theorem pw_go (hc : (PP RTL m).2 = code) (cut : Nat → Bool) (N : Nat) {n i : Nat} {st : List Vv} {L : LL} {M : MM} (h : ∀ n', n' < n → ppc FF (xar sc) YF code (PC sc n') (fun i st L M => PW sc n' m i st L M Q) cut Q (N + 1) i st L M) : PW sc n m i st L M Q := fun k hk => by
  cases k with
  | zero => exact PWk_0
  | succ k => exact ppc_step hc (fun m' as M Q' h => h k (Nat.le_refl _)) (fun i st L M h => h k (Nat.le_refl _)) (fun i st L M h => ppc_le hc N k (Nat.le_refl _) i st L M h) (h k (by omega))
theorem pc_go (hc : (PP RTL m).2 = code) (cut : Nat → Bool) (N : Nat) {n : Nat} {as : List Vv} {M : MM} (h : ∀ n', n' < n → ppc FF (xar sc) YF code (PC sc n') (fun i st L M => PW sc n' m i st L M Q) cut Q (N + 1) 0 [] (entLL (PP RTL m).1 as) M) : PC sc n m as M Q := pw_go hc cut N h
end PPC
/-- the callee's answer is an int, handed on -/
theorem cI_i {k : Int → MM → Prop} {x : Int} {M : MM} (h : k x M) : cI k (vi x) M := h
