/-! PART 17b: where new cells come; without the fixed references -/
/-! the same where new cells come -/
def WY (F : Nat → Nat → Nat) (sc : List Int) (d m i : Nat) (st : List Vv) (L : LL) (Y : YY) (M : MM) (Q : Vv → YY → MM → Prop) : Prop :=
  ∃ (n : Nat) (r : Vv) (Y' : YY) (M' : MM), exec (PP RTL) F (xar sc) n d m i st L Y M = some (r, Y', M') ∧ Q r Y' M'
def CY (F : Nat → Nat → Nat) (sc : List Int) (d m : Nat) (as : List Vv) (Y : YY) (M : MM) (Q : Vv → YY → MM → Prop) : Prop :=
  Nat.ble (catV as) (PP RTL m).1 = true ∧ Nat.ble 1 d = true ∧ WY F sc d m 0 [] (entLL (PP RTL m).1 as) Y M Q
theorem WY.mono {F : Nat → Nat → Nat} {sc : List Int} {Y : YY} {d m i : Nat} {st : List Vv} {L : LL} {M : MM} {Q Q' : Vv → YY → MM → Prop} (h : WY F sc d m i st L Y M Q) (hq : ∀ r Y' M', Q r Y' M' → Q' r Y' M') : WY F sc d m i st L Y M Q' := by
  obtain ⟨n, r, Y', M', h1, h2⟩ := h
  exact ⟨n, r, Y', M', h1, hq r Y' M' h2⟩
theorem CY.mono {F : Nat → Nat → Nat} {sc : List Int} {Y : YY} {d m : Nat} {as : List Vv} {M : MM} {Q Q' : Vv → YY → MM → Prop} (h : CY F sc d m as Y M Q) (hq : ∀ r Y' M', Q r Y' M' → Q' r Y' M') : CY F sc d m as Y M Q' := ⟨h.1, h.2.1, h.2.2.mono hq⟩
theorem CY.of {F : Nat → Nat → Nat} {sc : List Int} {Y : YY} {d m : Nat} {as : List Vv} {M : MM} {Q : Vv → YY → MM → Prop} (h : CA F sc Y d m as M (fun r M' => Q r Y M')) : CY F sc d m as Y M Q := by
  obtain ⟨h1, h2, n, r, M', h3, h4⟩ := h
  exact ⟨h1, h2, n, r, Y, M', h3, h4⟩
def cIY (k : Int → YY → MM → Prop) (r : Vv) (Y : YY) (M : MM) : Prop := match r with
  | .inl x => k x Y M
  | _ => False
def cJY (k : Int → YY → MM → Prop) (r : Vv) (Y : YY) (M : MM) : Prop := match r with
  | .inr (.inl x) => k x Y M
  | _ => False
def wpY (F : Nat → Nat → Nat) (X : Nat → List Int) (code : List MI) (C : Nat → List Vv → YY → MM → (Vv → YY → MM → Prop) → Prop) (K : Nat → List Vv → LL → YY → MM → Prop) (cut : Nat → Bool) (Q : Vv → YY → MM → Prop) : Nat → Nat → List Vv → LL → YY → MM → Prop
  | 0, i, st, L, Y, M => K i st L Y M
  | n + 1, i, st, L, Y, M => match code[i]? with
    | none => False
    | some mi => match stp F X Y M L st mi with
      | none => False
      | some (.inl (c, st', L', M')) => gAnd c (match cut (i + 1) with
        | true => K (i + 1) st' L' Y M'
        | false => wpY F X code C K cut Q n (i + 1) st' L' Y M')
      | some (.inr (.inl (c, t, st'))) => brA c (match cut t with
        | true => K t st' L Y M
        | false => wpY F X code C K cut Q n t st' L Y M) (match cut (i + 1) with
        | true => K (i + 1) st' L Y M
        | false => wpY F X code C K cut Q n (i + 1) st' L Y M)
      | some (.inr (.inr (.inl (x, tab, t, st')))) => swA x tab t (fun j => match cut j with
        | true => K j st' L Y M
        | false => wpY F X code C K cut Q n j st' L Y M)
      | some (.inr (.inr (.inr (.inl (g, m', as, c, st'))))) => gAnd g (match c with
        | 0 => C m' as Y M (fun _ Y' M' => match cut (i + 1) with
          | true => K (i + 1) st' L Y' M'
          | false => wpY F X code C K cut Q n (i + 1) st' L Y' M')
        | 1 => C m' as Y M (cIY fun x Y' M' => match cut (i + 1) with
          | true => K (i + 1) (vi x :: st') L Y' M'
          | false => wpY F X code C K cut Q n (i + 1) (vi x :: st') L Y' M')
        | _ => C m' as Y M (cJY fun x Y' M' => match cut (i + 1) with
          | true => K (i + 1) (vl x :: st') L Y' M'
          | false => wpY F X code C K cut Q n (i + 1) (vl x :: st') L Y' M'))
      | some (.inr (.inr (.inr (.inr (.inl (c, v)))))) => gAnd c (Q v Y M)
      | some (.inr (.inr (.inr (.inr (.inr (.inl (st', Y', M'))))))) => match cut (i + 1) with
        | true => K (i + 1) st' L Y' M'
        | false => wpY F X code C K cut Q n (i + 1) st' L Y' M'
      | some (.inr (.inr (.inr (.inr (.inr (.inr (t, st'))))))) => match cut t with
        | true => K t st' L Y M
        | false => wpY F X code C K cut Q n t st' L Y M
section WPYS
variable {F : Nat → Nat → Nat} {sc : List Int} {d m : Nat} {code : List MI} {K : Nat → List Vv → LL → YY → MM → Prop} {cut : Nat → Bool} {Q : Vv → YY → MM → Prop}
theorem WY.step {i : Nat} {st : List Vv} {L : LL} {Y : YY} {M : MM} {j : Nat} {st' : List Vv} {L' : LL} {Y' : YY} {M' : MM} (e : ∀ n, exec (PP RTL) F (xar sc) (n + 1) d m i st L Y M = exec (PP RTL) F (xar sc) n d m j st' L' Y' M') (h : WY F sc d m j st' L' Y' M' Q) : WY F sc d m i st L Y M Q := by
  obtain ⟨n, r, Y1, M1, h1, h2⟩ := h
  exact ⟨n + 1, r, Y1, M1, (e n).trans h1, h2⟩
theorem WY.call {i : Nat} {st st' : List Vv} {L : LL} {Y : YY} {M : MM} {g : Bool} {m' c : Nat} {as : List Vv} {mi : MI} (hm : (PP RTL m).2[i]? = some mi) (hs : stp F (xar sc) Y M L st mi = some (.inr (.inr (.inr (.inl (g, m', as, c, st')))))) (hg : g = true) (h : CY F sc d m' as Y M (fun r Y' M' => WY F sc (d + 1) m (i + 1) (psh c r st') L Y' M' Q)) : WY F sc (d + 1) m i st L Y M Q := by
  obtain ⟨h1, h2, n, r, Y1, M1, h3, n2, r2, Y2, M2, h4, h5⟩ := h
  refine ⟨n + n2 + 1, r2, Y2, M2, ?_, h5⟩
  rw [exec, hm]
  dsimp only
  rw [hs]
  dsimp only
  rw [hg, h1, h2]
  have e1 := exec_add (PP RTL) F (xar sc) h3 n2
  have e2 := exec_add (PP RTL) F (xar sc) h4 n
  rw [Nat.add_comm n2 n] at e2
  rw [e1]
  exact e2
theorem wpY_ok (hc : (PP RTL m).2 = code) (hK : ∀ i st L Y M, K i st L Y M → WY F sc (d + 1) m i st L Y M Q) : ∀ (n i : Nat) (st : List Vv) (L : LL) (Y : YY) (M : MM), wpY F (xar sc) code (CY F sc d) K cut Q n i st L Y M → WY F sc (d + 1) m i st L Y M Q := by
  intro n
  induction n with
  | zero => intro i st L Y M h; exact hK _ _ _ _ _ h
  | succ n ih =>
    intro i st L Y M h
    rw [wpY] at h
    cases hm : code[i]? with
    | none => rw [hm] at h; exact h.elim
    | some mi =>
      have hm2 : (PP RTL m).2[i]? = some mi := by rw [hc]; exact hm
      rw [hm] at h
      dsimp only at h
      cases hs : stp F (xar sc) Y M L st mi with
      | none => rw [hs] at h; exact h.elim
      | some act =>
        rw [hs] at h
        rcases act with ⟨c, st', L', M'⟩ | ⟨c, t, st'⟩ | ⟨x, tab, t, st'⟩ | ⟨g, m', as, c, st'⟩ | ⟨c, v⟩ | ⟨st', Y', M'⟩ | ⟨t, st'⟩ <;> dsimp only at h
        · obtain ⟨h1, h2⟩ := gAnd_iff.mp h
          subst h1
          exact WY.step (fun k => by rw [exec, hm2]; dsimp only; rw [hs]) (cutK h2 (hK _ _ _ _ _) (ih _ _ _ _ _))
        · cases c with
          | true => exact WY.step (fun k => by rw [exec, hm2]; dsimp only; rw [hs]) (cutK h (hK _ _ _ _ _) (ih _ _ _ _ _))
          | false => exact WY.step (fun k => by rw [exec, hm2]; dsimp only; rw [hs]) (cutK h (hK _ _ _ _ _) (ih _ _ _ _ _))
        · exact WY.step (fun k => by rw [exec, hm2]; dsimp only; rw [hs]) (cutK (swA_ok h) (hK _ _ _ _ _) (ih _ _ _ _ _))
        · obtain ⟨h1, h2⟩ := gAnd_iff.mp h
          refine WY.call hm2 hs h1 ?_
          match c, h2 with
          | 0, h2 => exact h2.mono fun r Y' M' q => cutK q (hK _ _ _ _ _) (ih _ _ _ _ _)
          | 1, h2 =>
            refine h2.mono fun r Y' M' q => ?_
            rcases r with x | x
            · exact cutK q (hK _ _ _ _ _) (ih _ _ _ _ _)
            · exact q.elim
          | c + 2, h2 =>
            refine h2.mono fun r Y' M' q => ?_
            rcases r with x | x | x
            · exact q.elim
            · exact cutK q (hK _ _ _ _ _) (ih _ _ _ _ _)
            · exact q.elim
        · obtain ⟨h1, h2⟩ := gAnd_iff.mp h
          subst h1
          exact ⟨1, v, Y, M, by rw [exec, hm2]; dsimp only; rw [hs], h2⟩
        · exact WY.step (fun k => by rw [exec, hm2]; dsimp only; rw [hs]) (cutK h (hK _ _ _ _ _) (ih _ _ _ _ _))
        · exact WY.step (fun k => by rw [exec, hm2]; dsimp only; rw [hs]) (cutK h (hK _ _ _ _ _) (ih _ _ _ _ _))
theorem wy_go (hc : (PP RTL m).2 = code) (cut : Nat → Bool) (n : Nat) {i : Nat} {st : List Vv} {L : LL} {Y : YY} {M : MM} (h : wpY F (xar sc) code (CY F sc d) (fun i st L Y M => WY F sc (d + 1) m i st L Y M Q) cut Q n i st L Y M) : WY F sc (d + 1) m i st L Y M Q := wpY_ok hc (fun _ _ _ _ _ h => h) n i st L Y M h
theorem cy_go {as : List Vv} {Y : YY} {M : MM} (h0 : Nat.ble (catV as) (PP RTL m).1 = true) (hc : (PP RTL m).2 = code) (cut : Nat → Bool) (n : Nat) (h : wpY F (xar sc) code (CY F sc d) (fun i st L Y M => WY F sc (d + 1) m i st L Y M Q) cut Q n 0 [] (entLL (PP RTL m).1 as) Y M) : CY F sc (d + 1) m as Y M Q := ⟨h0, rfl, wpY_ok hc (fun _ _ _ _ _ h => h) n 0 _ _ Y M h⟩
end WPYS
abbrev F0z : Nat → Nat → Nat := fun _ _ => 0
section FZ
variable {F : Nat → Nat → Nat} {X : Nat → List Int} {Y : YY} {M M' : MM} {L L' : LL} {st st' : List Vv}
theorem rf_0 (hI : Inv F Y M) (k j : Nat) : rfO (F k j) (M k j) = rfO 0 (M k j) ∧ (rfK (F k j) (M k j) = true → rfK 0 (M k j) = true) := by
  cases hF : F k j with
  | zero => exact ⟨rfl, id⟩
  | succ t =>
    have h := (hI.2 k j t hF).1
    refine ⟨?_, fun _ => decide_eq_true (by omega)⟩
    show t = (M k j).toNat - 1
    omega
theorem stp_0 {mi : MI} (hs : stp F X Y M L st mi = some (.inl (true, st', L', M'))) (hI : Inv F Y M) : stp F0z X Y M L st mi = some (.inl (true, st', L', M')) := by
  obtain ⟨op, a, b, c, v, tab, sub, idx, pl⟩ := mi
  match op, hs with
  | 0, hs => exact hs
  | 1, hs => exact hs
  | 2, hs => exact hs
  | 3, hs => exact hs
  | 4, hs => exact hs
  | 5, hs => exact hs
  | 6, hs => exact hs
  | 7, hs => exact hs
  | 8, hs => exact hs
  | 9, hs => exact hs
  | 10, hs => exact hs
  | 11, hs => exact hs
  | 12, hs => exact hs
  | 13, hs => exact hs
  | 14, hs => exact hs
  | 15, hs => exact hs
  | 16, hs => exact hs
  | 17, hs => exact hs
  | 18, hs => exact hs
  | 19, hs => exact hs
  | 20, hs =>
    obtain ⟨k, s0, rfl, hkd, hrf, rfl, rfl, rfl⟩ := in_20 hs
    obtain ⟨e1, e2⟩ := rf_0 hI k b
    rw [st_20]
    show aN ((kd Y k == 10 + a) && rfK 0 (M' k b)) (vr (rfO 0 (M' k b)) :: s0) L' M' = _
    rw [hkd, e2 hrf, e1]
    rfl
  | 21, hs => exact hs
  | 22, hs =>
    obtain ⟨t, k, s0, rfl, hkd, hF, rfl, rfl, rfl⟩ := in_22 hs
    rw [st_22]
    show aN ((kd Y k == 10 + a) && true) _ _ _ = _
    rw [hkd]
    rfl
  | 23, hs => exact hs
  | 24, hs =>
    obtain ⟨t, k, s0, rfl, hkd, hF, rfl, rfl, rfl⟩ := in_24 hs
    rw [st_24]
    show aN ((kd Y k == 10 + a) && true) _ _ _ = _
    rw [hkd]
    rfl
  | 25, hs =>
    rcases in_25 hs with ⟨x, k, s0, rfl, hkd, h0, h1, rfl, rfl, h⟩ | ⟨x, k, s0, rfl, rfl, h0, h1, rfl, rfl, rfl⟩
    · rcases h with ⟨rfl, rfl⟩ | ⟨rfl, hrf, rfl⟩ | ⟨h3, h4, rfl⟩
      · exact hs
      · obtain ⟨e1, e2⟩ := rf_0 hI k x.toNat
        show aN ((kd Y k == 4) && (decide (0 ≤ x) && (decide (x < ln Y k) && rfK 0 (M' k x.toNat)))) (vr (rfO 0 (M' k x.toNat)) :: s0) L' M' = _
        rw [hkd, e2 hrf, e1, decide_eq_true h0, decide_eq_true h1]
        rfl
      · rw [st_25] at hs ⊢
        dsimp only at hs ⊢
        split
        · exact absurd rfl h3
        · exact absurd rfl h4
        · rw [hkd, decide_eq_true h0, decide_eq_true h1]
          rfl
    · exact hs
  | 26, hs => exact hs
  | 27, hs => exact hs
  | 28, hs => exact hs
  | 29, hs => exact hs
  | 30, hs => exact hs
  | 31, hs => exact hs
  | 32, hs => exact hs
  | 33, hs => exact hs
  | 34, hs => exact hs
  | 35, hs => exact hs
  | 36, hs => exact hs
  | 37, hs => exact hs
  | 38, hs => exact hs
  | 39, hs => exact hs
  | op + 40, hs => cases hs
theorem stp_0r {mi : MI} {q : _} (hs : stp F X Y M L st mi = some (.inr q)) : stp F0z X Y M L st mi = some (.inr q) := by
  obtain ⟨op, a, b, c, v, tab, sub, idx, pl⟩ := mi
  match op, hs with
  | 0, hs => exact hs
  | 1, hs => exact hs
  | 2, hs => exact hs
  | 3, hs => exact hs
  | 4, hs => exact hs
  | 5, hs => exact hs
  | 6, hs => exact hs
  | 7, hs => exact hs
  | 8, hs => exact hs
  | 9, hs => exact hs
  | 10, hs => exact hs
  | 11, hs => exact hs
  | 12, hs => exact hs
  | 13, hs => exact hs
  | 14, hs => exact hs
  | 15, hs => exact hs
  | 16, hs => exact hs
  | 17, hs => exact hs
  | 18, hs => exact hs
  | 19, hs => exact hs
  | 20, hs =>
    rw [st_20] at hs
    repeat' first | (cases hs; done) | split at hs
  | 21, hs => exact hs
  | 22, hs =>
    rw [st_22] at hs
    repeat' first | (cases hs; done) | split at hs
  | 23, hs => exact hs
  | 24, hs =>
    rw [st_24] at hs
    repeat' first | (cases hs; done) | split at hs
  | 25, hs =>
    rw [st_25] at hs
    repeat' first | (cases hs; done) | split at hs
  | 26, hs => exact hs
  | 27, hs => exact hs
  | 28, hs => exact hs
  | 29, hs => exact hs
  | 30, hs => exact hs
  | 31, hs => exact hs
  | 32, hs => exact hs
  | 33, hs => exact hs
  | 34, hs => exact hs
  | 35, hs => exact hs
  | 36, hs => exact hs
  | 37, hs => exact hs
  | 38, hs => exact hs
  | 39, hs => exact hs
  | op + 40, hs => cases hs
end FZ
theorem exec_0 {RT : List Rec} (hRT : ∀ (m : Nat) (R : Rec), RT[m]? = some R → okC RT R = true) {F : Nat → Nat → Nat} {X : Nat → List Int} (hX : okX X) : ∀ (n d m i : Nat) (st : List Vv) (L : LL) (Y : YY) (M : MM) (o : Vv × YY × MM), exec (PP RT) F X n d m i st L Y M = some o → Kp F Y M st L → exec (PP RT) F0z X n d m i st L Y M = some o := by
  intro n
  induction n with
  | zero => intro d m i st L Y M o h; cases h
  | succ n ih =>
    intro d m i st L Y M o h K
    rw [exec] at h ⊢
    cases hc : (PP RT m).2[i]? with
    | none => rw [hc] at h; cases h
    | some mi =>
      obtain ⟨R, hR, hi, -⟩ := PP_at hc
      have hk := okC_at (hRT m R hR) hi
      rw [hc] at h
      dsimp only at h ⊢
      cases hs : stp F X Y M L st mi with
      | none => rw [hs] at h; cases h
      | some act =>
        rw [hs] at h
        rcases act with ⟨c, st', L', M'⟩ | q
        · dsimp only at h
          cases c with
          | false => cases h
          | true =>
            rw [stp_0 hs K.1]
            exact ih _ _ _ _ _ _ _ _ h (kp_N hX hk hs K)
        · rw [stp_0r hs]
          rcases q with ⟨c, t, st'⟩ | ⟨x, tab, t, st'⟩ | ⟨g, m', as, c, st'⟩ | ⟨c, v⟩ | ⟨st', Y', M'⟩ | ⟨t, st'⟩ <;> dsimp only at h ⊢
          · cases c with
            | false => exact ih _ _ _ _ _ _ _ _ h ⟨K.1, kp_B hs K, K.2.2⟩
            | true => exact ih _ _ _ _ _ _ _ _ h ⟨K.1, kp_B hs K, K.2.2⟩
          · exact ih _ _ _ _ _ _ _ _ h ⟨K.1, kp_S hs K, K.2.2⟩
          · cases d with
            | zero => cases h
            | succ d =>
              dsimp only at h ⊢
              cases hb : g && (Nat.ble (catV as) (PP RT m').1 && Nat.ble 1 d) with
              | false => rw [hb] at h; cases h
              | true =>
                rw [hb] at h
                dsimp only at h ⊢
                obtain ⟨k1, k2, k3⟩ := kp_C hs K
                have K3 : Kp F Y M [] (entLL (PP RT m').1 as) := ⟨K.1, fun _ q => (by cases q), okLv_ent k2 k3⟩
                cases h1 : exec (PP RT) F X n d m' 0 [] (entLL (PP RT m').1 as) Y M with
                | none => rw [h1] at h; cases h
                | some q =>
                  rw [h1] at h
                  rw [ih _ _ _ _ _ _ _ _ h1 K3]
                  obtain ⟨r', Y2, M2⟩ := q
                  obtain ⟨i1, i2, -⟩ := exec_keeps hRT hX _ _ _ _ _ _ _ _ _ _ _ h1 K3
                  exact ih _ _ _ _ _ _ _ _ h ⟨i1, okVs_psh i2 k1, K.2.2⟩
          · exact h
          · obtain ⟨k1, k2, -⟩ := kp_A hs K
            exact ih _ _ _ _ _ _ _ _ h ⟨k1, k2, K.2.2⟩
          · exact ih _ _ _ _ _ _ _ _ h ⟨K.1, kp_G hs K, K.2.2⟩
/-- a call with the fixed references known is a call -/
theorem CA.to0 {F : Nat → Nat → Nat} {sc : List Int} {Y : YY} {d m : Nat} {as : List Vv} {M : MM} {Q : Vv → MM → Prop} (hRT : ∀ (m : Nat) (R : Rec), RTL[m]? = some R → okC RTL R = true) (hX : okX (xar sc)) (hI : Inv F Y M) (has : okVs as) (hx : ∀ z ∈ as, isXv z = false) (h : CA F sc Y d m as M Q) : CA F0z sc Y d m as M (fun r M' => Q r M' ∧ Inv F Y M') := by
  obtain ⟨h1, h2, n, r, M', h3, h4⟩ := h
  have K : Kp F Y M [] (entLL (PP RTL m).1 as) := ⟨hI, fun _ q => (by cases q), okLv_ent has hx⟩
  exact ⟨h1, h2, n, r, M', exec_0 hRT hX _ _ _ _ _ _ _ _ _ h3 K, h4, (exec_keeps hRT hX _ _ _ _ _ _ _ _ _ _ _ h3 K).1⟩
