/-! PART 17: what a run of our small machine comes to: weakest preconditions, by regions of a method -/
def WP (F : Nat → Nat → Nat) (sc : List Int) (Y : YY) (d m i : Nat) (st : List Vv) (L : LL) (M : MM) (Q : Vv → MM → Prop) : Prop :=
  ∃ (n : Nat) (r : Vv) (M' : MM), exec (PP RTL) F (xar sc) n d m i st L Y M = some (r, Y, M') ∧ Q r M'
/-- a call -/
def CA (F : Nat → Nat → Nat) (sc : List Int) (Y : YY) (d m : Nat) (as : List Vv) (M : MM) (Q : Vv → MM → Prop) : Prop :=
  Nat.ble (catV as) (PP RTL m).1 = true ∧ Nat.ble 1 d = true ∧ WP F sc Y d m 0 [] (entLL (PP RTL m).1 as) M Q
theorem WP.mono {F : Nat → Nat → Nat} {sc : List Int} {Y : YY} {d m i : Nat} {st : List Vv} {L : LL} {M : MM} {Q Q' : Vv → MM → Prop} (h : WP F sc Y d m i st L M Q) (hq : ∀ r M', Q r M' → Q' r M') : WP F sc Y d m i st L M Q' := by
  obtain ⟨n, r, M', h1, h2⟩ := h
  exact ⟨n, r, M', h1, hq r M' h2⟩
theorem CA.mono {F : Nat → Nat → Nat} {sc : List Int} {Y : YY} {d m : Nat} {as : List Vv} {M : MM} {Q Q' : Vv → MM → Prop} (h : CA F sc Y d m as M Q) (hq : ∀ r M', Q r M' → Q' r M') : CA F sc Y d m as M Q' := ⟨h.1, h.2.1, h.2.2.mono hq⟩
def gAnd (c : Bool) (P : Prop) : Prop := match c with
  | true => P
  | false => False
def brA (c : Bool) (P Q : Prop) : Prop := match c with
  | true => P
  | false => Q
def swA (x : Int) (tab : List (Int × Nat)) (t : Nat) (K : Nat → Prop) : Prop := match tab with
  | [] => K t
  | p :: ps => (x = p.1 → K p.2) ∧ (x ≠ p.1 → swA x ps t K)
def cI (k : Int → MM → Prop) (r : Vv) (M : MM) : Prop := match r with
  | .inl x => k x M
  | _ => False
def cJ (k : Int → MM → Prop) (r : Vv) (M : MM) : Prop := match r with
  | .inr (.inl x) => k x M
  | _ => False
theorem gAnd_iff {c : Bool} {P : Prop} : gAnd c P ↔ c = true ∧ P := by
  cases c
  · exact ⟨fun h => h.elim, fun h => (by cases h.1)⟩
  · exact ⟨fun h => ⟨rfl, h⟩, fun h => h.2⟩
theorem brA_iff {c : Bool} {P Q : Prop} : brA c P Q ↔ (c = true → P) ∧ (c = false → Q) := by
  cases c
  · exact ⟨fun h => ⟨fun q => (by cases q), fun _ => h⟩, fun h => h.2 rfl⟩
  · exact ⟨fun h => ⟨fun _ => h, fun q => (by cases q)⟩, fun h => h.1 rfl⟩
theorem swA_ok {x : Int} {tab : List (Int × Nat)} {t : Nat} {K : Nat → Prop} (h : swA x tab t K) : K (swt tab t x) := by
  induction tab with
  | nil => exact h
  | cons p ps ih =>
    unfold swt
    by_cases hx : x = p.1
    · rw [if_pos hx]
      exact h.1 hx
    · rw [if_neg hx]
      exact ih (h.2 hx)
def wpc (F : Nat → Nat → Nat) (X : Nat → List Int) (Y : YY) (code : List MI) (C : Nat → List Vv → MM → (Vv → MM → Prop) → Prop) (K : Nat → List Vv → LL → MM → Prop) (cut : Nat → Bool) (Q : Vv → MM → Prop) : Nat → Nat → List Vv → LL → MM → Prop
  | 0, i, st, L, M => K i st L M
  | n + 1, i, st, L, M => match code[i]? with
    | none => False
    | some mi => match stp F X Y M L st mi with
      | none => False
      | some (.inl (c, st', L', M')) => gAnd c (match cut (i + 1) with
        | true => K (i + 1) st' L' M'
        | false => wpc F X Y code C K cut Q n (i + 1) st' L' M')
      | some (.inr (.inl (c, t, st'))) => brA c (match cut t with
        | true => K t st' L M
        | false => wpc F X Y code C K cut Q n t st' L M) (match cut (i + 1) with
        | true => K (i + 1) st' L M
        | false => wpc F X Y code C K cut Q n (i + 1) st' L M)
      | some (.inr (.inr (.inl (x, tab, t, st')))) => swA x tab t (fun j => match cut j with
        | true => K j st' L M
        | false => wpc F X Y code C K cut Q n j st' L M)
      | some (.inr (.inr (.inr (.inl (g, m', as, c, st'))))) => gAnd g (match c with
        | 0 => C m' as M (fun _ M' => match cut (i + 1) with
          | true => K (i + 1) st' L M'
          | false => wpc F X Y code C K cut Q n (i + 1) st' L M')
        | 1 => C m' as M (cI fun x M' => match cut (i + 1) with
          | true => K (i + 1) (vi x :: st') L M'
          | false => wpc F X Y code C K cut Q n (i + 1) (vi x :: st') L M')
        | _ => C m' as M (cJ fun x M' => match cut (i + 1) with
          | true => K (i + 1) (vl x :: st') L M'
          | false => wpc F X Y code C K cut Q n (i + 1) (vl x :: st') L M'))
      | some (.inr (.inr (.inr (.inr (.inl (c, v)))))) => gAnd c (Q v M)
      | some (.inr (.inr (.inr (.inr (.inr (.inl _)))))) => False
      | some (.inr (.inr (.inr (.inr (.inr (.inr (t, st'))))))) => match cut t with
        | true => K t st' L M
        | false => wpc F X Y code C K cut Q n t st' L M
theorem cutK {c : Bool} {P Q R : Prop} (h : (match c with
      | true => P
      | false => Q)) (hP : P → R) (hQ : Q → R) : R := by
  cases c
  · exact hQ h
  · exact hP h
section WPS
variable {F : Nat → Nat → Nat} {sc : List Int} {Y : YY} {d m : Nat} {code : List MI} {K : Nat → List Vv → LL → MM → Prop} {cut : Nat → Bool} {Q : Vv → MM → Prop}
theorem WP.step {i : Nat} {st : List Vv} {L : LL} {M : MM} {j : Nat} {st' : List Vv} {L' : LL} {M' : MM} (e : ∀ n, exec (PP RTL) F (xar sc) (n + 1) d m i st L Y M = exec (PP RTL) F (xar sc) n d m j st' L' Y M') (h : WP F sc Y d m j st' L' M' Q) : WP F sc Y d m i st L M Q := by
  obtain ⟨n, r, M1, h1, h2⟩ := h
  exact ⟨n + 1, r, M1, (e n).trans h1, h2⟩
theorem WP.call {i : Nat} {st st' : List Vv} {L : LL} {M : MM} {g : Bool} {m' c : Nat} {as : List Vv} {mi : MI} (hm : (PP RTL m).2[i]? = some mi) (hs : stp F (xar sc) Y M L st mi = some (.inr (.inr (.inr (.inl (g, m', as, c, st')))))) (hg : g = true) (h : CA F sc Y d m' as M (fun r M' => WP F sc Y (d + 1) m (i + 1) (psh c r st') L M' Q)) : WP F sc Y (d + 1) m i st L M Q := by
  obtain ⟨h1, h2, n, r, M1, h3, n2, r2, M2, h4, h5⟩ := h
  refine ⟨n + n2 + 1, r2, M2, ?_, h5⟩
  rw [exec, hm]
  dsimp only
  rw [hs]
  dsimp only
  rw [hg, h1, h2]
  have e1 := exec_add (PP RTL) F (xar sc) h3 n2
  have e2 := exec_add (PP RTL) F (xar sc) h4 n
  rw [Nat.add_comm n2 n] at e2
  rw [e1]
  exact e2
theorem wpc_ok (hc : (PP RTL m).2 = code) (hK : ∀ i st L M, K i st L M → WP F sc Y (d + 1) m i st L M Q) : ∀ (n i : Nat) (st : List Vv) (L : LL) (M : MM), wpc F (xar sc) Y code (CA F sc Y d) K cut Q n i st L M → WP F sc Y (d + 1) m i st L M Q := by
  intro n
  induction n with
  | zero => intro i st L M h; exact hK _ _ _ _ h
  | succ n ih =>
    intro i st L M h
    rw [wpc] at h
    cases hm : code[i]? with
    | none => rw [hm] at h; exact h.elim
    | some mi =>
      have hm2 : (PP RTL m).2[i]? = some mi := by rw [hc]; exact hm
      rw [hm] at h
      dsimp only at h
      cases hs : stp F (xar sc) Y M L st mi with
      | none => rw [hs] at h; exact h.elim
      | some act =>
        rw [hs] at h
        rcases act with ⟨c, st', L', M'⟩ | ⟨c, t, st'⟩ | ⟨x, tab, t, st'⟩ | ⟨g, m', as, c, st'⟩ | ⟨c, v⟩ | ⟨st', Y', M'⟩ | ⟨t, st'⟩ <;> dsimp only at h
        · obtain ⟨h1, h2⟩ := gAnd_iff.mp h
          subst h1
          exact WP.step (fun k => by rw [exec, hm2]; dsimp only; rw [hs]) (cutK h2 (hK _ _ _ _) (ih _ _ _ _))
        · cases c with
          | true => exact WP.step (fun k => by rw [exec, hm2]; dsimp only; rw [hs]) (cutK h (hK _ _ _ _) (ih _ _ _ _))
          | false => exact WP.step (fun k => by rw [exec, hm2]; dsimp only; rw [hs]) (cutK h (hK _ _ _ _) (ih _ _ _ _))
        · exact WP.step (fun k => by rw [exec, hm2]; dsimp only; rw [hs]) (cutK (swA_ok h) (hK _ _ _ _) (ih _ _ _ _))
        · obtain ⟨h1, h2⟩ := gAnd_iff.mp h
          refine WP.call hm2 hs h1 ?_
          match c, h2 with
          | 0, h2 => exact h2.mono fun r M' q => cutK q (hK _ _ _ _) (ih _ _ _ _)
          | 1, h2 =>
            refine h2.mono fun r M' q => ?_
            rcases r with x | x
            · exact cutK q (hK _ _ _ _) (ih _ _ _ _)
            · exact q.elim
          | c + 2, h2 =>
            refine h2.mono fun r M' q => ?_
            rcases r with x | x | x
            · exact q.elim
            · exact cutK q (hK _ _ _ _) (ih _ _ _ _)
            · exact q.elim
        · obtain ⟨h1, h2⟩ := gAnd_iff.mp h
          subst h1
          exact ⟨1, v, M, by rw [exec, hm2]; dsimp only; rw [hs], h2⟩
        · exact WP.step (fun k => by rw [exec, hm2]; dsimp only; rw [hs]) (cutK h (hK _ _ _ _) (ih _ _ _ _))
/-- the region lemma's proof -/
theorem wp_go (hc : (PP RTL m).2 = code) (cut : Nat → Bool) (n : Nat) {i : Nat} {st : List Vv} {L : LL} {M : MM} (h : wpc F (xar sc) Y code (CA F sc Y d) (fun i st L M => WP F sc Y (d + 1) m i st L M Q) cut Q n i st L M) : WP F sc Y (d + 1) m i st L M Q := wpc_ok hc (fun _ _ _ _ h => h) n i st L M h
theorem ca_go {as : List Vv} {M : MM} (h0 : Nat.ble (catV as) (PP RTL m).1 = true) (hc : (PP RTL m).2 = code) (cut : Nat → Bool) (n : Nat) (h : wpc F (xar sc) Y code (CA F sc Y d) (fun i st L M => WP F sc Y (d + 1) m i st L M Q) cut Q n 0 [] (entLL (PP RTL m).1 as) M) : CA F sc Y (d + 1) m as M Q := ⟨h0, rfl, wpc_ok hc (fun _ _ _ _ h => h) n 0 _ _ M h⟩
end WPS
