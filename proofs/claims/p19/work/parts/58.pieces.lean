/-! PART 58: by hand: the readers of THE LAW: pieces and conditions -/
theorem rg_X12_lands_0' {sc : List Int} {d : Nat} {Q : Vv → MM → Prop} {v1 : Int} {o2 : Option Vv} {M : MM} (h : CA FF sc YF d m_X12_waitTop [vr 81] M (cI fun r2 M1 =>
  brA (decide (r2 = 11))
   (WP FF sc YF (d + 1) m_X12_lands 10 [] [some (vr 81), some (vi v1), o2] M1 Q)
   (brA (decide (v1 = 0))
    (Q (vi 0) M1)
    (CA FF sc YF d m_X12_waitTop [vr 81] M1 (cI fun r4 M3 =>
     brA (decide (r4 ≠ 12))
      (Q (vi 0) M3)
      (WP FF sc YF (d + 1) m_X12_lands 10 [] [some (vr 81), some (vi v1), o2] M3 Q)))))) : WP FF sc YF (d + 1) m_X12_lands 0 [] [some (vr 81), some (vi v1), o2] M Q := wp_go rfl (fun j => Nat.beq j 0 || Nat.beq j 10) 48 h
section RD4
variable {sc : List Int} {d : Nat} {Q : Vv → MM → Prop} {M0 M : MM} {C0 : Nat → Int} {a c w P D g : Nat}
theorem ep_body {W : Nat → Int} {w0 : Nat} (hD : 1 ≤ D) (k : ∀ (M1 : MM) (c' w' : Nat), w' ≤ w0 → (∀ i, w' ≤ i → i < w0 → cop (W i) = 10) → M1 92 = W → rdI M0 M1 C0 a c' w' P D (g + 1) → Q (vi 0) M1) : ∀ (n w c : Nat) (M : MM), w ≤ n → w ≤ w0 → (∀ i, w ≤ i → i < w0 → cop (W i) = 10) → M 92 = W → rdI M0 M C0 a c w P D (g + 1) → (CA FF sc YF (d + 1) m_X12_waitTop [vr 81] M (cI fun r2 M1 =>
  brA (decide (r2 ≠ 10))
   (Q (vi 0) M1)
   (CA FF sc YF (d + 1) m_X12_notes [vr 81, vi 10, vi 0] M1 (fun _ M3 =>
    WP FF sc YF (d + 2) m_X12_endsPiece 0 [] [some (vr 81)] (stM (stM M3 81 17 (w32 ((M3 81 17) - 1))) 81 15 (w32 (((stM M3 81 17 (w32 ((M3 81 17) - 1))) 81 15) - 1))) Q)))) := by
  intro n
  induction n with
  | zero =>
    intro w c M hn hw hp e I
    refine s_waitTop I fun x hx => ?_
    rcases hx with ⟨_, hx⟩ | ⟨u, hu, hx⟩
    · exact brT (by omega) (k M c w hw hp e I)
    · omega
  | succ n ih =>
    intro w c M hn hw hp e I
    refine s_waitTop I fun x hx => brP (fun _ => k M c w hw hp e I) fun h => ?_
    rcases hx with ⟨_, hx⟩ | ⟨u, hu, hx⟩
    · omega
    · subst hu
      have h10 : cop (W u) = 10 := by
        rw [e] at hx
        omega
      refine s_notes (g := g) (D' := D) (by decide) (by decide) I (.inr (.inr (.inl ⟨rfl, hD, rfl⟩))) fun M1 I1 e1 e17 => ?_
      have e2 := I1.2.1.2.1
      have h2 := I1.2.2.2.1.2.1
      have hl := I1.len
      have hw1 := I1.2.2.2.1.2.2
      have he := cntW_t (n := u) (emN h10)
      rw [e1, e] at h2
      rw [e2, ew32 (by omega) (by omega), stO (j := 17) (j' := 15) (by decide)]
      have I2 := I1.wpop (g' := g + 1) (v := ((u + 1 : Nat) : Int) - 1) (by rw [e1, e]; exact isIfN (by omega)) (by rw [e1, e]; omega) (by omega)
      have G3 := in_w32 (M1 81 15 - 1)
      have I3 := I2.other (j := 15) (v := w32 (M1 81 15 - 1)) (by omega) (sO_81_15 I2.1.1 G3.1 (by have := G3.2; omega))
      refine rg_X12_endsPiece_0 _ (ih u (c + 1) _ (by omega) (by omega) (fun i h1 h2 => ?_) ?_ I3)
      · by_cases z : i = u
        · subst z
          exact h10
        · exact hp i (by omega) h2
      · refine funext fun j => ?_
        rw [stN (by decide), stN (by decide), e1, e]
theorem s_endsPiece (hD : 1 ≤ D) (I : rdI M0 M C0 a c w P D (g + 1)) (k : ∀ (M1 : MM) (c' w' : Nat), w' ≤ w → (∀ i, w' ≤ i → i < w → cop (M 92 i) = 10) → M1 92 = M 92 → rdI M0 M1 C0 a c' w' P D (g + 1) → Q (vi 0) M1) : CA FF sc YF (d + 2) m_X12_endsPiece [vr 81] M Q := ca_X12_endsPiece M (ep_body hD k w w c M (Nat.le_refl _) (Nat.le_refl _) (fun i h1 h2 => by omega) rfl I)
/-- what lands leaves -/
def laP (all : Int) (W : Nat → Int) (w w' : Nat) : Prop := w' ≤ w ∧ (∀ i, w' ≤ i → i < w → isIf (W i)) ∧ ∀ u, w' = u + 1 → all ≠ 0 → ¬ isIf (W u)
theorem la_10 {all : Int} {u : Nat} {o2 : Option Vv} (I : rdI M0 M C0 a c (u + 1) P 1 g) (hi : isIf (M 92 u)) (k : ∀ (M1 : MM) (y : Int), rdI M0 M1 C0 a c u P 1 g → M1 92 = M 92 → WP FF sc YF (d + 2) m_X12_lands 0 [] [some (vr 81), some (vi all), some (vi y)] M1 Q) : WP FF sc YF (d + 2) m_X12_lands 10 [] [some (vr 81), some (vi all), o2] M Q := by
  have hl := I.len
  have hw := I.2.2.2.1
  have e17 := I.2.1.2.1
  have e16 := I.2.1.1
  have hr := rA_92 I.1.1 u
  have hc := I.2.2.2.2.2
  obtain ⟨dp, -, -, -, hW⟩ := hc
  have hWu := hW u (by omega) hi
  have er : carg (M 92 u) = M 92 u % 1048576 := rfl
  have hr2 := rA_91 I.1.1 (carg (M 92 u)).toNat
  refine rg_X12_lands_10 _ _ M ?_
  rw [e17, ew32 (z := ((u + 1 : Nat) : Int) - 1) (by omega) (by omega), show (((u + 1 : Nat) : Int) - 1).toNat = u by omega, etmod hr.1, ← er]
  refine gI (by omega) (by omega) (gI (by omega) (by omega) (gI (by omega) (by omega) ?_))
  have e3 : w32 (Int.tdiv (M 91 (carg (M 92 u)).toNat) 1048576) = cop (M 91 (carg (M 92 u)).toNat) := etdiv hr2.1 (by omega) (by decide)
  have hop : 11 ≤ cop (M 91 (carg (M 92 u)).toNat) ∧ cop (M 91 (carg (M 92 u)).toNat) ≤ 12 := by
    have q := hWu.2.2.1
    unfold isIf at q
    omega
  rw [e3, e16, w32_code (by omega) (by omega), stN (k := 91) (by decide), e17, ew32 (z := ((u + 1 : Nat) : Int) - 1) (by omega) (by omega)]
  refine k _ _ (I.land hi (by omega) ⟨cop_mk (by omega), carg_mk (by omega)⟩ (by omega)) (funext fun j => ?_)
  rw [stN (by decide), stN (by decide)]
theorem la_body {all : Int} (hall : all = 0 ∨ all = 1) {W : Nat → Int} {w0 : Nat} (k : ∀ (M1 : MM) (w' : Nat), laP all W w0 w' → M1 92 = W → rdI M0 M1 C0 a c w' P 1 g → Q (vi 0) M1) : ∀ (n w : Nat) (M : MM) (o2 : Option Vv), w ≤ n → w ≤ w0 → (∀ i, w ≤ i → i < w0 → isIf (W i)) → M 92 = W → rdI M0 M C0 a c w P 1 g → (CA FF sc YF (d + 1) m_X12_waitTop [vr 81] M (cI fun r2 M1 => brA (decide (r2 = 11)) (WP FF sc YF (d + 2) m_X12_lands 10 [] [some (vr 81), some (vi all), o2] M1 Q) (brA (decide (all = 0)) (Q (vi 0) M1) (CA FF sc YF (d + 1) m_X12_waitTop [vr 81] M1 (cI fun r4 M3 => brA (decide (r4 ≠ 12)) (Q (vi 0) M3) (WP FF sc YF (d + 2) m_X12_lands 10 [] [some (vr 81), some (vi all), o2] M3 Q)))))) := by
  intro n
  induction n with
  | zero =>
    intro w M o2 hn hw hp e I
    have fin : laP all W w0 w := ⟨hw, hp, fun u hu => by omega⟩
    refine s_waitTop I fun x hx => ?_
    rcases hx with ⟨_, hx⟩ | ⟨u, hu, hx⟩
    · refine brF (by omega) (brP (fun _ => k M w fin e I) fun _ => s_waitTop I fun y hy => ?_)
      rcases hy with ⟨_, hy⟩ | ⟨u, hu, hy⟩
      · exact brT (by omega) (k M w fin e I)
      · omega
    · omega
  | succ n ih =>
    intro w M o2 hn hw hp e I
    have h10 : ∀ u, w = u + 1 → isIf (W u) → WP FF sc YF (d + 2) m_X12_lands 10 [] [some (vr 81), some (vi all), o2] M Q := by
      intro u hu hi
      subst hu
      refine la_10 I (by rw [e]; exact hi) fun M1 y I1 e1 => rg_X12_lands_0' (ih u M1 (some (vi y)) (by omega) (by omega) (fun i h1 h2 => ?_) (e1.trans e) I1)
      by_cases z : i = u
      · subst z
        exact hi
      · exact hp i (by omega) h2
    refine s_waitTop I fun x hx => brP (fun h => ?_) fun h => brP (fun h0 => k M w ⟨hw, hp, fun u _ h2 => absurd h0 h2⟩ e I) fun h0 => s_waitTop I fun y hy => ?_
    · rcases hx with ⟨_, hx⟩ | ⟨u, hu, hx⟩
      · omega
      · rw [e] at hx
        exact h10 u hu (.inl (by omega))
    · have hy' : y = x := by
        rcases hx with ⟨h3, hx⟩ | ⟨u, hu, hx⟩ <;> rcases hy with ⟨h4, hy⟩ | ⟨u', hu', hy⟩
        · omega
        · omega
        · omega
        · obtain rfl : u = u' := by omega
          rw [hx, hy]
      clear hy
      refine brP (fun h2 => k M w ⟨hw, hp, fun u hu _ => ?_⟩ e I) fun h2 => ?_
      · rcases hx with ⟨_, hx⟩ | ⟨u', hu', hx⟩
        · omega
        · obtain rfl : u = u' := by omega
          rw [e] at hx
          exact isIfN (by omega)
      · rcases hx with ⟨_, hx⟩ | ⟨u, hu, hx⟩
        · omega
        · rw [e] at hx
          exact h10 u hu (.inr (by omega))
theorem s_lands {all : Int} (hall : all = 0 ∨ all = 1) (I : rdI M0 M C0 a c w P 1 g) (k : ∀ (M1 : MM) (w' : Nat), laP all (M 92) w w' → M1 92 = M 92 → rdI M0 M1 C0 a c w' P 1 g → Q (vi 0) M1) : CA FF sc YF (d + 2) m_X12_lands [vr 81, vi all] M Q := ca_X12_lands all M (la_body hall k w w M none (Nat.le_refl _) (Nat.le_refl _) (fun i h1 h2 => by omega) rfl I)
theorem s_jumps {op : Int} (ho : op = 11 ∨ op = 12) (hP : (P : Int) < M0 81 12) (I : rdI M0 M C0 a c w P 1 (g + 1)) (k : ∀ M1 : MM, rdI M0 M1 C0 a (c + 1) (w + 1) (P + 1) 0 (g + 1) → (∀ j, M1 92 j = if j = w then 1048576 * op + c else M 92 j) → Q (vi 0) M1) : CA FF sc YF (d + 2) m_X12_jumps [vr 81, vi op] M Q := by
  have hl := I.len
  have hw := I.2.2.2.1
  have e17 := I.2.1.2.1
  have e16 := I.2.1.1
  have e11 := I.2.1.2.2
  have et : (M 81 17).toNat = w := by omega
  have et2 : ((c : Int)).toNat = c := by omega
  refine ca_X12_jumps op M (gI (by omega) (by omega) ?_)
  rw [et, e16, w32_code (by omega) (by omega), stN (k := 92) (by decide), e17, ew32 (z := (w : Int) + 1) (by omega) (by omega)]
  have b16 : stM (stM M 92 w (1048576 * op + c)) 81 17 ((w : Int) + 1) 81 16 = c := by
    rw [stO (by decide), stN (by decide)]
    exact e16
  refine ca_X12_notes op 0 _ (gI (by omega) (by omega) ?_)
  rw [b16, et2, w32_code (by omega) (by decide), stN (k := 91) (by decide), b16, ew32 (z := (c : Int) + 1) (by omega) (by omega), stO (j := 16) (j' := 11) (by decide), stN (k := 91) (by decide), stO (j := 17) (j' := 11) (by decide), stN (k := 92) (by decide), e11, ew32 (z := (P : Int) + 1) (by omega) (by omega)]
  have c0 : cop (1048576 * op + 0) = op := cop_mk (by decide)
  have c1 : cop (1048576 * op + c) = op := cop_mk (by omega)
  have c2 : carg (1048576 * op + c) = c := carg_mk (by omega)
  have i0 : isIf (1048576 * op + 0) := by
    unfold isIf
    omega
  have i1 : isIf (1048576 * op + c) := by
    unfold isIf
    omega
  refine k _ (I.jumpP hP (by omega) i0 (by omega) ⟨i1, c2⟩ rfl rfl rfl) fun j => ?_
  rw [stN (by decide), stN (by decide), stN (by decide), stN (by decide), stM_at]
  by_cases q : j = w
  · rw [if_pos ⟨rfl, q⟩, if_pos q]
  · rw [if_neg (fun z => q z.2), if_neg q]
end RD4
