/-! PART 56: by hand: the readers of THE LAW: sums -/
section RD2
variable {sc : List Int} {d : Nat} {Q : Vv → MM → Prop} {M0 M : MM} {C0 : Nat → Int} {a c w P D g : Nat}
theorem s_hereR (I : rdI M0 M C0 a c w P D g) (k : ∀ r : Int, ((r = -1 ∨ ((0 ≤ r ∧ r ≤ 255) ∧ (P : Int) < M0 81 12)) ∧ r = hereV M) → Q (vi r) M) : CA FF sc YF (d + 1) m_X12_here [vr 81] M Q := s_here I.1.1 fun r hr h => k r ⟨by
  have h1 := I.2.1.2.2
  have h2 := I.len.1
  omega, hr⟩
theorem s_notes {op v : Int} (ho : 0 ≤ op ∧ op ≤ 14) (hv : 0 ≤ v ∧ v < 1048576) {D' : Nat} (I : rdI M0 M C0 a c w P D (g + 1)) (hx : (op = 0 ∧ D' = D + 1) ∨ (op = 1 ∧ v < 10 ∧ D' = D + 1) ∨ (op = 10 ∧ 1 ≤ D ∧ D' = D) ∨ ((2 ≤ op ∧ op ≤ 9) ∧ 2 ≤ D ∧ D' + 1 = D)) (k : ∀ M1, rdI M0 M1 C0 a (c + 1) w P D' g → M1 92 = M 92 → M1 81 17 = M 81 17 → Q (vi 0) M1) : CA FF sc YF (d + 1) m_X12_notes [vr 81, vi op, vi v] M Q := by
  have e := I.2.1.1
  have hl := I.len
  have h2 := I.2.2.2.1
  have et : (M 81 16).toNat = c := by omega
  have eo : cop (1048576 * op + v) = op := cop_mk hv
  have ea : carg (1048576 * op + v) = v := carg_mk hv
  refine ca_X12_notes op v M (gI (by omega) (by omega) ?_)
  rw [et, w32_code ho hv, stN (by decide), e, ew32 (by omega) (by omega)]
  refine k _ (I.note (by omega) (by rw [eo, ea]; exact hx) rfl) (funext fun j => ?_) ?_
  · rw [stN (by decide), stN (by decide)]
  · rw [stO (by decide), stN (by decide)]
theorem s_opens {what : Int} (hw : what = 10 ∨ what = 13 ∨ what = 14) (I : rdI M0 M C0 a c w P D g) (hP : (P : Int) < M0 81 12) (k0 : ∀ M1, rdF M0 M1 → ∀ x : Int, x = 0 → Q (vi x) M1) (k1 : ∀ M1, rdI M0 M1 C0 a c (w + 1) (P + 1) D g → (∀ j, M1 92 j = if j = w then 1048576 * what else M 92 j) → ∀ x : Int, x = 1 → Q (vi x) M1) : CA FF sc YF (d + 2) m_X12_opens [vr 81, vi what] M Q := by
  have hl := I.len
  have h2 := I.2.2.2.1
  refine ca_X12_opens what M (brP (fun _ => ?_) fun _ => ?_)
  · have G1 := in_w32 (M 81 15 + 1)
    have I1 := I.other (j := 15) (v := w32 (M 81 15 + 1)) (by omega) (sO_81_15 I.1.1 G1.1 (by have := G1.2; omega))
    have e17 := I1.2.1.2.1
    have e11 := I1.2.1.2.2
    have et : (stM M 81 15 (w32 (M 81 15 + 1)) 81 17).toNat = w := by omega
    have ey : w32 (1048576 * what) = 1048576 * what := ew32 (by omega) (by omega)
    rw [et, ey]
    refine gI (by omega) (by omega) ?_
    have ec : cop (1048576 * what) = what := by
      unfold cop
      omega
    have I2 := I1.wpushP (y := 1048576 * what) (g' := g) (v := (w : Int) + 1) (v' := (P : Int) + 1) hP (by omega) (isIfN (by omega)) (by
      have h3 := I1.2.2.2.1.2.1
      cases emB (1048576 * what)
      · show c + cntW emB (stM M 81 15 (w32 (M 81 15 + 1)) 92) w + 0 + g ≤ P + 2
        omega
      · show c + cntW emB (stM M 81 15 (w32 (M 81 15 + 1)) 92) w + 1 + g ≤ P + 2
        omega) rfl rfl
    rw [stN (by decide), e17, ew32 (z := (w : Int) + 1) (by omega) (by omega), stO (j := 17) (j' := 11) (by decide), stN (k := 92) (by decide), e11, ew32 (z := (P : Int) + 1) (by omega) (by omega)]
    refine k1 _ I2 (fun j => ?_) 1 rfl
    rw [stN (by decide), stN (by decide), stM_at]
    by_cases q : j = w
    · rw [if_pos ⟨rfl, q⟩, if_pos q]
    · rw [if_neg (fun z => q z.2), if_neg q, stN (by decide)]
  · have e11 := I.2.1.2.2
    exact s_wrongR I.1 (by omega) (by omega) k0
set_option maxRecDepth 20000 in
theorem hos_wp {b : Nat} (I : rdI M0 M C0 a c w P D g) (k0 : ∀ _ : Unit, (∀ i, b ≤ i → i < w → cop (M 92 i) ≠ 14) → ∀ x : Int, x = 0 → Q (vi x) M) (k1 : ∀ _ : Unit, (∃ i, b ≤ i ∧ i < w ∧ cop (M 92 i) = 14) → ∀ x : Int, x = 1 → Q (vi x) M) : ∀ n i : Nat, i ≤ w → w < i + n → b ≤ i → (∀ j, b ≤ j → j < i → cop (M 92 j) ≠ 14) → WP FF sc YF (d + 1) m_X12_hasOpenSum 2 [] [some (vr 81), some (vi (b : Int)), some (vi (i : Int))] M Q := by
  intro n
  induction n with
  | zero => intro i h1 h2; omega
  | succ n ih =>
    intro i h1 h2 hbi hb
    have hl := I.len
    have e17 := I.2.1.2.1
    have h3 := I.2.2.2.1.2.2
    have et : ((i : Int)).toNat = i := by omega
    refine rg_X12_hasOpenSum_2 _ _ M (brP (fun h => ?_) fun h => ?_)
    · refine k0 () (fun j hj hj2 => hb j hj ?_) 0 rfl
      omega
    refine gI (by omega) (by omega) ?_
    have gg := rA_92 I.1.1 i
    rw [et, etdiv gg.1 (by omega) (by decide)]
    refine brP (fun hn => ?_) fun hn => k1 () ⟨i, hbi, by omega, ?_⟩ 1 rfl
    · rw [ew32 (z := (i : Int) + 1) (by omega) (by omega)]
      refine ih (i + 1) (by omega) (by omega) (by omega) fun j hj hj2 => ?_
      by_cases q : j = i
      · subst q
        exact hn
      · exact hb j hj (by omega)
    · exact Classical.byContradiction fun q => hn q
theorem s_hasOpenSum {b : Nat} (hbw : b ≤ w) (I : rdI M0 M C0 a c w P D g) (k0 : ∀ _ : Unit, (∀ i, b ≤ i → i < w → cop (M 92 i) ≠ 14) → ∀ x : Int, x = 0 → Q (vi x) M) (k1 : ∀ _ : Unit, (∃ i, b ≤ i ∧ i < w ∧ cop (M 92 i) = 14) → ∀ x : Int, x = 1 → Q (vi x) M) : CA FF sc YF (d + 1) m_X12_hasOpenSum [vr 81, vi (b : Int)] M Q := ca_X12_hasOpenSum _ M (hos_wp I k0 k1 (w + 1) b hbw (by omega) (Nat.le_refl _) fun j h1 h2 => by omega)
/-- what closesSums leaves -/
def csP (all : Int) (W : Nat → Int) (w w' : Nat) : Prop := w' ≤ w ∧ (∀ i, w' ≤ i → i < w → opB (W i) = true) ∧ ∀ u, w' = u + 1 → all ≠ 0 → opB (W u) = false
theorem cs_18 {all : Int} {W : Nat → Int} {q u : Nat} (hq : 1 ≤ q) (I : rdI M0 M C0 a c (u + 1) P (cntW opB W (u + 1) + q) (g + 1)) (e : M 92 = W) (ho : opB (W u) = true) (k : ∀ M1 : MM, rdI M0 M1 C0 a (c + 1) u P (cntW opB W u + q) (g + 1) → M1 92 = W → WP FF sc YF (d + 2) m_X12_closesSums 0 [] [some (vr 81), some (vi all)] M1 Q) : WP FF sc YF (d + 2) m_X12_closesSums 18 [] [some (vr 81), some (vi all)] M Q := by
  have hl := I.len
  have hw := I.2.2.2.1.2.2
  have r := opR ho
  have hc := cntW_t (n := u) ho
  have he := cntW_t (n := u) (emW ho)
  refine rg_X12_closesSums_18 all M (s_waitTop I fun x hx => ?_)
  have hx2 : x = cop (W u) := by
    rcases hx with ⟨h, _⟩ | ⟨u', hu, h⟩
    · omega
    · obtain rfl : u = u' := by omega
      rw [h, e]
  refine s_notes (g := g) (D' := cntW opB W u + q) (by omega) (by decide) I (.inr (.inr (.inr ⟨by omega, by omega, by omega⟩))) fun M1 I1 e1 e17 => ?_
  have e2 := I1.2.1.2.1
  have h2 := I1.2.2.2.1.2.1
  rw [e1, e] at h2
  rw [e2, ew32 (by omega) (by omega)]
  refine k _ (I1.wpop (g' := g + 1) ?_ ?_ (by omega)) ?_
  · rw [e1, e]
    exact isIfN (by omega)
  · rw [e1, e]
    omega
  · refine funext fun j => ?_
    rw [stN (by decide), e1, e]
theorem cs_body {all : Int} (hall : all = 0 ∨ all = 1) {W : Nat → Int} {q w0 : Nat} (hq : 1 ≤ q) (k : ∀ (M1 : MM) (c' w' : Nat), csP all W w0 w' → M1 92 = W → rdI M0 M1 C0 a c' w' P (cntW opB W w' + q) (g + 1) → Q (vi 0) M1) : ∀ (n w c : Nat) (M : MM), w ≤ n → w ≤ w0 → (∀ i, w ≤ i → i < w0 → opB (W i) = true) → M 92 = W → rdI M0 M C0 a c w P (cntW opB W w + q) (g + 1) → (CA FF sc YF (d + 1) m_X12_waitTop [vr 81] M (cI fun r2 M1 =>
  brA (decide (r2 < 4))
   (WP FF sc YF (d + 2) m_X12_closesSums 8 [] [some (vr 81), some (vi all)] M1 Q)
   (CA FF sc YF (d + 1) m_X12_waitTop [vr 81] M1 (cI fun r4 M3 =>
    brA (decide (r4 ≤ 6))
     (WP FF sc YF (d + 2) m_X12_closesSums 18 [] [some (vr 81), some (vi all)] M3 Q)
     (WP FF sc YF (d + 2) m_X12_closesSums 8 [] [some (vr 81), some (vi all)] M3 Q))))) := by
  have fin : ∀ (w c : Nat) (M : MM), w ≤ w0 → (∀ i, w ≤ i → i < w0 → opB (W i) = true) → M 92 = W → rdI M0 M C0 a c w P (cntW opB W w + q) (g + 1) → (∀ u, w = u + 1 → ¬ (4 ≤ cop (W u) ∧ cop (W u) ≤ 6)) → (∀ u, w = u + 1 → opB (W u) = true → WP FF sc YF (d + 2) m_X12_closesSums 18 [] [some (vr 81), some (vi all)] M Q) → WP FF sc YF (d + 2) m_X12_closesSums 8 [] [some (vr 81), some (vi all)] M Q := by
    intro w c M hw hp e I hn k18
    refine rg_X12_closesSums_8 all M (brP (fun h => k M c w ⟨hw, hp, fun u _ h2 => absurd h h2⟩ e I) fun h => s_waitTop I fun x hx => ?_)
    refine brP (fun h2 => ?_) fun h2 => s_waitTop I fun y hy => ?_
    · rcases hx with ⟨_, hx⟩ | ⟨u, hu, hx⟩
      · omega
      · rw [e] at hx
        exact k18 u hu (opT (by omega))
    · have hy' : y = x := by
        rcases hx with ⟨h3, hx⟩ | ⟨u, hu, hx⟩ <;> rcases hy with ⟨h4, hy⟩ | ⟨u', hu', hy⟩
        · omega
        · omega
        · omega
        · obtain rfl : u = u' := by omega
          rw [hx, hy]
      clear hy
      refine brP (fun h3 => k M c w ⟨hw, hp, fun u hu _ => ?_⟩ e I) fun h3 => ?_
      · have hn' := hn u hu
        rcases hx with ⟨h4, hx⟩ | ⟨u', hu', hx⟩
        · omega
        · obtain rfl : u = u' := by omega
          rw [e] at hx
          exact opF (by omega)
      · rcases hx with ⟨_, hx⟩ | ⟨u, hu, hx⟩
        · omega
        · rw [e] at hx
          exact k18 u hu (opT (by omega))
  intro n
  induction n with
  | zero =>
    intro w c M hn hw hp e I
    obtain rfl : w = 0 := by omega
    refine s_waitTop I fun x hx => ?_
    rcases hx with ⟨_, hx⟩ | ⟨u, hu, hx⟩
    · refine brT (by omega) (fin 0 c M hw hp e I (fun u hu => by omega) fun u hu => by omega)
    · omega
  | succ n ih =>
    intro w c M hn hw hp e I
    have h18 : ∀ u, w = u + 1 → opB (W u) = true → WP FF sc YF (d + 2) m_X12_closesSums 18 [] [some (vr 81), some (vi all)] M Q := by
      intro u hu ho
      subst hu
      exact cs_18 hq I e ho fun M1 I1 e1 => rg_X12_closesSums_0 all M1 (ih u (c + 1) M1 (by omega) (by omega) (fun i h1 h2 => by
        by_cases z : i = u
        · subst z
          exact ho
        · exact hp i (by omega) h2) e1 I1)
    refine s_waitTop I fun x hx => brP (fun h2 => ?_) fun h2 => s_waitTop I fun y hy => ?_
    · refine fin w c M hw hp e I (fun u hu => ?_) h18
      rcases hx with ⟨_, hx⟩ | ⟨u', hu', hx⟩
      · omega
      · obtain rfl : u = u' := by omega
        rw [e] at hx
        omega
    · refine brP (fun h3 => ?_) fun h3 => ?_
      · rcases hx with ⟨_, hx⟩ | ⟨u, hu, hx⟩
        · omega
        · rcases hy with ⟨_, hy⟩ | ⟨u', hu', hy⟩
          · omega
          · obtain rfl : u = u' := by omega
            rw [e] at hx hy
            exact h18 u hu (opT (by omega))
      · refine fin w c M hw hp e I (fun u hu => ?_) h18
        rcases hy with ⟨_, hy⟩ | ⟨u', hu', hy⟩
        · omega
        · obtain rfl : u = u' := by omega
          rw [e] at hy
          omega
theorem s_closesSums {all : Int} (hall : all = 0 ∨ all = 1) {q : Nat} (hq : 1 ≤ q) (I : rdI M0 M C0 a c w P (cntW opB (M 92) w + q) (g + 1)) (k : ∀ (M1 : MM) (c' w' : Nat), csP all (M 92) w w' → M1 92 = M 92 → rdI M0 M1 C0 a c' w' P (cntW opB (M 92) w' + q) (g + 1) → Q (vi 0) M1) : CA FF sc YF (d + 2) m_X12_closesSums [vr 81, vi all] M Q := ca_X12_closesSums all M (cs_body hall hq k w w c M (Nat.le_refl _) (Nat.le_refl _) (fun i h1 h2 => by omega) rfl I)
theorem s_factOf {v : Int} (k : ∀ r : Int, r = -1 ∨ (0 ≤ r ∧ r ≤ 9 ∧ 97 ≤ v) → Q (vi r) M) : CA FF sc YF (d + 1) m_X12_factOf [vi v] M Q := by
  refine ca_X12_factOf v M ?_
  iterate 23 (refine ⟨fun h => k _ (by omega), fun h => ?_⟩)
  exact k _ (by omega)
theorem s_sumSign {v : Int} (k : ∀ r : Int, r = -1 ∨ (2 ≤ r ∧ r ≤ 6 ∧ 37 ≤ v) → Q (vi r) M) : CA FF sc YF (d + 1) m_X12_sumSign [vi v] M Q := ca_X12_sumSign v M (brP (fun h1 => brP (fun h2 => brP (fun h3 => brP (fun h4 => brP (fun h5 => k _ (by omega)) fun h5 => k _ (by omega)) fun h4 => k _ (by omega)) fun h3 => k _ (by omega)) fun h2 => k _ (by omega)) fun h1 => k _ (by omega))
theorem s_isClause {v : Int} (k : ∀ r : Int, (r = 0 ∨ (r = 1 ∧ 99 ≤ v ∧ v ≤ 114)) → Q (vi r) M) : CA FF sc YF (d + 1) m_X12_isClause [vi v] M Q := ca_X12_isClause v M (brP (fun _ => k _ (by omega)) fun _ => brP (fun _ => k _ (by omega)) fun _ => brP (fun _ => k _ (by omega)) fun _ => brP (fun _ => k _ (by omega)) fun _ => k _ (by omega))
theorem rf_body {W0 : Nat → Int} {w0 P0 : Nat} (k0 : ∀ M1, rdF M0 M1 → ∀ x : Int, x = 0 → Q (vi x) M1) (k1 : ∀ (M1 : MM) (c' w' P' : Nat), w0 ≤ w' → P0 < P' → rdI M0 M1 C0 a c' w' P' (D + 1) (g + 1) → (∀ i, i < w0 → M1 92 i = W0 i) → (∀ i, w0 ≤ i → i < w' → cop (M1 92 i) = 14) → ∀ x : Int, x = 1 → Q (vi x) M1) : ∀ (n w P : Nat) (M : MM), M0 81 12 ≤ (P : Int) + n → P0 ≤ P → w0 ≤ w → rdI M0 M C0 a c w P D (g + 1) → (∀ i, i < w0 → M 92 i = W0 i) → (∀ i, w0 ≤ i → i < w → cop (M 92 i) = 14) → (CA FF sc YF (d + 3) m_X12_here [vr 81] M (cI fun r2 M1 =>
  brA (decide (r2 ≠ 91))
   (CA FF sc YF (d + 3) m_X12_isDigit [vr 81] M1 (cI fun r4 M3 =>
    brA (decide (r4 = 0))
     (CA FF sc YF (d + 3) m_X12_here [vr 81] M3 (cI fun r6 M5 =>
      CA FF sc YF (d + 3) m_X12_factOf [vi r6] M5 (cI fun r8 M7 =>
       brA (decide (r8 ≠ ((-1))))
        (CA FF sc YF (d + 3) m_X12_notes [vr 81, vi 1, vi r8] M7 (fun _ M9 =>
         Q (vi 1) (stM M9 81 11 (w32 ((M9 81 11) + 1)))))
        (CA FF sc YF (d + 3) m_X12_wrongAt [vr 81, vi 1, vi (M7 81 11)] M7 (cI fun r11 M10 =>
         gAnd (decide (r11 = 0) || decide (r11 = 1)) (Q (vi r11) M10))))))
     (CA FF sc YF (d + 3) m_X12_readsNumber [vr 81] M3 (cI fun r13 M12 =>
      brA (decide (r13 ≠ 0))
       (CA FF sc YF (d + 3) m_X12_notes [vr 81, vi 0, vi (M12 81 14)] M12 (fun _ M14 =>
        Q (vi 1) M14))
       (Q (vi 0) M12)))))
   (CA FF sc YF (d + 3) m_X12_opens [vr 81, vi 14] M1 (cI fun r16 M15 =>
    brA (decide (r16 ≠ 0))
     (WP FF sc YF (d + 4) m_X12_readsFactor 0 [] [some (vr 81), none] M15 Q)
     (Q (vi 0) M15))))) := by
  intro n
  induction n with
  | zero =>
    intro w P M hn hP hw I hb hs
    have hl := I.len
    have e11 := I.2.1.2.2
    refine s_hereR I fun r hr => brT (by omega) (s_isDigit I.1.1 (fun hd x hx => brT hx (s_hereR I fun r6 hr6 => s_factOf fun r8 hr8 => brF (by omega) (s_wrongR I.1 (by omega) (by omega) k0))) fun hd x hx => ?_)
    omega
  | succ n ih =>
    intro w P M hn hP hw I hb hs
    have hl := I.len
    have e11 := I.2.1.2.2
    refine s_hereR I fun r hr => brP (fun h1 => s_isDigit I.1.1 (fun hd x hx => brT hx (s_hereR I fun r6 hr6 => s_factOf fun r8 hr8 => brP (fun h8 => ?_) fun h8 => s_wrongR I.1 (by omega) (by omega) k0)) fun hd x hx => brF (by omega) (s_readsNumber I hd (fun M1 F1 y hy => brF (by omega) (k0 M1 F1 0 rfl)) fun M1 P1 hP1 I1 h14 e1 y hy => brT (by omega) ?_)) fun h1 => ?_
    · refine s_notes (g := g) (D' := D + 1) (by decide) (by omega) I (.inr (.inl ⟨rfl, by omega, rfl⟩)) fun M1 I1 e1 _ => ?_
      have e11' := I1.2.1.2.2
      rw [e11', ew32 (z := (P : Int) + 1) (by omega) (by omega)]
      refine k1 _ (c + 1) w (P + 1) hw (by omega) (I1.place (by omega) rfl) (fun i hi => ?_) (fun i hi hi2 => ?_) 1 rfl
      · rw [stN (by decide), e1]
        exact hb i hi
      · rw [stN (by decide), e1]
        exact hs i hi hi2
    · refine s_notes (g := g + 1) (D' := D + 1) (by decide) (by omega) I1 (.inl ⟨rfl, rfl⟩) fun M2 I2 e2 _ => ?_
      refine k1 M2 (c + 1) w P1 hw (by omega) I2 (fun i hi => ?_) (fun i hi hi2 => ?_) 1 rfl
      · rw [e2, e1]
        exact hb i hi
      · rw [e2, e1]
        exact hs i hi hi2
    · refine s_opens (by decide) I (by omega) (fun M1 F1 y hy => brF (by omega) (k0 M1 F1 0 rfl)) fun M1 I1 e1 y hy => brT (by omega) (rg_X12_readsFactor_0 M1 (ih (w + 1) (P + 1) M1 (by omega) (by omega) (by omega) I1 (fun i hi => ?_) fun i hi hi2 => ?_))
      · rw [e1, if_neg (by omega)]
        exact hb i hi
      · rw [e1]
        split
        · unfold cop
          omega
        · exact hs i hi (by omega)
theorem s_readsFactor (I : rdI M0 M C0 a c w P D (g + 1)) (k0 : ∀ M1, rdF M0 M1 → ∀ x : Int, x = 0 → Q (vi x) M1) (k1 : ∀ (M1 : MM) (c' w' P' : Nat), w ≤ w' → P < P' → rdI M0 M1 C0 a c' w' P' (D + 1) (g + 1) → (∀ i, i < w → M1 92 i = M 92 i) → (∀ i, w ≤ i → i < w' → cop (M1 92 i) = 14) → ∀ x : Int, x = 1 → Q (vi x) M1) : CA FF sc YF (d + 4) m_X12_readsFactor [vr 81] M Q := ca_X12_readsFactor M (rf_body k0 k1 (M0 81 12).toNat w P M (by have := I.len; omega) (Nat.le_refl _) (Nat.le_refl _) I (fun _ _ => rfl) fun i h1 h2 => by omega)
end RD2
