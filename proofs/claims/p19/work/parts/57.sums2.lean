/-! PART 57: by hand: the readers of THE LAW: sums' loop, pieces, conditions -/
section RD3
variable {sc : List Int} {d : Nat} {Q : Vv → MM → Prop} {M0 M : MM} {C0 : Nat → Int} {a c w P D g : Nat}
/-- while a sum is read: base w0 -/
def rsS (W0 W : Nat → Int) (w0 w : Nat) : Prop := w0 ≤ w ∧ (∀ i, i < w0 → W i = W0 i) ∧ (∀ i, w0 ≤ i → i < w → opB (W i) = true ∨ cop (W i) = 14)
theorem op14 {v : Int} (h : cop v = 14) : opB v = false := opF (by omega)
/-- closesSums stops at the base -/
theorem rsS.closes {all : Int} {W0 W : Nat → Int} {w0 w w' : Nat} (hbo : ∀ i, i < w0 → opB (W0 i) = false) (S : rsS W0 W w0 w) (h : csP all W w w') : rsS W0 W w0 w' := by
  refine ⟨?_, S.2.1, fun i h1 h2 => S.2.2 i h1 (by have := h.1; omega)⟩
  by_cases q : w0 ≤ w'
  · exact q
  · have h1 := h.2.1 w' (Nat.le_refl _) (by have := S.1; omega)
    rw [S.2.1 w' (by omega), hbo w' (by omega)] at h1
    cases h1
set_option maxRecDepth 20000 in
theorem rs_78 {W0 : Nat → Int} {w0 P0 : Nat} {o2 : Int} (hbo : ∀ i, i < w0 → opB (W0 i) = false) (k0 : ∀ M1, rdF M0 M1 → ∀ x : Int, x = 0 → Q (vi x) M1) (k1 : ∀ (M1 : MM) (c' P' : Nat), P0 < P' → rdI M0 M1 C0 a c' w0 P' (D + 1) (g + 1) → (∀ i, i < w0 → M1 92 i = W0 i) → ∀ x : Int, x = 1 → Q (vi x) M1) (hP : P0 < P) (I : rdI M0 M C0 a c w P (cntW opB (M 92) w + (D + 1)) (g + 1)) (S : rsS W0 (M 92) w0 w) : WP FF sc YF (d + 4) m_X12_readsSum 78 [] [some (vr 81), some (vi (w0 : Int)), some (vi o2)] M Q := by
  have hl := I.len
  have e11 := I.2.1.2.2
  refine rg_X12_readsSum_78 _ _ M (s_hasOpenSum S.1 I (fun _ hno x hx => brT hx (s_closesSums (Or.inr rfl) (by omega) I fun M1 c' w' hc e1 I1 => ?_)) fun _ _ x hx => brF (by omega) (s_wrongR I.1 (by omega) (by omega) k0))
  have S1 := S.closes hbo hc
  have hw : w' = w0 := by
    by_cases q : w' = w0
    · exact q
    · have s1 := S1.1
      obtain ⟨u, hu⟩ : ∃ u, w' = u + 1 := ⟨w' - 1, by omega⟩
      have h1 := hc.2.2 u hu (by decide)
      have h2 := S1.2.2 u (by omega) (by omega)
      have h3 := hno u (by omega) (by have := hc.1; omega)
      rcases h2 with h2 | h2
      · rw [h2] at h1
        cases h1
      · exact absurd h2 h3
  subst hw
  have hz := cntW_0 opB (W := M 92) w' fun i hi => by
    rw [S.2.1 i hi]
    exact hbo i hi
  exact k1 M1 c' P hP (I1.dm (by omega)) (fun i hi => by rw [e1]; exact S.2.1 i hi) 1 rfl
theorem rs_22 {W0 : Nat → Int} {w0 : Nat} {s all : Int} (hbo : ∀ i, i < w0 → opB (W0 i) = false) (hs : 2 ≤ s ∧ s ≤ 6) (hall : all = 0 ∨ all = 1) (hPl : (P : Int) < M0 81 12) (I : rdI M0 M C0 a c w P (cntW opB (M 92) w + (D + 1)) (g + 1)) (S : rsS W0 (M 92) w0 w) (k0 : ∀ M1, rdF M0 M1 → ∀ x : Int, x = 0 → Q (vi x) M1) (k : ∀ (M1 : MM) (c' w' P' : Nat), P < P' → rdI M0 M1 C0 a c' w' P' (cntW opB (M1 92) w' + (D + 1)) (g + 1) → rsS W0 (M1 92) w0 w' → WP FF sc YF (d + 5) m_X12_readsSum 8 [] [some (vr 81), some (vi (w0 : Int)), some (vi s)] M1 Q) : WP FF sc YF (d + 5) m_X12_readsSum 22 [vi all, vr 81] [some (vr 81), some (vi (w0 : Int)), some (vi s)] M Q := by
  refine rg_X12_readsSum_22 _ _ _ _ M (gB rfl (s_closesSums hall (by omega) I fun M1 c' w' hc e1 I1 => ?_))
  have S1 := S.closes hbo hc
  have hl := I1.len
  have hw := I1.2.2.2.1
  have e17 := I1.2.1.2.1
  have e11 := I1.2.1.2.2
  have et : (M1 81 17).toNat = w' := by omega
  have ey : w32 (1048576 * s) = 1048576 * s := ew32 (by omega) (by omega)
  have ec : cop (1048576 * s) = s := by
    unfold cop
    omega
  have eo : opB (1048576 * s) = true := opT (by omega)
  refine gI (by omega) (by omega) ?_
  rw [et, ey, stN (k := 92) (by decide), e17, ew32 (z := (w' : Int) + 1) (by omega) (by omega), stO (j := 17) (j' := 11) (by decide), stN (k := 92) (by decide), e11, ew32 (z := (P : Int) + 1) (by omega) (by omega)]
  have I2 := I1.wpushP (y := 1048576 * s) (g' := g + 1) (v := (w' : Int) + 1) (v' := (P : Int) + 1) hPl (by omega) (isIfN (by omega)) (by
    rw [emW eo]
    show c' + cntW emB (M1 92) w' + 1 + (g + 1) ≤ P + 2
    omega) rfl rfl
  have e2 : ∀ j, stM (stM (stM M1 92 w' (1048576 * s)) 81 17 ((w' : Int) + 1)) 81 11 ((P : Int) + 1) 92 j = if j = w' then 1048576 * s else M 92 j := fun j => by
    rw [stN (by decide), stN (by decide), stM_at]
    by_cases q : j = w'
    · rw [if_pos ⟨rfl, q⟩, if_pos q]
    · rw [if_neg (fun z => q z.2), if_neg q, e1]
  have hwl := hc.1
  have s1 := S1.1
  refine s_readsFactor I2 (fun M3 F3 y hy => brF (by omega) (k0 M3 F3 0 rfl)) fun M3 c3 w3 P3 hw3 hP3 I3 hb3 h14 y hy => brT (by omega) (k M3 c3 w3 P3 (by omega) (I3.dm ?_) ⟨by omega, fun i hi => ?_, fun i h1 h2 => ?_⟩)
  · obtain ⟨m, hm⟩ : ∃ m, w3 = w' + 1 + m := ⟨w3 - (w' + 1), by omega⟩
    subst hm
    rw [cntW_ext m (fun i h1 h2 => op14 (h14 i h1 h2))]
    have q1 : cntW opB (M3 92) (w' + 1) = cntW opB (M3 92) w' + 1 := cntW_t (by rw [hb3 w' (by omega), e2, if_pos rfl]; exact eo)
    have q2 : cntW opB (M3 92) w' = cntW opB (M 92) w' := cntW_eq opB w' fun i hi => by rw [hb3 i (by omega), e2, if_neg (by omega)]
    omega
  · rw [hb3 i (by omega), e2, if_neg (by omega)]
    exact S.2.1 i hi
  · rcases Nat.lt_or_ge i (w' + 1) with q | q
    · rw [hb3 i q, e2]
      by_cases z : i = w'
      · rw [if_pos z]
        exact .inl eo
      · rw [if_neg z]
        exact S.2.2 i h1 (by omega)
    · exact .inr (h14 i q h2)
theorem rs_8 {W0 : Nat → Int} {w0 P0 : Nat} (hbo : ∀ i, i < w0 → opB (W0 i) = false) (k0 : ∀ M1, rdF M0 M1 → ∀ x : Int, x = 0 → Q (vi x) M1) (k1 : ∀ (M1 : MM) (c' P' : Nat), P0 < P' → rdI M0 M1 C0 a c' w0 P' (D + 1) (g + 1) → (∀ i, i < w0 → M1 92 i = W0 i) → ∀ x : Int, x = 1 → Q (vi x) M1) : ∀ (n w c P : Nat) (M : MM) (o2 : Option Vv), M0 81 12 ≤ (P : Int) + n → P0 < P → rdI M0 M C0 a c w P (cntW opB (M 92) w + (D + 1)) (g + 1) → rsS W0 (M 92) w0 w → WP FF sc YF (d + 5) m_X12_readsSum 8 [] [some (vr 81), some (vi (w0 : Int)), o2] M Q := by
  intro n
  induction n with
  | zero =>
    intro w c P M o2 hn hP I S
    have hl := I.len
    refine rg_X12_readsSum_8 _ o2 M (s_hereR I fun r hr => s_sumSign fun s hs => brP (fun h => s_hereR I fun r6 hr6 => brT (by omega) (rs_78 hbo k0 k1 hP I S)) fun h => ?_)
    omega
  | succ n ih =>
    intro w c P M o2 hn hP I S
    have hl := I.len
    refine rg_X12_readsSum_8 _ o2 M (s_hereR I fun r hr => s_sumSign fun s hs => brP (fun h => s_hereR I fun r6 hr6 => brP (fun h6 => rs_78 hbo k0 k1 hP I S) fun h6 => ?_) fun h => ?_)
    · refine s_hasOpenSum S.1 I (fun _ _ x hx => brT hx (rs_78 hbo k0 k1 hP I S)) fun _ hex x hx => brF (by omega) (s_closesSums (Or.inr rfl) (by omega) I fun M1 c' w' hc e1 I1 => ?_)
      have S1 := S.closes hbo hc
      obtain ⟨i, hi1, hi2, hi3⟩ := hex
      have hiw : i < w' := by
        rcases Nat.lt_or_ge i w' with q | q
        · exact q
        · have := hc.2.1 i q hi2
          rw [op14 hi3] at this
          cases this
      obtain ⟨u, hu⟩ : ∃ u, w' = u + 1 := ⟨w' - 1, by omega⟩
      subst hu
      have hu14 : cop (M 92 u) = 14 := by
        rcases S1.2.2 u (by omega) (by omega) with q | q
        · rw [hc.2.2 u rfl (by decide)] at q
          cases q
        · exact q
      have e17 := I1.2.1.2.1
      have e11 := I1.2.1.2.2
      have hw' := I1.2.2.2.1
      have hl1 := I1.len
      rw [e17, ew32 (z := ((u + 1 : Nat) : Int) - 1) (by omega) (by omega), stO (j := 17) (j' := 15) (by decide), stO (j := 15) (j' := 11) (by decide), stO (j := 17) (j' := 11) (by decide), e11, ew32 (z := (P : Int) + 1) (by omega) (by omega)]
      have hcu : cntW emB (M1 92) (u + 1) = cntW emB (M1 92) u := cntW_f (by rw [e1]; exact emF (op14 hu14) (by omega))
      have hco : cntW opB (M 92) (u + 1) = cntW opB (M 92) u := cntW_f (op14 hu14)
      have I2 := I1.wpop (g' := g + 1) (v := ((u + 1 : Nat) : Int) - 1) (by rw [e1]; exact isIfN (by omega)) (by omega) (by omega)
      have G3 := in_w32 (M1 81 15 - 1)
      have I3 := I2.other (j := 15) (v := w32 (M1 81 15 - 1)) (by omega) (sO_81_15 I2.1.1 G3.1 (by have := G3.2; omega))
      have I4 := (I3.place (v := (P : Int) + 1) (by omega) rfl).gm (g' := g + 1) (by omega)
      have e4 : stM (stM (stM M1 81 17 (((u + 1 : Nat) : Int) - 1)) 81 15 (w32 (M1 81 15 - 1))) 81 11 ((P : Int) + 1) 92 = M 92 := funext fun j => by
        rw [stN (by decide), stN (by decide), stN (by decide), e1]
      refine ih u c' (P + 1) _ _ (by omega) (by omega) (I4.dm ?_) ?_
      · rw [e4]
        omega
      · rw [e4]
        exact ⟨by omega, S1.2.1, fun i h1 h2 => S1.2.2 i h1 (by omega)⟩
    · have hk : ∀ (M1 : MM) (c' w' P' : Nat), P < P' → rdI M0 M1 C0 a c' w' P' (cntW opB (M1 92) w' + (D + 1)) (g + 1) → rsS W0 (M1 92) w0 w' → WP FF sc YF (d + 5) m_X12_readsSum 8 [] [some (vr 81), some (vi (w0 : Int)), some (vi s)] M1 Q := fun M1 c' w' P' hP' I1 S1 => ih w' c' P' M1 _ (by omega) (by omega) I1 S1
      exact brP (fun _ => rs_22 hbo (by omega) (Or.inl rfl) (by omega) I S k0 hk) fun _ => rs_22 hbo (by omega) (Or.inr rfl) (by omega) I S k0 hk
theorem s_readsSum (I : rdI M0 M C0 a c w P D (g + 1)) (hbo : ∀ i, i < w → opB (M 92 i) = false) (k0 : ∀ M1, rdF M0 M1 → ∀ x : Int, x = 0 → Q (vi x) M1) (k1 : ∀ (M1 : MM) (c' P' : Nat), P < P' → rdI M0 M1 C0 a c' w P' (D + 1) (g + 1) → (∀ i, i < w → M1 92 i = M 92 i) → ∀ x : Int, x = 1 → Q (vi x) M1) : CA FF sc YF (d + 5) m_X12_readsSum [vr 81] M Q := by
  have e17 := I.2.1.2.1
  have hl := I.len
  refine ca_X12_readsSum M ?_
  rw [e17]
  refine s_readsFactor I (fun M3 F3 y hy => brF (by omega) (k0 M3 F3 0 rfl)) fun M3 c3 w3 P3 hw3 hP3 I3 hb3 h14 y hy => brT (by omega) ?_
  refine rs_8 hbo k0 k1 (M0 81 12).toNat w3 c3 P3 M3 none (by omega) hP3 (I3.dm ?_) ⟨hw3, hb3, fun i h1 h2 => .inr (h14 i h1 h2)⟩
  obtain ⟨m, hm⟩ : ∃ m, w3 = w + m := ⟨w3 - w, by omega⟩
  subst hm
  rw [cntW_ext m (fun i h1 h2 => op14 (h14 i h1 h2)), cntW_0 opB w (fun i hi => by rw [hb3 i hi]; exact hbo i hi)]
  omega
end RD3
