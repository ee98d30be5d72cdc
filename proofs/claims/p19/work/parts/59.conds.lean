/-! PART 59: by hand: the readers of THE LAW: conditions -/
theorem cntW_le {p : Int → Bool} {W : Nat → Int} {n : Nat} : cntW p W n ≤ cntW p W (n + 1) := by
  cases h : p (W n)
  · rw [cntW_f h]
    exact Nat.le_refl _
  · rw [cntW_t h]
    exact Nat.le_succ _
section RD5
variable {sc : List Int} {d : Nat} {Q : Vv → MM → Prop} {M0 M : MM} {C0 : Nat → Int} {a c w P D g : Nat}
theorem rc_24 {s : Int} {o1 : Option Vv} (hs : s = -1 ∨ ((7 ≤ s ∧ s ≤ 9) ∧ (P : Int) < M0 81 12)) (I : rdI M0 M C0 a c w P 1 (g + 1)) (hbo : ∀ i, i < w → opB (M 92 i) = false) (k0 : ∀ M1, rdF M0 M1 → ∀ x : Int, x = 0 → Q (vi x) M1) (k1 : ∀ (M1 : MM) (c' w' P' : Nat), P < P' → w' ≤ w → (∀ i, w' ≤ i → i < w → cop (M 92 i) = 10) → rdI M0 M1 C0 a c' w' P' 1 (g + 1) → (∀ i, i < w → M1 92 i = M 92 i) → ∀ x : Int, x = 1 → Q (vi x) M1) : WP FF sc YF (d + 6) m_X12_readsCompared 24 [vi s] [some (vr 81), o1] M Q := by
  have hl := I.len
  have e11 := I.2.1.2.2
  refine rg_X12_readsCompared_24 _ _ M (brP (fun h => ?_) fun h => s_wrongR I.1 (by omega) (by omega) k0)
  rw [e11, ew32 (z := (P : Int) + 1) (by omega) (by omega)]
  have I1 := I.place (v := (P : Int) + 1) (by omega) rfl
  have e1 : ∀ j, stM M 81 11 ((P : Int) + 1) 92 j = M 92 j := fun j => stN (by decide)
  refine s_readsSum I1 (fun i hi => by rw [e1]; exact hbo i hi) (fun M3 F3 y hy => brF (by omega) (k0 M3 F3 0 rfl)) fun M3 c3 P3 hP3 I3 hb3 y hy => brT (by omega) ?_
  refine s_notes (g := g + 1) (D' := 1) (by omega) (by decide) I3 (.inr (.inr (.inr ⟨by omega, by omega, rfl⟩))) fun M4 I4 e4 _ => ?_
  refine s_endsPiece (by omega) I4 fun M5 c5 w5 hw5 h10 e5 I5 => k1 M5 c5 w5 P3 (by omega) hw5 (fun i h1 h2 => ?_) I5 (fun i hi => ?_) 1 rfl
  · have q := h10 i h1 h2
    rw [e4, hb3 i h2, e1] at q
    exact q
  · rw [e5, e4, hb3 i hi, e1]
theorem s_readsCompared (I : rdI M0 M C0 a c w P 0 (g + 1)) (hbo : ∀ i, i < w → opB (M 92 i) = false) (k0 : ∀ M1, rdF M0 M1 → ∀ x : Int, x = 0 → Q (vi x) M1) (k1 : ∀ (M1 : MM) (c' w' P' : Nat), P < P' → w' ≤ w → (∀ i, w' ≤ i → i < w → cop (M 92 i) = 10) → rdI M0 M1 C0 a c' w' P' 1 (g + 1) → (∀ i, i < w → M1 92 i = M 92 i) → ∀ x : Int, x = 1 → Q (vi x) M1) : CA FF sc YF (d + 6) m_X12_readsCompared [vr 81] M Q := by
  refine ca_X12_readsCompared M (s_readsSum I hbo (fun M3 F3 y hy => brF (by omega) (k0 M3 F3 0 rfl)) fun M3 c3 P3 hP3 I3 hb3 y hy => brT (by omega) ?_)
  have h24 : ∀ s : Int, s = -1 ∨ ((7 ≤ s ∧ s ≤ 9) ∧ (P3 : Int) < M0 81 12) → WP FF sc YF (d + 6) m_X12_readsCompared 24 [vi s] [some (vr 81), none] M3 Q := fun s hs => rc_24 hs I3 (fun i hi => by rw [hb3 i hi]; exact hbo i hi) k0 fun M1 c' w' P' hP' hw' h10 I1 hb1 => k1 M1 c' w' P' (by omega) hw' (fun i h1 h2 => by rw [← hb3 i h2]; exact h10 i h1 h2) I1 fun i hi => by rw [hb1 i hi, hb3 i hi]
  exact s_hereR I3 fun r hr => brP (fun h => s_hereR I3 fun r6 hr6 => brP (fun h6 => s_hereR I3 fun r8 hr8 => brP (fun h8 => h24 _ (.inl rfl)) fun h8 => h24 9 (by omega)) fun h6 => h24 8 (by omega)) fun h => h24 7 (by omega)
/-- while a condition is read: what waits -/
def cnI (W : Nat → Int) (w : Nat) : Prop := 1 ≤ w ∧ cop (W 0) = 13 ∧ ∀ i, i < w → opB (W i) = false
theorem cnI.sub {W W' : Nat → Int} {w w' : Nat} (h : cnI W w) (hw : w' ≤ w) (h1 : 1 ≤ w') (e : ∀ i, i < w → W' i = W i) : cnI W' w' := ⟨h1, by rw [e 0 (by omega)]; exact h.2.1, fun i hi => by rw [e i (by omega)]; exact h.2.2 i (by omega)⟩
theorem cnI.push {W W' : Nat → Int} {w : Nat} {y : Int} (h : cnI W w) (e : ∀ j, W' j = if j = w then y else W j) (hy : opB y = false) : cnI W' (w + 1) := by
  refine ⟨by omega, ?_, fun i hi => ?_⟩
  · have := h.1
    rw [e, if_neg (by omega)]
    exact h.2.1
  · rw [e]
    split
    · exact hy
    · exact h.2.2 i (by omega)
theorem cn_30 (hP : (P : Int) < M0 81 12) (I : rdI M0 M C0 a c w P 0 (g + 1)) (N : cnI (M 92) w) (k0 : ∀ M1, rdF M0 M1 → ∀ x : Int, x = 0 → Q (vi x) M1) (k : ∀ M1 : MM, rdI M0 M1 C0 a c (w + 1) (P + 1) 0 (g + 1) → cnI (M1 92) (w + 1) → WP FF sc YF (d + 7) m_X12_readsCondition 22 [] [some (vr 81)] M1 Q) : WP FF sc YF (d + 7) m_X12_readsCondition 30 [] [some (vr 81)] M Q := by
  refine rg_X12_readsCondition_30 M (s_hereR I fun r hr => brP (fun h => ?_) fun h => ?_)
  · exact s_opens (by decide) I hP (fun M3 F3 y hy => brF (by omega) (k0 M3 F3 0 rfl)) fun M1 I1 e1 y hy => brT (by omega) (k M1 I1 (N.push e1 (by decide +kernel)))
  · exact s_opens (by decide) I hP (fun M3 F3 y hy => brF (by omega) (k0 M3 F3 0 rfl)) fun M1 I1 e1 y hy => brT (by omega) (k M1 I1 (N.push e1 (by decide +kernel)))
/-- an OPEN at the bottom stays when jumps are landed -/
theorem laP.bot {all : Int} {W : Nat → Int} {w w' : Nat} (h : laP all W w w') (N : cnI W w) : 1 ≤ w' := by
  rcases Nat.lt_or_ge 0 w' with q | q
  · exact q
  · have h1 := h.2.1 0 q N.1
    have h2 := N.2.1
    unfold isIf at h1
    omega
theorem cn_102 {s : Int} (hs : s = 0 ∨ s = 1) (hP : (P : Int) < M0 81 12) (I : rdI M0 M C0 a c w P 1 (g + 1)) (N : cnI (M 92) w) (k : ∀ (M1 : MM) (c' w' : Nat), rdI M0 M1 C0 a c' w' (P + 1) 0 (g + 1) → cnI (M1 92) w' → WP FF sc YF (d + 7) m_X12_readsCondition 22 [] [some (vr 81)] M1 Q) : WP FF sc YF (d + 7) m_X12_readsCondition 102 [vi s, vr 81] [some (vr 81)] M Q := by
  refine rg_X12_readsCondition_102 _ _ M (gB rfl (s_lands hs I fun M1 w1 h1 e1 I1 => s_hereR I1 fun r hr => ?_))
  have hb := h1.bot N
  have N1 : cnI (M1 92) w1 := N.sub h1.1 hb fun i _ => by rw [e1]
  have hl := I1.len
  have hc := I1.2.2.2.1
  have ho : ∀ op : Int, op = 11 ∨ op = 12 → opB (1048576 * op + c) = false := fun op h => by
    have c1 : cop (1048576 * op + c) = op := cop_mk (by omega)
    exact opF (by omega)
  exact brP (fun _ => s_jumps (.inr rfl) hP I1 fun M2 I2 e2 => k M2 _ _ I2 (N1.push e2 (ho 12 (.inr rfl)))) fun _ => s_jumps (.inl rfl) hP I1 fun M2 I2 e2 => k M2 _ _ I2 (N1.push e2 (ho 11 (.inl rfl)))
theorem cn_all {P0 : Nat} (k0 : ∀ M1, rdF M0 M1 → ∀ x : Int, x = 0 → Q (vi x) M1) (k1 : ∀ (M1 : MM) (c' P' : Nat), P0 < P' → rdI M0 M1 C0 a c' 0 P' 1 (g + 1) → ∀ x : Int, x = 1 → Q (vi x) M1) : ∀ (n w c P : Nat) (M : MM), M0 81 12 < (P : Int) + n → P0 < P → cnI (M 92) w → (rdI M0 M C0 a c w P 0 (g + 1) → WP FF sc YF (d + 7) m_X12_readsCondition 22 [] [some (vr 81)] M Q) ∧ (rdI M0 M C0 a c w P 1 (g + 1) → WP FF sc YF (d + 7) m_X12_readsCondition 47 [] [some (vr 81)] M Q) := by
  intro n
  induction n with
  | zero =>
    intro w c P M hn hP N
    refine ⟨fun I => ?_, fun I => ?_⟩
    · have := I.2.2.1
      omega
    · have := I.2.2.1
      omega
  | succ n ih =>
    intro w c P M hn hP N
    refine ⟨fun I => ?_, fun I => ?_⟩
    · have h30 : (P : Int) < M0 81 12 → WP FF sc YF (d + 7) m_X12_readsCondition 30 [] [some (vr 81)] M Q := fun h => cn_30 h I N k0 fun M1 I1 N1 => (ih (w + 1) c (P + 1) M1 (by omega) (by omega) N1).1 I1
      refine rg_X12_readsCondition_22 M (s_hereR I fun r hr => brP (fun h => h30 (by omega)) fun h => s_hereR I fun r4 hr4 => brP (fun h4 => ?_) fun h4 => h30 (by omega))
      refine s_readsCompared I N.2.2 (fun M3 F3 y hy => brF (by omega) (k0 M3 F3 0 rfl)) fun M1 c' w' P' hP' hw' h10 I1 hb1 y hy => brT (by omega) ((ih w' c' P' M1 (by omega) (by omega) (N.sub hw' ?_ hb1)).2 I1)
      rcases Nat.lt_or_ge 0 w' with q | q
      · exact q
      · have h1 := h10 0 q N.1
        have h2 := N.2.1
        omega
    · have hl := I.len
      have e11 := I.2.1.2.2
      have h102 : ∀ s : Int, s = 0 ∨ s = 1 → (P : Int) < M0 81 12 → WP FF sc YF (d + 7) m_X12_readsCondition 102 [vi s, vr 81] [some (vr 81)] M Q := fun s hs h => cn_102 hs h I N fun M1 c' w' I1 N1 => (ih w' c' (P + 1) M1 (by omega) (by omega) N1).1 I1
      refine rg_X12_readsCondition_47 M (s_hereR I fun r hr => brP (fun h => s_hereR I fun r4 hr4 => brP (fun h4 => s_hereR I fun r6 hr6 => brP (fun _ => h102 0 (.inl rfl) (by omega)) fun _ => h102 1 (.inr rfl) (by omega)) fun h4 => s_hereR I fun r8 hr8 => brP (fun h8 => s_hereR I fun r10 hr10 => brP (fun _ => h102 0 (.inl rfl) (by omega)) fun _ => h102 1 (.inr rfl) (by omega)) fun h8 => s_wrongR I.1 (by omega) (by omega) k0) fun h => s_lands (Or.inr rfl) I fun M1 w1 h1 e1 I1 => ?_)
      have hb := h1.bot N
      obtain ⟨u, hu⟩ : ∃ u, w1 = u + 1 := ⟨w1 - 1, by omega⟩
      subst hu
      have N1 : cnI (M1 92) (u + 1) := N.sub h1.1 hb fun i _ => by rw [e1]
      have e17 := I1.2.1.2.1
      have e11' := I1.2.1.2.2
      have hw' := I1.2.2.2.1
      have hl1 := I1.len
      have hle := cntW_le (p := emB) (W := M1 92) (n := u)
      rw [e17, ew32 (z := ((u + 1 : Nat) : Int) - 1) (by omega) (by omega), stO (j := 17) (j' := 15) (by decide), stO (j := 15) (j' := 11) (by decide), stO (j := 17) (j' := 11) (by decide), e11', ew32 (z := (P : Int) + 1) (by omega) (by omega), stO (j := 11) (j' := 17) (by decide), stO (j := 15) (j' := 17) (by decide), stE]
      have I2 := I1.wpop (g' := g + 1) (v := ((u + 1 : Nat) : Int) - 1) (by rw [e1]; exact h1.2.2 u rfl (by decide)) (by omega) (by omega)
      have G3 := in_w32 (M1 81 15 - 1)
      have I3 := I2.other (j := 15) (v := w32 (M1 81 15 - 1)) (by omega) (sO_81_15 I2.1.1 G3.1 (by have := G3.2; omega))
      have I4 := (I3.place (v := (P : Int) + 1) (by omega) rfl).gm (g' := g + 1) (by omega)
      have e4 : stM (stM (stM M1 81 17 (((u + 1 : Nat) : Int) - 1)) 81 15 (w32 (M1 81 15 - 1))) 81 11 ((P : Int) + 1) 92 = M1 92 := funext fun j => by
        rw [stN (by decide), stN (by decide), stN (by decide)]
      refine brP (fun hz => ?_) fun hz => ?_
      · refine s_endsPiece (by omega) I4 fun M5 c5 w5 hw5 h10 e5 I5 => (ih w5 c5 (P + 1) M5 (by omega) (by omega) (N1.sub (by omega) ?_ fun i _ => by rw [e5, e4])).2 I5
        rcases Nat.lt_or_ge 0 w5 with q | q
        · exact q
        · have h3 := h10 0 q (by omega)
          have h2 := N1.2.1
          rw [e4] at h3
          omega
      · obtain rfl : u = 0 := by omega
        exact k1 _ c (P + 1) (by omega) I4 1 rfl
theorem s_readsCondition (I : rdI M0 M C0 a c 0 P 0 (g + 1)) (k0 : ∀ M1, rdF M0 M1 → ∀ x : Int, x = 0 → Q (vi x) M1) (k1 : ∀ (M1 : MM) (c' P' : Nat), P < P' → rdI M0 M1 C0 a c' 0 P' 1 (g + 1) → ∀ x : Int, x = 1 → Q (vi x) M1) : CA FF sc YF (d + 7) m_X12_readsCondition [vr 81] M Q := by
  have hl := I.len
  have e11 := I.2.1.2.2
  refine ca_X12_readsCondition M (s_hereR I fun r hr => brP (fun h => ?_) fun h => s_wrongR I.1 (by omega) (by omega) k0)
  have I1 := I.other (j := 15) (v := 0) (by omega) (sO_81_15 I.1.1 (by decide) (by decide))
  have I2 : rdI M0 (stM (stM M 81 15 0) 81 17 0) C0 a c 0 P 0 (g + 1) := ⟨I1.1.st (sO_81_17 I1.1.1 (by decide) (by decide)) (by decide +kernel), ⟨(stO (by decide)).trans I1.2.1.1, stE, (stO (by decide)).trans I1.2.1.2.2⟩, I1.2.2.1, I1.2.2.2.1, I1.2.2.2.2⟩
  refine s_opens (by decide) I2 (by omega) (fun M3 F3 y hy => brF (by omega) (k0 M3 F3 0 rfl)) fun M1 I3 e3 y hy => brT (by omega) ((cn_all k0 k1 (M0 81 12).toNat 1 c (P + 1) M1 (by omega) (by omega) ⟨Nat.le_refl _, ?_, fun i hi => ?_⟩).1 I3)
  · rw [e3, if_pos rfl]
    decide +kernel
  · rw [e3, if_pos (by omega)]
    decide +kernel
end RD5
