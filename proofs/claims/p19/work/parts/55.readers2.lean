/-! PART 55: by hand: the readers of THE LAW, the rest -/
theorem rdI.dm {M0 M : MM} {C0 : Nat → Int} {a c w P D g D' : Nat} (I : rdI M0 M C0 a c w P D g) (h : D = D') : rdI M0 M C0 a c w P D' g := by
  subst h
  exact I
theorem cntW_ext {p : Int → Bool} {W : Nat → Int} {n : Nat} : ∀ m, (∀ i, n ≤ i → i < n + m → p (W i) = false) → cntW p W (n + m) = cntW p W n := by
  intro m
  induction m with
  | zero => intro _; rfl
  | succ m ih =>
    intro h
    have e : n + (m + 1) = n + m + 1 := rfl
    rw [e, cntW_f (h (n + m) (by omega) (by omega)), ih (fun i h1 h2 => h i h1 (by omega))]
theorem emW {v : Int} : opB v = true → emB v = true := fun h => by
  unfold emB
  rw [h]
  rfl
theorem emF {v : Int} (h : opB v = false) (h2 : cop v ≠ 10) : emB v = false := by
  unfold emB
  rw [h, decide_eq_false h2]
  rfl
theorem emN {v : Int} (h2 : cop v = 10) : emB v = true := by
  unfold emB
  rw [decide_eq_true h2]
  exact Bool.or_true _
theorem opT {v : Int} (h : 2 ≤ cop v ∧ cop v ≤ 6) : opB v = true := by
  unfold opB
  rw [decide_eq_true h.1, decide_eq_true h.2]
  rfl
theorem opF {v : Int} (h : cop v < 2 ∨ 6 < cop v) : opB v = false := by
  unfold opB
  rcases h with h | h
  · rw [decide_eq_false (by omega)]
    rfl
  · rw [decide_eq_false (p := cop v ≤ 6) (by omega)]
    exact Bool.and_false _
theorem opR {v : Int} (h : opB v = true) : 2 ≤ cop v ∧ cop v ≤ 6 := by
  by_cases q : 2 ≤ cop v ∧ cop v ≤ 6
  · exact q
  · rw [opF (by omega)] at h
    cases h
theorem opN {v : Int} (h : opB v = false) : ¬ (2 ≤ cop v ∧ cop v ≤ 6) := fun q => by
  rw [opT q] at h
  cases h
theorem isIfN {v : Int} (h : cop v ≠ 11 ∧ cop v ≠ 12) : ¬ isIf v := fun q => by
  unfold isIf at q
  omega
theorem w32_code {op v : Int} (ho : 0 ≤ op ∧ op ≤ 14) (hv : 0 ≤ v ∧ v < 1048576) : w32 (w32 (1048576 * op) + v) = 1048576 * op + v := by
  rw [ew32 (z := 1048576 * op) (by omega) (by omega), ew32 (by omega) (by omega)]
section RDP
variable {M0 M : MM} {C0 : Nat → Int} {a c w P D g : Nat}
/-- one more waits, and a byte is read -/
theorem rdI.wpushP (I : rdI M0 M C0 a c w P D g) (hP : (P : Int) < M0 81 12) {y : Int} (hr : 0 ≤ y ∧ y ≤ 20000000) (hy : ¬ isIf y) {g' : Nat} (hg : c + cntW emB (M 92) w + (match emB y with
    | true => 1
    | false => 0) + g' ≤ P + 2) {v v' : Int} (hv : v = (w : Int) + 1) (hv' : v' = (P : Int) + 1) : rdI M0 (stM (stM (stM M 92 w y) 81 17 v) 81 11 v') C0 a c (w + 1) (P + 1) D g' := by
  subst hv hv'
  obtain ⟨F, ⟨e1, e2, e3⟩, hPl, ⟨h1, h2, h3⟩, h4, h5⟩ := I
  have hl := (rdI.len ⟨F, ⟨e1, e2, e3⟩, hPl, ⟨h1, h2, h3⟩, h4, h5⟩).2
  have F1 : rdF M0 (stM M 92 w y) := F.st (sA_92 F.1 hr.1 hr.2) (by rw [ax_slA rfl]; decide +kernel)
  have F2 : rdF M0 (stM (stM M 92 w y) 81 17 ((w : Int) + 1)) := F1.st (sO_81_17 F1.1 (by omega) (by omega)) (by decide +kernel)
  have e92 : ∀ j, stM (stM (stM M 92 w y) 81 17 ((w : Int) + 1)) 81 11 ((P : Int) + 1) 92 j = if j = w then y else M 92 j := fun j => by
    rw [stN (by decide), stN (by decide), stM_at]
    by_cases q : j = w
    · rw [if_pos ⟨rfl, q⟩, if_pos q]
    · rw [if_neg (fun z => q z.2), if_neg q]
  refine ⟨F2.st (sO_81_11 F2.1 (by omega) (by omega)) (by decide +kernel), ⟨?_, ?_, stE⟩, by omega, ⟨h1, ?_, by omega⟩, fun k hk => ?_, ?_⟩
  · rw [stO (by decide), stO (by decide), stN (by decide)]
    exact e1
  · rw [stO (by decide)]
    exact stE
  · have ec : cntW emB (stM (stM (stM M 92 w y) 81 17 ((w : Int) + 1)) 81 11 ((P : Int) + 1) 92) (w + 1) = cntW emB (M 92) w + (match emB y with
      | true => 1
      | false => 0) := by
      show cntW emB (stM (stM (stM M 92 w y) 81 17 ((w : Int) + 1)) 81 11 ((P : Int) + 1) 92) w + _ = _
      rw [cntW_eq emB w (fun i hi => by rw [e92, if_neg (by omega)]), e92, if_pos rfl]
      rfl
    rw [ec]
    omega
  · rw [stN (by decide), stN (by decide), stN (by decide)]
    exact h4 k hk
  · exact rdC.wpush (W := M 92) h5 e92 hy
/-- a jump is noted, and a byte is read -/
theorem rdI.jumpP (I : rdI M0 M C0 a c w P 1 (g + 1)) (hP : (P : Int) < M0 81 12) {x y : Int} (hx : 0 ≤ x ∧ x ≤ 20000000) (hxi : isIf x) (hr : 0 ≤ y ∧ y ≤ 20000000) (hy : isIf y ∧ carg y = c) {v v1 v' : Int} (hv : v = (w : Int) + 1) (hv1 : v1 = (c : Int) + 1) (hv' : v' = (P : Int) + 1) : rdI M0 (stM (stM (stM (stM (stM M 92 w y) 81 17 v) 91 c x) 81 16 v1) 81 11 v') C0 a (c + 1) (w + 1) (P + 1) 0 (g + 1) := by
  subst hv hv' hv1
  obtain ⟨F, ⟨e1, e2, e3⟩, hPl, ⟨h1, h2, h3⟩, h4, h5⟩ := I
  have hl := (rdI.len ⟨F, ⟨e1, e2, e3⟩, hPl, ⟨h1, h2, h3⟩, h4, h5⟩).2
  have F1 : rdF M0 (stM M 92 w y) := F.st (sA_92 F.1 hr.1 hr.2) (by rw [ax_slA rfl]; decide +kernel)
  have F2 : rdF M0 (stM (stM M 92 w y) 81 17 ((w : Int) + 1)) := F1.st (sO_81_17 F1.1 (by omega) (by omega)) (by decide +kernel)
  have F3 : rdF M0 (stM (stM (stM M 92 w y) 81 17 ((w : Int) + 1)) 91 c x) := F2.st (sA_91 F2.1 hx.1 hx.2) (by rw [ax_slA rfl]; decide +kernel)
  have F4 : rdF M0 (stM (stM (stM (stM M 92 w y) 81 17 ((w : Int) + 1)) 91 c x) 81 16 ((c : Int) + 1)) := F3.st (sO_81_16 F3.1 (by omega) (by omega)) (by decide +kernel)
  have e92 : ∀ j, stM (stM (stM (stM (stM M 92 w y) 81 17 ((w : Int) + 1)) 91 c x) 81 16 ((c : Int) + 1)) 81 11 ((P : Int) + 1) 92 j = if j = w then y else M 92 j := fun j => by
    rw [stN (by decide), stN (by decide), stN (by decide), stN (by decide), stM_at]
    by_cases q : j = w
    · rw [if_pos ⟨rfl, q⟩, if_pos q]
    · rw [if_neg (fun z => q z.2), if_neg q]
  have e91 : ∀ j, stM (stM (stM (stM (stM M 92 w y) 81 17 ((w : Int) + 1)) 91 c x) 81 16 ((c : Int) + 1)) 81 11 ((P : Int) + 1) 91 j = if j = c then x else M 91 j := fun j => by
    rw [stN (by decide), stN (by decide), stM_at]
    by_cases q : j = c
    · rw [if_pos ⟨rfl, q⟩, if_pos q]
    · rw [if_neg (fun z => q z.2), if_neg q, stN (by decide), stN (by decide)]
  have ny : emB y = false := by
    have q := hy.1
    unfold isIf at q
    exact emF (opF (by omega)) (by omega)
  refine ⟨F4.st (sO_81_11 F4.1 (by omega) (by omega)) (by decide +kernel), ⟨?_, ?_, stE⟩, by omega, ⟨by omega, ?_, by omega⟩, fun k hk => ?_, ?_⟩
  · rw [stO (by decide)]
    exact stE
  · rw [stO (by decide), stO (by decide), stN (by decide)]
    exact stE
  · have ec : cntW emB (stM (stM (stM (stM (stM M 92 w y) 81 17 ((w : Int) + 1)) 91 c x) 81 16 ((c : Int) + 1)) 81 11 ((P : Int) + 1) 92) (w + 1) = cntW emB (M 92) w := by
      rw [cntW_f (by rw [e92, if_pos rfl]; exact ny), cntW_eq emB w (fun i hi => by rw [e92, if_neg (by omega)])]
    rw [ec]
    omega
  · rw [e91, if_neg (by omega)]
    exact h4 k hk
  · exact rdC.jump (W := M 92) h5 h1 e91 e92 ⟨hx.1, hxi⟩ hy
/-- a jump has its place -/
theorem rdI.land (I : rdI M0 M C0 a c (w + 1) P 1 g) (hi : isIf (M 92 w)) {x v : Int} (hx : 0 ≤ x ∧ x ≤ 20000000) (hx2 : cop x = cop (M 91 (carg (M 92 w)).toNat) ∧ carg x = c) (hv : v = (w : Int)) : rdI M0 (stM (stM M 91 (carg (M 92 w)).toNat x) 81 17 v) C0 a c w P 1 g := by
  subst hv
  obtain ⟨F, ⟨e1, e2, e3⟩, hPl, ⟨h1, h2, h3⟩, h4, h5⟩ := I
  have hl := (rdI.len ⟨F, ⟨e1, e2, e3⟩, hPl, ⟨h1, h2, h3⟩, h4, h5⟩).2
  have F1 : rdF M0 (stM M 91 (carg (M 92 w)).toNat x) := F.st (sA_91 F.1 hx.1 hx.2) (by rw [ax_slA rfl]; decide +kernel)
  have e91 : ∀ j, stM (stM M 91 (carg (M 92 w)).toNat x) 81 17 (w : Int) 91 j = if j = (carg (M 92 w)).toNat then x else M 91 j := fun j => by
    rw [stN (by decide), stM_at]
    by_cases q : j = (carg (M 92 w)).toNat
    · rw [if_pos ⟨rfl, q⟩, if_pos q]
    · rw [if_neg (fun z => q z.2), if_neg q]
  have e92 : stM (stM M 91 (carg (M 92 w)).toNat x) 81 17 (w : Int) 92 = M 92 := funext fun j => by
    rw [stN (by decide), stN (by decide)]
  have ny : emB (M 92 w) = false := by
    have q := hi
    unfold isIf at q
    exact emF (opF (by omega)) (by omega)
  have hr := h5
  obtain ⟨dp, -, -, -, hW⟩ := hr
  have hWw := hW w (by omega) hi
  refine ⟨F1.st (sO_81_17 F1.1 (by omega) (by omega)) (by decide +kernel), ⟨?_, stE, ?_⟩, by omega, ⟨h1, ?_, by omega⟩, fun k hk => ?_, ?_⟩
  · rw [stO (by decide), stN (by decide)]
    exact e1
  · rw [stO (by decide), stN (by decide)]
    exact e3
  · rw [e92]
    rw [cntW_f ny] at h2
    exact h2
  · rw [e91, if_neg (by omega)]
    exact h4 k hk
  · rw [e92]
    exact rdC.land (C := M 91) h5 hi (by omega) e91 ⟨hx.1, hx2⟩
end RDP
