/-! PART 48: by hand: walk of the class -/
theorem u_X10_addStep_3 {J : MM → Prop} (S : ai_SP ax_T J ap_X10_addStep_3) {sc : List Int} {d : Nat} {M : MM} {Q : Vv → MM → Prop} {v1 v2 v3 : Int} (h0 : 0 ≤ v1 ∧ v1 ≤ 4) (h1 : 1 ≤ v2 ∧ v2 ≤ 9) (h2 : 0 ≤ v3 ∧ v3 ≤ 80) (G : ai_GI ax_T M) (j : J M) (k0 : ∀ (r : Int) (M1 : MM), (-6080) ≤ r → r ≤ 0 → ai_GI ax_T M1 → ai_Fr ax_T ap_X10_addStep_3.2.2.2.1 M M1 → Q (vi r) M1) : CA FF sc YF (d + 2) m_X10_addStep [vr 3, vi v1, vi v2, vi v3] M Q := by
  refine S sc d (ax_rh [v1, v2, v3]) M _ Q rfl rfl (And.intro (ax_r) (And.intro (ax_i (by decide) rfl) (And.intro (ax_i (by decide) rfl) (And.intro (ax_i (by decide) rfl) (And.intro (ax_o) trivial))))) ⟨(ax_e1 (by decide) h0.1 h0.2 (ax_e1 (by decide) h1.1 h1.2 (ax_e1 (by decide) h2.1 h2.2 ax_e0))), ax_f0, ax_c0, ax_m0⟩ G j (fun r M1 g f hq => ?_)
  replace hq := ax_q1 hq
  obtain ⟨-, ρ1, e0, hr, kE, kF, kC, kN⟩ := hq
  have hr : r = vi (ρ1 3) := hr
  have e1 : ρ1 0 = v1 := e0 0 (by decide)
  have e2 : ρ1 1 = v2 := e0 1 (by decide)
  have e3 : ρ1 2 = v3 := e0 2 (by decide)
  have b0 := kE _ (List.mem_cons_self)
  have b0 : (-6080) ≤ ρ1 3 ∧ ρ1 3 ≤ 0 := b0.2
  rw [hr]
  exact k0 _ _ (by omega) (by omega) g f
def wkw : Nat := 383984923062992702213923103157634788740950225727170741724943033688790757592180206531289444858541378003600770246394173023456127593050733423170757178736724047871730673308040038478937621272239394265184693280858759018802011985052403234055708863360206511483605757370814076633643302948751547770830954426141985550745547721987831392733137570195058569754934319020786869302109590244008823214417274172853925682610176
/-- while the class reads a WALK -/
def wkI (M0 M : MM) : Prop := ai_GI ax_T M ∧ ai_Fr ax_T wkw M0 M ∧ ∀ i : Nat, (i : Int) < M 3 9 → 1 ≤ M 20 i
theorem stO {M : MM} {k j j' : Nat} {v : Int} (h : j' ≠ j) : stM M k j v k j' = M k j' := if_neg (fun q => h q.2)
theorem stE {M : MM} {k j : Nat} {v : Int} : stM M k j v k j = v := if_pos ⟨rfl, rfl⟩
theorem wkI.st {M0 M : MM} (I : wkI M0 M) {k j : Nat} {v : Int} (G : ai_GI ax_T (stM M k j v)) (hb : wkw.testBit (ai_sl ax_T k j) = true) (h9 : ¬ (k = 3 ∧ j = 9)) (h20 : k ≠ 20) : wkI M0 (stM M k j v) := ⟨G, ax_frS I.2.1 hb, fun i hi => by
  have e1 : stM M k j v 3 9 = M 3 9 := if_neg (fun q => h9 ⟨q.1.symm, q.2.symm⟩)
  have e2 : stM M k j v 20 i = M 20 i := stN (fun q => h20 q.symm)
  rw [e1] at hi
  rw [e2]
  exact I.2.2 i hi⟩
theorem mulb {a b : Int} (h1 : -60 ≤ a) (h2 : a ≤ 60) (h3 : 0 ≤ b) (h4 : b ≤ 8) : (-480 ≤ a * b ∧ a * b ≤ 480) ∧ (0 < a * b → 0 < a) := by
  obtain rfl | rfl | rfl | rfl | rfl | rfl | rfl | rfl | rfl : b = 0 ∨ b = 1 ∨ b = 2 ∨ b = 3 ∨ b = 4 ∨ b = 5 ∨ b = 6 ∨ b = 7 ∨ b = 8 := by omega
  all_goals omega
section WKS
variable {sc : List Int} {d : Nat} {Q : Vv → MM → Prop} {M0 : MM}
theorem cg_wp {from' more s0 : Int} (hf : 0 ≤ from') (h0 : 0 ≤ s0) (hm : more ≤ 0 ∨ from' < s0) (hs : s0 + more ≤ 60) (k : ∀ r M1, wkI M0 M1 → Q (vi r) M1) : ∀ (n : Nat) (i : Int) (M : MM), (more - i).toNat ≤ n → 0 ≤ i → M 3 8 = s0 + i → wkI M0 M → WP FF sc YF (d + 1) m_X10_closeGroup 41 [] [some (vr 3), some (vi from'), some (vi more), some (vi i)] M Q := by
  intro n
  induction n with
  | zero =>
    intro i M hn hi he I
    exact rg_X10_closeGroup_41 from' more i M (brT (by omega) (k _ M I))
  | succ n ih =>
    intro i M hn hi he I
    refine rg_X10_closeGroup_41 from' more i M (brP (fun _ => k _ M I) fun h => ?_)
    rw [ew32 (z := from' + i) (by omega) (by omega), ew32 (z := i + 1) (by omega) (by omega)]
    refine gI (by omega) (by omega) (gI (by omega) (by omega) ?_)
    rw [stN (k' := 3) (k := 18) (by decide), ew32 (z := M 3 8 + 1) (by omega) (by omega)]
    have g := rA_18 I.1 (from' + i).toNat
    have I1 : wkI M0 (stM M 18 (M 3 8).toNat (M 18 (from' + i).toNat)) := I.st (sA_18 I.1 g.1 g.2) (by rw [ax_slA rfl]; decide +kernel) (by omega) (by decide)
    refine ih (i + 1) _ (by omega) (by omega) ?_ (I1.st (sO_3_8 I1.1 (by omega) (by omega)) (by decide +kernel) (by omega) (by decide))
    rw [stE]
    omega
theorem s_closeGroup {M : MM} (I : wkI M0 M) (h : 0 < M 3 9) (k : ∀ r M1, wkI M0 M1 → Q (vi r) M1) : CA FF sc YF (d + 2) m_X10_closeGroup [vr 3] M Q := by
  have g9 := rO_3_9 I.1
  have g8 := rO_3_8 I.1
  refine ca_X10_closeGroup M ?_
  rw [ew32 (z := M 3 9 - 1) (by omega) (by omega), stE, stO (j' := 8) (by decide), stN (k' := 21) (by decide), stN (k' := 20) (by decide), stN (k' := 19) (by decide)]
  have g20 := rA_20 I.1 (M 3 9 - 1).toNat
  have g21 := rA_21 I.1 (M 3 9 - 1).toNat
  have h20 := I.2.2 (M 3 9 - 1).toNat (by omega)
  have I1 : wkI M0 (stM M 3 9 (M 3 9 - 1)) := ⟨sO_3_9 I.1 (by omega) (by omega), ax_frS I.2.1 (by decide +kernel), fun i hi => by
    rw [stE] at hi
    rw [stN (by decide)]
    exact I.2.2 i (by omega)⟩
  have h8 : stM M 3 9 (M 3 9 - 1) 3 8 = M 3 8 := stO (by decide)
  generalize M 20 (M 3 9 - 1).toNat = t at g20 h20
  generalize M 21 (M 3 9 - 1).toNat = a at g21
  rw [ew32 (z := M 3 8 - a) (by omega) (by omega), ew32 (z := t - 1) (by omega) (by omega)]
  have hb := mulb (a := M 3 8 - a) (b := t - 1) (by omega) (by omega) (by omega) (by omega)
  generalize (M 3 8 - a) * (t - 1) = p at hb
  rw [ew32 (z := p) (by omega) (by omega), ew32 (z := M 3 8 + p) (by omega) (by omega)]
  refine gI (by omega) (by omega) (gI (by omega) (by omega) (brP (fun hle => ?_) fun _ => gI (by omega) (by omega) (ca_X11_faultAt _ _ _ (k _ _ I1))))
  exact cg_wp (s0 := M 3 8) g21.1 g8.1 (by omega) hle k p.toNat 0 _ (by omega) (by omega) (by rw [h8]; omega) I1
theorem s_openGroup {M : MM} {v1 v2 v3 : Int} (h1 : 1 ≤ v1 ∧ v1 ≤ 9) (h2 : 0 ≤ v2 ∧ v2 ≤ 80) (I : wkI M0 M) (k : ∀ r M1, wkI M0 M1 → Q (vi r) M1) : CA FF sc YF (d + 2) m_X10_openGroup [vr 3, vi v1, vi v2, vi v3] M Q := by
  have g9 := rO_3_9 I.1
  have g8 := rO_3_8 I.1
  refine ca_X10_openGroup v1 v2 v3 M (brP (fun h => ?_) fun _ => ca_X11_faultAt _ _ _ (k _ _ I))
  have b1 : ∀ j, stM M 20 (M 3 9).toNat v1 3 j = M 3 j := fun j => stN (by decide)
  have b2 : ∀ j, stM (stM M 20 (M 3 9).toNat v1) 19 (M 3 9).toNat v2 3 j = M 3 j := fun j => (stN (by decide)).trans (b1 j)
  have b3 : ∀ j, stM (stM (stM M 20 (M 3 9).toNat v1) 19 (M 3 9).toNat v2) 21 (M 3 9).toNat (M 3 8) 3 j = M 3 j := fun j => (stN (by decide)).trans (b2 j)
  rw [b1, b2, b2, b3, ew32 (z := M 3 9 + 1) (by omega) (by omega)]
  refine gI (by omega) (by omega) (gI (by omega) (by omega) (gI (by omega) (by omega) (k _ _ ?_)))
  have G1 : ai_GI ax_T (stM M 20 (M 3 9).toNat v1) := sA_20 I.1 (by omega) (by omega)
  have G2 : ai_GI ax_T (stM (stM M 20 (M 3 9).toNat v1) 19 (M 3 9).toNat v2) := sA_19 G1 (by omega) (by omega)
  have G3 : ai_GI ax_T (stM (stM (stM M 20 (M 3 9).toNat v1) 19 (M 3 9).toNat v2) 21 (M 3 9).toNat (M 3 8)) := sA_21 G2 (by omega) (by omega)
  have G4 := sO_3_9 G3 (v := M 3 9 + 1) (by omega) (by omega)
  refine ⟨sO_3_12 G4 (by decide) (by decide), ?_, fun i hi => ?_⟩
  · exact ax_frS (ax_frS (ax_frS (ax_frS (ax_frS I.2.1 (by rw [ax_slA rfl]; decide +kernel)) (by rw [ax_slA rfl]; decide +kernel)) (by rw [ax_slA rfl]; decide +kernel)) (by decide +kernel)) (by decide +kernel)
  · rw [stO (by decide), stE] at hi
    rw [stN (by decide), stN (by decide), stN (by decide), stN (by decide), stM_at]
    split
    · exact h1.1
    · rename_i hne
      refine I.2.2 i ?_
      have : i ≠ (M 3 9).toNat := fun q => hne ⟨rfl, q⟩
      omega
theorem s_addStep {M : MM} (J : axJ M0) {v1 v2 v3 : Int} (h0 : 0 ≤ v1 ∧ v1 ≤ 4) (h1 : 1 ≤ v2 ∧ v2 ≤ 9) (h2 : 0 ≤ v3 ∧ v3 ≤ 80) (I : wkI M0 M) (k : ∀ r M1, wkI M0 M1 → Q (vi r) M1) : CA FF sc YF (d + 2) m_X10_addStep [vr 3, vi v1, vi v2, vi v3] M Q := u_X10_addStep_3 (ah_X10_addStep_3 axH) h0 h1 h2 I.1 (ax_j axH I.2.1 (by decide +kernel) J) fun r M1 _ _ g f => k r M1 ⟨g, ax_frT I.2.1 (ax_frW f (by decide +kernel)), fun i hi => by
  have e1 : M1 3 9 = M 3 9 := ax_frO f rfl (by decide +kernel)
  have e2 : M1 20 i = M 20 i := ax_frA f rfl (by decide +kernel) i
  rw [e1] at hi
  rw [e2]
  exact I.2.2 i hi⟩
theorem s_stepOf {v : Int} {M : MM} (k : ∀ r : Int, r = -1 ∨ (0 ≤ r ∧ r ≤ 4) → Q (vi r) M) : CA FF sc YF (d + 1) m_X10_stepOf [vi v] M Q := ca_X10_stepOf v M ⟨fun _ => k _ (by omega), fun _ => ⟨fun _ => k _ (by omega), fun _ => ⟨fun _ => k _ (by omega), fun _ => ⟨fun _ => k _ (by omega), fun _ => ⟨fun _ => k _ (by omega), fun _ => k _ (by omega)⟩⟩⟩⟩⟩
theorem take_wp {M : MM} (J : axJ M0) {v1 v2 s0 : Int} (h0 : 0 ≤ s0 ∧ s0 ≤ 80) (I : wkI M0 M) (k : ∀ r M1, wkI M0 M1 → Q (vi r) M1) : WP FF sc YF (d + 3) m_X10_take 26 [vi s0] [some (vr 3), some (vi v1), some (vi v2), none, none, none] M Q := by
  have I1 : wkI M0 (stM M 3 10 0) := I.st (sO_3_10 I.1 (by decide) (by decide)) (by decide +kernel) (by omega) (by decide)
  have g10 := rO_3_10 I.1
  have hmx := fmMax (M 3 10) 1
  refine rg_X10_take_26 v1 v2 none none none s0 M (s_stepOf fun r hr => ?_)
  refine brP (fun _ => brP (fun _ => brP (fun _ => ca_X11_faultAt _ _ _ (k _ _ I)) fun _ => brP (fun _ => ca_X11_faultAt _ _ _ (k _ _ I)) fun _ => brP (fun _ => ca_X11_faultAt _ _ _ (k _ _ I)) fun h9 => brP (fun _ => ca_X11_faultAt _ _ _ (k _ _ I)) fun _ => s_closeGroup I (by omega) k) fun _ => s_openGroup (by omega) h0 I1 k) fun hr1 => s_addStep J (by omega) (by omega) h0 I1 k
theorem s_take {M : MM} (J : axJ M0) {v1 v2 : Int} (h2 : 0 ≤ v2 ∧ v2 ≤ 80) (I : wkI M0 M) (k : ∀ r M1, wkI M0 M1 → Q (vi r) M1) : CA FF sc YF (d + 3) m_X10_take [vr 3, vi v1, vi v2] M Q := by
  have g11 := rO_3_11 I.1
  have a1 := take_wp (sc := sc) (d := d) (v1 := v1) (v2 := v2) J g11 I k
  have a2 := take_wp (sc := sc) (d := d) (v1 := v1) (v2 := v2) J h2 I k
  refine ca_X10_take v1 v2 M (brP (fun _ => brP (fun _ => a1) fun _ => a2) fun _ => brP (fun _ => brP (fun _ => a1) fun _ => a2) fun h50 => brP (fun _ => brP (fun _ => a1) fun _ => a2) fun h57 => k _ _ ?_)
  rw [ew32 (z := v1 - 48) (by omega) (by omega)]
  have I1 : wkI M0 (stM M 3 10 (v1 - 48)) := I.st (sO_3_10 I.1 (by omega) (by omega)) (by decide +kernel) (by omega) (by decide)
  exact I1.st (sO_3_11 I1.1 (by omega) (by omega)) (by decide +kernel) (by omega) (by decide)
theorem s_at {M : MM} {v : Int} (k : ∀ r : Int, -1 ≤ r → r ≤ 255 → (0 ≤ v → v < M 1 1 → r = M 2 v.toNat) → (¬ (0 ≤ v ∧ v < M 1 1) → r = -1) → Q (vi r) M) (G : ai_GI ax_T M) : CA FF sc YF (d + 1) m_X7_at [vr 1, vi v] M Q := by
  have g := rO_1_1 G
  have g2 := rA_2 G v.toNat
  exact ca_X7_at v M (brP (fun _ => k _ (by omega) (by omega) (fun _ => by omega) (fun _ => rfl)) fun _ => brP (fun _ => k _ (by omega) (by omega) (fun _ => by omega) (fun _ => rfl)) fun _ => gI (by omega) (by omega) (k _ (by omega) (by omega) (fun _ _ => rfl) (fun h => by omega)))
theorem FF5 : ∀ j, j < 10 → FF 5 j = j + 7 ∧ kd YF (j + 6) = 0 ∧ ln YF (j + 6) = 60 ∧ ax_T[j + 6]? = some (true, [(.ofNat 0, .ofNat 4)]) ∧ wkw.testBit (64 * (j + 6)) = true ∧ ai_un ax_T (j + 6) = true := by decide +kernel
theorem rd_wp2 {v2 h : Int} (hh : 0 ≤ h ∧ h ≤ 9) (o5 : Option Vv) (k : ∀ r M1, wkI M0 M1 → Q (vi r) M1) : ∀ (n : Nat) (i : Int) (M : MM), (60 - i).toNat ≤ n → 0 ≤ i → wkI M0 M → WP FF sc YF (d + 1) m_X10_read 42 [] [some (vr 3), some (vr 1), some (vi v2), some (vi h), some (vi i), o5] M Q := by
  obtain ⟨f1, f2, f3, f4, f5, f6⟩ := FF5 h.toNat (by omega)
  intro n
  induction n with
  | zero =>
    intro i M hn hi I
    have g8 := rO_3_8 I.1
    refine rg_X10_read_42 v2 h i o5 M (brT (by omega) (gI hh.1 (by omega) (k _ _ (I.st (sA_4 I.1 (by omega) (by omega)) (by rw [ax_slA rfl]; decide +kernel) (by omega) (by decide)))))
  | succ n ih =>
    intro i M hn hi I
    have g8 := rO_3_8 I.1
    refine rg_X10_read_42 v2 h i o5 M (brP (fun _ => gI hh.1 (by omega) (k _ _ (I.st (sA_4 I.1 (by omega) (by omega)) (by rw [ax_slA rfl]; decide +kernel) (by omega) (by decide)))) fun hlt => ?_)
    rw [f1]
    show gAnd (decide (0 ≤ h) && (decide (h < 10) && true)) (gAnd (decide (0 ≤ i) && decide (i < 60)) (gAnd ((kd YF (h.toNat + 6) == 0) && (decide (0 ≤ i) && decide (i < ln YF (h.toNat + 6)))) (WP FF sc YF (d + 1) m_X10_read 42 [] [some (vr 3), some (vr 1), some (vi v2), some (vi h), some (vi (w32 (i + 1))), o5] (stM M (h.toNat + 6) i.toNat (M 18 i.toNat)) Q)))
    rw [f2, f3, ew32 (z := i + 1) (by omega) (by omega)]
    have g18 := rA_18 I.1 i.toNat
    refine gB (by rw [decide_eq_true hh.1, decide_eq_true (show h < 10 by omega)]; rfl) (gI hi (by omega) (gK rfl hi (by omega) (ih (i + 1) _ (by omega) (by omega) (I.st (ax_giSA f4 I.1 g18.1 g18.2) (by rw [ax_slA f6]; exact f5) (by omega) (by omega)))))
theorem rd_wp {v2 h : Int} (J : axJ M0) (h2 : v2 ≤ 80) (hh : 0 ≤ h ∧ h ≤ 9) (k : ∀ r M1, wkI M0 M1 → Q (vi r) M1) : ∀ (n : Nat) (i : Int) (o5 : Option Vv) (M : MM), (v2 - i).toNat ≤ n → 0 ≤ i → wkI M0 M → WP FF sc YF (d + 4) m_X10_read 14 [] [some (vr 3), some (vr 1), some (vi v2), some (vi h), some (vi i), o5] M Q := by
  have hend : ∀ (i : Int) (o5 : Option Vv) (M : MM), wkI M0 M → brA (decide (M 3 10 ≠ 0)) (CA FF sc YF (d + 3) m_X11_faultAt [vi 1, vi v2] M (cI fun r2 M1 => Q (vi r2) M1)) (brA (decide (M 3 9 ≤ 0)) (WP FF sc YF (d + 4) m_X10_read 42 [] [some (vr 3), some (vr 1), some (vi v2), some (vi h), some (vi 0), o5] M Q) (CA FF sc YF (d + 3) m_X11_faultAt [vi 1, vi v2] M (cI fun r4 M3 => Q (vi r4) M3))) := fun i o5 M I => brP (fun _ => ca_X11_faultAt _ _ _ (k _ _ I)) fun _ => brP (fun _ => rd_wp2 hh o5 k 60 0 M (by omega) (by omega) I) fun _ => ca_X11_faultAt _ _ _ (k _ _ I)
  intro n
  induction n with
  | zero =>
    intro i o5 M hn hi I
    exact rg_X10_read_14 v2 h i o5 M (brT (by omega) (hend i o5 M I))
  | succ n ih =>
    intro i o5 M hn hi I
    refine rg_X10_read_14 v2 h i o5 M (brP (fun _ => hend i o5 M I) fun hlt => s_at (fun r _ _ _ _ => s_take J (by omega) I fun r8 M7 I7 => brP (fun _ => ?_) fun _ => k _ _ I7) I.1)
    rw [ew32 (z := i + 1) (by omega) (by omega)]
    exact ih (i + 1) _ M7 (by omega) (by omega) I7
theorem sx_walk {h n : Int} {M : MM} (G : axG M) (k : ∀ (r : Int) (M1 : MM), axG M1 → UpX M M1 → M1 0 14 = M 0 14 → szX ((0 ≤ h ∧ h ≤ 9) ∧ 1 ≤ n ∧ n ≤ 80 ∧ n ≤ M 1 1) M M1 → Q (vi r) M1) : CA FF sc YF (d + 6) m_X11_walk [vr 0, vi h, vi n] M Q := by
  obtain ⟨g, j, w⟩ := G
  refine ca_X11_walk h n M (s_isHouse h M (brI0 (fun hh => k _ M ⟨g, j, w⟩ UpX.rf rfl (.inl ⟨fun q => hh q.1, rfl⟩)) fun hh => s_hasText n 80 M (fun ht => k _ M ⟨g, j, w⟩ UpX.rf rfl (.inl ⟨fun q => ht q.2, rfl⟩)) fun ht x hx => brT (by omega) ?_))
  have e1 : stM M 3 8 0 3 9 = M 3 9 := stO (by decide)
  have g8 := sO_3_8 g (v := 0) (by decide) (by decide)
  have g9 := sO_3_9 g8 (v := 0) (by decide) (by decide)
  have g10 := sO_3_10 g9 (v := 0) (by decide) (by decide)
  have g12 := sO_3_12 g10 (v := 0) (by decide) (by decide)
  refine ca_X10_read n h M (rd_wp (M0 := M) j ht.2.1 hh (fun r M5 I => ca_X7_empty M5 ?_) n.toNat 0 none _ (by omega) (by omega) ⟨g12, ax_frS (ax_frS (ax_frS (ax_frS ax_fr0 (by decide +kernel)) (by decide +kernel)) (by decide +kernel)) (by decide +kernel), fun i hi => ?_⟩)
  · have u : UpX M M5 := upX_fr I.2.1 (by decide +kernel)
    have b : ∀ i, stM M5 1 1 0 0 i = M5 0 i := fun i => stN (by decide)
    refine k r _ ⟨sO_1_1 I.1 (by decide) (by decide), (u.st (by decide)).j j, axW_eq ((b 10).trans (ax_frO I.2.1 rfl (by decide +kernel))) ((b 11).trans (ax_frO I.2.1 rfl (by decide +kernel))) ((b 12).trans (ax_frO I.2.1 rfl (by decide +kernel))) ((b 13).trans (ax_frO I.2.1 rfl (by decide +kernel))) w⟩ (u.st (by decide)) ((b 14).trans (ax_frO I.2.1 rfl (by decide +kernel))) (.inr ⟨⟨hh, ht⟩, stE⟩)
  · have e : stM (stM (stM (stM M 3 8 0) 3 9 0) 3 10 0) 3 12 0 3 9 = 0 := rfl
    rw [e] at hi
    omega
end WKS
