/-! PART 54: by hand: the readers of THE LAW, first ones -/
def rdw : Nat := 291483831440891676820019840951619504732374931277215624594214261679315917731786445377966589174685629512494136286426718420677866723428632493209384447412119011695606860363522360761042889013364327530920892378008828296014588541227141655388725405732254552917164121618114405807589896999318593392238871908563141257054901951416160230050602951825919099693805757743411361445281996277892820342735641285519935423487393340298393227141808307573785826519921218534604181107799311770797819368034492415914853143890747463806779047196330503175280382010899657220511025951738913761308597132148895855995222155813345413727831087628820081243987683475612546176467044026180156073621642733263859730464506208557119864183839704567914035010252652784667200188989660709203324527873772756992466619695527669204382559354469447983506254714173373517167520372583019837951933337190846332838099302273620448770500728973078618560227196942934936299701951766298725711344266954721092236279683062610462240724811999753306016424528724577755042783015727608278620980124267953116662656011093742498557478172429583880667678099803263832447109932919718638751846755396562353985651247084069312079443268604462993525058274143744024185772653715367105183212275462083843948208911622141277663933895559181681798996050230493932110269845754278767676649655421937469899140608045751029835898669228612234429574655172495004625133145096552050177758455398227809918137008294243036331742647577791671409685286017542339350214613655045266587314773260644323902255876595694588780463809989243081823267852626966764019385895173531621788094663890770512997246900265013018586306149413205193022081394690548656417967860426312555004042785981779514352371795558246989130629733325814950895919822350658903068423657476463972008433865056511463534930215509377488384950272
def rdF (M0 M : MM) : Prop := ai_GI ax_T M ∧ ai_Fr ax_T rdw M0 M
/-- a clause is being read: its codes begin at a, c are there, w wait, P bytes are read; D deep; g to spare -/
def rdI (M0 M : MM) (C0 : Nat → Int) (a c w P D g : Nat) : Prop := rdF M0 M ∧ (M 81 16 = c ∧ M 81 17 = w ∧ M 81 11 = P) ∧ (P : Int) ≤ M0 81 12 ∧ (a ≤ c ∧ c + cntW emB (M 92) w + g ≤ P + 1 ∧ w ≤ P) ∧ (∀ k, k < a → M 91 k = C0 k) ∧ rdC (M 91) (M 92) a c w D
section RDI
variable {M0 M : MM} {C0 : Nat → Int} {a c w P D g : Nat}
theorem rdI.len (I : rdI M0 M C0 a c w P D g) : M 81 12 = M0 81 12 ∧ M0 81 12 ≤ 240 ∧ P ≤ 240 := by
  have h1 : M 81 12 = M0 81 12 := ax_frO I.1.2 rfl (by decide +kernel)
  have h2 := rO_81_12 I.1.1
  have h3 := I.2.2.1
  exact ⟨h1, by omega, by omega⟩
theorem rdF.st (I : rdF M0 M) {k j : Nat} {v : Int} (G : ai_GI ax_T (stM M k j v)) (hb : rdw.testBit (ai_sl ax_T k j) = true) : rdF M0 (stM M k j v) := ⟨G, ax_frS I.2 hb⟩
theorem rdI.other (I : rdI M0 M C0 a c w P D g) {j : Nat} {v : Int} (hj : j = 13 ∨ j = 14 ∨ j = 15) (G : ai_GI ax_T (stM M 81 j v)) : rdI M0 (stM M 81 j v) C0 a c w P D g := by
  have hb : rdw.testBit (ai_sl ax_T 81 j) = true := by
    rcases hj with rfl | rfl | rfl <;> decide +kernel
  refine ⟨I.1.st G hb, ?_, I.2.2.1, ?_⟩
  · rw [stO (by omega), stO (by omega), stO (by omega)]
    exact I.2.1
  · exact I.2.2.2
theorem rdI.place (I : rdI M0 M C0 a c w P D g) (hP : (P : Int) < M0 81 12) {v : Int} (hv : v = (P : Int) + 1) : rdI M0 (stM M 81 11 v) C0 a c w (P + 1) D (g + 1) := by
  subst hv
  have hl := I.len
  have h4 := I.2.2.2.1
  refine ⟨I.1.st (sO_81_11 I.1.1 (by omega) (by omega)) (by decide +kernel), ⟨(stO (by decide)).trans I.2.1.1, (stO (by decide)).trans I.2.1.2.1, stE⟩, by omega, ⟨h4.1, ?_, by omega⟩, I.2.2.2.2⟩
  show c + cntW emB (M 92) w + (g + 1) ≤ P + 1 + 1
  omega
theorem rdI.gm (I : rdI M0 M C0 a c w P D g) {g' : Nat} (h : g' ≤ g) : rdI M0 M C0 a c w P D g' := ⟨I.1, I.2.1, I.2.2.1, ⟨I.2.2.2.1.1, by have := I.2.2.2.1.2.1; omega, I.2.2.2.1.2.2⟩, I.2.2.2.2⟩
/-- a code is noted -/
theorem rdI.note (I : rdI M0 M C0 a c w P D (g + 1)) {x : Int} {D' : Nat} (hr : 0 ≤ x ∧ x ≤ 20000000) (hx : (cop x = 0 ∧ D' = D + 1) ∨ (cop x = 1 ∧ carg x < 10 ∧ D' = D + 1) ∨ (cop x = 10 ∧ 1 ≤ D ∧ D' = D) ∨ ((2 ≤ cop x ∧ cop x ≤ 9) ∧ 2 ≤ D ∧ D' + 1 = D)) {v : Int} (hv : v = (c : Int) + 1) : rdI M0 (stM (stM M 91 c x) 81 16 v) C0 a (c + 1) w P D' g := by
  subst hv
  obtain ⟨F, ⟨e1, e2, e3⟩, hP, ⟨h1, h2, h3⟩, h4, h5⟩ := I
  have hl : P ≤ 240 := (rdI.len ⟨F, ⟨e1, e2, e3⟩, hP, ⟨h1, h2, h3⟩, h4, h5⟩).2.2
  have F1 : rdF M0 (stM M 91 c x) := F.st (sA_91 F.1 hr.1 hr.2) (by rw [ax_slA rfl]; decide +kernel)
  have e91 : ∀ j, stM (stM M 91 c x) 81 16 ((c : Int) + 1) 91 j = if j = c then x else M 91 j := fun j => by
    rw [stN (by decide), stM_at]
    by_cases q : j = c
    · rw [if_pos ⟨rfl, q⟩, if_pos q]
    · rw [if_neg (fun z => q z.2), if_neg q]
  refine ⟨F1.st (sO_81_16 F1.1 (by omega) (by omega)) (by decide +kernel), ⟨stE, ?_, ?_⟩, hP, ⟨by omega, ?_, h3⟩, fun k hk => ?_, ?_⟩
  · rw [stO (by decide), stN (by decide)]
    exact e2
  · rw [stO (by decide), stN (by decide)]
    exact e3
  · show c + 1 + cntW emB (M 92) w + g ≤ P + 1
    omega
  · rw [e91, if_neg (by omega)]
    exact h4 k hk
  · exact rdC.push (W := M 92) h5 h1 e91 ⟨hr.1, hx⟩
/-- one more waits -/
theorem rdI.wpush (I : rdI M0 M C0 a c w P D g) (hw : w < P ∨ w + 1 ≤ 260 ∧ w + 1 ≤ P) {y : Int} (hr : 0 ≤ y ∧ y ≤ 20000000) (hy : ¬ isIf y) {g' : Nat} (hg : c + cntW emB (M 92) w + (match emB y with
    | true => 1
    | false => 0) + g' ≤ P + 1) {v : Int} (hv : v = (w : Int) + 1) : rdI M0 (stM (stM M 92 w y) 81 17 v) C0 a c (w + 1) P D g' := by
  subst hv
  obtain ⟨F, ⟨e1, e2, e3⟩, hP, ⟨h1, h2, h3⟩, h4, h5⟩ := I
  have hl : P ≤ 240 := (rdI.len ⟨F, ⟨e1, e2, e3⟩, hP, ⟨h1, h2, h3⟩, h4, h5⟩).2.2
  have F1 : rdF M0 (stM M 92 w y) := F.st (sA_92 F.1 hr.1 hr.2) (by rw [ax_slA rfl]; decide +kernel)
  have e92 : ∀ j, stM (stM M 92 w y) 81 17 ((w : Int) + 1) 92 j = if j = w then y else M 92 j := fun j => by
    rw [stN (by decide), stM_at]
    by_cases q : j = w
    · rw [if_pos ⟨rfl, q⟩, if_pos q]
    · rw [if_neg (fun z => q z.2), if_neg q]
  refine ⟨F1.st (sO_81_17 F1.1 (by omega) (by omega)) (by decide +kernel), ⟨?_, stE, ?_⟩, hP, ⟨h1, ?_, by omega⟩, fun k hk => ?_, ?_⟩
  · rw [stO (by decide), stN (by decide)]
    exact e1
  · rw [stO (by decide), stN (by decide)]
    exact e3
  · have ec : cntW emB (stM (stM M 92 w y) 81 17 ((w : Int) + 1) 92) (w + 1) = cntW emB (M 92) w + (match emB y with
      | true => 1
      | false => 0) := by
      show cntW emB (stM (stM M 92 w y) 81 17 ((w : Int) + 1) 92) w + _ = _
      rw [cntW_eq emB w (fun i hi => by rw [e92, if_neg (by omega)]), e92, if_pos rfl]
      rfl
    rw [ec]
    omega
  · rw [stN (by decide), stN (by decide)]
    exact h4 k hk
  · exact rdC.wpush (W := M 92) h5 e92 hy
/-- one fewer waits -/
theorem rdI.wpop (I : rdI M0 M C0 a c (w + 1) P D g) (hy : ¬ isIf (M 92 w)) {g' : Nat} (hg : c + cntW emB (M 92) w + g' ≤ P + 1) {v : Int} (hv : v = (w : Int)) : rdI M0 (stM M 81 17 v) C0 a c w P D g' := by
  subst hv
  obtain ⟨F, ⟨e1, e2, e3⟩, hP, ⟨h1, h2, h3⟩, h4, h5⟩ := I
  have hl : P ≤ 240 := (rdI.len ⟨F, ⟨e1, e2, e3⟩, hP, ⟨h1, h2, h3⟩, h4, h5⟩).2.2
  exact ⟨F.st (sO_81_17 F.1 (by omega) (by omega)) (by decide +kernel), ⟨(stO (by decide)).trans e1, stE, (stO (by decide)).trans e3⟩, hP, ⟨h1, hg, by omega⟩, h4, h5.wpop hy⟩
end RDI
section RDS
variable {sc : List Int} {d : Nat} {Q : Vv → MM → Prop} {M0 : MM} {C0 : Nat → Int}
theorem s_wrongR {M : MM} {v1 v2 : Int} (F : rdF M0 M) (h1 : 1 ≤ v1 ∧ v1 ≤ 7) (h2 : 0 ≤ v2 ∧ v2 ≤ 240) (k0 : ∀ M1, rdF M0 M1 → ∀ x : Int, x = 0 → Q (vi x) M1) : CA FF sc YF (d + 1) m_X12_wrongAt [vr 81, vi v1, vi v2] M (cI fun r M1 => gAnd (decide (r = 0) || decide (r = 1)) (Q (vi r) M1)) := s_wrongAt h1 h2 fun x hx => gB (by rw [decide_eq_true hx]; rfl) (k0 _ (F.st (sO_81_13 F.1 (by omega) (by omega)) (by decide +kernel)) x hx)
theorem s_isDigit {M : MM} (G : ai_GI ax_T M) (k0 : ¬ (48 ≤ hereV M ∧ hereV M ≤ 57) → ∀ x : Int, x = 0 → Q (vi x) M) (k1 : (48 ≤ hereV M ∧ hereV M ≤ 57) → ∀ x : Int, x = 1 → Q (vi x) M) : CA FF sc YF (d + 2) m_X12_isDigit [vr 81] M Q := ca_X12_isDigit M (s_here G fun r hr _ => brP (fun _ => k0 (by omega) 0 rfl) fun _ => s_here G fun r4 hr4 _ => brP (fun _ => k0 (by omega) 0 rfl) fun _ => k1 (by omega) 1 rfl)
set_option maxRecDepth 20000 in
theorem s_waitTop {M : MM} {a c w P D g : Nat} (I : rdI M0 M C0 a c w P D g) (k : ∀ x : Int, (w = 0 ∧ x = -1) ∨ (∃ u, w = u + 1 ∧ x = cop (M 92 u)) → Q (vi x) M) : CA FF sc YF (d + 1) m_X12_waitTop [vr 81] M Q := by
  have e := I.2.1.2.1
  have hl := I.len
  have h3 := I.2.2.2.1.2.2
  refine ca_X12_waitTop M (brP (fun h => ?_) fun h => k _ (.inl ⟨by omega, rfl⟩))
  obtain ⟨u, hu⟩ : ∃ u, w = u + 1 := ⟨w - 1, by omega⟩
  have ew : ∀ _ : Unit, w32 (M 81 17 - 1) = (u : Int) := fun _ => by
    rw [ew32 (by omega) (by omega)]
    omega
  rw [ew ()]
  refine gI (by omega) (by omega) ?_
  have et : ((u : Int)).toNat = u := by omega
  have g := rA_92 I.1.1 u
  rw [et, etdiv g.1 (by omega) (by decide)]
  exact k _ (.inr ⟨u, hu, rfl⟩)
def pwT (n : Nat) : Int := match n with
  | 0 => 0
  | n + 1 => 10 * pwT n + 9
theorem pwT_5 : ∀ n, n ≤ 5 → 0 ≤ pwT n ∧ pwT n ≤ 99999 := by decide
theorem rn_wp {a c w D : Nat} {from' : Nat} (k0 : ∀ M1, rdF M0 M1 → ∀ x : Int, x = 0 → Q (vi x) M1) : ∀ (m i g : Nat) (M : MM), i + m = 5 → rdI M0 M C0 a c w (from' + i) D g → (0 ≤ M 81 14 ∧ M 81 14 ≤ pwT i) → (∀ (M1 : MM) (j : Nat), i ≤ j → rdI M0 M1 C0 a c w (from' + j) D (g + (j - i)) → (0 ≤ M1 81 14 ∧ M1 81 14 ≤ 99999) → M1 92 = M 92 → (i = j → ¬ (48 ≤ hereV M ∧ hereV M ≤ 57)) → ∀ x : Int, x = 1 → Q (vi x) M1) → WP FF sc YF (d + 3) m_X12_readsNumber 6 [] [some (vr 81), some (vi (from' : Int))] M Q := by
  intro m
  induction m with
  | zero =>
    intro i g M him I hn k1
    have hp := pwT_5 i (by omega)
    have hl := I.len
    have e11 := I.2.1.2.2
    refine rg_X12_readsNumber_6 _ M (s_isDigit I.1.1 (fun hd x hx => brT hx (k1 M i (Nat.le_refl _) (by rw [Nat.sub_self]; exact I) ⟨hn.1, by omega⟩ rfl (fun _ => hd) 1 rfl)) fun hd x hx => brF (by omega) ?_)
    rw [ew32 (z := (from' : Int) + 5) (by omega) (by omega)]
    exact brF (by omega) (s_wrongR I.1 (by omega) (by omega) k0)
  | succ m ih =>
    intro i g M him I hn k1
    have hp := pwT_5 i (by omega)
    have hp1 := pwT_5 (i + 1) (by omega)
    have hp2 : pwT (i + 1) = 10 * pwT i + 9 := rfl
    have hl := I.len
    have e11 := I.2.1.2.2
    refine rg_X12_readsNumber_6 _ M (s_isDigit I.1.1 (fun hd x hx => brT hx (k1 M i (Nat.le_refl _) (by rw [Nat.sub_self]; exact I) ⟨hn.1, by omega⟩ rfl (fun _ => hd) 1 rfl)) fun hd x hx => brF (by omega) ?_)
    rw [ew32 (z := (from' : Int) + 5) (by omega) (by omega)]
    refine brT (by omega) (s_here I.1.1 fun r hr hr2 => ?_)
    show WP _ _ _ _ _ _ _ _ (stM (stM M 81 14 (w32 (w32 (w32 (10 * M 81 14) + r) - 48))) 81 11 (w32 (stM M 81 14 (w32 (w32 (w32 (10 * M 81 14) + r) - 48)) 81 11 + 1))) _
    rw [ew32 (z := 10 * M 81 14) (by omega) (by omega), ew32 (z := 10 * M 81 14 + r) (by omega) (by omega), ew32 (z := 10 * M 81 14 + r - 48) (by omega) (by omega), stO (j := 14) (j' := 11) (by decide), ew32 (z := M 81 11 + 1) (by omega) (by omega)]
    have I1 := I.other (j := 14) (v := 10 * M 81 14 + r - 48) (by omega) (sO_81_14 I.1.1 (by omega) (by omega))
    have I2 := I1.place (by omega) (v := M 81 11 + 1) (by omega)
    have e14 : stM (stM M 81 14 (10 * M 81 14 + r - 48)) 81 11 (M 81 11 + 1) 81 14 = 10 * M 81 14 + r - 48 := (stO (by decide)).trans stE
    refine ih (i + 1) (g + 1) _ (by omega) I2 (by rw [e14]; omega) fun M1 j hj I3 h14 e92 _ => k1 M1 j (by omega) ?_ h14 e92 (fun q => by omega)
    have e : g + 1 + (j - (i + 1)) = g + (j - i) := by omega
    rw [← e]
    exact I3
theorem s_readsNumber {M : MM} {a c w P D g : Nat} (I : rdI M0 M C0 a c w P D g) (hd : 48 ≤ hereV M ∧ hereV M ≤ 57) (k0 : ∀ M1, rdF M0 M1 → ∀ x : Int, x = 0 → Q (vi x) M1) (k1 : ∀ (M1 : MM) (P' : Nat), P < P' → rdI M0 M1 C0 a c w P' D (g + 1) → (0 ≤ M1 81 14 ∧ M1 81 14 ≤ 99999) → M1 92 = M 92 → ∀ x : Int, x = 1 → Q (vi x) M1) : CA FF sc YF (d + 3) m_X12_readsNumber [vr 81] M Q := by
  refine ca_X12_readsNumber M ?_
  rw [I.2.1.2.2]
  have I1 := I.other (j := 14) (v := 0) (by omega) (sO_81_14 I.1.1 (by decide) (by decide))
  refine rn_wp (from' := P) k0 5 0 g _ rfl I1 (by rw [stE]; decide) fun M1 j _ I2 h14 e92 hj x hx => ?_
  have hh : hereV (stM M 81 14 0) = hereV M := by
    unfold hereV
    rw [stO (by decide), stO (by decide), stN (by decide)]
  have h0 : 0 ≠ j := fun q => hj q (by rw [hh]; exact hd)
  exact k1 M1 (P + j) (by omega) (I2.gm (by omega)) h14 e92 x hx
end RDS
