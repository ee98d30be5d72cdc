/-! PART 51: by hand: sightings of the reference -/
theorem u_X12_ghostsFor {J : MM → Prop} (S : ai_SP ax_T J ap_X12_ghostsFor) {sc : List Int} {d : Nat} {M : MM} {Q : Vv → MM → Prop} {v1 : Int} (h0 : 1 ≤ v1 ∧ v1 ≤ 10) (G : ai_GI ax_T M) (j : J M) (k0 : ∀ (r : Int) (M1 : MM), 0 ≤ r → r ≤ 10 → ai_GI ax_T M1 → ai_Fr ax_T ap_X12_ghostsFor.2.2.2.1 M M1 → Q (vi r) M1) : CA FF sc YF (d + 3) m_X12_ghostsFor [vr 81, vi v1] M Q := by
  refine S sc d (ax_rh [v1]) M _ Q rfl rfl (And.intro (ax_r) (And.intro (ax_i (by decide) rfl) (And.intro (ax_o) (And.intro (ax_o) trivial)))) ⟨(ax_e1 (by decide) h0.1 h0.2 ax_e0), ax_f0, ax_c0, ax_m0⟩ G j (fun r M1 g f hq => ?_)
  replace hq := ax_q1 hq
  obtain ⟨-, ρ1, e0, hr, kE, kF, kC, kN⟩ := hq
  have hr : r = vi (ρ1 1) := hr
  have e1 : ρ1 0 = v1 := e0 0 (by decide)
  have b0 := kE _ (List.mem_cons_self)
  have b0 : 0 ≤ ρ1 1 ∧ ρ1 1 ≤ 10 := b0.2
  rw [hr]
  exact k0 _ _ (by omega) (by omega) g f
def ssw : Nat := 38086238870188539023420999855073258184399506971227891264065034978748183313934732690542903327393578670237101226811591898709543503304331402108461733401676236711085242334470679315565884399822296636392907807335783019574467958096347750083354706417144109654413748531201824123335030771615810197080591445597871461294521732236248052608919182940913283918574063932498953624719456914156755931814594848673616218733521766455366775147375934111025019369486819037661435232475656999163804083420176994538292488474012354594708867978613747152366010834179026906414456725356799095333139435383612262804905005546700520081724704518011737837748017155407225153844470855160863814272183668147260811333239419347583904051330542584274318076089299481900766615102452908112341767567542896582722325836680203524938625637451562306402995025355858144959978949305436413845833469071739613304249471226380641363758870558031748854981403485753242869074922989183610332248395304843329942031027267527395520608844518856867868943921571673018837640485689887262054519071428656793767787230968226880084340439293559278999649962817048253229037799801558225115237118664918529394242762612646103292920280279338265207650252609578122120078822098917917743878451288381231534988865695463211511706000829670678194323403504184555036491347574482889095241717172055819672267304835092722285782753000406083598568721073529908900142685562001758121928325762034422320565320142313215696053818146041143392048452776781803939329454178254455862211647608845121264391003303611908939153185587863321631314713607694408333738405059075708874082183399496363758400166299172858389470921137143378935736282156794085013258071461508830140557785271765517289631266476509219968940781079826223805983256481517238617654947194549055818234090792753523633497438492257280743168584712628869790911712342422457762447291971295724455594122380923980925392364131696098863741551581021364110829754605340243762978438213776699308602424778749340608231163067630338491260759813007331593298793724816983158605660938466920808075825660394419516860919132329251513225337306767440038281992939887394631361207816850772281729672870953552444387721651331167385410075022273102812692994144406204482671460038534321523176630196944414785381126674225037312
def ssI (M0 M : MM) : Prop := ai_GI ax_T M ∧ ai_Fr ax_T ssw M0 M
section SMS
variable {sc : List Int} {d : Nat} {Q : Vv → MM → Prop}
theorem as_wp {M : MM} {n : Int} (hn : n ≤ 10) (k0 : ∀ x : Int, x = 0 → Q (vi x) M) (k1 : (∀ i : Nat, (i : Int) < n → 0 ≤ M 90 (2 * i + 1) ∧ M 90 (2 * i + 1) ≤ 63) → ∀ x : Int, x = 1 → Q (vi x) M) : ∀ (m : Nat) (i : Int), (n - i).toNat ≤ m → 0 ≤ i → (∀ j : Nat, (j : Int) < i → 0 ≤ M 90 (2 * j + 1) ∧ M 90 (2 * j + 1) ≤ 63) → WP FF sc YF (d + 2) m_X12_areSights 2 [] [some (vr 81), some (vi n), some (vi i)] M Q := by
  intro m
  induction m with
  | zero =>
    intro i hm hi hs
    exact rg_X12_areSights_2 n i M (brT (by omega) (k1 (fun j hj => hs j (by omega)) 1 rfl))
  | succ m ih =>
    intro i hm hi hs
    refine rg_X12_areSights_2 n i M (brP (fun h => k1 (fun j hj => hs j (by omega)) 1 rfl) fun h => ?_)
    rw [ew32 (z := 2 * i) (by omega) (by omega), ew32 (z := 2 * i + 1) (by omega) (by omega), ew32 (z := i + 1) (by omega) (by omega), ew32 (z := 2 * i - 2) (by omega) (by omega)]
    refine gI (by omega) (by omega) (s_in _ 0 63 M (brI0 (fun _ => k0 0 rfl) fun hr => gI (by omega) (by omega) (gI hr.1 (by omega) (brP (fun _ => ?_) fun _ => k0 0 rfl))))
    have hnx := ih (i + 1) (by omega) (by omega) (fun j hj => by
      rcases Nat.lt_or_ge j i.toNat with q | q
      · exact hs j (by omega)
      · have e : (2 * i + 1).toNat = 2 * j + 1 := by omega
        rw [e] at hr
        exact hr)
    exact brP (fun _ => hnx) fun _ => gI (by omega) (by omega) (gI (by omega) (by omega) (brP (fun _ => hnx) fun _ => k0 0 rfl))
theorem lb_wp2 {M0 : MM} {n i : Int} (hi : 0 ≤ i ∧ i < n) (hn : n ≤ 10) (hT : ∀ i : Nat, (i : Int) < n → 0 ≤ M0 90 (2 * i + 1) ∧ M0 90 (2 * i + 1) ≤ 63) (K : ∀ (j : Int) (M : MM), ssI M0 M → WP FF sc YF (d + 1) m_X12_laysBoth 2 [] [some (vr 81), some (vi n), some (vi (i + 1)), some (vi j)] M Q) : ∀ (m : Nat) (j : Int) (M : MM), (n - j).toNat ≤ m → 0 ≤ j → ssI M0 M → WP FF sc YF (d + 1) m_X12_laysBoth 18 [] [some (vr 81), some (vi n), some (vi i), some (vi j)] M Q := by
  intro m
  induction m with
  | zero =>
    intro j M hm hj I
    refine rg_X12_laysBoth_18 n i j M (brT (by omega) ?_)
    rw [ew32 (z := i + 1) (by omega) (by omega)]
    exact K j M I
  | succ m ih =>
    intro j M hm hj I
    refine rg_X12_laysBoth_18 n i j M (brP (fun h => ?_) fun h => ?_)
    · rw [ew32 (z := i + 1) (by omega) (by omega)]
      exact K j M I
    · rw [ew32 (z := 10 * i) (by omega) (by omega), ew32 (z := 10 * i + j) (by omega) (by omega), ew32 (z := j + 1) (by omega) (by omega), ew32 (z := 2 * j) (by omega) (by omega), ew32 (z := 2 * j + 1) (by omega) (by omega), ew32 (z := 2 * i) (by omega) (by omega)]
      have st : ∀ v : Int, 0 ≤ v → v ≤ 1 → WP FF sc YF (d + 1) m_X12_laysBoth 18 [] [some (vr 81), some (vi n), some (vi i), some (vi (j + 1))] (stM M 115 (10 * i + j).toNat v) Q := fun v h1 h2 => ih (j + 1) _ (by omega) (by omega) ⟨sA_115 I.1 h1 h2, ax_frS I.2 (by rw [ax_slA rfl]; decide +kernel)⟩
      have gB3 : ∀ {p q r : Bool} {P : Prop}, p = true → q = true → r = true → P → gAnd (p && (q && r)) P := fun hp hq hr h => gB (by rw [hp, hq, hr]; rfl) h
      have e90 : M 90 (2 * j + 1).toNat = M0 90 (2 * j.toNat + 1) := by
        rw [show (2 * j + 1).toNat = 2 * j.toNat + 1 by omega]
        exact ax_frA I.2 rfl (by decide +kernel) _
      have ht := hT j.toNat (by omega)
      rw [e90]
      refine brP (fun _ => gB3 (decide_eq_true (by omega)) (decide_eq_true (by omega)) (by decide) (st 0 (by decide) (by decide))) fun _ => gI (by omega) (by omega) (gI ht.1 (by omega) (gI (by omega) (by omega) (gI (by omega) (by omega) (brP (fun _ => gB3 (decide_eq_true (by omega)) (decide_eq_true (by omega)) (by decide) (st 0 (by decide) (by decide))) fun _ => gB3 (decide_eq_true (by omega)) (decide_eq_true (by omega)) (by decide) (st 1 (by decide) (by decide))))))
theorem lb_wp {M0 : MM} (J : axJ M0) {n : Int} (hn : n ≤ 10) (hT : ∀ i : Nat, (i : Int) < n → 0 ≤ M0 90 (2 * i + 1) ∧ M0 90 (2 * i + 1) ≤ 63) (k : ∀ M, ssI M0 M → Q (vi 0) M) : ∀ (m : Nat) (i : Int) (o3 : Option Vv) (M : MM), (n - i).toNat ≤ m → 0 ≤ i → ssI M0 M → WP FF sc YF (d + 6) m_X12_laysBoth 2 [] [some (vr 81), some (vi n), some (vi i), o3] M Q := by
  intro m
  induction m with
  | zero =>
    intro i o3 M hm hi I
    exact rg_X12_laysBoth_2 n i o3 M (brT (by omega) (k M I))
  | succ m ih =>
    intro i o3 M hm hi I
    refine rg_X12_laysBoth_2 n i o3 M (brP (fun _ => k M I) fun h => ?_)
    rw [ew32 (z := 2 * i) (by omega) (by omega), ew32 (z := 2 * i + 1) (by omega) (by omega)]
    refine gI (by omega) (by omega) (s_laysCosts I.1 (ax_j axH I.2 (by decide +kernel) J) fun M1 G1 h1 => ?_)
    have I1 : ssI M0 M1 := ⟨G1, fun c j hs => by
      have hc : c ≠ 114 := fun q => by
        subst q
        rw [ax_slA rfl] at hs
        exact absurd hs (by decide +kernel)
      rw [h1 c hc, I.2 c j hs]⟩
    exact lb_wp2 ⟨hi, by omega⟩ hn hT (fun j M I => ih (i + 1) _ M (by omega) (by omega) I) n.toNat 0 M1 (by omega) (by omega) I1
theorem s_hasSpotM {h : Int} {M : MM} (k0 : ∀ x : Int, x = 0 → Q (vi x) M) (k1 : (0 ≤ h ∧ h ≤ 9) → 0 ≤ M 86 h.toNat → ∀ x : Int, x = 1 → Q (vi x) M) : CA FF sc YF (d + 2) m_X12_hasSpot [vr 81, vi h] M Q := ca_X12_hasSpot h M (s_isTen h M (brI0 (fun _ => k0 0 rfl) fun hh => gI hh.1 (by omega) (brP (fun _ => k0 0 rfl) fun h0 => k1 hh (by omega) 1 rfl)))
theorem fw_wp2 {M0 : MM} {n : Int} (k : ∀ r M, ssI M0 M → Q (vi r) M) : ∀ (m : Nat) (set h : Int) (M : MM), (10 - h).toNat ≤ m → 0 ≤ h → ssI M0 M → WP FF sc YF (d + 3) m_X12_fromWhere 33 [] [some (vr 81), some (vi n), some (vi set), some (vi h)] M Q := by
  intro m
  induction m with
  | zero =>
    intro set h M hm hh I
    exact rg_X12_fromWhere_33 n set h M (brT (by omega) (k set M I))
  | succ m ih =>
    intro set h M hm hh I
    refine rg_X12_fromWhere_33 n set h M (brP (fun _ => k set M I) fun hlt => ?_)
    rw [ew32 (z := h + 1) (by omega) (by omega)]
    have hnx : ∀ s : Int, WP FF sc YF (d + 3) m_X12_fromWhere 33 [] [some (vr 81), some (vi n), some (vi s), some (vi (h + 1))] M Q := fun s => ih s (h + 1) M (by omega) (by omega) I
    have g := rA_86 I.1 h.toNat
    exact s_hasSpotM (fun x hx => brT hx (hnx _)) fun _ h0 x hx => brF (by omega) (gI hh (by omega) (gI (by omega) (by omega) (brP (fun _ => hnx _) fun _ => hnx _)))
theorem fw_wp {M0 : MM} (J : axJ M0) {n : Int} (hn : 1 ≤ n ∧ n ≤ 10) (k : ∀ r M, ssI M0 M → Q (vi r) M) : ∀ (m : Nat) (i : Int) (o3 : Option Vv) (M : MM), (n - i).toNat ≤ m → 0 ≤ i → i ≤ n → ssI M0 M → WP FF sc YF (d + 6) m_X12_fromWhere 2 [] [some (vr 81), some (vi n), some (vi i), o3] M Q := by
  have hend : ∀ (i : Int) (o3 : Option Vv) (M : MM), ssI M0 M → CA FF sc YF (d + 5) m_X12_laysCosts [vr 81, vi (M 90 1), vi 0] M (fun _ M1 => WP FF sc YF (d + 6) m_X12_fromWhere 33 [] [some (vr 81), some (vi n), some (vi 0), some (vi 0)] M1 Q) := fun i o3 M I => s_laysCosts I.1 (ax_j axH I.2 (by decide +kernel) J) fun M1 G1 h1 => by
    have I1 : ssI M0 M1 := ⟨G1, fun c j hs => by
      have hc : c ≠ 114 := fun q => by
        subst q
        rw [ax_slA rfl] at hs
        exact absurd hs (by decide +kernel)
      rw [h1 c hc, I.2 c j hs]⟩
    exact fw_wp2 (d := d + 3) k 10 0 0 M1 (by omega) (by omega) I1
  intro m
  induction m with
  | zero =>
    intro i o3 M hm hi hin I
    refine rg_X12_fromWhere_2 n i o3 M ?_
    rw [ew32 (z := i + 1) (by omega) (by omega)]
    exact brT (by omega) (hend i o3 M I)
  | succ m ih =>
    intro i o3 M hm hi hin I
    refine rg_X12_fromWhere_2 n i o3 M ?_
    rw [ew32 (z := i + 1) (by omega) (by omega), ew32 (z := 10 * i) (by omega) (by omega), ew32 (z := 10 * i + i) (by omega) (by omega), ew32 (z := 10 * i + i + 1) (by omega) (by omega)]
    exact brP (fun _ => hend i o3 M I) fun hlt => gI (by omega) (by omega) (brP (fun _ => ih (i + 1) o3 M (by omega) (by omega) (by omega) I) fun _ => k _ M I)
theorem sm_sightings {n what : Int} {M : MM} (G : axG M) (k : ∀ (r : Int) (M1 : MM), axG M1 → LoX M M1 → M1 81 61 = M 81 61 → szM ((1 ≤ n ∧ n ≤ 10) ∧ (0 ≤ what ∧ what ≤ 1) ∧ 2 * n ≤ M 81 10) M M1 → Keep kpM M M1 → Q (vi r) M1) : CA FF sc YF (d + 7) m_X12_sightings [vr 81, vi n, vi what] M Q := by
  obtain ⟨g, j, w⟩ := G
  refine ca_X12_sightings n what M (s_in n 1 10 M (brI0 (fun h => k _ M ⟨g, j, w⟩ LoX.rf rfl (.inl ⟨fun q => h q.1, rfl⟩) Keep.rf) fun h1 => s_in what 0 1 M (brI0 (fun h => k _ M ⟨g, j, w⟩ LoX.rf rfl (.inl ⟨fun q => h q.2.1, rfl⟩) Keep.rf) fun h2 => ?_)))
  rw [ew32 (z := 2 * n) (by omega) (by omega)]
  refine brP (fun h3 => ?_) fun h3 => k _ M ⟨g, j, w⟩ LoX.rf rfl (.inl ⟨fun q => h3 q.2.2, rfl⟩) Keep.rf
  have G1 : ai_GI ax_T (stM M 81 10 0) := sO_81_10 g (by decide) (by decide)
  have l1 : LoX M (stM M 81 10 0) := LoX.rf.st (by decide)
  have e1 : stM M 81 10 0 81 10 = 0 := stE
  have e61 : stM M 81 10 0 81 61 = M 81 61 := stO (by decide)
  have J1 : axJ (stM M 81 10 0) := axJ_eq ⟨stO (by decide), rfl, rfl, rfl, rfl, rfl⟩ j
  have kp1 : Keep kpM M (stM M 81 10 0) := Keep.rf.st (by decide +kernel)
  generalize stM M 81 10 0 = M2 at G1 l1 e1 e61 J1 kp1
  have fin : ∀ (r : Int) (M1 : MM), ssI M2 M1 → Q (vi r) M1 := fun r M1 I => by
    have l : LoX M M1 := l1.tr (loX_fr I.2 (by decide +kernel))
    exact k r M1 ⟨I.1, ax_j axH I.2 (by decide +kernel) J1, l.w w⟩ l ((ax_frO I.2 rfl (by decide +kernel)).trans e61) (.inr ⟨⟨h1, h2, h3⟩, (ax_frO I.2 rfl (by decide +kernel)).trans e1⟩) (kp1.tr (Keep.of_fr I.2 (by decide +kernel)))
  have I2 : ssI M2 M2 := ⟨G1, ax_fr0⟩
  refine ca_X12_areSights n M2 (as_wp h1.2 (fun x hx => brF (by omega) (fin _ M2 I2)) (fun hT x hx => brT (by omega) ?_) n.toNat 0 (by omega) (by omega) (fun j hj => by omega))
  refine ca_X12_laysBoth n M2 (lb_wp (M0 := M2) J1 h1.2 hT (fun M7 I7 => ?_) n.toNat 0 none M2 (by omega) (by omega) I2)
  refine brP (fun _ => ?_) fun _ => ?_
  · exact ca_X12_fromWhere n M7 (fw_wp (Q := cI fun r9 M8 => Q (vi r9) M8) (M0 := M2) J1 h1 (fun r M8 I8 => fin r M8 I8) n.toNat 0 none M7 (by omega) (by omega) (by omega) I7)
  · exact u_X12_ghostsFor (ah_X12_ghostsFor axH) h1 I7.1 (ax_j axH I7.2 (by decide +kernel) J1) fun r M8 _ _ g8 f8 => fin r M8 ⟨g8, ax_frT I7.2 (ax_frW f8 (by decide +kernel))⟩
end SMS
