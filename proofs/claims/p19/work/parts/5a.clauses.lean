/-! PART 5a: by hand: THE LAW is read and kept (reference) -/
def lww : Nat := 33751521821438561186740848152857420362583805003332836835784254209281189432489743888773292404412608039986129533798793397026886519589128076723116532985795533801503140085142321569282498772943846455169178523076060763154279794012077505860520155400942848183040099650829399658699077136739214850017478264604580452238846910920539922189160794037124676070601129283704030803300616031638475355416910059299521088268881720016709073603507127248600189847168066908912030845475213265270141730091205248348347773351275329142540359816831943471299340219109144043590643962674581703730349663812929803933146509889889290168143253140895446941718832372201594390361570812902530257302313400658433996955880975272701466770342818840139090319858402884304912710402856378179037492021930691251571849151130764466135928900032632204787947320163889123635198611679996766043670432175036863293454547830464862579402461114108291351098703926739966589842119074537409896516172402698021598886311835333438739417825856374402575051614139270936914264760050879760060933176988251567986227380032680700303451264730319035399294958132925431390752136268510677347545539830293590980219653357332768151566894002955949630968599526152503037938463122728018449037433881587879329676820570949336237822681138742054772361186127858830024618116910939737246672360293955687503715870970889900305403062396833685060528831049602900026952891008375000012686337364922029032384124266713742716209593134081340441890634223465995251191281211831582335683880794044267648808525757678615589531263748459463454819093694741731077000980665269255324220163198181230340129425606277497324698039036200315281310036922096038649881713366820516669301010456988386011138795828963292421991727883909159037660381352458377243877618842815661888224129699822954468284093234134784269741603243189822164208626455410088135772634540196130252184402613205001067060160102400
/-- the clauses that are read: each one's codes are well formed -/
def saG (C L F H T : Nat → Int) (m c : Nat) : Prop := ∀ q, q < m → (∃ a b : Nat, H q = a ∧ T q = b ∧ b ≤ c ∧ cvG C a b) ∧ (L q ≠ 109 → ∃ a b : Nat, F q = a ∧ H q = b ∧ b ≤ c ∧ cvG C a b)
theorem saG.more {C L F H T C' L' F' H' T' : Nat → Int} {m c c' : Nat} (h : saG C L F H T m c) (hc : c ≤ c') (eC : ∀ k, k < c → C' k = C k) (eL : ∀ q, q < m → L' q = L q) (eF : ∀ q, q < m → F' q = F q) (eH : ∀ q, q < m → H' q = H q) (eT : ∀ q, q < m → T' q = T q) : saG C' L' F' H' T' m c' := fun q hq => by
  obtain ⟨⟨a, b, h1, h2, h3, h4⟩, h5⟩ := h q hq
  rw [eL q hq, eF q hq, eH q hq, eT q hq]
  refine ⟨⟨a, b, h1, h2, by omega, cvG_eq h4 fun k hk => eC k (by omega)⟩, fun hn => ?_⟩
  obtain ⟨a, b, h1, h2, h3, h4⟩ := h5 hn
  exact ⟨a, b, h1, h2, by omega, cvG_eq h4 fun k hk => eC k (by omega)⟩
theorem saG.one {C L F H T : Nat → Int} {m c a b : Nat} (h : saG C L F H T m c) (h1 : H m = b) (h2 : T m = c) (h3 : cvG C b c) (hF : F m = a) (hb : b ≤ c) (h4 : L m ≠ 109 → cvG C a b) : saG C L F H T (m + 1) c := fun q hq => by
  by_cases e : q = m
  · subst e
    exact ⟨⟨b, c, h1, h2, Nat.le_refl _, h3⟩, fun hn => ⟨a, b, hF, h1, hb, h4 hn⟩⟩
  · exact h q (by omega)
def lwI (M0 M : MM) (m c P : Nat) : Prop := ai_GI ax_T M ∧ ai_Fr ax_T lww M0 M ∧ (M 81 18 = m ∧ M 81 16 = c ∧ M 81 11 = P) ∧ ((P : Int) ≤ M0 81 12 ∧ c ≤ P ∧ m ≤ 16) ∧ saG (M 91) (M 93) (M 94) (M 95) (M 96) m c
def lwF (M0 M : MM) : Prop := ai_GI ax_T M ∧ ai_Fr ax_T lww M0 M
theorem lwF.rd {M0 M M1 : MM} (h : lwF M0 M) (f : rdF M M1) : lwF M0 M1 := ⟨f.1, ax_frT h.2 (ax_frW f.2 (by decide +kernel))⟩
theorem lwF.st {M0 M : MM} (I : lwF M0 M) {k j : Nat} {v : Int} (G : ai_GI ax_T (stM M k j v)) (hb : lww.testBit (ai_sl ax_T k j) = true) : lwF M0 (stM M k j v) := ⟨G, ax_frS I.2 hb⟩
theorem lwF.sA {M0 M : MM} (I : lwF M0 M) {k j : Nat} {v : Int} (hu : ai_un ax_T k = true) (G : ai_GI ax_T (stM M k j v)) (hb : lww.testBit (64 * k) = true) : lwF M0 (stM M k j v) := ⟨G, ax_frS I.2 (by rw [ax_slA hu]; exact hb)⟩
section RD6
variable {sc : List Int} {d : Nat} {Q : Vv → MM → Prop} {M0 M : MM}
theorem s_wrongL {v1 v2 : Int} (F : lwF M0 M) (h1 : 1 ≤ v1 ∧ v1 ≤ 7) (h2 : 0 ≤ v2 ∧ v2 ≤ 240) (k0 : ∀ M1, lwF M0 M1 → ∀ x : Int, x = 0 → Q (vi x) M1) : CA FF sc YF (d + 1) m_X12_wrongAt [vr 81, vi v1, vi v2] M (cI fun r M1 => gAnd (decide (r = 0) || decide (r = 1)) (Q (vi r) M1)) := s_wrongAt h1 h2 fun x hx => gB (by rw [decide_eq_true hx]; rfl) (k0 _ (F.st (sO_81_13 F.1 (by omega) (by omega)) (by decide +kernel)) x hx)
theorem rd_start {c P : Nat} (G : ai_GI ax_T M) (e16 : M 81 16 = c) (e17 : M 81 17 = 0) (e11 : M 81 11 = P) (hP : (P : Int) ≤ M 81 12) (hc : c ≤ P) : rdI M M (M 91) c c 0 P 0 (0 + 1) := ⟨⟨G, ax_fr0⟩, ⟨e16, e17, e11⟩, hP, ⟨Nat.le_refl _, by show c + 0 + 1 ≤ P + 1; omega, by omega⟩, fun _ _ => rfl, rdC.zero _ _ _⟩
/-- the arrays of what is read -/
theorem rd_same {M1 : MM} (F : rdF M M1) : M1 93 = M 93 ∧ M1 94 = M 94 ∧ M1 95 = M 95 ∧ M1 96 = M 96 ∧ M1 81 18 = M 81 18 ∧ M1 81 12 = M 81 12 := ⟨funext fun j => ax_frA F.2 rfl (by decide +kernel) j, funext fun j => ax_frA F.2 rfl (by decide +kernel) j, funext fun j => ax_frA F.2 rfl (by decide +kernel) j, funext fun j => ax_frA F.2 rfl (by decide +kernel) j, ax_frO F.2 rfl (by decide +kernel), ax_frO F.2 rfl (by decide +kernel)⟩
theorem cl_55 {r2 : Int} {m c a P P0 : Nat} (F : lwF M0 M) (hm : m < 16) (e18 : M 81 18 = m) (e16 : M 81 16 = c) (e17 : M 81 17 = 0) (e11 : M 81 11 = P) (hP0 : P0 < P) (hP : (P : Int) ≤ M0 81 12) (hac : a ≤ c) (hc : c ≤ P) (eL : M 93 m = r2) (eF : M 94 m = a) (hs : saG (M 91) (M 93) (M 94) (M 95) (M 96) m a) (hg : r2 ≠ 109 → cvG (M 91) a c) (k0 : ∀ M1, lwF M0 M1 → ∀ x : Int, x = 0 → Q (vi x) M1) (k1 : ∀ (M1 : MM) (c' P' : Nat), P0 < P' → lwI M0 M1 (m + 1) c' P' → ∀ x : Int, x = 1 → Q (vi x) M1) : WP FF sc YF (d + 8) m_X12_readsClause 55 [] [some (vr 81), some (vi r2)] M Q := by
  have el : M 81 12 = M0 81 12 := ax_frO F.2 rfl (by decide +kernel)
  have hl := rO_81_12 F.1
  have et : ((m : Int)).toNat = m := by omega
  refine rg_X12_readsClause_55 _ M (gI (by omega) (by omega) ?_)
  rw [e18, e16, et]
  have F1 : lwF M0 (stM M 95 m c) := F.sA rfl (sA_95 F.1 (by omega) (by omega)) (by decide +kernel)
  have b81 : ∀ j, stM M 95 m c 81 j = M 81 j := fun j => stN (by decide)
  have I1 := rd_start (c := c) (P := P) F1.1 ((b81 16).trans e16) ((b81 17).trans e17) ((b81 11).trans e11) (by rw [b81 12]; omega) hc
  refine s_readsCondition I1 (fun M3 F3 y hy => brF (by omega) (k0 M3 (F1.rd F3) 0 rfl)) fun M3 c3 P3 hP3 I3 y hy => brT (by omega) ?_
  have F3 := F1.rd I3.1
  obtain ⟨s93, s94, s95, s96, s18, s12⟩ := rd_same I3.1
  have e18' : M3 81 18 = m := s18.trans ((b81 18).trans e18)
  have e16' : M3 81 16 = c3 := I3.2.1.1
  have hc3 := I3.2.2.2.1
  have hc3' : c3 ≤ P3 := by have := hc3.2.1; omega
  have hl3 := I3.len
  have hP3' := I3.2.2.1
  rw [b81 12] at hP3'
  have hseg := I3.2.2.2.2.2.seg hc3.1 (by omega)
  rw [e18', e16', et]
  refine gI (by omega) (by omega) ?_
  rw [stN (k := 96) (by decide), e18', ew32 (z := (m : Int) + 1) (by omega) (by omega)]
  have F4 : lwF M0 (stM M3 96 m c3) := F3.sA rfl (sA_96 F3.1 (by omega) (by omega)) (by decide +kernel)
  have F5 : lwF M0 (stM (stM M3 96 m c3) 81 18 ((m : Int) + 1)) := F4.st (sO_81_18 F4.1 (by omega) (by omega)) (by decide +kernel)
  refine k1 _ c3 P3 (by omega) ⟨F5.1, F5.2, ⟨stE, ?_, ?_⟩, ⟨by omega, hc3', by omega⟩, ?_⟩ 1 rfl
  · rw [stO (by decide), stN (by decide)]
    exact e16'
  · rw [stO (by decide), stN (by decide)]
    exact I3.2.1.2.2
  · have e91 : ∀ k, k < c → stM (stM M3 96 m c3) 81 18 ((m : Int) + 1) 91 k = M 91 k := fun k hk => by
      rw [stN (by decide), stN (by decide), I3.2.2.2.2.1 k hk, stN (by decide)]
    have e93 : ∀ k, stM (stM M3 96 m c3) 81 18 ((m : Int) + 1) 93 k = M 93 k := fun k => by
      rw [stN (by decide), stN (by decide), s93, stN (by decide)]
    have e94 : ∀ k, stM (stM M3 96 m c3) 81 18 ((m : Int) + 1) 94 k = M 94 k := fun k => by
      rw [stN (by decide), stN (by decide), s94, stN (by decide)]
    have e95 : ∀ k, stM (stM M3 96 m c3) 81 18 ((m : Int) + 1) 95 k = stM M 95 m c 95 k := fun k => by
      rw [stN (by decide), stN (by decide), s95]
    have e96 : ∀ k, stM (stM M3 96 m c3) 81 18 ((m : Int) + 1) 96 k = stM M 96 m c3 96 k := fun k => by
      rw [stN (by decide), stM_at, stM_at, s96, stN (by decide)]
    refine saG.one (a := a) (b := c) (hs.more (c' := c3) (by omega) (fun k hk => e91 k (by omega)) (fun q _ => e93 q) (fun q _ => e94 q) (fun q hq => ?_) (fun q hq => ?_)) ?_ ?_ ?_ ((e94 m).trans eF) hc3.1 fun hn => ?_
    · rw [e95, stO (by omega)]
    · rw [e96, stO (by omega)]
    · rw [e95, stE]
    · rw [e96, stE]
    · exact cvG_eq hseg fun k _ => by rw [stN (by decide), stN (by decide)]
    · rw [e93, eL] at hn
      exact cvG_eq (hg hn) e91
theorem s_readsClause {m c P : Nat} (I : lwI M0 M m c P) (k0 : ∀ M1, lwF M0 M1 → ∀ x : Int, x = 0 → Q (vi x) M1) (k1 : ∀ (M1 : MM) (c' P' : Nat), P < P' → lwI M0 M1 (m + 1) c' P' → ∀ x : Int, x = 1 → Q (vi x) M1) : CA FF sc YF (d + 8) m_X12_readsClause [vr 81] M Q := by
  obtain ⟨G, f, ⟨e18, e16, e11⟩, ⟨hP, hc, hm⟩, hs⟩ := I
  have F : lwF M0 M := ⟨G, f⟩
  have el : M 81 12 = M0 81 12 := ax_frO f rfl (by decide +kernel)
  have hl := rO_81_12 G
  have et : ((m : Int)).toNat = m := by omega
  refine ca_X12_readsClause M (s_here G fun r hr hr2 => s_isClause fun r4 hr4 => brP (fun h4 => brP (fun h5 => ?_) fun h5 => s_wrongL F (by omega) (by omega) k0) fun h4 => s_wrongL F (by omega) (by omega) k0)
  refine gI (by omega) (by omega) ?_
  rw [e18, et, stN (k := 93) (by decide), e11, ew32 (z := (P : Int) + 1) (by omega) (by omega)]
  have b : stM (stM M 93 m r) 81 11 ((P : Int) + 1) 81 18 = m := by
    rw [stO (by decide), stN (by decide)]
    exact e18
  have b16 : stM (stM M 93 m r) 81 11 ((P : Int) + 1) 81 16 = c := by
    rw [stO (by decide), stN (by decide)]
    exact e16
  rw [b, et, b16]
  refine gI (by omega) (by omega) ?_
  have F1 : lwF M0 (stM M 93 m r) := F.sA rfl (sA_93 F.1 (by omega) (by omega)) (by decide +kernel)
  have F2 := F1.st (k := 81) (j := 11) (v := (P : Int) + 1) (sO_81_11 F1.1 (by omega) (by omega)) (by decide +kernel)
  have F3 : lwF M0 (stM (stM (stM M 93 m r) 81 11 ((P : Int) + 1)) 94 m c) := F2.sA rfl (sA_94 F2.1 (by omega) (by omega)) (by decide +kernel)
  have F4 := F3.st (k := 81) (j := 15) (v := 0) (sO_81_15 F3.1 (by decide) (by decide)) (by decide +kernel)
  have F5 := F4.st (k := 81) (j := 17) (v := 0) (sO_81_17 F4.1 (by decide) (by decide)) (by decide +kernel)
  have a17 : stM (stM (stM (stM (stM M 93 m r) 81 11 ((P : Int) + 1)) 94 m c) 81 15 0) 81 17 0 81 17 = 0 := stE
  have a18 : stM (stM (stM (stM (stM M 93 m r) 81 11 ((P : Int) + 1)) 94 m c) 81 15 0) 81 17 0 81 18 = m := by
    rw [stO (by decide), stO (by decide), stN (by decide)]
    exact b
  have a16 : stM (stM (stM (stM (stM M 93 m r) 81 11 ((P : Int) + 1)) 94 m c) 81 15 0) 81 17 0 81 16 = c := by
    rw [stO (by decide), stO (by decide), stN (by decide)]
    exact b16
  have a11 : stM (stM (stM (stM (stM M 93 m r) 81 11 ((P : Int) + 1)) 94 m c) 81 15 0) 81 17 0 81 11 = ((P + 1 : Nat) : Int) := by
    rw [stO (by decide), stO (by decide), stN (by decide), stE]
    rfl
  have a93 : ∀ q, stM (stM (stM (stM (stM M 93 m r) 81 11 ((P : Int) + 1)) 94 m c) 81 15 0) 81 17 0 93 q = stM M 93 m r 93 q := fun q => by
    rw [stN (by decide), stN (by decide), stN (by decide), stN (by decide)]
  have a94 : ∀ q, stM (stM (stM (stM (stM M 93 m r) 81 11 ((P : Int) + 1)) 94 m c) 81 15 0) 81 17 0 94 q = stM M 94 m c 94 q := fun q => by
    rw [stN (by decide), stN (by decide)]
    by_cases h : q = m
    · rw [h, stE, stE]
    · rw [stO h, stO h, stN (by decide), stN (by decide)]
  have aN : ∀ k, k ≠ 93 → k ≠ 94 → k ≠ 81 → ∀ q, stM (stM (stM (stM (stM M 93 m r) 81 11 ((P : Int) + 1)) 94 m c) 81 15 0) 81 17 0 k q = M k q := fun k h1 h2 h3 q => by
    rw [stN h3, stN h3, stN h2, stN h3, stN h1]
  generalize stM (stM (stM (stM (stM M 93 m r) 81 11 ((P : Int) + 1)) 94 m c) 81 15 0) 81 17 0 = M2 at F5 a17 a18 a16 a11 a93 a94 aN
  have hs2 : saG (M2 91) (M2 93) (M2 94) (M2 95) (M2 96) m c := hs.more (Nat.le_refl _) (fun k _ => aN 91 (by decide) (by decide) (by decide) k) (fun q hq => by rw [a93, stO (by omega)]) (fun q hq => by rw [a94, stO (by omega)]) (fun q _ => aN 95 (by decide) (by decide) (by decide) q) (fun q _ => aN 96 (by decide) (by decide) (by decide) q)
  have eL : M2 93 m = r := by rw [a93, stE]
  have eF : M2 94 m = c := by rw [a94, stE]
  have el2 : M2 81 12 = M0 81 12 := ax_frO F5.2 rfl (by decide +kernel)
  refine brP (fun h6 => ?_) fun h6 => ?_
  · exact cl_55 (a := c) F5 (by omega) a18 a16 a17 a11 (by omega) (by omega) (Nat.le_refl _) (by omega) eL eF hs2 (fun q => absurd h6 q) k0 k1
  · have I5 := rd_start (c := c) (P := P + 1) F5.1 a16 a17 a11 (by omega) (by omega)
    refine s_readsSum I5 (fun i hi => by omega) (fun M3 F3 y hy => brF (by omega) (k0 M3 (F5.rd F3) 0 rfl)) fun M3 c3 P3 hP3 I3 _ y hy => brT (by omega) ?_
    obtain ⟨s93, s94, s95, s96, s18, s12⟩ := rd_same I3.1
    have hc3 := I3.2.2.2.1
    have hP3' := I3.2.2.1
    have hl3 := I3.len
    have hc3' : c3 ≤ P3 := by have := hc3.2.1; omega
    have hseg := I3.2.2.2.2.2.seg hc3.1 (by omega)
    refine cl_55 (a := c) (F5.rd I3.1) (by omega) (s18.trans a18) I3.2.1.1 I3.2.1.2.1 I3.2.1.2.2 (by omega) (by omega) hc3.1 hc3' (by rw [s93]; exact eL) (by rw [s94]; exact eF) (hs2.more (Nat.le_refl _) (fun k hk => I3.2.2.2.2.1 k hk) (fun q _ => by rw [s93]) (fun q _ => by rw [s94]) (fun q _ => by rw [s95]) (fun q _ => by rw [s96])) (fun _ => hseg) k0 k1
theorem s_takes {v : Int} {m c P : Nat} (hv : 0 ≤ v) (I : lwI M0 M m c P) (k0 : ∀ M1, lwF M0 M1 → ∀ x : Int, x = 0 → Q (vi x) M1) (k1 : ∀ M1 : MM, lwI M0 M1 m c (P + 1) → ∀ x : Int, x = 1 → Q (vi x) M1) : CA FF sc YF (d + 2) m_X12_takes [vr 81, vi v] M Q := by
  obtain ⟨G, f, ⟨e18, e16, e11⟩, ⟨hP, hc, hm⟩, hs⟩ := I
  have F : lwF M0 M := ⟨G, f⟩
  have el : M 81 12 = M0 81 12 := ax_frO f rfl (by decide +kernel)
  have hl := rO_81_12 G
  refine ca_X12_takes v M (s_here G fun r hr hr2 => brP (fun h => ?_) fun h => s_wrongL F (by omega) (by omega) k0)
  rw [e11, ew32 (z := (P : Int) + 1) (by omega) (by omega)]
  have F2 := F.st (k := 81) (j := 11) (v := (P : Int) + 1) (sO_81_11 F.1 (by omega) (by omega)) (by decide +kernel)
  exact k1 _ ⟨F2.1, F2.2, ⟨(stO (by decide)).trans e18, (stO (by decide)).trans e16, stE⟩, ⟨by omega, by omega, hm⟩, hs⟩ 1 rfl
end RD6
