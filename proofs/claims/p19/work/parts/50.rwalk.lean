/-! PART 50: by hand: walk of the reference -/
def rww : Nat := 2840601466637477240961660278813065586829612120901670177684499659151362633826645828257550227644766228673339809711214239266735700058433579410543541534514337983482213092627190335992601132688001909737058981513158891645545597776044595356067104103550244850587905996306783438254174023274271383278489575540465675852643573996305033062785622453658584531949357136083323577908017136347573936473706058318489649186399984594271272490041295199316966965865242432877161735983402004430500942323691728844491226204397970030430085741924664340290647149653243980041673956225446816839414354190485307437089332370493990516797401512444154299936016854214538624568882384932869122631440439250156063901493272819260506415572539821488387625664090963114448808105385499246154824061632587187486206671466046827739017119164750829345491634418988299407045067535800847613080995736641120230380455142274598477085496394874996199080420192844224792780066999442127789192147967434307210962582951948847289516689406035151303457947011058504182015601150934217806076490495378406197576862778719711487703417890046711147084145986569174915710635257134261774468310381516447691150104692606335451264637642329188367113621688442775498758392349373034937033786195613485887467027372323722804963516565183462229210108750339197887445996629872316690478822197338068101463857080832352896341590764948608853994657818063131973694421185663245636403025747681994106381397185979343607361284445193046665406461406287297791331464830739966103263396763941534755190708992625668885254685237846593106647194407194768623092739365703572511239704413040307852146738084096488929722147773210783649917930308907653866915240016144535401236444886540530875728756971734340307898039596867281433352966686923127807147187796010521318345748904391196919568452600289763006977801072519311635652547321284025998251224585682135954581435506035912813310750322364568424598050698236053619405753040461277150528236282816562888159972286643443147046602529733504494617819831898702140230707667926052770487142659293401612645257235195944568889412388204422997204779933889132400794927104
/-- while the reference reads a WALK -/
def rwI (M0 M : MM) : Prop := ai_GI ax_T M ∧ ai_Fr ax_T rww M0 M ∧ (∀ i : Nat, (i : Int) < M 81 38 → M 106 i ≤ M 81 37 ∧ 1 ≤ M 107 i) ∧ M 81 11 ≤ M 81 12
def hereV (M : MM) : Int := if M 81 12 ≤ M 81 11 then -1 else bAnd (M 90 (M 81 11).toNat) 255
theorem hereV_r (M : MM) : (hereV M = -1 ∧ M 81 12 ≤ M 81 11) ∨ ((0 ≤ hereV M ∧ hereV M ≤ 255) ∧ M 81 11 < M 81 12) := by
  unfold hereV
  split
  · exact .inl ⟨rfl, by assumption⟩
  · have := fbAnd (M 90 (M 81 11).toNat) (b := 255) (hi := 255) (by decide) (by decide) (by decide)
    exact .inr ⟨this, by omega⟩
theorem mulc {a b : Int} (h1 : 0 ≤ a) (h2 : a ≤ 60) (h3 : 1 ≤ b) (h4 : b ≤ 9) : a ≤ a * b ∧ a * b ≤ 540 := by
  obtain rfl | rfl | rfl | rfl | rfl | rfl | rfl | rfl | rfl : b = 1 ∨ b = 2 ∨ b = 3 ∨ b = 4 ∨ b = 5 ∨ b = 6 ∨ b = 7 ∨ b = 8 ∨ b = 9 := by omega
  all_goals omega
/-- a store that the reading of a WALK doesn't look at -/
theorem rwI.st {M0 M : MM} (I : rwI M0 M) {k j : Nat} {v : Int} (G : ai_GI ax_T (stM M k j v)) (hb : rww.testBit (ai_sl ax_T k j) = true) (h1 : ¬ (k = 81 ∧ (j = 11 ∨ j = 12 ∨ j = 37 ∨ j = 38))) (h2 : k ≠ 106 ∧ k ≠ 107) : rwI M0 (stM M k j v) := ⟨G, ax_frS I.2.1 hb, fun i hi => by
  have e1 : stM M k j v 81 38 = M 81 38 := if_neg (fun q => h1 ⟨q.1.symm, by omega⟩)
  have e2 : stM M k j v 81 37 = M 81 37 := if_neg (fun q => h1 ⟨q.1.symm, by omega⟩)
  have e3 : stM M k j v 106 i = M 106 i := stN (fun q => h2.1 q.symm)
  have e4 : stM M k j v 107 i = M 107 i := stN (fun q => h2.2 q.symm)
  rw [e1] at hi
  rw [e2, e3, e4]
  exact I.2.2.1 i hi, by
  have e1 : stM M k j v 81 11 = M 81 11 := if_neg (fun q => h1 ⟨q.1.symm, by omega⟩)
  have e2 : stM M k j v 81 12 = M 81 12 := if_neg (fun q => h1 ⟨q.1.symm, by omega⟩)
  rw [e1, e2]
  exact I.2.2.2⟩
/-- place0 goes on -/
theorem rwI.pl {M0 M : MM} (I : rwI M0 M) {v : Int} (h0 : 0 ≤ v) (h1 : v ≤ M 81 12) : rwI M0 (stM M 81 11 v) := by
  have g := rO_81_12 I.1
  refine ⟨sO_81_11 I.1 h0 (by omega), ax_frS I.2.1 (by decide +kernel), fun i hi => ?_, ?_⟩
  · rw [stO (by decide)] at hi
    rw [stO (by decide), stN (by decide), stN (by decide)]
    exact I.2.2.1 i hi
  · rw [stE, stO (by decide)]
    exact h1
section RWS
variable {sc : List Int} {d : Nat} {Q : Vv → MM → Prop} {M0 : MM}
theorem s_here {M : MM} (G : ai_GI ax_T M) (k : ∀ r : Int, r = hereV M → ((r = -1 ∧ M 81 12 ≤ M 81 11) ∨ ((0 ≤ r ∧ r ≤ 255) ∧ M 81 11 < M 81 12)) → Q (vi r) M) : CA FF sc YF (d + 1) m_X12_here [vr 81] M Q := by
  have g := rO_81_11 G
  have h := hereV_r M
  have k := k _ rfl h
  unfold hereV at k
  refine ca_X12_here M (brP (fun q => ?_) fun q => gI (by omega) (by omega) ?_)
  · rw [if_pos q] at k
    exact k
  · rw [if_neg q] at k
    exact k
theorem s_wrongAt {M : MM} {v1 v2 : Int} (h1 : 1 ≤ v1 ∧ v1 ≤ 7) (h2 : 0 ≤ v2 ∧ v2 ≤ 240) (k : ∀ x : Int, x = 0 → Q (vi x) (stM M 81 13 (-1000 * v1 - v2))) : CA FF sc YF (d + 1) m_X12_wrongAt [vr 81, vi v1, vi v2] M Q := by
  refine ca_X12_wrongAt v1 v2 M ?_
  rw [ew32 (z := -1000 * v1) (by omega) (by omega), ew32 (z := -1000 * v1 - v2) (by omega) (by omega)]
  exact k 0 rfl
theorem s_wayOf {v : Int} {M : MM} (k : ∀ r : Int, r = -1 ∨ ((0 ≤ r ∧ r ≤ 4) ∧ 0 ≤ v) → Q (vi r) M) : CA FF sc YF (d + 1) m_X12_wayOf [vi v] M Q := ca_X12_wayOf v M ⟨fun _ => k _ (by omega), fun _ => ⟨fun _ => k _ (by omega), fun _ => ⟨fun _ => k _ (by omega), fun _ => ⟨fun _ => k _ (by omega), fun _ => ⟨fun _ => k _ (by omega), fun _ => k _ (by omega)⟩⟩⟩⟩⟩
theorem s_readsTimes {M : MM} (I : rwI M0 M) (k : ∀ M1, rwI M0 M1 → (1 ≤ M1 81 40 ∧ M1 81 40 ≤ 9) → M1 81 37 = M 81 37 → M1 81 38 = M 81 38 → M 81 11 ≤ M1 81 11 → Q (vi 0) M1) : CA FF sc YF (d + 2) m_X12_readsTimes [vr 81] M Q := by
  have g11 := rO_81_11 I.1
  have I1 : rwI M0 (stM M 81 39 (M 81 11)) := I.st (sO_81_39 I.1 (by omega) (by omega)) (by decide +kernel) (by omega) (by decide)
  have I2 : rwI M0 (stM (stM M 81 39 (M 81 11)) 81 40 1) := I1.st (sO_81_40 I1.1 (by decide) (by decide)) (by decide +kernel) (by omega) (by decide)
  have b : ∀ j, j ≠ 39 → j ≠ 40 → stM (stM M 81 39 (M 81 11)) 81 40 1 81 j = M 81 j := fun j h1 h2 => (stO h2).trans (stO h1)
  have b40 : stM (stM M 81 39 (M 81 11)) 81 40 1 81 40 = 1 := stE
  refine ca_X12_readsTimes M ?_
  have b37 := b 37 (by decide) (by decide)
  have b38 := b 38 (by decide) (by decide)
  have b11 := b 11 (by decide) (by decide)
  have b12 := b 12 (by decide) (by decide)
  clear b
  generalize stM (stM M 81 39 (M 81 11)) 81 40 1 = M1 at I2 b37 b38 b11 b12 b40
  refine s_here I2.1 fun r hr hr2 => s_in r 50 57 M1 (brI1 (fun h => s_here I2.1 fun r6 hr6 _ => ?_) fun h => k M1 I2 (by omega) b37 b38 (by omega))
  have e : r6 = r := hr6.trans hr.symm
  subst e
  show Q (vi 0) (stM (stM M1 81 40 (w32 (r6 - 48))) 81 11 (w32 (stM M1 81 40 (w32 (r6 - 48)) 81 11 + 1)))
  rw [ew32 (z := r6 - 48) (by omega) (by omega), stO (k := 81) (j := 40) (j' := 11) (by decide), ew32 (z := M1 81 11 + 1) (by omega) (by omega)]
  have I3 : rwI M0 (stM M1 81 40 (r6 - 48)) := I2.st (sO_81_40 I2.1 (by omega) (by omega)) (by decide +kernel) (by omega) (by decide)
  have c : ∀ j, j ≠ 40 → stM M1 81 40 (r6 - 48) 81 j = M1 81 j := fun j h1 => stO h1
  refine k _ (I3.pl (by omega) (by rw [c 12 (by decide)]; omega)) ?_ ?_ ?_ ?_
  · rw [stO (by decide), stE]
    omega
  · rw [stO (by decide), c 37 (by decide)]
    exact b37
  · rw [stO (by decide), c 38 (by decide)]
    exact b38
  · rw [stE]
    omega
theorem rwI.nm {M : MM} (I : rwI M0 M) {v : Int} (h0 : M 81 37 ≤ v) (h1 : v ≤ 60) : rwI M0 (stM M 81 37 v) := by
  have g := rO_81_37 I.1
  refine ⟨sO_81_37 I.1 (by omega) h1, ax_frS I.2.1 (by decide +kernel), fun i hi => ?_, ?_⟩
  · rw [stO (by decide)] at hi
    rw [stE, stN (by decide), stN (by decide)]
    have := I.2.2.1 i hi
    omega
  · rw [stO (by decide), stO (by decide)]
    exact I.2.2.2
theorem rwI.o104 {M M1 : MM} (I : rwI M0 M) (G : ai_GI ax_T M1) (h : ∀ c, c ≠ 104 → ∀ j, M1 c j = M c j) : rwI M0 M1 := ⟨G, fun k j hs => by
  have hk : k ≠ 104 := fun q => by
    subst q
    rw [ax_slA rfl] at hs
    exact absurd hs (by decide +kernel)
  rw [h k hk, I.2.1 k j hs], fun i hi => by
  rw [h 81 (by decide)] at hi
  rw [h 106 (by decide), h 107 (by decide), h 81 (by decide)]
  exact I.2.2.1 i hi, by
  rw [h 81 (by decide), h 81 (by decide)]
  exact I.2.2.2⟩
theorem rp_wp {M : MM} {v1 v2 v3 many p : Int} (hp : many * v2 = p) (h1 : 0 ≤ v1) (hm : 0 ≤ many) (hmp : many ≤ p) (hp2 : p ≤ 540) (hle : v1 + p ≤ 60) (k : ∀ M1, ai_GI ax_T M1 → (∀ c, c ≠ 104 → ∀ j, M1 c j = M c j) → ∀ x : Int, x = 1 → Q (vi x) (stM M1 81 37 (v1 + p))) : ∀ (n : Nat) (i : Int) (M1 : MM), (p - i).toNat ≤ n → many ≤ i → ai_GI ax_T M1 → (∀ c, c ≠ 104 → ∀ j, M1 c j = M c j) → WP FF sc YF (d + 1) m_X12_repeats 19 [] [some (vr 81), some (vi v1), some (vi v2), some (vi v3), some (vi many), some (vi i)] M1 Q := by
  intro n
  induction n with
  | zero =>
    intro i M1 hn hi G h
    refine rg_X12_repeats_19 v1 v2 v3 many i M1 ?_
    rw [hp, ew32 (z := p) (by omega) (by omega), ew32 (z := v1 + p) (by omega) (by omega)]
    exact brT (by omega) (k M1 G h 1 rfl)
  | succ n ih =>
    intro i M1 hn hi G h
    refine rg_X12_repeats_19 v1 v2 v3 many i M1 ?_
    rw [hp, ew32 (z := p) (by omega) (by omega), ew32 (z := v1 + p) (by omega) (by omega)]
    refine brP (fun _ => k M1 G h 1 rfl) fun hlt => ?_
    rw [ew32 (z := v1 + i) (by omega) (by omega), ew32 (z := v1 + i - many) (by omega) (by omega), ew32 (z := i + 1) (by omega) (by omega)]
    refine gI (by omega) (by omega) (gI (by omega) (by omega) ?_)
    have g := rA_104 G (v1 + i - many).toNat
    rw [ew8 (z := M1 104 (v1 + i - many).toNat) (by omega) (by omega)]
    exact ih (i + 1) _ (by omega) (by omega) (sA_104 G g.1 g.2) (fun c hc j => (stN hc).trans (h c hc j))
theorem s_repeats {M : MM} {v1 v2 v3 : Int} (I : rwI M0 M) (h1 : 0 ≤ v1 ∧ v1 ≤ M 81 37) (h2 : 1 ≤ v2 ∧ v2 ≤ 9) (h3 : 0 ≤ v3 ∧ v3 ≤ 240) (k : ∀ (x : Int) (M1 : MM), (x = 0 ∨ x = 1) → rwI M0 M1 → M1 81 11 = M 81 11 → M1 81 38 = M 81 38 → Q (vi x) M1) : CA FF sc YF (d + 2) m_X12_repeats [vr 81, vi v1, vi v2, vi v3] M Q := by
  have g := rO_81_37 I.1
  refine ca_X12_repeats v1 v2 v3 M ?_
  rw [ew32 (z := M 81 37 - v1) (by omega) (by omega)]
  have hc := mulc (a := M 81 37 - v1) (b := v2) (by omega) (by omega) h2.1 h2.2
  obtain ⟨p, hp⟩ : ∃ p, (M 81 37 - v1) * v2 = p := ⟨_, rfl⟩
  rw [hp] at hc ⊢
  rw [ew32 (z := p) (by omega) (by omega), ew32 (z := v1 + p) (by omega) (by omega)]
  refine brP (fun hle => ?_) fun _ => s_wrongAt (by omega) h3 fun x hx => gB (by rw [decide_eq_true hx]; rfl) (k x _ (.inl hx) (I.st (sO_81_13 I.1 (by omega) (by omega)) (by decide +kernel) (by omega) (by decide)) (stO (by decide)) (stO (by decide)))
  refine rp_wp (M := M) hp h1.1 (by omega) (by omega) (by omega) hle (fun M1 G1 h x hx => ?_) p.toNat _ M (by omega) (by omega) I.1 (fun _ _ _ => rfl)
  have I1 : rwI M0 M1 := I.o104 G1 h
  have e37 : M1 81 37 = M 81 37 := h 81 (by decide) 37
  exact k x _ (.inr hx) (I1.nm (by omega) hle) ((stO (by decide)).trans (h 81 (by decide) 11)) ((stO (by decide)).trans (h 81 (by decide) 38))
theorem rwI.len {M M1 : MM} (I1 : rwI M0 M1) (I : rwI M0 M) : M1 81 12 = M 81 12 := (ax_frO I1.2.1 rfl (by decide +kernel)).trans (ax_frO I.2.1 rfl (by decide +kernel)).symm
/-- fewer rounds -/
theorem rwI.rd {M : MM} (I : rwI M0 M) {v : Int} (h0 : 0 ≤ v) (h1 : v ≤ M 81 38) : rwI M0 (stM M 81 38 v) := by
  have g := rO_81_38 I.1
  refine ⟨sO_81_38 I.1 h0 (by omega), ax_frS I.2.1 (by decide +kernel), fun i hi => ?_, ?_⟩
  · rw [stE] at hi
    rw [stO (by decide), stN (by decide), stN (by decide)]
    exact I.2.2.1 i (by omega)
  · rw [stO (by decide), stO (by decide)]
    exact I.2.2.2
theorem er_wp : ∀ (n : Nat) (M : MM) (p : Int), (M 81 12 - M 81 11).toNat ≤ n → rwI M0 M → p ≤ M 81 11 → (∀ (x : Int) (M1 : MM), (x = 0 ∨ x = 1) → rwI M0 M1 → M1 81 12 = M 81 12 → (p ≤ M1 81 11) → Q (vi x) M1) → WP FF sc YF (d + 3) m_X12_endsRounds 0 [] [some (vr 81)] M Q := by
  intro n
  induction n with
  | zero =>
    intro M p hn I hp k
    exact rg_X12_endsRounds_0 M (s_here I.1 fun r hr hr2 => brT (by omega) (k 1 M (.inr rfl) I rfl (by omega)))
  | succ n ih =>
    intro M p hn I hp k
    refine rg_X12_endsRounds_0 M (s_here I.1 fun r hr hr2 => brP (fun _ => k 1 M (.inr rfl) I rfl (by omega)) fun h41 => brP (fun _ => k 1 M (.inr rfl) I rfl (by omega)) fun h38 => ?_)
    have g11 := rO_81_11 I.1
    have g12 := rO_81_12 I.1
    have g38 := rO_81_38 I.1
    rw [ew32 (z := M 81 11 + 1) (by omega) (by omega), stO (k := 81) (j := 11) (j' := 38) (by decide), ew32 (z := M 81 38 - 1) (by omega) (by omega), stE, stN (k' := 106) (k := 81) (by decide), stN (k' := 106) (k := 81) (by decide), stN (k' := 107) (k := 81) (by decide), stN (k' := 107) (k := 81) (by decide), stN (k' := 105) (k := 81) (by decide), stN (k' := 105) (k := 81) (by decide)]
    have I1 : rwI M0 (stM M 81 11 (M 81 11 + 1)) := I.pl (by omega) (by omega)
    have hv := I.2.2.1 (M 81 38 - 1).toNat (by omega)
    have I2 : rwI M0 (stM (stM M 81 11 (M 81 11 + 1)) 81 38 (M 81 38 - 1)) := I1.rd (by omega) (by rw [stO (by decide)]; omega)
    have ga := rA_106 I.1 (M 81 38 - 1).toNat
    have gt := rA_107 I.1 (M 81 38 - 1).toNat
    have gf := rA_105 I.1 (M 81 38 - 1).toNat
    have e37 : stM (stM M 81 11 (M 81 11 + 1)) 81 38 (M 81 38 - 1) 81 37 = M 81 37 := (stO (by decide)).trans (stO (by decide))
    have e11 : stM (stM M 81 11 (M 81 11 + 1)) 81 38 (M 81 38 - 1) 81 11 = M 81 11 + 1 := (stO (by decide)).trans stE
    refine gI (by omega) (by omega) (gI (by omega) (by omega) (gI (by omega) (by omega) (s_repeats I2 (by omega) ⟨hv.2, gt.2⟩ gf (fun x M3 hx I3 e3 _ => brP (fun hx1 => ?_) fun hx0 => k 0 M3 (.inl rfl) I3 (I3.len I) (by omega)))))
    exact ih M3 p (by have := I3.len I; omega) I3 (by omega) (fun x M4 hx I4 e4 p4 => k x M4 hx I4 (I4.len I) p4)
theorem s_endsRounds {M : MM} {p : Int} (I : rwI M0 M) (hp : p ≤ M 81 11) (k : ∀ (x : Int) (M1 : MM), (x = 0 ∨ x = 1) → rwI M0 M1 → M1 81 12 = M 81 12 → (p ≤ M1 81 11) → Q (vi x) M1) : CA FF sc YF (d + 3) m_X12_endsRounds [vr 81] M Q := by
  refine ca_X12_endsRounds M (s_here I.1 fun r hr hr2 => brP (fun _ => k 1 M (.inr rfl) I rfl (by omega)) fun h41 => brP (fun _ => k 1 M (.inr rfl) I rfl (by omega)) fun h38 => ?_)
  have g11 := rO_81_11 I.1
  have g12 := rO_81_12 I.1
  have g38 := rO_81_38 I.1
  rw [ew32 (z := M 81 11 + 1) (by omega) (by omega), stO (k := 81) (j := 11) (j' := 38) (by decide), ew32 (z := M 81 38 - 1) (by omega) (by omega), stE, stN (k' := 106) (k := 81) (by decide), stN (k' := 106) (k := 81) (by decide), stN (k' := 107) (k := 81) (by decide), stN (k' := 107) (k := 81) (by decide), stN (k' := 105) (k := 81) (by decide), stN (k' := 105) (k := 81) (by decide)]
  have I1 : rwI M0 (stM M 81 11 (M 81 11 + 1)) := I.pl (by omega) (by omega)
  have hv := I.2.2.1 (M 81 38 - 1).toNat (by omega)
  have I2 : rwI M0 (stM (stM M 81 11 (M 81 11 + 1)) 81 38 (M 81 38 - 1)) := I1.rd (by omega) (by rw [stO (by decide)]; omega)
  have ga := rA_106 I.1 (M 81 38 - 1).toNat
  have gt := rA_107 I.1 (M 81 38 - 1).toNat
  have gf := rA_105 I.1 (M 81 38 - 1).toNat
  have e37 : stM (stM M 81 11 (M 81 11 + 1)) 81 38 (M 81 38 - 1) 81 37 = M 81 37 := (stO (by decide)).trans (stO (by decide))
  have e11 : stM (stM M 81 11 (M 81 11 + 1)) 81 38 (M 81 38 - 1) 81 11 = M 81 11 + 1 := (stO (by decide)).trans stE
  refine gI (by omega) (by omega) (gI (by omega) (by omega) (gI (by omega) (by omega) (s_repeats I2 (by omega) ⟨hv.2, gt.2⟩ gf (fun x M3 hx I3 e3 _ => brP (fun hx1 => ?_) fun hx0 => k 0 M3 (.inl rfl) I3 (I3.len I) (by omega)))))
  exact er_wp _ M3 p (Nat.le_refl _) I3 (by omega) (fun x M4 hx I4 e4 p4 => k x M4 hx I4 (I4.len I) p4)
/-- one more round -/
theorem rwI.op {M : MM} (I : rwI M0 M) (h3 : M 81 38 < 3) (h40 : 1 ≤ M 81 40 ∧ M 81 40 ≤ 9) (h0 : M 81 11 < M 81 12) {a b : Int} (ha : a = M 81 38 + 1) (hb : b = M 81 11 + 1) : rwI M0 (stM (stM (stM (stM (stM M 105 (M 81 38).toNat (M 81 39)) 106 (M 81 38).toNat (M 81 37)) 107 (M 81 38).toNat (M 81 40)) 81 38 a) 81 11 b) := by
  subst ha
  subst hb
  have g38 := rO_81_38 I.1
  have g39 := rO_81_39 I.1
  have g37 := rO_81_37 I.1
  have g11 := rO_81_11 I.1
  have g12 := rO_81_12 I.1
  have G1 : ai_GI ax_T (stM M 105 (M 81 38).toNat (M 81 39)) := sA_105 I.1 (by omega) (by omega)
  have G2 : ai_GI ax_T (stM (stM M 105 (M 81 38).toNat (M 81 39)) 106 (M 81 38).toNat (M 81 37)) := sA_106 G1 (by omega) (by omega)
  have G3 : ai_GI ax_T (stM (stM (stM M 105 (M 81 38).toNat (M 81 39)) 106 (M 81 38).toNat (M 81 37)) 107 (M 81 38).toNat (M 81 40)) := sA_107 G2 (by omega) (by omega)
  refine ⟨sO_81_11 (sO_81_38 G3 (by omega) (by omega)) (by omega) (by omega), ?_, fun i hi => ?_, ?_⟩
  · exact ax_frS (ax_frS (ax_frS (ax_frS (ax_frS I.2.1 (by rw [ax_slA rfl]; decide +kernel)) (by rw [ax_slA rfl]; decide +kernel)) (by rw [ax_slA rfl]; decide +kernel)) (by decide +kernel)) (by decide +kernel)
  · rw [stO (by decide), stE] at hi
    have e37 : stM (stM (stM (stM (stM M 105 (M 81 38).toNat (M 81 39)) 106 (M 81 38).toNat (M 81 37)) 107 (M 81 38).toNat (M 81 40)) 81 38 (M 81 38 + 1)) 81 11 (M 81 11 + 1) 81 37 = M 81 37 := by
      rw [stO (by decide), stO (by decide), stN (by decide), stN (by decide), stN (by decide)]
    have e106 : stM (stM (stM (stM (stM M 105 (M 81 38).toNat (M 81 39)) 106 (M 81 38).toNat (M 81 37)) 107 (M 81 38).toNat (M 81 40)) 81 38 (M 81 38 + 1)) 81 11 (M 81 11 + 1) 106 i = if i = (M 81 38).toNat then M 81 37 else M 106 i := by
      rw [stN (by decide), stN (by decide), stN (by decide), stM_at]
      by_cases q : i = (M 81 38).toNat
      · rw [if_pos ⟨rfl, q⟩, if_pos q]
      · rw [if_neg (fun z => q z.2), if_neg q, stN (by decide)]
    have e107 : stM (stM (stM (stM (stM M 105 (M 81 38).toNat (M 81 39)) 106 (M 81 38).toNat (M 81 37)) 107 (M 81 38).toNat (M 81 40)) 81 38 (M 81 38 + 1)) 81 11 (M 81 11 + 1) 107 i = if i = (M 81 38).toNat then M 81 40 else M 107 i := by
      rw [stN (by decide), stN (by decide), stM_at]
      by_cases q : i = (M 81 38).toNat
      · rw [if_pos ⟨rfl, q⟩, if_pos q]
      · rw [if_neg (fun z => q z.2), if_neg q, stN (by decide), stN (by decide)]
    rw [e37, e106, e107]
    by_cases q : i = (M 81 38).toNat
    · rw [if_pos q, if_pos q]
      exact ⟨Int.le_refl _, h40.1⟩
    · rw [if_neg q, if_neg q]
      exact I.2.2.1 i (by omega)
  · rw [stE, stO (by decide), stO (by decide), stN (by decide), stN (by decide), stN (by decide)]
    omega
theorem rs_wp : ∀ (n : Nat) (M : MM) (p : Int) (o1 o2 o3 : Option Vv), (M 81 12 - M 81 11).toNat ≤ n → rwI M0 M → (1 ≤ M 81 40 ∧ M 81 40 ≤ 9) → p ≤ M 81 11 → (∀ (x : Int) (M1 : MM), (x = 0 ∨ x = 1) → rwI M0 M1 → (x = 1 → p < M1 81 11) → Q (vi x) M1) → WP FF sc YF (d + 4) m_X12_readsStep 2 [] [some (vr 81), o1, o2, o3] M Q := by
  intro n
  induction n with
  | zero =>
    intro M p o1 o2 o3 hn I h40 hp k
    have g11 := rO_81_11 I.1
    have g12 := rO_81_12 I.1
    have g37 := rO_81_37 I.1
    have g38 := rO_81_38 I.1
    have g39 := rO_81_39 I.1
    refine rg_X12_readsStep_2 o1 o2 o3 M (s_here I.1 fun r hr hr2 => brP (fun hn40 => s_here I.1 fun r4 hr4 hr5 => s_wayOf fun w hw => brP (fun hw1 => ?_) fun hw1 => s_wrongAt (by omega) g11 fun x hx => gB (by rw [decide_eq_true hx]; rfl) (k x _ (.inl hx) (I.st (sO_81_13 I.1 (by omega) (by omega)) (by decide +kernel) (by omega) (by decide)) (fun q => by omega))) fun h40' => brP (fun h3 => ?_) fun h3 => s_wrongAt (by omega) g11 fun x hx => gB (by rw [decide_eq_true hx]; rfl) (k x _ (.inl hx) (I.st (sO_81_13 I.1 (by omega) (by omega)) (by decide +kernel) (by omega) (by decide)) (fun q => by omega)))
    · have s11 : ∀ (N : MM) (v : Int), stM N 81 11 v 81 37 = N 81 37 := fun _ _ => stO (by decide)
      have s104 : ∀ (N : MM) (x : Nat) (v : Int), stM N 104 x v 81 37 = N 81 37 := fun _ _ _ => stN (by decide)
      have s37 : ∀ (N : MM) (v : Int), stM N 81 37 v 81 37 = v := fun _ _ => stE
      simp only [s11, s104, s37]
      rw [ew32 (z := M 81 37 + M 81 40) (by omega) (by omega), ew32 (z := M 81 11 + 1) (by omega) (by omega), ew8 (z := w) (by omega) (by omega), ew8 (z := w) (by omega) (by omega), ew32 (z := M 81 37 + 1) (by omega) (by omega), ew32 (z := M 81 37 + 1 - 1) (by omega) (by omega)]
      have I1 : rwI M0 (stM M 81 11 (M 81 11 + 1)) := I.pl (by omega) (by omega)
      refine brP (fun hle => gI (by omega) (by omega) ?_) fun _ => s_wrongAt (by omega) g39 fun x hx => gB (by rw [decide_eq_true hx]; rfl) (k x _ (.inl hx) (I1.st (sO_81_13 I1.1 (by omega) (by omega)) (by decide +kernel) (by omega) (by decide)) (fun q => by omega))
      have I2 : rwI M0 (stM (stM M 81 11 (M 81 11 + 1)) 104 (M 81 37).toNat w) := I1.st (sA_104 I1.1 (by omega) (by omega)) (by rw [ax_slA rfl]; decide +kernel) (by omega) (by decide)
      have I3 : rwI M0 (stM (stM (stM M 81 11 (M 81 11 + 1)) 104 (M 81 37).toNat w) 81 37 (M 81 37 + 1)) := I2.nm (by rw [s104, s11]; omega) (by omega)
      have e11 : stM (stM (stM M 81 11 (M 81 11 + 1)) 104 (M 81 37).toNat w) 81 37 (M 81 37 + 1) 81 11 = M 81 11 + 1 := by rw [stO (by decide), stN (by decide), stE]
      refine s_repeats I3 (by rw [s37]; omega) h40 g39 fun x M7 hx I7 e7 _ => brP (fun hx1 => ?_) fun hx0 => k 0 M7 (.inl rfl) I7 (fun q => by omega)
      exact s_endsRounds (p := M 81 11 + 1) I7 (by omega) fun x M9 hx I9 _ p9 => gB (by rcases hx with hx | hx <;> (subst hx; rfl)) (k x M9 hx I9 (fun _ => by omega))
    · have s105 : ∀ (N : MM) (x : Nat) (v : Int) (j : Nat), stM N 105 x v 81 j = N 81 j := fun _ _ _ _ => stN (by decide)
      have s106 : ∀ (N : MM) (x : Nat) (v : Int) (j : Nat), stM N 106 x v 81 j = N 81 j := fun _ _ _ _ => stN (by decide)
      have s107 : ∀ (N : MM) (x : Nat) (v : Int) (j : Nat), stM N 107 x v 81 j = N 81 j := fun _ _ _ _ => stN (by decide)
      have s38 : ∀ (N : MM) (v : Int), stM N 81 38 v 81 11 = N 81 11 := fun _ _ => stO (by decide)
      simp only [s105, s106, s107, s38]
      rw [ew32 (z := M 81 38 + 1) (by omega) (by omega), ew32 (z := M 81 11 + 1) (by omega) (by omega)]
      have I5 := I.op (by omega) h40 (by omega) rfl rfl
      have e11 : stM (stM (stM (stM (stM M 105 (M 81 38).toNat (M 81 39)) 106 (M 81 38).toNat (M 81 37)) 107 (M 81 38).toNat (M 81 40)) 81 38 (M 81 38 + 1)) 81 11 (M 81 11 + 1) 81 11 = M 81 11 + 1 := stE
      refine gI (by omega) (by omega) (gI (by omega) (by omega) (gI (by omega) (by omega) (s_readsTimes I5 fun M15 I15 h40'' _ _ p15 => ?_)))
      omega
  | succ n ih =>
    intro M p o1 o2 o3 hn I h40 hp k
    have g11 := rO_81_11 I.1
    have g12 := rO_81_12 I.1
    have g37 := rO_81_37 I.1
    have g38 := rO_81_38 I.1
    have g39 := rO_81_39 I.1
    refine rg_X12_readsStep_2 o1 o2 o3 M (s_here I.1 fun r hr hr2 => brP (fun hn40 => s_here I.1 fun r4 hr4 hr5 => s_wayOf fun w hw => brP (fun hw1 => ?_) fun hw1 => s_wrongAt (by omega) g11 fun x hx => gB (by rw [decide_eq_true hx]; rfl) (k x _ (.inl hx) (I.st (sO_81_13 I.1 (by omega) (by omega)) (by decide +kernel) (by omega) (by decide)) (fun q => by omega))) fun h40' => brP (fun h3 => ?_) fun h3 => s_wrongAt (by omega) g11 fun x hx => gB (by rw [decide_eq_true hx]; rfl) (k x _ (.inl hx) (I.st (sO_81_13 I.1 (by omega) (by omega)) (by decide +kernel) (by omega) (by decide)) (fun q => by omega)))
    · have s11 : ∀ (N : MM) (v : Int), stM N 81 11 v 81 37 = N 81 37 := fun _ _ => stO (by decide)
      have s104 : ∀ (N : MM) (x : Nat) (v : Int), stM N 104 x v 81 37 = N 81 37 := fun _ _ _ => stN (by decide)
      have s37 : ∀ (N : MM) (v : Int), stM N 81 37 v 81 37 = v := fun _ _ => stE
      simp only [s11, s104, s37]
      rw [ew32 (z := M 81 37 + M 81 40) (by omega) (by omega), ew32 (z := M 81 11 + 1) (by omega) (by omega), ew8 (z := w) (by omega) (by omega), ew8 (z := w) (by omega) (by omega), ew32 (z := M 81 37 + 1) (by omega) (by omega), ew32 (z := M 81 37 + 1 - 1) (by omega) (by omega)]
      have I1 : rwI M0 (stM M 81 11 (M 81 11 + 1)) := I.pl (by omega) (by omega)
      refine brP (fun hle => gI (by omega) (by omega) ?_) fun _ => s_wrongAt (by omega) g39 fun x hx => gB (by rw [decide_eq_true hx]; rfl) (k x _ (.inl hx) (I1.st (sO_81_13 I1.1 (by omega) (by omega)) (by decide +kernel) (by omega) (by decide)) (fun q => by omega))
      have I2 : rwI M0 (stM (stM M 81 11 (M 81 11 + 1)) 104 (M 81 37).toNat w) := I1.st (sA_104 I1.1 (by omega) (by omega)) (by rw [ax_slA rfl]; decide +kernel) (by omega) (by decide)
      have I3 : rwI M0 (stM (stM (stM M 81 11 (M 81 11 + 1)) 104 (M 81 37).toNat w) 81 37 (M 81 37 + 1)) := I2.nm (by rw [s104, s11]; omega) (by omega)
      have e11 : stM (stM (stM M 81 11 (M 81 11 + 1)) 104 (M 81 37).toNat w) 81 37 (M 81 37 + 1) 81 11 = M 81 11 + 1 := by rw [stO (by decide), stN (by decide), stE]
      refine s_repeats I3 (by rw [s37]; omega) h40 g39 fun x M7 hx I7 e7 _ => brP (fun hx1 => ?_) fun hx0 => k 0 M7 (.inl rfl) I7 (fun q => by omega)
      exact s_endsRounds (p := M 81 11 + 1) I7 (by omega) fun x M9 hx I9 _ p9 => gB (by rcases hx with hx | hx <;> (subst hx; rfl)) (k x M9 hx I9 (fun _ => by omega))
    · have s105 : ∀ (N : MM) (x : Nat) (v : Int) (j : Nat), stM N 105 x v 81 j = N 81 j := fun _ _ _ _ => stN (by decide)
      have s106 : ∀ (N : MM) (x : Nat) (v : Int) (j : Nat), stM N 106 x v 81 j = N 81 j := fun _ _ _ _ => stN (by decide)
      have s107 : ∀ (N : MM) (x : Nat) (v : Int) (j : Nat), stM N 107 x v 81 j = N 81 j := fun _ _ _ _ => stN (by decide)
      have s38 : ∀ (N : MM) (v : Int), stM N 81 38 v 81 11 = N 81 11 := fun _ _ => stO (by decide)
      simp only [s105, s106, s107, s38]
      rw [ew32 (z := M 81 38 + 1) (by omega) (by omega), ew32 (z := M 81 11 + 1) (by omega) (by omega)]
      have I5 := I.op (by omega) h40 (by omega) rfl rfl
      have e11 : stM (stM (stM (stM (stM M 105 (M 81 38).toNat (M 81 39)) 106 (M 81 38).toNat (M 81 37)) 107 (M 81 38).toNat (M 81 40)) 81 38 (M 81 38 + 1)) 81 11 (M 81 11 + 1) 81 11 = M 81 11 + 1 := stE
      refine gI (by omega) (by omega) (gI (by omega) (by omega) (gI (by omega) (by omega) (s_readsTimes I5 fun M15 I15 h40'' _ _ p15 => ?_)))
      exact ih M15 p o1 o2 o3 (by have := I15.len I; omega) I15 h40'' (by omega) k
end RWS
def rwW : Nat := 2840601466637477240961660278813065586829612120901670177684499659151362633826645828257550227644766228673339809711214239266735700058433579410543541534514337983482213092627190335992601132688001909737058981513158891645545597776044595356067104103550244850587905996306783438254174023274271383278489575540465675852643573996305033062785622453658584531949403572136733015878233201174971892567171543374907806257593369352286952567852073802175662148886343649415134857374983713335170341196107360761748882199674932852764563972338779941524569142685293886306695408876487911007503323089355161319678406383435710920862789808849789741970673288803427626252145805611144869468231897724252012443509275893943245957973355288915077253721439536442897706649547828192218292255617406987183540964936622835897089052963989953837977083688840790752138329824408574772046545634907019171242734806767267718187216751265860881286992856290530186686998072036159456240208788217537082128641254255142951805622081387076567961386291977854887731491665206212172138090738300850501776937193530719537052574755955413894004475612432184783374077527707124809394997265589060855072491712946061054240647099659899356521052123202852417335828135326962986533439371290893186359808882740976531200026354894614276223192456587009719721642113612953443767010704657256488411424391655999449907356823910428691131585818554418588667407242012166432010882277658268733728278962209000091883231049605782977344688001859784094112718971941627676811832406628792624621126591745299290070510165822080476164498298543721289365456306654306261007936003508678753953746835651358820736060912735683731482878687757114877675160285287348603282952473354512564784457568055594996004317680540008955086033380572879926969195462647719503668401423538094151317931184924249639452944470987441179040824733361402718384907524415473591975274674871326044388887711573008518310274083650869309885934228870774619523372792315178295077637365018863592024478414349329118739129313142182842981739705039316741818799018913195996285015689888992452582699673202551457381357683009066274081734656
section RWT
variable {sc : List Int} {d : Nat} {Q : Vv → MM → Prop}
theorem s_readsStep {M0 M : MM} {p : Int} (I : rwI M0 M) (hp : p ≤ M 81 11) (k : ∀ (x : Int) (M1 : MM), (x = 0 ∨ x = 1) → rwI M0 M1 → (x = 1 → p < M1 81 11) → Q (vi x) M1) : CA FF sc YF (d + 4) m_X12_readsStep [vr 81] M Q := ca_X12_readsStep M (s_readsTimes I fun M1 I1 h40 _ _ p1 => rs_wp _ M1 p none none none (Nat.le_refl _) I1 h40 (by omega) k)
theorem rk_wp {h n good : Int} (hh : 0 ≤ h ∧ h ≤ 9) {M0 : MM} (k : ∀ (r : Int) (M1 : MM), ai_GI ax_T M1 → ai_Fr ax_T rwW M0 M1 → M1 81 10 = M0 81 10 → Q (vi r) M1) : ∀ (m : Nat) (i : Int) (M : MM), (60 - i).toNat ≤ m → 0 ≤ i → ai_GI ax_T M → ai_Fr ax_T rwW M0 M → M 81 10 = M0 81 10 → WP FF sc YF (d + 1) m_X12_walk 59 [] [some (vr 81), some (vi h), some (vi n), some (vi good), some (vi i)] M Q := by
  intro m
  induction m with
  | zero =>
    intro i M hm hi G f e
    have g := rO_81_37 G
    exact rg_X12_walk_59 h n good i M (brT (by omega) (k _ M G f e))
  | succ m ih =>
    intro i M hm hi G f e
    have g := rO_81_37 G
    refine rg_X12_walk_59 h n good i M (brP (fun _ => k _ M G f e) fun hlt => ?_)
    rw [ew32 (z := 60 * h) (by omega) (by omega), ew32 (z := 60 * h + i) (by omega) (by omega), ew32 (z := i + 1) (by omega) (by omega)]
    have g4 := rA_104 G i.toNat
    rw [ew8 (z := M 104 i.toNat) (by omega) (by omega)]
    exact gI hi (by omega) (gI (by omega) (by omega) (ih (i + 1) _ (by omega) (by omega) (sA_89 G g4.1 g4.2) (ax_frS f (by rw [ax_slA rfl]; decide +kernel)) ((stN (by decide)).trans e)))
theorem rl_wp {h n : Int} (hh : 0 ≤ h ∧ h ≤ 9) {M0 : MM} (I0 : rwI M0 M0) (k : ∀ (r : Int) (M1 : MM), ai_GI ax_T M1 → ai_Fr ax_T rwW M0 M1 → M1 81 10 = 0 → Q (vi r) M1) : ∀ (m : Nat) (x : Int) (o4 : Option Vv) (M : MM), (M0 81 12 - M 81 11).toNat ≤ m → (x = 0 ∨ x = 1) → rwI M0 M → WP FF sc YF (d + 5) m_X12_walk 29 [] [some (vr 81), some (vi h), some (vi n), some (vi x), o4] M Q := by
  have h43 : ∀ (x : Int) (o4 : Option Vv) (M : MM), rwI M0 M → WP FF sc YF (d + 5) m_X12_walk 43 [] [some (vr 81), some (vi h), some (vi n), some (vi x), o4] M Q := fun x o4 M I => by
    have g := rO_81_37 I.1
    have G1 : ai_GI ax_T (stM M 81 10 0) := sO_81_10 I.1 (by decide) (by decide)
    have f1 : ai_Fr ax_T rwW M0 (stM M 81 10 0) := ax_frS (ax_frW I.2.1 (by decide +kernel)) (by decide +kernel)
    refine rg_X12_walk_43 h n x o4 M (brP (fun _ => gI hh.1 (by omega) ?_) fun _ => k _ _ G1 f1 stE)
    rw [stO (k := 81) (j := 10) (j' := 37) (by decide)]
    exact rk_wp (M0 := stM (stM M 81 10 0) 88 h.toNat (M 81 37)) hh (fun r M1 G f e => k r M1 G (ax_frT (ax_frS f1 (by rw [ax_slA rfl]; decide +kernel)) f) (e.trans ((stN (by decide)).trans stE))) 60 0 _ (by omega) (by omega) (sA_88 G1 (by omega) (by omega)) ax_fr0 rfl
  have h0 : ∀ (o4 : Option Vv) (M : MM), rwI M0 M → WP FF sc YF (d + 5) m_X12_walk 29 [] [some (vr 81), some (vi h), some (vi n), some (vi 0), o4] M Q := fun o4 M I => rg_X12_walk_29 h n 0 o4 M (brT rfl (h43 0 o4 M I))
  intro m
  induction m with
  | zero =>
    intro x o4 M hm hx I
    have el := I.len I0
    have step : CA FF sc YF (d + 4) m_X12_readsStep [vr 81] M (cI fun r2 M1 => WP FF sc YF (d + 5) m_X12_walk 29 [] [some (vr 81), some (vi h), some (vi n), some (vi r2), o4] M1 Q) := s_readsStep (p := M 81 11) I (Int.le_refl _) fun x' M1 hx' I1 p1 => by
      have el1 := I1.len I0
      have := I1.2.2.2
      rcases hx' with rfl | rfl
      · exact h0 o4 M1 I1
      · have := p1 rfl
        omega
    exact rg_X12_walk_29 h n x o4 M (brP (fun _ => h43 x o4 M I) fun _ => brP (fun _ => step) fun _ => brP (fun _ => h43 x o4 M I) fun _ => step)
  | succ m ih =>
    intro x o4 M hm hx I
    have el := I.len I0
    have step : CA FF sc YF (d + 4) m_X12_readsStep [vr 81] M (cI fun r2 M1 => WP FF sc YF (d + 5) m_X12_walk 29 [] [some (vr 81), some (vi h), some (vi n), some (vi r2), o4] M1 Q) := s_readsStep (p := M 81 11) I (Int.le_refl _) fun x' M1 hx' I1 p1 => by
      have el1 := I1.len I0
      rcases hx' with rfl | rfl
      · exact h0 o4 M1 I1
      · have := p1 rfl
        have := I1.2.2.2
        exact ih 1 o4 M1 (by omega) (.inr rfl) I1
    exact rg_X12_walk_29 h n x o4 M (brP (fun _ => h43 x o4 M I) fun _ => brP (fun _ => step) fun _ => brP (fun _ => h43 x o4 M I) fun _ => step)
theorem sm_walk {h n : Int} {M : MM} (G : axG M) (k : ∀ (r : Int) (M1 : MM), axG M1 → LoX M M1 → M1 81 61 = M 81 61 → szM ((0 ≤ h ∧ h ≤ 9) ∧ 1 ≤ n ∧ n ≤ 80 ∧ n ≤ M 81 10) M M1 → Q (vi r) M1) : CA FF sc YF (d + 6) m_X12_walk [vr 81, vi h, vi n] M Q := by
  obtain ⟨g, j, w⟩ := G
  refine ca_X12_walk h n M (s_isTen h M (brI0 (fun hh => k _ M ⟨g, j, w⟩ LoX.rf rfl (.inl ⟨fun q => hh q.1, rfl⟩)) fun hh => s_in n 1 80 M (brI0 (fun ht => k _ M ⟨g, j, w⟩ LoX.rf rfl (.inl ⟨fun q => ht ⟨q.2.1, q.2.2.1⟩, rfl⟩)) fun ht => brP (fun hs => ?_) fun hs => k _ M ⟨g, j, w⟩ LoX.rf rfl (.inl ⟨fun q => hs q.2.2.2, rfl⟩))))
  have G4 : ai_GI ax_T (stM (stM (stM (stM M 81 11 0) 81 12 n) 81 37 0) 81 38 0) := sO_81_38 (sO_81_37 (sO_81_12 (sO_81_11 g (by decide) (by decide)) (by omega) (by omega)) (by decide) (by decide)) (by decide) (by decide)
  have f4 : ai_Fr ax_T rwW M (stM (stM (stM (stM M 81 11 0) 81 12 n) 81 37 0) 81 38 0) := ax_frS (ax_frS (ax_frS (ax_frS ax_fr0 (by decide +kernel)) (by decide +kernel)) (by decide +kernel)) (by decide +kernel)
  have e38 : stM (stM (stM (stM M 81 11 0) 81 12 n) 81 37 0) 81 38 0 81 38 = 0 := rfl
  have e11 : stM (stM (stM (stM M 81 11 0) 81 12 n) 81 37 0) 81 38 0 81 11 = 0 := rfl
  have e12 : stM (stM (stM (stM M 81 11 0) 81 12 n) 81 37 0) 81 38 0 81 12 = n := rfl
  generalize stM (stM (stM (stM M 81 11 0) 81 12 n) 81 37 0) 81 38 0 = M4 at G4 f4 e38 e11 e12
  have I0 : rwI M4 M4 := ⟨G4, ax_fr0, fun i hi => by omega, by omega⟩
  have fin : ∀ (r : Int) (M1 : MM), ai_GI ax_T M1 → ai_Fr ax_T rwW M4 M1 → M1 81 10 = 0 → Q (vi r) M1 := fun r M1 G1 f1 e1 => by
    have f : ai_Fr ax_T rwW M M1 := ax_frT f4 f1
    have l : LoX M M1 := loX_fr f (by decide +kernel)
    exact k r M1 ⟨G1, ax_j axH f (by decide +kernel) j, l.w w⟩ l (ax_frO f rfl (by decide +kernel)) (.inr ⟨⟨hh, ht.1, ht.2, hs⟩, e1⟩)
  exact s_readsStep (p := 0) I0 (by omega) fun x M1 hx I1 _ => rl_wp hh I0 fin _ x none M1 (Nat.le_refl _) hx I1
end RWT
