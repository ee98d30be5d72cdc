/-! PART 70a: the class: every public method ends, and what it leaves alone -/
/- a class's method is done: what stands fast stands, the cells of w are as before -/
def cxF (w : Nat) (M : MM) : Vv → MM → Prop := fun r M1 => (∃ x, r = vi x) ∧ axG M1 ∧ UpX M M1 ∧ Keep w M M1
def mxF (w : Nat) (M : MM) : Vv → MM → Prop := fun r M1 => (∃ x, r = vi x) ∧ axG M1 ∧ LoX M M1 ∧ Keep w M M1
def cxFL (w : Nat) (M : MM) : Vv → MM → Prop := fun r M1 => (∃ x, r = vl x) ∧ axG M1 ∧ UpX M M1 ∧ Keep w M M1
def mxFL (w : Nat) (M : MM) : Vv → MM → Prop := fun r M1 => (∃ x, r = vl x) ∧ axG M1 ∧ LoX M M1 ∧ Keep w M M1
theorem Keep.zero {M M1 : MM} : Keep 0 M M1 := fun k j h => by
  rw [Nat.zero_testBit] at h
  cases h
def cxk (w : Nat) : Bool := Nat.blt w (2 ^ 5184) && (Nat.beq (w &&& 15360) 0)
theorem cxk_b {w : Nat} (h : cxk w = true) {j : Nat} (hj : 10 ≤ j ∧ j ≤ 13) : w.testBit (64 * 0 + j) = false := by
  unfold cxk at h
  rw [Bool.and_eq_true] at h
  have e := Nat.eq_of_beq_eq_true h.2
  have h1 : (w &&& 15360).testBit (64 * 0 + j) = false := by rw [e]; exact Nat.zero_testBit _
  rw [Nat.testBit_and] at h1
  have h2 : Nat.testBit 15360 (64 * 0 + j) = true := by
    obtain rfl | rfl | rfl | rfl : j = 10 ∨ j = 11 ∨ j = 12 ∨ j = 13 := by omega
    all_goals decide
  rw [h2, Bool.and_true] at h1
  exact h1
theorem cx_fin {w : Nat} {M M1 : MM} (g1 : ai_GI ax_T M1) (f : ai_Fr ax_T w M M1) (j : axJ M) (W : axW M) (hw : cxk w = true) : axG M1 ∧ UpX M M1 := by
  have hu : UpX M M1 := upX_fr f (by
    unfold cxk at hw
    rw [Bool.and_eq_true] at hw
    exact Nat.le_of_ble_eq_true hw.1)
  exact ⟨⟨g1, hu.j j, axW_eq (ax_frO f rfl (cxk_b hw (by omega))) (ax_frO f rfl (cxk_b hw (by omega))) (ax_frO f rfl (cxk_b hw (by omega))) (ax_frO f rfl (cxk_b hw (by omega))) W⟩, hu⟩
theorem mx_fin {w : Nat} {M M1 : MM} (g1 : ai_GI ax_T M1) (f : ai_Fr ax_T w M M1) (j : axJ M) (W : axW M) (hw : w &&& (2 ^ 5184 - 1) = 0) (hj : w &&& ax_wJ = 0) : axG M1 ∧ LoX M M1 := by
  have hl : LoX M M1 := loX_fr f hw
  exact ⟨⟨g1, axJ_fr _ _ _ hj f j, hl.w W⟩, hl⟩
def cw_feed : Nat := 551744934429463295668663929006497367117657536410540844580736585623525131641330407150600101305729251565593135388000548999182402661110765563629422853519873097265044257207470810718849231611701559251177452518992086636694164196702990349431148464210372337996054787378030953959538315518789088900655304185928974412292104966017108845614194576527430106344811141618014046340524985060258813147518236234731697646476983007188952472618715088146668512727401413955716016289276821420018610230122503940204179414416479537604711353773698362568156715516219068049217307448293620025407126329405860878302079894971356551385777329341108575104188460465067716402338345563150372875196513663501744493017422911170534301669286247952562352062972632449783415057524154144270168154918616169345064208554661376028348345277245028030298954909626437524553486172093604856463061056887618551642337570754298106877127521483105330819206832309588721707353450495068829871391227193875893351442895343586540231953132408779645822042345529127785669930698659518800718121696988043860516516047473290478513977196794636737392944637446497440487811612200301245739592796701314040801783515522329674941360466481143680277174206682463419191034664759962459096893611108277523632806565585815455900057373969438622780681474841033819018586394518777360540884745439856118541438485410844026234524426107238778938803394563101327648859836184305320754404778580844684731928597347874077401302984883123871067415897154257866968996583113940097843708722244620286498309388020604397793901568
theorem u_X11_feed {J : MM → Prop} (S : ai_SP ax_T J ap_X11_feed) {sc : List Int} {d : Nat} {M : MM} {Q : Vv → MM → Prop} {v1 v2 v3 v4 v5 : Int} (h0 : (-2147483648) ≤ v1 ∧ v1 ≤ 2147483647) (h1 : (-2147483648) ≤ v2 ∧ v2 ≤ 2147483647) (h2 : (-2147483648) ≤ v3 ∧ v3 ≤ 2147483647) (h3 : (-2147483648) ≤ v4 ∧ v4 ≤ 2147483647) (h4 : (-2147483648) ≤ v5 ∧ v5 ≤ 2147483647) (h5 : 0 ≤ (M 1 1) ∧ (M 1 1) ≤ 260) (G : ai_GI ax_T M) (j : J M) (k0 : ∀ (r : Int) (M1 : MM), 20 ≤ r → r ≤ 260 → 20 ≤ (M1 1 1) → (M1 1 1) ≤ 260 → 0 ≤ 0 - (M 1 1) + r - 20 → 0 ≤ (M 1 1) - r + 20 → 0 ≤ 0 - r + (M1 1 1) → 0 ≤ r - (M1 1 1) → ai_GI ax_T M1 → ai_Fr ax_T ap_X11_feed.2.2.2.1 M M1 → Q (vi r) M1) (k1 : ∀ (r : Int) (M1 : MM), (-1) ≤ r → r ≤ (-1) → 241 ≤ (M1 1 1) → (M1 1 1) ≤ 260 → 0 ≤ (M 1 1) - 241 → 0 ≤ 0 - (M 1 1) + (M1 1 1) → 0 ≤ (M 1 1) - (M1 1 1) → ai_GI ax_T M1 → ai_Fr ax_T ap_X11_feed.2.2.2.1 M M1 → Q (vi r) M1) : CA FF sc YF (d + 2) m_X11_feed [vr 0, vi v1, vi v2, vi v3, vi v4, vi v5] M Q := by
  refine S sc d (ax_rh [v1, v2, v3, v4, v5, (M 1 1)]) M _ Q rfl rfl (And.intro (ax_r) (And.intro (ax_i (by decide) rfl) (And.intro (ax_i (by decide) rfl) (And.intro (ax_i (by decide) rfl) (And.intro (ax_i (by decide) rfl) (And.intro (ax_i (by decide) rfl) trivial)))))) ⟨(ax_e1 (by decide) h0.1 h0.2 (ax_e1 (by decide) h1.1 h1.2 (ax_e1 (by decide) h2.1 h2.2 (ax_e1 (by decide) h3.1 h3.2 (ax_e1 (by decide) h4.1 h4.2 (ax_e1 (by decide) h5.1 h5.2 ax_e0)))))), (ax_f1 (i := 1) (by decide) (by decide) (by show 0 + 1 = 1; omega) (by decide) rfl ax_f0), ax_c0, ax_m0⟩ G j (fun r M1 g f hq => ?_)
  rcases ax_q2 hq with hq | hq
  · obtain ⟨-, ρ1, e0, hr, kE, kF, kC, kN⟩ := hq
    have hr : r = vi (ρ1 6) := hr
    have e1 : ρ1 0 = v1 := e0 0 (by decide)
    have e2 : ρ1 1 = v2 := e0 1 (by decide)
    have e3 : ρ1 2 = v3 := e0 2 (by decide)
    have e4 : ρ1 3 = v4 := e0 3 (by decide)
    have e5 : ρ1 4 = v5 := e0 4 (by decide)
    have e6 : ρ1 5 = (M 1 1) := e0 5 (by decide)
    have b0 := kE _ (List.mem_cons_self)
    have b0 : 20 ≤ ρ1 6 ∧ ρ1 6 ≤ 260 := b0.2
    have b1 := kE _ (List.mem_cons_of_mem _ List.mem_cons_self)
    have b1 : 20 ≤ ρ1 7 ∧ ρ1 7 ≤ 260 := b1.2
    have f0 := (kF _ List.mem_cons_self).2.2.2
    have f0 : M1 1 ((0 + 1 : Int)).toNat = (1 * ρ1 7 + 0) + 0 := f0
    have g0 : ((0 + 1 : Int)) = 1 := by omega
    rw [g0] at f0
    have f0 : (M1 1 1) = ρ1 7 := by have f : (M1 1 1) = (1 * ρ1 7 + 0) + 0 := f0; omega
    have c0 : 0 ≤ ((-1) * ρ1 5 + (1 * ρ1 6 + 0)) + (-20) := (kC _ List.mem_cons_self).2
    have c1 : 0 ≤ (1 * ρ1 5 + ((-1) * ρ1 6 + 0)) + 20 := (kC _ (List.mem_cons_of_mem _ List.mem_cons_self)).2
    have c2 : 0 ≤ ((-1) * ρ1 6 + (1 * ρ1 7 + 0)) + 0 := (kC _ (List.mem_cons_of_mem _ (List.mem_cons_of_mem _ List.mem_cons_self))).2
    have c3 : 0 ≤ (1 * ρ1 6 + ((-1) * ρ1 7 + 0)) + 0 := (kC _ (List.mem_cons_of_mem _ (List.mem_cons_of_mem _ (List.mem_cons_of_mem _ List.mem_cons_self)))).2
    rw [hr]
    exact k0 _ _ (by omega) (by omega) (by omega) (by omega) (by omega) (by omega) (by omega) (by omega) g f
  · replace hq := ax_q1 hq
    obtain ⟨-, ρ1, e0, hr, kE, kF, kC, kN⟩ := hq
    have hr : r = vi (ρ1 6) := hr
    have e1 : ρ1 0 = v1 := e0 0 (by decide)
    have e2 : ρ1 1 = v2 := e0 1 (by decide)
    have e3 : ρ1 2 = v3 := e0 2 (by decide)
    have e4 : ρ1 3 = v4 := e0 3 (by decide)
    have e5 : ρ1 4 = v5 := e0 4 (by decide)
    have e6 : ρ1 5 = (M 1 1) := e0 5 (by decide)
    have b0 := kE _ (List.mem_cons_self)
    have b0 : (-1) ≤ ρ1 6 ∧ ρ1 6 ≤ (-1) := b0.2
    have b1 := kE _ (List.mem_cons_of_mem _ List.mem_cons_self)
    have b1 : 241 ≤ ρ1 7 ∧ ρ1 7 ≤ 260 := b1.2
    have f0 := (kF _ List.mem_cons_self).2.2.2
    have f0 : M1 1 ((0 + 1 : Int)).toNat = (1 * ρ1 7 + 0) + 0 := f0
    have g0 : ((0 + 1 : Int)) = 1 := by omega
    rw [g0] at f0
    have f0 : (M1 1 1) = ρ1 7 := by have f : (M1 1 1) = (1 * ρ1 7 + 0) + 0 := f0; omega
    have c0 : 0 ≤ (1 * ρ1 5 + 0) + (-241) := (kC _ List.mem_cons_self).2
    have c1 : 0 ≤ ((-1) * ρ1 5 + (1 * ρ1 7 + 0)) + 0 := (kC _ (List.mem_cons_of_mem _ List.mem_cons_self)).2
    have c2 : 0 ≤ (1 * ρ1 5 + ((-1) * ρ1 7 + 0)) + 0 := (kC _ (List.mem_cons_of_mem _ (List.mem_cons_of_mem _ List.mem_cons_self))).2
    rw [hr]
    exact k1 _ _ (by omega) (by omega) (by omega) (by omega) (by omega) (by omega) (by omega) g f
theorem cf_feed {sc : List Int} {a0 a1 a2 a3 a4 : Int} (i0 : in32 a0) (i1 : in32 a1) (i2 : in32 a2) (i3 : in32 a3) (i4 : in32 a4) {M : MM} (G : axG M) : CA FF sc YF 59 m_X11_feed [vr 0, vi a0, vi a1, vi a2, vi a3, vi a4] M (cxF cw_feed M) := by
  obtain ⟨g, j, W⟩ := G
  exact u_X11_feed (d := 59 - 2) (Q := cxF cw_feed M) (ah_X11_feed axH) (v1 := a0) (v2 := a1) (v3 := a2) (v4 := a3) (v5 := a4) (by have := i0; unfold in32 at this; omega) (by have := i1; unfold in32 at this; omega) (by have := i2; unfold in32 at this; omega) (by have := i3; unfold in32 at this; omega) (by have := i4; unfold in32 at this; omega) (by have := rO_1_1 g; omega) g j (fun r M1 q0 q1 q2 q3 q4 q5 q6 q7 g1 f1 => have z := (cx_fin g1 f1 j W (by decide +kernel)); ⟨⟨r, rfl⟩, z.1, z.2, Keep.of_fr f1 (by decide +kernel)⟩) (fun r M1 q0 q1 q2 q3 q4 q5 q6 g1 f1 => have z := (cx_fin g1 f1 j W (by decide +kernel)); ⟨⟨r, rfl⟩, z.1, z.2, Keep.of_fr f1 (by decide +kernel)⟩)
def cw_quarter : Nat := 0
theorem cf_quarter {sc : List Int} {a0 : Int} (i0 : in32 a0) {M : MM} (G : axG M) : CA FF sc YF 59 m_X11_quarter [vr 0, vi a0] M (cxF cw_quarter M) := by
  obtain ⟨g, j, W⟩ := G
  rcases id W.1 with ⟨e10, e11⟩ | ⟨e10, e11⟩
  · exact sx_quarter_57 (d := 53) ⟨g, j, W⟩ e10 e11 (fun r M1 G1 u k q => ⟨⟨r, rfl⟩, G1, u, Keep.zero⟩)
  · exact sx_quarter_61 (d := 53) ⟨g, j, W⟩ e10 e11 (fun r M1 G1 u k q => ⟨⟨r, rfl⟩, G1, u, Keep.zero⟩)
def cw_walk : Nat := 0
theorem cf_walk {sc : List Int} {a0 a1 : Int} (i0 : in32 a0) (i1 : in32 a1) {M : MM} (G : axG M) : CA FF sc YF 59 m_X11_walk [vr 0, vi a0, vi a1] M (cxF cw_walk M) := by
  obtain ⟨g, j, W⟩ := G
  exact sx_walk (d := 53) ⟨g, j, W⟩ (fun r M1 G1 u k q => ⟨⟨r, rfl⟩, G1, u, Keep.zero⟩)
def cw_law : Nat := kpL
theorem cf_law {sc : List Int} {a0 : Int} (i0 : in32 a0) {M : MM} (G : axG M) : CA FF sc YF 59 m_X11_law [vr 0, vi a0] M (cxF cw_law M) := by
  obtain ⟨g, j, W⟩ := G
  rcases id W.2 with ⟨e12, e13⟩ | ⟨e12, e13⟩
  · exact sx_law_65 (d := 19) ⟨g, j, W⟩ e12 e13 (fun r M1 G1 u k q kp => ⟨⟨r, rfl⟩, G1, u, kp⟩)
  · exact sx_law_73 (d := 19) ⟨g, j, W⟩ e12 e13 (fun r M1 G1 u k q kp => ⟨⟨r, rfl⟩, G1, u, kp⟩)
def cw_stranger : Nat := 551744934429463295668663929006497367117657536410540844580736585623525131641330407150600101305729251565593135388000548999182402661110765563629422853519873097265044257207470810718849231611701559251177452518992086636694164196702990349431148464210372337996054787378030953959538315518789088900655304185928974412292104966017108845614194576527430106344811141618014046340524985060258813147518236234731697646476983007188952472618715088146668512727401413955716016289276821420018610230122503940204179414416479537604711353773698362568156715516219068047240400969311056031645731574602219283320229474300893932424617158439606659971710500171522712784484336614062170423496031180227342184638823180359333962480354413460963468674908939163362549806253278617775199708373289587395057984025366246926457332028831351171064142833803462113995342483454951531990414547820673426325389254850306396883015083158548054684102658084024160094236882779284775408627941425166910826729272890066997382411129642279811682612767762097467073743072338624934609500341417793362010562831764265654996788788078987823551806641454291378161338204779015964184430443750015410535520597653138712115855389488053326680891125498146946001786541834070913539407482762936898152021433803847577427916096332365665133688976426912590609623993925642730443380292075313693744121205408828687286712078544496243007153898874896631441117230117028885417165515237027518201060537875427402888764713034231482391950381136561831143958122815273519173620129796720418743731828878314965754248192
theorem u_X11_stranger_c58 {J : MM → Prop} (S : ai_SP ax_T J ap_X11_stranger_c58) {sc : List Int} {d : Nat} {M : MM} {Q : Vv → MM → Prop} {v1 v2 v3 v4 : Int} (h0 : (-2147483648) ≤ v1 ∧ v1 ≤ 2147483647) (h1 : (-2147483648) ≤ v2 ∧ v2 ≤ 2147483647) (h2 : (-2147483648) ≤ v3 ∧ v3 ≤ 2147483647) (h3 : (-2147483648) ≤ v4 ∧ v4 ≤ 2147483647) (h4 : 58 ≤ (M 0 10) ∧ (M 0 10) ≤ 58) (G : ai_GI ax_T M) (j : J M) (k0 : ∀ (r : Int) (M1 : MM), 0 ≤ r → r ≤ 1 → ai_GI ax_T M1 → ai_Fr ax_T ap_X11_stranger_c58.2.2.2.1 M M1 → Q (vi r) M1) : CA FF sc YF (d + 3) m_X11_stranger [vr 0, vi v1, vi v2, vi v3, vi v4] M Q := by
  refine S sc d (ax_rh [v1, v2, v3, v4, (M 0 10)]) M _ Q rfl rfl (And.intro (ax_r) (And.intro (ax_i (by decide) rfl) (And.intro (ax_i (by decide) rfl) (And.intro (ax_i (by decide) rfl) (And.intro (ax_i (by decide) rfl) (And.intro (ax_o) trivial)))))) ⟨(ax_e1 (by decide) h0.1 h0.2 (ax_e1 (by decide) h1.1 h1.2 (ax_e1 (by decide) h2.1 h2.2 (ax_e1 (by decide) h3.1 h3.2 (ax_e1 (by decide) h4.1 h4.2 ax_e0))))), (ax_f1 (i := 10) (by decide) (by decide) (by show 0 + 10 = 10; omega) (by decide) rfl ax_f0), ax_c0, ax_m0⟩ G j (fun r M1 g f hq => ?_)
  replace hq := ax_q1 hq
  obtain ⟨-, ρ1, e0, hr, kE, kF, kC, kN⟩ := hq
  have hr : r = vi (ρ1 5) := hr
  have e1 : ρ1 0 = v1 := e0 0 (by decide)
  have e2 : ρ1 1 = v2 := e0 1 (by decide)
  have e3 : ρ1 2 = v3 := e0 2 (by decide)
  have e4 : ρ1 3 = v4 := e0 3 (by decide)
  have e5 : ρ1 4 = (M 0 10) := e0 4 (by decide)
  have b0 := kE _ (List.mem_cons_self)
  have b0 : 0 ≤ ρ1 5 ∧ ρ1 5 ≤ 1 := b0.2
  rw [hr]
  exact k0 _ _ (by omega) (by omega) g f
theorem u_X11_stranger_c62 {J : MM → Prop} (S : ai_SP ax_T J ap_X11_stranger_c62) {sc : List Int} {d : Nat} {M : MM} {Q : Vv → MM → Prop} {v1 v2 v3 v4 : Int} (h0 : (-2147483648) ≤ v1 ∧ v1 ≤ 2147483647) (h1 : (-2147483648) ≤ v2 ∧ v2 ≤ 2147483647) (h2 : (-2147483648) ≤ v3 ∧ v3 ≤ 2147483647) (h3 : (-2147483648) ≤ v4 ∧ v4 ≤ 2147483647) (h4 : 62 ≤ (M 0 10) ∧ (M 0 10) ≤ 62) (G : ai_GI ax_T M) (j : J M) (k0 : ∀ (r : Int) (M1 : MM), 0 ≤ r → r ≤ 1 → ai_GI ax_T M1 → ai_Fr ax_T ap_X11_stranger_c62.2.2.2.1 M M1 → Q (vi r) M1) : CA FF sc YF (d + 3) m_X11_stranger [vr 0, vi v1, vi v2, vi v3, vi v4] M Q := by
  refine S sc d (ax_rh [v1, v2, v3, v4, (M 0 10)]) M _ Q rfl rfl (And.intro (ax_r) (And.intro (ax_i (by decide) rfl) (And.intro (ax_i (by decide) rfl) (And.intro (ax_i (by decide) rfl) (And.intro (ax_i (by decide) rfl) (And.intro (ax_o) trivial)))))) ⟨(ax_e1 (by decide) h0.1 h0.2 (ax_e1 (by decide) h1.1 h1.2 (ax_e1 (by decide) h2.1 h2.2 (ax_e1 (by decide) h3.1 h3.2 (ax_e1 (by decide) h4.1 h4.2 ax_e0))))), (ax_f1 (i := 10) (by decide) (by decide) (by show 0 + 10 = 10; omega) (by decide) rfl ax_f0), ax_c0, ax_m0⟩ G j (fun r M1 g f hq => ?_)
  replace hq := ax_q1 hq
  obtain ⟨-, ρ1, e0, hr, kE, kF, kC, kN⟩ := hq
  have hr : r = vi (ρ1 5) := hr
  have e1 : ρ1 0 = v1 := e0 0 (by decide)
  have e2 : ρ1 1 = v2 := e0 1 (by decide)
  have e3 : ρ1 2 = v3 := e0 2 (by decide)
  have e4 : ρ1 3 = v4 := e0 3 (by decide)
  have e5 : ρ1 4 = (M 0 10) := e0 4 (by decide)
  have b0 := kE _ (List.mem_cons_self)
  have b0 : 0 ≤ ρ1 5 ∧ ρ1 5 ≤ 1 := b0.2
  rw [hr]
  exact k0 _ _ (by omega) (by omega) g f
theorem cf_stranger {sc : List Int} {a0 a1 a2 a3 : Int} (i0 : in32 a0) (i1 : in32 a1) (i2 : in32 a2) (i3 : in32 a3) {M : MM} (G : axG M) : CA FF sc YF 59 m_X11_stranger [vr 0, vi a0, vi a1, vi a2, vi a3] M (cxF cw_stranger M) := by
  obtain ⟨g, j, W⟩ := G
  rcases id W.1 with ⟨e10, e11⟩ | ⟨e10, e11⟩
  · exact u_X11_stranger_c58 (d := 59 - 3) (Q := cxF cw_stranger M) (ah_X11_stranger_c58 axH) (v1 := a0) (v2 := a1) (v3 := a2) (v4 := a3) (by have := i0; unfold in32 at this; omega) (by have := i1; unfold in32 at this; omega) (by have := i2; unfold in32 at this; omega) (by have := i3; unfold in32 at this; omega) (by have := rO_0_10 g; omega) g j (fun r M1 q0 q1 g1 f1 => have z := (cx_fin g1 f1 j W (by decide +kernel)); ⟨⟨r, rfl⟩, z.1, z.2, Keep.of_fr f1 (by decide +kernel)⟩)
  · exact u_X11_stranger_c62 (d := 59 - 3) (Q := cxF cw_stranger M) (ah_X11_stranger_c62 axH) (v1 := a0) (v2 := a1) (v3 := a2) (v4 := a3) (by have := i0; unfold in32 at this; omega) (by have := i1; unfold in32 at this; omega) (by have := i2; unfold in32 at this; omega) (by have := i3; unfold in32 at this; omega) (by have := rO_0_10 g; omega) g j (fun r M1 q0 q1 g1 f1 => have z := (cx_fin g1 f1 j W (by decide +kernel)); ⟨⟨r, rfl⟩, z.1, z.2, Keep.of_fr f1 (by decide +kernel)⟩)
def cw_dog : Nat := 551744934429463295668663929006497367117657536410540844580736585623525131641330407150600101305729251565593135388000548999182402661110765563629422853519873097265044257207470810718849231611701559251177452518992086636694164196702990349431148464210372337996054787378030953959538315518789088900655304185928974412292104966017108845614194576527430106344811141618014046340524985060258813147518236234731697646476983007188952472618715088146668512727401413955716016289276821420018610230122503940204179414416479537604711353773698362568156715516219068049217307448293620025407126329405860878302079894971356551385777329341108575103915294103945289270384694202170621088747766855781858602172194988749475526617264875881850446043915894205233151006843054316833900490614448795580636617097468334940454330891106826882646923376371276819372127425362807215288617307243638864469982527162835103462407240910188688477245344237327820923045666976291162261008273421927622312729385280722015579104436839971257570432247754631750408374397512872185812259306109574882499757565703084003278723242572299374589660665993792981153476712994680137548141438219585740120235818144969889624827149971986273801226958069066624808707839245149440736108964430535821063354483568853776527561840042419024382060831662029381273336326784832218707006912832993211022579411087730179678103881944081749618286624021794841118933486208458118144484049388059577797811791661748107536638715700809888186416471810685454312517668574341731656397203844982107318482166679204168978168832
theorem u_X11_dog {J : MM → Prop} (S : ai_SP ax_T J ap_X11_dog) {sc : List Int} {d : Nat} {M : MM} {Q : Vv → MM → Prop} {v1 v2 : Int} (h0 : (-2147483648) ≤ v1 ∧ v1 ≤ 2147483647) (h1 : 0 ≤ v2 ∧ v2 ≤ 1) (G : ai_GI ax_T M) (j : J M) (k0 : ∀ (r : Int) (M1 : MM), 1 ≤ r → r ≤ 1 → 0 ≤ v1 → 0 ≤ 0 - v1 + 9 → ai_GI ax_T M1 → ai_Fr ax_T ap_X11_dog.2.2.2.1 M M1 → Q (vi r) M1) (k1 : ∀ (r : Int) (M1 : MM), 0 ≤ r → r ≤ 0 → 0 ≤ 0 - v1 - 1 → ai_GI ax_T M1 → ai_Fr ax_T ap_X11_dog.2.2.2.1 M M1 → Q (vi r) M1) (k2 : ∀ (r : Int) (M1 : MM), 0 ≤ r → r ≤ 0 → 0 ≤ v1 - 10 → ai_GI ax_T M1 → ai_Fr ax_T ap_X11_dog.2.2.2.1 M M1 → Q (vi r) M1) : CA FF sc YF (d + 3) m_X11_dog [vr 0, vi v1, vi v2] M Q := by
  refine S sc d (ax_rh [v1, v2]) M _ Q rfl rfl (And.intro (ax_r) (And.intro (ax_i (by decide) rfl) (And.intro (ax_i (by decide) rfl) (And.intro (ax_o) trivial)))) ⟨(ax_e1 (by decide) h0.1 h0.2 (ax_e1 (by decide) h1.1 h1.2 ax_e0)), ax_f0, ax_c0, ax_m0⟩ G j (fun r M1 g f hq => ?_)
  rcases ax_q2 hq with hq | hq
  · obtain ⟨-, ρ1, e0, hr, kE, kF, kC, kN⟩ := hq
    have hr : r = vi (ρ1 2) := hr
    have e1 : ρ1 0 = v1 := e0 0 (by decide)
    have e2 : ρ1 1 = v2 := e0 1 (by decide)
    have b0 := kE _ (List.mem_cons_self)
    have b0 : 1 ≤ ρ1 2 ∧ ρ1 2 ≤ 1 := b0.2
    have c0 : 0 ≤ (1 * ρ1 0 + 0) + 0 := (kC _ List.mem_cons_self).2
    have c1 : 0 ≤ ((-1) * ρ1 0 + 0) + 9 := (kC _ (List.mem_cons_of_mem _ List.mem_cons_self)).2
    rw [hr]
    exact k0 _ _ (by omega) (by omega) (by omega) (by omega) g f
  · rcases ax_q2 hq with hq | hq
    · obtain ⟨-, ρ1, e0, hr, kE, kF, kC, kN⟩ := hq
      have hr : r = vi (ρ1 2) := hr
      have e1 : ρ1 0 = v1 := e0 0 (by decide)
      have e2 : ρ1 1 = v2 := e0 1 (by decide)
      have b0 := kE _ (List.mem_cons_self)
      have b0 : 0 ≤ ρ1 2 ∧ ρ1 2 ≤ 0 := b0.2
      have c0 : 0 ≤ ((-1) * ρ1 0 + 0) + (-1) := (kC _ List.mem_cons_self).2
      rw [hr]
      exact k1 _ _ (by omega) (by omega) (by omega) g f
    · replace hq := ax_q1 hq
      obtain ⟨-, ρ1, e0, hr, kE, kF, kC, kN⟩ := hq
      have hr : r = vi (ρ1 2) := hr
      have e1 : ρ1 0 = v1 := e0 0 (by decide)
      have e2 : ρ1 1 = v2 := e0 1 (by decide)
      have b0 := kE _ (List.mem_cons_self)
      have b0 : 0 ≤ ρ1 2 ∧ ρ1 2 ≤ 0 := b0.2
      have c0 : 0 ≤ (1 * ρ1 0 + 0) + (-10) := (kC _ List.mem_cons_self).2
      rw [hr]
      exact k2 _ _ (by omega) (by omega) (by omega) g f
theorem cf_dog {sc : List Int} {a0 a1 : Int} (i0 : in32 a0) (hb : a1 = 0 ∨ a1 = 1) {M : MM} (G : axG M) : CA FF sc YF 59 m_X11_dog [vr 0, vi a0, vi a1] M (cxF cw_dog M) := by
  obtain ⟨g, j, W⟩ := G
  exact u_X11_dog (d := 59 - 3) (Q := cxF cw_dog M) (ah_X11_dog axH) (v1 := a0) (v2 := a1) (by have := i0; unfold in32 at this; omega) (by omega) g j (fun r M1 q0 q1 q2 q3 g1 f1 => have z := (cx_fin g1 f1 j W (by decide +kernel)); ⟨⟨r, rfl⟩, z.1, z.2, Keep.of_fr f1 (by decide +kernel)⟩) (fun r M1 q0 q1 q2 g1 f1 => have z := (cx_fin g1 f1 j W (by decide +kernel)); ⟨⟨r, rfl⟩, z.1, z.2, Keep.of_fr f1 (by decide +kernel)⟩) (fun r M1 q0 q1 q2 g1 f1 => have z := (cx_fin g1 f1 j W (by decide +kernel)); ⟨⟨r, rfl⟩, z.1, z.2, Keep.of_fr f1 (by decide +kernel)⟩)
def cw_tells : Nat := 551744934429463295668663929006497367117657536410540844580736585623525131641330407150600101305729251565593135388000548999182402661110765563629422853519873097265044257207470810718849231611701559251177452518992086636694164196702990349431148464210372337996054787378030953959538315518789088900655304185928974412292104966017108845614194576527430106344811141618014046340524985060258813147518236234731697646476983007188952472618715088146668512727401413955716016289276821420018610230122503940204179414416479537604711353773698362568156715516219068049217307448293620025407126329405860878302079894971356551385777329341108575103915294103945289270384694202170621088747766855781858602172194988749475526617264875881850446043915894205233151006843054316833900490614448795580636617097468334940454330891106826882646923376371276819372127425362807215288617307243638864469982527162835103462407240910188688477245344237327820923045666976291162261008273421927622312729385280722015579104436839971257570432247754631750408374397512872185812259306109574882499757565703084003278723242572299374589660665993792981153476712994680137548141438219585740120235818144969889624827149971986273801226958069066624808707839245149440736108964430535821063354483568853776527561840042419024382060831662029381273336326784832218707006912832993211022579411087730179678103881944081749618286624021794841118933486208458118144484049388059577797811791661748107536638715700809888186416471810685454312517668574341731656397203844982107318482166679204168978201600
theorem u_X11_tells {J : MM → Prop} (S : ai_SP ax_T J ap_X11_tells) {sc : List Int} {d : Nat} {M : MM} {Q : Vv → MM → Prop} {v1 : Int} (h0 : (-2147483648) ≤ v1 ∧ v1 ≤ 2147483647) (G : ai_GI ax_T M) (j : J M) (k0 : ∀ (r : Int) (M1 : MM), 0 ≤ r → r ≤ 1 → ai_GI ax_T M1 → ai_Fr ax_T ap_X11_tells.2.2.2.1 M M1 → Q (vi r) M1) : CA FF sc YF (d + 3) m_X11_tells [vr 0, vi v1] M Q := by
  refine S sc d (ax_rh [v1]) M _ Q rfl rfl (And.intro (ax_r) (And.intro (ax_i (by decide) rfl) trivial)) ⟨(ax_e1 (by decide) h0.1 h0.2 ax_e0), ax_f0, ax_c0, ax_m0⟩ G j (fun r M1 g f hq => ?_)
  replace hq := ax_q1 hq
  obtain ⟨-, ρ1, e0, hr, kE, kF, kC, kN⟩ := hq
  have hr : r = vi (ρ1 1) := hr
  have e1 : ρ1 0 = v1 := e0 0 (by decide)
  have b0 := kE _ (List.mem_cons_self)
  have b0 : 0 ≤ ρ1 1 ∧ ρ1 1 ≤ 1 := b0.2
  rw [hr]
  exact k0 _ _ (by omega) (by omega) g f
theorem cf_tells {sc : List Int} {a0 : Int} (i0 : in32 a0) {M : MM} (G : axG M) : CA FF sc YF 59 m_X11_tells [vr 0, vi a0] M (cxF cw_tells M) := by
  obtain ⟨g, j, W⟩ := G
  exact u_X11_tells (d := 59 - 3) (Q := cxF cw_tells M) (ah_X11_tells axH) (v1 := a0) (by have := i0; unfold in32 at this; omega) g j (fun r M1 q0 q1 g1 f1 => have z := (cx_fin g1 f1 j W (by decide +kernel)); ⟨⟨r, rfl⟩, z.1, z.2, Keep.of_fr f1 (by decide +kernel)⟩)
def cw_haunts : Nat := 551744934429463295668663929006497367117657536410540844580736585623525131641330407150600101305729251565593135388000548999182402661110765563629422853519873097265044257207470810718849231611701559251177452518992086636694164196702990349431148464210372337996054787378030953959538315518789088900655304185928974412292104966017108845614194576527430106344811141618014046340524985060258813147518236234731697646476983007188952472618715088146668512727401413955716016289276821420018610230122503940204179414416479537604711353773698362568156715516219068047240400969311056031645731574602219283320229474300893932424617158439606659967613004754686305805179566199365893626764829064429053821960404344043452336700033832400284878389057865495108589046036781206231184743810778980928644112167470630608047116236758333956283669834976051536274961282492986914373758303160978118740063600978361345662210874564798419554680337000110648329620129997619761252883634845942845246026621947099127589680696110153987908461301144656938150398555138925711021564478240758691759185605211168526467979474743927381502547069663724488146314716694699341312660066524090900312305136992741932367855641850692229541682396297195030266884159111875638127637782596811359610240203549422386840483087427071689154379328741846024430872977916465602935212802972370080961235090562120988940403916097140803199402340755299333492221980479320846268354577345250914189308452583537854918800675299521739176959000982975641296774404721298026363942249566643916969371004735877845709028352
theorem u_X11_haunts_c58_66 {J : MM → Prop} (S : ai_SP ax_T J ap_X11_haunts_c58_66) {sc : List Int} {d : Nat} {M : MM} {Q : Vv → MM → Prop} {v1 : Int} (h0 : (-2147483648) ≤ v1 ∧ v1 ≤ 2147483647) (h1 : 58 ≤ (M 0 10) ∧ (M 0 10) ≤ 58) (h2 : 66 ≤ (M 0 12) ∧ (M 0 12) ≤ 66) (G : ai_GI ax_T M) (j : J M) (k0 : ∀ (r : Int) (M1 : MM), (-2147483648) ≤ r → r ≤ 2147483647 → ai_GI ax_T M1 → ai_Fr ax_T ap_X11_haunts_c58_66.2.2.2.1 M M1 → Q (vi r) M1) : CA FF sc YF (d + 7) m_X11_haunts [vr 0, vi v1] M Q := by
  refine S sc d (ax_rh [v1, (M 0 10), (M 0 12)]) M _ Q rfl rfl (And.intro (ax_r) (And.intro (ax_i (by decide) rfl) trivial)) ⟨(ax_e1 (by decide) h0.1 h0.2 (ax_e1 (by decide) h1.1 h1.2 (ax_e1 (by decide) h2.1 h2.2 ax_e0))), (ax_f1 (i := 10) (by decide) (by decide) (by show 0 + 10 = 10; omega) (by decide) rfl (ax_f1 (i := 12) (by decide) (by decide) (by show 0 + 12 = 12; omega) (by decide) rfl ax_f0)), ax_c0, ax_m0⟩ G j (fun r M1 g f hq => ?_)
  replace hq := ax_q1 hq
  obtain ⟨-, ρ1, e0, hr, kE, kF, kC, kN⟩ := hq
  have hr : r = vi (ρ1 3) := hr
  have e1 : ρ1 0 = v1 := e0 0 (by decide)
  have e2 : ρ1 1 = (M 0 10) := e0 1 (by decide)
  have e3 : ρ1 2 = (M 0 12) := e0 2 (by decide)
  have b0 := kE _ (List.mem_cons_self)
  have b0 : (-2147483648) ≤ ρ1 3 ∧ ρ1 3 ≤ 2147483647 := b0.2
  rw [hr]
  exact k0 _ _ (by omega) (by omega) g f
theorem u_X11_haunts_c58_74 {J : MM → Prop} (S : ai_SP ax_T J ap_X11_haunts_c58_74) {sc : List Int} {d : Nat} {M : MM} {Q : Vv → MM → Prop} {v1 : Int} (h0 : (-2147483648) ≤ v1 ∧ v1 ≤ 2147483647) (h1 : 58 ≤ (M 0 10) ∧ (M 0 10) ≤ 58) (h2 : 74 ≤ (M 0 12) ∧ (M 0 12) ≤ 74) (G : ai_GI ax_T M) (j : J M) (k0 : ∀ (r : Int) (M1 : MM), (-2147483648) ≤ r → r ≤ 2147483647 → ai_GI ax_T M1 → ai_Fr ax_T ap_X11_haunts_c58_74.2.2.2.1 M M1 → Q (vi r) M1) : CA FF sc YF (d + 7) m_X11_haunts [vr 0, vi v1] M Q := by
  refine S sc d (ax_rh [v1, (M 0 10), (M 0 12)]) M _ Q rfl rfl (And.intro (ax_r) (And.intro (ax_i (by decide) rfl) trivial)) ⟨(ax_e1 (by decide) h0.1 h0.2 (ax_e1 (by decide) h1.1 h1.2 (ax_e1 (by decide) h2.1 h2.2 ax_e0))), (ax_f1 (i := 10) (by decide) (by decide) (by show 0 + 10 = 10; omega) (by decide) rfl (ax_f1 (i := 12) (by decide) (by decide) (by show 0 + 12 = 12; omega) (by decide) rfl ax_f0)), ax_c0, ax_m0⟩ G j (fun r M1 g f hq => ?_)
  replace hq := ax_q1 hq
  obtain ⟨-, ρ1, e0, hr, kE, kF, kC, kN⟩ := hq
  have hr : r = vi (ρ1 3) := hr
  have e1 : ρ1 0 = v1 := e0 0 (by decide)
  have e2 : ρ1 1 = (M 0 10) := e0 1 (by decide)
  have e3 : ρ1 2 = (M 0 12) := e0 2 (by decide)
  have b0 := kE _ (List.mem_cons_self)
  have b0 : (-2147483648) ≤ ρ1 3 ∧ ρ1 3 ≤ 2147483647 := b0.2
  rw [hr]
  exact k0 _ _ (by omega) (by omega) g f
theorem u_X11_haunts_c62_66 {J : MM → Prop} (S : ai_SP ax_T J ap_X11_haunts_c62_66) {sc : List Int} {d : Nat} {M : MM} {Q : Vv → MM → Prop} {v1 : Int} (h0 : (-2147483648) ≤ v1 ∧ v1 ≤ 2147483647) (h1 : 62 ≤ (M 0 10) ∧ (M 0 10) ≤ 62) (h2 : 66 ≤ (M 0 12) ∧ (M 0 12) ≤ 66) (G : ai_GI ax_T M) (j : J M) (k0 : ∀ (r : Int) (M1 : MM), (-2147483648) ≤ r → r ≤ 2147483647 → ai_GI ax_T M1 → ai_Fr ax_T ap_X11_haunts_c62_66.2.2.2.1 M M1 → Q (vi r) M1) : CA FF sc YF (d + 7) m_X11_haunts [vr 0, vi v1] M Q := by
  refine S sc d (ax_rh [v1, (M 0 10), (M 0 12)]) M _ Q rfl rfl (And.intro (ax_r) (And.intro (ax_i (by decide) rfl) trivial)) ⟨(ax_e1 (by decide) h0.1 h0.2 (ax_e1 (by decide) h1.1 h1.2 (ax_e1 (by decide) h2.1 h2.2 ax_e0))), (ax_f1 (i := 10) (by decide) (by decide) (by show 0 + 10 = 10; omega) (by decide) rfl (ax_f1 (i := 12) (by decide) (by decide) (by show 0 + 12 = 12; omega) (by decide) rfl ax_f0)), ax_c0, ax_m0⟩ G j (fun r M1 g f hq => ?_)
  replace hq := ax_q1 hq
  obtain ⟨-, ρ1, e0, hr, kE, kF, kC, kN⟩ := hq
  have hr : r = vi (ρ1 3) := hr
  have e1 : ρ1 0 = v1 := e0 0 (by decide)
  have e2 : ρ1 1 = (M 0 10) := e0 1 (by decide)
  have e3 : ρ1 2 = (M 0 12) := e0 2 (by decide)
  have b0 := kE _ (List.mem_cons_self)
  have b0 : (-2147483648) ≤ ρ1 3 ∧ ρ1 3 ≤ 2147483647 := b0.2
  rw [hr]
  exact k0 _ _ (by omega) (by omega) g f
theorem u_X11_haunts_c62_74 {J : MM → Prop} (S : ai_SP ax_T J ap_X11_haunts_c62_74) {sc : List Int} {d : Nat} {M : MM} {Q : Vv → MM → Prop} {v1 : Int} (h0 : (-2147483648) ≤ v1 ∧ v1 ≤ 2147483647) (h1 : 62 ≤ (M 0 10) ∧ (M 0 10) ≤ 62) (h2 : 74 ≤ (M 0 12) ∧ (M 0 12) ≤ 74) (G : ai_GI ax_T M) (j : J M) (k0 : ∀ (r : Int) (M1 : MM), (-2147483648) ≤ r → r ≤ 2147483647 → ai_GI ax_T M1 → ai_Fr ax_T ap_X11_haunts_c62_74.2.2.2.1 M M1 → Q (vi r) M1) : CA FF sc YF (d + 7) m_X11_haunts [vr 0, vi v1] M Q := by
  refine S sc d (ax_rh [v1, (M 0 10), (M 0 12)]) M _ Q rfl rfl (And.intro (ax_r) (And.intro (ax_i (by decide) rfl) trivial)) ⟨(ax_e1 (by decide) h0.1 h0.2 (ax_e1 (by decide) h1.1 h1.2 (ax_e1 (by decide) h2.1 h2.2 ax_e0))), (ax_f1 (i := 10) (by decide) (by decide) (by show 0 + 10 = 10; omega) (by decide) rfl (ax_f1 (i := 12) (by decide) (by decide) (by show 0 + 12 = 12; omega) (by decide) rfl ax_f0)), ax_c0, ax_m0⟩ G j (fun r M1 g f hq => ?_)
  replace hq := ax_q1 hq
  obtain ⟨-, ρ1, e0, hr, kE, kF, kC, kN⟩ := hq
  have hr : r = vi (ρ1 3) := hr
  have e1 : ρ1 0 = v1 := e0 0 (by decide)
  have e2 : ρ1 1 = (M 0 10) := e0 1 (by decide)
  have e3 : ρ1 2 = (M 0 12) := e0 2 (by decide)
  have b0 := kE _ (List.mem_cons_self)
  have b0 : (-2147483648) ≤ ρ1 3 ∧ ρ1 3 ≤ 2147483647 := b0.2
  rw [hr]
  exact k0 _ _ (by omega) (by omega) g f
theorem cf_haunts {sc : List Int} {a0 : Int} (i0 : in32 a0) {M : MM} (G : axG M) : CA FF sc YF 59 m_X11_haunts [vr 0, vi a0] M (cxF cw_haunts M) := by
  obtain ⟨g, j, W⟩ := G
  rcases id W.1 with ⟨e10, e11⟩ | ⟨e10, e11⟩ <;> rcases id W.2 with ⟨e12, e13⟩ | ⟨e12, e13⟩
  · exact u_X11_haunts_c58_66 (d := 59 - 7) (Q := cxF cw_haunts M) (ah_X11_haunts_c58_66 axH) (v1 := a0) (by have := i0; unfold in32 at this; omega) (by have := rO_0_10 g; omega) (by have := rO_0_12 g; omega) g j (fun r M1 q0 q1 g1 f1 => have z := (cx_fin g1 f1 j W (by decide +kernel)); ⟨⟨r, rfl⟩, z.1, z.2, Keep.of_fr f1 (by decide +kernel)⟩)
  · exact u_X11_haunts_c58_74 (d := 59 - 7) (Q := cxF cw_haunts M) (ah_X11_haunts_c58_74 axH) (v1 := a0) (by have := i0; unfold in32 at this; omega) (by have := rO_0_10 g; omega) (by have := rO_0_12 g; omega) g j (fun r M1 q0 q1 g1 f1 => have z := (cx_fin g1 f1 j W (by decide +kernel)); ⟨⟨r, rfl⟩, z.1, z.2, Keep.of_fr f1 (by decide +kernel)⟩)
  · exact u_X11_haunts_c62_66 (d := 59 - 7) (Q := cxF cw_haunts M) (ah_X11_haunts_c62_66 axH) (v1 := a0) (by have := i0; unfold in32 at this; omega) (by have := rO_0_10 g; omega) (by have := rO_0_12 g; omega) g j (fun r M1 q0 q1 g1 f1 => have z := (cx_fin g1 f1 j W (by decide +kernel)); ⟨⟨r, rfl⟩, z.1, z.2, Keep.of_fr f1 (by decide +kernel)⟩)
  · exact u_X11_haunts_c62_74 (d := 59 - 7) (Q := cxF cw_haunts M) (ah_X11_haunts_c62_74 axH) (v1 := a0) (by have := i0; unfold in32 at this; omega) (by have := rO_0_10 g; omega) (by have := rO_0_12 g; omega) g j (fun r M1 q0 q1 g1 f1 => have z := (cx_fin g1 f1 j W (by decide +kernel)); ⟨⟨r, rfl⟩, z.1, z.2, Keep.of_fr f1 (by decide +kernel)⟩)
def cw_tried : Nat := 551744934429463295668663929006497367117657536410540844580736585623525131641330407150600101305729251565593135388000548999182402661110765563629422853519873097265044257207470810718849231611701559251177452518992086636694164196702990349431148464210372337996054787378030953959538315518789088900655304185928974412292104966017108845614194576527430106344811141618014046340524985060258813147518236234731697646476983007188952472618715088146668512727401413955716016289276821420018610230122503940204179414416479537604711353773698362568156715516219068049217307448293620025407126329405860878302079894971356551385777329341108575104188460465067716402338345563150372875196513663501744493017422911170534301669286247952562352062972632449783415057524154144270168154918616169345064208554661376028348345277245028030298954909626437524553486172093604856463061056887618551642337570754298106877127521483105330819206832309588721707353450495068829871391227193875893351442895343586540231953132408779645822042345529127785669930698659518800718121696988043860516516047473290478513977196794636737392944637446497440487811612200301245739592796701314040801783515522329674941360466481143680277174206682463419191034664759962459096893611108277523632806565585815455900057373969438622780681474841033819018586394518777360540884745439856118541438485410844026234524426107238778938803394563101327648859836184305320754404778580844684731928597347874077401302984883123871067415897154257866968996583113940097843709062526987207436772888288699976981216256
theorem u_X11_tried_c58_66 {J : MM → Prop} (S : ai_SP ax_T J ap_X11_tried_c58_66) {sc : List Int} {d : Nat} {M : MM} {Q : Vv → MM → Prop} {v1 v2 : Int} (h0 : (-2147483648) ≤ v1 ∧ v1 ≤ 2147483647) (h1 : (-2147483648) ≤ v2 ∧ v2 ≤ 2147483647) (h2 : 58 ≤ (M 0 10) ∧ (M 0 10) ≤ 58) (h3 : 66 ≤ (M 0 12) ∧ (M 0 12) ≤ 66) (G : ai_GI ax_T M) (j : J M) (k0 : ∀ (r : Int) (M1 : MM), (-2147483648) ≤ r → r ≤ 2147483647 → ai_GI ax_T M1 → ai_Fr ax_T ap_X11_tried_c58_66.2.2.2.1 M M1 → Q (vi r) M1) : CA FF sc YF (d + 7) m_X11_tried [vr 0, vi v1, vi v2] M Q := by
  refine S sc d (ax_rh [v1, v2, (M 0 10), (M 0 12)]) M _ Q rfl rfl (And.intro (ax_r) (And.intro (ax_i (by decide) rfl) (And.intro (ax_i (by decide) rfl) trivial))) ⟨(ax_e1 (by decide) h0.1 h0.2 (ax_e1 (by decide) h1.1 h1.2 (ax_e1 (by decide) h2.1 h2.2 (ax_e1 (by decide) h3.1 h3.2 ax_e0)))), (ax_f1 (i := 10) (by decide) (by decide) (by show 0 + 10 = 10; omega) (by decide) rfl (ax_f1 (i := 12) (by decide) (by decide) (by show 0 + 12 = 12; omega) (by decide) rfl ax_f0)), ax_c0, ax_m0⟩ G j (fun r M1 g f hq => ?_)
  replace hq := ax_q1 hq
  obtain ⟨-, ρ1, e0, hr, kE, kF, kC, kN⟩ := hq
  have hr : r = vi (ρ1 4) := hr
  have e1 : ρ1 0 = v1 := e0 0 (by decide)
  have e2 : ρ1 1 = v2 := e0 1 (by decide)
  have e3 : ρ1 2 = (M 0 10) := e0 2 (by decide)
  have e4 : ρ1 3 = (M 0 12) := e0 3 (by decide)
  have b0 := kE _ (List.mem_cons_self)
  have b0 : (-2147483648) ≤ ρ1 4 ∧ ρ1 4 ≤ 2147483647 := b0.2
  rw [hr]
  exact k0 _ _ (by omega) (by omega) g f
theorem u_X11_tried_c58_74 {J : MM → Prop} (S : ai_SP ax_T J ap_X11_tried_c58_74) {sc : List Int} {d : Nat} {M : MM} {Q : Vv → MM → Prop} {v1 v2 : Int} (h0 : (-2147483648) ≤ v1 ∧ v1 ≤ 2147483647) (h1 : (-2147483648) ≤ v2 ∧ v2 ≤ 2147483647) (h2 : 58 ≤ (M 0 10) ∧ (M 0 10) ≤ 58) (h3 : 74 ≤ (M 0 12) ∧ (M 0 12) ≤ 74) (G : ai_GI ax_T M) (j : J M) (k0 : ∀ (r : Int) (M1 : MM), (-2147483648) ≤ r → r ≤ 2147483647 → ai_GI ax_T M1 → ai_Fr ax_T ap_X11_tried_c58_74.2.2.2.1 M M1 → Q (vi r) M1) : CA FF sc YF (d + 7) m_X11_tried [vr 0, vi v1, vi v2] M Q := by
  refine S sc d (ax_rh [v1, v2, (M 0 10), (M 0 12)]) M _ Q rfl rfl (And.intro (ax_r) (And.intro (ax_i (by decide) rfl) (And.intro (ax_i (by decide) rfl) trivial))) ⟨(ax_e1 (by decide) h0.1 h0.2 (ax_e1 (by decide) h1.1 h1.2 (ax_e1 (by decide) h2.1 h2.2 (ax_e1 (by decide) h3.1 h3.2 ax_e0)))), (ax_f1 (i := 10) (by decide) (by decide) (by show 0 + 10 = 10; omega) (by decide) rfl (ax_f1 (i := 12) (by decide) (by decide) (by show 0 + 12 = 12; omega) (by decide) rfl ax_f0)), ax_c0, ax_m0⟩ G j (fun r M1 g f hq => ?_)
  replace hq := ax_q1 hq
  obtain ⟨-, ρ1, e0, hr, kE, kF, kC, kN⟩ := hq
  have hr : r = vi (ρ1 4) := hr
  have e1 : ρ1 0 = v1 := e0 0 (by decide)
  have e2 : ρ1 1 = v2 := e0 1 (by decide)
  have e3 : ρ1 2 = (M 0 10) := e0 2 (by decide)
  have e4 : ρ1 3 = (M 0 12) := e0 3 (by decide)
  have b0 := kE _ (List.mem_cons_self)
  have b0 : (-2147483648) ≤ ρ1 4 ∧ ρ1 4 ≤ 2147483647 := b0.2
  rw [hr]
  exact k0 _ _ (by omega) (by omega) g f
theorem u_X11_tried_c62_66 {J : MM → Prop} (S : ai_SP ax_T J ap_X11_tried_c62_66) {sc : List Int} {d : Nat} {M : MM} {Q : Vv → MM → Prop} {v1 v2 : Int} (h0 : (-2147483648) ≤ v1 ∧ v1 ≤ 2147483647) (h1 : (-2147483648) ≤ v2 ∧ v2 ≤ 2147483647) (h2 : 62 ≤ (M 0 10) ∧ (M 0 10) ≤ 62) (h3 : 66 ≤ (M 0 12) ∧ (M 0 12) ≤ 66) (G : ai_GI ax_T M) (j : J M) (k0 : ∀ (r : Int) (M1 : MM), (-2147483648) ≤ r → r ≤ 2147483647 → ai_GI ax_T M1 → ai_Fr ax_T ap_X11_tried_c62_66.2.2.2.1 M M1 → Q (vi r) M1) : CA FF sc YF (d + 7) m_X11_tried [vr 0, vi v1, vi v2] M Q := by
  refine S sc d (ax_rh [v1, v2, (M 0 10), (M 0 12)]) M _ Q rfl rfl (And.intro (ax_r) (And.intro (ax_i (by decide) rfl) (And.intro (ax_i (by decide) rfl) trivial))) ⟨(ax_e1 (by decide) h0.1 h0.2 (ax_e1 (by decide) h1.1 h1.2 (ax_e1 (by decide) h2.1 h2.2 (ax_e1 (by decide) h3.1 h3.2 ax_e0)))), (ax_f1 (i := 10) (by decide) (by decide) (by show 0 + 10 = 10; omega) (by decide) rfl (ax_f1 (i := 12) (by decide) (by decide) (by show 0 + 12 = 12; omega) (by decide) rfl ax_f0)), ax_c0, ax_m0⟩ G j (fun r M1 g f hq => ?_)
  replace hq := ax_q1 hq
  obtain ⟨-, ρ1, e0, hr, kE, kF, kC, kN⟩ := hq
  have hr : r = vi (ρ1 4) := hr
  have e1 : ρ1 0 = v1 := e0 0 (by decide)
  have e2 : ρ1 1 = v2 := e0 1 (by decide)
  have e3 : ρ1 2 = (M 0 10) := e0 2 (by decide)
  have e4 : ρ1 3 = (M 0 12) := e0 3 (by decide)
  have b0 := kE _ (List.mem_cons_self)
  have b0 : (-2147483648) ≤ ρ1 4 ∧ ρ1 4 ≤ 2147483647 := b0.2
  rw [hr]
  exact k0 _ _ (by omega) (by omega) g f
theorem u_X11_tried_c62_74 {J : MM → Prop} (S : ai_SP ax_T J ap_X11_tried_c62_74) {sc : List Int} {d : Nat} {M : MM} {Q : Vv → MM → Prop} {v1 v2 : Int} (h0 : (-2147483648) ≤ v1 ∧ v1 ≤ 2147483647) (h1 : (-2147483648) ≤ v2 ∧ v2 ≤ 2147483647) (h2 : 62 ≤ (M 0 10) ∧ (M 0 10) ≤ 62) (h3 : 74 ≤ (M 0 12) ∧ (M 0 12) ≤ 74) (G : ai_GI ax_T M) (j : J M) (k0 : ∀ (r : Int) (M1 : MM), (-2147483648) ≤ r → r ≤ 2147483647 → ai_GI ax_T M1 → ai_Fr ax_T ap_X11_tried_c62_74.2.2.2.1 M M1 → Q (vi r) M1) : CA FF sc YF (d + 7) m_X11_tried [vr 0, vi v1, vi v2] M Q := by
  refine S sc d (ax_rh [v1, v2, (M 0 10), (M 0 12)]) M _ Q rfl rfl (And.intro (ax_r) (And.intro (ax_i (by decide) rfl) (And.intro (ax_i (by decide) rfl) trivial))) ⟨(ax_e1 (by decide) h0.1 h0.2 (ax_e1 (by decide) h1.1 h1.2 (ax_e1 (by decide) h2.1 h2.2 (ax_e1 (by decide) h3.1 h3.2 ax_e0)))), (ax_f1 (i := 10) (by decide) (by decide) (by show 0 + 10 = 10; omega) (by decide) rfl (ax_f1 (i := 12) (by decide) (by decide) (by show 0 + 12 = 12; omega) (by decide) rfl ax_f0)), ax_c0, ax_m0⟩ G j (fun r M1 g f hq => ?_)
  replace hq := ax_q1 hq
  obtain ⟨-, ρ1, e0, hr, kE, kF, kC, kN⟩ := hq
  have hr : r = vi (ρ1 4) := hr
  have e1 : ρ1 0 = v1 := e0 0 (by decide)
  have e2 : ρ1 1 = v2 := e0 1 (by decide)
  have e3 : ρ1 2 = (M 0 10) := e0 2 (by decide)
  have e4 : ρ1 3 = (M 0 12) := e0 3 (by decide)
  have b0 := kE _ (List.mem_cons_self)
  have b0 : (-2147483648) ≤ ρ1 4 ∧ ρ1 4 ≤ 2147483647 := b0.2
  rw [hr]
  exact k0 _ _ (by omega) (by omega) g f
theorem cf_tried {sc : List Int} {a0 a1 : Int} (i0 : in32 a0) (i1 : in32 a1) {M : MM} (G : axG M) : CA FF sc YF 59 m_X11_tried [vr 0, vi a0, vi a1] M (cxF cw_tried M) := by
  obtain ⟨g, j, W⟩ := G
  rcases id W.1 with ⟨e10, e11⟩ | ⟨e10, e11⟩ <;> rcases id W.2 with ⟨e12, e13⟩ | ⟨e12, e13⟩
  · exact u_X11_tried_c58_66 (d := 59 - 7) (Q := cxF cw_tried M) (ah_X11_tried_c58_66 axH) (v1 := a0) (v2 := a1) (by have := i0; unfold in32 at this; omega) (by have := i1; unfold in32 at this; omega) (by have := rO_0_10 g; omega) (by have := rO_0_12 g; omega) g j (fun r M1 q0 q1 g1 f1 => have z := (cx_fin g1 f1 j W (by decide +kernel)); ⟨⟨r, rfl⟩, z.1, z.2, Keep.of_fr f1 (by decide +kernel)⟩)
  · exact u_X11_tried_c58_74 (d := 59 - 7) (Q := cxF cw_tried M) (ah_X11_tried_c58_74 axH) (v1 := a0) (v2 := a1) (by have := i0; unfold in32 at this; omega) (by have := i1; unfold in32 at this; omega) (by have := rO_0_10 g; omega) (by have := rO_0_12 g; omega) g j (fun r M1 q0 q1 g1 f1 => have z := (cx_fin g1 f1 j W (by decide +kernel)); ⟨⟨r, rfl⟩, z.1, z.2, Keep.of_fr f1 (by decide +kernel)⟩)
  · exact u_X11_tried_c62_66 (d := 59 - 7) (Q := cxF cw_tried M) (ah_X11_tried_c62_66 axH) (v1 := a0) (v2 := a1) (by have := i0; unfold in32 at this; omega) (by have := i1; unfold in32 at this; omega) (by have := rO_0_10 g; omega) (by have := rO_0_12 g; omega) g j (fun r M1 q0 q1 g1 f1 => have z := (cx_fin g1 f1 j W (by decide +kernel)); ⟨⟨r, rfl⟩, z.1, z.2, Keep.of_fr f1 (by decide +kernel)⟩)
  · exact u_X11_tried_c62_74 (d := 59 - 7) (Q := cxF cw_tried M) (ah_X11_tried_c62_74 axH) (v1 := a0) (v2 := a1) (by have := i0; unfold in32 at this; omega) (by have := i1; unfold in32 at this; omega) (by have := rO_0_10 g; omega) (by have := rO_0_12 g; omega) g j (fun r M1 q0 q1 g1 f1 => have z := (cx_fin g1 f1 j W (by decide +kernel)); ⟨⟨r, rfl⟩, z.1, z.2, Keep.of_fr f1 (by decide +kernel)⟩)
def cw_strangerIs : Nat := 551744934429463295668663929006497367117657536410540844580736585623525131641330407150600101305729251565593135388000548999182402661110765563629422853519873097265044257207470810718849231611701559251177452518992086636694164196702990349431148464210372337996054787378030953959538315518789088900655304185928974412292104966017108845614194576527430106344811141618014046340524985060258813147518236234731697646476983007188952472618715088146668512727401413955716016289276821420018610230122503940204179414416479537604711353773698362568156715516219068049217307448293620025407126329405860878302079894971356551385777329341108575104188460465067716402338345563150372875196513663501744493017422911170534301669286247952562352062972632449783415057524154144270168154918616169345064208554661376028348345277245028030298954909626437524553486172093604856463061056887618551642337570754298106877127521483105330819206832309588721707353450495068829871391227193875893351442895343586540231953132408779645822042345529127785669930698659518800718121696988043860516516047473290478513977196794636737392944637446497440487811612200301245739592796701314040801783515522329674941360466481143680277174206682463419191034664759962459096893611108277523632806565585815455900057373969438622780681474841033819018586394518777360540884745439856118541438485410844026234524426107238778938803394563101327648859836184305320754404778580844684731928597347874077401302984883123871067415897154257866968996583113940097843709062526987207436772888288699976981216256
theorem u_X11_strangerIs_c58 {J : MM → Prop} (S : ai_SP ax_T J ap_X11_strangerIs_c58) {sc : List Int} {d : Nat} {M : MM} {Q : Vv → MM → Prop} {v1 v2 : Int} (h0 : (-2147483648) ≤ v1 ∧ v1 ≤ 2147483647) (h1 : (-2147483648) ≤ v2 ∧ v2 ≤ 2147483647) (h2 : 58 ≤ (M 0 10) ∧ (M 0 10) ≤ 58) (G : ai_GI ax_T M) (j : J M) (k0 : ∀ (r : Int) (M1 : MM), (-1) ≤ r → r ≤ 1023 → ai_GI ax_T M1 → ai_Fr ax_T ap_X11_strangerIs_c58.2.2.2.1 M M1 → Q (vi r) M1) : CA FF sc YF (d + 3) m_X11_strangerIs [vr 0, vi v1, vi v2] M Q := by
  refine S sc d (ax_rh [v1, v2, (M 0 10)]) M _ Q rfl rfl (And.intro (ax_r) (And.intro (ax_i (by decide) rfl) (And.intro (ax_i (by decide) rfl) trivial))) ⟨(ax_e1 (by decide) h0.1 h0.2 (ax_e1 (by decide) h1.1 h1.2 (ax_e1 (by decide) h2.1 h2.2 ax_e0))), (ax_f1 (i := 10) (by decide) (by decide) (by show 0 + 10 = 10; omega) (by decide) rfl ax_f0), ax_c0, ax_m0⟩ G j (fun r M1 g f hq => ?_)
  replace hq := ax_q1 hq
  obtain ⟨-, ρ1, e0, hr, kE, kF, kC, kN⟩ := hq
  have hr : r = vi (ρ1 3) := hr
  have e1 : ρ1 0 = v1 := e0 0 (by decide)
  have e2 : ρ1 1 = v2 := e0 1 (by decide)
  have e3 : ρ1 2 = (M 0 10) := e0 2 (by decide)
  have b0 := kE _ (List.mem_cons_self)
  have b0 : (-1) ≤ ρ1 3 ∧ ρ1 3 ≤ 1023 := b0.2
  rw [hr]
  exact k0 _ _ (by omega) (by omega) g f
theorem u_X11_strangerIs_c62 {J : MM → Prop} (S : ai_SP ax_T J ap_X11_strangerIs_c62) {sc : List Int} {d : Nat} {M : MM} {Q : Vv → MM → Prop} {v1 v2 : Int} (h0 : (-2147483648) ≤ v1 ∧ v1 ≤ 2147483647) (h1 : (-2147483648) ≤ v2 ∧ v2 ≤ 2147483647) (h2 : 62 ≤ (M 0 10) ∧ (M 0 10) ≤ 62) (G : ai_GI ax_T M) (j : J M) (k0 : ∀ (r : Int) (M1 : MM), (-1) ≤ r → r ≤ 1023 → ai_GI ax_T M1 → ai_Fr ax_T ap_X11_strangerIs_c62.2.2.2.1 M M1 → Q (vi r) M1) : CA FF sc YF (d + 3) m_X11_strangerIs [vr 0, vi v1, vi v2] M Q := by
  refine S sc d (ax_rh [v1, v2, (M 0 10)]) M _ Q rfl rfl (And.intro (ax_r) (And.intro (ax_i (by decide) rfl) (And.intro (ax_i (by decide) rfl) trivial))) ⟨(ax_e1 (by decide) h0.1 h0.2 (ax_e1 (by decide) h1.1 h1.2 (ax_e1 (by decide) h2.1 h2.2 ax_e0))), (ax_f1 (i := 10) (by decide) (by decide) (by show 0 + 10 = 10; omega) (by decide) rfl ax_f0), ax_c0, ax_m0⟩ G j (fun r M1 g f hq => ?_)
  replace hq := ax_q1 hq
  obtain ⟨-, ρ1, e0, hr, kE, kF, kC, kN⟩ := hq
  have hr : r = vi (ρ1 3) := hr
  have e1 : ρ1 0 = v1 := e0 0 (by decide)
  have e2 : ρ1 1 = v2 := e0 1 (by decide)
  have e3 : ρ1 2 = (M 0 10) := e0 2 (by decide)
  have b0 := kE _ (List.mem_cons_self)
  have b0 : (-1) ≤ ρ1 3 ∧ ρ1 3 ≤ 1023 := b0.2
  rw [hr]
  exact k0 _ _ (by omega) (by omega) g f
theorem cf_strangerIs {sc : List Int} {a0 a1 : Int} (i0 : in32 a0) (i1 : in32 a1) {M : MM} (G : axG M) : CA FF sc YF 59 m_X11_strangerIs [vr 0, vi a0, vi a1] M (cxF cw_strangerIs M) := by
  obtain ⟨g, j, W⟩ := G
  rcases id W.1 with ⟨e10, e11⟩ | ⟨e10, e11⟩
  · exact u_X11_strangerIs_c58 (d := 59 - 3) (Q := cxF cw_strangerIs M) (ah_X11_strangerIs_c58 axH) (v1 := a0) (v2 := a1) (by have := i0; unfold in32 at this; omega) (by have := i1; unfold in32 at this; omega) (by have := rO_0_10 g; omega) g j (fun r M1 q0 q1 g1 f1 => have z := (cx_fin g1 f1 j W (by decide +kernel)); ⟨⟨r, rfl⟩, z.1, z.2, Keep.of_fr f1 (by decide +kernel)⟩)
  · exact u_X11_strangerIs_c62 (d := 59 - 3) (Q := cxF cw_strangerIs M) (ah_X11_strangerIs_c62 axH) (v1 := a0) (v2 := a1) (by have := i0; unfold in32 at this; omega) (by have := i1; unfold in32 at this; omega) (by have := rO_0_10 g; omega) g j (fun r M1 q0 q1 g1 f1 => have z := (cx_fin g1 f1 j W (by decide +kernel)); ⟨⟨r, rfl⟩, z.1, z.2, Keep.of_fr f1 (by decide +kernel)⟩)
def cw_houseIs : Nat := 551744934429463295668663929006497367117657536410540844580736585623525131641330407150600101305729251565593135388000548999182402661110765563629422853519873097265044257207470810718849231611701559251177452518992086636694164196702990349431148464210372337996054787378030953959538315518789088900655304185928974412292104966017108845614194576527430106344811141618014046340524985060258813147518236234731697646476983007188952472618715088146668512727401413955716016289276821420018610230122503940204179414416479537604711353773698362568156715516219068049217307448293620025407126329405860878302079894971356551385777329341108575104188460465067716402338345563150372875196513663501744493017422911170534301669286247952562352062972632449783415057524154144270168154918616169345064208554661376028348345277245028030298954909626437524553486172093604856463061056887618551642337570754298106877127521483105330819206832309588721707353450495068829871391227193875893351442895343586540231953132408779645822042345529127785669930698659518800718121696988043860516516047473290478513977196794636737392944637446497440487811612200301245739592796701314040801783515522329674941360466481143680277174206682463419191034664759962459096893611108277523632806565585815455900057373969438622780681474841033819018586394518777360540884745439856118541438485410844026234524426107238778938803394563101327648859836184305320754404778580844684731928597347874077401302984883123871067415897154257866968996583113940097843709062526987207436772888288699976981216256
theorem u_X11_houseIs_c58_66 {J : MM → Prop} (S : ai_SP ax_T J ap_X11_houseIs_c58_66) {sc : List Int} {d : Nat} {M : MM} {Q : Vv → MM → Prop} {v1 v2 : Int} (h0 : (-2147483648) ≤ v1 ∧ v1 ≤ 2147483647) (h1 : (-2147483648) ≤ v2 ∧ v2 ≤ 2147483647) (h2 : 58 ≤ (M 0 10) ∧ (M 0 10) ≤ 58) (h3 : 66 ≤ (M 0 12) ∧ (M 0 12) ≤ 66) (G : ai_GI ax_T M) (j : J M) (k0 : ∀ (r : Int) (M1 : MM), (-2) ≤ r → r ≤ 255 → ai_GI ax_T M1 → ai_Fr ax_T ap_X11_houseIs_c58_66.2.2.2.1 M M1 → Q (vi r) M1) : CA FF sc YF (d + 5) m_X11_houseIs [vr 0, vi v1, vi v2] M Q := by
  refine S sc d (ax_rh [v1, v2, (M 0 10), (M 0 12)]) M _ Q rfl rfl (And.intro (ax_r) (And.intro (ax_i (by decide) rfl) (And.intro (ax_i (by decide) rfl) trivial))) ⟨(ax_e1 (by decide) h0.1 h0.2 (ax_e1 (by decide) h1.1 h1.2 (ax_e1 (by decide) h2.1 h2.2 (ax_e1 (by decide) h3.1 h3.2 ax_e0)))), (ax_f1 (i := 10) (by decide) (by decide) (by show 0 + 10 = 10; omega) (by decide) rfl (ax_f1 (i := 12) (by decide) (by decide) (by show 0 + 12 = 12; omega) (by decide) rfl ax_f0)), ax_c0, ax_m0⟩ G j (fun r M1 g f hq => ?_)
  replace hq := ax_q1 hq
  obtain ⟨-, ρ1, e0, hr, kE, kF, kC, kN⟩ := hq
  have hr : r = vi (ρ1 4) := hr
  have e1 : ρ1 0 = v1 := e0 0 (by decide)
  have e2 : ρ1 1 = v2 := e0 1 (by decide)
  have e3 : ρ1 2 = (M 0 10) := e0 2 (by decide)
  have e4 : ρ1 3 = (M 0 12) := e0 3 (by decide)
  have b0 := kE _ (List.mem_cons_self)
  have b0 : (-2) ≤ ρ1 4 ∧ ρ1 4 ≤ 255 := b0.2
  rw [hr]
  exact k0 _ _ (by omega) (by omega) g f
theorem u_X11_houseIs_c58_74 {J : MM → Prop} (S : ai_SP ax_T J ap_X11_houseIs_c58_74) {sc : List Int} {d : Nat} {M : MM} {Q : Vv → MM → Prop} {v1 v2 : Int} (h0 : (-2147483648) ≤ v1 ∧ v1 ≤ 2147483647) (h1 : (-2147483648) ≤ v2 ∧ v2 ≤ 2147483647) (h2 : 58 ≤ (M 0 10) ∧ (M 0 10) ≤ 58) (h3 : 74 ≤ (M 0 12) ∧ (M 0 12) ≤ 74) (G : ai_GI ax_T M) (j : J M) (k0 : ∀ (r : Int) (M1 : MM), (-2) ≤ r → r ≤ 255 → ai_GI ax_T M1 → ai_Fr ax_T ap_X11_houseIs_c58_74.2.2.2.1 M M1 → Q (vi r) M1) : CA FF sc YF (d + 5) m_X11_houseIs [vr 0, vi v1, vi v2] M Q := by
  refine S sc d (ax_rh [v1, v2, (M 0 10), (M 0 12)]) M _ Q rfl rfl (And.intro (ax_r) (And.intro (ax_i (by decide) rfl) (And.intro (ax_i (by decide) rfl) trivial))) ⟨(ax_e1 (by decide) h0.1 h0.2 (ax_e1 (by decide) h1.1 h1.2 (ax_e1 (by decide) h2.1 h2.2 (ax_e1 (by decide) h3.1 h3.2 ax_e0)))), (ax_f1 (i := 10) (by decide) (by decide) (by show 0 + 10 = 10; omega) (by decide) rfl (ax_f1 (i := 12) (by decide) (by decide) (by show 0 + 12 = 12; omega) (by decide) rfl ax_f0)), ax_c0, ax_m0⟩ G j (fun r M1 g f hq => ?_)
  replace hq := ax_q1 hq
  obtain ⟨-, ρ1, e0, hr, kE, kF, kC, kN⟩ := hq
  have hr : r = vi (ρ1 4) := hr
  have e1 : ρ1 0 = v1 := e0 0 (by decide)
  have e2 : ρ1 1 = v2 := e0 1 (by decide)
  have e3 : ρ1 2 = (M 0 10) := e0 2 (by decide)
  have e4 : ρ1 3 = (M 0 12) := e0 3 (by decide)
  have b0 := kE _ (List.mem_cons_self)
  have b0 : (-2) ≤ ρ1 4 ∧ ρ1 4 ≤ 255 := b0.2
  rw [hr]
  exact k0 _ _ (by omega) (by omega) g f
theorem u_X11_houseIs_c62_66 {J : MM → Prop} (S : ai_SP ax_T J ap_X11_houseIs_c62_66) {sc : List Int} {d : Nat} {M : MM} {Q : Vv → MM → Prop} {v1 v2 : Int} (h0 : (-2147483648) ≤ v1 ∧ v1 ≤ 2147483647) (h1 : (-2147483648) ≤ v2 ∧ v2 ≤ 2147483647) (h2 : 62 ≤ (M 0 10) ∧ (M 0 10) ≤ 62) (h3 : 66 ≤ (M 0 12) ∧ (M 0 12) ≤ 66) (G : ai_GI ax_T M) (j : J M) (k0 : ∀ (r : Int) (M1 : MM), (-2) ≤ r → r ≤ 255 → ai_GI ax_T M1 → ai_Fr ax_T ap_X11_houseIs_c62_66.2.2.2.1 M M1 → Q (vi r) M1) : CA FF sc YF (d + 5) m_X11_houseIs [vr 0, vi v1, vi v2] M Q := by
  refine S sc d (ax_rh [v1, v2, (M 0 10), (M 0 12)]) M _ Q rfl rfl (And.intro (ax_r) (And.intro (ax_i (by decide) rfl) (And.intro (ax_i (by decide) rfl) trivial))) ⟨(ax_e1 (by decide) h0.1 h0.2 (ax_e1 (by decide) h1.1 h1.2 (ax_e1 (by decide) h2.1 h2.2 (ax_e1 (by decide) h3.1 h3.2 ax_e0)))), (ax_f1 (i := 10) (by decide) (by decide) (by show 0 + 10 = 10; omega) (by decide) rfl (ax_f1 (i := 12) (by decide) (by decide) (by show 0 + 12 = 12; omega) (by decide) rfl ax_f0)), ax_c0, ax_m0⟩ G j (fun r M1 g f hq => ?_)
  replace hq := ax_q1 hq
  obtain ⟨-, ρ1, e0, hr, kE, kF, kC, kN⟩ := hq
  have hr : r = vi (ρ1 4) := hr
  have e1 : ρ1 0 = v1 := e0 0 (by decide)
  have e2 : ρ1 1 = v2 := e0 1 (by decide)
  have e3 : ρ1 2 = (M 0 10) := e0 2 (by decide)
  have e4 : ρ1 3 = (M 0 12) := e0 3 (by decide)
  have b0 := kE _ (List.mem_cons_self)
  have b0 : (-2) ≤ ρ1 4 ∧ ρ1 4 ≤ 255 := b0.2
  rw [hr]
  exact k0 _ _ (by omega) (by omega) g f
theorem u_X11_houseIs_c62_74 {J : MM → Prop} (S : ai_SP ax_T J ap_X11_houseIs_c62_74) {sc : List Int} {d : Nat} {M : MM} {Q : Vv → MM → Prop} {v1 v2 : Int} (h0 : (-2147483648) ≤ v1 ∧ v1 ≤ 2147483647) (h1 : (-2147483648) ≤ v2 ∧ v2 ≤ 2147483647) (h2 : 62 ≤ (M 0 10) ∧ (M 0 10) ≤ 62) (h3 : 74 ≤ (M 0 12) ∧ (M 0 12) ≤ 74) (G : ai_GI ax_T M) (j : J M) (k0 : ∀ (r : Int) (M1 : MM), (-2) ≤ r → r ≤ 255 → ai_GI ax_T M1 → ai_Fr ax_T ap_X11_houseIs_c62_74.2.2.2.1 M M1 → Q (vi r) M1) : CA FF sc YF (d + 5) m_X11_houseIs [vr 0, vi v1, vi v2] M Q := by
  refine S sc d (ax_rh [v1, v2, (M 0 10), (M 0 12)]) M _ Q rfl rfl (And.intro (ax_r) (And.intro (ax_i (by decide) rfl) (And.intro (ax_i (by decide) rfl) trivial))) ⟨(ax_e1 (by decide) h0.1 h0.2 (ax_e1 (by decide) h1.1 h1.2 (ax_e1 (by decide) h2.1 h2.2 (ax_e1 (by decide) h3.1 h3.2 ax_e0)))), (ax_f1 (i := 10) (by decide) (by decide) (by show 0 + 10 = 10; omega) (by decide) rfl (ax_f1 (i := 12) (by decide) (by decide) (by show 0 + 12 = 12; omega) (by decide) rfl ax_f0)), ax_c0, ax_m0⟩ G j (fun r M1 g f hq => ?_)
  replace hq := ax_q1 hq
  obtain ⟨-, ρ1, e0, hr, kE, kF, kC, kN⟩ := hq
  have hr : r = vi (ρ1 4) := hr
  have e1 : ρ1 0 = v1 := e0 0 (by decide)
  have e2 : ρ1 1 = v2 := e0 1 (by decide)
  have e3 : ρ1 2 = (M 0 10) := e0 2 (by decide)
  have e4 : ρ1 3 = (M 0 12) := e0 3 (by decide)
  have b0 := kE _ (List.mem_cons_self)
  have b0 : (-2) ≤ ρ1 4 ∧ ρ1 4 ≤ 255 := b0.2
  rw [hr]
  exact k0 _ _ (by omega) (by omega) g f
theorem cf_houseIs {sc : List Int} {a0 a1 : Int} (i0 : in32 a0) (i1 : in32 a1) {M : MM} (G : axG M) : CA FF sc YF 59 m_X11_houseIs [vr 0, vi a0, vi a1] M (cxF cw_houseIs M) := by
  obtain ⟨g, j, W⟩ := G
  rcases id W.1 with ⟨e10, e11⟩ | ⟨e10, e11⟩ <;> rcases id W.2 with ⟨e12, e13⟩ | ⟨e12, e13⟩
  · exact u_X11_houseIs_c58_66 (d := 59 - 5) (Q := cxF cw_houseIs M) (ah_X11_houseIs_c58_66 axH) (v1 := a0) (v2 := a1) (by have := i0; unfold in32 at this; omega) (by have := i1; unfold in32 at this; omega) (by have := rO_0_10 g; omega) (by have := rO_0_12 g; omega) g j (fun r M1 q0 q1 g1 f1 => have z := (cx_fin g1 f1 j W (by decide +kernel)); ⟨⟨r, rfl⟩, z.1, z.2, Keep.of_fr f1 (by decide +kernel)⟩)
  · exact u_X11_houseIs_c58_74 (d := 59 - 5) (Q := cxF cw_houseIs M) (ah_X11_houseIs_c58_74 axH) (v1 := a0) (v2 := a1) (by have := i0; unfold in32 at this; omega) (by have := i1; unfold in32 at this; omega) (by have := rO_0_10 g; omega) (by have := rO_0_12 g; omega) g j (fun r M1 q0 q1 g1 f1 => have z := (cx_fin g1 f1 j W (by decide +kernel)); ⟨⟨r, rfl⟩, z.1, z.2, Keep.of_fr f1 (by decide +kernel)⟩)
  · exact u_X11_houseIs_c62_66 (d := 59 - 5) (Q := cxF cw_houseIs M) (ah_X11_houseIs_c62_66 axH) (v1 := a0) (v2 := a1) (by have := i0; unfold in32 at this; omega) (by have := i1; unfold in32 at this; omega) (by have := rO_0_10 g; omega) (by have := rO_0_12 g; omega) g j (fun r M1 q0 q1 g1 f1 => have z := (cx_fin g1 f1 j W (by decide +kernel)); ⟨⟨r, rfl⟩, z.1, z.2, Keep.of_fr f1 (by decide +kernel)⟩)
  · exact u_X11_houseIs_c62_74 (d := 59 - 5) (Q := cxF cw_houseIs M) (ah_X11_houseIs_c62_74 axH) (v1 := a0) (v2 := a1) (by have := i0; unfold in32 at this; omega) (by have := i1; unfold in32 at this; omega) (by have := rO_0_10 g; omega) (by have := rO_0_12 g; omega) g j (fun r M1 q0 q1 g1 f1 => have z := (cx_fin g1 f1 j W (by decide +kernel)); ⟨⟨r, rfl⟩, z.1, z.2, Keep.of_fr f1 (by decide +kernel)⟩)
def cw_meet : Nat := 551744934429463295668663929006497367117657536410540844580736585623525131641330407150600101305729251565593135388000548999182402661110765563629422853519873097265044257207470810718849231611701559251177452518992086636694164196702990349431148464210372337996054787378030953959538315518789088900655304185928974412292104966017108845614194576527430106344811141618014046340524985060258813147518236234731697646476983007188952472618715088146668512727401413955716016289276821420018610230122503940204179414416479537604711353773698362568156715516219068049217307448293620025407126329405860878302079894971356551385777329341108575104188460465067716402338345563150372875196513663501744493017422911170534301669286247952562352062972632449783415057524154144270168154918616169345064208554661376028348345277245028030298954909626437524553486172093604856463061056887618551642337570754298106877127521483105330819206832309588721707353450495068829871391227193875893351442895343586540231953132408779645822042345529127785669930698659518800718121696988043860516516047473290478513977196794636737392944637446497440487811612200301245739592796701314040801783515522329674941360466481143680277174206682463419191034664759962459096893611108277523632806565585815455900057373969438622780681474841033819018586394518777360540884745439856118541438485410844026234524426107238778938803394563101327648859836184305320754404778580844684731928597347874077401302984883123871067415897154257866968996583113940097843709062526987207436772888288699976981216256
theorem u_X11_meet_c58 {J : MM → Prop} (S : ai_SP ax_T J ap_X11_meet_c58) {sc : List Int} {d : Nat} {M : MM} {Q : Vv → MM → Prop} {v1 v2 v3 : Int} (h0 : (-2147483648) ≤ v1 ∧ v1 ≤ 2147483647) (h1 : (-2147483648) ≤ v2 ∧ v2 ≤ 2147483647) (h2 : (-2147483648) ≤ v3 ∧ v3 ≤ 2147483647) (h3 : 58 ≤ (M 0 10) ∧ (M 0 10) ≤ 58) (G : ai_GI ax_T M) (j : J M) (k0 : ∀ (r : Int) (M1 : MM), (-2) ≤ r → r ≤ 63 → ai_GI ax_T M1 → ai_Fr ax_T ap_X11_meet_c58.2.2.2.1 M M1 → Q (vi r) M1) : CA FF sc YF (d + 6) m_X11_meet [vr 0, vi v1, vi v2, vi v3] M Q := by
  refine S sc d (ax_rh [v1, v2, v3, (M 0 10)]) M _ Q rfl rfl (And.intro (ax_r) (And.intro (ax_i (by decide) rfl) (And.intro (ax_i (by decide) rfl) (And.intro (ax_i (by decide) rfl) (And.intro (ax_o) trivial))))) ⟨(ax_e1 (by decide) h0.1 h0.2 (ax_e1 (by decide) h1.1 h1.2 (ax_e1 (by decide) h2.1 h2.2 (ax_e1 (by decide) h3.1 h3.2 ax_e0)))), (ax_f1 (i := 10) (by decide) (by decide) (by show 0 + 10 = 10; omega) (by decide) rfl ax_f0), ax_c0, ax_m0⟩ G j (fun r M1 g f hq => ?_)
  replace hq := ax_q1 hq
  obtain ⟨-, ρ1, e0, hr, kE, kF, kC, kN⟩ := hq
  have hr : r = vi (ρ1 4) := hr
  have e1 : ρ1 0 = v1 := e0 0 (by decide)
  have e2 : ρ1 1 = v2 := e0 1 (by decide)
  have e3 : ρ1 2 = v3 := e0 2 (by decide)
  have e4 : ρ1 3 = (M 0 10) := e0 3 (by decide)
  have b0 := kE _ (List.mem_cons_self)
  have b0 : (-2) ≤ ρ1 4 ∧ ρ1 4 ≤ 63 := b0.2
  rw [hr]
  exact k0 _ _ (by omega) (by omega) g f
theorem u_X11_meet_c62 {J : MM → Prop} (S : ai_SP ax_T J ap_X11_meet_c62) {sc : List Int} {d : Nat} {M : MM} {Q : Vv → MM → Prop} {v1 v2 v3 : Int} (h0 : (-2147483648) ≤ v1 ∧ v1 ≤ 2147483647) (h1 : (-2147483648) ≤ v2 ∧ v2 ≤ 2147483647) (h2 : (-2147483648) ≤ v3 ∧ v3 ≤ 2147483647) (h3 : 62 ≤ (M 0 10) ∧ (M 0 10) ≤ 62) (G : ai_GI ax_T M) (j : J M) (k0 : ∀ (r : Int) (M1 : MM), (-2) ≤ r → r ≤ 63 → ai_GI ax_T M1 → ai_Fr ax_T ap_X11_meet_c62.2.2.2.1 M M1 → Q (vi r) M1) : CA FF sc YF (d + 6) m_X11_meet [vr 0, vi v1, vi v2, vi v3] M Q := by
  refine S sc d (ax_rh [v1, v2, v3, (M 0 10)]) M _ Q rfl rfl (And.intro (ax_r) (And.intro (ax_i (by decide) rfl) (And.intro (ax_i (by decide) rfl) (And.intro (ax_i (by decide) rfl) (And.intro (ax_o) trivial))))) ⟨(ax_e1 (by decide) h0.1 h0.2 (ax_e1 (by decide) h1.1 h1.2 (ax_e1 (by decide) h2.1 h2.2 (ax_e1 (by decide) h3.1 h3.2 ax_e0)))), (ax_f1 (i := 10) (by decide) (by decide) (by show 0 + 10 = 10; omega) (by decide) rfl ax_f0), ax_c0, ax_m0⟩ G j (fun r M1 g f hq => ?_)
  replace hq := ax_q1 hq
  obtain ⟨-, ρ1, e0, hr, kE, kF, kC, kN⟩ := hq
  have hr : r = vi (ρ1 4) := hr
  have e1 : ρ1 0 = v1 := e0 0 (by decide)
  have e2 : ρ1 1 = v2 := e0 1 (by decide)
  have e3 : ρ1 2 = v3 := e0 2 (by decide)
  have e4 : ρ1 3 = (M 0 10) := e0 3 (by decide)
  have b0 := kE _ (List.mem_cons_self)
  have b0 : (-2) ≤ ρ1 4 ∧ ρ1 4 ≤ 63 := b0.2
  rw [hr]
  exact k0 _ _ (by omega) (by omega) g f
theorem cf_meet {sc : List Int} {a0 a1 a2 : Int} (i0 : in32 a0) (i1 : in32 a1) (i2 : in32 a2) {M : MM} (G : axG M) : CA FF sc YF 59 m_X11_meet [vr 0, vi a0, vi a1, vi a2] M (cxF cw_meet M) := by
  obtain ⟨g, j, W⟩ := G
  rcases id W.1 with ⟨e10, e11⟩ | ⟨e10, e11⟩
  · exact u_X11_meet_c58 (d := 59 - 6) (Q := cxF cw_meet M) (ah_X11_meet_c58 axH) (v1 := a0) (v2 := a1) (v3 := a2) (by have := i0; unfold in32 at this; omega) (by have := i1; unfold in32 at this; omega) (by have := i2; unfold in32 at this; omega) (by have := rO_0_10 g; omega) g j (fun r M1 q0 q1 g1 f1 => have z := (cx_fin g1 f1 j W (by decide +kernel)); ⟨⟨r, rfl⟩, z.1, z.2, Keep.of_fr f1 (by decide +kernel)⟩)
  · exact u_X11_meet_c62 (d := 59 - 6) (Q := cxF cw_meet M) (ah_X11_meet_c62 axH) (v1 := a0) (v2 := a1) (v3 := a2) (by have := i0; unfold in32 at this; omega) (by have := i1; unfold in32 at this; omega) (by have := i2; unfold in32 at this; omega) (by have := rO_0_10 g; omega) g j (fun r M1 q0 q1 g1 f1 => have z := (cx_fin g1 f1 j W (by decide +kernel)); ⟨⟨r, rfl⟩, z.1, z.2, Keep.of_fr f1 (by decide +kernel)⟩)
def cw_dread : Nat := 551744934429463295668663929006497367117657536410540844580736585623525131641330407150600101305729251565593135388000548999182402661110765563629422853519873097265044257207470810718849231611701559251177452518992086636694164196702990349431148464210372337996054787378030953959538315518789088900655304185928974412292104966017108845614194576527430106344811141618014046340524985060258813147518236234731697646476983007188952472618715088146668512727401413955716016289276821420018610230122503940204179414416479537604711353773698362568156715516219068049217307448293620025407126329405860878302079894971356551385777329341108575104188460465067716402338345563150372875196513663501744493017422911170534301669286247952562352062972632449783415057524154144270168154918616169345064208554661376028348345277245028030298954909626437524553486172093604856463061056887618551642337570754298106877127521483105330819206832309588721707353450495068829871391227193875893351442895343586540231953132408779645822042345529127785669930698659518800718121696988043860516516047473290478513977196794636737392944637446497440487811612200301245739592796701314040801783515522329674941360466481143680277174206682463419191034664759962459096893611108277523632806565585815455900057373969438622780681474841033819018586394518777360540884745439856118541438485410844026234524426107238778938803394563101327648859836184305320754404778580844684731928597347874077401302984883123871067415897154257866968996583113940097843709062526987207436772888288699976981216256
theorem u_X11_dread_c58_66 {J : MM → Prop} (S : ai_SP ax_T J ap_X11_dread_c58_66) {sc : List Int} {d : Nat} {M : MM} {Q : Vv → MM → Prop} {v1 v2 v3 : Int} (h0 : (-2147483648) ≤ v1 ∧ v1 ≤ 2147483647) (h1 : (-2147483648) ≤ v2 ∧ v2 ≤ 2147483647) (h2 : (-2147483648) ≤ v3 ∧ v3 ≤ 2147483647) (h3 : 58 ≤ (M 0 10) ∧ (M 0 10) ≤ 58) (h4 : 66 ≤ (M 0 12) ∧ (M 0 12) ≤ 66) (G : ai_GI ax_T M) (j : J M) (k0 : ∀ (r : Int) (M1 : MM), (-1) ≤ r → r ≤ 2147483647 → ai_GI ax_T M1 → ai_Fr ax_T ap_X11_dread_c58_66.2.2.2.1 M M1 → Q (vi r) M1) : CA FF sc YF (d + 7) m_X11_dread [vr 0, vi v1, vi v2, vi v3] M Q := by
  refine S sc d (ax_rh [v1, v2, v3, (M 0 10), (M 0 12)]) M _ Q rfl rfl (And.intro (ax_r) (And.intro (ax_i (by decide) rfl) (And.intro (ax_i (by decide) rfl) (And.intro (ax_i (by decide) rfl) trivial)))) ⟨(ax_e1 (by decide) h0.1 h0.2 (ax_e1 (by decide) h1.1 h1.2 (ax_e1 (by decide) h2.1 h2.2 (ax_e1 (by decide) h3.1 h3.2 (ax_e1 (by decide) h4.1 h4.2 ax_e0))))), (ax_f1 (i := 10) (by decide) (by decide) (by show 0 + 10 = 10; omega) (by decide) rfl (ax_f1 (i := 12) (by decide) (by decide) (by show 0 + 12 = 12; omega) (by decide) rfl ax_f0)), ax_c0, ax_m0⟩ G j (fun r M1 g f hq => ?_)
  replace hq := ax_q1 hq
  obtain ⟨-, ρ1, e0, hr, kE, kF, kC, kN⟩ := hq
  have hr : r = vi (ρ1 5) := hr
  have e1 : ρ1 0 = v1 := e0 0 (by decide)
  have e2 : ρ1 1 = v2 := e0 1 (by decide)
  have e3 : ρ1 2 = v3 := e0 2 (by decide)
  have e4 : ρ1 3 = (M 0 10) := e0 3 (by decide)
  have e5 : ρ1 4 = (M 0 12) := e0 4 (by decide)
  have b0 := kE _ (List.mem_cons_self)
  have b0 : (-1) ≤ ρ1 5 ∧ ρ1 5 ≤ 2147483647 := b0.2
  rw [hr]
  exact k0 _ _ (by omega) (by omega) g f
theorem u_X11_dread_c58_74 {J : MM → Prop} (S : ai_SP ax_T J ap_X11_dread_c58_74) {sc : List Int} {d : Nat} {M : MM} {Q : Vv → MM → Prop} {v1 v2 v3 : Int} (h0 : (-2147483648) ≤ v1 ∧ v1 ≤ 2147483647) (h1 : (-2147483648) ≤ v2 ∧ v2 ≤ 2147483647) (h2 : (-2147483648) ≤ v3 ∧ v3 ≤ 2147483647) (h3 : 58 ≤ (M 0 10) ∧ (M 0 10) ≤ 58) (h4 : 74 ≤ (M 0 12) ∧ (M 0 12) ≤ 74) (G : ai_GI ax_T M) (j : J M) (k0 : ∀ (r : Int) (M1 : MM), (-1) ≤ r → r ≤ 2147483647 → ai_GI ax_T M1 → ai_Fr ax_T ap_X11_dread_c58_74.2.2.2.1 M M1 → Q (vi r) M1) : CA FF sc YF (d + 7) m_X11_dread [vr 0, vi v1, vi v2, vi v3] M Q := by
  refine S sc d (ax_rh [v1, v2, v3, (M 0 10), (M 0 12)]) M _ Q rfl rfl (And.intro (ax_r) (And.intro (ax_i (by decide) rfl) (And.intro (ax_i (by decide) rfl) (And.intro (ax_i (by decide) rfl) trivial)))) ⟨(ax_e1 (by decide) h0.1 h0.2 (ax_e1 (by decide) h1.1 h1.2 (ax_e1 (by decide) h2.1 h2.2 (ax_e1 (by decide) h3.1 h3.2 (ax_e1 (by decide) h4.1 h4.2 ax_e0))))), (ax_f1 (i := 10) (by decide) (by decide) (by show 0 + 10 = 10; omega) (by decide) rfl (ax_f1 (i := 12) (by decide) (by decide) (by show 0 + 12 = 12; omega) (by decide) rfl ax_f0)), ax_c0, ax_m0⟩ G j (fun r M1 g f hq => ?_)
  replace hq := ax_q1 hq
  obtain ⟨-, ρ1, e0, hr, kE, kF, kC, kN⟩ := hq
  have hr : r = vi (ρ1 5) := hr
  have e1 : ρ1 0 = v1 := e0 0 (by decide)
  have e2 : ρ1 1 = v2 := e0 1 (by decide)
  have e3 : ρ1 2 = v3 := e0 2 (by decide)
  have e4 : ρ1 3 = (M 0 10) := e0 3 (by decide)
  have e5 : ρ1 4 = (M 0 12) := e0 4 (by decide)
  have b0 := kE _ (List.mem_cons_self)
  have b0 : (-1) ≤ ρ1 5 ∧ ρ1 5 ≤ 2147483647 := b0.2
  rw [hr]
  exact k0 _ _ (by omega) (by omega) g f
theorem u_X11_dread_c62_66 {J : MM → Prop} (S : ai_SP ax_T J ap_X11_dread_c62_66) {sc : List Int} {d : Nat} {M : MM} {Q : Vv → MM → Prop} {v1 v2 v3 : Int} (h0 : (-2147483648) ≤ v1 ∧ v1 ≤ 2147483647) (h1 : (-2147483648) ≤ v2 ∧ v2 ≤ 2147483647) (h2 : (-2147483648) ≤ v3 ∧ v3 ≤ 2147483647) (h3 : 62 ≤ (M 0 10) ∧ (M 0 10) ≤ 62) (h4 : 66 ≤ (M 0 12) ∧ (M 0 12) ≤ 66) (G : ai_GI ax_T M) (j : J M) (k0 : ∀ (r : Int) (M1 : MM), (-1) ≤ r → r ≤ 2147483647 → ai_GI ax_T M1 → ai_Fr ax_T ap_X11_dread_c62_66.2.2.2.1 M M1 → Q (vi r) M1) : CA FF sc YF (d + 7) m_X11_dread [vr 0, vi v1, vi v2, vi v3] M Q := by
  refine S sc d (ax_rh [v1, v2, v3, (M 0 10), (M 0 12)]) M _ Q rfl rfl (And.intro (ax_r) (And.intro (ax_i (by decide) rfl) (And.intro (ax_i (by decide) rfl) (And.intro (ax_i (by decide) rfl) trivial)))) ⟨(ax_e1 (by decide) h0.1 h0.2 (ax_e1 (by decide) h1.1 h1.2 (ax_e1 (by decide) h2.1 h2.2 (ax_e1 (by decide) h3.1 h3.2 (ax_e1 (by decide) h4.1 h4.2 ax_e0))))), (ax_f1 (i := 10) (by decide) (by decide) (by show 0 + 10 = 10; omega) (by decide) rfl (ax_f1 (i := 12) (by decide) (by decide) (by show 0 + 12 = 12; omega) (by decide) rfl ax_f0)), ax_c0, ax_m0⟩ G j (fun r M1 g f hq => ?_)
  replace hq := ax_q1 hq
  obtain ⟨-, ρ1, e0, hr, kE, kF, kC, kN⟩ := hq
  have hr : r = vi (ρ1 5) := hr
  have e1 : ρ1 0 = v1 := e0 0 (by decide)
  have e2 : ρ1 1 = v2 := e0 1 (by decide)
  have e3 : ρ1 2 = v3 := e0 2 (by decide)
  have e4 : ρ1 3 = (M 0 10) := e0 3 (by decide)
  have e5 : ρ1 4 = (M 0 12) := e0 4 (by decide)
  have b0 := kE _ (List.mem_cons_self)
  have b0 : (-1) ≤ ρ1 5 ∧ ρ1 5 ≤ 2147483647 := b0.2
  rw [hr]
  exact k0 _ _ (by omega) (by omega) g f
theorem u_X11_dread_c62_74 {J : MM → Prop} (S : ai_SP ax_T J ap_X11_dread_c62_74) {sc : List Int} {d : Nat} {M : MM} {Q : Vv → MM → Prop} {v1 v2 v3 : Int} (h0 : (-2147483648) ≤ v1 ∧ v1 ≤ 2147483647) (h1 : (-2147483648) ≤ v2 ∧ v2 ≤ 2147483647) (h2 : (-2147483648) ≤ v3 ∧ v3 ≤ 2147483647) (h3 : 62 ≤ (M 0 10) ∧ (M 0 10) ≤ 62) (h4 : 74 ≤ (M 0 12) ∧ (M 0 12) ≤ 74) (G : ai_GI ax_T M) (j : J M) (k0 : ∀ (r : Int) (M1 : MM), (-1) ≤ r → r ≤ 2147483647 → ai_GI ax_T M1 → ai_Fr ax_T ap_X11_dread_c62_74.2.2.2.1 M M1 → Q (vi r) M1) : CA FF sc YF (d + 7) m_X11_dread [vr 0, vi v1, vi v2, vi v3] M Q := by
  refine S sc d (ax_rh [v1, v2, v3, (M 0 10), (M 0 12)]) M _ Q rfl rfl (And.intro (ax_r) (And.intro (ax_i (by decide) rfl) (And.intro (ax_i (by decide) rfl) (And.intro (ax_i (by decide) rfl) trivial)))) ⟨(ax_e1 (by decide) h0.1 h0.2 (ax_e1 (by decide) h1.1 h1.2 (ax_e1 (by decide) h2.1 h2.2 (ax_e1 (by decide) h3.1 h3.2 (ax_e1 (by decide) h4.1 h4.2 ax_e0))))), (ax_f1 (i := 10) (by decide) (by decide) (by show 0 + 10 = 10; omega) (by decide) rfl (ax_f1 (i := 12) (by decide) (by decide) (by show 0 + 12 = 12; omega) (by decide) rfl ax_f0)), ax_c0, ax_m0⟩ G j (fun r M1 g f hq => ?_)
  replace hq := ax_q1 hq
  obtain ⟨-, ρ1, e0, hr, kE, kF, kC, kN⟩ := hq
  have hr : r = vi (ρ1 5) := hr
  have e1 : ρ1 0 = v1 := e0 0 (by decide)
  have e2 : ρ1 1 = v2 := e0 1 (by decide)
  have e3 : ρ1 2 = v3 := e0 2 (by decide)
  have e4 : ρ1 3 = (M 0 10) := e0 3 (by decide)
  have e5 : ρ1 4 = (M 0 12) := e0 4 (by decide)
  have b0 := kE _ (List.mem_cons_self)
  have b0 : (-1) ≤ ρ1 5 ∧ ρ1 5 ≤ 2147483647 := b0.2
  rw [hr]
  exact k0 _ _ (by omega) (by omega) g f
theorem cf_dread {sc : List Int} {a0 a1 a2 : Int} (i0 : in32 a0) (i1 : in32 a1) (i2 : in32 a2) {M : MM} (G : axG M) : CA FF sc YF 59 m_X11_dread [vr 0, vi a0, vi a1, vi a2] M (cxF cw_dread M) := by
  obtain ⟨g, j, W⟩ := G
  rcases id W.1 with ⟨e10, e11⟩ | ⟨e10, e11⟩ <;> rcases id W.2 with ⟨e12, e13⟩ | ⟨e12, e13⟩
  · exact u_X11_dread_c58_66 (d := 59 - 7) (Q := cxF cw_dread M) (ah_X11_dread_c58_66 axH) (v1 := a0) (v2 := a1) (v3 := a2) (by have := i0; unfold in32 at this; omega) (by have := i1; unfold in32 at this; omega) (by have := i2; unfold in32 at this; omega) (by have := rO_0_10 g; omega) (by have := rO_0_12 g; omega) g j (fun r M1 q0 q1 g1 f1 => have z := (cx_fin g1 f1 j W (by decide +kernel)); ⟨⟨r, rfl⟩, z.1, z.2, Keep.of_fr f1 (by decide +kernel)⟩)
  · exact u_X11_dread_c58_74 (d := 59 - 7) (Q := cxF cw_dread M) (ah_X11_dread_c58_74 axH) (v1 := a0) (v2 := a1) (v3 := a2) (by have := i0; unfold in32 at this; omega) (by have := i1; unfold in32 at this; omega) (by have := i2; unfold in32 at this; omega) (by have := rO_0_10 g; omega) (by have := rO_0_12 g; omega) g j (fun r M1 q0 q1 g1 f1 => have z := (cx_fin g1 f1 j W (by decide +kernel)); ⟨⟨r, rfl⟩, z.1, z.2, Keep.of_fr f1 (by decide +kernel)⟩)
  · exact u_X11_dread_c62_66 (d := 59 - 7) (Q := cxF cw_dread M) (ah_X11_dread_c62_66 axH) (v1 := a0) (v2 := a1) (v3 := a2) (by have := i0; unfold in32 at this; omega) (by have := i1; unfold in32 at this; omega) (by have := i2; unfold in32 at this; omega) (by have := rO_0_10 g; omega) (by have := rO_0_12 g; omega) g j (fun r M1 q0 q1 g1 f1 => have z := (cx_fin g1 f1 j W (by decide +kernel)); ⟨⟨r, rfl⟩, z.1, z.2, Keep.of_fr f1 (by decide +kernel)⟩)
  · exact u_X11_dread_c62_74 (d := 59 - 7) (Q := cxF cw_dread M) (ah_X11_dread_c62_74 axH) (v1 := a0) (v2 := a1) (v3 := a2) (by have := i0; unfold in32 at this; omega) (by have := i1; unfold in32 at this; omega) (by have := i2; unfold in32 at this; omega) (by have := rO_0_10 g; omega) (by have := rO_0_12 g; omega) g j (fun r M1 q0 q1 g1 f1 => have z := (cx_fin g1 f1 j W (by decide +kernel)); ⟨⟨r, rfl⟩, z.1, z.2, Keep.of_fr f1 (by decide +kernel)⟩)
def cw_unseen : Nat := 551744934429463295668663929006497367117657536410540844580736585623525131641330407150600101305729251565593135388000548999182402661110765563629422853519873097265044257207470810718849231611701559251177452518992086636694164196702990349431148464210372337996054787378030953959538315518789088900655304185928974412292104966017108845614194576527430106344811141618014046340524985060258813147518236234731697646476983007188952472618715088146668512727401413955716016289276821420018610230122503940204179414416479537604711353773698362568156715516219068049217307448293620025407126329405860878302079894971356551385777329341108575104188460465067716402338345563150372875196513663501744493017422911170534301669286247952562352062972632449783415057524154144270168154918616169345064208554661376028348345277245028030298954909626437524553486172093604856463061056887618551642337570754298106877127521483105330819206832309588721707353450495068829871391227193875893351442895343586540231953132408779645822042345529127785669930698659518800718121696988043860516516047473290478513977196794636737392944637446497440487811612200301245739592796701314040801783515522329674941360466481143680277174206682463419191034664759962459096893611108277523632806565585815455900057373969438622780681474841033819018586394518777360540884745439856118541438485410844026234524426107238778938803394563101327648859836184305320754404778580844684731928597347874077401302984883123871067415897154257866968996583113940097843709062526987207436772888288699976981216256
theorem u_X11_unseen_c58 {J : MM → Prop} (S : ai_SP ax_T J ap_X11_unseen_c58) {sc : List Int} {d : Nat} {M : MM} {Q : Vv → MM → Prop} {v1 v2 v3 : Int} (h0 : (-2147483648) ≤ v1 ∧ v1 ≤ 2147483647) (h1 : (-2147483648) ≤ v2 ∧ v2 ≤ 2147483647) (h2 : (-2147483648) ≤ v3 ∧ v3 ≤ 2147483647) (h3 : 58 ≤ (M 0 10) ∧ (M 0 10) ≤ 58) (G : ai_GI ax_T M) (j : J M) (k0 : ∀ (r : Int) (M1 : MM), (-2147483648) ≤ r → r ≤ 2147483647 → ai_GI ax_T M1 → ai_Fr ax_T ap_X11_unseen_c58.2.2.2.1 M M1 → Q (vi r) M1) : CA FF sc YF (d + 5) m_X11_unseen [vr 0, vi v1, vi v2, vi v3] M Q := by
  refine S sc d (ax_rh [v1, v2, v3, (M 0 10)]) M _ Q rfl rfl (And.intro (ax_r) (And.intro (ax_i (by decide) rfl) (And.intro (ax_i (by decide) rfl) (And.intro (ax_i (by decide) rfl) (And.intro (ax_o) trivial))))) ⟨(ax_e1 (by decide) h0.1 h0.2 (ax_e1 (by decide) h1.1 h1.2 (ax_e1 (by decide) h2.1 h2.2 (ax_e1 (by decide) h3.1 h3.2 ax_e0)))), (ax_f1 (i := 10) (by decide) (by decide) (by show 0 + 10 = 10; omega) (by decide) rfl ax_f0), ax_c0, ax_m0⟩ G j (fun r M1 g f hq => ?_)
  replace hq := ax_q1 hq
  obtain ⟨-, ρ1, e0, hr, kE, kF, kC, kN⟩ := hq
  have hr : r = vi (ρ1 4) := hr
  have e1 : ρ1 0 = v1 := e0 0 (by decide)
  have e2 : ρ1 1 = v2 := e0 1 (by decide)
  have e3 : ρ1 2 = v3 := e0 2 (by decide)
  have e4 : ρ1 3 = (M 0 10) := e0 3 (by decide)
  have b0 := kE _ (List.mem_cons_self)
  have b0 : (-2147483648) ≤ ρ1 4 ∧ ρ1 4 ≤ 2147483647 := b0.2
  rw [hr]
  exact k0 _ _ (by omega) (by omega) g f
theorem u_X11_unseen_c62 {J : MM → Prop} (S : ai_SP ax_T J ap_X11_unseen_c62) {sc : List Int} {d : Nat} {M : MM} {Q : Vv → MM → Prop} {v1 v2 v3 : Int} (h0 : (-2147483648) ≤ v1 ∧ v1 ≤ 2147483647) (h1 : (-2147483648) ≤ v2 ∧ v2 ≤ 2147483647) (h2 : (-2147483648) ≤ v3 ∧ v3 ≤ 2147483647) (h3 : 62 ≤ (M 0 10) ∧ (M 0 10) ≤ 62) (G : ai_GI ax_T M) (j : J M) (k0 : ∀ (r : Int) (M1 : MM), (-2147483648) ≤ r → r ≤ 2147483647 → ai_GI ax_T M1 → ai_Fr ax_T ap_X11_unseen_c62.2.2.2.1 M M1 → Q (vi r) M1) : CA FF sc YF (d + 5) m_X11_unseen [vr 0, vi v1, vi v2, vi v3] M Q := by
  refine S sc d (ax_rh [v1, v2, v3, (M 0 10)]) M _ Q rfl rfl (And.intro (ax_r) (And.intro (ax_i (by decide) rfl) (And.intro (ax_i (by decide) rfl) (And.intro (ax_i (by decide) rfl) (And.intro (ax_o) trivial))))) ⟨(ax_e1 (by decide) h0.1 h0.2 (ax_e1 (by decide) h1.1 h1.2 (ax_e1 (by decide) h2.1 h2.2 (ax_e1 (by decide) h3.1 h3.2 ax_e0)))), (ax_f1 (i := 10) (by decide) (by decide) (by show 0 + 10 = 10; omega) (by decide) rfl ax_f0), ax_c0, ax_m0⟩ G j (fun r M1 g f hq => ?_)
  replace hq := ax_q1 hq
  obtain ⟨-, ρ1, e0, hr, kE, kF, kC, kN⟩ := hq
  have hr : r = vi (ρ1 4) := hr
  have e1 : ρ1 0 = v1 := e0 0 (by decide)
  have e2 : ρ1 1 = v2 := e0 1 (by decide)
  have e3 : ρ1 2 = v3 := e0 2 (by decide)
  have e4 : ρ1 3 = (M 0 10) := e0 3 (by decide)
  have b0 := kE _ (List.mem_cons_self)
  have b0 : (-2147483648) ≤ ρ1 4 ∧ ρ1 4 ≤ 2147483647 := b0.2
  rw [hr]
  exact k0 _ _ (by omega) (by omega) g f
theorem cf_unseen {sc : List Int} {a0 a1 a2 : Int} (i0 : in32 a0) (i1 : in32 a1) (i2 : in32 a2) {M : MM} (G : axG M) : CA FF sc YF 59 m_X11_unseen [vr 0, vi a0, vi a1, vi a2] M (cxF cw_unseen M) := by
  obtain ⟨g, j, W⟩ := G
  rcases id W.1 with ⟨e10, e11⟩ | ⟨e10, e11⟩
  · exact u_X11_unseen_c58 (d := 59 - 5) (Q := cxF cw_unseen M) (ah_X11_unseen_c58 axH) (v1 := a0) (v2 := a1) (v3 := a2) (by have := i0; unfold in32 at this; omega) (by have := i1; unfold in32 at this; omega) (by have := i2; unfold in32 at this; omega) (by have := rO_0_10 g; omega) g j (fun r M1 q0 q1 g1 f1 => have z := (cx_fin g1 f1 j W (by decide +kernel)); ⟨⟨r, rfl⟩, z.1, z.2, Keep.of_fr f1 (by decide +kernel)⟩)
  · exact u_X11_unseen_c62 (d := 59 - 5) (Q := cxF cw_unseen M) (ah_X11_unseen_c62 axH) (v1 := a0) (v2 := a1) (v3 := a2) (by have := i0; unfold in32 at this; omega) (by have := i1; unfold in32 at this; omega) (by have := i2; unfold in32 at this; omega) (by have := rO_0_10 g; omega) g j (fun r M1 q0 q1 g1 f1 => have z := (cx_fin g1 f1 j W (by decide +kernel)); ⟨⟨r, rfl⟩, z.1, z.2, Keep.of_fr f1 (by decide +kernel)⟩)
def cw_watch : Nat := 551744934429463295668663929006497367117657536410540844580736585623525131641330407150600101305729251565593135388000548999182402661110765563629422853519873097265044257207470810718849231611701559251177452518992086636694164196702990349431148464210372337996054787378030953959538315518789088900655304185928974412292104966017108845614194576527430106344811141618014046340524985060258813147518236234731697646476983007188952472618715088146668512727401413955716016289276821420018610230122503940204179414416479537604711353773698362568156715516219068049217307448293620025407126329405860878302079894971356551385777329341108575104188460465067716402338345563150372875196513663501744493017422911170534301669286247952562352062972632449783415057524154144270168154918616169345064208554661376028348345277245028030298954909626437524553486172093604856463061056887618551642337570754298106877127521483105330819206832309588721707353450495068829871391227193875893351442895343586540231953132408779645822042345529127785669930698659518800718121696988043860516516047473290478513977196794636737392944637446497440487811612200301245739592796701314040801783515522329674941360466481143680277174206682463419191034664759962459096893611108277523632806565585815455900057373969438622780681474841033819018586394518777360540884745439856118541438485410844026234524426107238778938803394563101327648859836184305320754404778580844684731928597347874077401302984883123871067415897154257866968996583113940097843709062526987207436772888288699976981216256
theorem u_X11_watch_c58 {J : MM → Prop} (S : ai_SP ax_T J ap_X11_watch_c58) {sc : List Int} {d : Nat} {M : MM} {Q : Vv → MM → Prop} {v1 : Int} (h0 : (-2147483648) ≤ v1 ∧ v1 ≤ 2147483647) (h1 : 58 ≤ (M 0 10) ∧ (M 0 10) ≤ 58) (G : ai_GI ax_T M) (j : J M) (k0 : ∀ (r : Int) (M1 : MM), (-2) ≤ r → r ≤ 2147483647 → ai_GI ax_T M1 → ai_Fr ax_T ap_X11_watch_c58.2.2.2.1 M M1 → Q (vi r) M1) : CA FF sc YF (d + 7) m_X11_watch [vr 0, vi v1] M Q := by
  refine S sc d (ax_rh [v1, (M 0 10)]) M _ Q rfl rfl (And.intro (ax_r) (And.intro (ax_i (by decide) rfl) trivial)) ⟨(ax_e1 (by decide) h0.1 h0.2 (ax_e1 (by decide) h1.1 h1.2 ax_e0)), (ax_f1 (i := 10) (by decide) (by decide) (by show 0 + 10 = 10; omega) (by decide) rfl ax_f0), ax_c0, ax_m0⟩ G j (fun r M1 g f hq => ?_)
  replace hq := ax_q1 hq
  obtain ⟨-, ρ1, e0, hr, kE, kF, kC, kN⟩ := hq
  have hr : r = vi (ρ1 2) := hr
  have e1 : ρ1 0 = v1 := e0 0 (by decide)
  have e2 : ρ1 1 = (M 0 10) := e0 1 (by decide)
  have b0 := kE _ (List.mem_cons_self)
  have b0 : (-2) ≤ ρ1 2 ∧ ρ1 2 ≤ 2147483647 := b0.2
  rw [hr]
  exact k0 _ _ (by omega) (by omega) g f
theorem u_X11_watch_c62 {J : MM → Prop} (S : ai_SP ax_T J ap_X11_watch_c62) {sc : List Int} {d : Nat} {M : MM} {Q : Vv → MM → Prop} {v1 : Int} (h0 : (-2147483648) ≤ v1 ∧ v1 ≤ 2147483647) (h1 : 62 ≤ (M 0 10) ∧ (M 0 10) ≤ 62) (G : ai_GI ax_T M) (j : J M) (k0 : ∀ (r : Int) (M1 : MM), (-2) ≤ r → r ≤ 2147483647 → ai_GI ax_T M1 → ai_Fr ax_T ap_X11_watch_c62.2.2.2.1 M M1 → Q (vi r) M1) : CA FF sc YF (d + 7) m_X11_watch [vr 0, vi v1] M Q := by
  refine S sc d (ax_rh [v1, (M 0 10)]) M _ Q rfl rfl (And.intro (ax_r) (And.intro (ax_i (by decide) rfl) trivial)) ⟨(ax_e1 (by decide) h0.1 h0.2 (ax_e1 (by decide) h1.1 h1.2 ax_e0)), (ax_f1 (i := 10) (by decide) (by decide) (by show 0 + 10 = 10; omega) (by decide) rfl ax_f0), ax_c0, ax_m0⟩ G j (fun r M1 g f hq => ?_)
  replace hq := ax_q1 hq
  obtain ⟨-, ρ1, e0, hr, kE, kF, kC, kN⟩ := hq
  have hr : r = vi (ρ1 2) := hr
  have e1 : ρ1 0 = v1 := e0 0 (by decide)
  have e2 : ρ1 1 = (M 0 10) := e0 1 (by decide)
  have b0 := kE _ (List.mem_cons_self)
  have b0 : (-2) ≤ ρ1 2 ∧ ρ1 2 ≤ 2147483647 := b0.2
  rw [hr]
  exact k0 _ _ (by omega) (by omega) g f
theorem cf_watch {sc : List Int} {a0 : Int} (i0 : in32 a0) {M : MM} (G : axG M) : CA FF sc YF 59 m_X11_watch [vr 0, vi a0] M (cxF cw_watch M) := by
  obtain ⟨g, j, W⟩ := G
  rcases id W.1 with ⟨e10, e11⟩ | ⟨e10, e11⟩
  · exact u_X11_watch_c58 (d := 59 - 7) (Q := cxF cw_watch M) (ah_X11_watch_c58 axH) (v1 := a0) (by have := i0; unfold in32 at this; omega) (by have := rO_0_10 g; omega) g j (fun r M1 q0 q1 g1 f1 => have z := (cx_fin g1 f1 j W (by decide +kernel)); ⟨⟨r, rfl⟩, z.1, z.2, Keep.of_fr f1 (by decide +kernel)⟩)
  · exact u_X11_watch_c62 (d := 59 - 7) (Q := cxF cw_watch M) (ah_X11_watch_c62 axH) (v1 := a0) (by have := i0; unfold in32 at this; omega) (by have := rO_0_10 g; omega) g j (fun r M1 q0 q1 g1 f1 => have z := (cx_fin g1 f1 j W (by decide +kernel)); ⟨⟨r, rfl⟩, z.1, z.2, Keep.of_fr f1 (by decide +kernel)⟩)
def cw_feared : Nat := 551744934429463295668663929006497367117657536410540844580736585623525131641330407150600101305729251565593135388000548999182402661110765563629422853519873097265044257207470810718849231611701559251177452518992086636694164196702990349431148464210372337996054787378030953959538315518789088900655304185928974412292104966017108845614194576527430106344811141618014046340524985060258813147518236234731697646476983007188952472618715088146668512727401413955716016289276821420018610230122503940204179414416479537604711353773698362568156715516219068049217307448293620025407126329405860878302079894971356551385777329341108575104188460465067716402338345563150372875196513663501744493017422911170534301669286247952562352062972632449783415057524154144270168154918616169345064208554661376028348345277245028030298954909626437524553486172093604856463061056887618551642337570754298106877127521483105330819206832309588721707353450495068829871391227193875893351442895343586540231953132408779645822042345529127785669930698659518800718121696988043860516516047473290478513977196794636737392944637446497440487811612200301245739592796701314040801783515522329674941360466481143680277174206682463419191034664759962459096893611108277523632806565585815455900057373969438622780681474841033819018586394518777360540884745439856118541438485410844026234524426107238778938803394563101327648859836184305320754404778580844684731928597347874077401302984883123871067415897154257866968996583113940097843709062526987207436772888288699976981216256
theorem u_X11_feared_c58_66 {J : MM → Prop} (S : ai_SP ax_T J ap_X11_feared_c58_66) {sc : List Int} {d : Nat} {M : MM} {Q : Vv → MM → Prop} {v1 v2 : Int} (h0 : (-2147483648) ≤ v1 ∧ v1 ≤ 2147483647) (h1 : (-2147483648) ≤ v2 ∧ v2 ≤ 2147483647) (h2 : 58 ≤ (M 0 10) ∧ (M 0 10) ≤ 58) (h3 : 66 ≤ (M 0 12) ∧ (M 0 12) ≤ 66) (G : ai_GI ax_T M) (j : J M) (k0 : ∀ (r : Int) (M1 : MM), (-1000) ≤ r → r ≤ 999 → ai_GI ax_T M1 → ai_Fr ax_T ap_X11_feared_c58_66.2.2.2.1 M M1 → Q (vi r) M1) : CA FF sc YF (d + 7) m_X11_feared [vr 0, vi v1, vi v2] M Q := by
  refine S sc d (ax_rh [v1, v2, (M 0 10), (M 0 12)]) M _ Q rfl rfl (And.intro (ax_r) (And.intro (ax_i (by decide) rfl) (And.intro (ax_i (by decide) rfl) (And.intro (ax_o) (And.intro (ax_o) (And.intro (ax_o) (And.intro (ax_o) trivial))))))) ⟨(ax_e1 (by decide) h0.1 h0.2 (ax_e1 (by decide) h1.1 h1.2 (ax_e1 (by decide) h2.1 h2.2 (ax_e1 (by decide) h3.1 h3.2 ax_e0)))), (ax_f1 (i := 10) (by decide) (by decide) (by show 0 + 10 = 10; omega) (by decide) rfl (ax_f1 (i := 12) (by decide) (by decide) (by show 0 + 12 = 12; omega) (by decide) rfl ax_f0)), ax_c0, ax_m0⟩ G j (fun r M1 g f hq => ?_)
  replace hq := ax_q1 hq
  obtain ⟨-, ρ1, e0, hr, kE, kF, kC, kN⟩ := hq
  have hr : r = vi (ρ1 4) := hr
  have e1 : ρ1 0 = v1 := e0 0 (by decide)
  have e2 : ρ1 1 = v2 := e0 1 (by decide)
  have e3 : ρ1 2 = (M 0 10) := e0 2 (by decide)
  have e4 : ρ1 3 = (M 0 12) := e0 3 (by decide)
  have b0 := kE _ (List.mem_cons_self)
  have b0 : (-1000) ≤ ρ1 4 ∧ ρ1 4 ≤ 999 := b0.2
  rw [hr]
  exact k0 _ _ (by omega) (by omega) g f
theorem u_X11_feared_c58_74 {J : MM → Prop} (S : ai_SP ax_T J ap_X11_feared_c58_74) {sc : List Int} {d : Nat} {M : MM} {Q : Vv → MM → Prop} {v1 v2 : Int} (h0 : (-2147483648) ≤ v1 ∧ v1 ≤ 2147483647) (h1 : (-2147483648) ≤ v2 ∧ v2 ≤ 2147483647) (h2 : 58 ≤ (M 0 10) ∧ (M 0 10) ≤ 58) (h3 : 74 ≤ (M 0 12) ∧ (M 0 12) ≤ 74) (G : ai_GI ax_T M) (j : J M) (k0 : ∀ (r : Int) (M1 : MM), (-1000) ≤ r → r ≤ 999 → ai_GI ax_T M1 → ai_Fr ax_T ap_X11_feared_c58_74.2.2.2.1 M M1 → Q (vi r) M1) : CA FF sc YF (d + 7) m_X11_feared [vr 0, vi v1, vi v2] M Q := by
  refine S sc d (ax_rh [v1, v2, (M 0 10), (M 0 12)]) M _ Q rfl rfl (And.intro (ax_r) (And.intro (ax_i (by decide) rfl) (And.intro (ax_i (by decide) rfl) (And.intro (ax_o) (And.intro (ax_o) (And.intro (ax_o) (And.intro (ax_o) trivial))))))) ⟨(ax_e1 (by decide) h0.1 h0.2 (ax_e1 (by decide) h1.1 h1.2 (ax_e1 (by decide) h2.1 h2.2 (ax_e1 (by decide) h3.1 h3.2 ax_e0)))), (ax_f1 (i := 10) (by decide) (by decide) (by show 0 + 10 = 10; omega) (by decide) rfl (ax_f1 (i := 12) (by decide) (by decide) (by show 0 + 12 = 12; omega) (by decide) rfl ax_f0)), ax_c0, ax_m0⟩ G j (fun r M1 g f hq => ?_)
  replace hq := ax_q1 hq
  obtain ⟨-, ρ1, e0, hr, kE, kF, kC, kN⟩ := hq
  have hr : r = vi (ρ1 4) := hr
  have e1 : ρ1 0 = v1 := e0 0 (by decide)
  have e2 : ρ1 1 = v2 := e0 1 (by decide)
  have e3 : ρ1 2 = (M 0 10) := e0 2 (by decide)
  have e4 : ρ1 3 = (M 0 12) := e0 3 (by decide)
  have b0 := kE _ (List.mem_cons_self)
  have b0 : (-1000) ≤ ρ1 4 ∧ ρ1 4 ≤ 999 := b0.2
  rw [hr]
  exact k0 _ _ (by omega) (by omega) g f
theorem u_X11_feared_c62_66 {J : MM → Prop} (S : ai_SP ax_T J ap_X11_feared_c62_66) {sc : List Int} {d : Nat} {M : MM} {Q : Vv → MM → Prop} {v1 v2 : Int} (h0 : (-2147483648) ≤ v1 ∧ v1 ≤ 2147483647) (h1 : (-2147483648) ≤ v2 ∧ v2 ≤ 2147483647) (h2 : 62 ≤ (M 0 10) ∧ (M 0 10) ≤ 62) (h3 : 66 ≤ (M 0 12) ∧ (M 0 12) ≤ 66) (G : ai_GI ax_T M) (j : J M) (k0 : ∀ (r : Int) (M1 : MM), (-1000) ≤ r → r ≤ 999 → ai_GI ax_T M1 → ai_Fr ax_T ap_X11_feared_c62_66.2.2.2.1 M M1 → Q (vi r) M1) : CA FF sc YF (d + 7) m_X11_feared [vr 0, vi v1, vi v2] M Q := by
  refine S sc d (ax_rh [v1, v2, (M 0 10), (M 0 12)]) M _ Q rfl rfl (And.intro (ax_r) (And.intro (ax_i (by decide) rfl) (And.intro (ax_i (by decide) rfl) (And.intro (ax_o) (And.intro (ax_o) (And.intro (ax_o) (And.intro (ax_o) trivial))))))) ⟨(ax_e1 (by decide) h0.1 h0.2 (ax_e1 (by decide) h1.1 h1.2 (ax_e1 (by decide) h2.1 h2.2 (ax_e1 (by decide) h3.1 h3.2 ax_e0)))), (ax_f1 (i := 10) (by decide) (by decide) (by show 0 + 10 = 10; omega) (by decide) rfl (ax_f1 (i := 12) (by decide) (by decide) (by show 0 + 12 = 12; omega) (by decide) rfl ax_f0)), ax_c0, ax_m0⟩ G j (fun r M1 g f hq => ?_)
  replace hq := ax_q1 hq
  obtain ⟨-, ρ1, e0, hr, kE, kF, kC, kN⟩ := hq
  have hr : r = vi (ρ1 4) := hr
  have e1 : ρ1 0 = v1 := e0 0 (by decide)
  have e2 : ρ1 1 = v2 := e0 1 (by decide)
  have e3 : ρ1 2 = (M 0 10) := e0 2 (by decide)
  have e4 : ρ1 3 = (M 0 12) := e0 3 (by decide)
  have b0 := kE _ (List.mem_cons_self)
  have b0 : (-1000) ≤ ρ1 4 ∧ ρ1 4 ≤ 999 := b0.2
  rw [hr]
  exact k0 _ _ (by omega) (by omega) g f
theorem u_X11_feared_c62_74 {J : MM → Prop} (S : ai_SP ax_T J ap_X11_feared_c62_74) {sc : List Int} {d : Nat} {M : MM} {Q : Vv → MM → Prop} {v1 v2 : Int} (h0 : (-2147483648) ≤ v1 ∧ v1 ≤ 2147483647) (h1 : (-2147483648) ≤ v2 ∧ v2 ≤ 2147483647) (h2 : 62 ≤ (M 0 10) ∧ (M 0 10) ≤ 62) (h3 : 74 ≤ (M 0 12) ∧ (M 0 12) ≤ 74) (G : ai_GI ax_T M) (j : J M) (k0 : ∀ (r : Int) (M1 : MM), (-1000) ≤ r → r ≤ 999 → ai_GI ax_T M1 → ai_Fr ax_T ap_X11_feared_c62_74.2.2.2.1 M M1 → Q (vi r) M1) : CA FF sc YF (d + 7) m_X11_feared [vr 0, vi v1, vi v2] M Q := by
  refine S sc d (ax_rh [v1, v2, (M 0 10), (M 0 12)]) M _ Q rfl rfl (And.intro (ax_r) (And.intro (ax_i (by decide) rfl) (And.intro (ax_i (by decide) rfl) (And.intro (ax_o) (And.intro (ax_o) (And.intro (ax_o) (And.intro (ax_o) trivial))))))) ⟨(ax_e1 (by decide) h0.1 h0.2 (ax_e1 (by decide) h1.1 h1.2 (ax_e1 (by decide) h2.1 h2.2 (ax_e1 (by decide) h3.1 h3.2 ax_e0)))), (ax_f1 (i := 10) (by decide) (by decide) (by show 0 + 10 = 10; omega) (by decide) rfl (ax_f1 (i := 12) (by decide) (by decide) (by show 0 + 12 = 12; omega) (by decide) rfl ax_f0)), ax_c0, ax_m0⟩ G j (fun r M1 g f hq => ?_)
  replace hq := ax_q1 hq
  obtain ⟨-, ρ1, e0, hr, kE, kF, kC, kN⟩ := hq
  have hr : r = vi (ρ1 4) := hr
  have e1 : ρ1 0 = v1 := e0 0 (by decide)
  have e2 : ρ1 1 = v2 := e0 1 (by decide)
  have e3 : ρ1 2 = (M 0 10) := e0 2 (by decide)
  have e4 : ρ1 3 = (M 0 12) := e0 3 (by decide)
  have b0 := kE _ (List.mem_cons_self)
  have b0 : (-1000) ≤ ρ1 4 ∧ ρ1 4 ≤ 999 := b0.2
  rw [hr]
  exact k0 _ _ (by omega) (by omega) g f
theorem cf_feared {sc : List Int} {a0 a1 : Int} (i0 : in32 a0) (i1 : in32 a1) {M : MM} (G : axG M) : CA FF sc YF 59 m_X11_feared [vr 0, vi a0, vi a1] M (cxF cw_feared M) := by
  obtain ⟨g, j, W⟩ := G
  rcases id W.1 with ⟨e10, e11⟩ | ⟨e10, e11⟩ <;> rcases id W.2 with ⟨e12, e13⟩ | ⟨e12, e13⟩
  · exact u_X11_feared_c58_66 (d := 59 - 7) (Q := cxF cw_feared M) (ah_X11_feared_c58_66 axH) (v1 := a0) (v2 := a1) (by have := i0; unfold in32 at this; omega) (by have := i1; unfold in32 at this; omega) (by have := rO_0_10 g; omega) (by have := rO_0_12 g; omega) g j (fun r M1 q0 q1 g1 f1 => have z := (cx_fin g1 f1 j W (by decide +kernel)); ⟨⟨r, rfl⟩, z.1, z.2, Keep.of_fr f1 (by decide +kernel)⟩)
  · exact u_X11_feared_c58_74 (d := 59 - 7) (Q := cxF cw_feared M) (ah_X11_feared_c58_74 axH) (v1 := a0) (v2 := a1) (by have := i0; unfold in32 at this; omega) (by have := i1; unfold in32 at this; omega) (by have := rO_0_10 g; omega) (by have := rO_0_12 g; omega) g j (fun r M1 q0 q1 g1 f1 => have z := (cx_fin g1 f1 j W (by decide +kernel)); ⟨⟨r, rfl⟩, z.1, z.2, Keep.of_fr f1 (by decide +kernel)⟩)
  · exact u_X11_feared_c62_66 (d := 59 - 7) (Q := cxF cw_feared M) (ah_X11_feared_c62_66 axH) (v1 := a0) (v2 := a1) (by have := i0; unfold in32 at this; omega) (by have := i1; unfold in32 at this; omega) (by have := rO_0_10 g; omega) (by have := rO_0_12 g; omega) g j (fun r M1 q0 q1 g1 f1 => have z := (cx_fin g1 f1 j W (by decide +kernel)); ⟨⟨r, rfl⟩, z.1, z.2, Keep.of_fr f1 (by decide +kernel)⟩)
  · exact u_X11_feared_c62_74 (d := 59 - 7) (Q := cxF cw_feared M) (ah_X11_feared_c62_74 axH) (v1 := a0) (v2 := a1) (by have := i0; unfold in32 at this; omega) (by have := i1; unfold in32 at this; omega) (by have := rO_0_10 g; omega) (by have := rO_0_12 g; omega) g j (fun r M1 q0 q1 g1 f1 => have z := (cx_fin g1 f1 j W (by decide +kernel)); ⟨⟨r, rfl⟩, z.1, z.2, Keep.of_fr f1 (by decide +kernel)⟩)
def cw_sightings : Nat := kpS
theorem cf_sightings {sc : List Int} {a0 a1 : Int} (i0 : in32 a0) (i1 : in32 a1) {M : MM} (G : axG M) : CA FF sc YF 59 m_X11_sightings [vr 0, vi a0, vi a1] M (cxF cw_sightings M) := by
  obtain ⟨g, j, W⟩ := G
  rcases id W.1 with ⟨e10, e11⟩ | ⟨e10, e11⟩
  · exact sx_sightings_57 (d := 53) ⟨g, j, W⟩ e10 (fun r M1 G1 u k q kp => ⟨⟨r, rfl⟩, G1, u, kp⟩)
  · exact sx_sightings_61 (d := 53) ⟨g, j, W⟩ e10 (fun r M1 G1 u k q kp => ⟨⟨r, rfl⟩, G1, u, kp⟩)
def cw_rotas : Nat := 551744934429463295668663929006497367117657536410540844580736585623525131641330407150600101305729251565593135388000548999182402661110765563629422853519873097265044257207470810718849231611701559251177452518992086636694164196702990349431148464210372337996054787378030953959538315518789088900655304185928974412292104966017108845614194576527430106344811141618014046340524985060258813147518236234731697646476983007188952472618715088146668512727401413955716016289276821420018610230122503940204179414416479537604711353773698362568156715516219068049217307448293620025407126329405860878302079894971356551385777329341108575104188460465067716402338345563150372875196513663501744493017422911170534301669286247952562352062972632449783415057524154144270168154918616169345064208554661376028348345277245028030298954909626437524553486172093604856463061056887618551642337570754298106877127521483105330819206832309588721707353450495068829871391227193875893351442895343586540231953132408779645822042345529127785669930698659518800718121696988043860516516047473290478513977196794636737392944637446497440487811612200301245739592796701314040801783515522329674941360466481143680277174206682463419191034664759962459096893611108277523632806565585815455900057373969438622780681474841033819018586394518777360540884745439856118541438485410844026234524426107238778938803394563101327648859836184305320754404778580844684731928597347874077401302984883123871067415897154257866968996583113940097843709062526987207436772888288699976981216256
theorem u_X11_rotas_c58_66 {J : MM → Prop} (S : ai_SP ax_T J ap_X11_rotas_c58_66) {sc : List Int} {d : Nat} {M : MM} {Q : Vv → MM → Prop} {v1 v2 v3 v4 : Int} (h0 : (-2147483648) ≤ v1 ∧ v1 ≤ 2147483647) (h1 : (-2147483648) ≤ v2 ∧ v2 ≤ 2147483647) (h2 : (-2147483648) ≤ v3 ∧ v3 ≤ 2147483647) (h3 : (-2147483648) ≤ v4 ∧ v4 ≤ 2147483647) (h4 : 58 ≤ (M 0 10) ∧ (M 0 10) ≤ 58) (h5 : 66 ≤ (M 0 12) ∧ (M 0 12) ≤ 66) (G : ai_GI ax_T M) (j : J M) (k0 : ∀ (r : Int) (M1 : MM), (-128) ≤ r → r ≤ 1000000000 → ai_GI ax_T M1 → ai_Fr ax_T ap_X11_rotas_c58_66.2.2.2.1 M M1 → Q (vi r) M1) : CA FF sc YF (d + 5) m_X11_rotas [vr 0, vi v1, vi v2, vi v3, vi v4] M Q := by
  refine S sc d (ax_rh [v1, v2, v3, v4, (M 0 10), (M 0 12)]) M _ Q rfl rfl (And.intro (ax_r) (And.intro (ax_i (by decide) rfl) (And.intro (ax_i (by decide) rfl) (And.intro (ax_i (by decide) rfl) (And.intro (ax_i (by decide) rfl) (And.intro (ax_o) trivial)))))) ⟨(ax_e1 (by decide) h0.1 h0.2 (ax_e1 (by decide) h1.1 h1.2 (ax_e1 (by decide) h2.1 h2.2 (ax_e1 (by decide) h3.1 h3.2 (ax_e1 (by decide) h4.1 h4.2 (ax_e1 (by decide) h5.1 h5.2 ax_e0)))))), (ax_f1 (i := 10) (by decide) (by decide) (by show 0 + 10 = 10; omega) (by decide) rfl (ax_f1 (i := 12) (by decide) (by decide) (by show 0 + 12 = 12; omega) (by decide) rfl ax_f0)), ax_c0, ax_m0⟩ G j (fun r M1 g f hq => ?_)
  replace hq := ax_q1 hq
  obtain ⟨-, ρ1, e0, hr, kE, kF, kC, kN⟩ := hq
  have hr : r = vi (ρ1 6) := hr
  have e1 : ρ1 0 = v1 := e0 0 (by decide)
  have e2 : ρ1 1 = v2 := e0 1 (by decide)
  have e3 : ρ1 2 = v3 := e0 2 (by decide)
  have e4 : ρ1 3 = v4 := e0 3 (by decide)
  have e5 : ρ1 4 = (M 0 10) := e0 4 (by decide)
  have e6 : ρ1 5 = (M 0 12) := e0 5 (by decide)
  have b0 := kE _ (List.mem_cons_self)
  have b0 : (-128) ≤ ρ1 6 ∧ ρ1 6 ≤ 1000000000 := b0.2
  rw [hr]
  exact k0 _ _ (by omega) (by omega) g f
theorem u_X11_rotas_c58_74 {J : MM → Prop} (S : ai_SP ax_T J ap_X11_rotas_c58_74) {sc : List Int} {d : Nat} {M : MM} {Q : Vv → MM → Prop} {v1 v2 v3 v4 : Int} (h0 : (-2147483648) ≤ v1 ∧ v1 ≤ 2147483647) (h1 : (-2147483648) ≤ v2 ∧ v2 ≤ 2147483647) (h2 : (-2147483648) ≤ v3 ∧ v3 ≤ 2147483647) (h3 : (-2147483648) ≤ v4 ∧ v4 ≤ 2147483647) (h4 : 58 ≤ (M 0 10) ∧ (M 0 10) ≤ 58) (h5 : 74 ≤ (M 0 12) ∧ (M 0 12) ≤ 74) (G : ai_GI ax_T M) (j : J M) (k0 : ∀ (r : Int) (M1 : MM), (-128) ≤ r → r ≤ 1000000000 → ai_GI ax_T M1 → ai_Fr ax_T ap_X11_rotas_c58_74.2.2.2.1 M M1 → Q (vi r) M1) : CA FF sc YF (d + 5) m_X11_rotas [vr 0, vi v1, vi v2, vi v3, vi v4] M Q := by
  refine S sc d (ax_rh [v1, v2, v3, v4, (M 0 10), (M 0 12)]) M _ Q rfl rfl (And.intro (ax_r) (And.intro (ax_i (by decide) rfl) (And.intro (ax_i (by decide) rfl) (And.intro (ax_i (by decide) rfl) (And.intro (ax_i (by decide) rfl) (And.intro (ax_o) trivial)))))) ⟨(ax_e1 (by decide) h0.1 h0.2 (ax_e1 (by decide) h1.1 h1.2 (ax_e1 (by decide) h2.1 h2.2 (ax_e1 (by decide) h3.1 h3.2 (ax_e1 (by decide) h4.1 h4.2 (ax_e1 (by decide) h5.1 h5.2 ax_e0)))))), (ax_f1 (i := 10) (by decide) (by decide) (by show 0 + 10 = 10; omega) (by decide) rfl (ax_f1 (i := 12) (by decide) (by decide) (by show 0 + 12 = 12; omega) (by decide) rfl ax_f0)), ax_c0, ax_m0⟩ G j (fun r M1 g f hq => ?_)
  replace hq := ax_q1 hq
  obtain ⟨-, ρ1, e0, hr, kE, kF, kC, kN⟩ := hq
  have hr : r = vi (ρ1 6) := hr
  have e1 : ρ1 0 = v1 := e0 0 (by decide)
  have e2 : ρ1 1 = v2 := e0 1 (by decide)
  have e3 : ρ1 2 = v3 := e0 2 (by decide)
  have e4 : ρ1 3 = v4 := e0 3 (by decide)
  have e5 : ρ1 4 = (M 0 10) := e0 4 (by decide)
  have e6 : ρ1 5 = (M 0 12) := e0 5 (by decide)
  have b0 := kE _ (List.mem_cons_self)
  have b0 : (-128) ≤ ρ1 6 ∧ ρ1 6 ≤ 1000000000 := b0.2
  rw [hr]
  exact k0 _ _ (by omega) (by omega) g f
theorem u_X11_rotas_c62_66 {J : MM → Prop} (S : ai_SP ax_T J ap_X11_rotas_c62_66) {sc : List Int} {d : Nat} {M : MM} {Q : Vv → MM → Prop} {v1 v2 v3 v4 : Int} (h0 : (-2147483648) ≤ v1 ∧ v1 ≤ 2147483647) (h1 : (-2147483648) ≤ v2 ∧ v2 ≤ 2147483647) (h2 : (-2147483648) ≤ v3 ∧ v3 ≤ 2147483647) (h3 : (-2147483648) ≤ v4 ∧ v4 ≤ 2147483647) (h4 : 62 ≤ (M 0 10) ∧ (M 0 10) ≤ 62) (h5 : 66 ≤ (M 0 12) ∧ (M 0 12) ≤ 66) (G : ai_GI ax_T M) (j : J M) (k0 : ∀ (r : Int) (M1 : MM), (-128) ≤ r → r ≤ 1000000000 → ai_GI ax_T M1 → ai_Fr ax_T ap_X11_rotas_c62_66.2.2.2.1 M M1 → Q (vi r) M1) : CA FF sc YF (d + 5) m_X11_rotas [vr 0, vi v1, vi v2, vi v3, vi v4] M Q := by
  refine S sc d (ax_rh [v1, v2, v3, v4, (M 0 10), (M 0 12)]) M _ Q rfl rfl (And.intro (ax_r) (And.intro (ax_i (by decide) rfl) (And.intro (ax_i (by decide) rfl) (And.intro (ax_i (by decide) rfl) (And.intro (ax_i (by decide) rfl) (And.intro (ax_o) trivial)))))) ⟨(ax_e1 (by decide) h0.1 h0.2 (ax_e1 (by decide) h1.1 h1.2 (ax_e1 (by decide) h2.1 h2.2 (ax_e1 (by decide) h3.1 h3.2 (ax_e1 (by decide) h4.1 h4.2 (ax_e1 (by decide) h5.1 h5.2 ax_e0)))))), (ax_f1 (i := 10) (by decide) (by decide) (by show 0 + 10 = 10; omega) (by decide) rfl (ax_f1 (i := 12) (by decide) (by decide) (by show 0 + 12 = 12; omega) (by decide) rfl ax_f0)), ax_c0, ax_m0⟩ G j (fun r M1 g f hq => ?_)
  replace hq := ax_q1 hq
  obtain ⟨-, ρ1, e0, hr, kE, kF, kC, kN⟩ := hq
  have hr : r = vi (ρ1 6) := hr
  have e1 : ρ1 0 = v1 := e0 0 (by decide)
  have e2 : ρ1 1 = v2 := e0 1 (by decide)
  have e3 : ρ1 2 = v3 := e0 2 (by decide)
  have e4 : ρ1 3 = v4 := e0 3 (by decide)
  have e5 : ρ1 4 = (M 0 10) := e0 4 (by decide)
  have e6 : ρ1 5 = (M 0 12) := e0 5 (by decide)
  have b0 := kE _ (List.mem_cons_self)
  have b0 : (-128) ≤ ρ1 6 ∧ ρ1 6 ≤ 1000000000 := b0.2
  rw [hr]
  exact k0 _ _ (by omega) (by omega) g f
theorem u_X11_rotas_c62_74 {J : MM → Prop} (S : ai_SP ax_T J ap_X11_rotas_c62_74) {sc : List Int} {d : Nat} {M : MM} {Q : Vv → MM → Prop} {v1 v2 v3 v4 : Int} (h0 : (-2147483648) ≤ v1 ∧ v1 ≤ 2147483647) (h1 : (-2147483648) ≤ v2 ∧ v2 ≤ 2147483647) (h2 : (-2147483648) ≤ v3 ∧ v3 ≤ 2147483647) (h3 : (-2147483648) ≤ v4 ∧ v4 ≤ 2147483647) (h4 : 62 ≤ (M 0 10) ∧ (M 0 10) ≤ 62) (h5 : 74 ≤ (M 0 12) ∧ (M 0 12) ≤ 74) (G : ai_GI ax_T M) (j : J M) (k0 : ∀ (r : Int) (M1 : MM), (-128) ≤ r → r ≤ 1000000000 → ai_GI ax_T M1 → ai_Fr ax_T ap_X11_rotas_c62_74.2.2.2.1 M M1 → Q (vi r) M1) : CA FF sc YF (d + 5) m_X11_rotas [vr 0, vi v1, vi v2, vi v3, vi v4] M Q := by
  refine S sc d (ax_rh [v1, v2, v3, v4, (M 0 10), (M 0 12)]) M _ Q rfl rfl (And.intro (ax_r) (And.intro (ax_i (by decide) rfl) (And.intro (ax_i (by decide) rfl) (And.intro (ax_i (by decide) rfl) (And.intro (ax_i (by decide) rfl) (And.intro (ax_o) trivial)))))) ⟨(ax_e1 (by decide) h0.1 h0.2 (ax_e1 (by decide) h1.1 h1.2 (ax_e1 (by decide) h2.1 h2.2 (ax_e1 (by decide) h3.1 h3.2 (ax_e1 (by decide) h4.1 h4.2 (ax_e1 (by decide) h5.1 h5.2 ax_e0)))))), (ax_f1 (i := 10) (by decide) (by decide) (by show 0 + 10 = 10; omega) (by decide) rfl (ax_f1 (i := 12) (by decide) (by decide) (by show 0 + 12 = 12; omega) (by decide) rfl ax_f0)), ax_c0, ax_m0⟩ G j (fun r M1 g f hq => ?_)
  replace hq := ax_q1 hq
  obtain ⟨-, ρ1, e0, hr, kE, kF, kC, kN⟩ := hq
  have hr : r = vi (ρ1 6) := hr
  have e1 : ρ1 0 = v1 := e0 0 (by decide)
  have e2 : ρ1 1 = v2 := e0 1 (by decide)
  have e3 : ρ1 2 = v3 := e0 2 (by decide)
  have e4 : ρ1 3 = v4 := e0 3 (by decide)
  have e5 : ρ1 4 = (M 0 10) := e0 4 (by decide)
  have e6 : ρ1 5 = (M 0 12) := e0 5 (by decide)
  have b0 := kE _ (List.mem_cons_self)
  have b0 : (-128) ≤ ρ1 6 ∧ ρ1 6 ≤ 1000000000 := b0.2
  rw [hr]
  exact k0 _ _ (by omega) (by omega) g f
theorem cf_rotas {sc : List Int} {a0 a1 a2 a3 : Int} (i0 : in32 a0) (i1 : in32 a1) (i2 : in32 a2) (i3 : in32 a3) {M : MM} (G : axG M) : CA FF sc YF 59 m_X11_rotas [vr 0, vi a0, vi a1, vi a2, vi a3] M (cxF cw_rotas M) := by
  obtain ⟨g, j, W⟩ := G
  rcases id W.1 with ⟨e10, e11⟩ | ⟨e10, e11⟩ <;> rcases id W.2 with ⟨e12, e13⟩ | ⟨e12, e13⟩
  · exact u_X11_rotas_c58_66 (d := 59 - 5) (Q := cxF cw_rotas M) (ah_X11_rotas_c58_66 axH) (v1 := a0) (v2 := a1) (v3 := a2) (v4 := a3) (by have := i0; unfold in32 at this; omega) (by have := i1; unfold in32 at this; omega) (by have := i2; unfold in32 at this; omega) (by have := i3; unfold in32 at this; omega) (by have := rO_0_10 g; omega) (by have := rO_0_12 g; omega) g j (fun r M1 q0 q1 g1 f1 => have z := (cx_fin g1 f1 j W (by decide +kernel)); ⟨⟨r, rfl⟩, z.1, z.2, Keep.of_fr f1 (by decide +kernel)⟩)
  · exact u_X11_rotas_c58_74 (d := 59 - 5) (Q := cxF cw_rotas M) (ah_X11_rotas_c58_74 axH) (v1 := a0) (v2 := a1) (v3 := a2) (v4 := a3) (by have := i0; unfold in32 at this; omega) (by have := i1; unfold in32 at this; omega) (by have := i2; unfold in32 at this; omega) (by have := i3; unfold in32 at this; omega) (by have := rO_0_10 g; omega) (by have := rO_0_12 g; omega) g j (fun r M1 q0 q1 g1 f1 => have z := (cx_fin g1 f1 j W (by decide +kernel)); ⟨⟨r, rfl⟩, z.1, z.2, Keep.of_fr f1 (by decide +kernel)⟩)
  · exact u_X11_rotas_c62_66 (d := 59 - 5) (Q := cxF cw_rotas M) (ah_X11_rotas_c62_66 axH) (v1 := a0) (v2 := a1) (v3 := a2) (v4 := a3) (by have := i0; unfold in32 at this; omega) (by have := i1; unfold in32 at this; omega) (by have := i2; unfold in32 at this; omega) (by have := i3; unfold in32 at this; omega) (by have := rO_0_10 g; omega) (by have := rO_0_12 g; omega) g j (fun r M1 q0 q1 g1 f1 => have z := (cx_fin g1 f1 j W (by decide +kernel)); ⟨⟨r, rfl⟩, z.1, z.2, Keep.of_fr f1 (by decide +kernel)⟩)
  · exact u_X11_rotas_c62_74 (d := 59 - 5) (Q := cxF cw_rotas M) (ah_X11_rotas_c62_74 axH) (v1 := a0) (v2 := a1) (v3 := a2) (v4 := a3) (by have := i0; unfold in32 at this; omega) (by have := i1; unfold in32 at this; omega) (by have := i2; unfold in32 at this; omega) (by have := i3; unfold in32 at this; omega) (by have := rO_0_10 g; omega) (by have := rO_0_12 g; omega) g j (fun r M1 q0 q1 g1 f1 => have z := (cx_fin g1 f1 j W (by decide +kernel)); ⟨⟨r, rfl⟩, z.1, z.2, Keep.of_fr f1 (by decide +kernel)⟩)
def cw_goes : Nat := 551744934429463295668663929006497367117657536410540844580736585623525131641330407150600101305729251565593135388000548999182402661110765563629422853519873097265044257207470810718849231611701559251177452518992086636694164196702990349431148464210372337996054787378030953959538315518789088900655304185928974412292104966017108845614194576527430106344811141618014046340524985060258813147518236234731697646476983007188952472618715088146668512727401413955716016289276821420018610230122503940204179414416479537604711353773698362568156715516219068049217307448293620025407126329405860878302079894971356551385777329341108575102003129576088299346709134675312358583606539201742657366255599531802064101253115271386867103910518726493381302652075355524780026840485277179229643476897117047325196230188139418849082702643585151883102616198247223727067511059735781054263497222022594079559365276899772192083514927731501515432891182344847488988327597018289725041734814840670343009163567858312539809161563333159503577480289486345881471222569960292036382448193311638676631945563015937834966672865824861765813132418555332380207981928847487635349401936503451392409093934407884428469596217775289064132420060641458312210616437686343903077189909450122020920093102553281835591716329408998317056585852647216225869862084584952858390565890825933253783160072801982544374669230232649435409449036377527699875038945038563829258994151858866318483988831424612008019420494405678565717165266797153168345214193070946406490447115412733512957099008
theorem u_X11_goes_c58_66 {J : MM → Prop} (S : ai_SP ax_T J ap_X11_goes_c58_66) {sc : List Int} {d : Nat} {M : MM} {Q : Vv → MM → Prop} {v1 v2 : Int} (h0 : (-2147483648) ≤ v1 ∧ v1 ≤ 2147483647) (h1 : (-2147483648) ≤ v2 ∧ v2 ≤ 2147483647) (h2 : 58 ≤ (M 0 10) ∧ (M 0 10) ≤ 58) (h3 : 66 ≤ (M 0 12) ∧ (M 0 12) ≤ 66) (G : ai_GI ax_T M) (j : J M) (k0 : ∀ (r : Int) (M1 : MM), (-1) ≤ r → r ≤ 1023 → ai_GI ax_T M1 → ai_Fr ax_T ap_X11_goes_c58_66.2.2.2.1 M M1 → Q (vi r) M1) : CA FF sc YF (d + 6) m_X11_goes [vr 0, vi v1, vi v2] M Q := by
  refine S sc d (ax_rh [v1, v2, (M 0 10), (M 0 12)]) M _ Q rfl rfl (And.intro (ax_r) (And.intro (ax_i (by decide) rfl) (And.intro (ax_i (by decide) rfl) (And.intro (ax_o) (And.intro (ax_o) trivial))))) ⟨(ax_e1 (by decide) h0.1 h0.2 (ax_e1 (by decide) h1.1 h1.2 (ax_e1 (by decide) h2.1 h2.2 (ax_e1 (by decide) h3.1 h3.2 ax_e0)))), (ax_f1 (i := 10) (by decide) (by decide) (by show 0 + 10 = 10; omega) (by decide) rfl (ax_f1 (i := 12) (by decide) (by decide) (by show 0 + 12 = 12; omega) (by decide) rfl ax_f0)), ax_c0, ax_m0⟩ G j (fun r M1 g f hq => ?_)
  replace hq := ax_q1 hq
  obtain ⟨-, ρ1, e0, hr, kE, kF, kC, kN⟩ := hq
  have hr : r = vi (ρ1 4) := hr
  have e1 : ρ1 0 = v1 := e0 0 (by decide)
  have e2 : ρ1 1 = v2 := e0 1 (by decide)
  have e3 : ρ1 2 = (M 0 10) := e0 2 (by decide)
  have e4 : ρ1 3 = (M 0 12) := e0 3 (by decide)
  have b0 := kE _ (List.mem_cons_self)
  have b0 : (-1) ≤ ρ1 4 ∧ ρ1 4 ≤ 1023 := b0.2
  rw [hr]
  exact k0 _ _ (by omega) (by omega) g f
theorem u_X11_goes_c58_74 {J : MM → Prop} (S : ai_SP ax_T J ap_X11_goes_c58_74) {sc : List Int} {d : Nat} {M : MM} {Q : Vv → MM → Prop} {v1 v2 : Int} (h0 : (-2147483648) ≤ v1 ∧ v1 ≤ 2147483647) (h1 : (-2147483648) ≤ v2 ∧ v2 ≤ 2147483647) (h2 : 58 ≤ (M 0 10) ∧ (M 0 10) ≤ 58) (h3 : 74 ≤ (M 0 12) ∧ (M 0 12) ≤ 74) (G : ai_GI ax_T M) (j : J M) (k0 : ∀ (r : Int) (M1 : MM), (-1) ≤ r → r ≤ 1023 → ai_GI ax_T M1 → ai_Fr ax_T ap_X11_goes_c58_74.2.2.2.1 M M1 → Q (vi r) M1) : CA FF sc YF (d + 6) m_X11_goes [vr 0, vi v1, vi v2] M Q := by
  refine S sc d (ax_rh [v1, v2, (M 0 10), (M 0 12)]) M _ Q rfl rfl (And.intro (ax_r) (And.intro (ax_i (by decide) rfl) (And.intro (ax_i (by decide) rfl) (And.intro (ax_o) (And.intro (ax_o) trivial))))) ⟨(ax_e1 (by decide) h0.1 h0.2 (ax_e1 (by decide) h1.1 h1.2 (ax_e1 (by decide) h2.1 h2.2 (ax_e1 (by decide) h3.1 h3.2 ax_e0)))), (ax_f1 (i := 10) (by decide) (by decide) (by show 0 + 10 = 10; omega) (by decide) rfl (ax_f1 (i := 12) (by decide) (by decide) (by show 0 + 12 = 12; omega) (by decide) rfl ax_f0)), ax_c0, ax_m0⟩ G j (fun r M1 g f hq => ?_)
  replace hq := ax_q1 hq
  obtain ⟨-, ρ1, e0, hr, kE, kF, kC, kN⟩ := hq
  have hr : r = vi (ρ1 4) := hr
  have e1 : ρ1 0 = v1 := e0 0 (by decide)
  have e2 : ρ1 1 = v2 := e0 1 (by decide)
  have e3 : ρ1 2 = (M 0 10) := e0 2 (by decide)
  have e4 : ρ1 3 = (M 0 12) := e0 3 (by decide)
  have b0 := kE _ (List.mem_cons_self)
  have b0 : (-1) ≤ ρ1 4 ∧ ρ1 4 ≤ 1023 := b0.2
  rw [hr]
  exact k0 _ _ (by omega) (by omega) g f
theorem u_X11_goes_c62_66 {J : MM → Prop} (S : ai_SP ax_T J ap_X11_goes_c62_66) {sc : List Int} {d : Nat} {M : MM} {Q : Vv → MM → Prop} {v1 v2 : Int} (h0 : (-2147483648) ≤ v1 ∧ v1 ≤ 2147483647) (h1 : (-2147483648) ≤ v2 ∧ v2 ≤ 2147483647) (h2 : 62 ≤ (M 0 10) ∧ (M 0 10) ≤ 62) (h3 : 66 ≤ (M 0 12) ∧ (M 0 12) ≤ 66) (G : ai_GI ax_T M) (j : J M) (k0 : ∀ (r : Int) (M1 : MM), (-1) ≤ r → r ≤ 1023 → ai_GI ax_T M1 → ai_Fr ax_T ap_X11_goes_c62_66.2.2.2.1 M M1 → Q (vi r) M1) : CA FF sc YF (d + 6) m_X11_goes [vr 0, vi v1, vi v2] M Q := by
  refine S sc d (ax_rh [v1, v2, (M 0 10), (M 0 12)]) M _ Q rfl rfl (And.intro (ax_r) (And.intro (ax_i (by decide) rfl) (And.intro (ax_i (by decide) rfl) (And.intro (ax_o) (And.intro (ax_o) trivial))))) ⟨(ax_e1 (by decide) h0.1 h0.2 (ax_e1 (by decide) h1.1 h1.2 (ax_e1 (by decide) h2.1 h2.2 (ax_e1 (by decide) h3.1 h3.2 ax_e0)))), (ax_f1 (i := 10) (by decide) (by decide) (by show 0 + 10 = 10; omega) (by decide) rfl (ax_f1 (i := 12) (by decide) (by decide) (by show 0 + 12 = 12; omega) (by decide) rfl ax_f0)), ax_c0, ax_m0⟩ G j (fun r M1 g f hq => ?_)
  replace hq := ax_q1 hq
  obtain ⟨-, ρ1, e0, hr, kE, kF, kC, kN⟩ := hq
  have hr : r = vi (ρ1 4) := hr
  have e1 : ρ1 0 = v1 := e0 0 (by decide)
  have e2 : ρ1 1 = v2 := e0 1 (by decide)
  have e3 : ρ1 2 = (M 0 10) := e0 2 (by decide)
  have e4 : ρ1 3 = (M 0 12) := e0 3 (by decide)
  have b0 := kE _ (List.mem_cons_self)
  have b0 : (-1) ≤ ρ1 4 ∧ ρ1 4 ≤ 1023 := b0.2
  rw [hr]
  exact k0 _ _ (by omega) (by omega) g f
theorem u_X11_goes_c62_74 {J : MM → Prop} (S : ai_SP ax_T J ap_X11_goes_c62_74) {sc : List Int} {d : Nat} {M : MM} {Q : Vv → MM → Prop} {v1 v2 : Int} (h0 : (-2147483648) ≤ v1 ∧ v1 ≤ 2147483647) (h1 : (-2147483648) ≤ v2 ∧ v2 ≤ 2147483647) (h2 : 62 ≤ (M 0 10) ∧ (M 0 10) ≤ 62) (h3 : 74 ≤ (M 0 12) ∧ (M 0 12) ≤ 74) (G : ai_GI ax_T M) (j : J M) (k0 : ∀ (r : Int) (M1 : MM), (-1) ≤ r → r ≤ 1023 → ai_GI ax_T M1 → ai_Fr ax_T ap_X11_goes_c62_74.2.2.2.1 M M1 → Q (vi r) M1) : CA FF sc YF (d + 6) m_X11_goes [vr 0, vi v1, vi v2] M Q := by
  refine S sc d (ax_rh [v1, v2, (M 0 10), (M 0 12)]) M _ Q rfl rfl (And.intro (ax_r) (And.intro (ax_i (by decide) rfl) (And.intro (ax_i (by decide) rfl) (And.intro (ax_o) (And.intro (ax_o) trivial))))) ⟨(ax_e1 (by decide) h0.1 h0.2 (ax_e1 (by decide) h1.1 h1.2 (ax_e1 (by decide) h2.1 h2.2 (ax_e1 (by decide) h3.1 h3.2 ax_e0)))), (ax_f1 (i := 10) (by decide) (by decide) (by show 0 + 10 = 10; omega) (by decide) rfl (ax_f1 (i := 12) (by decide) (by decide) (by show 0 + 12 = 12; omega) (by decide) rfl ax_f0)), ax_c0, ax_m0⟩ G j (fun r M1 g f hq => ?_)
  replace hq := ax_q1 hq
  obtain ⟨-, ρ1, e0, hr, kE, kF, kC, kN⟩ := hq
  have hr : r = vi (ρ1 4) := hr
  have e1 : ρ1 0 = v1 := e0 0 (by decide)
  have e2 : ρ1 1 = v2 := e0 1 (by decide)
  have e3 : ρ1 2 = (M 0 10) := e0 2 (by decide)
  have e4 : ρ1 3 = (M 0 12) := e0 3 (by decide)
  have b0 := kE _ (List.mem_cons_self)
  have b0 : (-1) ≤ ρ1 4 ∧ ρ1 4 ≤ 1023 := b0.2
  rw [hr]
  exact k0 _ _ (by omega) (by omega) g f
theorem cf_goes {sc : List Int} {a0 a1 : Int} (i0 : in32 a0) (i1 : in32 a1) {M : MM} (G : axG M) : CA FF sc YF 59 m_X11_goes [vr 0, vi a0, vi a1] M (cxF cw_goes M) := by
  obtain ⟨g, j, W⟩ := G
  rcases id W.1 with ⟨e10, e11⟩ | ⟨e10, e11⟩ <;> rcases id W.2 with ⟨e12, e13⟩ | ⟨e12, e13⟩
  · exact u_X11_goes_c58_66 (d := 59 - 6) (Q := cxF cw_goes M) (ah_X11_goes_c58_66 axH) (v1 := a0) (v2 := a1) (by have := i0; unfold in32 at this; omega) (by have := i1; unfold in32 at this; omega) (by have := rO_0_10 g; omega) (by have := rO_0_12 g; omega) g j (fun r M1 q0 q1 g1 f1 => have z := (cx_fin g1 f1 j W (by decide +kernel)); ⟨⟨r, rfl⟩, z.1, z.2, Keep.of_fr f1 (by decide +kernel)⟩)
  · exact u_X11_goes_c58_74 (d := 59 - 6) (Q := cxF cw_goes M) (ah_X11_goes_c58_74 axH) (v1 := a0) (v2 := a1) (by have := i0; unfold in32 at this; omega) (by have := i1; unfold in32 at this; omega) (by have := rO_0_10 g; omega) (by have := rO_0_12 g; omega) g j (fun r M1 q0 q1 g1 f1 => have z := (cx_fin g1 f1 j W (by decide +kernel)); ⟨⟨r, rfl⟩, z.1, z.2, Keep.of_fr f1 (by decide +kernel)⟩)
  · exact u_X11_goes_c62_66 (d := 59 - 6) (Q := cxF cw_goes M) (ah_X11_goes_c62_66 axH) (v1 := a0) (v2 := a1) (by have := i0; unfold in32 at this; omega) (by have := i1; unfold in32 at this; omega) (by have := rO_0_10 g; omega) (by have := rO_0_12 g; omega) g j (fun r M1 q0 q1 g1 f1 => have z := (cx_fin g1 f1 j W (by decide +kernel)); ⟨⟨r, rfl⟩, z.1, z.2, Keep.of_fr f1 (by decide +kernel)⟩)
  · exact u_X11_goes_c62_74 (d := 59 - 6) (Q := cxF cw_goes M) (ah_X11_goes_c62_74 axH) (v1 := a0) (v2 := a1) (by have := i0; unfold in32 at this; omega) (by have := i1; unfold in32 at this; omega) (by have := rO_0_10 g; omega) (by have := rO_0_12 g; omega) g j (fun r M1 q0 q1 g1 f1 => have z := (cx_fin g1 f1 j W (by decide +kernel)); ⟨⟨r, rfl⟩, z.1, z.2, Keep.of_fr f1 (by decide +kernel)⟩)
def cw_odds : Nat := 551744934429463295668663929006497367117657536410540844580736585623525131641330407150600101305729251565593135388000548999182402661110765563629422853519873097265044257207470810718849231611701559251177452518992086636694164196702990349431148464210372337996054787378030953959538315518789088900655304185928974412292104966017108845614194576527430106344811141618014046340524985060258813147518236234731697646476983007188952472618715088146668512727401413955716016289276821420018610230122503940204179414416479537604711353773698362568156715516219068049217307448293620025407126329405860878302079894971356551385777329341108575104188460465067716402338345563150372875196513663501744493017422911170534301669286247952562352062972632449783415057524154144270168154918616169345064208554661376028348345277245028030298954909626437524553486172093604856463061056887618551642337570754298106877127521483105330819206832309588721707353450495068829871391227193875893351442895343586540231953132408779645822042345529127785669930698659518800718121696988043860516516047473290478513977196794636737392944637446497440487811612200301245739592796701314040801783515522329674941360466481143680277174206682463419191034664759962459096893611108277523632806565585815455900057373969438622780681474841033819018586394518777360540884745439856118541438485410844026234524426107238778938803394563101327648859836184305320754404778580844684731928597347874077401302984883123871067415897154257866968996583113940097843709062526987207436772888288699976981216256
theorem u_X11_odds_c58_66 {J : MM → Prop} (S : ai_SP ax_T J ap_X11_odds_c58_66) {sc : List Int} {d : Nat} {M : MM} {Q : Vv → MM → Prop} {v1 v2 v3 : Int} (h0 : (-2147483648) ≤ v1 ∧ v1 ≤ 2147483647) (h1 : (-2147483648) ≤ v2 ∧ v2 ≤ 2147483647) (h2 : (-2147483648) ≤ v3 ∧ v3 ≤ 2147483647) (h3 : 58 ≤ (M 0 10) ∧ (M 0 10) ≤ 58) (h4 : 66 ≤ (M 0 12) ∧ (M 0 12) ≤ 66) (G : ai_GI ax_T M) (j : J M) (k0 : ∀ (r : Int) (M1 : MM), (-9223372036854775808) ≤ r → r ≤ 9223372036854775807 → ai_GI ax_T M1 → ai_Fr ax_T ap_X11_odds_c58_66.2.2.2.1 M M1 → Q (vl r) M1) : CA FF sc YF (d + 6) m_X11_odds [vr 0, vi v1, vi v2, vi v3] M Q := by
  refine S sc d (ax_rh [v1, v2, v3, (M 0 10), (M 0 12)]) M _ Q rfl rfl (And.intro (ax_r) (And.intro (ax_i (by decide) rfl) (And.intro (ax_i (by decide) rfl) (And.intro (ax_i (by decide) rfl) (And.intro (ax_o) (And.intro (ax_o) (And.intro (ax_o) (And.intro (ax_o) (And.intro (ax_o) (And.intro (ax_o) (And.intro (ax_o) trivial))))))))))) ⟨(ax_e1 (by decide) h0.1 h0.2 (ax_e1 (by decide) h1.1 h1.2 (ax_e1 (by decide) h2.1 h2.2 (ax_e1 (by decide) h3.1 h3.2 (ax_e1 (by decide) h4.1 h4.2 ax_e0))))), (ax_f1 (i := 10) (by decide) (by decide) (by show 0 + 10 = 10; omega) (by decide) rfl (ax_f1 (i := 12) (by decide) (by decide) (by show 0 + 12 = 12; omega) (by decide) rfl ax_f0)), ax_c0, ax_m0⟩ G j (fun r M1 g f hq => ?_)
  replace hq := ax_q1 hq
  obtain ⟨-, ρ1, e0, hr, kE, kF, kC, kN⟩ := hq
  have hr : r = vl (ρ1 5) := hr
  have e1 : ρ1 0 = v1 := e0 0 (by decide)
  have e2 : ρ1 1 = v2 := e0 1 (by decide)
  have e3 : ρ1 2 = v3 := e0 2 (by decide)
  have e4 : ρ1 3 = (M 0 10) := e0 3 (by decide)
  have e5 : ρ1 4 = (M 0 12) := e0 4 (by decide)
  have b0 := kE _ (List.mem_cons_self)
  have b0 : (-9223372036854775808) ≤ ρ1 5 ∧ ρ1 5 ≤ 9223372036854775807 := b0.2
  rw [hr]
  exact k0 _ _ (by omega) (by omega) g f
theorem u_X11_odds_c58_74 {J : MM → Prop} (S : ai_SP ax_T J ap_X11_odds_c58_74) {sc : List Int} {d : Nat} {M : MM} {Q : Vv → MM → Prop} {v1 v2 v3 : Int} (h0 : (-2147483648) ≤ v1 ∧ v1 ≤ 2147483647) (h1 : (-2147483648) ≤ v2 ∧ v2 ≤ 2147483647) (h2 : (-2147483648) ≤ v3 ∧ v3 ≤ 2147483647) (h3 : 58 ≤ (M 0 10) ∧ (M 0 10) ≤ 58) (h4 : 74 ≤ (M 0 12) ∧ (M 0 12) ≤ 74) (G : ai_GI ax_T M) (j : J M) (k0 : ∀ (r : Int) (M1 : MM), (-9223372036854775808) ≤ r → r ≤ 9223372036854775807 → ai_GI ax_T M1 → ai_Fr ax_T ap_X11_odds_c58_74.2.2.2.1 M M1 → Q (vl r) M1) : CA FF sc YF (d + 6) m_X11_odds [vr 0, vi v1, vi v2, vi v3] M Q := by
  refine S sc d (ax_rh [v1, v2, v3, (M 0 10), (M 0 12)]) M _ Q rfl rfl (And.intro (ax_r) (And.intro (ax_i (by decide) rfl) (And.intro (ax_i (by decide) rfl) (And.intro (ax_i (by decide) rfl) (And.intro (ax_o) (And.intro (ax_o) (And.intro (ax_o) (And.intro (ax_o) (And.intro (ax_o) (And.intro (ax_o) (And.intro (ax_o) trivial))))))))))) ⟨(ax_e1 (by decide) h0.1 h0.2 (ax_e1 (by decide) h1.1 h1.2 (ax_e1 (by decide) h2.1 h2.2 (ax_e1 (by decide) h3.1 h3.2 (ax_e1 (by decide) h4.1 h4.2 ax_e0))))), (ax_f1 (i := 10) (by decide) (by decide) (by show 0 + 10 = 10; omega) (by decide) rfl (ax_f1 (i := 12) (by decide) (by decide) (by show 0 + 12 = 12; omega) (by decide) rfl ax_f0)), ax_c0, ax_m0⟩ G j (fun r M1 g f hq => ?_)
  replace hq := ax_q1 hq
  obtain ⟨-, ρ1, e0, hr, kE, kF, kC, kN⟩ := hq
  have hr : r = vl (ρ1 5) := hr
  have e1 : ρ1 0 = v1 := e0 0 (by decide)
  have e2 : ρ1 1 = v2 := e0 1 (by decide)
  have e3 : ρ1 2 = v3 := e0 2 (by decide)
  have e4 : ρ1 3 = (M 0 10) := e0 3 (by decide)
  have e5 : ρ1 4 = (M 0 12) := e0 4 (by decide)
  have b0 := kE _ (List.mem_cons_self)
  have b0 : (-9223372036854775808) ≤ ρ1 5 ∧ ρ1 5 ≤ 9223372036854775807 := b0.2
  rw [hr]
  exact k0 _ _ (by omega) (by omega) g f
theorem u_X11_odds_c62_66 {J : MM → Prop} (S : ai_SP ax_T J ap_X11_odds_c62_66) {sc : List Int} {d : Nat} {M : MM} {Q : Vv → MM → Prop} {v1 v2 v3 : Int} (h0 : (-2147483648) ≤ v1 ∧ v1 ≤ 2147483647) (h1 : (-2147483648) ≤ v2 ∧ v2 ≤ 2147483647) (h2 : (-2147483648) ≤ v3 ∧ v3 ≤ 2147483647) (h3 : 62 ≤ (M 0 10) ∧ (M 0 10) ≤ 62) (h4 : 66 ≤ (M 0 12) ∧ (M 0 12) ≤ 66) (G : ai_GI ax_T M) (j : J M) (k0 : ∀ (r : Int) (M1 : MM), (-9223372036854775808) ≤ r → r ≤ 9223372036854775807 → ai_GI ax_T M1 → ai_Fr ax_T ap_X11_odds_c62_66.2.2.2.1 M M1 → Q (vl r) M1) : CA FF sc YF (d + 6) m_X11_odds [vr 0, vi v1, vi v2, vi v3] M Q := by
  refine S sc d (ax_rh [v1, v2, v3, (M 0 10), (M 0 12)]) M _ Q rfl rfl (And.intro (ax_r) (And.intro (ax_i (by decide) rfl) (And.intro (ax_i (by decide) rfl) (And.intro (ax_i (by decide) rfl) (And.intro (ax_o) (And.intro (ax_o) (And.intro (ax_o) (And.intro (ax_o) (And.intro (ax_o) (And.intro (ax_o) (And.intro (ax_o) trivial))))))))))) ⟨(ax_e1 (by decide) h0.1 h0.2 (ax_e1 (by decide) h1.1 h1.2 (ax_e1 (by decide) h2.1 h2.2 (ax_e1 (by decide) h3.1 h3.2 (ax_e1 (by decide) h4.1 h4.2 ax_e0))))), (ax_f1 (i := 10) (by decide) (by decide) (by show 0 + 10 = 10; omega) (by decide) rfl (ax_f1 (i := 12) (by decide) (by decide) (by show 0 + 12 = 12; omega) (by decide) rfl ax_f0)), ax_c0, ax_m0⟩ G j (fun r M1 g f hq => ?_)
  replace hq := ax_q1 hq
  obtain ⟨-, ρ1, e0, hr, kE, kF, kC, kN⟩ := hq
  have hr : r = vl (ρ1 5) := hr
  have e1 : ρ1 0 = v1 := e0 0 (by decide)
  have e2 : ρ1 1 = v2 := e0 1 (by decide)
  have e3 : ρ1 2 = v3 := e0 2 (by decide)
  have e4 : ρ1 3 = (M 0 10) := e0 3 (by decide)
  have e5 : ρ1 4 = (M 0 12) := e0 4 (by decide)
  have b0 := kE _ (List.mem_cons_self)
  have b0 : (-9223372036854775808) ≤ ρ1 5 ∧ ρ1 5 ≤ 9223372036854775807 := b0.2
  rw [hr]
  exact k0 _ _ (by omega) (by omega) g f
theorem u_X11_odds_c62_74 {J : MM → Prop} (S : ai_SP ax_T J ap_X11_odds_c62_74) {sc : List Int} {d : Nat} {M : MM} {Q : Vv → MM → Prop} {v1 v2 v3 : Int} (h0 : (-2147483648) ≤ v1 ∧ v1 ≤ 2147483647) (h1 : (-2147483648) ≤ v2 ∧ v2 ≤ 2147483647) (h2 : (-2147483648) ≤ v3 ∧ v3 ≤ 2147483647) (h3 : 62 ≤ (M 0 10) ∧ (M 0 10) ≤ 62) (h4 : 74 ≤ (M 0 12) ∧ (M 0 12) ≤ 74) (G : ai_GI ax_T M) (j : J M) (k0 : ∀ (r : Int) (M1 : MM), (-9223372036854775808) ≤ r → r ≤ 9223372036854775807 → ai_GI ax_T M1 → ai_Fr ax_T ap_X11_odds_c62_74.2.2.2.1 M M1 → Q (vl r) M1) : CA FF sc YF (d + 6) m_X11_odds [vr 0, vi v1, vi v2, vi v3] M Q := by
  refine S sc d (ax_rh [v1, v2, v3, (M 0 10), (M 0 12)]) M _ Q rfl rfl (And.intro (ax_r) (And.intro (ax_i (by decide) rfl) (And.intro (ax_i (by decide) rfl) (And.intro (ax_i (by decide) rfl) (And.intro (ax_o) (And.intro (ax_o) (And.intro (ax_o) (And.intro (ax_o) (And.intro (ax_o) (And.intro (ax_o) (And.intro (ax_o) trivial))))))))))) ⟨(ax_e1 (by decide) h0.1 h0.2 (ax_e1 (by decide) h1.1 h1.2 (ax_e1 (by decide) h2.1 h2.2 (ax_e1 (by decide) h3.1 h3.2 (ax_e1 (by decide) h4.1 h4.2 ax_e0))))), (ax_f1 (i := 10) (by decide) (by decide) (by show 0 + 10 = 10; omega) (by decide) rfl (ax_f1 (i := 12) (by decide) (by decide) (by show 0 + 12 = 12; omega) (by decide) rfl ax_f0)), ax_c0, ax_m0⟩ G j (fun r M1 g f hq => ?_)
  replace hq := ax_q1 hq
  obtain ⟨-, ρ1, e0, hr, kE, kF, kC, kN⟩ := hq
  have hr : r = vl (ρ1 5) := hr
  have e1 : ρ1 0 = v1 := e0 0 (by decide)
  have e2 : ρ1 1 = v2 := e0 1 (by decide)
  have e3 : ρ1 2 = v3 := e0 2 (by decide)
  have e4 : ρ1 3 = (M 0 10) := e0 3 (by decide)
  have e5 : ρ1 4 = (M 0 12) := e0 4 (by decide)
  have b0 := kE _ (List.mem_cons_self)
  have b0 : (-9223372036854775808) ≤ ρ1 5 ∧ ρ1 5 ≤ 9223372036854775807 := b0.2
  rw [hr]
  exact k0 _ _ (by omega) (by omega) g f
theorem cf_odds {sc : List Int} {a0 a1 a2 : Int} (i0 : in32 a0) (i1 : in32 a1) (i2 : in32 a2) {M : MM} (G : axG M) : CA FF sc YF 59 m_X11_odds [vr 0, vi a0, vi a1, vi a2] M (cxFL cw_odds M) := by
  obtain ⟨g, j, W⟩ := G
  rcases id W.1 with ⟨e10, e11⟩ | ⟨e10, e11⟩ <;> rcases id W.2 with ⟨e12, e13⟩ | ⟨e12, e13⟩
  · exact u_X11_odds_c58_66 (d := 59 - 6) (Q := cxFL cw_odds M) (ah_X11_odds_c58_66 axH) (v1 := a0) (v2 := a1) (v3 := a2) (by have := i0; unfold in32 at this; omega) (by have := i1; unfold in32 at this; omega) (by have := i2; unfold in32 at this; omega) (by have := rO_0_10 g; omega) (by have := rO_0_12 g; omega) g j (fun r M1 q0 q1 g1 f1 => have z := (cx_fin g1 f1 j W (by decide +kernel)); ⟨⟨r, rfl⟩, z.1, z.2, Keep.of_fr f1 (by decide +kernel)⟩)
  · exact u_X11_odds_c58_74 (d := 59 - 6) (Q := cxFL cw_odds M) (ah_X11_odds_c58_74 axH) (v1 := a0) (v2 := a1) (v3 := a2) (by have := i0; unfold in32 at this; omega) (by have := i1; unfold in32 at this; omega) (by have := i2; unfold in32 at this; omega) (by have := rO_0_10 g; omega) (by have := rO_0_12 g; omega) g j (fun r M1 q0 q1 g1 f1 => have z := (cx_fin g1 f1 j W (by decide +kernel)); ⟨⟨r, rfl⟩, z.1, z.2, Keep.of_fr f1 (by decide +kernel)⟩)
  · exact u_X11_odds_c62_66 (d := 59 - 6) (Q := cxFL cw_odds M) (ah_X11_odds_c62_66 axH) (v1 := a0) (v2 := a1) (v3 := a2) (by have := i0; unfold in32 at this; omega) (by have := i1; unfold in32 at this; omega) (by have := i2; unfold in32 at this; omega) (by have := rO_0_10 g; omega) (by have := rO_0_12 g; omega) g j (fun r M1 q0 q1 g1 f1 => have z := (cx_fin g1 f1 j W (by decide +kernel)); ⟨⟨r, rfl⟩, z.1, z.2, Keep.of_fr f1 (by decide +kernel)⟩)
  · exact u_X11_odds_c62_74 (d := 59 - 6) (Q := cxFL cw_odds M) (ah_X11_odds_c62_74 axH) (v1 := a0) (v2 := a1) (v3 := a2) (by have := i0; unfold in32 at this; omega) (by have := i1; unfold in32 at this; omega) (by have := i2; unfold in32 at this; omega) (by have := rO_0_10 g; omega) (by have := rO_0_12 g; omega) g j (fun r M1 q0 q1 g1 f1 => have z := (cx_fin g1 f1 j W (by decide +kernel)); ⟨⟨r, rfl⟩, z.1, z.2, Keep.of_fr f1 (by decide +kernel)⟩)
def cw_watered : Nat := 551744934429463295668663929006497367117657536410540844580736585623525131641330407150600101305729251565593135388000548999182402661110765563629422853519873097265044257207470810718849231611701559251177452518992086636694164196702990349431148464210372337996054787378030953959538315518789088900655304185928974412292104966017108845614194576527430106344811141618014046340524985060258813147518236234731697646476983007188952472618715088146668512727401413955716016289276821420018610230122503940204179414416479537604711353773698362568156715516219068049217307448293620025407126329405860878302079894971356551385777329341108575104188460465067716402338345563150372875196513663501744493017422911170534301669286247952562352062972632449783415057524154144270168154918616169345064208554661376028348345277245028030298954909626437524553486172093604856463061056887618551642337570754298106877127521483105330819206832309588721707353450495068829871391227193875893351442895343586540231953132408779645822042345529127785669930698659518800718121696988043860516516047473290478513977196794636737392944637446497440487811612200301245739592796701314040801783515522329674941360466481143680277174206682463419191034664759962459096893611108277523632806565585815455900057373969438622780681474841033819018586394518777360540884745439856118541438485410844026234524426107238778938803394563101327648859836184305320754404778580844684731928597347874077401302984883123871067415897154257866968996583113940097843709062526987207436772888288699976981216256
theorem u_X11_watered_c58_66 {J : MM → Prop} (S : ai_SP ax_T J ap_X11_watered_c58_66) {sc : List Int} {d : Nat} {M : MM} {Q : Vv → MM → Prop} {v1 : Int} (h0 : (-2147483648) ≤ v1 ∧ v1 ≤ 2147483647) (h1 : 58 ≤ (M 0 10) ∧ (M 0 10) ≤ 58) (h2 : 66 ≤ (M 0 12) ∧ (M 0 12) ≤ 66) (G : ai_GI ax_T M) (j : J M) (k0 : ∀ (r : Int) (M1 : MM), (-2) ≤ r → r ≤ 9 → ai_GI ax_T M1 → ai_Fr ax_T ap_X11_watered_c58_66.2.2.2.1 M M1 → Q (vi r) M1) : CA FF sc YF (d + 7) m_X11_watered [vr 0, vi v1] M Q := by
  refine S sc d (ax_rh [v1, (M 0 10), (M 0 12)]) M _ Q rfl rfl (And.intro (ax_r) (And.intro (ax_i (by decide) rfl) (And.intro (ax_o) (And.intro (ax_o) (And.intro (ax_o) (And.intro (ax_o) (And.intro (ax_o) (And.intro (ax_o) (And.intro (ax_o) trivial))))))))) ⟨(ax_e1 (by decide) h0.1 h0.2 (ax_e1 (by decide) h1.1 h1.2 (ax_e1 (by decide) h2.1 h2.2 ax_e0))), (ax_f1 (i := 10) (by decide) (by decide) (by show 0 + 10 = 10; omega) (by decide) rfl (ax_f1 (i := 12) (by decide) (by decide) (by show 0 + 12 = 12; omega) (by decide) rfl ax_f0)), ax_c0, ax_m0⟩ G j (fun r M1 g f hq => ?_)
  replace hq := ax_q1 hq
  obtain ⟨-, ρ1, e0, hr, kE, kF, kC, kN⟩ := hq
  have hr : r = vi (ρ1 3) := hr
  have e1 : ρ1 0 = v1 := e0 0 (by decide)
  have e2 : ρ1 1 = (M 0 10) := e0 1 (by decide)
  have e3 : ρ1 2 = (M 0 12) := e0 2 (by decide)
  have b0 := kE _ (List.mem_cons_self)
  have b0 : (-2) ≤ ρ1 3 ∧ ρ1 3 ≤ 9 := b0.2
  rw [hr]
  exact k0 _ _ (by omega) (by omega) g f
theorem u_X11_watered_c58_74 {J : MM → Prop} (S : ai_SP ax_T J ap_X11_watered_c58_74) {sc : List Int} {d : Nat} {M : MM} {Q : Vv → MM → Prop} {v1 : Int} (h0 : (-2147483648) ≤ v1 ∧ v1 ≤ 2147483647) (h1 : 58 ≤ (M 0 10) ∧ (M 0 10) ≤ 58) (h2 : 74 ≤ (M 0 12) ∧ (M 0 12) ≤ 74) (G : ai_GI ax_T M) (j : J M) (k0 : ∀ (r : Int) (M1 : MM), (-2) ≤ r → r ≤ 9 → ai_GI ax_T M1 → ai_Fr ax_T ap_X11_watered_c58_74.2.2.2.1 M M1 → Q (vi r) M1) : CA FF sc YF (d + 7) m_X11_watered [vr 0, vi v1] M Q := by
  refine S sc d (ax_rh [v1, (M 0 10), (M 0 12)]) M _ Q rfl rfl (And.intro (ax_r) (And.intro (ax_i (by decide) rfl) (And.intro (ax_o) (And.intro (ax_o) (And.intro (ax_o) (And.intro (ax_o) (And.intro (ax_o) (And.intro (ax_o) (And.intro (ax_o) trivial))))))))) ⟨(ax_e1 (by decide) h0.1 h0.2 (ax_e1 (by decide) h1.1 h1.2 (ax_e1 (by decide) h2.1 h2.2 ax_e0))), (ax_f1 (i := 10) (by decide) (by decide) (by show 0 + 10 = 10; omega) (by decide) rfl (ax_f1 (i := 12) (by decide) (by decide) (by show 0 + 12 = 12; omega) (by decide) rfl ax_f0)), ax_c0, ax_m0⟩ G j (fun r M1 g f hq => ?_)
  replace hq := ax_q1 hq
  obtain ⟨-, ρ1, e0, hr, kE, kF, kC, kN⟩ := hq
  have hr : r = vi (ρ1 3) := hr
  have e1 : ρ1 0 = v1 := e0 0 (by decide)
  have e2 : ρ1 1 = (M 0 10) := e0 1 (by decide)
  have e3 : ρ1 2 = (M 0 12) := e0 2 (by decide)
  have b0 := kE _ (List.mem_cons_self)
  have b0 : (-2) ≤ ρ1 3 ∧ ρ1 3 ≤ 9 := b0.2
  rw [hr]
  exact k0 _ _ (by omega) (by omega) g f
theorem u_X11_watered_c62_66 {J : MM → Prop} (S : ai_SP ax_T J ap_X11_watered_c62_66) {sc : List Int} {d : Nat} {M : MM} {Q : Vv → MM → Prop} {v1 : Int} (h0 : (-2147483648) ≤ v1 ∧ v1 ≤ 2147483647) (h1 : 62 ≤ (M 0 10) ∧ (M 0 10) ≤ 62) (h2 : 66 ≤ (M 0 12) ∧ (M 0 12) ≤ 66) (G : ai_GI ax_T M) (j : J M) (k0 : ∀ (r : Int) (M1 : MM), (-2) ≤ r → r ≤ 9 → ai_GI ax_T M1 → ai_Fr ax_T ap_X11_watered_c62_66.2.2.2.1 M M1 → Q (vi r) M1) : CA FF sc YF (d + 7) m_X11_watered [vr 0, vi v1] M Q := by
  refine S sc d (ax_rh [v1, (M 0 10), (M 0 12)]) M _ Q rfl rfl (And.intro (ax_r) (And.intro (ax_i (by decide) rfl) (And.intro (ax_o) (And.intro (ax_o) (And.intro (ax_o) (And.intro (ax_o) (And.intro (ax_o) (And.intro (ax_o) (And.intro (ax_o) trivial))))))))) ⟨(ax_e1 (by decide) h0.1 h0.2 (ax_e1 (by decide) h1.1 h1.2 (ax_e1 (by decide) h2.1 h2.2 ax_e0))), (ax_f1 (i := 10) (by decide) (by decide) (by show 0 + 10 = 10; omega) (by decide) rfl (ax_f1 (i := 12) (by decide) (by decide) (by show 0 + 12 = 12; omega) (by decide) rfl ax_f0)), ax_c0, ax_m0⟩ G j (fun r M1 g f hq => ?_)
  replace hq := ax_q1 hq
  obtain ⟨-, ρ1, e0, hr, kE, kF, kC, kN⟩ := hq
  have hr : r = vi (ρ1 3) := hr
  have e1 : ρ1 0 = v1 := e0 0 (by decide)
  have e2 : ρ1 1 = (M 0 10) := e0 1 (by decide)
  have e3 : ρ1 2 = (M 0 12) := e0 2 (by decide)
  have b0 := kE _ (List.mem_cons_self)
  have b0 : (-2) ≤ ρ1 3 ∧ ρ1 3 ≤ 9 := b0.2
  rw [hr]
  exact k0 _ _ (by omega) (by omega) g f
theorem u_X11_watered_c62_74 {J : MM → Prop} (S : ai_SP ax_T J ap_X11_watered_c62_74) {sc : List Int} {d : Nat} {M : MM} {Q : Vv → MM → Prop} {v1 : Int} (h0 : (-2147483648) ≤ v1 ∧ v1 ≤ 2147483647) (h1 : 62 ≤ (M 0 10) ∧ (M 0 10) ≤ 62) (h2 : 74 ≤ (M 0 12) ∧ (M 0 12) ≤ 74) (G : ai_GI ax_T M) (j : J M) (k0 : ∀ (r : Int) (M1 : MM), (-2) ≤ r → r ≤ 9 → ai_GI ax_T M1 → ai_Fr ax_T ap_X11_watered_c62_74.2.2.2.1 M M1 → Q (vi r) M1) : CA FF sc YF (d + 7) m_X11_watered [vr 0, vi v1] M Q := by
  refine S sc d (ax_rh [v1, (M 0 10), (M 0 12)]) M _ Q rfl rfl (And.intro (ax_r) (And.intro (ax_i (by decide) rfl) (And.intro (ax_o) (And.intro (ax_o) (And.intro (ax_o) (And.intro (ax_o) (And.intro (ax_o) (And.intro (ax_o) (And.intro (ax_o) trivial))))))))) ⟨(ax_e1 (by decide) h0.1 h0.2 (ax_e1 (by decide) h1.1 h1.2 (ax_e1 (by decide) h2.1 h2.2 ax_e0))), (ax_f1 (i := 10) (by decide) (by decide) (by show 0 + 10 = 10; omega) (by decide) rfl (ax_f1 (i := 12) (by decide) (by decide) (by show 0 + 12 = 12; omega) (by decide) rfl ax_f0)), ax_c0, ax_m0⟩ G j (fun r M1 g f hq => ?_)
  replace hq := ax_q1 hq
  obtain ⟨-, ρ1, e0, hr, kE, kF, kC, kN⟩ := hq
  have hr : r = vi (ρ1 3) := hr
  have e1 : ρ1 0 = v1 := e0 0 (by decide)
  have e2 : ρ1 1 = (M 0 10) := e0 1 (by decide)
  have e3 : ρ1 2 = (M 0 12) := e0 2 (by decide)
  have b0 := kE _ (List.mem_cons_self)
  have b0 : (-2) ≤ ρ1 3 ∧ ρ1 3 ≤ 9 := b0.2
  rw [hr]
  exact k0 _ _ (by omega) (by omega) g f
theorem cf_watered {sc : List Int} {a0 : Int} (i0 : in32 a0) {M : MM} (G : axG M) : CA FF sc YF 59 m_X11_watered [vr 0, vi a0] M (cxF cw_watered M) := by
  obtain ⟨g, j, W⟩ := G
  rcases id W.1 with ⟨e10, e11⟩ | ⟨e10, e11⟩ <;> rcases id W.2 with ⟨e12, e13⟩ | ⟨e12, e13⟩
  · exact u_X11_watered_c58_66 (d := 59 - 7) (Q := cxF cw_watered M) (ah_X11_watered_c58_66 axH) (v1 := a0) (by have := i0; unfold in32 at this; omega) (by have := rO_0_10 g; omega) (by have := rO_0_12 g; omega) g j (fun r M1 q0 q1 g1 f1 => have z := (cx_fin g1 f1 j W (by decide +kernel)); ⟨⟨r, rfl⟩, z.1, z.2, Keep.of_fr f1 (by decide +kernel)⟩)
  · exact u_X11_watered_c58_74 (d := 59 - 7) (Q := cxF cw_watered M) (ah_X11_watered_c58_74 axH) (v1 := a0) (by have := i0; unfold in32 at this; omega) (by have := rO_0_10 g; omega) (by have := rO_0_12 g; omega) g j (fun r M1 q0 q1 g1 f1 => have z := (cx_fin g1 f1 j W (by decide +kernel)); ⟨⟨r, rfl⟩, z.1, z.2, Keep.of_fr f1 (by decide +kernel)⟩)
  · exact u_X11_watered_c62_66 (d := 59 - 7) (Q := cxF cw_watered M) (ah_X11_watered_c62_66 axH) (v1 := a0) (by have := i0; unfold in32 at this; omega) (by have := rO_0_10 g; omega) (by have := rO_0_12 g; omega) g j (fun r M1 q0 q1 g1 f1 => have z := (cx_fin g1 f1 j W (by decide +kernel)); ⟨⟨r, rfl⟩, z.1, z.2, Keep.of_fr f1 (by decide +kernel)⟩)
  · exact u_X11_watered_c62_74 (d := 59 - 7) (Q := cxF cw_watered M) (ah_X11_watered_c62_74 axH) (v1 := a0) (by have := i0; unfold in32 at this; omega) (by have := rO_0_10 g; omega) (by have := rO_0_12 g; omega) g j (fun r M1 q0 q1 g1 f1 => have z := (cx_fin g1 f1 j W (by decide +kernel)); ⟨⟨r, rfl⟩, z.1, z.2, Keep.of_fr f1 (by decide +kernel)⟩)
def cw_tax : Nat := 551744934429463295668663929006497367117657536410540844580736585623525131641330407150600101305729251565593135388000548999182402661110765563629422853519873097265044257207470810718849231611701559251177452518992086636694164196702990349431148464210372337996054787378030953959538315518789088900655304185928974412292104966017108845614194576527430106344811141618014046340524985060258813147518236234731697646476983007188952472618715088146668512727401413955716016289276821420018610230122503940204179414416479537604711353773698362568156715516219068049217307448293620025407126329405860878302079894971356551385777329341108575104188460465067716402338345563150372875196513663501744493017422911170534301669286247952562352062972632449783415057524154144270168154918616169345064208554661376028348345277245028030298954909626437524553486172093604856463061056887618551642337570754298106877127521483105330819206832309588721707353450495068829871391227193875893351442895343586540231953132408779645822042345529127785669930698659518800718121696988043860516516047473290478513977196794636737392944637446497440487811612200301245739592796701314040801783515522329674941360466481143680277174206682463419191034664759962459096893611108277523632806565585815455900057373969438622780681474841033819018586394518777360540884745439856118541438485410844026234524426107238778938803394563101327648859836184305320754404778580844684731928597347874077401302984883123871067415897154257866968996583113940097843709062526987207436772851395211829562113024
theorem u_X11_tax {J : MM → Prop} (S : ai_SP ax_T J ap_X11_tax) {sc : List Int} {d : Nat} {M : MM} {Q : Vv → MM → Prop} {v1 : Int} (h0 : (-2147483648) ≤ v1 ∧ v1 ≤ 2147483647) (h1 : 0 ≤ (M 1 1) ∧ (M 1 1) ≤ 260) (G : ai_GI ax_T M) (j : J M) (k0 : ∀ (r : Int) (M1 : MM), (-2147483648) ≤ r → r ≤ 2147483647 → 0 ≤ (M1 1 1) → (M1 1 1) ≤ 0 → 0 ≤ v1 → 0 ≤ 0 - v1 + 9 → 0 ≤ (M 1 1) - 10 → 0 ≤ (M1 1 1) → 0 ≤ 0 - (M1 1 1) → ai_GI ax_T M1 → ai_Fr ax_T ap_X11_tax.2.2.2.1 M M1 → Q (vi r) M1) (k1 : ∀ (r : Int) (M1 : MM), (-1) ≤ r → r ≤ (-1) → 0 ≤ (M1 1 1) → (M1 1 1) ≤ 260 → 0 ≤ 0 - v1 - 1 → 0 ≤ 0 - (M 1 1) + (M1 1 1) → 0 ≤ (M 1 1) - (M1 1 1) → ai_GI ax_T M1 → ai_Fr ax_T ap_X11_tax.2.2.2.1 M M1 → Q (vi r) M1) (k2 : ∀ (r : Int) (M1 : MM), (-1) ≤ r → r ≤ (-1) → 0 ≤ (M1 1 1) → (M1 1 1) ≤ 260 → 0 ≤ v1 - 10 → 0 ≤ 0 - (M 1 1) + (M1 1 1) → 0 ≤ (M 1 1) - (M1 1 1) → ai_GI ax_T M1 → ai_Fr ax_T ap_X11_tax.2.2.2.1 M M1 → Q (vi r) M1) (k3 : ∀ (r : Int) (M1 : MM), (-1) ≤ r → r ≤ (-1) → 0 ≤ (M1 1 1) → (M1 1 1) ≤ 9 → 0 ≤ 0 - (M 1 1) + 9 → 0 ≤ 0 - (M 1 1) + (M1 1 1) → 0 ≤ (M 1 1) - (M1 1 1) → ai_GI ax_T M1 → ai_Fr ax_T ap_X11_tax.2.2.2.1 M M1 → Q (vi r) M1) : CA FF sc YF (d + 3) m_X11_tax [vr 0, vi v1] M Q := by
  refine S sc d (ax_rh [v1, (M 1 1)]) M _ Q rfl rfl (And.intro (ax_r) (And.intro (ax_i (by decide) rfl) (And.intro (ax_o) trivial))) ⟨(ax_e1 (by decide) h0.1 h0.2 (ax_e1 (by decide) h1.1 h1.2 ax_e0)), (ax_f1 (i := 1) (by decide) (by decide) (by show 0 + 1 = 1; omega) (by decide) rfl ax_f0), ax_c0, ax_m0⟩ G j (fun r M1 g f hq => ?_)
  rcases ax_q2 hq with hq | hq
  · obtain ⟨-, ρ1, e0, hr, kE, kF, kC, kN⟩ := hq
    have hr : r = vi (ρ1 2) := hr
    have e1 : ρ1 0 = v1 := e0 0 (by decide)
    have e2 : ρ1 1 = (M 1 1) := e0 1 (by decide)
    have b0 := kE _ (List.mem_cons_self)
    have b0 : (-2147483648) ≤ ρ1 2 ∧ ρ1 2 ≤ 2147483647 := b0.2
    have b1 := kE _ (List.mem_cons_of_mem _ List.mem_cons_self)
    have b1 : 0 ≤ ρ1 3 ∧ ρ1 3 ≤ 0 := b1.2
    have f0 := (kF _ List.mem_cons_self).2.2.2
    have f0 : M1 1 ((0 + 1 : Int)).toNat = (1 * ρ1 3 + 0) + 0 := f0
    have g0 : ((0 + 1 : Int)) = 1 := by omega
    rw [g0] at f0
    have f0 : (M1 1 1) = ρ1 3 := by have f : (M1 1 1) = (1 * ρ1 3 + 0) + 0 := f0; omega
    have c0 : 0 ≤ (1 * ρ1 0 + 0) + 0 := (kC _ List.mem_cons_self).2
    have c1 : 0 ≤ ((-1) * ρ1 0 + 0) + 9 := (kC _ (List.mem_cons_of_mem _ List.mem_cons_self)).2
    have c2 : 0 ≤ (1 * ρ1 1 + 0) + (-10) := (kC _ (List.mem_cons_of_mem _ (List.mem_cons_of_mem _ List.mem_cons_self))).2
    have c3 : 0 ≤ (1 * ρ1 3 + 0) + 0 := (kC _ (List.mem_cons_of_mem _ (List.mem_cons_of_mem _ (List.mem_cons_of_mem _ List.mem_cons_self)))).2
    have c4 : 0 ≤ ((-1) * ρ1 3 + 0) + 0 := (kC _ (List.mem_cons_of_mem _ (List.mem_cons_of_mem _ (List.mem_cons_of_mem _ (List.mem_cons_of_mem _ List.mem_cons_self))))).2
    rw [hr]
    exact k0 _ _ (by omega) (by omega) (by omega) (by omega) (by omega) (by omega) (by omega) (by omega) (by omega) g f
  · rcases ax_q2 hq with hq | hq
    · obtain ⟨-, ρ1, e0, hr, kE, kF, kC, kN⟩ := hq
      have hr : r = vi (ρ1 2) := hr
      have e1 : ρ1 0 = v1 := e0 0 (by decide)
      have e2 : ρ1 1 = (M 1 1) := e0 1 (by decide)
      have b0 := kE _ (List.mem_cons_self)
      have b0 : (-1) ≤ ρ1 2 ∧ ρ1 2 ≤ (-1) := b0.2
      have b1 := kE _ (List.mem_cons_of_mem _ List.mem_cons_self)
      have b1 : 0 ≤ ρ1 3 ∧ ρ1 3 ≤ 260 := b1.2
      have f0 := (kF _ List.mem_cons_self).2.2.2
      have f0 : M1 1 ((0 + 1 : Int)).toNat = (1 * ρ1 3 + 0) + 0 := f0
      have g0 : ((0 + 1 : Int)) = 1 := by omega
      rw [g0] at f0
      have f0 : (M1 1 1) = ρ1 3 := by have f : (M1 1 1) = (1 * ρ1 3 + 0) + 0 := f0; omega
      have c0 : 0 ≤ ((-1) * ρ1 0 + 0) + (-1) := (kC _ List.mem_cons_self).2
      have c1 : 0 ≤ ((-1) * ρ1 1 + (1 * ρ1 3 + 0)) + 0 := (kC _ (List.mem_cons_of_mem _ List.mem_cons_self)).2
      have c2 : 0 ≤ (1 * ρ1 1 + ((-1) * ρ1 3 + 0)) + 0 := (kC _ (List.mem_cons_of_mem _ (List.mem_cons_of_mem _ List.mem_cons_self))).2
      rw [hr]
      exact k1 _ _ (by omega) (by omega) (by omega) (by omega) (by omega) (by omega) (by omega) g f
    · rcases ax_q2 hq with hq | hq
      · obtain ⟨-, ρ1, e0, hr, kE, kF, kC, kN⟩ := hq
        have hr : r = vi (ρ1 2) := hr
        have e1 : ρ1 0 = v1 := e0 0 (by decide)
        have e2 : ρ1 1 = (M 1 1) := e0 1 (by decide)
        have b0 := kE _ (List.mem_cons_self)
        have b0 : (-1) ≤ ρ1 2 ∧ ρ1 2 ≤ (-1) := b0.2
        have b1 := kE _ (List.mem_cons_of_mem _ List.mem_cons_self)
        have b1 : 0 ≤ ρ1 3 ∧ ρ1 3 ≤ 260 := b1.2
        have f0 := (kF _ List.mem_cons_self).2.2.2
        have f0 : M1 1 ((0 + 1 : Int)).toNat = (1 * ρ1 3 + 0) + 0 := f0
        have g0 : ((0 + 1 : Int)) = 1 := by omega
        rw [g0] at f0
        have f0 : (M1 1 1) = ρ1 3 := by have f : (M1 1 1) = (1 * ρ1 3 + 0) + 0 := f0; omega
        have c0 : 0 ≤ (1 * ρ1 0 + 0) + (-10) := (kC _ List.mem_cons_self).2
        have c1 : 0 ≤ ((-1) * ρ1 1 + (1 * ρ1 3 + 0)) + 0 := (kC _ (List.mem_cons_of_mem _ List.mem_cons_self)).2
        have c2 : 0 ≤ (1 * ρ1 1 + ((-1) * ρ1 3 + 0)) + 0 := (kC _ (List.mem_cons_of_mem _ (List.mem_cons_of_mem _ List.mem_cons_self))).2
        rw [hr]
        exact k2 _ _ (by omega) (by omega) (by omega) (by omega) (by omega) (by omega) (by omega) g f
      · replace hq := ax_q1 hq
        obtain ⟨-, ρ1, e0, hr, kE, kF, kC, kN⟩ := hq
        have hr : r = vi (ρ1 2) := hr
        have e1 : ρ1 0 = v1 := e0 0 (by decide)
        have e2 : ρ1 1 = (M 1 1) := e0 1 (by decide)
        have b0 := kE _ (List.mem_cons_self)
        have b0 : (-1) ≤ ρ1 2 ∧ ρ1 2 ≤ (-1) := b0.2
        have b1 := kE _ (List.mem_cons_of_mem _ List.mem_cons_self)
        have b1 : 0 ≤ ρ1 3 ∧ ρ1 3 ≤ 9 := b1.2
        have f0 := (kF _ List.mem_cons_self).2.2.2
        have f0 : M1 1 ((0 + 1 : Int)).toNat = (1 * ρ1 3 + 0) + 0 := f0
        have g0 : ((0 + 1 : Int)) = 1 := by omega
        rw [g0] at f0
        have f0 : (M1 1 1) = ρ1 3 := by have f : (M1 1 1) = (1 * ρ1 3 + 0) + 0 := f0; omega
        have c0 : 0 ≤ ((-1) * ρ1 1 + 0) + 9 := (kC _ List.mem_cons_self).2
        have c1 : 0 ≤ ((-1) * ρ1 1 + (1 * ρ1 3 + 0)) + 0 := (kC _ (List.mem_cons_of_mem _ List.mem_cons_self)).2
        have c2 : 0 ≤ (1 * ρ1 1 + ((-1) * ρ1 3 + 0)) + 0 := (kC _ (List.mem_cons_of_mem _ (List.mem_cons_of_mem _ List.mem_cons_self))).2
        rw [hr]
        exact k3 _ _ (by omega) (by omega) (by omega) (by omega) (by omega) (by omega) (by omega) g f
theorem cf_tax {sc : List Int} {a0 : Int} (i0 : in32 a0) {M : MM} (G : axG M) : CA FF sc YF 59 m_X11_tax [vr 0, vi a0] M (cxF cw_tax M) := by
  obtain ⟨g, j, W⟩ := G
  exact u_X11_tax (d := 59 - 3) (Q := cxF cw_tax M) (ah_X11_tax axH) (v1 := a0) (by have := i0; unfold in32 at this; omega) (by have := rO_1_1 g; omega) g j (fun r M1 q0 q1 q2 q3 q4 q5 q6 q7 q8 g1 f1 => have z := (cx_fin g1 f1 j W (by decide +kernel)); ⟨⟨r, rfl⟩, z.1, z.2, Keep.of_fr f1 (by decide +kernel)⟩) (fun r M1 q0 q1 q2 q3 q4 q5 q6 g1 f1 => have z := (cx_fin g1 f1 j W (by decide +kernel)); ⟨⟨r, rfl⟩, z.1, z.2, Keep.of_fr f1 (by decide +kernel)⟩) (fun r M1 q0 q1 q2 q3 q4 q5 q6 g1 f1 => have z := (cx_fin g1 f1 j W (by decide +kernel)); ⟨⟨r, rfl⟩, z.1, z.2, Keep.of_fr f1 (by decide +kernel)⟩) (fun r M1 q0 q1 q2 q3 q4 q5 q6 g1 f1 => have z := (cx_fin g1 f1 j W (by decide +kernel)); ⟨⟨r, rfl⟩, z.1, z.2, Keep.of_fr f1 (by decide +kernel)⟩)
theorem cfz_tax {sc : List Int} {a0 : Int} (i0 : in32 a0) {M : MM} (G : axG M) : CA FF sc YF 59 m_X11_tax [vr 0, vi a0] M (fun _ M1 => M1 1 1 = (if (0 ≤ a0 ∧ a0 ≤ 9 ∧ 10 ≤ M 1 1) then 0 else M 1 1)) := by
  obtain ⟨g, j, W⟩ := G
  exact u_X11_tax (d := 59 - 3) (Q := fun _ M1 => M1 1 1 = (if (0 ≤ a0 ∧ a0 ≤ 9 ∧ 10 ≤ M 1 1) then 0 else M 1 1)) (ah_X11_tax axH) (v1 := a0) (by have := i0; unfold in32 at this; omega) (by have := rO_1_1 g; omega) g j (fun r M1 q0 q1 q2 q3 q4 q5 q6 q7 q8 g1 f1 => by split <;> omega) (fun r M1 q0 q1 q2 q3 q4 q5 q6 g1 f1 => by split <;> omega) (fun r M1 q0 q1 q2 q3 q4 q5 q6 g1 f1 => by split <;> omega) (fun r M1 q0 q1 q2 q3 q4 q5 q6 g1 f1 => by split <;> omega)
def cw_hand : Nat := 551744934429463295668663929006497367117657536410540844580736585623525131641330407150600101305729251565593135388000548999182402661110765563629422853519873097265044257207470810718849231611701559251177452518992086636694164196702990349431148464210372337996054787378030953959538315518789088900655304185928974412292104966017108845614194576527430106344811141618014046340524985060258813147518236234731697646476983007188952472618715010252587178164022649447008564380678187056142817684016282948923207369326366393848464002945644688045382311350312793669271514953376071714833063081564216796372182716333810421984513113726948622514126898310147300949941758727410887893104746038212985011457574439493090188860999191245578429457942430638305053167055226646034538212174906699046468972091117585617452250113506954550317552431748191069318373342904577086757402819665023714391926974151841059463369091333075479087623910766062279461825533270213002043574605708324835414041218394648197229719260983965162552139637692954778214887624032350158045413095583862350128430390620232810152304290698936316355290434900557095750781245621934888166793202719158480480460031147044283925608128925554500412353463727415098793349682010189256524648088530148211000272420814019720673687343860486063842899575737751681952855337286638885506578197401280650514193714376860737173832869295945801807012290618093771022450817904848165598736397191894941895025612005927112666405894299008064099522565642756246487202038756679208285204199216595316054059723483082952884157440
theorem u_X11_hand {J : MM → Prop} (S : ai_SP ax_T J ap_X11_hand) {sc : List Int} {d : Nat} {M : MM} {Q : Vv → MM → Prop} {v1 v2 : Int} (h0 : (-2147483648) ≤ v1 ∧ v1 ≤ 2147483647) (h1 : (-2147483648) ≤ v2 ∧ v2 ≤ 2147483647) (G : ai_GI ax_T M) (j : J M) (k0 : ∀ (r : Int) (M1 : MM), 1 ≤ r → r ≤ 1 → 0 ≤ v1 → 0 ≤ 0 - v1 + 9 → 0 ≤ v2 → 0 ≤ 0 - v2 + 255 → ai_GI ax_T M1 → ai_Fr ax_T ap_X11_hand.2.2.2.1 M M1 → Q (vi r) M1) (k1 : ∀ (r : Int) (M1 : MM), 0 ≤ r → r ≤ 0 → 0 ≤ 0 - v1 - 1 → ai_GI ax_T M1 → ai_Fr ax_T ap_X11_hand.2.2.2.1 M M1 → Q (vi r) M1) (k2 : ∀ (r : Int) (M1 : MM), 0 ≤ r → r ≤ 0 → 0 ≤ v1 - 10 → ai_GI ax_T M1 → ai_Fr ax_T ap_X11_hand.2.2.2.1 M M1 → Q (vi r) M1) (k3 : ∀ (r : Int) (M1 : MM), 0 ≤ r → r ≤ 0 → 0 ≤ 0 - v2 - 1 → ai_GI ax_T M1 → ai_Fr ax_T ap_X11_hand.2.2.2.1 M M1 → Q (vi r) M1) (k4 : ∀ (r : Int) (M1 : MM), 0 ≤ r → r ≤ 0 → 0 ≤ v2 - 256 → ai_GI ax_T M1 → ai_Fr ax_T ap_X11_hand.2.2.2.1 M M1 → Q (vi r) M1) : CA FF sc YF (d + 3) m_X11_hand [vr 0, vi v1, vi v2] M Q := by
  refine S sc d (ax_rh [v1, v2]) M _ Q rfl rfl (And.intro (ax_r) (And.intro (ax_i (by decide) rfl) (And.intro (ax_i (by decide) rfl) trivial))) ⟨(ax_e1 (by decide) h0.1 h0.2 (ax_e1 (by decide) h1.1 h1.2 ax_e0)), ax_f0, ax_c0, ax_m0⟩ G j (fun r M1 g f hq => ?_)
  rcases ax_q2 hq with hq | hq
  · obtain ⟨-, ρ1, e0, hr, kE, kF, kC, kN⟩ := hq
    have hr : r = vi (ρ1 2) := hr
    have e1 : ρ1 0 = v1 := e0 0 (by decide)
    have e2 : ρ1 1 = v2 := e0 1 (by decide)
    have b0 := kE _ (List.mem_cons_self)
    have b0 : 1 ≤ ρ1 2 ∧ ρ1 2 ≤ 1 := b0.2
    have c0 : 0 ≤ (1 * ρ1 0 + 0) + 0 := (kC _ List.mem_cons_self).2
    have c1 : 0 ≤ ((-1) * ρ1 0 + 0) + 9 := (kC _ (List.mem_cons_of_mem _ List.mem_cons_self)).2
    have c2 : 0 ≤ (1 * ρ1 1 + 0) + 0 := (kC _ (List.mem_cons_of_mem _ (List.mem_cons_of_mem _ List.mem_cons_self))).2
    have c3 : 0 ≤ ((-1) * ρ1 1 + 0) + 255 := (kC _ (List.mem_cons_of_mem _ (List.mem_cons_of_mem _ (List.mem_cons_of_mem _ List.mem_cons_self)))).2
    rw [hr]
    exact k0 _ _ (by omega) (by omega) (by omega) (by omega) (by omega) (by omega) g f
  · rcases ax_q2 hq with hq | hq
    · obtain ⟨-, ρ1, e0, hr, kE, kF, kC, kN⟩ := hq
      have hr : r = vi (ρ1 2) := hr
      have e1 : ρ1 0 = v1 := e0 0 (by decide)
      have e2 : ρ1 1 = v2 := e0 1 (by decide)
      have b0 := kE _ (List.mem_cons_self)
      have b0 : 0 ≤ ρ1 2 ∧ ρ1 2 ≤ 0 := b0.2
      have c0 : 0 ≤ ((-1) * ρ1 0 + 0) + (-1) := (kC _ List.mem_cons_self).2
      rw [hr]
      exact k1 _ _ (by omega) (by omega) (by omega) g f
    · rcases ax_q2 hq with hq | hq
      · obtain ⟨-, ρ1, e0, hr, kE, kF, kC, kN⟩ := hq
        have hr : r = vi (ρ1 2) := hr
        have e1 : ρ1 0 = v1 := e0 0 (by decide)
        have e2 : ρ1 1 = v2 := e0 1 (by decide)
        have b0 := kE _ (List.mem_cons_self)
        have b0 : 0 ≤ ρ1 2 ∧ ρ1 2 ≤ 0 := b0.2
        have c0 : 0 ≤ (1 * ρ1 0 + 0) + (-10) := (kC _ List.mem_cons_self).2
        rw [hr]
        exact k2 _ _ (by omega) (by omega) (by omega) g f
      · rcases ax_q2 hq with hq | hq
        · obtain ⟨-, ρ1, e0, hr, kE, kF, kC, kN⟩ := hq
          have hr : r = vi (ρ1 2) := hr
          have e1 : ρ1 0 = v1 := e0 0 (by decide)
          have e2 : ρ1 1 = v2 := e0 1 (by decide)
          have b0 := kE _ (List.mem_cons_self)
          have b0 : 0 ≤ ρ1 2 ∧ ρ1 2 ≤ 0 := b0.2
          have c0 : 0 ≤ ((-1) * ρ1 1 + 0) + (-1) := (kC _ List.mem_cons_self).2
          rw [hr]
          exact k3 _ _ (by omega) (by omega) (by omega) g f
        · replace hq := ax_q1 hq
          obtain ⟨-, ρ1, e0, hr, kE, kF, kC, kN⟩ := hq
          have hr : r = vi (ρ1 2) := hr
          have e1 : ρ1 0 = v1 := e0 0 (by decide)
          have e2 : ρ1 1 = v2 := e0 1 (by decide)
          have b0 := kE _ (List.mem_cons_self)
          have b0 : 0 ≤ ρ1 2 ∧ ρ1 2 ≤ 0 := b0.2
          have c0 : 0 ≤ (1 * ρ1 1 + 0) + (-256) := (kC _ List.mem_cons_self).2
          rw [hr]
          exact k4 _ _ (by omega) (by omega) (by omega) g f
theorem cf_hand {sc : List Int} {a0 a1 : Int} (i0 : in32 a0) (i1 : in32 a1) {M : MM} (G : axG M) : CA FF sc YF 59 m_X11_hand [vr 0, vi a0, vi a1] M (cxF cw_hand M) := by
  obtain ⟨g, j, W⟩ := G
  exact u_X11_hand (d := 59 - 3) (Q := cxF cw_hand M) (ah_X11_hand axH) (v1 := a0) (v2 := a1) (by have := i0; unfold in32 at this; omega) (by have := i1; unfold in32 at this; omega) g j (fun r M1 q0 q1 q2 q3 q4 q5 g1 f1 => have z := (cx_fin g1 f1 j W (by decide +kernel)); ⟨⟨r, rfl⟩, z.1, z.2, Keep.of_fr f1 (by decide +kernel)⟩) (fun r M1 q0 q1 q2 g1 f1 => have z := (cx_fin g1 f1 j W (by decide +kernel)); ⟨⟨r, rfl⟩, z.1, z.2, Keep.of_fr f1 (by decide +kernel)⟩) (fun r M1 q0 q1 q2 g1 f1 => have z := (cx_fin g1 f1 j W (by decide +kernel)); ⟨⟨r, rfl⟩, z.1, z.2, Keep.of_fr f1 (by decide +kernel)⟩) (fun r M1 q0 q1 q2 g1 f1 => have z := (cx_fin g1 f1 j W (by decide +kernel)); ⟨⟨r, rfl⟩, z.1, z.2, Keep.of_fr f1 (by decide +kernel)⟩) (fun r M1 q0 q1 q2 g1 f1 => have z := (cx_fin g1 f1 j W (by decide +kernel)); ⟨⟨r, rfl⟩, z.1, z.2, Keep.of_fr f1 (by decide +kernel)⟩)
def cw_ledger : Nat := 551744934429463295668663929006497367117657536410540844580736585623525131641330407150600101305729251565593135388000548999182402661110765563629422853519873097265044257207470810718849231611701559251177452518992086636694164196702990349431148464210372337996054787378030953959538315518789088900655304185928974412292104966017108845614194576527430106344811141618014046340524985060258813147518236234731697646476983007188952472618715088146668512727401413955716016289276821420018610230122503940204179414416479537604711353773698362568156715516219068049217307448293620025407126329405860878302079894971356551385777329341108575104188460465067716402338345563150372875196513663501744493017422911170534301669286247952562352062972632449783415057524154144270168154918616169345064208554661376028348345277245028030298954909626437524553486172093604856463061056887618551642337570754298106877127521483105330819206832309588721707353450495068829871391227193875893351442895343586540231953132408779645822042345529127785669930698659518800718121696988043860516516047473290478513977196794636737392944637446497440487811612200301245739592796701314040801783515522329674941360466481143680277174206682463419191034664759962459096893611108277523632806565585815455900057373969438622780681474841033819018586394518777360540884745439856118541438485410844026234524426107238778938803394563101327648859836184305320754404778580844684731928597347874077401302984883123871067415897154257866968996583113940097843709062526987207436772888288699976981216256
theorem u_X11_ledger {J : MM → Prop} (S : ai_SP ax_T J ap_X11_ledger) {sc : List Int} {d : Nat} {M : MM} {Q : Vv → MM → Prop} {v1 v2 v3 v4 : Int} (h0 : (-2147483648) ≤ v1 ∧ v1 ≤ 2147483647) (h1 : (-2147483648) ≤ v2 ∧ v2 ≤ 2147483647) (h2 : (-2147483648) ≤ v3 ∧ v3 ≤ 2147483647) (h3 : (-2147483648) ≤ v4 ∧ v4 ≤ 2147483647) (G : ai_GI ax_T M) (j : J M) (k0 : ∀ (r : Int) (M1 : MM), (-2) ≤ r → r ≤ 1023 → ai_GI ax_T M1 → ai_Fr ax_T ap_X11_ledger.2.2.2.1 M M1 → Q (vi r) M1) : CA FF sc YF (d + 3) m_X11_ledger [vr 0, vi v1, vi v2, vi v3, vi v4] M Q := by
  refine S sc d (ax_rh [v1, v2, v3, v4]) M _ Q rfl rfl (And.intro (ax_r) (And.intro (ax_i (by decide) rfl) (And.intro (ax_i (by decide) rfl) (And.intro (ax_i (by decide) rfl) (And.intro (ax_i (by decide) rfl) (And.intro (ax_o) trivial)))))) ⟨(ax_e1 (by decide) h0.1 h0.2 (ax_e1 (by decide) h1.1 h1.2 (ax_e1 (by decide) h2.1 h2.2 (ax_e1 (by decide) h3.1 h3.2 ax_e0)))), ax_f0, ax_c0, ax_m0⟩ G j (fun r M1 g f hq => ?_)
  replace hq := ax_q1 hq
  obtain ⟨-, ρ1, e0, hr, kE, kF, kC, kN⟩ := hq
  have hr : r = vi (ρ1 4) := hr
  have e1 : ρ1 0 = v1 := e0 0 (by decide)
  have e2 : ρ1 1 = v2 := e0 1 (by decide)
  have e3 : ρ1 2 = v3 := e0 2 (by decide)
  have e4 : ρ1 3 = v4 := e0 3 (by decide)
  have b0 := kE _ (List.mem_cons_self)
  have b0 : (-2) ≤ ρ1 4 ∧ ρ1 4 ≤ 1023 := b0.2
  rw [hr]
  exact k0 _ _ (by omega) (by omega) g f
theorem cf_ledger {sc : List Int} {a0 a1 a2 a3 : Int} (i0 : in32 a0) (i1 : in32 a1) (i2 : in32 a2) (i3 : in32 a3) {M : MM} (G : axG M) : CA FF sc YF 59 m_X11_ledger [vr 0, vi a0, vi a1, vi a2, vi a3] M (cxF cw_ledger M) := by
  obtain ⟨g, j, W⟩ := G
  exact u_X11_ledger (d := 59 - 3) (Q := cxF cw_ledger M) (ah_X11_ledger axH) (v1 := a0) (v2 := a1) (v3 := a2) (v4 := a3) (by have := i0; unfold in32 at this; omega) (by have := i1; unfold in32 at this; omega) (by have := i2; unfold in32 at this; omega) (by have := i3; unfold in32 at this; omega) g j (fun r M1 q0 q1 g1 f1 => have z := (cx_fin g1 f1 j W (by decide +kernel)); ⟨⟨r, rfl⟩, z.1, z.2, Keep.of_fr f1 (by decide +kernel)⟩)
def cw_seed : Nat := 551744934429463295668663929006497367117657536410540844580736585623525131641330407150600101305729251565593135388000548999182402661110765563629422853519873097265044257207470810718849231611701559251177452518992086636694164196702990349431148464210372337996054787378030953959538315518789088900655304185928974412292104966017108845614194576527430106344811141618014046340524985060258813147518236234731697646476983007188952472618715088146668512727401413955716016289276821420018610230122503940204179414416479537604711353773698362568156715516219068049217307448293620025407126329405860878302079894971356551385777329341108575102003129576088299346709134675312358583606539201742657366255599531802064101253115271386867103910518726493381302652075355524780026840485277179229643476897117047325196230188139418849082702643585151883102616198247223727067511059735781054263497222022594079559365276899772192083514927731501515432891182344847488988327597018289725041734814840670343009163567858312539809161563333159503577480289486345881471222569960292036382448193311638676631945563015937834966672865824861765813132418555332380207981928847487635349401936503451392409093934407884428469596217775289064132420060641458312210616437686343903077189909450122020920093102553281835591716329408998317056585852647216225869862084584952858390565890825933253783160072801982544374669230232649435409449036377527699875038945038563829258994151858866318483988831424612008019420494405678565717165266797153168345214193070946406490447115412733512957099008
theorem u_X11_seed {J : MM → Prop} (S : ai_SP ax_T J ap_X11_seed) {sc : List Int} {d : Nat} {M : MM} {Q : Vv → MM → Prop} {v1 : Int} (h0 : (-2147483648) ≤ v1 ∧ v1 ≤ 2147483647) (G : ai_GI ax_T M) (j : J M) (k0 : ∀ (r : Int) (M1 : MM), 1 ≤ r → r ≤ 1 → 0 ≤ v1 → 0 ≤ 0 - v1 + 65535 → ai_GI ax_T M1 → ai_Fr ax_T ap_X11_seed.2.2.2.1 M M1 → Q (vi r) M1) (k1 : ∀ (r : Int) (M1 : MM), 0 ≤ r → r ≤ 0 → 0 ≤ 0 - v1 - 1 → ai_GI ax_T M1 → ai_Fr ax_T ap_X11_seed.2.2.2.1 M M1 → Q (vi r) M1) (k2 : ∀ (r : Int) (M1 : MM), 0 ≤ r → r ≤ 0 → 0 ≤ v1 - 65536 → ai_GI ax_T M1 → ai_Fr ax_T ap_X11_seed.2.2.2.1 M M1 → Q (vi r) M1) : CA FF sc YF (d + 2) m_X11_seed [vr 0, vi v1] M Q := by
  refine S sc d (ax_rh [v1]) M _ Q rfl rfl (And.intro (ax_r) (And.intro (ax_i (by decide) rfl) trivial)) ⟨(ax_e1 (by decide) h0.1 h0.2 ax_e0), ax_f0, ax_c0, ax_m0⟩ G j (fun r M1 g f hq => ?_)
  rcases ax_q2 hq with hq | hq
  · obtain ⟨-, ρ1, e0, hr, kE, kF, kC, kN⟩ := hq
    have hr : r = vi (ρ1 1) := hr
    have e1 : ρ1 0 = v1 := e0 0 (by decide)
    have b0 := kE _ (List.mem_cons_self)
    have b0 : 1 ≤ ρ1 1 ∧ ρ1 1 ≤ 1 := b0.2
    have c0 : 0 ≤ (1 * ρ1 0 + 0) + 0 := (kC _ List.mem_cons_self).2
    have c1 : 0 ≤ ((-1) * ρ1 0 + 0) + 65535 := (kC _ (List.mem_cons_of_mem _ List.mem_cons_self)).2
    rw [hr]
    exact k0 _ _ (by omega) (by omega) (by omega) (by omega) g f
  · rcases ax_q2 hq with hq | hq
    · obtain ⟨-, ρ1, e0, hr, kE, kF, kC, kN⟩ := hq
      have hr : r = vi (ρ1 1) := hr
      have e1 : ρ1 0 = v1 := e0 0 (by decide)
      have b0 := kE _ (List.mem_cons_self)
      have b0 : 0 ≤ ρ1 1 ∧ ρ1 1 ≤ 0 := b0.2
      have c0 : 0 ≤ ((-1) * ρ1 0 + 0) + (-1) := (kC _ List.mem_cons_self).2
      rw [hr]
      exact k1 _ _ (by omega) (by omega) (by omega) g f
    · replace hq := ax_q1 hq
      obtain ⟨-, ρ1, e0, hr, kE, kF, kC, kN⟩ := hq
      have hr : r = vi (ρ1 1) := hr
      have e1 : ρ1 0 = v1 := e0 0 (by decide)
      have b0 := kE _ (List.mem_cons_self)
      have b0 : 0 ≤ ρ1 1 ∧ ρ1 1 ≤ 0 := b0.2
      have c0 : 0 ≤ (1 * ρ1 0 + 0) + (-65536) := (kC _ List.mem_cons_self).2
      rw [hr]
      exact k2 _ _ (by omega) (by omega) (by omega) g f
theorem cf_seed {sc : List Int} {a0 : Int} (i0 : in32 a0) {M : MM} (G : axG M) : CA FF sc YF 59 m_X11_seed [vr 0, vi a0] M (cxF cw_seed M) := by
  obtain ⟨g, j, W⟩ := G
  exact u_X11_seed (d := 59 - 2) (Q := cxF cw_seed M) (ah_X11_seed axH) (v1 := a0) (by have := i0; unfold in32 at this; omega) g j (fun r M1 q0 q1 q2 q3 g1 f1 => have z := (cx_fin g1 f1 j W (by decide +kernel)); ⟨⟨r, rfl⟩, z.1, z.2, Keep.of_fr f1 (by decide +kernel)⟩) (fun r M1 q0 q1 q2 g1 f1 => have z := (cx_fin g1 f1 j W (by decide +kernel)); ⟨⟨r, rfl⟩, z.1, z.2, Keep.of_fr f1 (by decide +kernel)⟩) (fun r M1 q0 q1 q2 g1 f1 => have z := (cx_fin g1 f1 j W (by decide +kernel)); ⟨⟨r, rfl⟩, z.1, z.2, Keep.of_fr f1 (by decide +kernel)⟩)
def cw_keep : Nat := 551744934429463295668663929006497367117657536410540844580736585623525131641330407150600101305729251565593135388000548999182402661110765563629422853519873097265044257207470810718849231611701559251177452518992086636694164196702990349431148464210372337996054787378030953959538315518789088900655304185928974412292104966017108845614194576527430106344811141618014046340524985060258813147518236234731697646476983007188952472618715088146668512727401409733069405954467031240773276122152307238578862996193718595533663595009431154611659983282970695096902742883213190694246669145113812708532642858953132970554189392151959929713644526661271645156289514494927629800514237088462957327025408869561393612400698933660102096155922876152458606217847651533997729156413338489249434223154863107555544981736504091339407117662347197349118479309738065282987230243148261895280669322191460939792204263323925356913996796591888554309355196866126662102393671589535258611774793408601018228794127936637636602561905669971979461562560833597691063666787781523765663687729595290536421599572642784689781635182049794890687631451626945683484950371221606325752677235350286551986010986232798328883767269504995037526846438724261290611771817005422087397739862712198162626889043269615770988436778266965864656106640767982938727150504915348506399235394726290914392548216310636089675348033966193536141173717468991833625131563974295254131765133150078994853648002571156981780843636284357136295727066870529072681662315597944008797879637880221788578823168
theorem u_X11_keep {J : MM → Prop} (S : ai_SP ax_T J ap_X11_keep) {sc : List Int} {d : Nat} {M : MM} {Q : Vv → MM → Prop}  (G : ai_GI ax_T M) (j : J M) (k0 : ∀ (r : Int) (M1 : MM), (-2147483648) ≤ r → r ≤ 2147483647 → 1 ≤ (M1 0 14) → (M1 0 14) ≤ 1 → 0 ≤ (M1 0 14) - 1 → ai_GI ax_T M1 → ai_Fr ax_T ap_X11_keep.2.2.2.1 M M1 → Q (vi r) M1) : CA FF sc YF (d + 2) m_X11_keep [vr 0] M Q := by
  refine S sc d (ax_rh []) M _ Q rfl rfl (And.intro (ax_r) trivial) ⟨ax_e0, ax_f0, ax_c0, ax_m0⟩ G j (fun r M1 g f hq => ?_)
  replace hq := ax_q1 hq
  obtain ⟨-, ρ1, e0, hr, kE, kF, kC, kN⟩ := hq
  have hr : r = vi (ρ1 0) := hr
  have b0 := kE _ (List.mem_cons_self)
  have b0 : (-2147483648) ≤ ρ1 0 ∧ ρ1 0 ≤ 2147483647 := b0.2
  have b1 := kE _ (List.mem_cons_of_mem _ List.mem_cons_self)
  have b1 : 1 ≤ ρ1 1 ∧ ρ1 1 ≤ 1 := b1.2
  have f0 := (kF _ List.mem_cons_self).2.2.2
  have f0 : M1 0 ((0 + 14 : Int)).toNat = (1 * ρ1 1 + 0) + 0 := f0
  have g0 : ((0 + 14 : Int)) = 14 := by omega
  rw [g0] at f0
  have f0 : (M1 0 14) = ρ1 1 := by have f : (M1 0 14) = (1 * ρ1 1 + 0) + 0 := f0; omega
  have c0 : 0 ≤ (1 * ρ1 1 + 0) + (-1) := (kC _ List.mem_cons_self).2
  rw [hr]
  exact k0 _ _ (by omega) (by omega) (by omega) (by omega) (by omega) g f
theorem cf_keep {sc : List Int} {M : MM} (G : axG M) : CA FF sc YF 59 m_X11_keep [vr 0] M (cxF cw_keep M) := by
  obtain ⟨g, j, W⟩ := G
  exact u_X11_keep (d := 59 - 2) (Q := cxF cw_keep M) (ah_X11_keep axH) g j (fun r M1 q0 q1 q2 q3 q4 g1 f1 => have z := (cx_fin g1 f1 j W (by decide +kernel)); ⟨⟨r, rfl⟩, z.1, z.2, Keep.of_fr f1 (by decide +kernel)⟩)
def cw_undo : Nat := 551744934429463295668663929006497367117657536410540844580736585623525131641330407150600101305729251565593135388000548999182402661110765563629422853519873097265044257207470810718849231611701559251177452518992086636694164196702990349431148464210372337996054787378030953959538315518789088900655304185928974412292104966017108845614194576527430106344811141618014046340524985060258813147518236234731697646476983007188952472618715088146668512727401413955716016289276821420018610230122503940204179414416479537604711353773698362568156715516219068047240400969311056031645731574602219283320229474300893932424617158439606659967613004754686305805179566199365893626764829064429053821960404344043452336700033832400284878389057865495108589046036781206231184743810778980928644112167470630608047116236758333956283669834976051536274961282492986914373758303160978118740063600978361345662210874564798419554680337000110648329620129997619761252883634845942845246026621947099127589680696110153987908461301144656938150398555138925711021564478240758691759185605211168526467979474743927381502547069663724488146314716694699341312660066524090900312305136992741932367855641850692229541682396297195030266884159111875638127637782596811359610240203549422386840483087427071689154379328741846024430872977916465602935212802972370080961235090562120988940403916097140803199402340755299333492221980479320846268354577345250914189308452583537854918800675299521739176959000982975641296774404721298026363942249566643916969371004735877845709028352
theorem u_X11_undo {J : MM → Prop} (S : ai_SP ax_T J ap_X11_undo) {sc : List Int} {d : Nat} {M : MM} {Q : Vv → MM → Prop} (h0 : 0 ≤ (M 0 14) ∧ (M 0 14) ≤ 1) (G : ai_GI ax_T M) (j : J M) (k0 : ∀ (r : Int) (M1 : MM), 0 ≤ r → r ≤ 1 → 0 ≤ 0 - (M 0 14) + r → 0 ≤ (M 0 14) - r → ai_GI ax_T M1 → ai_Fr ax_T ap_X11_undo.2.2.2.1 M M1 → Q (vi r) M1) : CA FF sc YF (d + 2) m_X11_undo [vr 0] M Q := by
  refine S sc d (ax_rh [(M 0 14)]) M _ Q rfl rfl (And.intro (ax_r) trivial) ⟨(ax_e1 (by decide) h0.1 h0.2 ax_e0), (ax_f1 (i := 14) (by decide) (by decide) (by show 0 + 14 = 14; omega) (by decide) rfl ax_f0), ax_c0, ax_m0⟩ G j (fun r M1 g f hq => ?_)
  replace hq := ax_q1 hq
  obtain ⟨-, ρ1, e0, hr, kE, kF, kC, kN⟩ := hq
  have hr : r = vi (ρ1 1) := hr
  have e1 : ρ1 0 = (M 0 14) := e0 0 (by decide)
  have b0 := kE _ (List.mem_cons_self)
  have b0 : 0 ≤ ρ1 1 ∧ ρ1 1 ≤ 1 := b0.2
  have c0 : 0 ≤ ((-1) * ρ1 0 + (1 * ρ1 1 + 0)) + 0 := (kC _ List.mem_cons_self).2
  have c1 : 0 ≤ (1 * ρ1 0 + ((-1) * ρ1 1 + 0)) + 0 := (kC _ (List.mem_cons_of_mem _ List.mem_cons_self)).2
  rw [hr]
  exact k0 _ _ (by omega) (by omega) (by omega) (by omega) g f
theorem cf_undo {sc : List Int} {M : MM} (G : axG M) : CA FF sc YF 59 m_X11_undo [vr 0] M (cxF cw_undo M) := by
  obtain ⟨g, j, W⟩ := G
  exact u_X11_undo (d := 59 - 2) (Q := cxF cw_undo M) (ah_X11_undo axH) (by have := rO_0_14 g; omega) g j (fun r M1 q0 q1 q2 q3 g1 f1 => have z := (cx_fin g1 f1 j W (by decide +kernel)); ⟨⟨r, rfl⟩, z.1, z.2, Keep.of_fr f1 (by decide +kernel)⟩)
def cw_check : Nat := 551744934429463295668663929006497367117657536410540844580736585623525131641330407150600101305729251565593135388000548999182402661110765563629422853519873097265044257207470810718849231611701559251177452518992086636694164196702990349431148464210372337996054787378030953959538315518789088900655304185928974412292104966017108845614194576527430106344811141618014046340524985060258813147518236234731697646476983007188952472618715088146668512727401413955716016289276821420018610230122503940204179414416479537604711353773698362568156715516219068049217307448293620025407126329405860878302079894971356551385777329341108575104188460465067716402338345563150372875196513663501744493017422911170534301669286247952562352062972632449783415057524154144270168154918616169345064208554661376028348345277245028030298954909626437524553486172093604856463061056887618551642337570754298106877127521483105330819206832309588721707353450495068829871391227193875893351442895343586540231953132408779645822042345529127785669930698659518800718121696988043860516516047473290478513977196794636737392944637446497440487811612200301245739592796701314040801783515522329674941360466481143680277174206682463419191034664759962459096893611108277523632806565585815455900057373969438622780681474841033819018586394518777360540884745439856118541438485410844026234524426107238778938803394563101327648859836184305320754404778580844684731928597347874077401302984883123871067415897154257866968996583113940097843709062526987207436772851395211829562113024
theorem u_X11_check {J : MM → Prop} (S : ai_SP ax_T J ap_X11_check) {sc : List Int} {d : Nat} {M : MM} {Q : Vv → MM → Prop} {v1 : Int} (h0 : (-2147483648) ≤ v1 ∧ v1 ≤ 2147483647) (h1 : 0 ≤ (M 1 1) ∧ (M 1 1) ≤ 260) (G : ai_GI ax_T M) (j : J M) (k0 : ∀ (r : Int) (M1 : MM), (-1) ≤ r → r ≤ 9 → 0 ≤ (M1 1 1) → (M1 1 1) ≤ 0 → 0 ≤ v1 → 0 ≤ 0 - v1 + 10 → 0 ≤ 0 - 4 * v1 + (M 1 1) → 0 ≤ (M1 1 1) → 0 ≤ 0 - (M1 1 1) → ai_GI ax_T M1 → ai_Fr ax_T ap_X11_check.2.2.2.1 M M1 → Q (vi r) M1) (k1 : ∀ (r : Int) (M1 : MM), (-2) ≤ r → r ≤ (-2) → 0 ≤ (M1 1 1) → (M1 1 1) ≤ 260 → 0 ≤ 0 - v1 - 1 → 0 ≤ 0 - (M 1 1) + (M1 1 1) → 0 ≤ (M 1 1) - (M1 1 1) → ai_GI ax_T M1 → ai_Fr ax_T ap_X11_check.2.2.2.1 M M1 → Q (vi r) M1) (k2 : ∀ (r : Int) (M1 : MM), (-2) ≤ r → r ≤ (-2) → 0 ≤ (M1 1 1) → (M1 1 1) ≤ 260 → 0 ≤ v1 - 11 → 0 ≤ 0 - (M 1 1) + (M1 1 1) → 0 ≤ (M 1 1) - (M1 1 1) → ai_GI ax_T M1 → ai_Fr ax_T ap_X11_check.2.2.2.1 M M1 → Q (vi r) M1) (k3 : ∀ (r : Int) (M1 : MM), (-2) ≤ r → r ≤ (-2) → 0 ≤ (M1 1 1) → (M1 1 1) ≤ 40 → 0 ≤ 4 * v1 - (M 1 1) - 1 → 0 ≤ 0 - (M 1 1) + (M1 1 1) → 0 ≤ (M 1 1) - (M1 1 1) → ai_GI ax_T M1 → ai_Fr ax_T ap_X11_check.2.2.2.1 M M1 → Q (vi r) M1) : CA FF sc YF (d + 3) m_X11_check [vr 0, vi v1] M Q := by
  refine S sc d (ax_rh [v1, (M 1 1)]) M _ Q rfl rfl (And.intro (ax_r) (And.intro (ax_i (by decide) rfl) (And.intro (ax_o) (And.intro (ax_o) trivial)))) ⟨(ax_e1 (by decide) h0.1 h0.2 (ax_e1 (by decide) h1.1 h1.2 ax_e0)), (ax_f1 (i := 1) (by decide) (by decide) (by show 0 + 1 = 1; omega) (by decide) rfl ax_f0), ax_c0, ax_m0⟩ G j (fun r M1 g f hq => ?_)
  rcases ax_q2 hq with hq | hq
  · obtain ⟨-, ρ1, e0, hr, kE, kF, kC, kN⟩ := hq
    have hr : r = vi (ρ1 2) := hr
    have e1 : ρ1 0 = v1 := e0 0 (by decide)
    have e2 : ρ1 1 = (M 1 1) := e0 1 (by decide)
    have b0 := kE _ (List.mem_cons_self)
    have b0 : (-1) ≤ ρ1 2 ∧ ρ1 2 ≤ 9 := b0.2
    have b1 := kE _ (List.mem_cons_of_mem _ List.mem_cons_self)
    have b1 : 0 ≤ ρ1 3 ∧ ρ1 3 ≤ 0 := b1.2
    have f0 := (kF _ List.mem_cons_self).2.2.2
    have f0 : M1 1 ((0 + 1 : Int)).toNat = (1 * ρ1 3 + 0) + 0 := f0
    have g0 : ((0 + 1 : Int)) = 1 := by omega
    rw [g0] at f0
    have f0 : (M1 1 1) = ρ1 3 := by have f : (M1 1 1) = (1 * ρ1 3 + 0) + 0 := f0; omega
    have c0 : 0 ≤ (1 * ρ1 0 + 0) + 0 := (kC _ List.mem_cons_self).2
    have c1 : 0 ≤ ((-1) * ρ1 0 + 0) + 10 := (kC _ (List.mem_cons_of_mem _ List.mem_cons_self)).2
    have c2 : 0 ≤ ((-4) * ρ1 0 + (1 * ρ1 1 + 0)) + 0 := (kC _ (List.mem_cons_of_mem _ (List.mem_cons_of_mem _ List.mem_cons_self))).2
    have c3 : 0 ≤ (1 * ρ1 3 + 0) + 0 := (kC _ (List.mem_cons_of_mem _ (List.mem_cons_of_mem _ (List.mem_cons_of_mem _ List.mem_cons_self)))).2
    have c4 : 0 ≤ ((-1) * ρ1 3 + 0) + 0 := (kC _ (List.mem_cons_of_mem _ (List.mem_cons_of_mem _ (List.mem_cons_of_mem _ (List.mem_cons_of_mem _ List.mem_cons_self))))).2
    rw [hr]
    exact k0 _ _ (by omega) (by omega) (by omega) (by omega) (by omega) (by omega) (by omega) (by omega) (by omega) g f
  · rcases ax_q2 hq with hq | hq
    · obtain ⟨-, ρ1, e0, hr, kE, kF, kC, kN⟩ := hq
      have hr : r = vi (ρ1 2) := hr
      have e1 : ρ1 0 = v1 := e0 0 (by decide)
      have e2 : ρ1 1 = (M 1 1) := e0 1 (by decide)
      have b0 := kE _ (List.mem_cons_self)
      have b0 : (-2) ≤ ρ1 2 ∧ ρ1 2 ≤ (-2) := b0.2
      have b1 := kE _ (List.mem_cons_of_mem _ List.mem_cons_self)
      have b1 : 0 ≤ ρ1 3 ∧ ρ1 3 ≤ 260 := b1.2
      have f0 := (kF _ List.mem_cons_self).2.2.2
      have f0 : M1 1 ((0 + 1 : Int)).toNat = (1 * ρ1 3 + 0) + 0 := f0
      have g0 : ((0 + 1 : Int)) = 1 := by omega
      rw [g0] at f0
      have f0 : (M1 1 1) = ρ1 3 := by have f : (M1 1 1) = (1 * ρ1 3 + 0) + 0 := f0; omega
      have c0 : 0 ≤ ((-1) * ρ1 0 + 0) + (-1) := (kC _ List.mem_cons_self).2
      have c1 : 0 ≤ ((-1) * ρ1 1 + (1 * ρ1 3 + 0)) + 0 := (kC _ (List.mem_cons_of_mem _ List.mem_cons_self)).2
      have c2 : 0 ≤ (1 * ρ1 1 + ((-1) * ρ1 3 + 0)) + 0 := (kC _ (List.mem_cons_of_mem _ (List.mem_cons_of_mem _ List.mem_cons_self))).2
      rw [hr]
      exact k1 _ _ (by omega) (by omega) (by omega) (by omega) (by omega) (by omega) (by omega) g f
    · rcases ax_q2 hq with hq | hq
      · obtain ⟨-, ρ1, e0, hr, kE, kF, kC, kN⟩ := hq
        have hr : r = vi (ρ1 2) := hr
        have e1 : ρ1 0 = v1 := e0 0 (by decide)
        have e2 : ρ1 1 = (M 1 1) := e0 1 (by decide)
        have b0 := kE _ (List.mem_cons_self)
        have b0 : (-2) ≤ ρ1 2 ∧ ρ1 2 ≤ (-2) := b0.2
        have b1 := kE _ (List.mem_cons_of_mem _ List.mem_cons_self)
        have b1 : 0 ≤ ρ1 3 ∧ ρ1 3 ≤ 260 := b1.2
        have f0 := (kF _ List.mem_cons_self).2.2.2
        have f0 : M1 1 ((0 + 1 : Int)).toNat = (1 * ρ1 3 + 0) + 0 := f0
        have g0 : ((0 + 1 : Int)) = 1 := by omega
        rw [g0] at f0
        have f0 : (M1 1 1) = ρ1 3 := by have f : (M1 1 1) = (1 * ρ1 3 + 0) + 0 := f0; omega
        have c0 : 0 ≤ (1 * ρ1 0 + 0) + (-11) := (kC _ List.mem_cons_self).2
        have c1 : 0 ≤ ((-1) * ρ1 1 + (1 * ρ1 3 + 0)) + 0 := (kC _ (List.mem_cons_of_mem _ List.mem_cons_self)).2
        have c2 : 0 ≤ (1 * ρ1 1 + ((-1) * ρ1 3 + 0)) + 0 := (kC _ (List.mem_cons_of_mem _ (List.mem_cons_of_mem _ List.mem_cons_self))).2
        rw [hr]
        exact k2 _ _ (by omega) (by omega) (by omega) (by omega) (by omega) (by omega) (by omega) g f
      · replace hq := ax_q1 hq
        obtain ⟨-, ρ1, e0, hr, kE, kF, kC, kN⟩ := hq
        have hr : r = vi (ρ1 2) := hr
        have e1 : ρ1 0 = v1 := e0 0 (by decide)
        have e2 : ρ1 1 = (M 1 1) := e0 1 (by decide)
        have b0 := kE _ (List.mem_cons_self)
        have b0 : (-2) ≤ ρ1 2 ∧ ρ1 2 ≤ (-2) := b0.2
        have b1 := kE _ (List.mem_cons_of_mem _ List.mem_cons_self)
        have b1 : 0 ≤ ρ1 3 ∧ ρ1 3 ≤ 40 := b1.2
        have f0 := (kF _ List.mem_cons_self).2.2.2
        have f0 : M1 1 ((0 + 1 : Int)).toNat = (1 * ρ1 3 + 0) + 0 := f0
        have g0 : ((0 + 1 : Int)) = 1 := by omega
        rw [g0] at f0
        have f0 : (M1 1 1) = ρ1 3 := by have f : (M1 1 1) = (1 * ρ1 3 + 0) + 0 := f0; omega
        have c0 : 0 ≤ (4 * ρ1 0 + ((-1) * ρ1 1 + 0)) + (-1) := (kC _ List.mem_cons_self).2
        have c1 : 0 ≤ ((-1) * ρ1 1 + (1 * ρ1 3 + 0)) + 0 := (kC _ (List.mem_cons_of_mem _ List.mem_cons_self)).2
        have c2 : 0 ≤ (1 * ρ1 1 + ((-1) * ρ1 3 + 0)) + 0 := (kC _ (List.mem_cons_of_mem _ (List.mem_cons_of_mem _ List.mem_cons_self))).2
        rw [hr]
        exact k3 _ _ (by omega) (by omega) (by omega) (by omega) (by omega) (by omega) (by omega) g f
theorem cf_check {sc : List Int} {a0 : Int} (i0 : in32 a0) {M : MM} (G : axG M) : CA FF sc YF 59 m_X11_check [vr 0, vi a0] M (cxF cw_check M) := by
  obtain ⟨g, j, W⟩ := G
  exact u_X11_check (d := 59 - 3) (Q := cxF cw_check M) (ah_X11_check axH) (v1 := a0) (by have := i0; unfold in32 at this; omega) (by have := rO_1_1 g; omega) g j (fun r M1 q0 q1 q2 q3 q4 q5 q6 q7 q8 g1 f1 => have z := (cx_fin g1 f1 j W (by decide +kernel)); ⟨⟨r, rfl⟩, z.1, z.2, Keep.of_fr f1 (by decide +kernel)⟩) (fun r M1 q0 q1 q2 q3 q4 q5 q6 g1 f1 => have z := (cx_fin g1 f1 j W (by decide +kernel)); ⟨⟨r, rfl⟩, z.1, z.2, Keep.of_fr f1 (by decide +kernel)⟩) (fun r M1 q0 q1 q2 q3 q4 q5 q6 g1 f1 => have z := (cx_fin g1 f1 j W (by decide +kernel)); ⟨⟨r, rfl⟩, z.1, z.2, Keep.of_fr f1 (by decide +kernel)⟩) (fun r M1 q0 q1 q2 q3 q4 q5 q6 g1 f1 => have z := (cx_fin g1 f1 j W (by decide +kernel)); ⟨⟨r, rfl⟩, z.1, z.2, Keep.of_fr f1 (by decide +kernel)⟩)
def cw_count : Nat := 551744934429463295668663929006497367117657536410540844580736585623525131641330407150600101305729251565593135388000548999182402661110765563629422853519873097265044257207470810718849231611701559251177452518992086636694164196702990349431148464210372337996054787378030953959538315518789088900655304185928974412292104966017108845614194576527430106344811141618014046340524985060258813147518236234731697646476983007188952472618715088146668512727401413955716016289276821420018610230122503940204179414416479537604711353773698362568156715516219068049217307448293620025407126329405860878302079894971356551385777329341108575104188460465067716402338345563150372875196513663501744493017422911170534301669286247952562352062972632449783415057524154144270168154918616169345064208554661376028348345277245028030298954909626437524553486172093604856463061056887618551642337570754298106877127521483105330819206832309588721707353450495068829871391227193875893351442895343586540231953132408779645822042345529127785669930698659518800718121696988043860516516047473290478513977196794636737392944637446497440487811612200301245739592796701314040801783515522329674941360466481143680277174206682463419191034664759962459096893611108277523632806565585815455900057373969438622780681474841033819018586394518777360540884745439856118541438485410844026234524426107238778938803394563101327648859836184305320754404778580844684731928597347874077401302984883123871067415897154257866968996583113940097843709062526987207436772888288699976981216256
theorem u_X11_count_c58_66 {J : MM → Prop} (S : ai_SP ax_T J ap_X11_count_c58_66) {sc : List Int} {d : Nat} {M : MM} {Q : Vv → MM → Prop} {v1 : Int} (h0 : (-2147483648) ≤ v1 ∧ v1 ≤ 2147483647) (h1 : 58 ≤ (M 0 10) ∧ (M 0 10) ≤ 58) (h2 : 66 ≤ (M 0 12) ∧ (M 0 12) ≤ 66) (G : ai_GI ax_T M) (j : J M) (k0 : ∀ (r : Int) (M1 : MM), (-2147483648) ≤ r → r ≤ 2147483647 → ai_GI ax_T M1 → ai_Fr ax_T ap_X11_count_c58_66.2.2.2.1 M M1 → Q (vi r) M1) : CA FF sc YF (d + 3) m_X11_count [vr 0, vi v1] M Q := by
  refine S sc d (ax_rh [v1, (M 0 10), (M 0 12)]) M _ Q rfl rfl (And.intro (ax_r) (And.intro (ax_i (by decide) rfl) trivial)) ⟨(ax_e1 (by decide) h0.1 h0.2 (ax_e1 (by decide) h1.1 h1.2 (ax_e1 (by decide) h2.1 h2.2 ax_e0))), (ax_f1 (i := 10) (by decide) (by decide) (by show 0 + 10 = 10; omega) (by decide) rfl (ax_f1 (i := 12) (by decide) (by decide) (by show 0 + 12 = 12; omega) (by decide) rfl ax_f0)), ax_c0, ax_m0⟩ G j (fun r M1 g f hq => ?_)
  replace hq := ax_q1 hq
  obtain ⟨-, ρ1, e0, hr, kE, kF, kC, kN⟩ := hq
  have hr : r = vi (ρ1 3) := hr
  have e1 : ρ1 0 = v1 := e0 0 (by decide)
  have e2 : ρ1 1 = (M 0 10) := e0 1 (by decide)
  have e3 : ρ1 2 = (M 0 12) := e0 2 (by decide)
  have b0 := kE _ (List.mem_cons_self)
  have b0 : (-2147483648) ≤ ρ1 3 ∧ ρ1 3 ≤ 2147483647 := b0.2
  rw [hr]
  exact k0 _ _ (by omega) (by omega) g f
theorem u_X11_count_c58_74 {J : MM → Prop} (S : ai_SP ax_T J ap_X11_count_c58_74) {sc : List Int} {d : Nat} {M : MM} {Q : Vv → MM → Prop} {v1 : Int} (h0 : (-2147483648) ≤ v1 ∧ v1 ≤ 2147483647) (h1 : 58 ≤ (M 0 10) ∧ (M 0 10) ≤ 58) (h2 : 74 ≤ (M 0 12) ∧ (M 0 12) ≤ 74) (G : ai_GI ax_T M) (j : J M) (k0 : ∀ (r : Int) (M1 : MM), (-2147483648) ≤ r → r ≤ 2147483647 → ai_GI ax_T M1 → ai_Fr ax_T ap_X11_count_c58_74.2.2.2.1 M M1 → Q (vi r) M1) : CA FF sc YF (d + 3) m_X11_count [vr 0, vi v1] M Q := by
  refine S sc d (ax_rh [v1, (M 0 10), (M 0 12)]) M _ Q rfl rfl (And.intro (ax_r) (And.intro (ax_i (by decide) rfl) trivial)) ⟨(ax_e1 (by decide) h0.1 h0.2 (ax_e1 (by decide) h1.1 h1.2 (ax_e1 (by decide) h2.1 h2.2 ax_e0))), (ax_f1 (i := 10) (by decide) (by decide) (by show 0 + 10 = 10; omega) (by decide) rfl (ax_f1 (i := 12) (by decide) (by decide) (by show 0 + 12 = 12; omega) (by decide) rfl ax_f0)), ax_c0, ax_m0⟩ G j (fun r M1 g f hq => ?_)
  replace hq := ax_q1 hq
  obtain ⟨-, ρ1, e0, hr, kE, kF, kC, kN⟩ := hq
  have hr : r = vi (ρ1 3) := hr
  have e1 : ρ1 0 = v1 := e0 0 (by decide)
  have e2 : ρ1 1 = (M 0 10) := e0 1 (by decide)
  have e3 : ρ1 2 = (M 0 12) := e0 2 (by decide)
  have b0 := kE _ (List.mem_cons_self)
  have b0 : (-2147483648) ≤ ρ1 3 ∧ ρ1 3 ≤ 2147483647 := b0.2
  rw [hr]
  exact k0 _ _ (by omega) (by omega) g f
theorem u_X11_count_c62_66 {J : MM → Prop} (S : ai_SP ax_T J ap_X11_count_c62_66) {sc : List Int} {d : Nat} {M : MM} {Q : Vv → MM → Prop} {v1 : Int} (h0 : (-2147483648) ≤ v1 ∧ v1 ≤ 2147483647) (h1 : 62 ≤ (M 0 10) ∧ (M 0 10) ≤ 62) (h2 : 66 ≤ (M 0 12) ∧ (M 0 12) ≤ 66) (G : ai_GI ax_T M) (j : J M) (k0 : ∀ (r : Int) (M1 : MM), (-2147483648) ≤ r → r ≤ 2147483647 → ai_GI ax_T M1 → ai_Fr ax_T ap_X11_count_c62_66.2.2.2.1 M M1 → Q (vi r) M1) : CA FF sc YF (d + 3) m_X11_count [vr 0, vi v1] M Q := by
  refine S sc d (ax_rh [v1, (M 0 10), (M 0 12)]) M _ Q rfl rfl (And.intro (ax_r) (And.intro (ax_i (by decide) rfl) trivial)) ⟨(ax_e1 (by decide) h0.1 h0.2 (ax_e1 (by decide) h1.1 h1.2 (ax_e1 (by decide) h2.1 h2.2 ax_e0))), (ax_f1 (i := 10) (by decide) (by decide) (by show 0 + 10 = 10; omega) (by decide) rfl (ax_f1 (i := 12) (by decide) (by decide) (by show 0 + 12 = 12; omega) (by decide) rfl ax_f0)), ax_c0, ax_m0⟩ G j (fun r M1 g f hq => ?_)
  replace hq := ax_q1 hq
  obtain ⟨-, ρ1, e0, hr, kE, kF, kC, kN⟩ := hq
  have hr : r = vi (ρ1 3) := hr
  have e1 : ρ1 0 = v1 := e0 0 (by decide)
  have e2 : ρ1 1 = (M 0 10) := e0 1 (by decide)
  have e3 : ρ1 2 = (M 0 12) := e0 2 (by decide)
  have b0 := kE _ (List.mem_cons_self)
  have b0 : (-2147483648) ≤ ρ1 3 ∧ ρ1 3 ≤ 2147483647 := b0.2
  rw [hr]
  exact k0 _ _ (by omega) (by omega) g f
theorem u_X11_count_c62_74 {J : MM → Prop} (S : ai_SP ax_T J ap_X11_count_c62_74) {sc : List Int} {d : Nat} {M : MM} {Q : Vv → MM → Prop} {v1 : Int} (h0 : (-2147483648) ≤ v1 ∧ v1 ≤ 2147483647) (h1 : 62 ≤ (M 0 10) ∧ (M 0 10) ≤ 62) (h2 : 74 ≤ (M 0 12) ∧ (M 0 12) ≤ 74) (G : ai_GI ax_T M) (j : J M) (k0 : ∀ (r : Int) (M1 : MM), (-2147483648) ≤ r → r ≤ 2147483647 → ai_GI ax_T M1 → ai_Fr ax_T ap_X11_count_c62_74.2.2.2.1 M M1 → Q (vi r) M1) : CA FF sc YF (d + 3) m_X11_count [vr 0, vi v1] M Q := by
  refine S sc d (ax_rh [v1, (M 0 10), (M 0 12)]) M _ Q rfl rfl (And.intro (ax_r) (And.intro (ax_i (by decide) rfl) trivial)) ⟨(ax_e1 (by decide) h0.1 h0.2 (ax_e1 (by decide) h1.1 h1.2 (ax_e1 (by decide) h2.1 h2.2 ax_e0))), (ax_f1 (i := 10) (by decide) (by decide) (by show 0 + 10 = 10; omega) (by decide) rfl (ax_f1 (i := 12) (by decide) (by decide) (by show 0 + 12 = 12; omega) (by decide) rfl ax_f0)), ax_c0, ax_m0⟩ G j (fun r M1 g f hq => ?_)
  replace hq := ax_q1 hq
  obtain ⟨-, ρ1, e0, hr, kE, kF, kC, kN⟩ := hq
  have hr : r = vi (ρ1 3) := hr
  have e1 : ρ1 0 = v1 := e0 0 (by decide)
  have e2 : ρ1 1 = (M 0 10) := e0 1 (by decide)
  have e3 : ρ1 2 = (M 0 12) := e0 2 (by decide)
  have b0 := kE _ (List.mem_cons_self)
  have b0 : (-2147483648) ≤ ρ1 3 ∧ ρ1 3 ≤ 2147483647 := b0.2
  rw [hr]
  exact k0 _ _ (by omega) (by omega) g f
theorem cf_count {sc : List Int} {a0 : Int} (i0 : in32 a0) {M : MM} (G : axG M) : CA FF sc YF 59 m_X11_count [vr 0, vi a0] M (cxF cw_count M) := by
  obtain ⟨g, j, W⟩ := G
  rcases id W.1 with ⟨e10, e11⟩ | ⟨e10, e11⟩ <;> rcases id W.2 with ⟨e12, e13⟩ | ⟨e12, e13⟩
  · exact u_X11_count_c58_66 (d := 59 - 3) (Q := cxF cw_count M) (ah_X11_count_c58_66 axH) (v1 := a0) (by have := i0; unfold in32 at this; omega) (by have := rO_0_10 g; omega) (by have := rO_0_12 g; omega) g j (fun r M1 q0 q1 g1 f1 => have z := (cx_fin g1 f1 j W (by decide +kernel)); ⟨⟨r, rfl⟩, z.1, z.2, Keep.of_fr f1 (by decide +kernel)⟩)
  · exact u_X11_count_c58_74 (d := 59 - 3) (Q := cxF cw_count M) (ah_X11_count_c58_74 axH) (v1 := a0) (by have := i0; unfold in32 at this; omega) (by have := rO_0_10 g; omega) (by have := rO_0_12 g; omega) g j (fun r M1 q0 q1 g1 f1 => have z := (cx_fin g1 f1 j W (by decide +kernel)); ⟨⟨r, rfl⟩, z.1, z.2, Keep.of_fr f1 (by decide +kernel)⟩)
  · exact u_X11_count_c62_66 (d := 59 - 3) (Q := cxF cw_count M) (ah_X11_count_c62_66 axH) (v1 := a0) (by have := i0; unfold in32 at this; omega) (by have := rO_0_10 g; omega) (by have := rO_0_12 g; omega) g j (fun r M1 q0 q1 g1 f1 => have z := (cx_fin g1 f1 j W (by decide +kernel)); ⟨⟨r, rfl⟩, z.1, z.2, Keep.of_fr f1 (by decide +kernel)⟩)
  · exact u_X11_count_c62_74 (d := 59 - 3) (Q := cxF cw_count M) (ah_X11_count_c62_74 axH) (v1 := a0) (by have := i0; unfold in32 at this; omega) (by have := rO_0_10 g; omega) (by have := rO_0_12 g; omega) g j (fun r M1 q0 q1 g1 f1 => have z := (cx_fin g1 f1 j W (by decide +kernel)); ⟨⟨r, rfl⟩, z.1, z.2, Keep.of_fr f1 (by decide +kernel)⟩)
