/-! PART 7s: mode A: every relation between the two objects together -/
def kAc : Nat := 551744934429463295668663929006497367117657536410540844580736585623525131641330407150600101305729251565593135388000548999182402661110765563629422853519873097265044257207470810718849231611701559251177452518992086636694164196702990349431148464210372337996054787378030953959538315518789088900655304185928974412292104966017108845614194576527430106344811141618014046340524985060258813147518236234731697646476983007188952472618715088146668512727401413955716016289276821420018610230122503940204179414416479537604711353773698361401197103501830952621145003192242053818329728195775113225022242011388369629614946832445218740802931503444910514684736527515044671279158486098761369116382113282153529676772004771936794765282634407122035125732787579164799717082864902980246883294788561286897062219640238463918937170360811605899778675610565548520579041286248186721127389595969169920652323260551718369708321294694177688795155621836699594358676833656147412174629410471552479641511447914169805632485971870992226550439443162724174506354256295370194092058449772677437106111640073702684481816141650287084232450433576397924465143892660821452727822757915339208286621608628198726648635946793490188001070192457534987660796919710190244969420866772450287263279144268189369298224625960521237861818973139390869806604695085333642970115695356399805304123820810320861233487399427745188447758784903366743003380661660935312638137483123071119893548777868810414150554375647369399274613791768043358472279085553416117370671363756375233234269184
def kAm : Nat := 72092813053194468485471024035574209593277469934261810529320285602045572016195755998404162063193549955480235813313680121072749918635751042122722725421505960725568763945564157761527959213781011072193963775586889193081443850467193108776262943152409868641940485929860277052962227748929430382996438427338780872884246843027947334443426374819296891511401800354823516464812654288689285055437536470274193956562626075859746044807022148904723456784087027411844386355326685457137343210894045369962508109420063749958582134416325514130591931143448876665791811091111262605410542942786087768489768416897646798143122360203936131207963103360040727065591529888881026342391891750648181155972087396479526559894851467638927614209271593109829779639597542204239819933919887950474103805848319418246061791899128653894984730524556413953447441029869966803866132604850232843912035660313128266354519551821957266883442594444895896882610854399138070674710569860475509722763587760527622014777915248163329644068993704898550797935603370386347354794117605403833941423944517893178203353642444633911128410657822479944752546705372861253665479738401873755226601684453380793016561084766401193725379510649138376537653755651278697437670470152300510094215259542364421322351912790852528651080341230293798024857490271371505706296398989683564938029708285790460811258952567229453365251603402548693804518081375698338446799633170509260824453757632867869202191448728504395862443736707849384455144128222848023521189031443532964536976223131135078501492426761917897239759972220479604582301014935086799704234744816629259914297790664481434818296974724780609084638566419736555991738981510838276674000993928613100168558381709570687422475878570696614418466531379552065246785552018934918809375009477685966357195842513534236073569053032996121966502802331116090210054577071665961403086319507937993306830869754184196757794070918483592979674736236675851100142452901721493458464660416840874657073811895208640512
def GdA (M : MM) : Prop := GdS M ∧ rL M ∧ rN M ∧ GdH M
section AAM
variable {sc : List Int} {M M1 : MM}
theorem GdS.t (G : GdS M) : GdT M := G.x.w.t
theorem lw_fresh {M : MM} (hC : FrC M) (hM : FrM M) : rL M := by
  have e12 : M 0 12 = 66 := hC.at 0 12 66 (by decide) rfl
  have a0 : M 65 0 = 0 := hC.at 65 0 0 (by decide) rfl
  have a6 : M 65 6 = 0 := hC.at 65 6 0 (by decide) rfl
  have m19 : M 81 19 = 0 := hM.at 81 19 0 (by decide) rfl
  exact ⟨65, q0L, cl0L, .inl rfl, e12, ⟨⟨a0, a6⟩, fun k hk => absurd hk (Nat.not_lt_zero k), fun k hk => absurd hk (Nat.not_lt_zero k), by decide, by decide⟩, ⟨m19, ⟨by decide, fun i hi => absurd hi (Nat.not_lt_zero i)⟩, by decide, fun k hk => absurd hk (Nat.not_lt_zero k)⟩, fun k hk => absurd hk (Nat.not_lt_zero k)⟩
theorem nw_fresh {M : MM} (hC : FrC M) (hM : FrM M) : rN M := by
  have e47 : ∀ g, g < 10 → M0 47 g = -1 := by decide +kernel
  have e48 : ∀ g, g < 10 → M0 48 g = 0 := by decide +kernel
  have m : ∀ j, j < 36 → M 82 j = if j = 35 then 1 else 0 := fun j hj => by
    have e : ∀ j, j < 36 → M0 82 j = if j = 35 then 1 else 0 := by decide +kernel
    rw [hM.at 82 j _ (by decide) rfl]
    exact e j hj
  refine ⟨⟨?_, ?_⟩, ⟨fun g hg => ⟨fun z => ?_, fun _ => ⟨?_, ?_⟩⟩, ⟨?_, ?_, ?_⟩, ?_⟩, fun z => absurd (hM.at 81 61 0 (by decide) rfl) z⟩
  · rw [hC.at 0 15 0 (by decide) rfl, hM.at 81 8 0 (by decide) rfl]
  · rw [hC.at 0 14 0 (by decide) rfl, hM.at 81 61 0 (by decide) rfl]
  · rw [m 30 (by decide), if_neg (by decide), bit_zero] at z
    cases z
  · show M 47 g = -1
    rw [hC.at 47 g _ (by decide) rfl]
    exact e47 g hg
  · show M 48 g = 0
    rw [hC.at 48 g _ (by decide) rfl]
    exact e48 g hg
  · rw [hC.at 46 4 0 (by decide) rfl, m 32 (by decide), if_neg (by decide)]
  · rw [hC.at 46 6 0 (by decide) rfl, m 34 (by decide), if_neg (by decide)]
  · rw [hC.at 46 7 1 (by decide) rfl, m 35 (by decide), if_pos rfl]
  · rw [m 34 (by decide), if_neg (by decide)]
    decide
theorem gd_freshA {M : MM} (hC : FrC M) (hM : FrM M) (hz : ∀ k, 121 ≤ k → ∀ j, M k j = 0) (hI : Inv FF YF M) : GdA M := ⟨gd_freshS hC hM hz hI, lw_fresh hC hM, nw_fresh hC hM, gd_freshH hC hM hz hI⟩
theorem cdA {w m : Nat} {as : List Vv} (G : GdA M) (e : kAc &&& w = kAc) (h : CA FF sc YF 59 m as M (cxF w M)) : CA FF sc YF 59 m as M (fun r M1 => ∃ x, r = vi x ∧ GdA M1 ∧ UpX M M1) := by
  refine ((cdS (w := kAc) G.1 (by decide +kernel) (h.mono fun r M1 q => ⟨q.1, q.2.1, q.2.2.1, q.2.2.2.w e⟩)).and fun n => PC.of (n := n) h).mono fun r M1 q => ?_
  obtain ⟨⟨x, hx, G1⟩, -, g, u, kp⟩ := q
  have kp := kp.w e
  exact ⟨x, hx, ⟨G1, G.2.1.up u kp (by decide +kernel), G.2.2.1.up u kp (by decide +kernel), G.2.2.2.up g u kp (by decide +kernel)⟩, u⟩
theorem mdA {w m : Nat} {as : List Vv} (G : GdA M) (e : kAm &&& w = kAm) (h : CA FF sc YF 59 m as M (mxF w M)) : CA FF sc YF 59 m as M (fun r M1 => ∃ x, r = vi x ∧ GdA M1 ∧ LoX M M1) := by
  refine ((mdS (w := kAm) G.1 (by decide +kernel) (h.mono fun r M1 q => ⟨q.1, q.2.1, q.2.2.1, q.2.2.2.w e⟩)).and fun n => PC.of (n := n) h).mono fun r M1 q => ?_
  obtain ⟨⟨x, hx, G1⟩, -, g, l, kp⟩ := q
  have kp := kp.w e
  exact ⟨x, hx, ⟨G1, G.2.1.lo l kp (by decide +kernel), G.2.2.1.lo l kp (by decide +kernel), G.2.2.2.lo g l kp (by decide +kernel)⟩, l⟩
theorem csV {w m : Nat} {as : List Vv} (G : GdA M) (e : kAc &&& w = kAc) (h : CA FF sc YF 59 m as M (cxF w M)) {V : MM → Int} (hv : ∀ n, PC sc n m as M (fun r _ => r = vi (V M))) (up : ∀ M1, UpX M M1 → V M1 = V M) : CA FF sc YF 59 m as M (fun r M1 => ∃ x, r = vi x ∧ GdA M1 ∧ x = V M1) := ((cdA G e h).and hv).mono fun r M1 q => by
  obtain ⟨⟨x, hx, G1, u⟩, h2⟩ := q
  exact ⟨V M, h2, G1, (up M1 u).symm⟩
theorem msV {w m : Nat} {as : List Vv} {x : Int} {V : MM → Int} (G : GdA M ∧ x = V M) (e : kAm &&& w = kAm) (h : CA FF sc YF 59 m as M (mxF w M)) (hv : ∀ n, PC sc n m as M (fun r _ => r = vi (V M))) : CA FF sc YF 59 m as M (fun r M1 => ∃ y, r = vi y ∧ GdA M1 ∧ y = x) := ((mdA G.1 e h).and hv).mono fun r M1 q => by
  obtain ⟨⟨y, hy, G1, -⟩, h2⟩ := q
  exact ⟨V M, h2, G1, G.2.symm⟩
theorem cdAL {w m : Nat} {as : List Vv} (G : GdA M) (e : kAc &&& w = kAc) (h : CA FF sc YF 59 m as M (cxFL w M)) : CA FF sc YF 59 m as M (fun r M1 => ∃ x, r = vl x ∧ GdA M1 ∧ UpX M M1) := by
  refine ((cdSL (w := kAc) G.1 (by decide +kernel) (h.mono fun r M1 q => ⟨q.1, q.2.1, q.2.2.1, q.2.2.2.w e⟩)).and fun n => PC.of (n := n) h).mono fun r M1 q => ?_
  obtain ⟨⟨x, hx, G1⟩, -, g, u, kp⟩ := q
  have kp := kp.w e
  exact ⟨x, hx, ⟨G1, G.2.1.up u kp (by decide +kernel), G.2.2.1.up u kp (by decide +kernel), G.2.2.2.up g u kp (by decide +kernel)⟩, u⟩
theorem mdAL {w m : Nat} {as : List Vv} (G : GdA M) (e : kAm &&& w = kAm) (h : CA FF sc YF 59 m as M (mxFL w M)) : CA FF sc YF 59 m as M (fun r M1 => ∃ x, r = vl x ∧ GdA M1 ∧ LoX M M1) := by
  refine ((mdSL (w := kAm) G.1 (by decide +kernel) (h.mono fun r M1 q => ⟨q.1, q.2.1, q.2.2.1, q.2.2.2.w e⟩)).and fun n => PC.of (n := n) h).mono fun r M1 q => ?_
  obtain ⟨⟨x, hx, G1⟩, -, g, l, kp⟩ := q
  have kp := kp.w e
  exact ⟨x, hx, ⟨G1, G.2.1.lo l kp (by decide +kernel), G.2.2.1.lo l kp (by decide +kernel), G.2.2.2.lo g l kp (by decide +kernel)⟩, l⟩
theorem csVL {w m : Nat} {as : List Vv} (G : GdA M) (e : kAc &&& w = kAc) (h : CA FF sc YF 59 m as M (cxFL w M)) {V : MM → Int} (hv : ∀ n, PC sc n m as M (fun r _ => r = vl (V M))) (up : ∀ M1, UpX M M1 → V M1 = V M) : CA FF sc YF 59 m as M (fun r M1 => ∃ x, r = vl x ∧ GdA M1 ∧ x = V M1) := ((cdAL G e h).and hv).mono fun r M1 q => by
  obtain ⟨⟨x, hx, G1, u⟩, h2⟩ := q
  exact ⟨V M, h2, G1, (up M1 u).symm⟩
theorem msVL {w m : Nat} {as : List Vv} {x : Int} {V : MM → Int} (G : GdA M ∧ x = V M) (e : kAm &&& w = kAm) (h : CA FF sc YF 59 m as M (mxFL w M)) (hv : ∀ n, PC sc n m as M (fun r _ => r = vl (V M))) : CA FF sc YF 59 m as M (fun r M1 => ∃ y, r = vl y ∧ GdA M1 ∧ y = x) := ((mdAL G.1 e h).and hv).mono fun r M1 q => by
  obtain ⟨⟨y, hy, G1, -⟩, h2⟩ := q
  exact ⟨V M, h2, G1, G.2.symm⟩
theorem csR {w m : Nat} {as : List Vv} (G : GdA M) (e : kAc &&& w = kAc) (h : CA FF sc YF 59 m as M (cxF w M)) {P : MM → Int → Prop} (hv : ∀ n, PC sc n m as M (fun r _ => ∃ x, r = vi x ∧ P M x)) (up : ∀ M1 x, UpX M M1 → P M x → P M1 x) : CA FF sc YF 59 m as M (fun r M1 => ∃ x, r = vi x ∧ GdA M1 ∧ P M1 x) := ((cdA G e h).and hv).mono fun r M1 q => by
  obtain ⟨⟨x, hx, G1, u⟩, y, hy, p⟩ := q
  exact ⟨y, hy, G1, up M1 y u p⟩
theorem msR {w m : Nat} {as : List Vv} {x : Int} {P : MM → Int → Prop} (G : GdA M ∧ P M x) (e : kAm &&& w = kAm) (h : CA FF sc YF 59 m as M (mxF w M)) (hv : ∀ n, PC sc n m as M (fun r _ => ∃ y, r = vi y ∧ P M y)) (one : ∀ y, P M y → y = x) : CA FF sc YF 59 m as M (fun r M1 => ∃ y, r = vi y ∧ GdA M1 ∧ y = x) := ((mdA G.1 e h).and hv).mono fun r M1 q => by
  obtain ⟨⟨y1, hy1, G1, -⟩, y, hy, p⟩ := q
  exact ⟨y, hy, G1, one y p⟩
/-! feed -/
def MdA_feed (a0 a1 a2 a3 a4 x : Int) (M1 : MM) : Prop := MdS_feed a0 a1 a2 a3 a4 x M1 ∧ rL M1 ∧ rN M1 ∧ GdH M1
theorem csA_feed {a0 a1 a2 a3 a4 : Int} (i0 : in32 a0) (i1 : in32 a1) (i2 : in32 a2) (i3 : in32 a3) (i4 : in32 a4) (G : GdA M) : CA FF sc YF 59 m_X11_feed [vr 0, vi a0, vi a1, vi a2, vi a3, vi a4] M (fun r M1 => ∃ x, r = vi x ∧ MdA_feed a0 a1 a2 a3 a4 x M1) := ((csS_feed i0 i1 i2 i3 i4 G.1).and fun n => PC.of (n := n) (cf_feed i0 i1 i2 i3 i4 G.1.1)).mono fun r M1 q => by
  obtain ⟨⟨x, hx, p⟩, -, g, u, kp⟩ := q
  exact ⟨x, hx, p, G.2.1.up u kp (by decide +kernel), G.2.2.1.up u kp (by decide +kernel), G.2.2.2.up g u kp (by decide +kernel)⟩
theorem msA_feed {a0 a1 a2 a3 a4 x : Int} (i0 : in32 a0) (i1 : in32 a1) (i2 : in32 a2) (i3 : in32 a3) (i4 : in32 a4) (G : MdA_feed a0 a1 a2 a3 a4 x M) : CA FF sc YF 59 m_X12_feed [vr 81, vi a0, vi a1, vi a2, vi a3, vi a4] M (fun r M1 => ∃ y, r = vi y ∧ GdA M1) := ((msS_feed i0 i1 i2 i3 i4 G.1).and fun n => PC.of (n := n) (mf_feed i0 i1 i2 i3 i4 G.2.2.2.1)).mono fun r M1 q => by
  obtain ⟨⟨y, hy, p⟩, -, g, l, kp⟩ := q
  exact ⟨y, hy, p, G.2.1.lo l kp (by decide +kernel), G.2.2.1.lo l kp (by decide +kernel), G.2.2.2.lo g l kp (by decide +kernel)⟩
/-! sightings -/
def MdA_sightings (a0 a1 x : Int) (M1 : MM) : Prop := MdS_sightings a0 a1 x M1 ∧ rL M1 ∧ rN M1 ∧ GdH M1
theorem csA_sightings {a0 a1 : Int} (i0 : in32 a0) (i1 : in32 a1) (G : GdA M) : CA FF sc YF 59 m_X11_sightings [vr 0, vi a0, vi a1] M (fun r M1 => ∃ x, r = vi x ∧ MdA_sightings a0 a1 x M1) := ((csS_sightings i0 i1 G.1).and fun n => PC.of (n := n) (cf_sightings i0 i1 G.1.1)).mono fun r M1 q => by
  obtain ⟨⟨x, hx, p⟩, -, g, u, kp⟩ := q
  exact ⟨x, hx, p, G.2.1.up u kp (by decide +kernel), G.2.2.1.up u kp (by decide +kernel), G.2.2.2.up g u kp (by decide +kernel)⟩
theorem msA_sightings {a0 a1 x : Int} (i0 : in32 a0) (i1 : in32 a1) (G : MdA_sightings a0 a1 x M) : CA FF sc YF 59 m_X12_sightings [vr 81, vi a0, vi a1] M (fun r M1 => ∃ y, r = vi y ∧ GdA M1) := ((msS_sightings i0 i1 G.1).and fun n => PC.of (n := n) (mf_sightings i0 i1 G.2.2.2.1)).mono fun r M1 q => by
  obtain ⟨⟨y, hy, p⟩, -, g, l, kp⟩ := q
  exact ⟨y, hy, p, G.2.1.lo l kp (by decide +kernel), G.2.2.1.lo l kp (by decide +kernel), G.2.2.2.lo g l kp (by decide +kernel)⟩
/-! tax -/
def MdA_tax (a0 x : Int) (M1 : MM) : Prop := MdS_tax a0 x M1 ∧ rL M1 ∧ rN M1 ∧ GdH M1
theorem csA_tax {a0 : Int} (i0 : in32 a0) (G : GdA M) : CA FF sc YF 59 m_X11_tax [vr 0, vi a0] M (fun r M1 => ∃ x, r = vi x ∧ MdA_tax a0 x M1) := ((csS_tax i0 G.1).and fun n => PC.of (n := n) (cf_tax i0 G.1.1)).mono fun r M1 q => by
  obtain ⟨⟨x, hx, p⟩, -, g, u, kp⟩ := q
  exact ⟨x, hx, p, G.2.1.up u kp (by decide +kernel), G.2.2.1.up u kp (by decide +kernel), G.2.2.2.up g u kp (by decide +kernel)⟩
theorem msA_tax {a0 x : Int} (i0 : in32 a0) (G : MdA_tax a0 x M) : CA FF sc YF 59 m_X12_tax [vr 81, vi a0] M (fun r M1 => ∃ y, r = vi y ∧ GdA M1) := ((msS_tax i0 G.1).and fun n => PC.of (n := n) (mf_tax i0 G.2.2.2.1)).mono fun r M1 q => by
  obtain ⟨⟨y, hy, p⟩, -, g, l, kp⟩ := q
  exact ⟨y, hy, p, G.2.1.lo l kp (by decide +kernel), G.2.2.1.lo l kp (by decide +kernel), G.2.2.2.lo g l kp (by decide +kernel)⟩
/-! check -/
def MdA_check (a0 x : Int) (M1 : MM) : Prop := MdS_check a0 x M1 ∧ rL M1 ∧ rN M1 ∧ GdH M1
theorem csA_check {a0 : Int} (i0 : in32 a0) (G : GdA M) : CA FF sc YF 59 m_X11_check [vr 0, vi a0] M (fun r M1 => ∃ x, r = vi x ∧ MdA_check a0 x M1) := ((csS_check i0 G.1).and fun n => PC.of (n := n) (cf_check i0 G.1.1)).mono fun r M1 q => by
  obtain ⟨⟨x, hx, p⟩, -, g, u, kp⟩ := q
  exact ⟨x, hx, p, G.2.1.up u kp (by decide +kernel), G.2.2.1.up u kp (by decide +kernel), G.2.2.2.up g u kp (by decide +kernel)⟩
theorem msA_check {a0 x : Int} (i0 : in32 a0) (G : MdA_check a0 x M) : CA FF sc YF 59 m_X12_check [vr 81, vi a0] M (fun r M1 => ∃ y, r = vi y ∧ GdA M1) := ((msS_check i0 G.1).and fun n => PC.of (n := n) (mf_check i0 G.2.2.2.1)).mono fun r M1 q => by
  obtain ⟨⟨y, hy, p⟩, -, g, l, kp⟩ := q
  exact ⟨y, hy, p, G.2.1.lo l kp (by decide +kernel), G.2.2.1.lo l kp (by decide +kernel), G.2.2.2.lo g l kp (by decide +kernel)⟩
/-! law -/
def MdA_law (a0 x : Int) (M1 : MM) : Prop := MdS_law a0 x M1 ∧ MdL_law a0 M1 ∧ rN M1 ∧ GdH M1
theorem csA_law {a0 : Int} (i0 : in32 a0) (G : GdA M) : CA FF sc YF 59 m_X11_law [vr 0, vi a0] M (fun r M1 => ∃ x, r = vi x ∧ MdA_law a0 x M1) := ((csS_law i0 G.1).and fun n => (PC.of (n := n) (csL_law i0 G.1.t G.2.1)).and (PC.of (n := n) (cf_law i0 G.1.1))).mono fun r M1 q => by
  obtain ⟨⟨x, hx, p⟩, ⟨-, p2⟩, -, g, u, kp⟩ := q
  exact ⟨x, hx, p, p2, G.2.2.1.up u kp (by decide +kernel), G.2.2.2.up g u kp (by decide +kernel)⟩
theorem msA_law {a0 x : Int} (i0 : in32 a0) (G : MdA_law a0 x M) : CA FF sc YF 59 m_X12_law [vr 81, vi a0] M (fun r M1 => ∃ y, r = vi y ∧ GdA M1) := ((msS_law i0 G.1).and fun n => (PC.of (n := n) (msL_law i0 G.2.2.2.1 G.2.1)).and (PC.of (n := n) (mf_law i0 G.2.2.2.1))).mono fun r M1 q => by
  obtain ⟨⟨y, hy, p⟩, ⟨-, p2⟩, -, g, l, kp⟩ := q
  exact ⟨y, hy, p, p2, G.2.2.1.lo l kp (by decide +kernel), G.2.2.2.lo g l kp (by decide +kernel)⟩
/-! quarter -/
def MdA_quarter (a0 x : Int) (M1 : MM) : Prop := MdS_quarter a0 x M1 ∧ rL M1 ∧ MdN_quarter a0 M1 ∧ GdH M1
theorem csA_quarter {a0 : Int} (i0 : in32 a0) (G : GdA M) : CA FF sc YF 59 m_X11_quarter [vr 0, vi a0] M (fun r M1 => ∃ x, r = vi x ∧ MdA_quarter a0 x M1) := ((csS_quarter i0 G.1).and fun n => (PC.of (n := n) (csL_quarter i0 G.1.1 G.2.1)).and ((PC.of (n := n) (csN_quarter i0 G.1.t G.2.2.1)).and (PC.of (n := n) (csH_quarter i0 G.2.2.2)))).mono fun r M1 q => by
  obtain ⟨⟨x, hx, p⟩, ⟨-, p2⟩, ⟨-, p3⟩, ⟨x4, -, p4⟩⟩ := q
  exact ⟨x, hx, p, p2, p3, p4⟩
theorem msA_quarter {a0 x : Int} (i0 : in32 a0) (G : MdA_quarter a0 x M) : CA FF sc YF 59 m_X12_quarter [vr 81, vi a0] M (fun r M1 => ∃ y, r = vi y ∧ GdA M1) := ((msS_quarter i0 G.1).and fun n => (PC.of (n := n) (msL_quarter i0 G.2.2.2.1 G.2.1)).and ((PC.of (n := n) (msN_quarter i0 G.2.2.2.1 G.2.2.1)).and (PC.of (n := n) (msH_quarter (x := x) i0 G.2.2.2)))).mono fun r M1 q => by
  obtain ⟨⟨y, hy, p⟩, ⟨-, p2⟩, ⟨-, p3⟩, ⟨y4, -, p4⟩⟩ := q
  exact ⟨y, hy, p, p2, p3, p4⟩
/-! walk -/
def MdA_walk (a0 a1 x : Int) (M1 : MM) : Prop := MdS_walk a0 a1 x M1 ∧ rL M1 ∧ rN M1 ∧ GdH M1
theorem csA_walk {a0 a1 : Int} (i0 : in32 a0) (i1 : in32 a1) (G : GdA M) : CA FF sc YF 59 m_X11_walk [vr 0, vi a0, vi a1] M (fun r M1 => ∃ x, r = vi x ∧ MdA_walk a0 a1 x M1) := ((csS_walk i0 i1 G.1).and fun n => (PC.of (n := n) (csL_walk i0 i1 G.1.1 G.2.1)).and ((PC.of (n := n) (csN_walk i0 i1 G.1.1 G.2.2.1)).and (PC.of (n := n) (csH_walk i0 i1 G.2.2.2)))).mono fun r M1 q => by
  obtain ⟨⟨x, hx, p⟩, ⟨-, p2⟩, ⟨-, p3⟩, ⟨x4, -, p4⟩⟩ := q
  exact ⟨x, hx, p, p2, p3, p4⟩
theorem msA_walk {a0 a1 x : Int} (i0 : in32 a0) (i1 : in32 a1) (G : MdA_walk a0 a1 x M) : CA FF sc YF 59 m_X12_walk [vr 81, vi a0, vi a1] M (fun r M1 => ∃ y, r = vi y ∧ GdA M1) := ((msS_walk i0 i1 G.1).and fun n => (PC.of (n := n) (msL_walk i0 i1 G.2.2.2.1 G.2.1)).and ((PC.of (n := n) (msN_walk i0 i1 G.2.2.2.1 G.2.2.1)).and (PC.of (n := n) (msH_walk (x := x) i0 i1 G.2.2.2)))).mono fun r M1 q => by
  obtain ⟨⟨y, hy, p⟩, ⟨-, p2⟩, ⟨-, p3⟩, ⟨y4, -, p4⟩⟩ := q
  exact ⟨y, hy, p, p2, p3, p4⟩
/-! stranger -/
def MdA_stranger (a0 a1 a2 a3 x : Int) (M1 : MM) : Prop := GdS M1 ∧ rL M1 ∧ MdN_stranger a0 a1 a2 a3 M1 ∧ GdH M1
theorem csA_stranger {a0 a1 a2 a3 : Int} (i0 : in32 a0) (i1 : in32 a1) (i2 : in32 a2) (i3 : in32 a3) (G : GdA M) : CA FF sc YF 59 m_X11_stranger [vr 0, vi a0, vi a1, vi a2, vi a3] M (fun r M1 => ∃ x, r = vi x ∧ MdA_stranger a0 a1 a2 a3 x M1) := ((cdS (w := cw_stranger) G.1 (by decide +kernel) (cf_stranger i0 i1 i2 i3 G.1.1)).and fun n => (PC.of (n := n) (csN_stranger i0 i1 i2 i3 G.1.1 G.1.2.2.1 G.2.2.1)).and (PC.of (n := n) (cf_stranger i0 i1 i2 i3 G.1.1))).mono fun r M1 q => by
  obtain ⟨⟨x1, hx1, p⟩, ⟨⟨x, hx⟩, p3⟩, -, g, u, kp⟩ := q
  exact ⟨x, hx, p, G.2.1.up u kp (by decide +kernel), p3, G.2.2.2.up g u kp (by decide +kernel)⟩
theorem msA_stranger {a0 a1 a2 a3 x : Int} (i0 : in32 a0) (i1 : in32 a1) (i2 : in32 a2) (i3 : in32 a3) (G : MdA_stranger a0 a1 a2 a3 x M) : CA FF sc YF 59 m_X12_stranger [vr 81, vi a0, vi a1, vi a2, vi a3] M (fun r M1 => ∃ y, r = vi y ∧ GdA M1) := ((mdS (w := mw_stranger) G.1 (by decide +kernel) (mf_stranger i0 i1 i2 i3 G.1.1)).and fun n => (PC.of (n := n) (msN_stranger i0 i1 i2 i3 G.1.1 G.2.2.1)).and (PC.of (n := n) (mf_stranger i0 i1 i2 i3 G.1.1))).mono fun r M1 q => by
  obtain ⟨⟨y1, hy1, p⟩, ⟨⟨y, hy⟩, p3⟩, -, g, l, kp⟩ := q
  exact ⟨y, hy, p, G.2.1.lo l kp (by decide +kernel), p3, G.2.2.2.lo g l kp (by decide +kernel)⟩
/-! dog -/
def MdA_dog (a0 a1 x : Int) (M1 : MM) : Prop := GdS M1 ∧ rL M1 ∧ MdN_dog a0 a1 M1 ∧ GdH M1
theorem csA_dog {a0 a1 : Int} (i0 : in32 a0) (i1 : a1 = 0 ∨ a1 = 1) (G : GdA M) : CA FF sc YF 59 m_X11_dog [vr 0, vi a0, vi a1] M (fun r M1 => ∃ x, r = vi x ∧ MdA_dog a0 a1 x M1) := ((cdS (w := cw_dog) G.1 (by decide +kernel) (cf_dog i0 i1 G.1.1)).and fun n => (PC.of (n := n) (csN_dog i0 i1 G.1.1 G.2.2.1)).and (PC.of (n := n) (cf_dog i0 i1 G.1.1))).mono fun r M1 q => by
  obtain ⟨⟨x1, hx1, p⟩, ⟨⟨x, hx⟩, p3⟩, -, g, u, kp⟩ := q
  exact ⟨x, hx, p, G.2.1.up u kp (by decide +kernel), p3, G.2.2.2.up g u kp (by decide +kernel)⟩
theorem msA_dog {a0 a1 x : Int} (i0 : in32 a0) (i1 : a1 = 0 ∨ a1 = 1) (G : MdA_dog a0 a1 x M) : CA FF sc YF 59 m_X12_dog [vr 81, vi a0, vi a1] M (fun r M1 => ∃ y, r = vi y ∧ GdA M1) := ((mdS (w := mw_dog) G.1 (by decide +kernel) (mf_dog i0 i1 G.1.1)).and fun n => (PC.of (n := n) (msN_dog i0 i1 G.1.1 G.2.2.1)).and (PC.of (n := n) (mf_dog i0 i1 G.1.1))).mono fun r M1 q => by
  obtain ⟨⟨y1, hy1, p⟩, ⟨⟨y, hy⟩, p3⟩, -, g, l, kp⟩ := q
  exact ⟨y, hy, p, G.2.1.lo l kp (by decide +kernel), p3, G.2.2.2.lo g l kp (by decide +kernel)⟩
/-! tells -/
def MdA_tells (a0 x : Int) (M1 : MM) : Prop := GdS M1 ∧ rL M1 ∧ MdN_tells a0 x M1 ∧ GdH M1
theorem csA_tells {a0 : Int} (i0 : in32 a0) (G : GdA M) : CA FF sc YF 59 m_X11_tells [vr 0, vi a0] M (fun r M1 => ∃ x, r = vi x ∧ MdA_tells a0 x M1) := ((cdS (w := cw_tells) G.1 (by decide +kernel) (cf_tells i0 G.1.1)).and fun n => (PC.of (n := n) (csN_tells i0 G.1.1 G.2.2.1)).and (PC.of (n := n) (cf_tells i0 G.1.1))).mono fun r M1 q => by
  obtain ⟨⟨x1, hx1, p⟩, ⟨x, hx, p3⟩, -, g, u, kp⟩ := q
  exact ⟨x, hx, p, G.2.1.up u kp (by decide +kernel), p3, G.2.2.2.up g u kp (by decide +kernel)⟩
theorem msA_tells {a0 x : Int} (i0 : in32 a0) (G : MdA_tells a0 x M) : CA FF sc YF 59 m_X12_tells [vr 81, vi a0] M (fun r M1 => ∃ y, r = vi y ∧ GdA M1) := ((mdS (w := mw_tells) G.1 (by decide +kernel) (mf_tells i0 G.1.1)).and fun n => (PC.of (n := n) (msN_tells i0 G.1.1 G.2.2.1)).and (PC.of (n := n) (mf_tells i0 G.1.1))).mono fun r M1 q => by
  obtain ⟨⟨y1, hy1, p⟩, ⟨y, hy, p3, -⟩, -, g, l, kp⟩ := q
  exact ⟨y, hy, p, G.2.1.lo l kp (by decide +kernel), p3, G.2.2.2.lo g l kp (by decide +kernel)⟩
/-! haunts -/
def MdA_haunts (a0 x : Int) (M1 : MM) : Prop := GdS M1 ∧ rL M1 ∧ MdN_haunts a0 M1 ∧ GdH M1
theorem csA_haunts {a0 : Int} (i0 : in32 a0) (G : GdA M) : CA FF sc YF 59 m_X11_haunts [vr 0, vi a0] M (fun r M1 => ∃ x, r = vi x ∧ MdA_haunts a0 x M1) := ((cdS (w := cw_haunts) G.1 (by decide +kernel) (cf_haunts i0 G.1.1)).and fun n => (PC.of (n := n) (csN_haunts i0 G.1 G.2.1 G.2.2.1)).and (PC.of (n := n) (cf_haunts i0 G.1.1))).mono fun r M1 q => by
  obtain ⟨⟨x1, hx1, p⟩, ⟨⟨x, hx⟩, p3⟩, -, g, u, kp⟩ := q
  exact ⟨x, hx, p, G.2.1.up u kp (by decide +kernel), p3, G.2.2.2.up g u kp (by decide +kernel)⟩
theorem msA_haunts {a0 x : Int} (i0 : in32 a0) (G : MdA_haunts a0 x M) : CA FF sc YF 59 m_X12_haunts [vr 81, vi a0] M (fun r M1 => ∃ y, r = vi y ∧ GdA M1) := ((mdS (w := mw_haunts) G.1 (by decide +kernel) (mf_haunts i0 G.1.1)).and fun n => (PC.of (n := n) (msN_haunts i0 G.1.1 G.2.2.1)).and (PC.of (n := n) (mf_haunts i0 G.1.1))).mono fun r M1 q => by
  obtain ⟨⟨y1, hy1, p⟩, ⟨⟨y, hy⟩, p3⟩, -, g, l, kp⟩ := q
  exact ⟨y, hy, p, G.2.1.lo l kp (by decide +kernel), p3, G.2.2.2.lo g l kp (by decide +kernel)⟩
/-! goes -/
def MdA_goes (a0 a1 x : Int) (M1 : MM) : Prop := GdS M1 ∧ rL M1 ∧ MdN_goes a0 a1 x M1 ∧ GdH M1
theorem csA_goes {a0 a1 : Int} (i0 : in32 a0) (i1 : in32 a1) (G : GdA M) : CA FF sc YF 59 m_X11_goes [vr 0, vi a0, vi a1] M (fun r M1 => ∃ x, r = vi x ∧ MdA_goes a0 a1 x M1) := ((cdS (w := cw_goes) G.1 (by decide +kernel) (cf_goes i0 i1 G.1.1)).and fun n => (PC.of (n := n) (csN_goes i0 i1 G.1 G.2.1 G.2.2.1)).and (PC.of (n := n) (cf_goes i0 i1 G.1.1))).mono fun r M1 q => by
  obtain ⟨⟨x1, hx1, p⟩, ⟨x, hx, p3⟩, -, g, u, kp⟩ := q
  exact ⟨x, hx, p, G.2.1.up u kp (by decide +kernel), p3, G.2.2.2.up g u kp (by decide +kernel)⟩
theorem msA_goes {a0 a1 x : Int} (i0 : in32 a0) (i1 : in32 a1) (G : MdA_goes a0 a1 x M) : CA FF sc YF 59 m_X12_goes [vr 81, vi a0, vi a1] M (fun r M1 => ∃ y, r = vi y ∧ GdA M1) := ((mdS (w := mw_goes) G.1 (by decide +kernel) (mf_goes i0 i1 G.1.1)).and fun n => (PC.of (n := n) (msN_goes i0 i1 G.1.1 G.2.2.1)).and (PC.of (n := n) (mf_goes i0 i1 G.1.1))).mono fun r M1 q => by
  obtain ⟨⟨y1, hy1, p⟩, ⟨y, hy, p3, -⟩, -, g, l, kp⟩ := q
  exact ⟨y, hy, p, G.2.1.lo l kp (by decide +kernel), p3, G.2.2.2.lo g l kp (by decide +kernel)⟩
/-! seed -/
def MdA_seed (a0 x : Int) (M1 : MM) : Prop := GdS M1 ∧ rL M1 ∧ MdN_seed a0 M1 ∧ GdH M1
theorem csA_seed {a0 : Int} (i0 : in32 a0) (G : GdA M) : CA FF sc YF 59 m_X11_seed [vr 0, vi a0] M (fun r M1 => ∃ x, r = vi x ∧ MdA_seed a0 x M1) := ((cdS (w := cw_seed) G.1 (by decide +kernel) (cf_seed i0 G.1.1)).and fun n => (PC.of (n := n) (csN_seed i0 G.1.1 G.2.2.1)).and (PC.of (n := n) (cf_seed i0 G.1.1))).mono fun r M1 q => by
  obtain ⟨⟨x1, hx1, p⟩, ⟨⟨x, hx⟩, p3⟩, -, g, u, kp⟩ := q
  exact ⟨x, hx, p, G.2.1.up u kp (by decide +kernel), p3, G.2.2.2.up g u kp (by decide +kernel)⟩
theorem msA_seed {a0 x : Int} (i0 : in32 a0) (G : MdA_seed a0 x M) : CA FF sc YF 59 m_X12_seed [vr 81, vi a0] M (fun r M1 => ∃ y, r = vi y ∧ GdA M1) := ((mdS (w := mw_seed) G.1 (by decide +kernel) (mf_seed i0 G.1.1)).and fun n => (PC.of (n := n) (msN_seed i0 G.1.1 G.2.2.1)).and (PC.of (n := n) (mf_seed i0 G.1.1))).mono fun r M1 q => by
  obtain ⟨⟨y1, hy1, p⟩, ⟨⟨y, hy⟩, p3⟩, -, g, l, kp⟩ := q
  exact ⟨y, hy, p, G.2.1.lo l kp (by decide +kernel), p3, G.2.2.2.lo g l kp (by decide +kernel)⟩
/-! keep -/
def MdA_keep (x : Int) (M1 : MM) : Prop := GdS M1 ∧ rL M1 ∧ MdN_keep x M1 ∧ GdH M1
theorem csA_keep (G : GdA M) : CA FF sc YF 59 m_X11_keep [vr 0] M (fun r M1 => ∃ x, r = vi x ∧ MdA_keep x M1) := ((cdS (w := cw_keep) G.1 (by decide +kernel) (cf_keep G.1.1)).and fun n => (PC.of (n := n) (csN_keep G.1.1 G.2.2.1)).and (PC.of (n := n) (cf_keep G.1.1))).mono fun r M1 q => by
  obtain ⟨⟨x1, hx1, p⟩, ⟨x, hx, p3⟩, -, g, u, kp⟩ := q
  exact ⟨x, hx, p, G.2.1.up u kp (by decide +kernel), p3, G.2.2.2.up g u kp (by decide +kernel)⟩
theorem msA_keep {x : Int} (G : MdA_keep x M) : CA FF sc YF 59 m_X12_keep [vr 81] M (fun r M1 => ∃ y, r = vi y ∧ GdA M1) := ((mdS (w := mw_keep) G.1 (by decide +kernel) (mf_keep G.1.1)).and fun n => (PC.of (n := n) (msN_keep G.1.1 G.2.2.1)).and (PC.of (n := n) (mf_keep G.1.1))).mono fun r M1 q => by
  obtain ⟨⟨y1, hy1, p⟩, ⟨y, hy, p3, -⟩, -, g, l, kp⟩ := q
  exact ⟨y, hy, p, G.2.1.lo l kp (by decide +kernel), p3, G.2.2.2.lo g l kp (by decide +kernel)⟩
/-! undo -/
def MdA_undo (x : Int) (M1 : MM) : Prop := GdS M1 ∧ rL M1 ∧ MdN_undo M1 ∧ GdH M1
theorem csA_undo (G : GdA M) : CA FF sc YF 59 m_X11_undo [vr 0] M (fun r M1 => ∃ x, r = vi x ∧ MdA_undo x M1) := ((cdS (w := cw_undo) G.1 (by decide +kernel) (cf_undo G.1.1)).and fun n => (PC.of (n := n) (csN_undo G.1.1 G.2.2.1)).and (PC.of (n := n) (cf_undo G.1.1))).mono fun r M1 q => by
  obtain ⟨⟨x1, hx1, p⟩, ⟨⟨x, hx⟩, p3⟩, -, g, u, kp⟩ := q
  exact ⟨x, hx, p, G.2.1.up u kp (by decide +kernel), p3, G.2.2.2.up g u kp (by decide +kernel)⟩
theorem msA_undo {x : Int} (G : MdA_undo x M) : CA FF sc YF 59 m_X12_undo [vr 81] M (fun r M1 => ∃ y, r = vi y ∧ GdA M1) := ((mdS (w := mw_undo) G.1 (by decide +kernel) (mf_undo G.1.1)).and fun n => (PC.of (n := n) (msN_undo G.1.1 G.2.2.1)).and (PC.of (n := n) (mf_undo G.1.1))).mono fun r M1 q => by
  obtain ⟨⟨y1, hy1, p⟩, ⟨⟨y, hy⟩, p3⟩, -, g, l, kp⟩ := q
  exact ⟨y, hy, p, G.2.1.lo l kp (by decide +kernel), p3, G.2.2.2.lo g l kp (by decide +kernel)⟩
/-! tried -/
def MdA_tried (a0 a1 x : Int) (M1 : MM) : Prop := GdA M1
theorem csA_tried {a0 a1 : Int} (i0 : in32 a0) (i1 : in32 a1) (G : GdA M) : CA FF sc YF 59 m_X11_tried [vr 0, vi a0, vi a1] M (fun r M1 => ∃ x, r = vi x ∧ MdA_tried a0 a1 x M1) := (cdA (w := cw_tried) G (by decide +kernel) (cf_tried i0 i1 G.1.1)).mono fun r M1 q => by
  obtain ⟨x, hx, p, -⟩ := q
  exact ⟨x, hx, p⟩
theorem msA_tried {a0 a1 x : Int} (i0 : in32 a0) (i1 : in32 a1) (G : MdA_tried a0 a1 x M) : CA FF sc YF 59 m_X12_tried [vr 81, vi a0, vi a1] M (fun r M1 => ∃ y, r = vi y ∧ GdA M1) := ((mdS (w := mw_tried) G.1 (by decide +kernel) (mf_tried i0 i1 G.1.1)).and fun n => (PC.of (n := n) (msN_tried i0 i1 G.1.1 G.2.2.1)).and (PC.of (n := n) (mf_tried i0 i1 G.1.1))).mono fun r M1 q => by
  obtain ⟨⟨y1, hy1, p⟩, ⟨⟨y, hy⟩, p3⟩, -, g, l, kp⟩ := q
  exact ⟨_, hy, p, G.2.1.lo l kp (by decide +kernel), p3, G.2.2.2.lo g l kp (by decide +kernel)⟩
/-! feared -/
def MdA_feared (a0 a1 x : Int) (M1 : MM) : Prop := GdA M1
theorem csA_feared {a0 a1 : Int} (i0 : in32 a0) (i1 : in32 a1) (G : GdA M) : CA FF sc YF 59 m_X11_feared [vr 0, vi a0, vi a1] M (fun r M1 => ∃ x, r = vi x ∧ MdA_feared a0 a1 x M1) := (cdA (w := cw_feared) G (by decide +kernel) (cf_feared i0 i1 G.1.1)).mono fun r M1 q => by
  obtain ⟨x, hx, p, -⟩ := q
  exact ⟨x, hx, p⟩
theorem msA_feared {a0 a1 x : Int} (i0 : in32 a0) (i1 : in32 a1) (G : MdA_feared a0 a1 x M) : CA FF sc YF 59 m_X12_feared [vr 81, vi a0, vi a1] M (fun r M1 => ∃ y, r = vi y ∧ GdA M1) := ((mdS (w := mw_feared) G.1 (by decide +kernel) (mf_feared i0 i1 G.1.1)).and fun n => (PC.of (n := n) (msN_feared i0 i1 G.1.1 G.2.2.1)).and (PC.of (n := n) (mf_feared i0 i1 G.1.1))).mono fun r M1 q => by
  obtain ⟨⟨y1, hy1, p⟩, ⟨hy, p3⟩, -, g, l, kp⟩ := q
  exact ⟨_, hy, p, G.2.1.lo l kp (by decide +kernel), p3, G.2.2.2.lo g l kp (by decide +kernel)⟩
/-! hand -/
def MdA_hand (a0 a1 x : Int) (M1 : MM) : Prop := GdS M1 ∧ rL M1 ∧ rN M1 ∧ MdH_hand a0 a1 x M1
theorem csA_hand {a0 a1 : Int} (i0 : in32 a0) (i1 : in32 a1) (G : GdA M) : CA FF sc YF 59 m_X11_hand [vr 0, vi a0, vi a1] M (fun r M1 => ∃ x, r = vi x ∧ MdA_hand a0 a1 x M1) := ((csH_hand i0 i1 G.2.2.2).and fun n => (PC.of (n := n) (cdS (w := cw_hand) G.1 (by decide +kernel) (cf_hand i0 i1 G.1.1))).and (PC.of (n := n) (cf_hand i0 i1 G.1.1))).mono fun r M1 q => by
  obtain ⟨⟨x, hx, p4⟩, ⟨x1, hx1, p⟩, -, g, u, kp⟩ := q
  exact ⟨x, hx, p, G.2.1.up u kp (by decide +kernel), G.2.2.1.up u kp (by decide +kernel), p4⟩
theorem msA_hand {a0 a1 x : Int} (i0 : in32 a0) (i1 : in32 a1) (G : MdA_hand a0 a1 x M) : CA FF sc YF 59 m_X12_hand [vr 81, vi a0, vi a1] M (fun r M1 => ∃ y, r = vi y ∧ GdA M1) := ((msH_hand i0 i1 G.2.2.2).and fun n => (PC.of (n := n) (mdS (w := mw_hand) G.1 (by decide +kernel) (mf_hand i0 i1 G.1.1))).and (PC.of (n := n) (mf_hand i0 i1 G.1.1))).mono fun r M1 q => by
  obtain ⟨⟨y, hy, p4⟩, ⟨y1, hy1, p⟩, -, g, l, kp⟩ := q
  exact ⟨y, hy, p, G.2.1.lo l kp (by decide +kernel), G.2.2.1.lo l kp (by decide +kernel), p4⟩
/-! strangerIs -/
def MdA_strangerIs (a0 a1 x : Int) (M1 : MM) : Prop := GdA M1
theorem csA_strangerIs {a0 a1 : Int} (i0 : in32 a0) (i1 : in32 a1) (G : GdA M) : CA FF sc YF 59 m_X11_strangerIs [vr 0, vi a0, vi a1] M (fun r M1 => ∃ x, r = vi x ∧ MdA_strangerIs a0 a1 x M1) := (cdA (w := cw_strangerIs) G (by decide +kernel) (cf_strangerIs i0 i1 G.1.1)).mono fun r M1 q => by
  obtain ⟨x, hx, p, -⟩ := q
  exact ⟨x, hx, p⟩
theorem msA_strangerIs {a0 a1 x : Int} (i0 : in32 a0) (i1 : in32 a1) (G : MdA_strangerIs a0 a1 x M) : CA FF sc YF 59 m_X12_strangerIs [vr 81, vi a0, vi a1] M (fun r M1 => ∃ y, r = vi y ∧ GdA M1) := (mdA (w := mw_strangerIs) G (by decide +kernel) (mf_strangerIs i0 i1 G.1.1)).mono fun r M1 q => by
  obtain ⟨y, hy, p, -⟩ := q
  exact ⟨y, hy, p⟩
/-! houseIs -/
def MdA_houseIs (a0 a1 x : Int) (M1 : MM) : Prop := GdA M1
theorem csA_houseIs {a0 a1 : Int} (i0 : in32 a0) (i1 : in32 a1) (G : GdA M) : CA FF sc YF 59 m_X11_houseIs [vr 0, vi a0, vi a1] M (fun r M1 => ∃ x, r = vi x ∧ MdA_houseIs a0 a1 x M1) := (cdA (w := cw_houseIs) G (by decide +kernel) (cf_houseIs i0 i1 G.1.1)).mono fun r M1 q => by
  obtain ⟨x, hx, p, -⟩ := q
  exact ⟨x, hx, p⟩
theorem msA_houseIs {a0 a1 x : Int} (i0 : in32 a0) (i1 : in32 a1) (G : MdA_houseIs a0 a1 x M) : CA FF sc YF 59 m_X12_houseIs [vr 81, vi a0, vi a1] M (fun r M1 => ∃ y, r = vi y ∧ GdA M1) := (mdA (w := mw_houseIs) G (by decide +kernel) (mf_houseIs i0 i1 G.1.1)).mono fun r M1 q => by
  obtain ⟨y, hy, p, -⟩ := q
  exact ⟨y, hy, p⟩
/-! meet -/
def MdA_meet (a0 a1 a2 x : Int) (M1 : MM) : Prop := GdA M1
theorem csA_meet {a0 a1 a2 : Int} (i0 : in32 a0) (i1 : in32 a1) (i2 : in32 a2) (G : GdA M) : CA FF sc YF 59 m_X11_meet [vr 0, vi a0, vi a1, vi a2] M (fun r M1 => ∃ x, r = vi x ∧ MdA_meet a0 a1 a2 x M1) := (cdA (w := cw_meet) G (by decide +kernel) (cf_meet i0 i1 i2 G.1.1)).mono fun r M1 q => by
  obtain ⟨x, hx, p, -⟩ := q
  exact ⟨x, hx, p⟩
theorem msA_meet {a0 a1 a2 x : Int} (i0 : in32 a0) (i1 : in32 a1) (i2 : in32 a2) (G : MdA_meet a0 a1 a2 x M) : CA FF sc YF 59 m_X12_meet [vr 81, vi a0, vi a1, vi a2] M (fun r M1 => ∃ y, r = vi y ∧ GdA M1) := (mdA (w := mw_meet) G (by decide +kernel) (mf_meet i0 i1 i2 G.1.1)).mono fun r M1 q => by
  obtain ⟨y, hy, p, -⟩ := q
  exact ⟨y, hy, p⟩
/-! dread -/
def MdA_dread (a0 a1 a2 x : Int) (M1 : MM) : Prop := GdA M1
theorem csA_dread {a0 a1 a2 : Int} (i0 : in32 a0) (i1 : in32 a1) (i2 : in32 a2) (G : GdA M) : CA FF sc YF 59 m_X11_dread [vr 0, vi a0, vi a1, vi a2] M (fun r M1 => ∃ x, r = vi x ∧ MdA_dread a0 a1 a2 x M1) := (cdA (w := cw_dread) G (by decide +kernel) (cf_dread i0 i1 i2 G.1.1)).mono fun r M1 q => by
  obtain ⟨x, hx, p, -⟩ := q
  exact ⟨x, hx, p⟩
theorem msA_dread {a0 a1 a2 x : Int} (i0 : in32 a0) (i1 : in32 a1) (i2 : in32 a2) (G : MdA_dread a0 a1 a2 x M) : CA FF sc YF 59 m_X12_dread [vr 81, vi a0, vi a1, vi a2] M (fun r M1 => ∃ y, r = vi y ∧ GdA M1) := (mdA (w := mw_dread) G (by decide +kernel) (mf_dread i0 i1 i2 G.1.1)).mono fun r M1 q => by
  obtain ⟨y, hy, p, -⟩ := q
  exact ⟨y, hy, p⟩
/-! unseen -/
def MdA_unseen (a0 a1 a2 x : Int) (M1 : MM) : Prop := GdA M1
theorem csA_unseen {a0 a1 a2 : Int} (i0 : in32 a0) (i1 : in32 a1) (i2 : in32 a2) (G : GdA M) : CA FF sc YF 59 m_X11_unseen [vr 0, vi a0, vi a1, vi a2] M (fun r M1 => ∃ x, r = vi x ∧ MdA_unseen a0 a1 a2 x M1) := (cdA (w := cw_unseen) G (by decide +kernel) (cf_unseen i0 i1 i2 G.1.1)).mono fun r M1 q => by
  obtain ⟨x, hx, p, -⟩ := q
  exact ⟨x, hx, p⟩
theorem msA_unseen {a0 a1 a2 x : Int} (i0 : in32 a0) (i1 : in32 a1) (i2 : in32 a2) (G : MdA_unseen a0 a1 a2 x M) : CA FF sc YF 59 m_X12_unseen [vr 81, vi a0, vi a1, vi a2] M (fun r M1 => ∃ y, r = vi y ∧ GdA M1) := (mdA (w := mw_unseen) G (by decide +kernel) (mf_unseen i0 i1 i2 G.1.1)).mono fun r M1 q => by
  obtain ⟨y, hy, p, -⟩ := q
  exact ⟨y, hy, p⟩
/-! watch -/
def MdA_watch (a0 x : Int) (M1 : MM) : Prop := GdA M1
theorem csA_watch {a0 : Int} (i0 : in32 a0) (G : GdA M) : CA FF sc YF 59 m_X11_watch [vr 0, vi a0] M (fun r M1 => ∃ x, r = vi x ∧ MdA_watch a0 x M1) := (cdA (w := cw_watch) G (by decide +kernel) (cf_watch i0 G.1.1)).mono fun r M1 q => by
  obtain ⟨x, hx, p, -⟩ := q
  exact ⟨x, hx, p⟩
theorem msA_watch {a0 x : Int} (i0 : in32 a0) (G : MdA_watch a0 x M) : CA FF sc YF 59 m_X12_watch [vr 81, vi a0] M (fun r M1 => ∃ y, r = vi y ∧ GdA M1) := (mdA (w := mw_watch) G (by decide +kernel) (mf_watch i0 G.1.1)).mono fun r M1 q => by
  obtain ⟨y, hy, p, -⟩ := q
  exact ⟨y, hy, p⟩
/-! rotas -/
def MdA_rotas (a0 a1 a2 a3 x : Int) (M1 : MM) : Prop := GdA M1
theorem csA_rotas {a0 a1 a2 a3 : Int} (i0 : in32 a0) (i1 : in32 a1) (i2 : in32 a2) (i3 : in32 a3) (G : GdA M) : CA FF sc YF 59 m_X11_rotas [vr 0, vi a0, vi a1, vi a2, vi a3] M (fun r M1 => ∃ x, r = vi x ∧ MdA_rotas a0 a1 a2 a3 x M1) := (cdA (w := cw_rotas) G (by decide +kernel) (cf_rotas i0 i1 i2 i3 G.1.1)).mono fun r M1 q => by
  obtain ⟨x, hx, p, -⟩ := q
  exact ⟨x, hx, p⟩
theorem msA_rotas {a0 a1 a2 a3 x : Int} (i0 : in32 a0) (i1 : in32 a1) (i2 : in32 a2) (i3 : in32 a3) (G : MdA_rotas a0 a1 a2 a3 x M) : CA FF sc YF 59 m_X12_rotas [vr 81, vi a0, vi a1, vi a2, vi a3] M (fun r M1 => ∃ y, r = vi y ∧ GdA M1) := (mdA (w := mw_rotas) G (by decide +kernel) (mf_rotas i0 i1 i2 i3 G.1.1)).mono fun r M1 q => by
  obtain ⟨y, hy, p, -⟩ := q
  exact ⟨y, hy, p⟩
/-! odds -/
def MdA_odds (a0 a1 a2 x : Int) (M1 : MM) : Prop := GdA M1
theorem csA_odds {a0 a1 a2 : Int} (i0 : in32 a0) (i1 : in32 a1) (i2 : in32 a2) (G : GdA M) : CA FF sc YF 59 m_X11_odds [vr 0, vi a0, vi a1, vi a2] M (fun r M1 => ∃ x, r = vl x ∧ MdA_odds a0 a1 a2 x M1) := (cdAL (w := cw_odds) G (by decide +kernel) (cf_odds i0 i1 i2 G.1.1)).mono fun r M1 q => by
  obtain ⟨x, hx, p, -⟩ := q
  exact ⟨x, hx, p⟩
theorem msA_odds {a0 a1 a2 x : Int} (i0 : in32 a0) (i1 : in32 a1) (i2 : in32 a2) (G : MdA_odds a0 a1 a2 x M) : CA FF sc YF 59 m_X12_odds [vr 81, vi a0, vi a1, vi a2] M (fun r M1 => ∃ y, r = vl y ∧ GdA M1) := (mdAL (w := mw_odds) G (by decide +kernel) (mf_odds i0 i1 i2 G.1.1)).mono fun r M1 q => by
  obtain ⟨y, hy, p, -⟩ := q
  exact ⟨y, hy, p⟩
/-! watered -/
def MdA_watered (a0 x : Int) (M1 : MM) : Prop := GdA M1
theorem csA_watered {a0 : Int} (i0 : in32 a0) (G : GdA M) : CA FF sc YF 59 m_X11_watered [vr 0, vi a0] M (fun r M1 => ∃ x, r = vi x ∧ MdA_watered a0 x M1) := (cdA (w := cw_watered) G (by decide +kernel) (cf_watered i0 G.1.1)).mono fun r M1 q => by
  obtain ⟨x, hx, p, -⟩ := q
  exact ⟨x, hx, p⟩
theorem msA_watered {a0 x : Int} (i0 : in32 a0) (G : MdA_watered a0 x M) : CA FF sc YF 59 m_X12_watered [vr 81, vi a0] M (fun r M1 => ∃ y, r = vi y ∧ GdA M1) := (mdA (w := mw_watered) G (by decide +kernel) (mf_watered i0 G.1.1)).mono fun r M1 q => by
  obtain ⟨y, hy, p, -⟩ := q
  exact ⟨y, hy, p⟩
/-! ledger -/
def MdA_ledger (a0 a1 a2 a3 x : Int) (M1 : MM) : Prop := GdA M1
theorem csA_ledger {a0 a1 a2 a3 : Int} (i0 : in32 a0) (i1 : in32 a1) (i2 : in32 a2) (i3 : in32 a3) (G : GdA M) : CA FF sc YF 59 m_X11_ledger [vr 0, vi a0, vi a1, vi a2, vi a3] M (fun r M1 => ∃ x, r = vi x ∧ MdA_ledger a0 a1 a2 a3 x M1) := (cdA (w := cw_ledger) G (by decide +kernel) (cf_ledger i0 i1 i2 i3 G.1.1)).mono fun r M1 q => by
  obtain ⟨x, hx, p, -⟩ := q
  exact ⟨x, hx, p⟩
theorem msA_ledger {a0 a1 a2 a3 x : Int} (i0 : in32 a0) (i1 : in32 a1) (i2 : in32 a2) (i3 : in32 a3) (G : MdA_ledger a0 a1 a2 a3 x M) : CA FF sc YF 59 m_X12_ledger [vr 81, vi a0, vi a1, vi a2, vi a3] M (fun r M1 => ∃ y, r = vi y ∧ GdA M1) := (mdA (w := mw_ledger) G (by decide +kernel) (mf_ledger i0 i1 i2 i3 G.1.1)).mono fun r M1 q => by
  obtain ⟨y, hy, p, -⟩ := q
  exact ⟨y, hy, p⟩
/-! count -/
def MdA_count (a0 x : Int) (M1 : MM) : Prop := GdA M1
theorem csA_count {a0 : Int} (i0 : in32 a0) (G : GdA M) : CA FF sc YF 59 m_X11_count [vr 0, vi a0] M (fun r M1 => ∃ x, r = vi x ∧ MdA_count a0 x M1) := (cdA (w := cw_count) G (by decide +kernel) (cf_count i0 G.1.1)).mono fun r M1 q => by
  obtain ⟨x, hx, p, -⟩ := q
  exact ⟨x, hx, p⟩
theorem msA_count {a0 x : Int} (i0 : in32 a0) (G : MdA_count a0 x M) : CA FF sc YF 59 m_X12_count [vr 81, vi a0] M (fun r M1 => ∃ y, r = vi y ∧ GdA M1) := (mdA (w := mw_count) G (by decide +kernel) (mf_count i0 G.1.1)).mono fun r M1 q => by
  obtain ⟨y, hy, p, -⟩ := q
  exact ⟨y, hy, p⟩
end AAM
