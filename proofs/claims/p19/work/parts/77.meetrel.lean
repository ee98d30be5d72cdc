/-! PART 77: the two objects between calls: tapes, towns, walks are alike, no two houses on one spot; meet -/
def kUc : Nat := 9745314011399999080881676919010853557257205546429999094592725085275045760320341692327346897499553872697893636989425506214357244254582167620505870638049453072691242922914199280439658159905252170765690051591007151714998760699932857375841990284494534723033626011938616534653063760633864912896
def kUm : Nat := 46436053409437970216064827397956093465485056418157071193384758015680077810778602858695183021101216537973121391581708904669398872415631917257655995276945089935960992682578395209325367050070305797775451095219270174695743536892685766537209574183076333010723126896605760281085438365210687265266164414916329004121099498933703820150027511085316597976820248000594774113149556774516294405324741804422975597632480186516543030529094928740958567697700423517044046033344164647940905374489599304979605867522578900022774117609221802445917254265811730705256114123845344572151800498810620010959193191984638409744394372099129643273481692595882621437097047226159603938212439287900379874553671010852827191424585365130619684146957632012589923613466245780952019515972520670141465749406936804040267125186932886935464361912725931321468015834239844851613513826439055734973415240532924188153666579309601851360876733073884633244974314589921916113361011518638016906374534856696405943227517045569947904634411066373997464866543400437825516866955187273588814181097505332594859468503653347945751845099154823688790623099762847161549017313688984209590512420394314174697348944082206194097998806981436931783034341980881310290681291582232837123664738373332471139418115117793390047875796325415490478846084221038863842188218103282106525109902485531618001917015827116262836332713234034484538320286228474774399141274428771450094410267361316138431672378149691685736906254224910562067181572701878396156566329803783768604037411243823763494534064387564904227969094306889383467014394864395785969202649045015992917104855959968778995298753983610759350427825207903587483830427823154109599775131701778243403544204881291609582485913057108659791218550264986580549632
def kXc : Nat := 56616434707392290496899791761750213708794132225520947756589587810060350089228115350204723470846665934767571035988413721131260037953423896292657107871682056346434230094812076557951759809781228736297164267694341083073694214142730570710520469108988023996098802222236768804629665055672002531537641938079987748315710132057340259909747024198056874187239804722051311663792825653846616339737673448544650371941737121651247174522008639333136862442711576138482900759833454879355946307009744109799418258074306212696993365849685101916344962913357324506830934263294015378550722303723053319705243945508141764146541097124703659425212001855871331963330248586659857112827390998596846125306576882418399546201612780511343241748365373298154021091082133479649184426517490989751035864355302115578296154958081298108013985597169424815154819512683953397702612905793430135291677119604761831754238154679609777615811660399608544584161100385098026734942226340182576518030302772985892559174642979680338731859442733965873146203103948882930992682280811765658936321188695087766345802711304701476163409131105024029646586235530353906642782181064978160444831114094490862584786490897183555055738591258270446141856826578885890785454123596728433501012992
def kXm : Nat := 856593993037010096081673405605583246892168619266599802746608271335474480872130450332479533423635473610601792972649126646113817728542406145007533284368032509067418276652553220673017013909566186537395553361837464419280894210202065889981674781576783246865661361657768872441435435807715924984963513178661046219512364395663099432256344395915311649168515161540209477362307396270360956140681470302105932118092776559730067154049385518986183989899990625127662879421828839116954890583194686394854578085593579057900110676716659672370477541773226000354687238890216684343885961258625499953089516138556780118867238242536904199210663943717357359981728966359163096189379226202408749883145507712375723741114382976760292154109126553465777130026306352741590171779878544089246026367701983216107156134945401220177162153892436640855652509580814502511764603231498991769799912247161952501326270424808214869209689774424136235688835419441129247694986666398092629591835711990665489409451357699387467193347783313385064904088881912459316289550203145488384980957905702465011821256718077901717194472079572413069613309153148532960279332310401187690627428508855851856139735215072947473325559543407586422691371536227098826507705194441445697883980091653918400075133133936816407849619304237036358887570973491746802672423347730453659998555035164876745708224720882383032643061617712374189045580650505517885650850708765064921373789828825458866982745149348816439210291627043837220222780680338717377644948022749860460457131892423224696783428625106798578185365834935787867502771397915558167189089454767965122714486031072588735408076501046059399637129785381607886147492605646652040446595223485011730982588160441045487923716921369534657515958445828080654028405291734111809961984
/-- the walks are alike -/
def rK1 (M : MM) (h : Nat) : Prop := M 4 h = M 88 h ∧ ∀ i : Nat, (i : Int) < M 88 h → M (6 + h) i = M 89 (60 * h + i)
def rK (M : MM) : Prop := ∀ h, h < 10 → rK1 M h
/-- no two houses on one spot -/
def rD (M : MM) : Prop := ∀ g g' : Nat, g < 10 → g' < 10 → g ≠ g' → 0 ≤ M 86 g → M 86 g ≠ M 86 g'
section TXM
variable {sc : List Int} {M M1 : MM}
theorem rK.eq (V : rK M) (h4 : M1 4 = M 4) (h6 : ∀ h, h < 10 → M1 (6 + h) = M (6 + h)) (h88 : ∀ j, M1 88 j = M 88 j) (h89 : ∀ j, M1 89 j = M 89 j) : rK M1 := fun h hh => ⟨by rw [h4, h88]; exact (V h hh).1, fun i hi => by
  rw [h6 h hh, h89]
  rw [h88] at hi
  exact (V h hh).2 i hi⟩
theorem rD.eq (V : rD M) (h86 : ∀ j, M1 86 j = M 86 j) : rD M1 := fun g g' h1 h2 h3 h4 => by
  rw [h86, h86]
  rw [h86] at h4
  exact V g g' h1 h2 h3 h4
theorem t6 : ∀ h, h < 10 → kUc.testBit (64 * (6 + h)) = true ∧ ai_un ax_T (6 + h) = true := by decide +kernel
theorem rK.up {w : Nat} (V : rK M) (u : UpX M M1) (kp : Keep w M M1) (e : kUc &&& w = kUc) : rK M1 := by
  have k := kp.w e
  exact V.eq (k.a rfl (by decide +kernel)) (fun h hh => k.a (t6 h hh).2 (t6 h hh).1) (u 88 (by decide)) (u 89 (by decide))
theorem rK.lo {w : Nat} (V : rK M) (l : LoX M M1) (kp : Keep w M M1) (e : kUm &&& w = kUm) : rK M1 := by
  have k := kp.w e
  exact V.eq (funext fun j => l 4 (by decide) j (.inl rfl)) (fun h hh => funext fun j => l (6 + h) (by omega) j (.inl (t6 h hh).2)) (fun j => congrFun (k.a rfl (by decide +kernel)) j) (fun j => congrFun (k.a rfl (by decide +kernel)) j)
theorem rD.up (V : rD M) (u : UpX M M1) : rD M1 := V.eq (u 86 (by decide))
theorem rD.lo {w : Nat} (V : rD M) (kp : Keep w M M1) (e : kVm &&& w = kVm) : rD M1 := V.eq fun j => congrFun ((kp.w e).a rfl (by decide +kernel)) j
def GdX (M : MM) : Prop := axG M ∧ rT M ∧ rW M ∧ rK M ∧ rD M
theorem GdX.w (G : GdX M) : GdW M := ⟨G.1, G.2.1, G.2.2.1⟩
theorem gd_freshX {M : MM} (hC : FrC M) (hM : FrM M) (hz : ∀ k, 121 ≤ k → ∀ j, M k j = 0) (hI : Inv FF YF M) : GdX M := by
  have g := gd_freshW hC hM hz hI
  have e88 : ∀ h, M 88 h = 0 := fun h => hM.at 88 h 0 (by decide) rfl
  have e86 : ∀ j, j < 10 → M0 86 j < 0 := by decide +kernel
  exact ⟨g.1, g.2.1, g.2.2, fun h _ => ⟨by rw [e88]; exact hC.at 4 h 0 (by decide) rfl, fun i hi => by rw [e88] at hi; omega⟩, fun g1 g' h1 h2 h3 h4 => by
    have := e86 g1 h1
    rw [hM.at 86 g1 _ (by decide) rfl] at h4
    omega⟩
theorem cdX {w m : Nat} {as : List Vv} (G : GdX M) (e : kXc &&& w = kXc) (h : CA FF sc YF 59 m as M (cxF w M)) : CA FF sc YF 59 m as M (fun r M1 => ∃ x, r = vi x ∧ GdX M1) := h.mono fun r M1 q => by
  obtain ⟨⟨x, hx⟩, g, u, kp⟩ := q
  have kp := kp.w e
  have G2 := G.w.t.up g u kp (by decide +kernel)
  exact ⟨x, hx, G2.1, G2.2, G.2.2.1.up u kp (by decide +kernel), G.2.2.2.1.up u kp (by decide +kernel), G.2.2.2.2.up u⟩
theorem mdX {w m : Nat} {as : List Vv} (G : GdX M) (e : kXm &&& w = kXm) (h : CA FF sc YF 59 m as M (mxF w M)) : CA FF sc YF 59 m as M (fun r M1 => ∃ x, r = vi x ∧ GdX M1) := h.mono fun r M1 q => by
  obtain ⟨⟨x, hx⟩, g, l, kp⟩ := q
  have kp := kp.w e
  have G2 := G.w.t.lo g l kp (by decide +kernel)
  exact ⟨x, hx, G2.1, G2.2, G.2.2.1.lo l kp (by decide +kernel), G.2.2.2.1.lo l kp (by decide +kernel), G.2.2.2.2.lo kp (by decide +kernel)⟩
theorem cdXL {w m : Nat} {as : List Vv} (G : GdX M) (e : kXc &&& w = kXc) (h : CA FF sc YF 59 m as M (cxFL w M)) : CA FF sc YF 59 m as M (fun r M1 => ∃ x, r = vl x ∧ GdX M1) := h.mono fun r M1 q => by
  obtain ⟨⟨x, hx⟩, g, u, kp⟩ := q
  have kp := kp.w e
  have G2 := G.w.t.up g u kp (by decide +kernel)
  exact ⟨x, hx, G2.1, G2.2, G.2.2.1.up u kp (by decide +kernel), G.2.2.2.1.up u kp (by decide +kernel), G.2.2.2.2.up u⟩
theorem mdXL {w m : Nat} {as : List Vv} (G : GdX M) (e : kXm &&& w = kXm) (h : CA FF sc YF 59 m as M (mxFL w M)) : CA FF sc YF 59 m as M (fun r M1 => ∃ x, r = vl x ∧ GdX M1) := h.mono fun r M1 q => by
  obtain ⟨⟨x, hx⟩, g, l, kp⟩ := q
  have kp := kp.w e
  have G2 := G.w.t.lo g l kp (by decide +kernel)
  exact ⟨x, hx, G2.1, G2.2, G.2.2.1.lo l kp (by decide +kernel), G.2.2.2.1.lo l kp (by decide +kernel), G.2.2.2.2.lo kp (by decide +kernel)⟩
/-! feed -/
def MdX_feed (a0 a1 a2 a3 a4 x : Int) (M1 : MM) : Prop := MdW_feed a0 a1 a2 a3 a4 x M1 ∧ rK M1 ∧ rD M1
theorem csX_feed {a0 a1 a2 a3 a4 : Int} (i0 : in32 a0) (i1 : in32 a1) (i2 : in32 a2) (i3 : in32 a3) (i4 : in32 a4) (G : GdX M) : CA FF sc YF 59 m_X11_feed [vr 0, vi a0, vi a1, vi a2, vi a3, vi a4] M (fun r M1 => ∃ x, r = vi x ∧ MdX_feed a0 a1 a2 a3 a4 x M1) := ((csW_feed i0 i1 i2 i3 i4 G.w).and fun _ => PC.of (cf_feed i0 i1 i2 i3 i4 G.1)).mono fun r M1 q => by
  obtain ⟨⟨x, hx, p⟩, -, -, u, kp⟩ := q
  exact ⟨x, hx, p, G.2.2.2.1.up u kp (by decide +kernel), G.2.2.2.2.up u⟩
theorem msX_feed {a0 a1 a2 a3 a4 x : Int} (i0 : in32 a0) (i1 : in32 a1) (i2 : in32 a2) (i3 : in32 a3) (i4 : in32 a4) (G : MdX_feed a0 a1 a2 a3 a4 x M) : CA FF sc YF 59 m_X12_feed [vr 81, vi a0, vi a1, vi a2, vi a3, vi a4] M (fun r M1 => ∃ y, r = vi y ∧ GdX M1) := ((msW_feed i0 i1 i2 i3 i4 G.1).and fun _ => PC.of (mf_feed i0 i1 i2 i3 i4 G.1.1.1)).mono fun r M1 q => by
  obtain ⟨⟨y, hy, p⟩, -, -, l, kp⟩ := q
  exact ⟨y, hy, p.1, p.2.1, p.2.2, G.2.1.lo l kp (by decide +kernel), G.2.2.lo kp (by decide +kernel)⟩
/-! law -/
def MdX_law (a0 x : Int) (M1 : MM) : Prop := MdW_law a0 x M1 ∧ rK M1 ∧ rD M1
theorem csX_law {a0 : Int} (i0 : in32 a0) (G : GdX M) : CA FF sc YF 59 m_X11_law [vr 0, vi a0] M (fun r M1 => ∃ x, r = vi x ∧ MdX_law a0 x M1) := ((csW_law i0 G.w).and fun _ => PC.of (cf_law i0 G.1)).mono fun r M1 q => by
  obtain ⟨⟨x, hx, p⟩, -, -, u, kp⟩ := q
  exact ⟨x, hx, p, G.2.2.2.1.up u kp (by decide +kernel), G.2.2.2.2.up u⟩
theorem msX_law {a0 x : Int} (i0 : in32 a0) (G : MdX_law a0 x M) : CA FF sc YF 59 m_X12_law [vr 81, vi a0] M (fun r M1 => ∃ y, r = vi y ∧ GdX M1) := ((msW_law i0 G.1).and fun _ => PC.of (mf_law i0 G.1.1.1)).mono fun r M1 q => by
  obtain ⟨⟨y, hy, p⟩, -, -, l, kp⟩ := q
  exact ⟨y, hy, p.1, p.2.1, p.2.2, G.2.1.lo l kp (by decide +kernel), G.2.2.lo kp (by decide +kernel)⟩
/-! sightings -/
def MdX_sightings (a0 a1 x : Int) (M1 : MM) : Prop := MdW_sightings a0 a1 x M1 ∧ rK M1 ∧ rD M1
theorem csX_sightings {a0 a1 : Int} (i0 : in32 a0) (i1 : in32 a1) (G : GdX M) : CA FF sc YF 59 m_X11_sightings [vr 0, vi a0, vi a1] M (fun r M1 => ∃ x, r = vi x ∧ MdX_sightings a0 a1 x M1) := ((csW_sightings i0 i1 G.w).and fun _ => PC.of (cf_sightings i0 i1 G.1)).mono fun r M1 q => by
  obtain ⟨⟨x, hx, p⟩, -, -, u, kp⟩ := q
  exact ⟨x, hx, p, G.2.2.2.1.up u kp (by decide +kernel), G.2.2.2.2.up u⟩
theorem msX_sightings {a0 a1 x : Int} (i0 : in32 a0) (i1 : in32 a1) (G : MdX_sightings a0 a1 x M) : CA FF sc YF 59 m_X12_sightings [vr 81, vi a0, vi a1] M (fun r M1 => ∃ y, r = vi y ∧ GdX M1) := ((msW_sightings i0 i1 G.1).and fun _ => PC.of (mf_sightings i0 i1 G.1.1.1)).mono fun r M1 q => by
  obtain ⟨⟨y, hy, p⟩, -, -, l, kp⟩ := q
  exact ⟨y, hy, p.1, p.2.1, p.2.2, G.2.1.lo l kp (by decide +kernel), G.2.2.lo kp (by decide +kernel)⟩
/-! tax -/
def MdX_tax (a0 x : Int) (M1 : MM) : Prop := MdW_tax a0 x M1 ∧ rK M1 ∧ rD M1
theorem csX_tax {a0 : Int} (i0 : in32 a0) (G : GdX M) : CA FF sc YF 59 m_X11_tax [vr 0, vi a0] M (fun r M1 => ∃ x, r = vi x ∧ MdX_tax a0 x M1) := ((csW_tax i0 G.w).and fun _ => PC.of (cf_tax i0 G.1)).mono fun r M1 q => by
  obtain ⟨⟨x, hx, p⟩, -, -, u, kp⟩ := q
  exact ⟨x, hx, p, G.2.2.2.1.up u kp (by decide +kernel), G.2.2.2.2.up u⟩
theorem msX_tax {a0 x : Int} (i0 : in32 a0) (G : MdX_tax a0 x M) : CA FF sc YF 59 m_X12_tax [vr 81, vi a0] M (fun r M1 => ∃ y, r = vi y ∧ GdX M1) := ((msW_tax i0 G.1).and fun _ => PC.of (mf_tax i0 G.1.1.1)).mono fun r M1 q => by
  obtain ⟨⟨y, hy, p⟩, -, -, l, kp⟩ := q
  exact ⟨y, hy, p.1, p.2.1, p.2.2, G.2.1.lo l kp (by decide +kernel), G.2.2.lo kp (by decide +kernel)⟩
/-! check -/
def MdX_check (a0 x : Int) (M1 : MM) : Prop := MdW_check a0 x M1 ∧ rK M1 ∧ rD M1
theorem csX_check {a0 : Int} (i0 : in32 a0) (G : GdX M) : CA FF sc YF 59 m_X11_check [vr 0, vi a0] M (fun r M1 => ∃ x, r = vi x ∧ MdX_check a0 x M1) := ((csW_check i0 G.w).and fun _ => PC.of (cf_check i0 G.1)).mono fun r M1 q => by
  obtain ⟨⟨x, hx, p⟩, -, -, u, kp⟩ := q
  exact ⟨x, hx, p, G.2.2.2.1.up u kp (by decide +kernel), G.2.2.2.2.up u⟩
theorem msX_check {a0 x : Int} (i0 : in32 a0) (G : MdX_check a0 x M) : CA FF sc YF 59 m_X12_check [vr 81, vi a0] M (fun r M1 => ∃ y, r = vi y ∧ GdX M1) := ((msW_check i0 G.1).and fun _ => PC.of (mf_check i0 G.1.1.1)).mono fun r M1 q => by
  obtain ⟨⟨y, hy, p⟩, -, -, l, kp⟩ := q
  exact ⟨y, hy, p.1, p.2.1, p.2.2, G.2.1.lo l kp (by decide +kernel), G.2.2.lo kp (by decide +kernel)⟩
/-! quarter -/
def injH (H : Nat → Int) : Prop := ∀ g g' : Nat, g < 10 → g' < 10 → g ≠ g' → H g ≠ -1 → H g ≠ H g'
theorem qp_inj {c : Int} {dg p x y : Nat} {K H : Nat → Int} (hx : x + dg ≤ 8) (hb : ∀ g, g < 10 → H g = -1 ∨ (0 ≤ H g ∧ H g < ((8 * y + x : Nat) : Int))) (hj : injH H) : (qp c dg p x y K H).2.2.2 ≤ 8 ∧ (∀ g, g < 10 → (qp c dg p x y K H).2.2.1 g = -1 ∨ (0 ≤ (qp c dg p x y K H).2.2.1 g ∧ (qp c dg p x y K H).2.2.1 g < ((8 * y + (qp c dg p x y K H).2.2.2 : Nat) : Int))) ∧ injH (qp c dg p x y K H).2.2.1 := by
  unfold qp
  split
  · split
    · exact ⟨by show x ≤ 8; omega, hb, hj⟩
    · split
      · exact ⟨by show x ≤ 8; omega, hb, hj⟩
      · split
        · exact ⟨by show x ≤ 8; omega, hb, hj⟩
        · refine ⟨by show x + 1 ≤ 8; omega, fun g hg => ?_, fun g g' h1 h2 h3 h4 => ?_⟩
          · show upK H _ 1 ((8 * y + x : Nat) : Int) g = -1 ∨ (0 ≤ upK H _ 1 ((8 * y + x : Nat) : Int) g ∧ upK H _ 1 ((8 * y + x : Nat) : Int) g < ((8 * y + (x + 1) : Nat) : Int))
            unfold upK
            split
            · exact .inr (by omega)
            · rcases hb g hg with q | q
              · exact .inl q
              · exact .inr (by omega)
          · have h4 : upK H (c - 97).toNat 1 ((8 * y + x : Nat) : Int) g ≠ -1 := h4
            show upK H (c - 97).toNat 1 ((8 * y + x : Nat) : Int) g ≠ upK H (c - 97).toNat 1 ((8 * y + x : Nat) : Int) g'
            unfold upK at h4 ⊢
            have b1 := hb g h1
            have b2 := hb g' h2
            have b3 := hj g g' h1 h2 h3
            split
            · split
              · omega
              · omega
            · rename_i n1
              rw [if_neg n1] at h4
              split
              · omega
              · exact b3 h4
  · split
    · split
      · exact ⟨by show x ≤ 8; omega, hb, hj⟩
      · refine ⟨by show x + (if dg = 0 then 1 else dg) ≤ 8; split <;> omega, fun g hg => ?_, hj⟩
        show H g = -1 ∨ (0 ≤ H g ∧ H g < ((8 * y + (x + (if dg = 0 then 1 else dg)) : Nat) : Int))
        rcases hb g hg with q | q
        · exact .inl q
        · exact .inr (by split <;> omega)
    · exact ⟨by show x ≤ 8; omega, hb, hj⟩
theorem qz_inj {t : Nat → Int} {N : Nat} : ∀ (m p dg x y : Nat) (K H : Nat → Int), x + dg ≤ 8 → (∀ g, g < 10 → H g = -1 ∨ (0 ≤ H g ∧ H g < ((8 * y + x : Nat) : Int))) → injH H → injH (qz t N m p dg x y K H).2.2 := by
  intro m
  induction m with
  | zero =>
    intro p dg x y K H hx hb hj
    show injH (if dg ≠ 0 ∨ x < 8 ∨ y < 7 then (-1000 - (N : Int), K, H) else (0, K, H)).2.2
    split <;> exact hj
  | succ m ih =>
    intro p dg x y K H hx hb hj
    rw [qz_succ]
    split
    · split
      · exact ih _ _ _ _ _ _ (by omega) hb hj
      · exact hj
    · split
      · split
        · exact hj
        · refine ih _ _ _ _ _ _ (by omega) (fun g hg => ?_) hj
          rcases hb g hg with q | q
          · exact .inl q
          · exact .inr (by omega)
      · have q := qp_inj (c := t p) (p := p) (K := K) hx hb hj
        split
        · exact q.2.2
        · exact ih _ _ _ _ _ _ (by omega) q.2.1 q.2.2
theorem rD_inj {H : Nat → Int} (h : injH H) (h86 : ∀ g, g < 10 → M1 86 g = hm (H g)) : rD M1 := fun g g' h1 h2 h3 h4 => by
  rw [h86 g h1] at h4 ⊢
  rw [h86 g' h2]
  have q := h g g' h1 h2 h3
  unfold hm at h4 ⊢
  by_cases c : H g = -1
  · rw [if_pos c] at h4
    omega
  · rw [if_neg c] at h4 ⊢
    have q := q c
    split
    · omega
    · exact q
def MdX_quarter (v x : Int) (M1 : MM) : Prop := MdW_quarter v x M1 ∧ rK M1 ∧ rD M1
theorem csX_quarter {v : Int} (i0 : in32 v) (G : GdX M) : CA FF sc YF 59 m_X11_quarter [vr 0, vi v] M (fun r M1 => ∃ x, r = vi x ∧ MdX_quarter v x M1) := by
  have go : ∀ T S : Nat, ((T = 57 ∧ S = 61) ∨ (T = 61 ∧ S = 57)) → M 0 10 = (T : Int) + 1 → M 0 11 = (S : Int) + 1 → CA FF sc YF 59 m_X11_quarter [vr 0, vi v] M (fun r M1 => ∃ x, r = vi x ∧ MdX_quarter v x M1) := fun T S hTS e10 e11 => ((csW_quarter i0 G.w).and fun n => (PC.of (n := n) (cf_quarter i0 G.1)).and (f_quarterC (Q := fun _ M1 => M1 4 = M 4 ∧ ∀ h, h < 10 → M1 (6 + h) = M (6 + h)) (t := M 2) hTS (fun _ => rfl) e10 e11 (fun _ => ⟨rfl, fun _ _ => rfl⟩) (fun _ _ M1 f _ => ⟨f 4 (by omega) (by decide), fun h hh => f (6 + h) (by omega) (by omega)⟩) (fun _ _ M1 f _ _ _ _ _ _ => ⟨f 4 (by omega) (by decide) (by decide) (by decide) (by decide) (by decide) (by decide), fun h hh => f (6 + h) (by omega) (by omega) (by omega) (by omega) (by omega) (by omega) (by omega)⟩))).mono fun r M1 q => by
    obtain ⟨⟨x, hx, p⟩, ⟨-, -, u, -⟩, h4, h6⟩ := q
    exact ⟨x, hx, p, G.2.2.2.1.eq h4 h6 (u 88 (by decide)) (u 89 (by decide)), G.2.2.2.2.up u⟩
  rcases id G.1.2.2.1 with ⟨e10, e11⟩ | ⟨e10, e11⟩
  · exact go 57 61 (.inl ⟨rfl, rfl⟩) e10 e11
  · exact go 61 57 (.inr ⟨rfl, rfl⟩) e10 e11
theorem msX_quarter {v x : Int} (i0 : in32 v) (G : MdX_quarter v x M) : CA FF sc YF 59 m_X12_quarter [vr 81, vi v] M (fun r M1 => ∃ y, r = vi y ∧ GdX M1) := by
  have ag := G.1.1.1
  have h30 := ag.1 82 30
  have h30 : 0 ≤ M 82 30 ∧ M 82 30 ≤ 1023 := h30
  refine ((msW_quarter i0 G.1).and fun n => (PC.of (n := n) (mf_quarter i0 ag)).and (f_quarterM (K0 := fun _ => 0) (H0 := fun _ => -1) (Q := fun r M1 => M1 88 = M 88 ∧ M1 89 = M 89 ∧ rD M1) (t := tpY M) (tpY_r M) (fun _ _ => rfl) (tpY_m ag.1) (by omega) (fun h => ⟨rfl, rfl, G.2.2⟩) (fun h z M1 f f81 e => ⟨f 88 (by decide) (by decide) (by decide), f 89 (by decide) (by decide) (by decide), G.2.2.eq (congrFun (f 86 (by decide) (by decide) (by decide)))⟩) (fun h z M1 f => ⟨f.1 88 (by decide) (by decide) (by decide) (by decide) (by decide) (by decide), f.1 89 (by decide) (by decide) (by decide) (by decide) (by decide) (by decide), rD_inj (qz_inj _ _ _ _ _ _ _ (by decide) (fun _ _ => .inl rfl) (fun _ _ _ _ _ z => absurd rfl z)) f.2.2.2.2.1⟩))).mono fun r M1 q => ?_
  obtain ⟨⟨y, hy, p⟩, ⟨-, -, l, -⟩, h88, h89, d⟩ := q
  exact ⟨y, hy, p.1, p.2.1, p.2.2, G.2.1.eq (funext fun j => l 4 (by decide) j (.inl rfl)) (fun h hh => funext fun j => l (6 + h) (by omega) j (.inl (t6 h hh).2)) (congrFun h88) (congrFun h89), d⟩
/-! walk -/
def MdX_walk (h v x : Int) (M1 : MM) : Prop := MdW_walk h v x M1 ∧ rD M1 ∧ (¬ ((0 ≤ h ∧ h ≤ 9) ∧ 1 ≤ v ∧ v ≤ 80 ∧ v ≤ M1 81 10) → rK M1) ∧ (((0 ≤ h ∧ h ≤ 9) ∧ 1 ≤ v ∧ v ≤ 80 ∧ v ≤ M1 81 10) → ∃ D0 : Nat → Int, ((wzR (tpY M1) v.toNat D0).1 < 0 → rK M1) ∧ ∀ (sz : Nat) (D : Nat → Int), wzR (tpY M1) v.toNat D0 = ((sz : Int), sz, D) → M1 4 h.toNat = (sz : Int) ∧ (∀ j, j < sz → M1 (6 + h.toNat) j = D j) ∧ ∀ g, g < 10 → g ≠ h.toNat → rK1 M1 g)
theorem csX_walk {h v : Int} (i0 : in32 h) (i1 : in32 v) (G : GdX M) : CA FF sc YF 59 m_X11_walk [vr 0, vi h, vi v] M (fun r M1 => ∃ x, r = vi x ∧ MdX_walk h v x M1) := by
  refine ((csW_walk i0 i1 G.w).and fun n => (PC.of (n := n) (cf_walk i0 i1 G.1)).and (f_walkC (Q := fun _ M1 => (¬ ((0 ≤ h ∧ h ≤ 9) ∧ 1 ≤ v ∧ v ≤ 80 ∧ v ≤ M 1 1) → M1 = M) ∧ (((0 ≤ h ∧ h ≤ 9) ∧ 1 ≤ v ∧ v ≤ 80 ∧ v ≤ M 1 1) → ((wzR (tpY M) v.toNat (M 18)).1 < 0 → M1 4 = M 4 ∧ ∀ g, g < 10 → M1 (6 + g) = M (6 + g)) ∧ ∀ (sz : Nat) (D : Nat → Int), wzR (tpY M) v.toNat (M 18) = ((sz : Int), sz, D) → M1 4 h.toNat = (sz : Int) ∧ (∀ j, j < sz → M1 (6 + h.toNat) j = D j) ∧ ∀ g, g < 10 → g ≠ h.toNat → M1 4 g = M 4 g ∧ M1 (6 + g) = M (6 + g))) (t := tpY M) G.w.t.c (fun hn => ⟨fun _ => rfl, fun z => absurd z hn⟩) (fun hk z M1 f _ => ⟨fun y => absurd hk y, fun _ => ⟨fun _ => ⟨f 4 (by decide) (by decide) (by decide) (by decide) (by decide) (by decide), fun g hg => f (6 + g) (by omega) (by omega) (by omega) (by omega) (by omega) (by omega)⟩, fun sz D e => ?_⟩⟩) fun hk sz D e hsz M1 f _ e4 e6 => ⟨fun y => absurd hk y, fun _ => ⟨fun z => ?_, fun sz' D' e' => ?_⟩⟩)).mono fun r M1 q => ?_
  · rw [e] at z
    have z : (sz : Int) < 0 := z
    omega
  · rw [e] at z
    have z : (sz : Int) < 0 := z
    omega
  · rw [e] at e'
    have e1 : (sz : Int) = sz' := congrArg (fun p => p.1) e'
    have e2 : D = D' := congrArg (fun p => p.2.2) e'
    have e1 : sz = sz' := by omega
    subst e1 e2
    refine ⟨by rw [e4]; exact if_pos rfl, e6, fun g hg hne => ⟨by rw [e4]; exact if_neg hne, f (6 + g) (by omega) (by omega) (by omega) (by omega) (by omega) (by omega) (by omega) (by omega)⟩⟩
  · obtain ⟨⟨x, hx, p⟩, ⟨-, -, u, -⟩, q1, q2⟩ := q
    have e10 : M 1 1 = M1 81 10 := G.2.1.1.trans (u 81 (by decide) 10).symm
    rw [e10] at q1 q2
    refine ⟨x, hx, p, G.2.2.2.2.up u, fun z => by rw [q1 z]; exact G.2.2.2.1, fun z => ⟨M 18, ?_, ?_⟩⟩
    · rw [tpY_up u]
      intro y
      obtain ⟨h4, h6⟩ := (q2 z).1 y
      exact G.2.2.2.1.eq h4 h6 (u 88 (by decide)) (u 89 (by decide))
    · rw [tpY_up u]
      intro sz D e
      obtain ⟨r1, r2, r3⟩ := (q2 z).2 sz D e
      refine ⟨r1, r2, fun g hg hne => ?_⟩
      obtain ⟨s1, s2⟩ := r3 g hg hne
      have V := G.2.2.2.1 g hg
      exact ⟨by rw [s1, u 88 (by decide)]; exact V.1, fun i hi => by rw [s2, u 89 (by decide)]; rw [u 88 (by decide)] at hi; exact V.2 i hi⟩
theorem msX_walk {h v x : Int} (i0 : in32 h) (i1 : in32 v) (G : MdX_walk h v x M) : CA FF sc YF 59 m_X12_walk [vr 81, vi h, vi v] M (fun r M1 => ∃ y, r = vi y ∧ GdX M1) := by
  obtain ⟨G1, G2, G3, G4⟩ := G
  have ag := G1.1.1.1
  have go : ∀ D0 : Nat → Int, (((0 ≤ h ∧ h ≤ 9) ∧ 1 ≤ v ∧ v ≤ 80 ∧ v ≤ M 81 10) → ((wzR (tpY M) v.toNat D0).1 < 0 → rK M) ∧ ∀ (sz : Nat) (D : Nat → Int), wzR (tpY M) v.toNat D0 = ((sz : Int), sz, D) → M 4 h.toNat = (sz : Int) ∧ (∀ j, j < sz → M (6 + h.toNat) j = D j) ∧ ∀ g, g < 10 → g ≠ h.toNat → rK1 M g) → CA FF sc YF 59 m_X12_walk [vr 81, vi h, vi v] M (fun r M1 => ∃ y, r = vi y ∧ GdX M1) := fun D0 hK => by
    refine ((msW_walk i0 i1 G1).and fun n => (PC.of (n := n) (mf_walk i0 i1 ag)).and (f_walkM (D0 := D0) (Q := fun _ M1 => M1 86 = M 86 ∧ (LoX M M1 → rK M1)) (t := tpY M) (tpY_m ag.1) (fun hn => ⟨rfl, fun _ => G3 hn⟩) (fun hk z M1 f e88 e89 => ⟨f.1 86 (by decide) (by decide) (by decide) (by decide) (by decide) (by decide) (by decide), fun l => ((hK hk).1 z).eq (funext fun j => l 4 (by decide) j (.inl rfl)) (fun g hg => funext fun j => l (6 + g) (by omega) j (.inl (t6 g hg).2)) (congrFun e88) (congrFun e89)⟩) fun hk sz D e hsz hD M1 f e88 e89 _ => ⟨f.1 86 (by decide) (by decide) (by decide) (by decide) (by decide) (by decide) (by decide), fun l => ?_⟩)).mono fun r M1 q => ?_
    · obtain ⟨r1, r2, r3⟩ := (hK hk).2 sz D e
      intro g hg
      have l4 : M1 4 g = M 4 g := l 4 (by decide) g (.inl rfl)
      have l6 : ∀ i, M1 (6 + g) i = M (6 + g) i := fun i => l (6 + g) (by omega) i (.inl (t6 g hg).2)
      by_cases eg : g = h.toNat
      · subst eg
        refine ⟨by rw [l4, r1, e88], fun i hi => ?_⟩
        rw [e88] at hi
        rw [l6, r2 i (by omega), e89 i (by omega)]
      · have V := r3 g hg eg
        have h88 : M1 88 g = M 88 g := f.2.2.2.1 g eg
        refine ⟨by rw [l4, h88]; exact V.1, fun i hi => ?_⟩
        rw [h88] at hi
        have r88 := rA_88 ag.1 g
        rw [l6, f.2.2.2.2 (60 * g + i) (by omega)]
        exact V.2 i hi
    · obtain ⟨⟨y, hy, p⟩, ⟨-, -, l, -⟩, h86, hk⟩ := q
      exact ⟨y, hy, p.1, p.2.1, p.2.2, hk l, G2.eq (congrFun h86)⟩
  by_cases ok : (0 ≤ h ∧ h ≤ 9) ∧ 1 ≤ v ∧ v ≤ 80 ∧ v ≤ M 81 10
  · obtain ⟨D0, a1, a2⟩ := G4 ok
    exact go D0 fun _ => ⟨a1, a2⟩
  · exact go (fun _ => 0) fun z => absurd z ok
/-! meet -/
abbrev meOk (M : MM) (h j w : Int) : Prop := ((0 ≤ h ∧ h ≤ 9) ∧ 0 ≤ M 86 h.toNat) ∧ ((0 ≤ j ∧ j ≤ 9) ∧ 0 ≤ M 86 j.toNat) ∧ h ≠ j ∧ (0 ≤ w ∧ w ≤ 2)
def meV (M : MM) (h j w : Int) : Int := if meOk M h j w then mtA (posV (M 85) (fun i => M 89 (60 * h.toNat + i)) (M 88 h.toNat).toNat (M 86 h.toNat)) (posV (M 85) (fun i => M 89 (60 * j.toNat + i)) (M 88 j.toNat).toNat (M 86 j.toNat)) (max (M 88 h.toNat).toNat (M 88 j.toNat).toNat) w else -1
theorem meV_up {h j w : Int} (u : UpX M M1) : meV M1 h j w = meV M h j w := by
  have e : ∀ k, 81 ≤ k → M1 k = M k := fun k hk => funext fun i => u k hk i
  unfold meV meOk
  rw [e 85 (by decide), e 86 (by decide), e 88 (by decide), e 89 (by decide)]
theorem rA_6h (g : ai_GI ax_T M) : ∀ h, h < 10 → ∀ i, 0 ≤ M (6 + h) i ∧ M (6 + h) i ≤ 4 := fun h hh i => ax_giA (k := 6 + h) (by
  obtain ⟨-, -, -, f4, -, -⟩ := FF5 h hh
  rw [Nat.add_comm 6 h]
  exact f4) g i
def MdX_meet (h j w x : Int) (M1 : MM) : Prop := GdX M1 ∧ x = meV M1 h j w
theorem csX_meet {h j w : Int} (i0 : in32 h) (i1 : in32 j) (i2 : in32 w) (G : GdX M) : CA FF sc YF 59 m_X11_meet [vr 0, vi h, vi j, vi w] M (fun r M1 => ∃ x, r = vi x ∧ MdX_meet h j w x M1) := by
  obtain ⟨T, hT, v0, v1, v2⟩ := id G.2.2.1
  have hr : ∀ i, -1 ≤ M (T + 2) i ∧ M (T + 2) i ≤ 63 := fun i => by
    rcases hT with e | e
    · subst e
      exact rA_59 G.1.1 i
    · subst e
      exact rA_63 G.1.1 i
  have hh : ∀ g, g < 10 → (0 ≤ M 86 g ↔ M (T + 2) g ≠ -1) ∧ (M (T + 2) g ≠ -1 → M (T + 2) g = M 86 g) := fun g hg => by
    have e := v2 g hg
    have r := hr g
    unfold hm at e
    by_cases c : M (T + 2) g = -1
    · rw [if_pos c] at e
      exact ⟨⟨fun z => by omega, fun z => absurd c z⟩, fun z => absurd c z⟩
    · rw [if_neg c] at e
      exact ⟨⟨fun _ => c, fun _ => by omega⟩, fun _ => e⟩
  have h88 : ∀ g, 0 ≤ M 88 g ∧ M 88 g ≤ 60 := rA_88 G.1.1
  have k1 : ∀ g g' : Nat, g < 10 → g' < 10 → g ≠ g' → M (T + 2) g ≠ -1 → M (T + 2) g ≠ M (T + 2) g' := fun g g' h1 h2 h3 h4 h5 => by
    have d := G.2.2.2.2 g g' h1 h2 h3 ((hh g h1).1.mpr h4)
    exact d (by rw [← (hh g h1).2 h4, ← (hh g' h2).2 (by rw [← h5]; exact h4)]; exact h5)
  refine ((cdX (w := cw_meet) G (by decide +kernel) (cf_meet i0 i1 i2 G.1)).and fun n => (PC.of (n := n) (cf_meet i0 i1 i2 G.1)).and (f_meetC (Q := fun r _ => r = vi (meV M h j w)) hT v0 hr (rA_4 G.1.1) (rA_6h G.1.1) k1 (fun hn M1 => ?_) fun hk M1 => ?_)).mono fun r M1 q => ?_
  · unfold meV
    rw [if_neg fun z => hn ⟨⟨z.1.1, (hh _ (by have := z.1.1; omega)).1.mp z.1.2⟩, ⟨z.2.1.1, (hh _ (by have := z.2.1.1; omega)).1.mp z.2.1.2⟩, z.2.2.1, z.2.2.2⟩]
  · obtain ⟨⟨a1, a2⟩, ⟨b1, b2⟩, c1, c2⟩ := hk
    have ah : h.toNat < 10 := by omega
    have bh : j.toNat < 10 := by omega
    have Va := G.2.2.2.1 h.toNat ah
    have Vb := G.2.2.2.1 j.toNat bh
    have l1 := h88 h.toNat
    have l2 := h88 j.toNat
    unfold meV
    rw [if_pos (show meOk M h j w from ⟨⟨a1, (hh _ ah).1.mpr a2⟩, ⟨b1, (hh _ bh).1.mpr b2⟩, c1, c2⟩), (hh _ ah).2 a2, (hh _ bh).2 b2, Va.1, Vb.1]
    rw [show posV (M (T + 1)) (M (6 + h.toNat)) (M 88 h.toNat).toNat (M 86 h.toNat) = posV (M 85) (fun i => M 89 (60 * h.toNat + i)) (M 88 h.toNat).toNat (M 86 h.toNat) from funext fun m => posV_K v1 (fun i hi => Va.2 i (by omega)) _ m, show posV (M (T + 1)) (M (6 + j.toNat)) (M 88 j.toNat).toNat (M 86 j.toNat) = posV (M 85) (fun i => M 89 (60 * j.toNat + i)) (M 88 j.toNat).toNat (M 86 j.toNat) from funext fun m => posV_K v1 (fun i hi => Vb.2 i (by omega)) _ m]
  · obtain ⟨⟨x, hx, G1⟩, ⟨-, -, u, -⟩, h2⟩ := q
    exact ⟨_, h2, G1, (meV_up u).symm⟩
theorem msX_meet {h j w x : Int} (i0 : in32 h) (i1 : in32 j) (i2 : in32 w) (G : MdX_meet h j w x M) : CA FF sc YF 59 m_X12_meet [vr 81, vi h, vi j, vi w] M (fun r M1 => ∃ y, r = vi y ∧ GdX M1 ∧ y = x) := by
  refine ((mdX (w := mw_meet) G.1 (by decide +kernel) (mf_meet i0 i1 i2 G.1.1)).and fun n => f_meetM (Q := fun r _ => r = vi (meV M h j w)) (fun i => (rA_86 G.1.1.1 i).2) (rA_88 G.1.1.1) (fun hn => ?_) fun hk => ?_).mono fun r M1 q => ?_
  · unfold meV
    rw [if_neg (show ¬ meOk M h j w from hn)]
  · unfold meV
    rw [if_pos (show meOk M h j w from hk)]
  · obtain ⟨⟨y, hy, G1⟩, h2⟩ := q
    exact ⟨_, h2, G1, G.2.symm⟩
end TXM
