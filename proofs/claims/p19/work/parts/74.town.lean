/-! PART 74: the two objects between calls: their tapes and their towns are alike; stranger -/
theorem pc_X11_stranger {sc : List Int} {n : Nat} {Q : Vv → MM → Prop} (v1 : Int) (v2 : Int) (v3 : Int) (v4 : Int) (M : MM) (h : ∀ n1, n1 < n → PC sc n1 m_X11_isStranger [vi v1] M (cI fun r2 M1 =>
  brA (decide (r2 = 0))
   (Q (vi 0) M1)
   (PC sc n1 m_X11_isIn [vi v2, vi 0, vi 7] M1 (cI fun r4 M3 =>
    brA (decide (r4 = 0))
     (Q (vi 0) M3)
     (PC sc n1 m_X11_isIn [vi v3, vi 0, vi 7] M3 (cI fun r6 M5 =>
      brA (decide (r6 ≠ 0))
       (PC sc n1 m_X11_isIn [vi v4, vi 1, vi 999] M5 (cI fun r8 M7 =>
        brA (decide (r8 = 0))
         (Q (vi 0) M7)
         (gIm (decide (0 < M7 0 10)) (gIm (kd YF ((M7 0 10).toNat - 1) == 18) (PC sc n1 m_X9_isWall [vr ((M7 0 10).toNat - 1), vi (w32 ((w32 (8 * v3)) + v2))] M7 (cI fun r10 M9 =>
          brA (decide (r10 = 0))
           (PC sc n1 m_X8_putStranger [vr 46, vi v1, vi (w32 ((w32 (8 * v3)) + v2)), vi v4] M9 (fun _ M11 =>
            Q (vi 1) M11))
           (Q (vi 0) M9)))))))
       (Q (vi 0) M5))))))) : PC sc n m_X11_stranger [vr 0, vi v1, vi v2, vi v3, vi v4] M Q := pc_go rfl (fun j => false) 46 h
theorem pc_X11_isStranger {sc : List Int} {n : Nat} {Q : Vv → MM → Prop} (v0 : Int) (M : MM) (h : ∀ n1, n1 < n → PC sc n1 m_X11_isIn [vi v0, vi 0, vi 9] M (cI fun r2 M1 =>
  gIm (decide (r2 = 0) || decide (r2 = 1)) (Q (vi r2) M1))) : PC sc n m_X11_isStranger [vi v0] M Q := pc_go rfl (fun j => false) 10 h
theorem pc_X12_stranger {sc : List Int} {n : Nat} {Q : Vv → MM → Prop} (v1 : Int) (v2 : Int) (v3 : Int) (v4 : Int) (M : MM) (h : ∀ n1, n1 < n → PC sc n1 m_X12_isTen [vi v1] M (cI fun r2 M1 =>
  brA (decide (r2 = 0))
   (Q (vi 0) M1)
   (PC sc n1 m_X12_in [vi v2, vi 0, vi 7] M1 (cI fun r4 M3 =>
    brA (decide (r4 = 0))
     (Q (vi 0) M3)
     (PC sc n1 m_X12_in [vi v3, vi 0, vi 7] M3 (cI fun r6 M5 =>
      brA (decide (r6 = 0))
       (Q (vi 0) M5)
       (PC sc n1 m_X12_in [vi v4, vi 1, vi 999] M5 (cI fun r8 M7 =>
        brA (decide (r8 = 0))
         (Q (vi 0) M7)
         (gIm (decide (0 ≤ (w32 ((w32 (8 * v3)) + v2))) && decide ((w32 ((w32 (8 * v3)) + v2)) < 64)) (brA (decide ((M7 85 (w32 ((w32 (8 * v3)) + v2)).toNat) ≠ 1))
          (gIm (decide (0 ≤ (w32 (0 + v1))) && decide ((w32 (0 + v1)) < 36)) (gIm (decide (0 ≤ (w32 (10 + v1))) && decide ((w32 (10 + v1)) < 36)) (gIm (decide (0 ≤ (w32 (20 + v1))) && decide ((w32 (20 + v1)) < 36)) (Q (vi 1) (stM (stM (stM (stM (stM M7 82 30 (bOr (M7 82 30) (bShl 1 v1))) 82 31 (bAnd (M7 82 31) (bXor (bShl 1 v1) ((-1))))) 82 ((w32 (0 + v1)).toNat) (w32 ((w32 (8 * v3)) + v2))) 82 ((w32 (10 + v1)).toNat) 0) 82 ((w32 (20 + v1)).toNat) v4)))))
          (Q (vi 0) M7))))))))))) : PC sc n m_X12_stranger [vr 81, vi v1, vi v2, vi v3, vi v4] M Q := pc_go rfl (fun j => false) 88 h
def kVc : Nat := 56616434707392290496899791761750213708794132225520947756589587810060350089228115350204723470846665934767571035988413721131260037953423896292657107871682056346434230094812076557951759809781228736297164267694341083073694214142730570710520469108988023996098802222236768804629665055672002531537641938079987748315710132057340259909747024198056874187239804722051311663792825653846616339737673448544650371941737121651247174522008639333136862442711576138482900759833454879355946307009744109799418258074306212696993365849685101916344962913357324506830934263294015378550722303723053319705243945508141764146541097124703659425212001855871331963330248586659857112827390998596846125306576882418399546201612780511343241748365373298154021091082133479649184426517490989751035864355302115578296154958081298108013985597169424815154819512683953397702612905793430135291677119604761831754238154679609777615811660399608544584161100385098026734942216594868565118031221891308973548321085722474792301860348141240787871157343628541238665335383312211786238427551705662260131445467050119308542903260466974576573894992607439707362342522905072908274065424042899855433071492136483622198362749267985951607133452670507031230455970264872220448785408
def kVm : Nat := 7397690107149016241778656291789827733569418963526031830669970683033224683575946565558544704114155030029812328499096317245354008542122556163692798471115999897880257264177022284963522043412952123208642824827208142521599059239202311266992760171592792474098712253493349902713487828624481651484390670623636885201085030340386987103949675410392070950787183927724246196123978577619649563789888288490391253259875221186218059835400999939294293587903414562952233450529320178016176800906246878833950486439408650850675272384774808908765872460189286901476624848911865326364604088328210802903141483363104902226751287209917645971113467460895126809855985584852253145373536449944094235535635112240615798380168767224759303452217657298216264309314947429620307562826355701284236333732255850884054947358270685998753428388212616994353617694245798544698530705628482646139996253381354806493416911615053095389213843799343110569264959215953720096809995857482202709994893824860494768128133167789578029074309050542655817052487399897865137856413966622372907781302680381309282288434503975431722614498548029449527731839851110065120015557635845234793233497224639867808754801022239733262871306568109381938326571135743697714047300122863497280229474094370367076876753419237292760527632046884007037461437216982292865507373804041249908219822433595917886356950174825697833033120444296697058773751099953339642542557406511393899709306522989142536110414841097359412506778041133718606391472503441726625081713313085546677855305792372872506341363062230460375605606203482446557935144789934909717772370802028748510674416034457852592326502769766455168607137527405166972807942325834604014069818563380641792
def kWc : Nat := 56616434707392290496899791761750213708794132225520947756589587810060350089228115350204723470846665934767571035988413721131260037953423896292657107871682056346434230094812076557951759809781228736297164267694341083073694214142730570710520469108988023996098802222236768804629665055672002531537641938079987748315710132057340259909747024198056874187239804722051311663792825653846616339737673448544650371941737121651247174522008639333136862442711576138482900759833454879355946307009744109799418258074306212696993365849685101916344962913357324506830934263294015378550722303723053319705243945508141764146541097124703659425212001855871331963330248586659857112827390998596846125306576882418399546201612780511343241748365373298154021091082133479649184426517490989751035864355302115578296154958081298108013985597169424815154819512683953397702612905793430135291677119604761831754238154679609777615811660399608544584161100385098026734942216594868565118031221891308973548321085722474792301860348141240787871157343628541238665335383312211786238427551705662260131445467050119308542903260466974576573894992607439707362342522905072908274065424042899855433071492136483622198362749267985951607133792952873952168919470532967799636100096
def kWm : Nat := 856593993037010096035237352196145276676103791868643709281123214917317409678745692316799455612856870751906609951547910108140696336960697240338134411952400591809762281375608130737056021226987791328070186311767158621505443114982795715285931244684097480328451787474692539430712308911110164703878074813450358954246199980746770428135244896981607829018487650454892879385487148269766182027531913527589637712768034755307091556416905332469640959370895696386704311724128415599910844549850521746913672711103979752920504809194080772347703424164004197908769984624404953638629847134780155380937715639746160107908045050552265789466269571618227716708247273763280474752282178976249145944933068424475343866560711965907464962684541188335157445879348720729000248166412298308294006851729462545965690385538464416136895028705503753920188147668088571190296587397259146918186398420722896766352855184275290681056023195114534384327958686367244614450012351808170713478474700472027472503076822842691061250120266267815116999454470846085318824683659745050559464090950515191423007075620572569122335003575919065123861464053993709271488709210638340529078411195166867646549222794678633298628210599325380228593372729245661894724670852460564387593298800071685562951468395563483936710201189119242968839695177166331312193577263509414796156366817061594639183114818396851414641144601885257926209247937271483401112530422536590146974648554396687416888334881987500300778619248894145534485874426113806815577766450047982064300565562619440928179391213862974814690831770548222963274802303608668783722075059903569336745283382027572742490971645086090620641831031397997126797064780438748452962764795661857621382813028739267244520172716488243047933472532770971994237186741469125229412352
/- the towns are alike: what stands on each spot, where the houses are -/
def rW (M : MM) : Prop := ∃ T : Nat, (T = 57 ∨ T = 61) ∧ M 0 10 = (T : Int) + 1 ∧ (∀ j, j < 64 → M (T + 1) j = M 85 j) ∧ ∀ h, h < 10 → hm (M (T + 2) h) = M 86 h
section TWM
variable {sc : List Int} {M M1 : MM}
theorem rW.eq (V : rW M) (h0 : M1 0 10 = M 0 10) (h58 : ∀ j, j < 64 → M1 58 j = M 58 j) (h59 : ∀ j, j < 64 → M1 59 j = M 59 j) (h62 : ∀ j, j < 64 → M1 62 j = M 62 j) (h63 : ∀ j, j < 64 → M1 63 j = M 63 j) (h85 : ∀ j, M1 85 j = M 85 j) (h86 : ∀ j, M1 86 j = M 86 j) : rW M1 := by
  obtain ⟨T, hT, v0, v1, v2⟩ := V
  have a : (∀ j, j < 64 → M1 (T + 1) j = M (T + 1) j) ∧ ∀ j, j < 64 → M1 (T + 2) j = M (T + 2) j := by
    rcases hT with h | h
    · subst h
      exact ⟨h58, h59⟩
    · subst h
      exact ⟨h62, h63⟩
  exact ⟨T, hT, h0.trans v0, fun j hj => by rw [a.1 j hj, h85 j]; exact v1 j hj, fun h hh => by rw [a.2 h (by omega), h86 h]; exact v2 h hh⟩
theorem rW.up {w : Nat} (V : rW M) (u : UpX M M1) (kp : Keep w M M1) (e : kVc &&& w = kVc) : rW M1 := by
  have k := kp.w e
  exact V.eq (k.o rfl (by decide +kernel)) (fun j _ => congrFun (k.a rfl (by decide +kernel)) j) (fun j _ => congrFun (k.a rfl (by decide +kernel)) j) (fun j _ => congrFun (k.a rfl (by decide +kernel)) j) (fun j _ => congrFun (k.a rfl (by decide +kernel)) j) (u 85 (by decide)) (u 86 (by decide))
theorem rW.lo {w : Nat} (V : rW M) (l : LoX M M1) (kp : Keep w M M1) (e : kVm &&& w = kVm) : rW M1 := by
  have k := kp.w e
  exact V.eq (l 0 (by decide) 10 (.inr (by decide))) (fun j hj => l 58 (by decide) j (.inr hj)) (fun j hj => l 59 (by decide) j (.inr hj)) (fun j hj => l 62 (by decide) j (.inr hj)) (fun j hj => l 63 (by decide) j (.inr hj)) (fun j => congrFun (k.a rfl (by decide +kernel)) j) (fun j => congrFun (k.a rfl (by decide +kernel)) j)
def GdW (M : MM) : Prop := axG M ∧ rT M ∧ rW M
theorem GdW.t (G : GdW M) : GdT M := ⟨G.1, G.2.1⟩
theorem gd_freshW {M : MM} (hC : FrC M) (hM : FrM M) (hz : ∀ k, 121 ≤ k → ∀ j, M k j = 0) (hI : Inv FF YF M) : GdW M := by
  have g := gd_freshT hC hM hz hI
  have e1 : ∀ j, j < 64 → M0 58 j = M0 85 j := by decide +kernel
  have e2 : ∀ j, j < 10 → hm (M0 59 j) = M0 86 j := by decide +kernel
  exact ⟨g.1, g.2, 57, .inl rfl, hC.at 0 10 58 (by decide) rfl, fun j hj => by rw [hC.at 58 j _ (by decide) rfl, hM.at 85 j _ (by decide) rfl]; exact e1 j hj, fun h hh => by rw [hC.at 59 h _ (by decide) rfl, hM.at 86 h _ (by decide) rfl]; exact e2 h hh⟩
theorem cdW {w m : Nat} {as : List Vv} (G : GdW M) (e : kWc &&& w = kWc) (h : CA FF sc YF 59 m as M (cxF w M)) : CA FF sc YF 59 m as M (fun r M1 => ∃ x, r = vi x ∧ GdW M1) := h.mono fun r M1 q => by
  obtain ⟨⟨x, hx⟩, g, u, kp⟩ := q
  have kp := kp.w e
  have G2 := G.t.up g u kp (by decide +kernel)
  exact ⟨x, hx, G2.1, G2.2, G.2.2.up u kp (by decide +kernel)⟩
theorem mdW {w m : Nat} {as : List Vv} (G : GdW M) (e : kWm &&& w = kWm) (h : CA FF sc YF 59 m as M (mxF w M)) : CA FF sc YF 59 m as M (fun r M1 => ∃ x, r = vi x ∧ GdW M1) := h.mono fun r M1 q => by
  obtain ⟨⟨x, hx⟩, g, l, kp⟩ := q
  have kp := kp.w e
  have G2 := G.t.lo g l kp (by decide +kernel)
  exact ⟨x, hx, G2.1, G2.2, G.2.2.lo l kp (by decide +kernel)⟩
theorem cdWL {w m : Nat} {as : List Vv} (G : GdW M) (e : kWc &&& w = kWc) (h : CA FF sc YF 59 m as M (cxFL w M)) : CA FF sc YF 59 m as M (fun r M1 => ∃ x, r = vl x ∧ GdW M1) := h.mono fun r M1 q => by
  obtain ⟨⟨x, hx⟩, g, u, kp⟩ := q
  have kp := kp.w e
  have G2 := G.t.up g u kp (by decide +kernel)
  exact ⟨x, hx, G2.1, G2.2, G.2.2.up u kp (by decide +kernel)⟩
theorem mdWL {w m : Nat} {as : List Vv} (G : GdW M) (e : kWm &&& w = kWm) (h : CA FF sc YF 59 m as M (mxFL w M)) : CA FF sc YF 59 m as M (fun r M1 => ∃ x, r = vl x ∧ GdW M1) := h.mono fun r M1 q => by
  obtain ⟨⟨x, hx⟩, g, l, kp⟩ := q
  have kp := kp.w e
  have G2 := G.t.lo g l kp (by decide +kernel)
  exact ⟨x, hx, G2.1, G2.2, G.2.2.lo l kp (by decide +kernel)⟩
/-! feed -/
def MdW_feed (a0 a1 a2 a3 a4 x : Int) (M1 : MM) : Prop := MdT_feed a0 a1 a2 a3 a4 x M1 ∧ rW M1
theorem csW_feed {a0 a1 a2 a3 a4 : Int} (i0 : in32 a0) (i1 : in32 a1) (i2 : in32 a2) (i3 : in32 a3) (i4 : in32 a4) (G : GdW M) : CA FF sc YF 59 m_X11_feed [vr 0, vi a0, vi a1, vi a2, vi a3, vi a4] M (fun r M1 => ∃ x, r = vi x ∧ MdW_feed a0 a1 a2 a3 a4 x M1) := ((csT_feed i0 i1 i2 i3 i4 G.t).and fun _ => PC.of (cf_feed i0 i1 i2 i3 i4 G.1)).mono fun r M1 q => by
  obtain ⟨⟨x, hx, p⟩, -, -, u, kp⟩ := q
  exact ⟨x, hx, p, G.2.2.up u kp (by decide +kernel)⟩
theorem msW_feed {a0 a1 a2 a3 a4 x : Int} (i0 : in32 a0) (i1 : in32 a1) (i2 : in32 a2) (i3 : in32 a3) (i4 : in32 a4) (G : MdW_feed a0 a1 a2 a3 a4 x M) : CA FF sc YF 59 m_X12_feed [vr 81, vi a0, vi a1, vi a2, vi a3, vi a4] M (fun r M1 => ∃ y, r = vi y ∧ GdW M1) := ((msT_feed i0 i1 i2 i3 i4 G.1).and fun _ => PC.of (mf_feed i0 i1 i2 i3 i4 G.1.1)).mono fun r M1 q => by
  obtain ⟨⟨y, hy, p, -⟩, -, -, l, kp⟩ := q
  exact ⟨y, hy, p.1, p.2, G.2.lo l kp (by decide +kernel)⟩
/-! law -/
def MdW_law (a0 x : Int) (M1 : MM) : Prop := MdT_law a0 x M1 ∧ rW M1
theorem csW_law {a0 : Int} (i0 : in32 a0) (G : GdW M) : CA FF sc YF 59 m_X11_law [vr 0, vi a0] M (fun r M1 => ∃ x, r = vi x ∧ MdW_law a0 x M1) := ((csT_law i0 G.t).and fun _ => PC.of (cf_law i0 G.1)).mono fun r M1 q => by
  obtain ⟨⟨x, hx, p⟩, -, -, u, kp⟩ := q
  exact ⟨x, hx, p, G.2.2.up u kp (by decide +kernel)⟩
theorem msW_law {a0 x : Int} (i0 : in32 a0) (G : MdW_law a0 x M) : CA FF sc YF 59 m_X12_law [vr 81, vi a0] M (fun r M1 => ∃ y, r = vi y ∧ GdW M1) := ((msT_law i0 G.1).and fun _ => PC.of (mf_law i0 G.1.1)).mono fun r M1 q => by
  obtain ⟨⟨y, hy, p⟩, -, -, l, kp⟩ := q
  exact ⟨y, hy, p.1, p.2, G.2.lo l kp (by decide +kernel)⟩
/-! sightings -/
def MdW_sightings (a0 a1 x : Int) (M1 : MM) : Prop := MdT_sightings a0 a1 x M1 ∧ rW M1
theorem csW_sightings {a0 a1 : Int} (i0 : in32 a0) (i1 : in32 a1) (G : GdW M) : CA FF sc YF 59 m_X11_sightings [vr 0, vi a0, vi a1] M (fun r M1 => ∃ x, r = vi x ∧ MdW_sightings a0 a1 x M1) := ((csT_sightings i0 i1 G.t).and fun _ => PC.of (cf_sightings i0 i1 G.1)).mono fun r M1 q => by
  obtain ⟨⟨x, hx, p⟩, -, -, u, kp⟩ := q
  exact ⟨x, hx, p, G.2.2.up u kp (by decide +kernel)⟩
theorem msW_sightings {a0 a1 x : Int} (i0 : in32 a0) (i1 : in32 a1) (G : MdW_sightings a0 a1 x M) : CA FF sc YF 59 m_X12_sightings [vr 81, vi a0, vi a1] M (fun r M1 => ∃ y, r = vi y ∧ GdW M1) := ((msT_sightings i0 i1 G.1).and fun _ => PC.of (mf_sightings i0 i1 G.1.1)).mono fun r M1 q => by
  obtain ⟨⟨y, hy, p⟩, -, -, l, kp⟩ := q
  exact ⟨y, hy, p.1, p.2, G.2.lo l kp (by decide +kernel)⟩
/-! tax -/
def MdW_tax (a0 x : Int) (M1 : MM) : Prop := MdT_tax a0 x M1 ∧ rW M1
theorem csW_tax {a0 : Int} (i0 : in32 a0) (G : GdW M) : CA FF sc YF 59 m_X11_tax [vr 0, vi a0] M (fun r M1 => ∃ x, r = vi x ∧ MdW_tax a0 x M1) := ((csT_tax i0 G.t).and fun _ => PC.of (cf_tax i0 G.1)).mono fun r M1 q => by
  obtain ⟨⟨x, hx, p⟩, -, -, u, kp⟩ := q
  exact ⟨x, hx, p, G.2.2.up u kp (by decide +kernel)⟩
theorem msW_tax {a0 x : Int} (i0 : in32 a0) (G : MdW_tax a0 x M) : CA FF sc YF 59 m_X12_tax [vr 81, vi a0] M (fun r M1 => ∃ y, r = vi y ∧ GdW M1) := ((msT_tax i0 G.1).and fun _ => PC.of (mf_tax i0 G.1.1)).mono fun r M1 q => by
  obtain ⟨⟨y, hy, p⟩, -, -, l, kp⟩ := q
  exact ⟨y, hy, p.1, p.2, G.2.lo l kp (by decide +kernel)⟩
/-! check -/
def MdW_check (a0 x : Int) (M1 : MM) : Prop := MdT_check a0 x M1 ∧ rW M1
theorem csW_check {a0 : Int} (i0 : in32 a0) (G : GdW M) : CA FF sc YF 59 m_X11_check [vr 0, vi a0] M (fun r M1 => ∃ x, r = vi x ∧ MdW_check a0 x M1) := ((csT_check i0 G.t).and fun _ => PC.of (cf_check i0 G.1)).mono fun r M1 q => by
  obtain ⟨⟨x, hx, p⟩, -, -, u, kp⟩ := q
  exact ⟨x, hx, p, G.2.2.up u kp (by decide +kernel)⟩
theorem msW_check {a0 x : Int} (i0 : in32 a0) (G : MdW_check a0 x M) : CA FF sc YF 59 m_X12_check [vr 81, vi a0] M (fun r M1 => ∃ y, r = vi y ∧ GdW M1) := ((msT_check i0 G.1).and fun _ => PC.of (mf_check i0 G.1.1)).mono fun r M1 q => by
  obtain ⟨⟨y, hy, p⟩, -, -, l, kp⟩ := q
  exact ⟨y, hy, p.1, p.2, G.2.lo l kp (by decide +kernel)⟩
/-! walk -/
def MdW_walk (a0 a1 x : Int) (M1 : MM) : Prop := MdT_walk a0 a1 x M1 ∧ rW M1
theorem csW_walk {a0 a1 : Int} (i0 : in32 a0) (i1 : in32 a1) (G : GdW M) : CA FF sc YF 59 m_X11_walk [vr 0, vi a0, vi a1] M (fun r M1 => ∃ x, r = vi x ∧ MdW_walk a0 a1 x M1) := ((csT_walk i0 i1 G.t).and fun n => (PC.of (n := n) (cf_walk i0 i1 G.1)).and (f_walkC (Q := fun _ M1 => M1 0 10 = M 0 10 ∧ M1 58 = M 58 ∧ M1 59 = M 59 ∧ M1 62 = M 62 ∧ M1 63 = M 63) (t := tpY M) G.t.c (fun _ => ⟨rfl, rfl, rfl, rfl, rfl⟩) (fun _ _ M1 f _ => ⟨congrFun (f 0 (by decide) (by decide) (by decide) (by decide) (by decide) (by decide)) 10, f 58 (by decide) (by decide) (by decide) (by decide) (by decide) (by decide), f 59 (by decide) (by decide) (by decide) (by decide) (by decide) (by decide), f 62 (by decide) (by decide) (by decide) (by decide) (by decide) (by decide), f 63 (by decide) (by decide) (by decide) (by decide) (by decide) (by decide)⟩) fun h _ _ _ _ M1 f _ _ _ => ⟨congrFun (f 0 (by decide) (by decide) (by decide) (by omega) (by decide) (by decide) (by decide) (by decide)) 10, f 58 (by decide) (by decide) (by decide) (by omega) (by decide) (by decide) (by decide) (by decide), f 59 (by decide) (by decide) (by decide) (by omega) (by decide) (by decide) (by decide) (by decide), f 62 (by decide) (by decide) (by decide) (by omega) (by decide) (by decide) (by decide) (by decide), f 63 (by decide) (by decide) (by decide) (by omega) (by decide) (by decide) (by decide) (by decide)⟩)).mono fun r M1 q => by
  obtain ⟨⟨x, hx, p⟩, ⟨-, -, u, -⟩, h0, h58, h59, h62, h63⟩ := q
  exact ⟨x, hx, p, G.2.2.eq h0 (fun j _ => congrFun h58 j) (fun j _ => congrFun h59 j) (fun j _ => congrFun h62 j) (fun j _ => congrFun h63 j) (u 85 (by decide)) (u 86 (by decide))⟩
theorem msW_walk {a0 a1 x : Int} (i0 : in32 a0) (i1 : in32 a1) (G : MdW_walk a0 a1 x M) : CA FF sc YF 59 m_X12_walk [vr 81, vi a0, vi a1] M (fun r M1 => ∃ y, r = vi y ∧ GdW M1) := ((msT_walk i0 i1 G.1).and fun n => (PC.of (n := n) (mf_walk i0 i1 G.1.1.1)).and (f_walkM (D0 := fun _ => 0) (Q := fun _ M1 => M1 85 = M 85 ∧ M1 86 = M 86) (t := tpY M) (tpY_m G.1.1.1.1) (fun _ => ⟨rfl, rfl⟩) (fun _ _ M1 f _ _ => ⟨f.1 85 (by decide) (by decide) (by decide) (by decide) (by decide) (by decide) (by decide), f.1 86 (by decide) (by decide) (by decide) (by decide) (by decide) (by decide) (by decide)⟩) fun _ _ _ _ _ _ M1 f _ _ _ => ⟨f.1 85 (by decide) (by decide) (by decide) (by decide) (by decide) (by decide) (by decide), f.1 86 (by decide) (by decide) (by decide) (by decide) (by decide) (by decide) (by decide)⟩)).mono fun r M1 q => by
  obtain ⟨⟨y, hy, p, -⟩, ⟨-, -, l, -⟩, h85, h86⟩ := q
  exact ⟨y, hy, p.1, p.2, G.2.eq (l 0 (by decide) 10 (.inr (by decide))) (fun j hj => l 58 (by decide) j (.inr hj)) (fun j hj => l 59 (by decide) j (.inr hj)) (fun j hj => l 62 (by decide) j (.inr hj)) (fun j hj => l 63 (by decide) j (.inr hj)) (congrFun h85) (congrFun h86)⟩
/-! quarter -/
def qzY (t : Nat → Int) (N : Nat) (K H : Nat → Int) : Int × (Nat → Int) × (Nat → Int) := qz t N N 0 0 0 0 K H
def MdW_quarter (v x : Int) (M1 : MM) : Prop := MtT (1 ≤ v ∧ v ≤ 120 ∧ v ≤ M1 81 10) M1 ∧ (¬ (1 ≤ v ∧ v ≤ 120 ∧ v ≤ M1 81 10) → rW M1) ∧ ((1 ≤ v ∧ v ≤ 120 ∧ v ≤ M1 81 10) → ∃ K H : Nat → Int, (∀ h, h < 10 → H h = -1) ∧ ((qzY (tpY M1) v.toNat K H).1 < 0 → rW M1) ∧ (¬ (qzY (tpY M1) v.toNat K H).1 < 0 → ∃ T : Nat, (T = 57 ∨ T = 61) ∧ M1 0 10 = (T : Int) + 1 ∧ M1 (T + 1) = (qzY (tpY M1) v.toNat K H).2.1 ∧ M1 (T + 2) = (qzY (tpY M1) v.toNat K H).2.2))
theorem csW_quarter {v : Int} (i0 : in32 v) (G : GdW M) : CA FF sc YF 59 m_X11_quarter [vr 0, vi v] M (fun r M1 => ∃ x, r = vi x ∧ MdW_quarter v x M1) := by
  have go : ∀ T S : Nat, ((T = 57 ∧ S = 61) ∨ (T = 61 ∧ S = 57)) → M 0 10 = (T : Int) + 1 → M 0 11 = (S : Int) + 1 → CA FF sc YF 59 m_X11_quarter [vr 0, vi v] M (fun r M1 => ∃ x, r = vi x ∧ MdW_quarter v x M1) := fun T S hTS e10 e11 => by
    have hS : S = 57 ∨ S = 61 := by omega
    have kep : ∀ M1 : MM, (∀ c, (c < S ∨ S + 3 < c) → c ≠ 1 → M1 c = M c) → UpX M M1 → rW M1 := fun M1 f u => by
      obtain ⟨T2, hT2, v0, v1, v2⟩ := id G.2.2
      have hT3 : T2 = T := by omega
      subst hT3
      exact ⟨T2, hT2, by rw [f 0 (by omega) (by decide)]; exact v0, fun j hj => by rw [f (T2 + 1) (by omega) (by omega), u 85 (by decide) j]; exact v1 j hj, fun h hh => by rw [f (T2 + 2) (by omega) (by omega), u 86 (by decide) h]; exact v2 h hh⟩
    refine ((csT_quarter i0 G.t).and fun n => (PC.of (n := n) (cf_quarter i0 G.1)).and (f_quarterC (Q := fun r M1 => (¬ (1 ≤ v ∧ v ≤ 120 ∧ v ≤ M 1 1) → M1 = M) ∧ ((1 ≤ v ∧ v ≤ 120 ∧ v ≤ M 1 1) → ∃ K H : Nat → Int, (∀ h, h < 10 → H h = -1) ∧ ((qzY (tpY M) v.toNat K H).1 < 0 → ∀ c, (c < S ∨ S + 3 < c) → c ≠ 1 → M1 c = M c) ∧ (¬ (qzY (tpY M) v.toNat K H).1 < 0 → M1 0 10 = (S : Int) + 1 ∧ M1 (S + 1) = (qzY (tpY M) v.toNat K H).2.1 ∧ M1 (S + 2) = (qzY (tpY M) v.toNat K H).2.2))) (t := tpY M) hTS G.t.c e10 e11 (fun h => ⟨fun _ => rfl, fun z => absurd z h⟩) (fun h z M1 f e1 => ⟨fun y => absurd h y, fun _ => ⟨upK (M (S + 1)) 0 64 0, upK (M (S + 2)) 0 10 (-1), fun h hh => upK_at (by omega), fun _ => f, fun y => absurd z y⟩⟩) (fun h z M1 f e1 e0 k1 k2 _ _ => ⟨fun y => absurd h y, fun _ => ⟨upK (M (S + 1)) 0 64 0, upK (M (S + 2)) 0 10 (-1), fun h hh => upK_at (by omega), fun y => absurd y z, fun _ => ⟨?_, k1, k2⟩⟩⟩))).mono fun r M1 q => ?_
    · rw [e0]
      rfl
    · obtain ⟨⟨x, hx, p, -⟩, ⟨-, -, u, -⟩, q1, q2⟩ := q
      have e10 : M 1 1 = M1 81 10 := G.2.1.1.trans (u 81 (by decide) 10).symm
      rw [e10] at q1 q2
      refine ⟨x, hx, p, fun h => by rw [q1 h]; exact G.2.2, fun h => ?_⟩
      obtain ⟨K, H, hH, a1, a2⟩ := q2 h
      rw [tpY_up u]
      exact ⟨K, H, hH, fun y => kep M1 (a1 y) u, fun y => ⟨S, hS, (a2 y).1, (a2 y).2.1, (a2 y).2.2⟩⟩
  rcases id G.1.2.2.1 with ⟨e10, e11⟩ | ⟨e10, e11⟩
  · exact go 57 61 (.inl ⟨rfl, rfl⟩) e10 e11
  · exact go 61 57 (.inr ⟨rfl, rfl⟩) e10 e11
theorem msW_quarter {v x : Int} (i0 : in32 v) (G : MdW_quarter v x M) : CA FF sc YF 59 m_X12_quarter [vr 81, vi v] M (fun r M1 => ∃ y, r = vi y ∧ GdW M1) := by
  obtain ⟨G1, G2, G3⟩ := G
  have h30 := G1.1.1 82 30
  have h30 : 0 ≤ M 82 30 ∧ M 82 30 ≤ 1023 := h30
  have lo : ∀ M1 : MM, rW M → LoX M M1 → M1 85 = M 85 → M1 86 = M 86 → rW M1 := fun M1 V l h85 h86 => V.eq (l 0 (by decide) 10 (.inr (by decide))) (fun j hj => l 58 (by decide) j (.inr hj)) (fun j hj => l 59 (by decide) j (.inr hj)) (fun j hj => l 62 (by decide) j (.inr hj)) (fun j hj => l 63 (by decide) j (.inr hj)) (congrFun h85) (congrFun h86)
  have go : ∀ K H : Nat → Int, (∀ h, h < 10 → H h = -1) → ((1 ≤ v ∧ v ≤ 120 ∧ v ≤ M 81 10) → ((qzY (tpY M) v.toNat K H).1 < 0 → rW M) ∧ (¬ (qzY (tpY M) v.toNat K H).1 < 0 → ∃ T : Nat, (T = 57 ∨ T = 61) ∧ M 0 10 = (T : Int) + 1 ∧ M (T + 1) = (qzY (tpY M) v.toNat K H).2.1 ∧ M (T + 2) = (qzY (tpY M) v.toNat K H).2.2)) → CA FF sc YF 59 m_X12_quarter [vr 81, vi v] M (fun r M1 => ∃ y, r = vi y ∧ GdW M1) := fun K H hH hK => by
    refine ((mf_quarter i0 G1.1).and fun n => f_quarterM (K0 := K) (H0 := H) (Q := fun r M1 => ((¬ (1 ≤ v ∧ v ≤ 120 ∧ v ≤ M 81 10) ∧ M1 81 10 = M 81 10) ∨ ((1 ≤ v ∧ v ≤ 120 ∧ v ≤ M 81 10) ∧ M1 81 10 = 0)) ∧ M1 90 = M 90 ∧ (LoX M M1 → rW M1)) (t := tpY M) (tpY_r M) hH (tpY_m G1.1.1) (by omega) (fun h => ⟨.inl ⟨h, rfl⟩, rfl, fun _ => G2 h⟩) (fun h z M1 f f81 e => ⟨.inr ⟨h, e⟩, f 90 (by decide) (by decide) (by decide), fun l => lo M1 ((hK h).1 z) l (f 85 (by decide) (by decide) (by decide)) (f 86 (by decide) (by decide) (by decide))⟩) (fun h z M1 f => ⟨.inr ⟨h, f.2.2.1⟩, f.1 90 (by decide) (by decide) (by decide) (by decide) (by decide) (by decide), fun l => ?_⟩)).mono fun r M1 q => ?_
    · obtain ⟨T, hT, t0, t1, t2⟩ := (hK h).2 z
      exact ⟨T, hT, (l 0 (by decide) 10 (.inr (by decide))).trans t0, fun j hj => by rw [l (T + 1) (by omega) j (.inr hj), t1, f.2.2.2.1 j hj]; rfl, fun h hh => by rw [l (T + 2) (by omega) h (.inr (by omega)), t2, f.2.2.2.2.1 h hh]; rfl⟩
    · obtain ⟨⟨⟨y, hy⟩, g1, l, -⟩, q1, q2, q3⟩ := q
      have g2 := G1.to g1 l q2 q1
      exact ⟨y, hy, g2.1, g2.2, q3 l⟩
  by_cases ok : 1 ≤ v ∧ v ≤ 120 ∧ v ≤ M 81 10
  · obtain ⟨K, H, hH, a1, a2⟩ := G3 ok
    exact go K H hH fun _ => ⟨a1, a2⟩
  · exact go (fun _ => 0) (fun _ => -1) (fun _ _ => rfl) fun z => absurd z ok
/-! stranger -/
abbrev stOk (K : Nat → Int) (g x y c : Int) : Prop := (0 ≤ g ∧ g ≤ 9) ∧ (0 ≤ x ∧ x ≤ 7) ∧ (0 ≤ y ∧ y ≤ 7) ∧ (1 ≤ c ∧ c ≤ 999) ∧ K (8 * y + x).toNat ≠ 1
set_option maxRecDepth 20000 in
theorem p_isStr {a : Int} {n : Nat} {Q : Vv → MM → Prop} {M : MM} (k0 : ¬ (0 ≤ a ∧ a ≤ 9) → ∀ x : Int, x = 0 → Q (vi x) M) (k1 : (0 ≤ a ∧ a ≤ 9) → ∀ x : Int, x = 1 → Q (vi x) M) : PC sc n m_X11_isStranger [vi a] M Q := pc_X11_isStranger a M fun n1 _ => p_isIn (fun h x hx => gMB (k0 h x hx)) fun h x hx => gMB (k1 h x hx)
set_option maxRecDepth 20000 in
theorem f_strangerC {Q : Vv → MM → Prop} {g x y c : Int} {n T : Nat} (hT : T = 57 ∨ T = 61) (e10 : M 0 10 = (T : Int) + 1) (k0 : ¬ stOk (M (T + 1)) g x y c → ∀ M1, Q (vi 0) M1) (k1 : stOk (M (T + 1)) g x y c → ∀ M1, Q (vi 1) M1) : PC sc n m_X11_stranger [vr 0, vi g, vi x, vi y, vi c] M Q := by
  refine pc_X11_stranger g x y c M fun n1 _ => p_isStr (fun h z hz => cI_i (brT hz (k0 (fun w => h w.1) _))) fun h1 z hz => cI_i (brF (by omega) (p_isIn (fun h z hz => cI_i (brT hz (k0 (fun w => h w.2.1) _))) fun h2 z hz => cI_i (brF (by omega) (p_isIn (fun h z hz => cI_i (brF (by omega) (k0 (fun w => h w.2.2.1) _))) fun h3 z hz => cI_i (brT (by omega) (p_isIn (fun h z hz => cI_i (brT hz (k0 (fun w => h w.2.2.2.1) _))) fun h4 z hz => cI_i (brF (by omega) ?_)))))))
  rw [e10, show ((T : Int) + 1).toNat - 1 = T by omega, show w32 (8 * y) = 8 * y from ew32 (by omega) (by omega), show w32 (8 * y + x) = 8 * y + x from ew32 (by omega) (by omega)]
  refine gMB (gMB (f_isWall hT (fun h z hz => cI_i (brT hz (pc_X8_putStranger _ _ _ M fun n2 _ => gMB (gMB (gMB (gMB (k1 ?_ _))))))) fun h z hz => cI_i (brF (by omega) (k0 ?_ _))))
  · unfold wl at h
    exact ⟨h1, h2, h3, h4, fun w => h (.inr (.inr w))⟩
  · unfold wl at h
    intro w
    rcases h with h | h | h
    · omega
    · omega
    · exact w.2.2.2.2 h
set_option maxRecDepth 20000 in
theorem f_strangerM {Q : Vv → MM → Prop} {g x y c : Int} {n : Nat} (k0 : ¬ stOk (M 85) g x y c → ∀ M1, Q (vi 0) M1) (k1 : stOk (M 85) g x y c → ∀ M1, Q (vi 1) M1) : PC sc n m_X12_stranger [vr 81, vi g, vi x, vi y, vi c] M Q := by
  refine pc_X12_stranger g x y c M fun n1 _ => p_isTen (fun h z hz => cI_i (brT hz (k0 (fun w => h w.1) _))) fun h1 z hz => cI_i (brF (by omega) (p_in (fun h z hz => cI_i (brT hz (k0 (fun w => h w.2.1) _))) fun h2 z hz => cI_i (brF (by omega) (p_in (fun h z hz => cI_i (brT hz (k0 (fun w => h w.2.2.1) _))) fun h3 z hz => cI_i (brF (by omega) (p_in (fun h z hz => cI_i (brT hz (k0 (fun w => h w.2.2.2.1) _))) fun h4 z hz => cI_i (brF (by omega) ?_)))))))
  rw [show w32 (8 * y) = 8 * y from ew32 (by omega) (by omega), show w32 (8 * y + x) = 8 * y + x from ew32 (by omega) (by omega)]
  exact gMB (brP (fun h => gMB (gMB (gMB (k1 ⟨h1, h2, h3, h4, h⟩ _)))) fun h => k0 (fun w => h w.2.2.2.2) _)
def stV (K : Nat → Int) (g x y c : Int) : Int := if stOk K g x y c then 1 else 0
def MdW_stranger (g x y c z : Int) (M1 : MM) : Prop := GdW M1 ∧ z = stV (M1 85) g x y c
theorem csW_stranger {g x y c : Int} (i0 : in32 g) (i1 : in32 x) (i2 : in32 y) (i3 : in32 c) (G : GdW M) : CA FF sc YF 59 m_X11_stranger [vr 0, vi g, vi x, vi y, vi c] M (fun r M1 => ∃ z, r = vi z ∧ MdW_stranger g x y c z M1) := by
  obtain ⟨T, hT, v0, v1, v2⟩ := id G.2.2
  have e : stOk (M (T + 1)) g x y c ↔ stOk (M 85) g x y c := by
    unfold stOk
    constructor
    · intro ⟨a, b, c, d, w⟩
      exact ⟨a, b, c, d, by rw [← v1 _ (by omega)]; exact w⟩
    · intro ⟨a, b, c, d, w⟩
      exact ⟨a, b, c, d, by rw [v1 _ (by omega)]; exact w⟩
  refine ((cdW (w := cw_stranger) G (by decide +kernel) (cf_stranger i0 i1 i2 i3 G.1)).and fun n => (PC.of (n := n) (cf_stranger i0 i1 i2 i3 G.1)).and (f_strangerC (Q := fun r _ => r = vi (stV (M 85) g x y c)) hT v0 (fun h _ => ?_) fun h _ => ?_)).mono fun r M1 q => ?_
  · unfold stV
    rw [if_neg fun w => h (e.mpr w)]
  · unfold stV
    rw [if_pos (e.mp h)]
  · obtain ⟨⟨z, hz, G1⟩, ⟨-, -, u, -⟩, h2⟩ := q
    exact ⟨_, h2, G1, by rw [show M1 85 = M 85 from funext (u 85 (by decide))]⟩
theorem msW_stranger {g x y c z : Int} (i0 : in32 g) (i1 : in32 x) (i2 : in32 y) (i3 : in32 c) (G : MdW_stranger g x y c z M) : CA FF sc YF 59 m_X12_stranger [vr 81, vi g, vi x, vi y, vi c] M (fun r M1 => ∃ w, r = vi w ∧ GdW M1 ∧ w = z) := by
  refine ((mdW (w := mw_stranger) G.1 (by decide +kernel) (mf_stranger i0 i1 i2 i3 G.1.1)).and fun n => f_strangerM (Q := fun r _ => r = vi (stV (M 85) g x y c)) (fun h _ => ?_) fun h _ => ?_).mono fun r M1 q => ?_
  · unfold stV
    rw [if_neg h]
  · unfold stV
    rw [if_pos h]
  · obtain ⟨⟨w, hw, G1⟩, h2⟩ := q
    exact ⟨_, h2, G1, G.2.symm⟩
end TWM
