/-! PART 74i: the two objects between calls: the hands are alike -/
def kHc : Nat := 77894081334563378764508707451908598634363875792546106220991280972045090113143756247350828053674522774404165906274379945792494917548310574063247841644081929897178637546129401264215614159952590061562154920415452396586835739484982091767625288759481559848471677444112808287056706983922605030201811478361890468927498235629942743709470298595236463543790410896095163738073479981402477878246455235112829189027769705658237222594837250410596602457047413758430150029851731582921543526442245527917224855827827816621485551057937401676948938343002233871424814483269902707836173007455043074627168642672708601404181510388085656853057668361672906095700421037654202545940344737030366578366357572799593982155560321323484375285391015752337555589179864820742955048320397684982749773202572245522578129312632534144771795735226370030108952558937781899103282137065731057232138475034306548038575468027244771033983289060691556811292977131791103945007556626409018279457155155668381388949742836902985341946964734897090584115806967893331511501620481794544357260889558504863310391891382713164805617024097058816
def kHm : Nat := 136463296143190893248608270448493439350683115492680876168052084053504347848230208722375209906076869052896867483336405778205506777456239889195254751404720423599579856449118314029926341504368322006603240157122006887052352260584975471045726061549619820648607756554188235927302932154082823424745427535138517580059079182622982686168676727690710935334448342460007367100561867135456783067679052102951400317012276134951220677587632400701520230272293254086707063940547096558198195514626721281109978221574265716600245431634321756621744578223204202373827769144701921045966576554196056970060980293619533928433186453353507013911472488607389879942226961158581983102948129771024741290918711867141329322484191740921199942462331436011459022932096376006918295087529275040622057226460294768158736873164896295787370042558898992854155666564193532882448277898007808308113824381101059122712514316163554759148112677775906195306236681686396788490593417118109795221283027915643461313084997048790069166784017136908040297590228133557442145725088062518371209254500411880163177906830996514771180615387008279317771117080559283592728213724115779513404643482957382469664877479312796595859302281778020642471019770499017623815420493209187703105389702345298322617865699570915924084404389440762446282722610745751786657870508782639953179354926522016193132125388647635168384872127501113720377058155353959691861068958416696771482741112205782377902024898232495297700869412310285703589011468114773032341441444122493462990197271846438150038505126527031879636442712010991816102134818364982453902134126098837819607952081210178294420328846596477281487277664888838996786702093101187275781647132137392059471589624135712505856
def GdH (M : MM) : Prop := axG M ∧ ∀ j, M 56 j = M 87 j
section HRM
variable {sc : List Int} {M M1 : MM}
theorem gd_freshH {M : MM} (hC : FrC M) (hM : FrM M) (hz : ∀ k, 121 ≤ k → ∀ j, M k j = 0) (hI : Inv FF YF M) : GdH M := ⟨(gd_fresh hC hM hz hI).1, fun j => (hC.at 56 j 0 (by decide) rfl).trans (hM.at 87 j 0 (by decide) rfl).symm⟩
theorem GdH.up {w : Nat} (G : GdH M) (g : axG M1) (u : UpX M M1) (kp : Keep w M M1) (e : kHc &&& w = kHc) : GdH M1 := ⟨g, fun j => by
  rw [(kp.w e).a (k := 56) rfl (by decide +kernel), u 87 (by decide) j]
  exact G.2 j⟩
theorem GdH.lo {w : Nat} (G : GdH M) (g : axG M1) (l : LoX M M1) (kp : Keep w M M1) (e : kHm &&& w = kHm) : GdH M1 := ⟨g, fun j => by
  rw [(kp.w e).a (k := 87) rfl (by decide +kernel), l 56 (by decide) j (.inl rfl)]
  exact G.2 j⟩
theorem cdH {w m : Nat} {as : List Vv} (G : GdH M) (e : kHc &&& w = kHc) (h : CA FF sc YF 59 m as M (cxF w M)) : CA FF sc YF 59 m as M (fun r M1 => ∃ x, r = vi x ∧ GdH M1) := h.mono fun r M1 q => by
  obtain ⟨⟨x, hx⟩, g, u, kp⟩ := q
  exact ⟨x, hx, G.up g u kp e⟩
theorem mdH {w m : Nat} {as : List Vv} (G : GdH M) (e : kHm &&& w = kHm) (h : CA FF sc YF 59 m as M (mxF w M)) : CA FF sc YF 59 m as M (fun r M1 => ∃ x, r = vi x ∧ GdH M1) := h.mono fun r M1 q => by
  obtain ⟨⟨x, hx⟩, g, l, kp⟩ := q
  exact ⟨x, hx, G.lo g l kp e⟩
theorem cdHL {w m : Nat} {as : List Vv} (G : GdH M) (e : kHc &&& w = kHc) (h : CA FF sc YF 59 m as M (cxFL w M)) : CA FF sc YF 59 m as M (fun r M1 => ∃ x, r = vl x ∧ GdH M1) := h.mono fun r M1 q => by
  obtain ⟨⟨x, hx⟩, g, u, kp⟩ := q
  exact ⟨x, hx, G.up g u kp e⟩
theorem mdHL {w m : Nat} {as : List Vv} (G : GdH M) (e : kHm &&& w = kHm) (h : CA FF sc YF 59 m as M (mxFL w M)) : CA FF sc YF 59 m as M (fun r M1 => ∃ x, r = vl x ∧ GdH M1) := h.mono fun r M1 q => by
  obtain ⟨⟨x, hx⟩, g, l, kp⟩ := q
  exact ⟨x, hx, G.lo g l kp e⟩
/-! quarter -/
def MdH_quarter (_v _x : Int) (M1 : MM) : Prop := GdH M1
theorem csH_quarter {v : Int} (i0 : in32 v) (G : GdH M) : CA FF sc YF 59 m_X11_quarter [vr 0, vi v] M (fun r M1 => ∃ x, r = vi x ∧ MdH_quarter v x M1) := by
  have go : ∀ T S : Nat, ((T = 57 ∧ S = 61) ∨ (T = 61 ∧ S = 57)) → M 0 10 = (T : Int) + 1 → M 0 11 = (S : Int) + 1 → CA FF sc YF 59 m_X11_quarter [vr 0, vi v] M (fun r M1 => ∃ x, r = vi x ∧ MdH_quarter v x M1) := fun T S hTS e10 e11 => ((cf_quarter i0 G.1).and fun n => f_quarterC (Q := fun _ M1 => M1 56 = M 56) (t := M 2) hTS (fun _ => rfl) e10 e11 (fun _ => rfl) (fun _ _ M1 f _ => f 56 (by omega) (by decide)) (fun _ _ M1 f _ _ _ _ _ _ => f 56 (by omega) (by decide) (by decide) (by decide) (by decide) (by decide) (by decide))).mono fun r M1 q => by
    obtain ⟨⟨⟨x, hx⟩, g, u, -⟩, h⟩ := q
    exact ⟨x, hx, g, fun j => by rw [h, u 87 (by decide) j]; exact G.2 j⟩
  rcases id G.1.2.2.1 with ⟨e10, e11⟩ | ⟨e10, e11⟩
  · exact go 57 61 (.inl ⟨rfl, rfl⟩) e10 e11
  · exact go 61 57 (.inr ⟨rfl, rfl⟩) e10 e11
theorem msH_quarter {v x : Int} (i0 : in32 v) (G : MdH_quarter v x M) : CA FF sc YF 59 m_X12_quarter [vr 81, vi v] M (fun r M1 => ∃ y, r = vi y ∧ GdH M1) := mdH (w := mw_quarter) G (by decide +kernel) (mf_quarter i0 G.1)
/-! walk -/
def MdH_walk (_h _v _x : Int) (M1 : MM) : Prop := GdH M1
theorem csH_walk {h v : Int} (i0 : in32 h) (i1 : in32 v) (G : GdH M) : CA FF sc YF 59 m_X11_walk [vr 0, vi h, vi v] M (fun r M1 => ∃ x, r = vi x ∧ MdH_walk h v x M1) := ((cf_walk i0 i1 G.1).and fun n => f_walkC (Q := fun _ M1 => M1 56 = M 56) (t := M 2) (fun _ => rfl) (fun _ => rfl) (fun _ _ M1 f _ => f 56 (by decide) (by decide) (by decide) (by decide) (by decide) (by decide)) fun h _ _ _ _ M1 f _ _ _ => f 56 (by decide) (by decide) (by decide) (by omega) (by decide) (by decide) (by decide) (by decide)).mono fun r M1 q => by
  obtain ⟨⟨⟨x, hx⟩, g, u, -⟩, h⟩ := q
  exact ⟨x, hx, g, fun j => by rw [h, u 87 (by decide) j]; exact G.2 j⟩
theorem msH_walk {h v x : Int} (i0 : in32 h) (i1 : in32 v) (G : MdH_walk h v x M) : CA FF sc YF 59 m_X12_walk [vr 81, vi h, vi v] M (fun r M1 => ∃ y, r = vi y ∧ GdH M1) := ((mf_walk i0 i1 G.1).and fun n => f_walkM (D0 := fun _ => 0) (Q := fun _ M1 => M1 87 = M 87) (t := tpY M) (tpY_m G.1.1) (fun _ => rfl) (fun _ _ M1 f _ _ => f.1 87 (by decide) (by decide) (by decide) (by decide) (by decide) (by decide) (by decide)) fun _ _ _ _ _ _ M1 f _ _ _ => f.1 87 (by decide) (by decide) (by decide) (by decide) (by decide) (by decide) (by decide)).mono fun r M1 q => by
  obtain ⟨⟨⟨y, hy⟩, g, l, -⟩, h⟩ := q
  exact ⟨y, hy, g, fun j => by rw [h, l 56 (by decide) j (.inl rfl)]; exact G.2 j⟩
/-! hand -/
def MdH_hand (h m _x : Int) (M1 : MM) : Prop := axG M1 ∧ M1 56 = hndV (M1 87) h m
theorem csH_hand {h m : Int} (_i0 : in32 h) (_i1 : in32 m) (G : GdH M) : CA FF sc YF 59 m_X11_hand [vr 0, vi h, vi m] M (fun r M1 => ∃ x, r = vi x ∧ MdH_hand h m x M1) := s_hndX (d := 56) G.1 fun r M1 g u e => ⟨r, rfl, g, by
  rw [e, show M 56 = M1 87 from funext fun j => (G.2 j).trans (u 87 (by decide) j).symm]⟩
theorem msH_hand {h m x : Int} (_i0 : in32 h) (_i1 : in32 m) (G : MdH_hand h m x M) : CA FF sc YF 59 m_X12_hand [vr 81, vi h, vi m] M (fun r M1 => ∃ y, r = vi y ∧ GdH M1) := s_hndM (d := 57) G.1 fun r M1 g l e => ⟨r, rfl, g, fun j => by
  rw [e, ← G.2]
  exact l 56 (by decide) j (.inl rfl)⟩
/-! ledger -/
def MdH_ledger (m b hs w x : Int) (M1 : MM) : Prop := GdH M1 ∧ x = ledV (M1 87) m b hs w
theorem csH_ledger {m b hs w : Int} (i0 : in32 m) (i1 : in32 b) (i2 : in32 hs) (i3 : in32 w) (G : GdH M) : CA FF sc YF 59 m_X11_ledger [vr 0, vi m, vi b, vi hs, vi w] M (fun r M1 => ∃ x, r = vi x ∧ MdH_ledger m b hs w x M1) := s_ledX (d := 56) ⟨_, rfl, G, by rw [show M 56 = M 87 from funext G.2]⟩
theorem msH_ledger {m b hs w x : Int} (i0 : in32 m) (i1 : in32 b) (i2 : in32 hs) (i3 : in32 w) (G : MdH_ledger m b hs w x M) : CA FF sc YF 59 m_X12_ledger [vr 81, vi m, vi b, vi hs, vi w] M (fun r M1 => ∃ y, r = vi y ∧ GdH M1 ∧ y = x) := s_ledM (d := 56) ⟨_, rfl, G.1, G.2.symm⟩
end HRM
