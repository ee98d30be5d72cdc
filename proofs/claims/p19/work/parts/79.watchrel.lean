/-! PART 79: the two objects between calls: what one sees is right too (or no house stands); watch -/
def kSc : Nat := 1044388881413152506691752710716624382583033432122790702179113408242145234239546560099861019554523088394600883022090873440497449879918656948474828385783320508189201108761041764271092758007188409956161661419355936035946137374480131213781223049735107744136128805366192407163964121704933669463261431604677398873430258523729520054690459082088898971023310171721514180837584041209888304980407688497452890729896628183611201796799915358646320833836539286293445701759692003369675410257929274581303437618775399254938861163877860460238413175367922982095540095685777488165784679224151972790117296865942995785664367731191859069984959961609573825197161922753460315203211843198318023159795133848774279537141153299071582944052125921764341526371714948086102071791947258026712710158154628780379900419539503786749409234507870500109326213800760484234487844270196775965284075294026689776607760992285130808677999817780995138843515272860694630787804642214307165073605621420067200906321491361140837490010923598562203351070625637194205347250334824207020089101467257877971628866081256862378005540471685121886683089039376327832754683633360371055809181121115909803069982334191370025122338780667965746552917765674923206319309739197586618598001980051382131243353088
def kZc : Nat := 1044388881413152506748369145424016673076864040809133994093027615509474855728156064177304112552784047169181341417944880247597669994575703443322650430068744140877567104518666092856617798265506181977567269803620213642216673659338205102439971328629747402291013581020852228860994491596403266560182444010115636601558684658600954970514716916890976734067176057522606595440412930143960442196127259726521439002801467950933168295464171488534215177863121208951512973638338070896768999707205530856348229978809997274135074079829078648353533602409427193819019500411432302379288519784248822287988818663969259325796550246721657250895093787901904892413490071874784711927981938308566786231616441580878087759918218894784837177231040356557535617252632547894122481410693802187650119072561003986013246631041640231465475744706781658517094388612150489093167390925023786874123102673399140232977169011686390658560667434989036219287771205021683887175670572878234295532557926522557865534994750352151463653772022090323764435495588236597732358125925691393962067373177647623335747141495098680151466823160922681813459598433981995744192012203795088404371351738791035357073756189920049758398516396188717968609744145260659542860573642902389871861352512319933007349679104
def rS2 (M : MM) : Prop := ∃ T : Nat, (T = 57 ∨ T = 61) ∧ M 0 10 = (T : Int) + 1 ∧ ∀ f t : Nat, f < 64 → t < 64 → bil (M (T + 3) f) t = seeB (M (T + 1)) f t
/-- no house stands, or the class knows what one sees -/
def rS (M : MM) : Prop := (∀ h, h < 10 → M 86 h < 0) ∨ rS2 M
section TSM
variable {sc : List Int} {M M1 : MM}
theorem rS2.eq (V : rS2 M) (h0 : M1 0 10 = M 0 10) (h58 : ∀ j, j < 64 → M1 58 j = M 58 j) (h60 : ∀ j, j < 64 → M1 60 j = M 60 j) (h62 : ∀ j, j < 64 → M1 62 j = M 62 j) (h64 : ∀ j, j < 64 → M1 64 j = M 64 j) : rS2 M1 := by
  obtain ⟨T, hT, v0, v1⟩ := V
  have a : (∀ j, j < 64 → M1 (T + 1) j = M (T + 1) j) ∧ ∀ j, j < 64 → M1 (T + 3) j = M (T + 3) j := by
    rcases hT with h | h
    · subst h
      exact ⟨h58, h60⟩
    · subst h
      exact ⟨h62, h64⟩
  exact ⟨T, hT, h0.trans v0, fun f t hf ht => by rw [a.2 f hf, seeB_K a.1]; exact v1 f t hf ht⟩
theorem rS.eq (V : rS M) (h86 : ∀ j, M1 86 j = M 86 j) (h0 : M1 0 10 = M 0 10) (h58 : ∀ j, j < 64 → M1 58 j = M 58 j) (h60 : ∀ j, j < 64 → M1 60 j = M 60 j) (h62 : ∀ j, j < 64 → M1 62 j = M 62 j) (h64 : ∀ j, j < 64 → M1 64 j = M 64 j) : rS M1 := by
  rcases V with V | V
  · exact .inl fun h hh => by rw [h86]; exact V h hh
  · exact .inr (V.eq h0 h58 h60 h62 h64)
theorem rS.up {w : Nat} (V : rS M) (u : UpX M M1) (kp : Keep w M M1) (e : kSc &&& w = kSc) : rS M1 := by
  have k := kp.w e
  exact V.eq (u 86 (by decide)) (k.o rfl (by decide +kernel)) (fun j _ => congrFun (k.a rfl (by decide +kernel)) j) (fun j _ => congrFun (k.a rfl (by decide +kernel)) j) (fun j _ => congrFun (k.a rfl (by decide +kernel)) j) (fun j _ => congrFun (k.a rfl (by decide +kernel)) j)
theorem rS2.lo (V : rS2 M) (l : LoX M M1) : rS2 M1 := V.eq (l 0 (by decide) 10 (.inr (by decide))) (fun j hj => l 58 (by decide) j (.inr hj)) (fun j hj => l 60 (by decide) j (.inr hj)) (fun j hj => l 62 (by decide) j (.inr hj)) (fun j hj => l 64 (by decide) j (.inr hj))
theorem rS.lo1 (V : rS M) (l : LoX M M1) (h86 : ∀ j, M1 86 j = M 86 j) : rS M1 := V.eq h86 (l 0 (by decide) 10 (.inr (by decide))) (fun j hj => l 58 (by decide) j (.inr hj)) (fun j hj => l 60 (by decide) j (.inr hj)) (fun j hj => l 62 (by decide) j (.inr hj)) (fun j hj => l 64 (by decide) j (.inr hj))
theorem rS.lo {w : Nat} (V : rS M) (l : LoX M M1) (kp : Keep w M M1) (e : kVm &&& w = kVm) : rS M1 := V.lo1 l fun j => congrFun ((kp.w e).a rfl (by decide +kernel)) j
def GdS (M : MM) : Prop := axG M ∧ rT M ∧ rW M ∧ (rK M ∧ rD M) ∧ rS M
theorem GdS.x (G : GdS M) : GdX M := ⟨G.1, G.2.1, G.2.2.1, G.2.2.2.1.1, G.2.2.2.1.2⟩
theorem GdS.of (G : GdX M) (V : rS M) : GdS M := ⟨G.1, G.2.1, G.2.2.1, ⟨G.2.2.2.1, G.2.2.2.2⟩, V⟩
theorem gd_freshS {M : MM} (hC : FrC M) (hM : FrM M) (hz : ∀ k, 121 ≤ k → ∀ j, M k j = 0) (hI : Inv FF YF M) : GdS M := by
  have e86 : ∀ j, j < 10 → M0 86 j < 0 := by decide +kernel
  exact GdS.of (gd_freshX hC hM hz hI) (.inl fun h hh => by rw [hM.at 86 h _ (by decide) rfl]; exact e86 h hh)
theorem cdS {w m : Nat} {as : List Vv} (G : GdS M) (e : kZc &&& w = kZc) (h : CA FF sc YF 59 m as M (cxF w M)) : CA FF sc YF 59 m as M (fun r M1 => ∃ x, r = vi x ∧ GdS M1) := by
  refine ((cdX (w := kZc) G.x (by decide +kernel) (h.mono fun r M1 q => ⟨q.1, q.2.1, q.2.2.1, q.2.2.2.w e⟩)).and fun n => PC.of (n := n) h).mono fun r M1 q => ?_
  obtain ⟨⟨x, hx, G1⟩, -, -, u, kp⟩ := q
  exact ⟨x, hx, GdS.of G1 (G.2.2.2.2.up u (kp.w e) (by decide +kernel))⟩
theorem mdS {w m : Nat} {as : List Vv} (G : GdS M) (e : kXm &&& w = kXm) (h : CA FF sc YF 59 m as M (mxF w M)) : CA FF sc YF 59 m as M (fun r M1 => ∃ x, r = vi x ∧ GdS M1) := by
  refine ((mdX G.x e h).and fun n => PC.of (n := n) h).mono fun r M1 q => ?_
  obtain ⟨⟨x, hx, G1⟩, -, -, l, kp⟩ := q
  exact ⟨x, hx, GdS.of G1 (G.2.2.2.2.lo l (kp.w e) (by decide +kernel))⟩
theorem cdSL {w m : Nat} {as : List Vv} (G : GdS M) (e : kZc &&& w = kZc) (h : CA FF sc YF 59 m as M (cxFL w M)) : CA FF sc YF 59 m as M (fun r M1 => ∃ x, r = vl x ∧ GdS M1) := by
  refine ((cdXL (w := kZc) G.x (by decide +kernel) (h.mono fun r M1 q => ⟨q.1, q.2.1, q.2.2.1, q.2.2.2.w e⟩)).and fun n => PC.of (n := n) h).mono fun r M1 q => ?_
  obtain ⟨⟨x, hx, G1⟩, -, -, u, kp⟩ := q
  exact ⟨x, hx, GdS.of G1 (G.2.2.2.2.up u (kp.w e) (by decide +kernel))⟩
theorem mdSL {w m : Nat} {as : List Vv} (G : GdS M) (e : kXm &&& w = kXm) (h : CA FF sc YF 59 m as M (mxFL w M)) : CA FF sc YF 59 m as M (fun r M1 => ∃ x, r = vl x ∧ GdS M1) := by
  refine ((mdXL G.x e h).and fun n => PC.of (n := n) h).mono fun r M1 q => ?_
  obtain ⟨⟨x, hx, G1⟩, -, -, l, kp⟩ := q
  exact ⟨x, hx, GdS.of G1 (G.2.2.2.2.lo l (kp.w e) (by decide +kernel))⟩
/-! feed -/
def MdS_feed (a0 a1 a2 a3 a4 x : Int) (M1 : MM) : Prop := MdX_feed a0 a1 a2 a3 a4 x M1 ∧ rS M1
theorem csS_feed {a0 a1 a2 a3 a4 : Int} (i0 : in32 a0) (i1 : in32 a1) (i2 : in32 a2) (i3 : in32 a3) (i4 : in32 a4) (G : GdS M) : CA FF sc YF 59 m_X11_feed [vr 0, vi a0, vi a1, vi a2, vi a3, vi a4] M (fun r M1 => ∃ x, r = vi x ∧ MdS_feed a0 a1 a2 a3 a4 x M1) := ((csX_feed i0 i1 i2 i3 i4 G.x).and fun _ => PC.of (cf_feed i0 i1 i2 i3 i4 G.1)).mono fun r M1 q => by
  obtain ⟨⟨x, hx, p⟩, -, -, u, kp⟩ := q
  exact ⟨x, hx, p, G.2.2.2.2.up u kp (by decide +kernel)⟩
theorem msS_feed {a0 a1 a2 a3 a4 x : Int} (i0 : in32 a0) (i1 : in32 a1) (i2 : in32 a2) (i3 : in32 a3) (i4 : in32 a4) (G : MdS_feed a0 a1 a2 a3 a4 x M) : CA FF sc YF 59 m_X12_feed [vr 81, vi a0, vi a1, vi a2, vi a3, vi a4] M (fun r M1 => ∃ y, r = vi y ∧ GdS M1) := ((msX_feed i0 i1 i2 i3 i4 G.1).and fun _ => PC.of (mf_feed i0 i1 i2 i3 i4 G.1.1.1.1)).mono fun r M1 q => by
  obtain ⟨⟨y, hy, p⟩, -, -, l, kp⟩ := q
  exact ⟨y, hy, GdS.of p (G.2.lo l kp (by decide +kernel))⟩
/-! law -/
def MdS_law (a0 x : Int) (M1 : MM) : Prop := MdX_law a0 x M1 ∧ rS M1
theorem csS_law {a0 : Int} (i0 : in32 a0) (G : GdS M) : CA FF sc YF 59 m_X11_law [vr 0, vi a0] M (fun r M1 => ∃ x, r = vi x ∧ MdS_law a0 x M1) := ((csX_law i0 G.x).and fun _ => PC.of (cf_law i0 G.1)).mono fun r M1 q => by
  obtain ⟨⟨x, hx, p⟩, -, -, u, kp⟩ := q
  exact ⟨x, hx, p, G.2.2.2.2.up u kp (by decide +kernel)⟩
theorem msS_law {a0 x : Int} (i0 : in32 a0) (G : MdS_law a0 x M) : CA FF sc YF 59 m_X12_law [vr 81, vi a0] M (fun r M1 => ∃ y, r = vi y ∧ GdS M1) := ((msX_law i0 G.1).and fun _ => PC.of (mf_law i0 G.1.1.1.1)).mono fun r M1 q => by
  obtain ⟨⟨y, hy, p⟩, -, -, l, kp⟩ := q
  exact ⟨y, hy, GdS.of p (G.2.lo l kp (by decide +kernel))⟩
/-! sightings -/
def MdS_sightings (a0 a1 x : Int) (M1 : MM) : Prop := MdX_sightings a0 a1 x M1 ∧ rS M1
theorem csS_sightings {a0 a1 : Int} (i0 : in32 a0) (i1 : in32 a1) (G : GdS M) : CA FF sc YF 59 m_X11_sightings [vr 0, vi a0, vi a1] M (fun r M1 => ∃ x, r = vi x ∧ MdS_sightings a0 a1 x M1) := ((csX_sightings i0 i1 G.x).and fun _ => PC.of (cf_sightings i0 i1 G.1)).mono fun r M1 q => by
  obtain ⟨⟨x, hx, p⟩, -, -, u, kp⟩ := q
  exact ⟨x, hx, p, G.2.2.2.2.up u kp (by decide +kernel)⟩
theorem msS_sightings {a0 a1 x : Int} (i0 : in32 a0) (i1 : in32 a1) (G : MdS_sightings a0 a1 x M) : CA FF sc YF 59 m_X12_sightings [vr 81, vi a0, vi a1] M (fun r M1 => ∃ y, r = vi y ∧ GdS M1) := ((msX_sightings i0 i1 G.1).and fun _ => PC.of (mf_sightings i0 i1 G.1.1.1.1)).mono fun r M1 q => by
  obtain ⟨⟨y, hy, p⟩, -, -, l, kp⟩ := q
  exact ⟨y, hy, GdS.of p (G.2.lo l kp (by decide +kernel))⟩
/-! tax -/
def MdS_tax (a0 x : Int) (M1 : MM) : Prop := MdX_tax a0 x M1 ∧ rS M1
theorem csS_tax {a0 : Int} (i0 : in32 a0) (G : GdS M) : CA FF sc YF 59 m_X11_tax [vr 0, vi a0] M (fun r M1 => ∃ x, r = vi x ∧ MdS_tax a0 x M1) := ((csX_tax i0 G.x).and fun _ => PC.of (cf_tax i0 G.1)).mono fun r M1 q => by
  obtain ⟨⟨x, hx, p⟩, -, -, u, kp⟩ := q
  exact ⟨x, hx, p, G.2.2.2.2.up u kp (by decide +kernel)⟩
theorem msS_tax {a0 x : Int} (i0 : in32 a0) (G : MdS_tax a0 x M) : CA FF sc YF 59 m_X12_tax [vr 81, vi a0] M (fun r M1 => ∃ y, r = vi y ∧ GdS M1) := ((msX_tax i0 G.1).and fun _ => PC.of (mf_tax i0 G.1.1.1.1)).mono fun r M1 q => by
  obtain ⟨⟨y, hy, p⟩, -, -, l, kp⟩ := q
  exact ⟨y, hy, GdS.of p (G.2.lo l kp (by decide +kernel))⟩
/-! check -/
def MdS_check (a0 x : Int) (M1 : MM) : Prop := MdX_check a0 x M1 ∧ rS M1
theorem csS_check {a0 : Int} (i0 : in32 a0) (G : GdS M) : CA FF sc YF 59 m_X11_check [vr 0, vi a0] M (fun r M1 => ∃ x, r = vi x ∧ MdS_check a0 x M1) := ((csX_check i0 G.x).and fun _ => PC.of (cf_check i0 G.1)).mono fun r M1 q => by
  obtain ⟨⟨x, hx, p⟩, -, -, u, kp⟩ := q
  exact ⟨x, hx, p, G.2.2.2.2.up u kp (by decide +kernel)⟩
theorem msS_check {a0 x : Int} (i0 : in32 a0) (G : MdS_check a0 x M) : CA FF sc YF 59 m_X12_check [vr 81, vi a0] M (fun r M1 => ∃ y, r = vi y ∧ GdS M1) := ((msX_check i0 G.1).and fun _ => PC.of (mf_check i0 G.1.1.1.1)).mono fun r M1 q => by
  obtain ⟨⟨y, hy, p⟩, -, -, l, kp⟩ := q
  exact ⟨y, hy, GdS.of p (G.2.lo l kp (by decide +kernel))⟩
/-! walk -/
def MdS_walk (a0 a1 x : Int) (M1 : MM) : Prop := MdX_walk a0 a1 x M1 ∧ rS M1
theorem csS_walk {a0 a1 : Int} (i0 : in32 a0) (i1 : in32 a1) (G : GdS M) : CA FF sc YF 59 m_X11_walk [vr 0, vi a0, vi a1] M (fun r M1 => ∃ x, r = vi x ∧ MdS_walk a0 a1 x M1) := ((csX_walk i0 i1 G.x).and fun n => (PC.of (n := n) (cf_walk i0 i1 G.1)).and (f_walkC (Q := fun _ M1 => M1 0 10 = M 0 10 ∧ M1 58 = M 58 ∧ M1 60 = M 60 ∧ M1 62 = M 62 ∧ M1 64 = M 64) (t := tpY M) G.x.w.t.c (fun _ => ⟨rfl, rfl, rfl, rfl, rfl⟩) (fun _ _ M1 f _ => ⟨congrFun (f 0 (by decide) (by decide) (by decide) (by decide) (by decide) (by decide)) 10, f 58 (by decide) (by decide) (by decide) (by decide) (by decide) (by decide), f 60 (by decide) (by decide) (by decide) (by decide) (by decide) (by decide), f 62 (by decide) (by decide) (by decide) (by decide) (by decide) (by decide), f 64 (by decide) (by decide) (by decide) (by decide) (by decide) (by decide)⟩) fun h _ _ _ _ M1 f _ _ _ => ⟨congrFun (f 0 (by decide) (by decide) (by decide) (by omega) (by decide) (by decide) (by decide) (by decide)) 10, f 58 (by decide) (by decide) (by decide) (by omega) (by decide) (by decide) (by decide) (by decide), f 60 (by decide) (by decide) (by decide) (by omega) (by decide) (by decide) (by decide) (by decide), f 62 (by decide) (by decide) (by decide) (by omega) (by decide) (by decide) (by decide) (by decide), f 64 (by decide) (by decide) (by decide) (by omega) (by decide) (by decide) (by decide) (by decide)⟩)).mono fun r M1 q => by
  obtain ⟨⟨x, hx, p⟩, ⟨-, -, u, -⟩, h0, h58, h60, h62, h64⟩ := q
  exact ⟨x, hx, p, G.2.2.2.2.eq (u 86 (by decide)) h0 (fun j _ => congrFun h58 j) (fun j _ => congrFun h60 j) (fun j _ => congrFun h62 j) (fun j _ => congrFun h64 j)⟩
theorem msS_walk {a0 a1 x : Int} (i0 : in32 a0) (i1 : in32 a1) (G : MdS_walk a0 a1 x M) : CA FF sc YF 59 m_X12_walk [vr 81, vi a0, vi a1] M (fun r M1 => ∃ y, r = vi y ∧ GdS M1) := ((msX_walk i0 i1 G.1).and fun n => (PC.of (n := n) (mf_walk i0 i1 G.1.1.1.1.1)).and (f_walkM (D0 := fun _ => 0) (Q := fun _ M1 => M1 86 = M 86) (t := tpY M) (tpY_m G.1.1.1.1.1.1) (fun _ => rfl) (fun _ _ M1 f _ _ => f.1 86 (by decide) (by decide) (by decide) (by decide) (by decide) (by decide) (by decide)) fun _ _ _ _ _ _ M1 f _ _ _ => f.1 86 (by decide) (by decide) (by decide) (by decide) (by decide) (by decide) (by decide))).mono fun r M1 q => by
  obtain ⟨⟨y, hy, p⟩, ⟨-, -, l, -⟩, h86⟩ := q
  exact ⟨y, hy, GdS.of p (G.2.lo1 l (congrFun h86))⟩
/-! quarter -/
def MdS_quarter (v x : Int) (M1 : MM) : Prop := MdX_quarter v x M1 ∧ (¬ (1 ≤ v ∧ v ≤ 120 ∧ v ≤ M1 81 10) → rS M1) ∧ ((1 ≤ v ∧ v ≤ 120 ∧ v ≤ M1 81 10) → ∃ K H : Nat → Int, (∀ h, h < 10 → H h = -1) ∧ ((qzY (tpY M1) v.toNat K H).1 < 0 → rS M1) ∧ (¬ (qzY (tpY M1) v.toNat K H).1 < 0 → rS2 M1))
theorem csS_quarter {v : Int} (i0 : in32 v) (G : GdS M) : CA FF sc YF 59 m_X11_quarter [vr 0, vi v] M (fun r M1 => ∃ x, r = vi x ∧ MdS_quarter v x M1) := by
  have go : ∀ T S : Nat, ((T = 57 ∧ S = 61) ∨ (T = 61 ∧ S = 57)) → M 0 10 = (T : Int) + 1 → M 0 11 = (S : Int) + 1 → CA FF sc YF 59 m_X11_quarter [vr 0, vi v] M (fun r M1 => ∃ x, r = vi x ∧ MdS_quarter v x M1) := fun T S hTS e10 e11 => by
    have hS : S = 57 ∨ S = 61 := by omega
    have kep : ∀ M1 : MM, (∀ c, (c < S ∨ S + 3 < c) → c ≠ 1 → M1 c = M c) → UpX M M1 → rS M1 := fun M1 f u => by
      rcases G.2.2.2.2 with V | V
      · exact .inl fun h hh => by rw [u 86 (by decide) h]; exact V h hh
      · obtain ⟨T2, hT2, v0, v1⟩ := V
        have hT3 : T2 = T := by omega
        subst hT3
        exact .inr ⟨T2, hT2, by rw [f 0 (by omega) (by decide)]; exact v0, fun a b ha hb => by rw [f (T2 + 3) (by omega) (by omega), f (T2 + 1) (by omega) (by omega)]; exact v1 a b ha hb⟩
    refine ((csX_quarter i0 G.x).and fun n => (PC.of (n := n) (cf_quarter i0 G.1)).and (f_quarterC (Q := fun r M1 => (¬ (1 ≤ v ∧ v ≤ 120 ∧ v ≤ M 1 1) → M1 = M) ∧ ((1 ≤ v ∧ v ≤ 120 ∧ v ≤ M 1 1) → ∃ K H : Nat → Int, (∀ h, h < 10 → H h = -1) ∧ ((qzY (tpY M) v.toNat K H).1 < 0 → ∀ c, (c < S ∨ S + 3 < c) → c ≠ 1 → M1 c = M c) ∧ (¬ (qzY (tpY M) v.toNat K H).1 < 0 → rS2 M1))) (t := tpY M) hTS G.x.w.t.c e10 e11 (fun h => ⟨fun _ => rfl, fun z => absurd z h⟩) (fun h z M1 f e1 => ⟨fun y => absurd h y, fun _ => ⟨upK (M (S + 1)) 0 64 0, upK (M (S + 2)) 0 10 (-1), fun h hh => upK_at (by omega), fun _ => f, fun y => absurd z y⟩⟩) (fun h z M1 f e1 e0 k1 k2 k3 _ => ⟨fun y => absurd h y, fun _ => ⟨upK (M (S + 1)) 0 64 0, upK (M (S + 2)) 0 10 (-1), fun h hh => upK_at (by omega), fun y => absurd y z, fun _ => ⟨S, hS, ?_, fun a b ha hb => by rw [k1]; exact k3 a b ha hb⟩⟩⟩))).mono fun r M1 q => ?_
    · rw [e0]
      rfl
    · obtain ⟨⟨x, hx, p⟩, ⟨-, -, u, -⟩, q1, q2⟩ := q
      have e10 : M 1 1 = M1 81 10 := G.2.1.1.trans (u 81 (by decide) 10).symm
      rw [e10] at q1 q2
      refine ⟨x, hx, p, fun h => by rw [q1 h]; exact G.2.2.2.2, fun h => ?_⟩
      obtain ⟨K, H, hH, a1, a2⟩ := q2 h
      rw [tpY_up u]
      exact ⟨K, H, hH, fun y => kep M1 (a1 y) u, a2⟩
  rcases id G.1.2.2.1 with ⟨e10, e11⟩ | ⟨e10, e11⟩
  · exact go 57 61 (.inl ⟨rfl, rfl⟩) e10 e11
  · exact go 61 57 (.inr ⟨rfl, rfl⟩) e10 e11
theorem msS_quarter {v x : Int} (i0 : in32 v) (G : MdS_quarter v x M) : CA FF sc YF 59 m_X12_quarter [vr 81, vi v] M (fun r M1 => ∃ y, r = vi y ∧ GdS M1) := by
  obtain ⟨G1, G2, G3⟩ := G
  have ag := G1.1.1.1
  have h30 := ag.1 82 30
  have h30 : 0 ≤ M 82 30 ∧ M 82 30 ≤ 1023 := h30
  have go : ∀ K H : Nat → Int, (∀ h, h < 10 → H h = -1) → ((1 ≤ v ∧ v ≤ 120 ∧ v ≤ M 81 10) → ((qzY (tpY M) v.toNat K H).1 < 0 → rS M) ∧ (¬ (qzY (tpY M) v.toNat K H).1 < 0 → rS2 M)) → CA FF sc YF 59 m_X12_quarter [vr 81, vi v] M (fun r M1 => ∃ y, r = vi y ∧ GdS M1) := fun K H hH hK => ((msX_quarter i0 G1).and fun n => (PC.of (n := n) (mf_quarter i0 ag)).and (f_quarterM (K0 := K) (H0 := H) (Q := fun r M1 => LoX M M1 → rS M1) (t := tpY M) (tpY_r M) hH (tpY_m ag.1) (by omega) (fun h _ => G2 h) (fun h z M1 f f81 e l => ((hK h).1 z).lo1 l (congrFun (f 86 (by decide) (by decide) (by decide)))) (fun h z M1 f l => .inr (((hK h).2 z).lo l)))).mono fun r M1 q => by
    obtain ⟨⟨y, hy, p⟩, ⟨-, -, l, -⟩, k⟩ := q
    exact ⟨y, hy, GdS.of p (k l)⟩
  by_cases ok : 1 ≤ v ∧ v ≤ 120 ∧ v ≤ M 81 10
  · obtain ⟨K, H, hH, a1, a2⟩ := G3 ok
    exact go K H hH fun _ => ⟨a1, a2⟩
  · exact go (fun _ => 0) (fun _ => -1) (fun _ _ => rfl) fun z => absurd z ok
/-! watch -/
def waF (M : MM) (h : Nat) : Nat → Int := posV (M 85) (fun j => M 89 (60 * h + j)) (M 88 h).toNat (M 86 h)
def waA (M : MM) (w : Int) : Int := waV (M 85) (allL (waF M) (fun h => (M 88 h).toNat) (M 86) 10) w
theorem waA_up {w : Int} (u : UpX M M1) : waA M1 w = waA M w := by
  have e : ∀ k, 81 ≤ k → M1 k = M k := fun k hk => funext fun i => u k hk i
  unfold waA waF
  rw [e 85 (by decide), e 86 (by decide), e 88 (by decide), e 89 (by decide)]
theorem waV_K {K K' : Nat → Int} (h : ∀ j, j < 64 → K j = K' j) (P : List Int) (w : Int) : waV K P w = waV K' P w := by
  have e := chM_eq (A := fun s => if K s = 0 then snV (seeB K s) P else -1) (A' := fun s => if K' s = 0 then snV (seeB K' s) P else -1) 64 fun s hs => by
    show (if K s = 0 then snV (seeB K s) P else -1) = (if K' s = 0 then snV (seeB K' s) P else -1)
    rw [h s hs, show seeB K (s : Int) = seeB K' (s : Int) from funext fun t => seeB_K h _ t]
  unfold waV
  rw [e]
def MdS_watch (w x : Int) (M1 : MM) : Prop := GdS M1 ∧ x = waA M1 w
theorem csS_watch {w : Int} (i0 : in32 w) (G : GdS M) : CA FF sc YF 59 m_X11_watch [vr 0, vi w] M (fun r M1 => ∃ x, r = vi x ∧ MdS_watch w x M1) := by
  obtain ⟨T, hT, v0, v1, v2⟩ := id G.2.2.1
  have hr : ∀ i, -1 ≤ M (T + 2) i ∧ M (T + 2) i ≤ 63 := fun i => by
    rcases hT with e | e
    · subst e
      exact rA_59 G.1.1 i
    · subst e
      exact rA_63 G.1.1 i
  have hh : ∀ g, g < 10 → (M (T + 2) g = -1 ∧ M 86 g < 0) ∨ (M (T + 2) g = M 86 g ∧ 0 ≤ M 86 g ∧ M 86 g ≤ 63) := fun g hg => by
    have e := v2 g hg
    have r := hr g
    unfold hm at e
    by_cases c : M (T + 2) g = -1
    · rw [if_pos c] at e
      exact .inl ⟨c, by omega⟩
    · rw [if_neg c] at e
      exact .inr ⟨e, by omega, by omega⟩
  have h88 : ∀ g, 0 ≤ M 88 g ∧ M 88 g ≤ 60 := rA_88 G.1.1
  refine ((cdS (w := cw_watch) G (by decide +kernel) (cf_watch i0 G.1)).and fun n => (PC.of (n := n) (cf_watch i0 G.1)).and (f_watchC (F := waF M) (sz := fun h => (M 88 h).toNat) (A := M 86) (Q := fun r _ => r = vi (waA M w)) hT v0 hh (fun g hg => ?_) (fun g => ?_) (rA_6h G.1.1) (fun g hg i => ?_) (allL_m (F := waF M) (fun h hA i => posV_r ⟨hA, (rA_86 G.1.1 h).2⟩ i) 10) ?_ fun M1 => ?_)).mono fun r M1 q => ?_
  · have := h88 g
    rw [(G.2.2.2.1.1 g hg).1]
    omega
  · have := h88 g
    show (M 88 g).toNat ≤ 60
    omega
  · have := h88 g
    exact (posV_K v1 (fun j hj => (G.2.2.2.1.1 g hg).2 j (by have hj : j < (M 88 g).toNat := hj; omega)) _ i).symm
  · rcases G.2.2.2.2 with V | V
    · exact .inl (allL_0 10 V)
    · obtain ⟨T2, hT2, u0, u1⟩ := V
      have hT3 : T2 = T := by omega
      subst hT3
      exact .inr u1
  · unfold waA
    rw [waV_K v1]
  · obtain ⟨⟨x, hx, G1⟩, ⟨-, -, u, -⟩, h2⟩ := q
    exact ⟨_, h2, G1, (waA_up u).symm⟩
theorem msS_watch {w x : Int} (i0 : in32 w) (G : MdS_watch w x M) : CA FF sc YF 59 m_X12_watch [vr 81, vi w] M (fun r M1 => ∃ y, r = vi y ∧ GdS M1 ∧ y = x) := by
  have h88 : ∀ g, 0 ≤ M 88 g ∧ M 88 g ≤ 60 := rA_88 G.1.1.1
  refine ((mdS (w := mw_watch) G.1 (by decide +kernel) (mf_watch i0 G.1.1)).and fun n => f_watchM (F := waF M) (sz := fun h => (M 88 h).toNat) (Q := fun r _ => r = vi (waA M w)) (fun i => (rA_86 G.1.1.1 i).2) (fun g hg => ?_) (fun g => ?_) (fun g hg i => rfl) rfl).mono fun r M1 q => ?_
  · have := h88 g
    show M 88 g = (((M 88 g).toNat : Nat) : Int)
    omega
  · have := h88 g
    show (M 88 g).toNat ≤ 60
    omega
  · obtain ⟨⟨y, hy, G1⟩, h2⟩ := q
    exact ⟨_, h2, G1, G.2.symm⟩
end TSM
