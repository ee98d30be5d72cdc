/-! PART 73: the two objects between calls: their tapes are alike; the methods that touch the tape -/
def kTc : Nat := 340282366920938463500268095579187314688
def kTm : Nat := 856593993037010096035237352196145276676103791868643709281123214917317409678738294626692306596615092095614820123814340689177170305130027269655101187268824645244203736671493975707026208898488695010824832303225036065341750316511679715388050987419920458043488265431279587307503666086282956561356475754211156642979207220575177635661146184728114479115774162626268397734002757599142545142330828497249250725664085079896699485466118148541916713174771717809084662160338527311420453296590646525727454651268578752981210515606177357784751190713474877730753807823498706759795896648340746730087040367361385298999279178092076502564792946769315851381882669674952263949379037492886041042706317137265426220589598498446569835874685202750305192733975184279056153930876663196053391053349293778740931082086246758838678764396188806490567840105262215489012351063526891067302343473364626080354101755887078064061669577420288585783260155661616131803872355554789358671981283560412419407687608998891718139551001308599163279357660850227836621973664851225698969322822382023633429046546263518579679186523431665225996326197579742649115801429335660147769128906732363671117500180180085269178682867485529118528252713688026049489877618963339747725490045270663323218205524256915827328262862548107225141981129866208448696297034035320425789289940308175401890354290764804530634107140448040943916382429897679359862622202714156551056762197446512591190501848867056004081560475143045581146231883556400304183866740741459075158029452204599830819978707084933680972225379075719521548177221895355698175397204597776963872777040664510512030596039479887138195273096253207191887347008067946424214254121245823163530220702236497478065004109350715642766499724828646159633172671650561848770560
/- the two objects between calls: what stands fast, and their tapes are alike -/
def GdT (M : MM) : Prop := axG M ∧ rT M
theorem gd_freshT {M : MM} (hC : FrC M) (hM : FrM M) (hz : ∀ k, 121 ≤ k → ∀ j, M k j = 0) (hI : Inv FF YF M) : GdT M := ⟨(gd_fresh hC hM hz hI).1, by rw [hC.at 1 1 0 (by decide) rfl, hM.at 81 10 0 (by decide) rfl], fun j => by
  rw [hC.at 2 j 0 (by decide) rfl, hM.at 90 j 0 (by decide) rfl]
  rfl⟩
section TPM
variable {sc : List Int} {M : MM}
theorem GdT.up {M1 : MM} {w : Nat} (G : GdT M) (g : axG M1) (u : UpX M M1) (kp : Keep w M M1) (e : kTc &&& w = kTc) : GdT M1 := by
  have kp2 := kp.w e
  have e1 : M1 1 1 = M 1 1 := kp2.o rfl (by decide +kernel)
  have e2 : M1 2 = M 2 := kp2.a rfl (by decide +kernel)
  exact ⟨g, by rw [e1, u 81 (by decide) 10]; exact G.2.1, fun j => by rw [e2, u 90 (by decide) j]; exact G.2.2 j⟩
theorem GdT.lo {M1 : MM} {w : Nat} (G : GdT M) (g : axG M1) (l : LoX M M1) (kp : Keep w M M1) (e : kTm &&& w = kTm) : GdT M1 := by
  have kp2 := kp.w e
  have e1 : M1 81 10 = M 81 10 := kp2.o rfl (by decide +kernel)
  have e2 : M1 90 = M 90 := kp2.a rfl (by decide +kernel)
  exact ⟨g, by rw [e1, l 1 (by decide) 1 (.inr (by decide))]; exact G.2.1, fun j => by rw [e2, l 2 (by decide) j (.inl rfl)]; exact G.2.2 j⟩
theorem cdT {w m : Nat} {as : List Vv} (G : GdT M) (e : kTc &&& w = kTc) (h : CA FF sc YF 59 m as M (cxF w M)) : CA FF sc YF 59 m as M (fun r M1 => ∃ x, r = vi x ∧ GdT M1) := h.mono fun r M1 q => by
  obtain ⟨⟨x, hx⟩, g, u, kp⟩ := q
  exact ⟨x, hx, G.up g u kp e⟩
theorem mdT {w m : Nat} {as : List Vv} (G : GdT M) (e : kTm &&& w = kTm) (h : CA FF sc YF 59 m as M (mxF w M)) : CA FF sc YF 59 m as M (fun r M1 => ∃ x, r = vi x ∧ GdT M1) := h.mono fun r M1 q => by
  obtain ⟨⟨x, hx⟩, g, u, kp⟩ := q
  exact ⟨x, hx, G.lo g u kp e⟩
theorem cdTL {w m : Nat} {as : List Vv} (G : GdT M) (e : kTc &&& w = kTc) (h : CA FF sc YF 59 m as M (cxFL w M)) : CA FF sc YF 59 m as M (fun r M1 => ∃ x, r = vl x ∧ GdT M1) := h.mono fun r M1 q => by
  obtain ⟨⟨x, hx⟩, g, u, kp⟩ := q
  exact ⟨x, hx, G.up g u kp e⟩
theorem mdTL {w m : Nat} {as : List Vv} (G : GdT M) (e : kTm &&& w = kTm) (h : CA FF sc YF 59 m as M (mxFL w M)) : CA FF sc YF 59 m as M (fun r M1 => ∃ x, r = vl x ∧ GdT M1) := h.mono fun r M1 q => by
  obtain ⟨⟨x, hx⟩, g, u, kp⟩ := q
  exact ⟨x, hx, G.lo g u kp e⟩
/- the tape's bytes, as both see them -/
def tpY (M : MM) (i : Nat) : Int := M 90 i % 256
theorem tpY_r (M : MM) (i : Nat) : 0 ≤ tpY M i ∧ tpY M i ≤ 255 := by
  unfold tpY
  omega
theorem tpY_m {M : MM} (g : ai_GI ax_T M) (i : Nat) : bAnd (M 90 i) 255 = tpY M i := bAnd255 (by
  have := rA_90 g i
  exact ⟨by omega, by omega⟩)
theorem GdT.c {M : MM} (G : GdT M) (i : Nat) : M 2 i = tpY M i := G.2.2 i
theorem tpY_up {M1 : MM} (u : UpX M M1) : tpY M1 = tpY M := funext fun i => by
  unfold tpY
  rw [u 90 (by decide) i]
/- between the two calls of a step that takes the tape (or doesn't: ok) -/
def MtT (ok : Prop) (M1 : MM) : Prop := axG M1 ∧ ((¬ ok ∧ rT M1) ∨ (ok ∧ M1 1 1 = 0 ∧ ∀ j, M1 2 j = tpY M1 j))
theorem MtT.of {M1 : MM} {ok : Prop} (G : GdT M) (g : axG M1) (u : UpX M M1) (h2 : M1 2 = M 2) (hs : (¬ ok ∧ M1 1 1 = M 1 1) ∨ (ok ∧ M1 1 1 = 0)) : MtT ok M1 := ⟨g, by
  rcases hs with ⟨h, e⟩ | ⟨h, e⟩
  · exact .inl ⟨h, by rw [e, u 81 (by decide) 10]; exact G.2.1, fun j => by rw [h2, u 90 (by decide) j]; exact G.2.2 j⟩
  · exact .inr ⟨h, e, fun j => by rw [h2, tpY_up u]; exact G.2.2 j⟩⟩
theorem MtT.to {M1 : MM} {ok : Prop} (G : MtT ok M) (g : axG M1) (l : LoX M M1) (h90 : M1 90 = M 90) (hs : (¬ ok ∧ M1 81 10 = M 81 10) ∨ (ok ∧ M1 81 10 = 0)) : GdT M1 := ⟨g, by
  rcases G.2 with ⟨h, r1, r2⟩ | ⟨h, r1, r2⟩
  · have e : M1 81 10 = M 81 10 := by
      rcases hs with q | q
      · exact q.2
      · exact absurd q.1 h
    exact ⟨by rw [e, l 1 (by decide) 1 (.inr (by decide))]; exact r1, fun j => by rw [h90, l 2 (by decide) j (.inl rfl)]; exact r2 j⟩
  · have e : M1 81 10 = 0 := by
      rcases hs with q | q
      · exact absurd h q.1
      · exact q.2
    exact ⟨by rw [e, l 1 (by decide) 1 (.inr (by decide))]; exact r1, fun j => by rw [h90, l 2 (by decide) j (.inl rfl)]; exact r2 j⟩⟩
/-! feed -/
def MdT_feed (a b c d e x : Int) (M1 : MM) : Prop := axG M1 ∧ ((240 < M1 81 10 ∧ x = -1 ∧ rT M1) ∨ (M1 81 10 ≤ 240 ∧ x = M1 81 10 + 20 ∧ M1 1 1 = M1 81 10 + 20 ∧ ∀ j, M1 2 j = fd5 byM (M1 90) (M1 81 10).toNat a b c d e j % 256))
theorem csT_feed {a b c d e : Int} (i0 : in32 a) (i1 : in32 b) (i2 : in32 c) (i3 : in32 d) (i4 : in32 e) (G : GdT M) : CA FF sc YF 59 m_X11_feed [vr 0, vi a, vi b, vi c, vi d, vi e] M (fun r M1 => ∃ x, r = vi x ∧ MdT_feed a b c d e x M1) := by
  have g := rO_1_1 G.1.1
  refine ((cf_feed i0 i1 i2 i3 i4 G.1).and fun n => f_feedC (s := (M 1 1).toNat) (Q := fun r M1 => ∃ x, r = vi x ∧ ((240 < M 1 1 ∧ x = -1 ∧ M1 1 1 = M 1 1 ∧ M1 2 = M 2) ∨ (M 1 1 ≤ 240 ∧ x = M 1 1 + 20 ∧ M1 1 1 = M 1 1 + 20 ∧ M1 2 = fd5 byC (M 2) (M 1 1).toNat a b c d e))) (by omega) (by omega) (fun h => ⟨-1, rfl, .inl ⟨by omega, rfl, rfl, rfl⟩⟩) (fun h M1 h1 h2 _ => ⟨_, rfl, .inr ⟨by omega, by omega, by omega, h2⟩⟩)).mono fun r M1 q => ?_
  obtain ⟨⟨-, g1, u, -⟩, x, hx, q⟩ := q
  refine ⟨x, hx, g1, ?_⟩
  have e10 : M1 81 10 = M 1 1 := (u 81 (by decide) 10).trans G.2.1.symm
  rw [e10]
  rcases q with ⟨q1, q2, q3, q4⟩ | ⟨q1, q2, q3, q4⟩
  · exact .inl ⟨q1, q2, q3.trans e10.symm, fun j => by rw [q4, u 90 (by decide) j]; exact G.2.2 j⟩
  · exact .inr ⟨q1, q2, q3, fun j => by
      rw [q4, show M1 90 = M 90 from funext fun j => u 90 (by decide) j]
      exact fd5_m G.2.2 _ _ _ _ _ _ j⟩
theorem msT_feed {a b c d e x : Int} (i0 : in32 a) (i1 : in32 b) (i2 : in32 c) (i3 : in32 d) (i4 : in32 e) (G : MdT_feed a b c d e x M) : CA FF sc YF 59 m_X12_feed [vr 81, vi a, vi b, vi c, vi d, vi e] M (fun r M1 => ∃ y, r = vi y ∧ GdT M1 ∧ y = x) := by
  have g := rO_81_10 G.1.1
  refine ((mf_feed i0 i1 i2 i3 i4 G.1).and fun n => f_feedM (s := (M 81 10).toNat) (Q := fun r M1 => ∃ x, r = vi x ∧ ((240 < M 81 10 ∧ x = -1 ∧ M1 81 10 = M 81 10 ∧ M1 90 = M 90) ∨ (M 81 10 ≤ 240 ∧ x = M 81 10 + 20 ∧ M1 81 10 = M 81 10 + 20 ∧ M1 90 = fd5 byM (M 90) (M 81 10).toNat a b c d e))) (by omega) (by omega) (fun h => ⟨-1, rfl, .inl ⟨by omega, rfl, rfl, rfl⟩⟩) (fun h M1 h1 h2 _ => ⟨_, rfl, .inr ⟨by omega, by omega, by omega, h2⟩⟩)).mono fun r M1 q => ?_
  obtain ⟨⟨-, g1, l, -⟩, y, hy, q⟩ := q
  have e1 : M1 1 1 = M 1 1 := l 1 (by decide) 1 (.inr (by decide))
  have e2 : M1 2 = M 2 := funext fun j => l 2 (by decide) j (.inl rfl)
  rcases q with ⟨q1, q2, q3, q4⟩ | ⟨q1, q2, q3, q4⟩
  · rcases G.2 with ⟨p1, p2, p3⟩ | ⟨p1, -⟩
    · exact ⟨y, hy, ⟨g1, by rw [e1, q3]; exact p3.1, fun j => by rw [e2, q4]; exact p3.2 j⟩, by omega⟩
    · omega
  · rcases G.2 with ⟨p1, -⟩ | ⟨p1, p2, p3, p4⟩
    · omega
    · exact ⟨y, hy, ⟨g1, by rw [e1, q3]; exact p3, fun j => by rw [e2, q4]; exact p4 j⟩, by omega⟩
/-! quarter -/
/- QUARTER's answer -/
def qaV (t : Nat → Int) (N : Nat) (K H : Nat → Int) : Int := if (qz t N N 0 0 0 0 K H).1 < 0 then (qz t N N 0 0 0 0 K H).1 else hcnt (qz t N N 0 0 0 0 K H).2.2 10
def MdT_quarter (v x : Int) (M1 : MM) : Prop := MtT (1 ≤ v ∧ v ≤ 120 ∧ v ≤ M1 81 10) M1 ∧ (¬ (1 ≤ v ∧ v ≤ 120 ∧ v ≤ M1 81 10) → x = -1) ∧ ((1 ≤ v ∧ v ≤ 120 ∧ v ≤ M1 81 10) → ∃ K H : Nat → Int, (∀ h, h < 10 → H h = -1) ∧ x = qaV (tpY M1) v.toNat K H)
theorem upK_at {K : Nat → Int} {b m : Nat} {v : Int} {j : Nat} (h : b ≤ j ∧ j < b + m) : upK K b m v j = v := if_pos h
theorem csT_quarter {v : Int} (i0 : in32 v) (G : GdT M) : CA FF sc YF 59 m_X11_quarter [vr 0, vi v] M (fun r M1 => ∃ x, r = vi x ∧ MdT_quarter v x M1) := by
  have go : ∀ T S : Nat, ((T = 57 ∧ S = 61) ∨ (T = 61 ∧ S = 57)) → M 0 10 = (T : Int) + 1 → M 0 11 = (S : Int) + 1 → CA FF sc YF 59 m_X11_quarter [vr 0, vi v] M (fun r M1 => ∃ x, r = vi x ∧ MdT_quarter v x M1) := fun T S hTS e10 e11 => by
    refine ((cf_quarter i0 G.1).and fun n => f_quarterC (Q := fun r M1 => ∃ x, r = vi x ∧ (((¬ (1 ≤ v ∧ v ≤ 120 ∧ v ≤ M 1 1) ∧ M1 1 1 = M 1 1) ∨ ((1 ≤ v ∧ v ≤ 120 ∧ v ≤ M 1 1) ∧ M1 1 1 = 0)) ∧ M1 2 = M 2 ∧ (¬ (1 ≤ v ∧ v ≤ 120 ∧ v ≤ M 1 1) → x = -1) ∧ ((1 ≤ v ∧ v ≤ 120 ∧ v ≤ M 1 1) → ∃ K H : Nat → Int, (∀ h, h < 10 → H h = -1) ∧ x = qaV (tpY M) v.toNat K H))) (t := tpY M) hTS G.c e10 e11 (fun h => ⟨-1, rfl, .inl ⟨h, rfl⟩, rfl, fun _ => rfl, fun z => absurd z h⟩) (fun h z M1 f e1 => ⟨_, rfl, .inr ⟨h, ?_⟩, f 2 (by omega) (by decide), fun z => absurd h z, fun _ => ⟨upK (M (S + 1)) 0 64 0, upK (M (S + 2)) 0 10 (-1), fun h hh => upK_at (by omega), ?_⟩⟩) (fun h z M1 f e1 e0 _ _ _ _ => ⟨_, rfl, .inr ⟨h, ?_⟩, f 2 (by omega) (by decide) (by decide) (by decide) (by decide) (by decide) (by decide), fun z => absurd h z, fun _ => ⟨upK (M (S + 1)) 0 64 0, upK (M (S + 2)) 0 10 (-1), fun h hh => upK_at (by omega), ?_⟩⟩)).mono fun r M1 q => ?_
    · rw [e1]
      exact if_pos rfl
    · exact (if_pos z).symm
    · rw [e1]
      exact if_pos rfl
    · exact (if_neg z).symm
    · obtain ⟨⟨-, g1, u, -⟩, x, hx, q1, q2, q3, q4⟩ := q
      have e10 : M 1 1 = M1 81 10 := G.2.1.trans (u 81 (by decide) 10).symm
      rw [e10] at q1 q3 q4
      refine ⟨x, hx, MtT.of G g1 u q2 ?_, q3, fun h => ?_⟩
      · rw [← e10]
        rw [← e10] at q1
        exact q1
      · rw [tpY_up u]
        exact q4 h
  rcases id G.1.2.2.1 with ⟨e10, e11⟩ | ⟨e10, e11⟩
  · exact go 57 61 (.inl ⟨rfl, rfl⟩) e10 e11
  · exact go 61 57 (.inr ⟨rfl, rfl⟩) e10 e11
theorem qz_KH {t : Nat → Int} {N : Nat} : ∀ (m p dg x y : Nat) (K K' H H' : Nat → Int), (∀ h, h < 10 → H h = H' h) → (qz t N m p dg x y K H).1 = (qz t N m p dg x y K' H').1 ∧ ∀ h, h < 10 → (qz t N m p dg x y K H).2.2 h = (qz t N m p dg x y K' H').2.2 h := by
  intro m
  induction m with
  | zero =>
    intro p dg x y K K' H H' h
    show (if dg ≠ 0 ∨ x < 8 ∨ y < 7 then (-1000 - (N : Int), K, H) else (0, K, H)).1 = (if dg ≠ 0 ∨ x < 8 ∨ y < 7 then (-1000 - (N : Int), K', H') else (0, K', H')).1 ∧ ∀ i, i < 10 → (if dg ≠ 0 ∨ x < 8 ∨ y < 7 then (-1000 - (N : Int), K, H) else (0, K, H)).2.2 i = (if dg ≠ 0 ∨ x < 8 ∨ y < 7 then (-1000 - (N : Int), K', H') else (0, K', H')).2.2 i
    split
    · exact ⟨rfl, h⟩
    · exact ⟨rfl, h⟩
  | succ m ih =>
    intro p dg x y K K' H H' h
    rw [qz_succ, qz_succ]
    split
    · split
      · exact ih _ _ _ _ _ _ _ _ h
      · exact ⟨rfl, h⟩
    · split
      · split
        · exact ⟨rfl, h⟩
        · exact ih _ _ _ _ _ _ _ _ h
      · have hq : (qp (t p) dg p x y K H).1 = (qp (t p) dg p x y K' H').1 ∧ (qp (t p) dg p x y K H).2.2.2 = (qp (t p) dg p x y K' H').2.2.2 ∧ ∀ i, i < 10 → (qp (t p) dg p x y K H).2.2.1 i = (qp (t p) dg p x y K' H').2.2.1 i := by
          unfold qp
          by_cases c1 : 97 ≤ t p ∧ t p < 107
          · rw [if_pos c1, if_pos c1, h (t p - 97).toNat (by omega)]
            split
            · exact ⟨rfl, rfl, h⟩
            · split
              · exact ⟨rfl, rfl, h⟩
              · split
                · exact ⟨rfl, rfl, h⟩
                · refine ⟨rfl, rfl, fun i hi => ?_⟩
                  show upK H _ _ _ i = upK H' _ _ _ i
                  unfold upK
                  split
                  · rfl
                  · exact h i hi
          · rw [if_neg c1, if_neg c1]
            split
            · split
              · exact ⟨rfl, rfl, h⟩
              · exact ⟨rfl, rfl, h⟩
            · exact ⟨rfl, rfl, h⟩
        rw [hq.1]
        split
        · exact ⟨rfl, hq.2.2⟩
        · rw [hq.2.1]
          exact ih _ _ _ _ _ _ _ _ hq.2.2
theorem hcnt_eq {H H' : Nat → Int} : ∀ n, (∀ h, h < n → H h = H' h) → hcnt H n = hcnt H' n := by
  intro n
  induction n with
  | zero => intro _; rfl
  | succ n ih =>
    intro h
    show hcnt H n + ind (H n ≠ -1) = hcnt H' n + ind (H' n ≠ -1)
    rw [ih (fun i hi => h i (by omega)), h n (by omega)]
theorem qaV_KH {t : Nat → Int} {N : Nat} {K K' H H' : Nat → Int} (h : ∀ i, i < 10 → H i = H' i) : qaV t N K H = qaV t N K' H' := by
  have hq := qz_KH (t := t) (N := N) N 0 0 0 0 K K' H H' h
  unfold qaV
  rw [hq.1, hcnt_eq 10 hq.2]
theorem msT_quarter {v x : Int} (i0 : in32 v) (G : MdT_quarter v x M) : CA FF sc YF 59 m_X12_quarter [vr 81, vi v] M (fun r M1 => ∃ y, r = vi y ∧ GdT M1 ∧ y = x) := by
  obtain ⟨G1, G2, G3⟩ := G
  have h30 := G1.1.1 82 30
  have h30 : 0 ≤ M 82 30 ∧ M 82 30 ≤ 1023 := h30
  refine ((mf_quarter i0 G1.1).and fun n => f_quarterM (K0 := fun _ => 0) (H0 := fun _ => -1) (Q := fun r M1 => ∃ y, r = vi y ∧ (((¬ (1 ≤ v ∧ v ≤ 120 ∧ v ≤ M 81 10) ∧ M1 81 10 = M 81 10) ∨ ((1 ≤ v ∧ v ≤ 120 ∧ v ≤ M 81 10) ∧ M1 81 10 = 0)) ∧ M1 90 = M 90 ∧ (¬ (1 ≤ v ∧ v ≤ 120 ∧ v ≤ M 81 10) → y = -1) ∧ ((1 ≤ v ∧ v ≤ 120 ∧ v ≤ M 81 10) → y = qaV (tpY M) v.toNat (fun _ => 0) (fun _ => -1)))) (t := tpY M) (tpY_r M) (fun _ _ => rfl) (tpY_m G1.1.1) (by omega) (fun h => ⟨-1, rfl, .inl ⟨h, rfl⟩, rfl, fun _ => rfl, fun z => absurd z h⟩) (fun h z M1 f f81 e => ⟨_, rfl, .inr ⟨h, e⟩, f 90 (by decide) (by decide) (by decide), fun z => absurd h z, fun _ => (if_pos z).symm⟩) (fun h z M1 f => ⟨_, rfl, .inr ⟨h, f.2.2.1⟩, f.1 90 (by decide) (by decide) (by decide) (by decide) (by decide) (by decide), fun z => absurd h z, fun _ => (if_neg z).symm⟩)).mono fun r M1 q => ?_
  obtain ⟨⟨-, g1, l, -⟩, y, hy, q1, q2, q3, q4⟩ := q
  refine ⟨y, hy, G1.to g1 l q2 q1, ?_⟩
  by_cases ok : 1 ≤ v ∧ v ≤ 120 ∧ v ≤ M 81 10
  · obtain ⟨K, H, hH, hx⟩ := G3 ok
    rw [q4 ok, hx]
    exact qaV_KH fun i hi => (hH i hi).symm
  · rw [q3 ok, G2 ok]
/-! walk -/
def MdT_walk (h v x : Int) (M1 : MM) : Prop := MtT ((0 ≤ h ∧ h ≤ 9) ∧ 1 ≤ v ∧ v ≤ 80 ∧ v ≤ M1 81 10) M1 ∧ (¬ ((0 ≤ h ∧ h ≤ 9) ∧ 1 ≤ v ∧ v ≤ 80 ∧ v ≤ M1 81 10) → x = -1) ∧ (((0 ≤ h ∧ h ≤ 9) ∧ 1 ≤ v ∧ v ≤ 80 ∧ v ≤ M1 81 10) → ∃ D : Nat → Int, x = (wzR (tpY M1) v.toNat D).1)
theorem csT_walk {h v : Int} (i0 : in32 h) (i1 : in32 v) (G : GdT M) : CA FF sc YF 59 m_X11_walk [vr 0, vi h, vi v] M (fun r M1 => ∃ x, r = vi x ∧ MdT_walk h v x M1) := by
  refine ((cf_walk i0 i1 G.1).and fun n => f_walkC (Q := fun r M1 => ∃ x, r = vi x ∧ (((¬ ((0 ≤ h ∧ h ≤ 9) ∧ 1 ≤ v ∧ v ≤ 80 ∧ v ≤ M 1 1) ∧ M1 1 1 = M 1 1) ∨ (((0 ≤ h ∧ h ≤ 9) ∧ 1 ≤ v ∧ v ≤ 80 ∧ v ≤ M 1 1) ∧ M1 1 1 = 0)) ∧ M1 2 = M 2 ∧ (¬ ((0 ≤ h ∧ h ≤ 9) ∧ 1 ≤ v ∧ v ≤ 80 ∧ v ≤ M 1 1) → x = -1) ∧ (((0 ≤ h ∧ h ≤ 9) ∧ 1 ≤ v ∧ v ≤ 80 ∧ v ≤ M 1 1) → ∃ D : Nat → Int, x = (wzR (tpY M) v.toNat D).1))) (t := tpY M) G.c (fun h => ⟨-1, rfl, .inl ⟨h, rfl⟩, rfl, fun _ => rfl, fun z => absurd z h⟩) (fun h z M1 f e1 => ⟨_, rfl, .inr ⟨h, ?_⟩, f 2 (by decide) (by decide) (by decide) (by decide) (by decide) (by decide), fun z => absurd h z, fun _ => ⟨_, rfl⟩⟩) (fun h sz D z hsz M1 f e1 _ _ => ⟨_, rfl, .inr ⟨h, ?_⟩, f 2 (by decide) (by decide) (by decide) (by omega) (by decide) (by decide) (by decide) (by decide), fun z => absurd h z, fun _ => ⟨M 18, by rw [z]⟩⟩)).mono fun r M1 q => ?_
  · rw [e1]
    exact if_pos rfl
  · rw [e1]
    exact if_pos rfl
  · obtain ⟨⟨-, g1, u, -⟩, x, hx, q1, q2, q3, q4⟩ := q
    have e10 : M 1 1 = M1 81 10 := G.2.1.trans (u 81 (by decide) 10).symm
    rw [e10] at q1 q3 q4
    refine ⟨x, hx, MtT.of G g1 u q2 ?_, q3, fun h => ?_⟩
    · rw [← e10]
      rw [← e10] at q1
      exact q1
    · rw [tpY_up u]
      exact q4 h
theorem wz_D {t : Nat → Int} {N : Nat} : ∀ (m p sz dg dp : Nat) (br : Bool) (D D' : Nat → Int) (G : GG), (wz t N m p sz dg dp br D G).1 = (wz t N m p sz dg dp br D' G).1 := by
  intro m
  induction m with
  | zero =>
    intro p sz dg dp br D D' G
    show (if dg ≠ 0 ∨ G.length ≠ 0 then (-1000 - (N : Int), sz, D) else ((sz : Int), sz, D)).1 = (if dg ≠ 0 ∨ G.length ≠ 0 then (-1000 - (N : Int), sz, D') else ((sz : Int), sz, D')).1
    split <;> rfl
  | succ m ih =>
    intro p sz dg dp br D D' G
    rw [wz_s, wz_s]
    split
    · exact ih _ _ _ _ _ _ _ _
    · by_cases hw : wyV (t p) ≠ -1
      · rw [if_pos hw, if_pos hw]
        by_cases h6 : 60 < sz + (if dg = 0 then 1 else dg)
        · rw [if_pos h6, if_pos h6]
        · rw [if_neg h6, if_neg h6]
          exact ih _ _ _ _ _ _ _ _
      · rw [if_neg hw, if_neg hw]
        split
        · split
          · rfl
          · exact ih _ _ _ _ _ _ _ _
        · split
          · cases G with
            | nil => rfl
            | cons g r =>
              dsimp only
              split
              · rfl
              · exact ih _ _ _ _ _ _ _ _
          · rfl
theorem msT_walk {h v x : Int} (i0 : in32 h) (i1 : in32 v) (G : MdT_walk h v x M) : CA FF sc YF 59 m_X12_walk [vr 81, vi h, vi v] M (fun r M1 => ∃ y, r = vi y ∧ GdT M1 ∧ y = x) := by
  obtain ⟨G1, G2, G3⟩ := G
  refine ((mf_walk i0 i1 G1.1).and fun n => f_walkM (D0 := fun _ => 0) (Q := fun r M1 => ∃ y, r = vi y ∧ (((¬ ((0 ≤ h ∧ h ≤ 9) ∧ 1 ≤ v ∧ v ≤ 80 ∧ v ≤ M 81 10) ∧ M1 81 10 = M 81 10) ∨ (((0 ≤ h ∧ h ≤ 9) ∧ 1 ≤ v ∧ v ≤ 80 ∧ v ≤ M 81 10) ∧ M1 81 10 = 0)) ∧ M1 90 = M 90 ∧ (¬ ((0 ≤ h ∧ h ≤ 9) ∧ 1 ≤ v ∧ v ≤ 80 ∧ v ≤ M 81 10) → y = -1) ∧ (((0 ≤ h ∧ h ≤ 9) ∧ 1 ≤ v ∧ v ≤ 80 ∧ v ≤ M 81 10) → y = (wzR (tpY M) v.toNat (fun _ => 0)).1))) (t := tpY M) (tpY_m G1.1.1) (fun h => ⟨-1, rfl, .inl ⟨h, rfl⟩, rfl, fun _ => rfl, fun z => absurd z h⟩) (fun h z M1 f _ _ => ⟨_, rfl, .inr ⟨h, f.2.2.1⟩, f.1 90 (by decide) (by decide) (by decide) (by decide) (by decide) (by decide) (by decide), fun z => absurd h z, fun _ => rfl⟩) (fun h sz D z hsz hD M1 f _ _ _ => ⟨_, rfl, .inr ⟨h, f.2.2.1⟩, f.1 90 (by decide) (by decide) (by decide) (by decide) (by decide) (by decide) (by decide), fun z => absurd h z, fun _ => by rw [z]⟩)).mono fun r M1 q => ?_
  obtain ⟨⟨-, g1, l, -⟩, y, hy, q1, q2, q3, q4⟩ := q
  refine ⟨y, hy, G1.to g1 l q2 q1, ?_⟩
  by_cases ok : (0 ≤ h ∧ h ≤ 9) ∧ 1 ≤ v ∧ v ≤ 80 ∧ v ≤ M 81 10
  · obtain ⟨D, hx⟩ := G3 ok
    rw [q4 ok, hx]
    exact wz_D _ _ _ _ _ _ _ _ _
  · rw [q3 ok, G2 ok]
/-! law, sightings, tax, check: the tape alone -/
theorem kTc_2 {w : Nat} {M1 : MM} (kp : Keep w M M1) (e : w.testBit 128 = true) : M1 2 = M 2 := kp.a rfl e
def MdT_law (v _x : Int) (M1 : MM) : Prop := MtT (1 ≤ v ∧ v ≤ 240 ∧ v ≤ M1 81 10) M1
theorem csT_law {v : Int} (_i0 : in32 v) (G : GdT M) : CA FF sc YF 59 m_X11_law [vr 0, vi v] M (fun r M1 => ∃ x, r = vi x ∧ MdT_law v x M1) := by
  have k : ∀ (r : Int) (M1 : MM), axG M1 → UpX M M1 → M1 0 14 = M 0 14 → szX (1 ≤ v ∧ v ≤ 240 ∧ v ≤ M 1 1) M M1 → Keep kpL M M1 → ∃ x, vi r = vi x ∧ MdT_law v x M1 := fun r M1 g u _ s kp => ⟨r, rfl, MtT.of G g u (kp.a rfl (by decide +kernel)) (by
    rw [u 81 (by decide) 10, ← G.2.1]
    exact s)⟩
  rcases id G.1.2.2.2 with ⟨e12, e13⟩ | ⟨e12, e13⟩
  · exact sx_law_65 (d := 19) G.1 e12 e13 k
  · exact sx_law_73 (d := 19) G.1 e12 e13 k
theorem msT_law {v x : Int} (_i0 : in32 v) (G : MdT_law v x M) : CA FF sc YF 59 m_X12_law [vr 81, vi v] M (fun r M1 => ∃ y, r = vi y ∧ GdT M1) := sm_law (d := 50) G.1 fun r M1 g l _ s kp => ⟨r, rfl, G.to g l (kp.a rfl (by decide +kernel)) s⟩
def MdT_sightings (v w _x : Int) (M1 : MM) : Prop := MtT ((1 ≤ v ∧ v ≤ 10) ∧ (0 ≤ w ∧ w ≤ 1) ∧ 2 * v ≤ M1 81 10) M1
theorem csT_sightings {v w : Int} (_i0 : in32 v) (_i1 : in32 w) (G : GdT M) : CA FF sc YF 59 m_X11_sightings [vr 0, vi v, vi w] M (fun r M1 => ∃ x, r = vi x ∧ MdT_sightings v w x M1) := by
  have k : ∀ (r : Int) (M1 : MM), axG M1 → UpX M M1 → M1 0 14 = M 0 14 → szX ((1 ≤ v ∧ v ≤ 10) ∧ (0 ≤ w ∧ w ≤ 1) ∧ 2 * v ≤ M 1 1) M M1 → Keep kpS M M1 → ∃ x, vi r = vi x ∧ MdT_sightings v w x M1 := fun r M1 g u _ s kp => ⟨r, rfl, MtT.of G g u (kp.a rfl (by decide +kernel)) (by
    rw [u 81 (by decide) 10, ← G.2.1]
    exact s)⟩
  rcases id G.1.2.2.1 with ⟨e10, e11⟩ | ⟨e10, e11⟩
  · exact sx_sightings_57 (d := 53) G.1 e10 k
  · exact sx_sightings_61 (d := 53) G.1 e10 k
theorem msT_sightings {v w x : Int} (_i0 : in32 v) (_i1 : in32 w) (G : MdT_sightings v w x M) : CA FF sc YF 59 m_X12_sightings [vr 81, vi v, vi w] M (fun r M1 => ∃ y, r = vi y ∧ GdT M1) := sm_sightings (d := 52) G.1 fun r M1 g l _ s kp => ⟨r, rfl, G.to g l (kp.a rfl (by decide +kernel)) s⟩
theorem ifS {p : Prop} [Decidable p] {a b : Int} (h : a = (if p then 0 else b)) : (¬ p ∧ a = b) ∨ (p ∧ a = 0) := by
  by_cases q : p
  · rw [if_pos q] at h
    exact .inr ⟨q, h⟩
  · rw [if_neg q] at h
    exact .inl ⟨q, h⟩
def MdT_tax (v _x : Int) (M1 : MM) : Prop := MtT (0 ≤ v ∧ v ≤ 9 ∧ 10 ≤ M1 81 10) M1
theorem csT_tax {v : Int} (i0 : in32 v) (G : GdT M) : CA FF sc YF 59 m_X11_tax [vr 0, vi v] M (fun r M1 => ∃ x, r = vi x ∧ MdT_tax v x M1) := ((cf_tax i0 G.1).and fun _ => PC.of (cfz_tax i0 G.1)).mono fun r M1 q => by
  obtain ⟨⟨⟨x, hx⟩, g1, u, kp⟩, s⟩ := q
  refine ⟨x, hx, MtT.of G g1 u (kp.a rfl (by decide +kernel)) ?_⟩
  rw [u 81 (by decide) 10, ← G.2.1]
  exact ifS s
theorem msT_tax {v x : Int} (i0 : in32 v) (G : MdT_tax v x M) : CA FF sc YF 59 m_X12_tax [vr 81, vi v] M (fun r M1 => ∃ y, r = vi y ∧ GdT M1) := ((mf_tax i0 G.1).and fun _ => PC.of (mfz_tax i0 G.1)).mono fun r M1 q => by
  obtain ⟨⟨⟨y, hy⟩, g1, l, kp⟩, s⟩ := q
  exact ⟨y, hy, G.to g1 l (kp.a rfl (by decide +kernel)) (ifS s)⟩
def MdT_check (v _x : Int) (M1 : MM) : Prop := MtT (0 ≤ v ∧ v ≤ 10 ∧ 4 * v ≤ M1 81 10) M1
theorem csT_check {v : Int} (i0 : in32 v) (G : GdT M) : CA FF sc YF 59 m_X11_check [vr 0, vi v] M (fun r M1 => ∃ x, r = vi x ∧ MdT_check v x M1) := by
  have g11 := rO_1_1 G.1.1
  refine ((cf_check i0 G.1).and fun n => f_checkC (t := tpY M) (Q := fun r M1 => (¬ (0 ≤ v ∧ v ≤ 10 ∧ 4 * v ≤ M 1 1) ∧ M1 1 1 = M 1 1) ∨ ((0 ≤ v ∧ v ≤ 10 ∧ 4 * v ≤ M 1 1) ∧ M1 1 1 = 0)) g11 (fun i => ?_) (fun h => .inl ⟨h, rfl⟩) (fun h x _ => .inr ⟨h, stE⟩)).mono fun r M1 q => ?_
  · rw [G.c]
    have := tpY_r M i
    rw [bAnd255 ⟨by omega, by omega⟩]
    omega
  · obtain ⟨⟨⟨x, hx⟩, g1, u, kp⟩, s⟩ := q
    refine ⟨x, hx, MtT.of G g1 u (kp.a rfl (by decide +kernel)) ?_⟩
    rw [u 81 (by decide) 10, ← G.2.1]
    exact s
theorem msT_check {v x : Int} (i0 : in32 v) (G : MdT_check v x M) : CA FF sc YF 59 m_X12_check [vr 81, vi v] M (fun r M1 => ∃ y, r = vi y ∧ GdT M1) := by
  have g10 := rO_81_10 G.1.1
  refine ((mf_check i0 G.1).and fun n => f_checkM (t := tpY M) (Q := fun r M1 => (¬ (0 ≤ v ∧ v ≤ 10 ∧ 4 * v ≤ M 81 10) ∧ M1 81 10 = M 81 10) ∨ ((0 ≤ v ∧ v ≤ 10 ∧ 4 * v ≤ M 81 10) ∧ M1 81 10 = 0)) g10 (tpY_m G.1.1) (fun h => .inl ⟨h, rfl⟩) (fun h x _ => .inr ⟨h, stE⟩)).mono fun r M1 q => ?_
  obtain ⟨⟨⟨y, hy⟩, g1, l, kp⟩, s⟩ := q
  exact ⟨y, hy, G.to g1 l (kp.a rfl (by decide +kernel)) s⟩
end TPM
