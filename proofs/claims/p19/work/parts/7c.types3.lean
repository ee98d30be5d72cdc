/-! PART 7c: THE LAW's codes are well typed: byte by byte -/
def iN (p : Nat) (x : Nat × Int) (cnt : Nat) (v : Int) (W : List Int) (q : LC) (cl : CL) : Prop := iS p 0 x W q cl ∧ q.1 + 1 + W.length + exX x ≤ 3 * p ∧ cnt ≤ 5 ∧ 0 ≤ v ∧ v ≤ pwT cnt
def iO (p : Nat) (q : LC) (cl : CL) : Prop := vdn q.2 cl q.1 ∧ (q.1 ≤ 3 * p ∧ p ≤ 240) ∧ cl.1 ≤ 15
def iD (p : Nat) (q : LC) (cl : CL) : Prop := clD q.2 cl q.1 ∧ (q.1 ≤ 3 * p ∧ p ≤ 240) ∧ cl.1 ≤ 16
def inv (S : LSt) (p : Nat) : Prop := match S.1.1 with
  | 0 => iS p 0 (S.1.2.1, S.1.2.2) S.2.2.1 S.2.2.2.1 S.2.2.2.2
  | 1 => iN p (S.1.2.1, S.1.2.2) S.2.1.1 S.2.1.2 S.2.2.1 S.2.2.2.1 S.2.2.2.2
  | 2 => iS p 1 (S.1.2.1, S.1.2.2) S.2.2.1 S.2.2.2.1 S.2.2.2.2
  | 3 => iC p [] S.2.2.1 S.2.2.2.1 S.2.2.2.2
  | 4 => iC p [true] S.2.2.1 S.2.2.2.1 S.2.2.2.2
  | 5 => iO p S.2.2.2.1 S.2.2.2.2
  | _ => iD p S.2.2.2.1 S.2.2.2.2
theorem u13 : ¬ isJ (1048576 * 13) ∧ ¬ isB (1048576 * 13) ∧ cop (1048576 * 13) = 13 := by
  have h := cop_u 13
  unfold isJ isB
  rw [h]
  exact ⟨by omega, by omega, rfl⟩
theorem ztO_i {p : Nat} {q : LC} {cl : CL} {ch : Int} {S : LSt} (h : iO p q cl) (hp : p + 1 ≤ 240) (e : ztO q cl ch p = .inr S) : inv S (p + 1) := by
  unfold ztO at e
  by_cases c : ch = 40
  · rw [if_pos c] at e
    have e := Sum.inr.inj e
    subst e
    obtain ⟨h1, h2, h3⟩ := h
    have hU : upF cl.2.2.2.1 cl.1 q.1 cl.1 = q.1 := if_pos rfl
    show iC (p + 1) [] [1048576 * 13] q (cl.1, cl.2.1, cl.2.2.1, upF cl.2.2.2.1 cl.1 q.1, cl.2.2.2.2)
    refine ⟨⟨q.1, seg.z rfl (by omega) fun w hw => ?_, hU.symm, ⟨fun k hk => ?_, h1.2.1, h1.2.2⟩⟩, ⟨fun w hw => ?_, ⟨trivial, fun z => by have := u13.2.2; omega, fun z => by have := u13.2.2; omega⟩, ?_⟩, fun w hw => ?_, ⟨by show q.1 + 1 ≤ 3 * (p + 1); omega, hp⟩, h3⟩
    · cases hw with
      | head => exact u13.1
      | tail _ hw => cases hw
    · have z := h1.1 k hk
      have hk : k < cl.1 := hk
      have e2 : upF cl.2.2.2.1 cl.1 q.1 k = cl.2.2.2.1 k := if_neg (by omega)
      show cl.2.2.2.2 k ≤ _ ∧ (cl.2.1 k ≠ 109 → cpl q.2 (cl.2.2.1 k) (upF cl.2.2.2.1 cl.1 q.1 k) [false]) ∧ cpl q.2 (upF cl.2.2.2.1 cl.1 q.1 k) (cl.2.2.2.2 k) [true]
      rw [e2]
      exact z
    · cases hw with
      | head => rw [u13.2.2]; decide
      | tail _ hw => cases hw
    · rw [opn_c, u13.2.2, if_pos (.inr (.inl rfl))]
      decide
    · cases hw with
      | head => decide
      | tail _ hw => cases hw
  · rw [if_neg c] at e
    cases e
theorem iC.push {p : Nat} {t : List Bool} {W : List Int} {q : LC} {cl : CL} (h : iC p t W q cl) {o : Int} (ho : o = 10 ∨ o = 13) (h6 : opn W ≠ 6) (hp : p + 1 ≤ 240) : iC (p + 1) t (1048576 * o :: W) q cl := by
  obtain ⟨⟨a, h1, h2, h3⟩, h4, h5, h7, h8⟩ := h
  have hc := cop_u o
  refine ⟨⟨a, h1.push (by unfold isJ; omega), h2, h3⟩, ⟨h4.1.cn (by omega), ⟨h4.2.1, fun z => by omega, fun z => by omega⟩, ?_⟩, fun w hw => ?_, ⟨by show q.1 + (W.length + 1) ≤ 3 * (p + 1); omega, hp⟩, h8⟩
  · rw [opn_c, hc, if_pos (by omega)]
    have := h4.2.2
    omega
  · cases hw with
    | head => omega
    | tail _ hw => exact h5 w hw
theorem iC.sum {p : Nat} {W : List Int} {q : LC} {cl : CL} (h : iC p [] W q cl) : iS p 0 (1, 0) W q cl := by
  obtain ⟨⟨a, h1, h2, h3⟩, h4, h5, h7, h8⟩ := h
  have e : exX (1, 0) = 0 := rfl
  exact ⟨⟨a, by rw [(nb_cnd h4.1).1]; exact h1, .inr ⟨by decide, h2, h3⟩⟩, ⟨⟨[], W, rfl, (fun w hw => by cases hw), h4.1⟩, h4.2⟩, h5, ⟨by rw [e]; omega, h7.2⟩, ⟨by decide, fun z => by cases z⟩, h8⟩
theorem ztA_i {p : Nat} {x : Nat × Int} {W : List Int} {q : LC} {cl : CL} {ch : Int} {S : LSt} (h : iS p 0 x W q cl) (hp : p + 1 ≤ 240) (e : ztA x W q cl ch p = .inr S) : inv S (p + 1) := by
  unfold ztA at e
  have hΦ := h.2.2.2.1
  by_cases c1 : ch = 91
  · rw [if_pos c1] at e
    by_cases c2 : opn W = 6
    · rw [if_pos c2] at e
      cases e
    · rw [if_neg c2] at e
      have e := Sum.inr.inj e
      subst e
      exact h.opn c2 (Nat.lt_succ_self p) hp
  · rw [if_neg c1] at e
    by_cases c2 : 48 ≤ ch ∧ ch ≤ 57
    · rw [if_pos c2] at e
      have e := Sum.inr.inj e
      subst e
      show iN (p + 1) x 1 (ch - 48) W q cl
      exact ⟨h.le (Nat.le_succ p) hp, by omega, by decide, by omega, by show ch - 48 ≤ 10 * 0 + 9; omega⟩
    · rw [if_neg c2] at e
      by_cases c3 : lfV ch ≠ -1
      · rw [if_pos c3] at e
        have e := Sum.inr.inj e
        subst e
        have hr := lfV_r ch
        have hc : cop (1048576 + lfV ch) = 1 ∧ carg (1048576 + lfV ch) = lfV ch := by
          unfold cop carg
          omega
        exact h.fac ⟨by omega, .inr ⟨hc.1, by omega⟩⟩ (by omega) hp
      · rw [if_neg c3] at e
        cases e
theorem popN_i {p : Nat} : ∀ {W : List Int} {q : LC} {cl : CL}, iC p [true] W q cl → iC p [true] (popN W q).1 (popN W q).2 cl
  | [], _, _, h => h
  | w :: W, q, cl, h => by
    rw [popN_c]
    by_cases c : cop w = 10
    · rw [if_pos c]
      obtain ⟨⟨a, h1, h2, h3⟩, h4, h5, h7, h8⟩ := h
      have hl : (w :: W).length = W.length + 1 := rfl
      have hc := cop_u 10
      refine popN_i (W := W) (q := emC q (1048576 * 10)) (cl := cl) ⟨⟨a, (h1.em (x := 1048576 * 10) (t' := [true]) ⟨by decide, .inr (.inr (.inr (.inr ⟨hc, [], rfl, rfl⟩)))⟩ (by decide) (by omega)).pop (by unfold isJ; omega), h2, h3.ex fun k hk => emC_lt (by have := h1.1; omega)⟩, ⟨h4.1.tl, h4.2.1.1, ?_⟩, fun v hv => h5 v (.tail _ hv), ⟨by show q.1 + 1 + W.length ≤ 3 * p; omega, h7.2⟩, h8⟩
      have := h4.2.2
      rw [opn_c] at this
      omega
    · rw [if_neg c]
      exact h
theorem landI_i (all : Bool) {p : Nat} : ∀ {W : List Int} {q : LC} {cl : CL}, iC p [true] W q cl → iC p [true] (landI all W q).1 (landI all W q).2 cl
  | [], _, _, h => h
  | w :: W, q, cl, h => by
    rw [landI_c]
    by_cases c : cop w = 11 ∨ (all = true ∧ cop w = 12)
    · rw [if_pos c]
      obtain ⟨⟨a, h1, h2, h3⟩, h4, h5, h7, h8⟩ := h
      have hl : (w :: W).length = W.length + 1 := rfl
      have hj : isJ w := by
        unfold isJ
        rcases c with c | c
        · exact .inl c
        · exact .inr c.2
      have hk : a ≤ (carg w).toNat := by
        obtain ⟨-, -, ty, -, -, -, -, z⟩ := h1
        exact (z w (.head _) hj).1.2.1
      refine landI_i all (W := W) (q := ptC q (carg w).toNat) (cl := cl) ⟨⟨a, h1.land hj, h2, h3.ex fun k hk2 => if_neg (by omega)⟩, ⟨h4.1.tl, h4.2.1.1, ?_⟩, fun v hv => h5 v (.tail _ hv), ⟨by show q.1 + W.length ≤ 3 * p; omega, h7.2⟩, h8⟩
      have := h4.2.2
      rw [opn_c] at this
      omega
    · rw [if_neg c]
      exact h
theorem iC.jump {p : Nat} {W : List Int} {q : LC} {cl : CL} (h : iC p [true] W q cl) {o : Int} (ho : o = 11 ∨ o = 12) (hp : p + 1 ≤ 240) : iC (p + 1) [] ((1048576 * o + (q.1 : Int)) :: W) (emC q (1048576 * o)) cl := by
  obtain ⟨⟨a, h1, h2, h3⟩, h4, h5, h7, h8⟩ := h
  have hc : cop (1048576 * o + (q.1 : Int)) = o := cop_mk (by omega)
  refine ⟨⟨a, h1.jump ho (by omega), h2, h3.ex fun k hk => emC_lt (by have := h1.1; omega)⟩, ⟨h4.1.cn (by omega), ⟨h4.2.1, fun z => by omega, fun z => by omega⟩, ?_⟩, fun w hw => ?_, ⟨by show q.1 + 1 + (W.length + 1) ≤ 3 * (p + 1); omega, hp⟩, h8⟩
  · rw [opn_c, if_neg (by omega)]
    exact h4.2.2
  · cases hw with
    | head => omega
    | tail _ hw => exact h5 w hw
theorem ztR_i {p : Nat} {W : List Int} {q : LC} {cl : CL} {ch : Int} {S : LSt} (h : iC p [true] W q cl) (hp : p + 1 ≤ 240) (e : ztR W q cl ch p = .inr S) : inv S (p + 1) := by
  unfold ztR at e
  have hN := popN_i h
  generalize popN W q = NQ at e hN
  obtain ⟨NW, Nq⟩ := NQ
  have e : (if ch = 41 then (match (landI true NW Nq).1 with
    | [] => flt 1 p
    | w :: W2 => match W2 with
      | [] => .inr (zsD (landI true NW Nq).2 (cl.1 + 1, cl.2.1, cl.2.2.1, cl.2.2.2.1, upF cl.2.2.2.2 cl.1 (landI true NW Nq).2.1))
      | w2 :: W3 => .inr (zsR (w2 :: W3) (landI true NW Nq).2 cl))
    else if ch = 38 then .inr (zsP ((1048576 * 11 + ((landI false NW Nq).2.1 : Int)) :: (landI false NW Nq).1) (emC (landI false NW Nq).2 (1048576 * 11)) cl)
    else if ch = 124 then .inr (zsP ((1048576 * 12 + ((landI true NW Nq).2.1 : Int)) :: (landI true NW Nq).1) (emC (landI true NW Nq).2 (1048576 * 12)) cl)
    else flt 1 p) = Sum.inr S := e
  by_cases c1 : ch = 41
  · rw [if_pos c1] at e
    have hL := landI_i true hN
    have hT := landI_top NW Nq
    generalize landI true NW Nq = LQ at e hL hT
    obtain ⟨LW, Lq⟩ := LQ
    cases LW with
    | nil => cases e
    | cons w W2 =>
      have hT : cop w ≠ 11 ∧ cop w ≠ 12 := hT
      have hj : ¬ isJ w := by unfold isJ; omega
      obtain ⟨⟨a, h1, h2, h3⟩, h4, h5, h7, h8⟩ := hL
      have hl : (w :: W2).length = W2.length + 1 := rfl
      have h1 : seg Lq a [true] (w :: W2) := h1
      have h3 : vdn Lq.2 cl a := h3
      have h7 : Lq.1 + (w :: W2).length ≤ 3 * p ∧ p ≤ 240 := h7
      cases W2 with
      | nil =>
        have e := Sum.inr.inj e
        subst e
        have hc := h1.cpl fun v hv => by
          cases hv with
          | head => exact hj
          | tail _ hv => cases hv
        have ha := h1.1
        show iD (p + 1) Lq (cl.1 + 1, cl.2.1, cl.2.2.1, cl.2.2.2.1, upF cl.2.2.2.2 cl.1 Lq.1)
        refine ⟨fun k hk => ?_, ⟨by omega, hp⟩, by show cl.1 + 1 ≤ 16; omega⟩
        have hk : k < cl.1 + 1 := hk
        show upF cl.2.2.2.2 cl.1 Lq.1 k ≤ Lq.1 ∧ (cl.2.1 k ≠ 109 → cpl Lq.2 (cl.2.2.1 k) (cl.2.2.2.1 k) [false]) ∧ cpl Lq.2 (cl.2.2.2.1 k) (upF cl.2.2.2.2 cl.1 Lq.1 k) [true]
        unfold upF
        by_cases ek : k = cl.1
        · subst ek
          rw [if_pos rfl, ← h2]
          exact ⟨Nat.le_refl _, h3.2.2, hc⟩
        · rw [if_neg ek]
          obtain ⟨z1, z2⟩ := h3.1 k (by omega)
          exact ⟨by have := h3.2.1; omega, z2⟩
      | cons w2 W3 =>
        have e := Sum.inr.inj e
        subst e
        refine ⟨⟨a, h1.pop hj, h2, h3⟩, ⟨h4.1.tl, h4.2.1.1, ?_⟩, fun v hv => h5 v (.tail _ hv), ⟨by show Lq.1 + (w2 :: W3).length ≤ 3 * (p + 1); omega, hp⟩, h8⟩
        have := h4.2.2
        rw [opn_c] at this
        show opn (w2 :: W3) ≤ 6
        omega
  · rw [if_neg c1] at e
    by_cases c2 : ch = 38
    · rw [if_pos c2] at e
      have e := Sum.inr.inj e
      subst e
      exact (landI_i false hN).jump (.inl rfl) hp
    · rw [if_neg c2] at e
      by_cases c3 : ch = 124
      · rw [if_pos c3] at e
        have e := Sum.inr.inj e
        subst e
        exact (landI_i true hN).jump (.inr rfl) hp
      · rw [if_neg c3] at e
        cases e
theorem popS_O (all : Bool) : ∀ (W : List Int) (q : LC), hasO (popS all W q).1 = hasO W
  | [], _ => rfl
  | w :: W, q => by
    rw [popS_c]
    by_cases c : (4 ≤ cop w ∧ cop w ≤ 6) ∨ (all = true ∧ (cop w = 2 ∨ cop w = 3))
    · rw [if_pos c, popS_O all W]
      show hasO W = (decide (cop w = 14) || hasO W)
      rw [decide_eq_false (by
        rcases c with c | c
        · omega
        · have := c.2
          omega)]
      rfl
    · rw [if_neg c]
theorem sW.cnd {W : List Int} (h : sW W) (hr : rn W = 0) (ho : hasO W = false) : cndW W := by
  obtain ⟨S, V, e, hS, hV⟩ := h
  subst e
  cases S with
  | nil => exact hV
  | cons s S =>
    exfalso
    rcases hS s (.head _) with z | z
    · have hb : isB s := z
      have hr : (if isB s then rn (S ++ V) + 1 else 0) = 0 := hr
      rw [if_pos hb] at hr
      omega
    · have ho : (decide (cop s = 14) || hasO (S ++ V)) = false := ho
      rw [decide_eq_true z] at ho
      cases ho
theorem ztB_i {p : Nat} {x : Nat × Int} {W : List Int} {q : LC} {cl : CL} {ch : Int} {S : LSt} (h : iS p 1 x W q cl) (hp : p + 1 ≤ 240) (e : ztB x W q cl ch p = .inr S) : inv S (p + 1) := by
  unfold ztB at e
  have hT := h.pops true
  have hF := h.pops false
  have hO := popS_O true W q
  by_cases c1 : ssV ch = 2 ∨ ssV ch = 3
  · rw [if_pos c1] at e
    have e := Sum.inr.inj e
    subst e
    have hr : rn (popS true W q).1 = 0 := hT.2
    exact hT.1.op (by omega) ⟨fun _ => hr, fun _ => by omega⟩ (Nat.lt_succ_self p) hp
  · rw [if_neg c1] at e
    by_cases c2 : ssV ch ≠ -1
    · rw [if_pos c2] at e
      have e := Sum.inr.inj e
      subst e
      have hr : rn (popS false W q).1 ≤ 1 := hF.2
      have hs := ssV_r ch
      exact hF.1.op (by omega) ⟨fun _ => by omega, fun _ => hr⟩ (Nat.lt_succ_self p) hp
    · rw [if_neg c2] at e
      have hr : rn (popS true W q).1 = 0 := hT.2
      have hI := hT.1
      generalize popS true W q = PQ at e hI hr hO
      obtain ⟨PW, Pq⟩ := PQ
      have hO : hasO PW = hasO W := hO
      have hr : rn PW = 0 := hr
      have hI : iS p 1 x PW Pq cl := hI
      cases ho : hasO W
      · rw [ho] at e hO
        have e : ztE x PW Pq cl ch p = .inr S := e
        obtain ⟨⟨a, h1, h2⟩, h3, h4, h5, h6, h7⟩ := hI
        have hc := h3.1.cnd hr hO
        have hn := (nb_cnd hc).1
        rw [hn] at h1
        unfold ztE at e
        obtain ⟨x1, x2⟩ := x
        have e : (match x1 with
          | 0 => ztO Pq cl ch p
          | 1 => if cmV ch ≠ -1 then .inr (zsA (2, cmV ch) PW Pq cl) else flt 1 p
          | _ => ztR PW (emC Pq (1048576 * x2)) cl ch p) = Sum.inr S := e
        rcases (show x1 = 0 ∨ x1 = 1 ∨ x1 = 2 by have := h6.1; have z : x1 ≤ 2 := this; omega) with k | k | k
        · subst k
          rcases h2 with ⟨-, b1, b2, b3⟩ | ⟨b0, -⟩
          · have hq : Pq.1 + PW.length + 0 ≤ 3 * p ∧ p ≤ 240 := h5
            subst b1
            exact ztO_i ⟨⟨b2, h1.1, fun _ => h1.cpl b3⟩, ⟨by omega, h5.2⟩, h7⟩ hp e
          · exact absurd rfl b0
        · subst k
          by_cases c3 : cmV ch ≠ -1
          · have e : (if cmV ch ≠ -1 then .inr (zsA (2, cmV ch) PW Pq cl) else flt 1 p) = Sum.inr S := e
            rw [if_pos c3] at e
            have e := Sum.inr.inj e
            subst e
            have hcr := cmV_r ch
            have hq : Pq.1 + PW.length + 0 ≤ 3 * p ∧ p ≤ 240 := h5
            show iS (p + 1) 0 (2, cmV ch) PW Pq cl
            refine ⟨⟨a, by rw [hn]; exact h1, ?_⟩, h3, h4, ⟨by show Pq.1 + PW.length + 1 ≤ 3 * (p + 1); omega, hp⟩, ⟨Nat.le_refl _, fun _ => by omega⟩, h7⟩
            rcases h2 with ⟨b0, -⟩ | ⟨-, b⟩
            · cases b0
            · exact .inr ⟨show (2 : Nat) ≠ 0 by decide, b⟩
          · have e : (if cmV ch ≠ -1 then .inr (zsA (2, cmV ch) PW Pq cl) else flt 1 p) = Sum.inr S := e
            rw [if_neg c3] at e
            cases e
        · subst k
          have e : ztR PW (emC Pq (1048576 * x2)) cl ch p = .inr S := e
          have hx := h6.2 rfl
          have hx : 7 ≤ x2 ∧ x2 ≤ 9 := hx
          have hq : Pq.1 + PW.length + 1 ≤ 3 * p ∧ p ≤ 240 := h5
          rcases h2 with ⟨b0, -⟩ | ⟨-, b1, b2⟩
          · cases b0
          · exact ztR_i ⟨⟨a, h1.em (x := 1048576 * x2) (t' := [true]) ⟨by omega, .inr (.inr (.inr (.inl ⟨by rw [cop_u]; exact hx, [], rfl, rfl⟩)))⟩ (by decide) (by omega), b1, b2.ex fun k hk => emC_lt (by have := h1.1; omega)⟩, ⟨hc, h3.2⟩, h4, ⟨by show Pq.1 + 1 + PW.length ≤ 3 * p; omega, h5.2⟩, h7⟩ hp e
      · rw [ho] at e hO
        have e : (if ch = 93 then .inr (zsB x PW.tail Pq cl) else flt 1 p) = Sum.inr S := e
        by_cases c3 : ch = 93
        · rw [if_pos c3] at e
          have e := Sum.inr.inj e
          subst e
          cases PW with
          | nil => cases hO
          | cons w PW =>
            show iS (p + 1) 1 x PW Pq cl
            obtain ⟨⟨a, h1, h2⟩, h3, h4, h5, h6, h7⟩ := hI
            obtain ⟨S, V, e1, hS, hV⟩ := h3.1
            have hw : cop w = 14 := by
              cases S with
              | nil =>
                have e1 : w :: PW = V := e1
                have := hV.os
                rw [← e1, hO] at this
                cases this
              | cons s S =>
                have e1 : w :: PW = s :: (S ++ V) := e1
                have es := (List.cons.inj e1).1
                subst es
                rcases hS w (.head _) with z | z
                · have hb : isB w := z
                  have hr : (if isB w then rn PW + 1 else 0) = 0 := hr
                  rw [if_pos hb] at hr
                  omega
                · exact z
            have hsW : sW PW := by
              cases S with
              | nil =>
                have e1 : w :: PW = V := e1
                have := hV w (by rw [← e1]; exact .head _)
                omega
              | cons s S =>
                have e1 : w :: PW = s :: (S ++ V) := e1
                exact ⟨S, V, (List.cons.inj e1).2, hS.tl, hV⟩
            have hb : ¬ isB w := by unfold isB; omega
            have hj : ¬ isJ w := by unfold isJ; omega
            have en : nb (w :: PW) = nb PW := if_neg hb
            rw [en] at h1
            have hl : (w :: PW).length = PW.length + 1 := rfl
            refine ⟨⟨a, h1.pop hj, h2.w fun v hv => .inl (.tail _ hv)⟩, ⟨hsW, h3.2.1.1, ?_⟩, fun v hv => h4 v (.tail _ hv), ⟨by omega, hp⟩, h6, h7⟩
            have := h3.2.2
            rw [opn_c] at this
            omega
        · rw [if_neg c3] at e
          cases e
theorem ztN_i {p : Nat} {x : Nat × Int} {cnt : Nat} {v : Int} {W : List Int} {q : LC} {cl : CL} {ch : Int} {S : LSt} (h : iN p x cnt v W q cl) (hp : p + 1 ≤ 240) (e : ztN x cnt v W q cl ch p = .inr S) : inv S (p + 1) := by
  obtain ⟨h1, h2, h3, h4, h5⟩ := h
  unfold ztN at e
  have hpw := pwT_5 cnt h3
  by_cases c1 : 48 ≤ ch ∧ ch ≤ 57
  · rw [if_pos c1] at e
    by_cases c2 : 5 ≤ cnt
    · rw [if_pos c2] at e
      cases e
    · rw [if_neg c2] at e
      have e := Sum.inr.inj e
      subst e
      have hs : pwT (cnt + 1) = 10 * pwT cnt + 9 := rfl
      show iN (p + 1) x (cnt + 1) (10 * v + ch - 48) W q cl
      exact ⟨h1.le (Nat.le_succ p) hp, by omega, by omega, by omega, by omega⟩
  · rw [if_neg c1] at e
    have hc : cop v = 0 := by
      unfold cop
      omega
    exact ztB_i (h1.fac (v := v) ⟨by omega, .inl hc⟩ h2 (by have := h1.2.2.2.1.2; omega)) hp e
theorem ztP_i {p : Nat} {W : List Int} {q : LC} {cl : CL} {ch : Int} {S : LSt} (h : iC p [] W q cl) (hp : p + 1 ≤ 240) (e : ztP W q cl ch p = .inr S) : inv S (p + 1) := by
  unfold ztP at e
  by_cases c1 : ch = 33
  · rw [if_pos c1] at e
    by_cases c2 : opn W = 6
    · rw [if_pos c2] at e
      cases e
    · rw [if_neg c2] at e
      have e := Sum.inr.inj e
      subst e
      exact h.push (.inl rfl) c2 hp
  · rw [if_neg c1] at e
    by_cases c3 : ch = 40
    · rw [if_pos c3] at e
      by_cases c2 : opn W = 6
      · rw [if_pos c2] at e
        cases e
      · rw [if_neg c2] at e
        have e := Sum.inr.inj e
        subst e
        exact h.push (.inr rfl) c2 hp
    · rw [if_neg c3] at e
      exact ztA_i h.sum hp e
theorem ztK_i {p : Nat} {q : LC} {cl : CL} {ch : Int} {S : LSt} (h : iD p q cl) (hp : p + 1 ≤ 240) (e : ztK q cl ch p = .inr S) : inv S (p + 1) := by
  obtain ⟨h1, h2, h3⟩ := h
  unfold ztK at e
  by_cases c1 : ch = 102 ∨ ch = 99 ∨ ch = 109 ∨ ch = 114
  · rw [if_pos c1] at e
    by_cases c2 : cl.1 = 16
    · rw [if_pos c2] at e
      cases e
    · rw [if_neg c2] at e
      have hF : upF cl.2.2.1 cl.1 q.1 cl.1 = q.1 := if_pos rfl
      have hL : upF cl.2.1 cl.1 ch cl.1 = ch := if_pos rfl
      have hD : clD q.2 (cl.1, upF cl.2.1 cl.1 ch, upF cl.2.2.1 cl.1 q.1, cl.2.2.2.1, cl.2.2.2.2) q.1 := fun k hk => by
        have hk : k < cl.1 := hk
        have z := h1 k hk
        show cl.2.2.2.2 k ≤ q.1 ∧ (upF cl.2.1 cl.1 ch k ≠ 109 → cpl q.2 (upF cl.2.2.1 cl.1 q.1 k) (cl.2.2.2.1 k) [false]) ∧ cpl q.2 (cl.2.2.2.1 k) (cl.2.2.2.2 k) [true]
        unfold upF
        rw [if_neg (by omega), if_neg (by omega)]
        exact z
      by_cases c3 : ch = 109
      · rw [if_pos c3] at e
        have e := Sum.inr.inj e
        subst e
        show iO (p + 1) q (cl.1, upF cl.2.1 cl.1 ch, upF cl.2.2.1 cl.1 q.1, cl.2.2.2.1, cl.2.2.2.2)
        refine ⟨⟨?_, ?_, fun z => absurd (hL.trans c3) z⟩, ⟨by omega, hp⟩, by show cl.1 ≤ 15; omega⟩
        · show clD q.2 _ (upF cl.2.2.1 cl.1 q.1 cl.1)
          rw [hF]
          exact hD
        · show upF cl.2.2.1 cl.1 q.1 cl.1 ≤ q.1
          rw [hF]
          exact Nat.le_refl _
      · rw [if_neg c3] at e
        have e := Sum.inr.inj e
        subst e
        show iS (p + 1) 0 (0, 0) [] q (cl.1, upF cl.2.1 cl.1 ch, upF cl.2.2.1 cl.1 q.1, cl.2.2.2.1, cl.2.2.2.2)
        exact ⟨⟨q.1, seg.z rfl (by omega) (fun w hw => by cases hw), .inl ⟨rfl, hF.symm, hD, fun w hw => by cases hw⟩⟩, ⟨⟨[], [], rfl, (fun w hw => by cases hw), (fun w hw => by cases hw)⟩, trivial, Nat.zero_le _⟩, fun w hw => (by cases hw), ⟨by show q.1 + 0 + 0 ≤ 3 * (p + 1); omega, hp⟩, ⟨Nat.zero_le _, fun z => by cases z⟩, by show cl.1 ≤ 15; omega⟩
  · rw [if_neg c1] at e
    cases e
theorem step_i {S S' : LSt} {p : Nat} {ch : Int} (h : inv S p) (hp : p + 1 ≤ 240) (e : stepL S ch p = .inr S') : inv S' (p + 1) := by
  obtain ⟨⟨m, x1, x2⟩, ⟨cnt, v⟩, W, q, cl⟩ := S
  unfold stepL at e
  match m, h, e with
  | 0, h, e => exact ztA_i h hp e
  | 1, h, e => exact ztN_i h hp e
  | 2, h, e => exact ztB_i h hp e
  | 3, h, e => exact ztP_i h hp e
  | 4, h, e => exact ztR_i h hp e
  | 5, h, e => exact ztO_i h hp e
  | 6, h, e =>
    have h : iD p q cl := h
    have e : (if ch = 59 then .inr (zsK q cl) else flt 1 p) = Sum.inr S' := e
    by_cases c : ch = 59
    · rw [if_pos c] at e
      have e := Sum.inr.inj e
      subst e
      show iD (p + 1) q cl
      exact ⟨h.1, ⟨by have := h.2.1; omega, hp⟩, h.2.2⟩
    · rw [if_neg c] at e
      cases e
  | _ + 7, h, e => exact ztK_i h hp e
/- a text of THE LAW without a fault leaves well typed codes -/
theorem law_typed {t : Nat → Int} {N : Nat} (hN : N ≤ 240) {q : LC} {cl : CL} (h : outL t N 0 (zsK q0L cl0L) = .inr (zsD q cl)) : clD q.2 cl q.1 := by
  have : ∀ (m p : Nat) (S S' : LSt), p + m = N → inv S p → runL t m p S = .inr S' → inv S' N := by
    intro m
    induction m with
    | zero =>
      intro p S S' hp hi e
      have e : (if S.1.1 = 6 then .inr S else flt 1 p) = Sum.inr S' := e
      have hp : p = N := hp
      subst hp
      split at e
      · have e := Sum.inr.inj e
        rw [← e]
        exact hi
      · cases e
    | succ m ih =>
      intro p S S' hp hi e
      have e : (match stepL S (t p) p with
        | .inl f => .inl f
        | .inr S2 => runL t m (p + 1) S2) = Sum.inr S' := e
      cases e2 : stepL S (t p) p with
      | inl f =>
        rw [e2] at e
        cases e
      | inr S2 =>
        rw [e2] at e
        exact ih (p + 1) S2 S' (by omega) (step_i hi (by omega) e2) e
  have z := this (N - 0) 0 (zsK q0L cl0L) (zsD q cl) (by omega) ⟨fun k hk => absurd hk (Nat.not_lt_zero k), ⟨Nat.zero_le _, Nat.zero_le _⟩, Nat.zero_le _⟩ h
  exact z.1
