/-! PART 7b: THE LAW's codes are well typed: kept by every byte -/
/- a whole piece of code -/
def cpl (C : Nat → Int) (a b : Nat) (t : List Bool) : Prop := (a ≤ b ∧ b ≤ 1000) ∧ ∃ ty : Nat → List Bool, ty a = [] ∧ ty b = t ∧ (∀ k, (ty k).length ≤ 40) ∧ ∀ k, a ≤ k → k < b → tStep C ty k b
theorem cpl.ex {C C' : Nat → Int} {a b : Nat} {t : List Bool} (h : cpl C a b t) (hC : ∀ k, a ≤ k → k < b → C' k = C k) : cpl C' a b t := by
  obtain ⟨h0, ty, h1, h2, h3, h4⟩ := h
  exact ⟨h0, ty, h1, h2, h3, fun k k1 k2 => (h4 k k1 k2).ex k2 (hC k k1 k2) fun _ _ => rfl⟩
theorem seg.cpl {q : LC} {a : Nat} {t : List Bool} {W : List Int} (h : seg q a t W) (hW : ∀ w, w ∈ W → ¬ isJ w) : cpl q.2 a q.1 t := by
  obtain ⟨h1, h2, ty, h3, h4, h5, h6, -⟩ := h
  refine ⟨⟨h1, h2⟩, ty, h3, h4, h5, fun k k1 k2 => ?_⟩
  rcases h6 k k1 k2 with z | ⟨w, z1, z2, -⟩
  · exact z
  · exact absurd z2 (hW w z1)
/- the clauses that are over; all their codes lie below c -/
def clD (C : Nat → Int) (cl : CL) (c : Nat) : Prop := ∀ k, k < cl.1 → cl.2.2.2.2 k ≤ c ∧ (cl.2.1 k ≠ 109 → cpl C (cl.2.2.1 k) (cl.2.2.2.1 k) [false]) ∧ cpl C (cl.2.2.2.1 k) (cl.2.2.2.2 k) [true]
theorem clD.ex {C C' : Nat → Int} {cl : CL} {c : Nat} (h : clD C cl c) (hC : ∀ k, k < c → C' k = C k) : clD C' cl c := fun k hk => by
  obtain ⟨h1, h2, h3⟩ := h k hk
  have hl := h3.1.1
  exact ⟨h1, fun z => (h2 z).ex fun j _ j2 => hC j (by have := (h2 z).1; omega), h3.ex fun j _ j2 => hC j (by omega)⟩
theorem clD.le {C : Nat → Int} {cl : CL} {c c' : Nat} (h : clD C cl c) (hc : c ≤ c') : clD C cl c' := fun k hk => by
  obtain ⟨h1, h2⟩ := h k hk
  exact ⟨by omega, h2⟩
/- the clause that is being read: its value is over -/
def vdn (C : Nat → Int) (cl : CL) (c : Nat) : Prop := clD C cl (cl.2.2.1 cl.1) ∧ cl.2.2.1 cl.1 ≤ c ∧ (cl.2.1 cl.1 ≠ 109 → cpl C (cl.2.2.1 cl.1) c [false])
theorem vdn.ex {C C' : Nat → Int} {cl : CL} {c : Nat} (h : vdn C cl c) (hC : ∀ k, k < c → C' k = C k) : vdn C' cl c := ⟨h.1.ex fun k hk => hC k (by have := h.2.1; omega), h.2.1, fun z => (h.2.2 z).ex fun k _ k2 => hC k k2⟩
/- where the piece that is being read began, and what is known of what lies before -/
def beg (C : Nat → Int) (x : Nat) (cl : CL) (a : Nat) (W : List Int) : Prop := (x = 0 ∧ a = cl.2.2.1 cl.1 ∧ clD C cl a ∧ (∀ w, w ∈ W → ¬ isJ w)) ∨ (x ≠ 0 ∧ a = cl.2.2.2.1 cl.1 ∧ vdn C cl a)
theorem beg.ex {C C' : Nat → Int} {x : Nat} {cl : CL} {a : Nat} {W : List Int} (h : beg C x cl a W) (hC : ∀ k, k < a → C' k = C k) : beg C' x cl a W := by
  rcases h with ⟨h0, h1, h2, h3⟩ | ⟨h0, h1, h2⟩
  · exact .inl ⟨h0, h1, h2.ex hC, h3⟩
  · exact .inr ⟨h0, h1, h2.ex hC⟩
theorem beg.w {C : Nat → Int} {x : Nat} {cl : CL} {a : Nat} {W W' : List Int} (h : beg C x cl a W) (hW : ∀ w, w ∈ W' → w ∈ W ∨ ¬ isJ w) : beg C x cl a W' := by
  rcases h with ⟨h0, h1, h2, h3⟩ | h
  · refine .inl ⟨h0, h1, h2, fun w hw => ?_⟩
    rcases hW w hw with z | z
    · exact h3 w z
    · exact z
  · exact .inr h
def exX (x : Nat × Int) : Nat := if x.1 = 2 then 1 else 0
/- in a sum: e = 0 ahead of a factor, 1 behind it -/
def iS (p : Nat) (e : Nat) (x : Nat × Int) (W : List Int) (q : LC) (cl : CL) : Prop := (∃ a, seg q a (Fs (nb W + (exX x + e))) W ∧ beg q.2 x.1 cl a W) ∧ (sW W ∧ Jw W ∧ opn W ≤ 6) ∧ (∀ w, w ∈ W → 0 ≤ w ∧ w < 16777216) ∧ (q.1 + W.length + exX x ≤ 3 * p ∧ p ≤ 240) ∧ (x.1 ≤ 2 ∧ (x.1 = 2 → 7 ≤ x.2 ∧ x.2 ≤ 9)) ∧ cl.1 ≤ 15
/- in a condition: t = [] ahead of a piece, [true] behind it -/
def iC (p : Nat) (t : List Bool) (W : List Int) (q : LC) (cl : CL) : Prop := (∃ a, seg q a t W ∧ a = cl.2.2.2.1 cl.1 ∧ vdn q.2 cl a) ∧ (cndW W ∧ Jw W ∧ opn W ≤ 6) ∧ (∀ w, w ∈ W → 0 ≤ w ∧ w < 16777216) ∧ (q.1 + W.length ≤ 3 * p ∧ p ≤ 240) ∧ cl.1 ≤ 15
theorem emC_lt {q : LC} {x : Int} {k : Nat} (h : k < q.1) : (emC q x).2 k = q.2 k := if_neg (by omega)
/- a factor's code -/
theorem iS.fac {p p' : Nat} {x : Nat × Int} {W : List Int} {q : LC} {cl : CL} (h : iS p 0 x W q cl) {v : Int} (hv : (0 ≤ v ∧ v < 16777216) ∧ (cop v = 0 ∨ (cop v = 1 ∧ carg v < 10))) (hp : q.1 + 1 + W.length + exX x ≤ 3 * p') (hp2 : p' ≤ 240) : iS p' 1 x W (emC q v) cl := by
  obtain ⟨⟨a, h1, h2⟩, h3, h4, h5, h6, h7⟩ := h
  have h14 := nb_14 h3.1 h3.2.1 h3.2.2
  have hex : exX x ≤ 1 := by unfold exX; split <;> omega
  refine ⟨⟨a, h1.em (t' := Fs (nb W + (exX x + 1))) ⟨hv.1, ?_⟩ (by rw [Fs_l]; omega) (by omega), h2.ex fun k hk => emC_lt (by have := h1.1; omega)⟩, h3, h4, ⟨hp, hp2⟩, h6, h7⟩
  have e : Fs (nb W + (exX x + 1)) = false :: Fs (nb W + (exX x + 0)) := rfl
  rcases hv.2 with z | z
  · exact .inl ⟨z, e⟩
  · exact .inr (.inl ⟨z.1, z.2, e⟩)
theorem popS_C (all : Bool) : ∀ (W : List Int) (q : LC), q.1 ≤ (popS all W q).2.1 ∧ ∀ k, k < q.1 → (popS all W q).2.2 k = q.2 k
  | [], q => ⟨Nat.le_refl _, fun _ _ => rfl⟩
  | w :: W, q => by
    rw [popS_c]
    split
    · have := popS_C all W (emC q (1048576 * cop w))
      have e1 : (emC q (1048576 * cop w)).1 = q.1 + 1 := rfl
      exact ⟨by omega, fun k hk => (this.2 k (by omega)).trans (emC_lt hk)⟩
    · exact ⟨Nat.le_refl _, fun _ _ => rfl⟩
/- operators that no longer wait are noted -/
theorem iS.pops {p : Nat} {x : Nat × Int} {W : List Int} {q : LC} {cl : CL} (all : Bool) (h : iS p 1 x W q cl) : iS p 1 x (popS all W q).1 (popS all W q).2 cl ∧ (if all then rn (popS all W q).1 = 0 else rn (popS all W q).1 ≤ 1) := by
  obtain ⟨⟨a, h1, h2⟩, h3, h4, h5, h6, h7⟩ := h
  have hex : exX x ≤ 1 := by unfold exX; split <;> omega
  have r := seg.popS (e := exX x) all (by omega) (W := W) (q := q) h1 h3.1 h3.2.1 h3.2.2 h4 (by omega)
  have c := popS_C all W q
  exact ⟨⟨⟨a, r.1, (h2.w fun w hw => .inl (r.2.2.2.1 w hw)).ex fun k hk => c.2 k (by have := h1.1; omega)⟩, ⟨r.2.1, r.2.2.1, by rw [opn_popS]; exact h3.2.2⟩, fun w hw => h4 w (r.2.2.2.1 w hw), ⟨by have := r.2.2.2.2.1; omega, h5.2⟩, h6, h7⟩, r.2.2.2.2.2⟩
theorem sW.op {W : List Int} (h : sW W) {w : Int} (hw : isB w ∨ cop w = 14) : sW (w :: W) := by
  obtain ⟨S, V, e, hS, hV⟩ := h
  subst e
  exact ⟨w :: S, V, rfl, hS.c hw, hV⟩
/- an operator of a sum waits -/
theorem iS.op {p p' : Nat} {x : Nat × Int} {W : List Int} {q : LC} {cl : CL} (h : iS p 1 x W q cl) {o : Int} (ho : 2 ≤ o ∧ o ≤ 6) (hr : (o ≤ 3 → rn W = 0) ∧ (4 ≤ o → rn W ≤ 1)) (hp : p < p') (hp2 : p' ≤ 240) : iS p' 0 x (1048576 * o :: W) q cl := by
  obtain ⟨⟨a, h1, h2⟩, h3, h4, h5, h6, h7⟩ := h
  have hc := cop_u o
  have hb : isB (1048576 * o) := by unfold isB; rw [hc]; exact ho
  have en : nb (1048576 * o :: W) = nb W + 1 := if_pos hb
  refine ⟨⟨a, ?_, h2.w fun w hw => ?_⟩, ⟨h3.1.op (.inl hb), ⟨h3.2.1, fun z => hr.1 (by omega), fun z => hr.2 (by omega)⟩, ?_⟩, fun w hw => ?_, ⟨by show q.1 + (W.length + 1) + exX x ≤ 3 * p'; omega, hp2⟩, h6, h7⟩
  · rw [en, show nb W + 1 + (exX x + 0) = nb W + (exX x + 1) by omega]
    exact h1.push (isB_J hb)
  · cases hw with
    | head => exact .inr (isB_J hb)
    | tail _ hw => exact .inl hw
  · rw [opn_c, hc, if_neg (by omega)]
    exact h3.2.2
  · cases hw with
    | head => omega
    | tail _ hw => exact h4 w hw
/- a [ waits -/
theorem iS.opn {p p' : Nat} {x : Nat × Int} {W : List Int} {q : LC} {cl : CL} (h : iS p 0 x W q cl) (h6' : opn W ≠ 6) (hp : p < p') (hp2 : p' ≤ 240) : iS p' 0 x (1048576 * 14 :: W) q cl := by
  obtain ⟨⟨a, h1, h2⟩, h3, h4, h5, h6, h7⟩ := h
  have hc := cop_u 14
  have hb : ¬ isB (1048576 * 14) := by unfold isB; rw [hc]; omega
  have hj : ¬ isJ (1048576 * 14) := by unfold isJ; rw [hc]; omega
  have en : nb (1048576 * 14 :: W) = nb W := if_neg hb
  refine ⟨⟨a, by rw [en]; exact h1.push hj, h2.w fun w hw => ?_⟩, ⟨h3.1.op (.inr hc), ⟨h3.2.1, fun z => by omega, fun z => by omega⟩, ?_⟩, fun w hw => ?_, ⟨by show q.1 + (W.length + 1) + exX x ≤ 3 * p'; omega, hp2⟩, h6, h7⟩
  · cases hw with
    | head => exact .inr hj
    | tail _ hw => exact .inl hw
  · rw [opn_c, hc, if_pos (.inr (.inr rfl))]
    omega
  · cases hw with
    | head => omega
    | tail _ hw => exact h4 w hw
theorem iS.le {p p' e : Nat} {x : Nat × Int} {W : List Int} {q : LC} {cl : CL} (h : iS p e x W q cl) (hp : p ≤ p') (hp2 : p' ≤ 240) : iS p' e x W q cl := by
  obtain ⟨h1, h3, h4, h5, h6, h7⟩ := h
  exact ⟨h1, h3, h4, ⟨by omega, hp2⟩, h6, h7⟩
