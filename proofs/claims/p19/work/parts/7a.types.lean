/-! PART 7a: THE LAW's codes are well typed: what lies on the stack ahead of each code (true: 0 or 1, false: any number) -/
def sT (x : Int) (t t' : List Bool) : Prop := (0 ≤ x ∧ x < 16777216) ∧ ((cop x = 0 ∧ t' = false :: t) ∨ (cop x = 1 ∧ carg x < 10 ∧ t' = false :: t) ∨ ((2 ≤ cop x ∧ cop x ≤ 6) ∧ ∃ r, t = false :: false :: r ∧ t' = false :: r) ∨ ((7 ≤ cop x ∧ cop x ≤ 9) ∧ ∃ r, t = false :: false :: r ∧ t' = true :: r) ∨ (cop x = 10 ∧ ∃ r, t = true :: r ∧ t' = true :: r))
def tStep (C : Nat → Int) (ty : Nat → List Bool) (k b : Nat) : Prop := sT (C k) (ty k) (ty (k + 1)) ∨ ((0 ≤ C k ∧ C k < 16777216) ∧ (cop (C k) = 11 ∨ cop (C k) = 12) ∧ ty k = [true] ∧ ty (k + 1) = [] ∧ (k : Int) < carg (C k) ∧ carg (C k) ≤ (b : Int) ∧ ty (carg (C k)).toNat = [true])
def isJ (w : Int) : Prop := cop w = 11 ∨ cop w = 12
/- the codes from a on, with what lies on the stack; jumps that wait in W have no aim yet -/
def seg (q : LC) (a : Nat) (t : List Bool) (W : List Int) : Prop := a ≤ q.1 ∧ q.1 ≤ 1000 ∧ ∃ ty : Nat → List Bool, ty a = [] ∧ ty q.1 = t ∧ (∀ k, (ty k).length ≤ 40) ∧ (∀ k, a ≤ k → k < q.1 → tStep q.2 ty k q.1 ∨ ∃ w, w ∈ W ∧ isJ w ∧ (carg w).toNat = k) ∧ ∀ w, w ∈ W → isJ w → (0 ≤ carg w ∧ a ≤ (carg w).toNat ∧ (carg w).toNat < q.1) ∧ (0 ≤ q.2 (carg w).toNat ∧ q.2 (carg w).toNat < 16777216) ∧ isJ (q.2 (carg w).toNat) ∧ ty (carg w).toNat = [true] ∧ ty ((carg w).toNat + 1) = []
theorem tStep.mono {C : Nat → Int} {ty : Nat → List Bool} {k b b' : Nat} (h : tStep C ty k b) (hb : b ≤ b') : tStep C ty k b' := by
  rcases h with h | ⟨h0, h1, h2, h3, h4, h5, h6⟩
  · exact .inl h
  · exact .inr ⟨h0, h1, h2, h3, h4, by omega, h6⟩
theorem seg.z {q : LC} {a : Nat} (h : a = q.1) (hq : q.1 ≤ 1000) {W : List Int} (hW : ∀ w, w ∈ W → ¬ isJ w) : seg q a [] W := ⟨by omega, hq, fun _ => [], rfl, rfl, fun _ => Nat.zero_le _, fun k h1 h2 => by omega, fun w hw hj => absurd hj (hW w hw)⟩
theorem tStep.ex {C C' : Nat → Int} {ty ty' : Nat → List Bool} {k b : Nat} (h : tStep C ty k b) (hk : k < b) (hC : C' k = C k) (ht : ∀ j, j ≤ b → ty' j = ty j) : tStep C' ty' k b := by
  unfold tStep
  rw [hC, ht k (by omega), ht (k + 1) (by omega)]
  rcases h with h | ⟨h0, h1, h2, h3, h4, h5, h6⟩
  · exact .inl h
  · exact .inr ⟨h0, h1, h2, h3, h4, h5, by rw [ht _ (by omega)]; exact h6⟩
theorem seg.em {q : LC} {a : Nat} {t t' : List Bool} {W : List Int} (h : seg q a t W) {x : Int} (hx : sT x t t') (hl : t'.length ≤ 40) (hq : q.1 + 1 ≤ 1000) : seg (emC q x) a t' W := by
  obtain ⟨h1, h2, ty, h3, h4, h5, h6, h7⟩ := h
  have hC : ∀ k, k < q.1 → (emC q x).2 k = q.2 k := fun k hk => if_neg (by omega)
  have ht : ∀ j, j ≤ q.1 → (fun k => if k = q.1 + 1 then t' else ty k) j = ty j := fun j hj => if_neg (by omega)
  refine ⟨by show a ≤ q.1 + 1; omega, hq, fun k => if k = q.1 + 1 then t' else ty k, (ht a h1).trans h3, if_pos rfl, fun k => ?_, fun k k1 k2 => ?_, fun w hw hj => ?_⟩
  · show (if k = q.1 + 1 then t' else ty k).length ≤ 40
    split
    · exact hl
    · exact h5 k
  · have k2 : k < q.1 + 1 := k2
    by_cases e : k = q.1
    · subst e
      refine .inl (.inl ?_)
      show sT ((emC q x).2 q.1) _ _
      rw [show (emC q x).2 q.1 = x from if_pos rfl, ht q.1 (Nat.le_refl _), h4, show (fun k => if k = q.1 + 1 then t' else ty k) (q.1 + 1) = t' from if_pos rfl]
      exact hx
    · rcases h6 k k1 (by omega) with z | z
      · exact .inl (((z.ex (by omega) (hC k (by omega)) ht)).mono (Nat.le_succ _))
      · exact .inr z
  · obtain ⟨⟨a1, a2, a3⟩, a4, a5, a6, a7⟩ := h7 w hw hj
    rw [hC _ a3]
    exact ⟨⟨a1, a2, by show _ < q.1 + 1; omega⟩, a4, a5, (ht _ (by omega)).trans a6, (ht _ (by omega)).trans a7⟩
theorem seg.pop {q : LC} {a : Nat} {t : List Bool} {w : Int} {W : List Int} (h : seg q a t (w :: W)) (hw : ¬ isJ w) : seg q a t W := by
  obtain ⟨h1, h2, ty, h3, h4, h5, h6, h7⟩ := h
  refine ⟨h1, h2, ty, h3, h4, h5, fun k k1 k2 => ?_, fun w' hw' => h7 w' (.tail _ hw')⟩
  rcases h6 k k1 k2 with z | ⟨w', z1, z2, z3⟩
  · exact .inl z
  · cases z1 with
    | head => exact absurd z2 hw
    | tail _ z1 => exact .inr ⟨w', z1, z2, z3⟩
theorem seg.push {q : LC} {a : Nat} {t : List Bool} {w : Int} {W : List Int} (h : seg q a t W) (hw : ¬ isJ w) : seg q a t (w :: W) := by
  obtain ⟨h1, h2, ty, h3, h4, h5, h6, h7⟩ := h
  refine ⟨h1, h2, ty, h3, h4, h5, fun k k1 k2 => ?_, fun w' hw' hj => ?_⟩
  · rcases h6 k k1 k2 with z | ⟨w', z1, z2, z3⟩
    · exact .inl z
    · exact .inr ⟨w', .tail _ z1, z2, z3⟩
  · cases hw' with
    | head => exact absurd hj hw
    | tail _ hw' => exact h7 w' hw' hj
theorem seg.jump {q : LC} {a : Nat} {W : List Int} (h : seg q a [true] W) {o : Int} (ho : o = 11 ∨ o = 12) (hq : q.1 + 1 ≤ 1000) : seg (emC q (1048576 * o)) a [] ((1048576 * o + (q.1 : Int)) :: W) := by
  obtain ⟨h1, h2, ty, h3, h4, h5, h6, h7⟩ := h
  have hC : ∀ k, k < q.1 → (emC q (1048576 * o)).2 k = q.2 k := fun k hk => if_neg (by omega)
  have hCq : (emC q (1048576 * o)).2 q.1 = 1048576 * o := if_pos rfl
  have ht : ∀ j, j ≤ q.1 → (fun k => if k = q.1 + 1 then [] else ty k) j = ty j := fun j hj => if_neg (by omega)
  have hw : cop (1048576 * o + (q.1 : Int)) = o := cop_mk (by omega)
  have hg : carg (1048576 * o + (q.1 : Int)) = (q.1 : Int) := by
    unfold carg
    omega
  refine ⟨by show a ≤ q.1 + 1; omega, hq, fun k => if k = q.1 + 1 then [] else ty k, (ht a h1).trans h3, if_pos rfl, fun k => ?_, fun k k1 k2 => ?_, fun w hw' hj => ?_⟩
  · show (if k = q.1 + 1 then [] else ty k).length ≤ 40
    split
    · exact Nat.zero_le _
    · exact h5 k
  · have k2 : k < q.1 + 1 := k2
    by_cases e : k = q.1
    · subst e
      exact .inr ⟨_, .head _, by unfold isJ; rw [hw]; exact ho, by rw [hg]; omega⟩
    · rcases h6 k k1 (by omega) with z | ⟨w', z1, z2, z3⟩
      · exact .inl ((z.ex (by omega) (hC k (by omega)) ht).mono (Nat.le_succ _))
      · exact .inr ⟨w', .tail _ z1, z2, z3⟩
  · cases hw' with
    | head =>
      rw [hg, show ((q.1 : Int)).toNat = q.1 by omega, hCq]
      refine ⟨⟨by omega, h1, Nat.lt_succ_self _⟩, by omega, by unfold isJ; rw [cop_u]; exact ho, (ht _ (Nat.le_refl _)).trans h4, if_pos rfl⟩
    | tail _ hw' =>
      obtain ⟨⟨a1, a2, a3⟩, a4, a5, a6, a7⟩ := h7 w hw' hj
      rw [hC _ a3]
      exact ⟨⟨a1, a2, by show _ < q.1 + 1; omega⟩, a4, a5, (ht _ (by omega)).trans a6, (ht _ (by omega)).trans a7⟩
theorem cop_pt {x : Int} {n : Nat} (hn : n ≤ 1000) : cop (1048576 * cop x + (n : Int)) = cop x ∧ carg (1048576 * cop x + (n : Int)) = (n : Int) := ⟨cop_mk (by omega), by
  unfold carg
  omega⟩
theorem seg.land {q : LC} {a : Nat} {w : Int} {W : List Int} (h : seg q a [true] (w :: W)) (hw : isJ w) : seg (ptC q (carg w).toNat) a [true] W := by
  obtain ⟨h1, h2, ty, h3, h4, h5, h6, h7⟩ := h
  obtain ⟨⟨b1, b2, b3⟩, b4, b5, b6, b7⟩ := h7 w (.head _) hw
  have hn : ∀ k, k ≠ (carg w).toNat → (ptC q (carg w).toNat).2 k = q.2 k := fun k hk => if_neg hk
  have hk : (ptC q (carg w).toNat).2 (carg w).toNat = 1048576 * cop (q.2 (carg w).toNat) + (q.1 : Int) := if_pos rfl
  have hcp := cop_pt (x := q.2 (carg w).toNat) h2
  have hcr := cop_r b4
  refine ⟨h1, h2, ty, h3, h4, h5, fun k k1 k2 => ?_, fun w' hw' hj => ?_⟩
  · have k2 : k < q.1 := k2
    by_cases e : k = (carg w).toNat
    · subst e
      refine .inl (.inr ?_)
      rw [hk, hcp.1, hcp.2]
      exact ⟨by omega, b5, b6, b7, by omega, Int.le_refl _, by rw [show ((q.1 : Int)).toNat = q.1 by omega]; exact h4⟩
    · rcases h6 k k1 k2 with z | ⟨w', z1, z2, z3⟩
      · exact .inl (z.ex k2 (hn k e) fun _ _ => rfl)
      · cases z1 with
        | head => exact absurd z3.symm e
        | tail _ z1 => exact .inr ⟨w', z1, z2, z3⟩
  · obtain ⟨a1, a4, a5, a6, a7⟩ := h7 w' (.tail _ hw') hj
    by_cases e : (carg w').toNat = (carg w).toNat
    · rw [e] at a1 a4 a5 a6 a7 ⊢
      rw [hk]
      refine ⟨a1, by omega, ?_, a6, a7⟩
      unfold isJ
      rw [hcp.1]
      exact a5
    · rw [hn _ e]
      exact ⟨a1, a4, a5, a6, a7⟩
/-! operators of sums that wait -/
abbrev isB (w : Int) : Prop := 2 ≤ cop w ∧ cop w ≤ 6
def nb (W : List Int) : Nat := match W with
  | [] => 0
  | w :: W => if isB w then nb W + 1 else nb W
def rn (W : List Int) : Nat := match W with
  | [] => 0
  | w :: W => if isB w then rn W + 1 else 0
def Jw (W : List Int) : Prop := match W with
  | [] => True
  | w :: W => Jw W ∧ ((2 ≤ cop w ∧ cop w ≤ 3) → rn W = 0) ∧ ((4 ≤ cop w ∧ cop w ≤ 6) → rn W ≤ 1)
theorem Jw_rn : ∀ {W : List Int}, Jw W → rn W ≤ 2
  | [], _ => Nat.zero_le _
  | w :: W, h => by
    show (if isB w then rn W + 1 else 0) ≤ 2
    split
    · rename_i b
      unfold isB at b
      rcases (show (2 ≤ cop w ∧ cop w ≤ 3) ∨ (4 ≤ cop w ∧ cop w ≤ 6) by omega) with c | c
      · have := h.2.1 c
        omega
      · have := h.2.2 c
        omega
    · exact Nat.zero_le _
/- what waits in a sum: its own operators and [, then the condition's -/
def sW (W : List Int) : Prop := ∃ S V, W = S ++ V ∧ okT S ∧ cndW V
theorem nb_cnd : ∀ {V : List Int}, cndW V → nb V = 0 ∧ rn V = 0
  | [], _ => ⟨rfl, rfl⟩
  | w :: V, h => by
    have hw := h w (.head _)
    have := nb_cnd h.tl
    show (if isB w then nb V + 1 else nb V) = 0 ∧ (if isB w then rn V + 1 else 0) = 0
    have hn : ¬ isB w := by unfold isB; omega
    rw [if_neg hn, if_neg hn]
    exact ⟨this.1, rfl⟩
theorem nb_le {V : List Int} (hV : cndW V) : ∀ {S : List Int}, okT S → Jw (S ++ V) → nb (S ++ V) ≤ 2 * opn (S ++ V) + rn (S ++ V)
  | [], _, _ => by
    have := nb_cnd hV
    show nb V ≤ 2 * opn V + rn V
    omega
  | w :: S, hS, hJ => by
    have ih := nb_le hV (S := S) hS.tl hJ.1
    have hr : rn (S ++ V) ≤ 2 := Jw_rn hJ.1
    show (if isB w then nb (S ++ V) + 1 else nb (S ++ V)) ≤ 2 * (opn (S ++ V) + (if cop w = 10 ∨ cop w = 13 ∨ cop w = 14 then 1 else 0)) + (if isB w then rn (S ++ V) + 1 else 0)
    rcases hS w (.head _) with c | c
    · have hb : isB w := c
      rw [if_pos hb, if_pos hb]
      split <;> omega
    · have hb : ¬ isB w := by unfold isB; omega
      rw [if_neg hb, if_neg hb, if_pos (.inr (.inr c))]
      omega
theorem nb_14 {W : List Int} (h : sW W) (hJ : Jw W) (ho : opn W ≤ 6) : nb W ≤ 14 := by
  obtain ⟨S, V, e, hS, hV⟩ := h
  subst e
  have := nb_le hV hS hJ
  have := Jw_rn hJ
  omega
def Fs (n : Nat) : List Bool := List.replicate n false
theorem Fs_s (n : Nat) : Fs (n + 1) = false :: Fs n := rfl
theorem Fs_l (n : Nat) : (Fs n).length = n := List.length_replicate
theorem isB_J {w : Int} (h : isB w) : ¬ isJ w := by
  unfold isB at h
  unfold isJ
  omega
/- operators that no longer wait are noted -/
theorem seg.popS {a e : Nat} (all : Bool) (he : e ≤ 3) : ∀ {W : List Int} {q : LC}, seg q a (Fs (nb W + e + 1)) W → sW W → Jw W → opn W ≤ 6 → (∀ w, w ∈ W → 0 ≤ w ∧ w < 16777216) → q.1 + W.length ≤ 900 → seg (popS all W q).2 a (Fs (nb (popS all W q).1 + e + 1)) (popS all W q).1 ∧ sW (popS all W q).1 ∧ Jw (popS all W q).1 ∧ (∀ w, w ∈ (popS all W q).1 → w ∈ W) ∧ (popS all W q).2.1 + (popS all W q).1.length ≤ q.1 + W.length ∧ (if all then rn (popS all W q).1 = 0 else rn (popS all W q).1 ≤ 1)
  | [], q, h, h1, h2, _, _, _ => ⟨h, h1, h2, fun _ z => z, Nat.le_refl _, by
    show if all = true then rn [] = 0 else rn [] ≤ 1
    split
    · rfl
    · exact Nat.zero_le _⟩
  | w :: W, q, h, h1, h2, h3, h4, h5 => by
    have hl : (w :: W).length = W.length + 1 := rfl
    have h14 := nb_14 h1 h2 h3
    rw [popS_c]
    by_cases c : (4 ≤ cop w ∧ cop w ≤ 6) ∨ (all = true ∧ (cop w = 2 ∨ cop w = 3))
    · rw [if_pos c]
      have hb : isB w := by
        unfold isB
        rcases c with c | c
        · omega
        · have := c.2
          omega
      have en : nb (w :: W) = nb W + 1 := if_pos hb
      have eo : opn (w :: W) = opn W := by
        unfold isB at hb
        rw [opn_c, if_neg (by omega)]
        rfl
      have hsW : sW W := by
        obtain ⟨S, V, e1, hS, hV⟩ := h1
        cases S with
        | nil =>
          have e1 : w :: W = V := e1
          have := hV w (by rw [← e1]; exact .head _)
          unfold isB at hb
          omega
        | cons s S =>
          have e2 : W = S ++ V := by
            have e1 : w :: W = s :: (S ++ V) := e1
            exact (List.cons.inj e1).2
          exact ⟨S, V, e2, hS.tl, hV⟩
      rw [en] at h
      have hcb := hb
      unfold isB at hcb
      have hs : seg (emC q (1048576 * cop w)) a (Fs (nb W + e + 1)) W := (h.em (x := 1048576 * cop w) (t' := Fs (nb W + e + 1)) ⟨by omega, .inr (.inr (.inl ⟨by rw [cop_u]; exact hcb, Fs (nb W + e), by rw [show nb W + 1 + e + 1 = (nb W + e) + 1 + 1 by omega]; rfl, rfl⟩))⟩ (by rw [Fs_l]; omega) (by omega)).pop (isB_J hb)
      have r := seg.popS all he (W := W) (q := emC q (1048576 * cop w)) hs hsW h2.1 (by omega) (fun v hv => h4 v (.tail _ hv)) (by show q.1 + 1 + W.length ≤ 900; omega)
      refine ⟨r.1, r.2.1, r.2.2.1, fun v hv => .tail _ (r.2.2.2.1 v hv), ?_, r.2.2.2.2.2⟩
      have := r.2.2.2.2.1
      have e1 : (emC q (1048576 * cop w)).1 = q.1 + 1 := rfl
      omega
    · rw [if_neg c]
      refine ⟨h, h1, h2, fun _ z => z, Nat.le_refl _, ?_⟩
      show if all = true then rn (w :: W) = 0 else rn (w :: W) ≤ 1
      have er : rn (w :: W) = if isB w then rn W + 1 else 0 := rfl
      by_cases hb : isB w
      · have hcb := hb
        unfold isB at hcb
        rw [er, if_pos hb]
        cases all
        · have c2 : cop w = 2 ∨ cop w = 3 := by
            rcases (show (cop w = 2 ∨ cop w = 3) ∨ (4 ≤ cop w ∧ cop w ≤ 6) by omega) with z | z
            · exact z
            · exact absurd (.inl z) c
          have := h2.2.1 (by omega)
          rw [if_neg (by decide)]
          omega
        · exact absurd (show (4 ≤ cop w ∧ cop w ≤ 6) ∨ (true = true ∧ (cop w = 2 ∨ cop w = 3)) by
            rcases (show (cop w = 2 ∨ cop w = 3) ∨ (4 ≤ cop w ∧ cop w ≤ 6) by omega) with z | z
            · exact .inr ⟨rfl, z⟩
            · exact .inl z) c
      · rw [er, if_neg hb]
        split
        · rfl
        · exact Nat.zero_le _
