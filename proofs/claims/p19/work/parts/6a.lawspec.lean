/-! PART 6a: the text of THE LAW as a machine that goes byte by byte -/
abbrev LC : Type := Nat × (Nat → Int)
abbrev CL : Type := Nat × (Nat → Int) × (Nat → Nat) × (Nat → Nat) × (Nat → Nat)
abbrev LSt : Type := (Nat × Nat × Int) × (Nat × Int) × List Int × LC × CL
abbrev LRs : Type := Int ⊕ LSt
def emC (q : LC) (x : Int) : LC := (q.1 + 1, fun j => if j = q.1 then x else q.2 j)
def ptC (q : LC) (k : Nat) : LC := (q.1, fun j => if j = k then 1048576 * cop (q.2 j) + (q.1 : Int) else q.2 j)
def upF {α : Type} (f : Nat → α) (k : Nat) (v : α) : Nat → α := fun j => if j = k then v else f j
/- operators of sums that wait are noted -/
def popS (all : Bool) (W : List Int) (q : LC) : List Int × LC := match W with
  | [] => ([], q)
  | w :: W => if (4 ≤ cop w ∧ cop w ≤ 6) ∨ (all = true ∧ (cop w = 2 ∨ cop w = 3)) then popS all W (emC q (1048576 * cop w)) else (w :: W, q)
theorem popS_c (all : Bool) (w : Int) (W : List Int) (q : LC) : popS all (w :: W) q = (if (4 ≤ cop w ∧ cop w ≤ 6) ∨ (all = true ∧ (cop w = 2 ∨ cop w = 3)) then popS all W (emC q (1048576 * cop w)) else (w :: W, q)) := rfl
def popN (W : List Int) (q : LC) : List Int × LC := match W with
  | [] => ([], q)
  | w :: W => if cop w = 10 then popN W (emC q (1048576 * 10)) else (w :: W, q)
theorem popN_c (w : Int) (W : List Int) (q : LC) : popN (w :: W) q = (if cop w = 10 then popN W (emC q (1048576 * 10)) else (w :: W, q)) := rfl
def landI (all : Bool) (W : List Int) (q : LC) : List Int × LC := match W with
  | [] => ([], q)
  | w :: W => if cop w = 11 ∨ (all = true ∧ cop w = 12) then landI all W (ptC q (carg w).toNat) else (w :: W, q)
theorem landI_c (all : Bool) (w : Int) (W : List Int) (q : LC) : landI all (w :: W) q = (if cop w = 11 ∨ (all = true ∧ cop w = 12) then landI all W (ptC q (carg w).toNat) else (w :: W, q)) := rfl
def hasO (W : List Int) : Bool := match W with
  | [] => false
  | w :: W => decide (cop w = 14) || hasO W
abbrev hasOS (W : List Int) : Prop := hasO W = true
theorem hasO_c {w : Int} {W : List Int} (z : hasOS (w :: W)) : cop w = 14 ∨ hasOS W := by
  have z : (decide (cop w = 14) || hasO W) = true := z
  by_cases h : cop w = 14
  · exact .inl h
  · rw [decide_eq_false h] at z
    exact .inr z
def opn (W : List Int) : Nat := match W with
  | [] => 0
  | w :: W => opn W + (if cop w = 10 ∨ cop w = 13 ∨ cop w = 14 then 1 else 0)
def lfV (c : Int) : Int := if c = 104 then 0 else if c = 106 then 1 else if c = 103 then 2 else if c = 97 then 3 else if c = 98 then 4 else if c = 107 then 5 else if c = 116 then 6 else if c = 100 then 7 else if c = 119 then 8 else if c = 111 then 9 else -1
def ssV (c : Int) : Int := if c = 43 then 2 else if c = 45 then 3 else if c = 42 then 4 else if c = 47 then 5 else if c = 37 then 6 else -1
def cmV (c : Int) : Int := if c = 60 then 7 else if c = 62 then 8 else if c = 61 then 9 else -1
def flt (n : Int) (p : Nat) : LRs := .inl (-1000 * n - (p : Int))
def zsA (x : Nat × Int) (W : List Int) (q : LC) (cl : CL) : LSt := ((0, x.1, x.2), (0, 0), W, q, cl)
def zsN (x : Nat × Int) (cnt : Nat) (v : Int) (W : List Int) (q : LC) (cl : CL) : LSt := ((1, x.1, x.2), (cnt, v), W, q, cl)
def zsB (x : Nat × Int) (W : List Int) (q : LC) (cl : CL) : LSt := ((2, x.1, x.2), (0, 0), W, q, cl)
def zsP (W : List Int) (q : LC) (cl : CL) : LSt := ((3, 0, 0), (0, 0), W, q, cl)
def zsR (W : List Int) (q : LC) (cl : CL) : LSt := ((4, 0, 0), (0, 0), W, q, cl)
def zsO (q : LC) (cl : CL) : LSt := ((5, 0, 0), (0, 0), [], q, cl)
def zsD (q : LC) (cl : CL) : LSt := ((6, 0, 0), (0, 0), [], q, cl)
def zsK (q : LC) (cl : CL) : LSt := ((7, 0, 0), (0, 0), [], q, cl)
/- a factor is expected -/
def ztA (x : Nat × Int) (W : List Int) (q : LC) (cl : CL) (ch : Int) (p : Nat) : LRs :=
  if ch = 91 then (if opn W = 6 then flt 5 p else .inr (zsA x (1048576 * 14 :: W) q cl))
  else if 48 ≤ ch ∧ ch ≤ 57 then .inr (zsN x 1 (ch - 48) W q cl)
  else if lfV ch ≠ -1 then .inr (zsB x W (emC q (1048576 + lfV ch)) cl)
  else flt 1 p
/- a piece is over -/
def ztR (W : List Int) (q : LC) (cl : CL) (ch : Int) (p : Nat) : LRs :=
  if ch = 41 then (match (landI true (popN W q).1 (popN W q).2).1 with
    | [] => flt 1 p
    | w :: W2 => match W2 with
      | [] => .inr (zsD (landI true (popN W q).1 (popN W q).2).2 (cl.1 + 1, cl.2.1, cl.2.2.1, cl.2.2.2.1, upF cl.2.2.2.2 cl.1 (landI true (popN W q).1 (popN W q).2).2.1))
      | w2 :: W3 => .inr (zsR (w2 :: W3) (landI true (popN W q).1 (popN W q).2).2 cl))
  else if ch = 38 then .inr (zsP ((1048576 * 11 + ((landI false (popN W q).1 (popN W q).2).2.1 : Int)) :: (landI false (popN W q).1 (popN W q).2).1) (emC (landI false (popN W q).1 (popN W q).2).2 (1048576 * 11)) cl)
  else if ch = 124 then .inr (zsP ((1048576 * 12 + ((landI true (popN W q).1 (popN W q).2).2.1 : Int)) :: (landI true (popN W q).1 (popN W q).2).1) (emC (landI true (popN W q).1 (popN W q).2).2 (1048576 * 12)) cl)
  else flt 1 p
/- the ( of a condition is expected -/
def ztO (q : LC) (cl : CL) (ch : Int) (p : Nat) : LRs := if ch = 40 then .inr (zsP [1048576 * 13] q (cl.1, cl.2.1, cl.2.2.1, upF cl.2.2.2.1 cl.1 q.1, cl.2.2.2.2)) else flt 1 p
/- a sum is over -/
def ztE (x : Nat × Int) (W : List Int) (q : LC) (cl : CL) (ch : Int) (p : Nat) : LRs := match x.1 with
  | 0 => ztO q cl ch p
  | 1 => if cmV ch ≠ -1 then .inr (zsA (2, cmV ch) W q cl) else flt 1 p
  | _ => ztR W (emC q (1048576 * x.2)) cl ch p
/- a factor is over -/
def ztB (x : Nat × Int) (W : List Int) (q : LC) (cl : CL) (ch : Int) (p : Nat) : LRs :=
  if ssV ch = 2 ∨ ssV ch = 3 then .inr (zsA x (1048576 * ssV ch :: (popS true W q).1) (popS true W q).2 cl)
  else if ssV ch ≠ -1 then .inr (zsA x (1048576 * ssV ch :: (popS false W q).1) (popS false W q).2 cl)
  else match hasO W with
    | true => if ch = 93 then .inr (zsB x (popS true W q).1.tail (popS true W q).2 cl) else flt 1 p
    | false => ztE x (popS true W q).1 (popS true W q).2 cl ch p
def ztP (W : List Int) (q : LC) (cl : CL) (ch : Int) (p : Nat) : LRs :=
  if ch = 33 then (if opn W = 6 then flt 5 p else .inr (zsP (1048576 * 10 :: W) q cl))
  else if ch = 40 then (if opn W = 6 then flt 5 p else .inr (zsP (1048576 * 13 :: W) q cl))
  else ztA (1, 0) W q cl ch p
def ztN (x : Nat × Int) (cnt : Nat) (v : Int) (W : List Int) (q : LC) (cl : CL) (ch : Int) (p : Nat) : LRs :=
  if 48 ≤ ch ∧ ch ≤ 57 then (if 5 ≤ cnt then flt 2 p else .inr (zsN x (cnt + 1) (10 * v + ch - 48) W q cl)) else ztB x W (emC q v) cl ch p
def isCl (c : Int) : Prop := c = 102 ∨ c = 99 ∨ c = 109 ∨ c = 114
def ztK (q : LC) (cl : CL) (ch : Int) (p : Nat) : LRs :=
  if ch = 102 ∨ ch = 99 ∨ ch = 109 ∨ ch = 114 then (if cl.1 = 16 then flt 4 p
    else if ch = 109 then .inr (zsO q (cl.1, upF cl.2.1 cl.1 ch, upF cl.2.2.1 cl.1 q.1, cl.2.2.2.1, cl.2.2.2.2))
    else .inr (zsA (0, 0) [] q (cl.1, upF cl.2.1 cl.1 ch, upF cl.2.2.1 cl.1 q.1, cl.2.2.2.1, cl.2.2.2.2)))
  else flt 1 p
def stepL (S : LSt) (ch : Int) (p : Nat) : LRs := match S.1.1 with
  | 0 => ztA (S.1.2.1, S.1.2.2) S.2.2.1 S.2.2.2.1 S.2.2.2.2 ch p
  | 1 => ztN (S.1.2.1, S.1.2.2) S.2.1.1 S.2.1.2 S.2.2.1 S.2.2.2.1 S.2.2.2.2 ch p
  | 2 => ztB (S.1.2.1, S.1.2.2) S.2.2.1 S.2.2.2.1 S.2.2.2.2 ch p
  | 3 => ztP S.2.2.1 S.2.2.2.1 S.2.2.2.2 ch p
  | 4 => ztR S.2.2.1 S.2.2.2.1 S.2.2.2.2 ch p
  | 5 => ztO S.2.2.2.1 S.2.2.2.2 ch p
  | 6 => if ch = 59 then .inr (zsK S.2.2.2.1 S.2.2.2.2) else flt 1 p
  | _ => ztK S.2.2.2.1 S.2.2.2.2 ch p
def runL (t : Nat → Int) (m p : Nat) (S : LSt) : LRs := match m with
  | 0 => if S.1.1 = 6 then .inr S else flt 1 p
  | m + 1 => match stepL S (t p) p with
    | .inl f => .inl f
    | .inr S2 => runL t m (p + 1) S2
/- what becomes of the text from p on -/
def outL (t : Nat → Int) (N p : Nat) (S : LSt) : LRs := runL t (N - p) p S
/- the byte at p, or -1 -/
def chL (t : Nat → Int) (N p : Nat) : Int := if p < N then t p else -1
theorem outL_go {t : Nat → Int} {N p : Nat} {S S2 : LSt} (hp : p < N) (h : stepL S (t p) p = .inr S2) : outL t N p S = outL t N (p + 1) S2 := by
  unfold outL
  obtain ⟨m, hm⟩ : ∃ m, N - p = m + 1 := ⟨N - p - 1, by omega⟩
  rw [hm, show N - (p + 1) = m by omega]
  show (match stepL S (t p) p with
    | .inl f => (.inl f : LRs)
    | .inr S2 => runL t m (p + 1) S2) = _
  rw [h]
theorem outL_no {t : Nat → Int} {N p : Nat} {S : LSt} {f : Int} (hp : p < N) (h : stepL S (t p) p = .inl f) : outL t N p S = .inl f := by
  unfold outL
  obtain ⟨m, hm⟩ : ∃ m, N - p = m + 1 := ⟨N - p - 1, by omega⟩
  rw [hm]
  show (match stepL S (t p) p with
    | .inl f => (.inl f : LRs)
    | .inr S2 => runL t m (p + 1) S2) = _
  rw [h]
theorem outL_end {t : Nat → Int} {N p : Nat} {S : LSt} (hp : N ≤ p) (h : S.1.1 ≠ 6) : outL t N p S = flt 1 p := by
  unfold outL
  rw [show N - p = 0 by omega]
  show (if S.1.1 = 6 then .inr S else flt 1 p) = flt 1 p
  rw [if_neg h]
/- two states that do alike at the byte that is there -/
theorem outL_eq {t : Nat → Int} {N p : Nat} {S S' : LSt} (h6 : S.1.1 ≠ 6) (h6' : S'.1.1 ≠ 6) (h : p < N → stepL S (t p) p = stepL S' (t p) p) : outL t N p S = outL t N p S' := by
  by_cases q : p < N
  · unfold outL
    obtain ⟨m, hm⟩ : ∃ m, N - p = m + 1 := ⟨N - p - 1, by omega⟩
    rw [hm]
    show (match stepL S (t p) p with
      | .inl f => (.inl f : LRs)
      | .inr S2 => runL t m (p + 1) S2) = (match stepL S' (t p) p with
      | .inl f => (.inl f : LRs)
      | .inr S2 => runL t m (p + 1) S2)
    rw [h q]
  · rw [outL_end (by omega) h6, outL_end (by omega) h6']
/- no operator of a sum on top -/
def topS (W : List Int) : Prop := match W with
  | [] => True
  | w :: _ => ¬ (2 ≤ cop w ∧ cop w ≤ 6)
/- none of * / % on top -/
def topM (W : List Int) : Prop := match W with
  | [] => True
  | w :: _ => ¬ (4 ≤ cop w ∧ cop w ≤ 6)
theorem popS_top {W : List Int} (h : topS W) (q : LC) (all : Bool) : popS all W q = (W, q) := by
  cases W with
  | nil => rfl
  | cons w W =>
    have h : ¬ (2 ≤ cop w ∧ cop w ≤ 6) := h
    rw [popS_c, if_neg (by omega)]
theorem popS_topM {W : List Int} (h : topM W) (q : LC) : popS false W q = (W, q) := by
  cases W with
  | nil => rfl
  | cons w W =>
    have h : ¬ (4 ≤ cop w ∧ cop w ≤ 6) := h
    rw [popS_c, if_neg (fun z => by
      rcases z with z | z
      · exact h z
      · cases z.1)]
theorem cop_u (o : Int) : cop (1048576 * o) = o := by
  unfold cop
  omega
theorem ssV_r (c : Int) : ssV c = -1 ∨ (2 ≤ ssV c ∧ ssV c ≤ 6) := by
  unfold ssV
  split
  · omega
  · split
    · omega
    · split
      · omega
      · split
        · omega
        · split <;> omega
theorem cmV_r (c : Int) : cmV c = -1 ∨ (7 ≤ cmV c ∧ cmV c ≤ 9) := by
  unfold cmV
  split
  · omega
  · split
    · omega
    · split <;> omega
theorem lfV_r (c : Int) : lfV c = -1 ∨ (0 ≤ lfV c ∧ lfV c ≤ 9) := by
  unfold lfV
  split
  · omega
  · split
    · omega
    · split
      · omega
      · split
        · omega
        · split
          · omega
          · split
            · omega
            · split
              · omega
              · split
                · omega
                · split
                  · omega
                  · split <;> omega
theorem ssV_93 : ssV 93 = -1 := rfl
/- * / % that waits is noted whatever comes -/
theorem ztB_mul {x : Nat × Int} {o : Int} (ho : 4 ≤ o ∧ o ≤ 6) (W : List Int) (q : LC) (cl : CL) (ch : Int) (p : Nat) : ztB x (1048576 * o :: W) q cl ch p = ztB x W (emC q (1048576 * o)) cl ch p := by
  have hc := cop_u o
  have e : ∀ all, popS all (1048576 * o :: W) q = popS all W (emC q (1048576 * o)) := fun all => by
    rw [popS_c, hc, if_pos (.inl ho)]
  unfold ztB
  rw [e, e]
  have hp : hasO (1048576 * o :: W) = hasO W := by
    show (decide (cop (1048576 * o) = 14) || hasO W) = _
    rw [hc, decide_eq_false (by omega)]
    rfl
  rw [hp]
/- + - that waits is noted where no * / % comes -/
theorem ztB_add {x : Nat × Int} {o : Int} (ho : o = 2 ∨ o = 3) (W : List Int) (q : LC) (cl : CL) (ch : Int) (p : Nat) (hch : ¬ (4 ≤ ssV ch ∧ ssV ch ≤ 6)) : ztB x (1048576 * o :: W) q cl ch p = ztB x W (emC q (1048576 * o)) cl ch p := by
  have hc := cop_u o
  have e : popS true (1048576 * o :: W) q = popS true W (emC q (1048576 * o)) := by
    rw [popS_c, hc, if_pos (.inr ⟨rfl, ho⟩)]
  have hr := ssV_r ch
  unfold ztB
  rw [e]
  have hp : hasO (1048576 * o :: W) = hasO W := by
    show (decide (cop (1048576 * o) = 14) || hasO W) = _
    rw [hc, decide_eq_false (by omega)]
    rfl
  rw [hp]
  by_cases h : ssV ch = 2 ∨ ssV ch = 3
  · rw [if_pos h, if_pos h]
  · have h2 : ¬ ssV ch ≠ -1 := by omega
    rw [if_neg h, if_neg h, if_neg h2, if_neg h2]
theorem ztB_os {x : Nat × Int} {W : List Int} (h : topS W) (ho : hasOS W) (q : LC) (cl : CL) (ch : Int) (p : Nat) (hs : ssV ch = -1) : ztB x W q cl ch p = if ch = 93 then .inr (zsB x W.tail q cl) else flt 1 p := by
  unfold ztB
  rw [popS_top h, popS_top h, if_neg (by omega), if_neg (by omega), show hasO W = true from ho]
theorem ztB_no {x : Nat × Int} {W : List Int} (h : topS W) (ho : ¬ hasOS W) (q : LC) (cl : CL) (ch : Int) (p : Nat) (hs : ssV ch = -1) : ztB x W q cl ch p = ztE x W q cl ch p := by
  unfold ztB
  rw [popS_top h, popS_top h, if_neg (by omega), if_neg (by omega), (show hasO W = false from Bool.eq_false_iff.mpr ho)]
theorem ztB_s1 {x : Nat × Int} {W : List Int} (h : topS W) (q : LC) (cl : CL) (ch : Int) (p : Nat) (hs : ssV ch = 2 ∨ ssV ch = 3) : ztB x W q cl ch p = .inr (zsA x (1048576 * ssV ch :: W) q cl) := by
  unfold ztB
  rw [popS_top h, if_pos hs]
theorem ztB_s2 {x : Nat × Int} {W : List Int} (h : topM W) (q : LC) (cl : CL) (ch : Int) (p : Nat) (hs : 4 ≤ ssV ch ∧ ssV ch ≤ 6) : ztB x W q cl ch p = .inr (zsA x (1048576 * ssV ch :: W) q cl) := by
  unfold ztB
  rw [popS_topM h, if_neg (by omega), if_pos (by omega)]
/- what waits for a condition: on top neither NOT nor a jump of & -/
def topB (W : List Int) : Prop := match W with
  | [] => False
  | w :: _ => cop w = 12 ∨ cop w = 13
def topE (W : List Int) : Prop := match W with
  | [] => False
  | w :: _ => cop w = 13
theorem topE.b {W : List Int} (h : topE W) : topB W := by
  cases W with
  | nil => exact h
  | cons w W => exact .inr h
theorem popN_b {W : List Int} (h : topB W) (q : LC) : popN W q = (W, q) := by
  cases W with
  | nil => exact h.elim
  | cons w W =>
    have h : cop w = 12 ∨ cop w = 13 := h
    rw [popN_c, if_neg (by omega)]
theorem landF_b {W : List Int} (h : topB W) (q : LC) : landI false W q = (W, q) := by
  cases W with
  | nil => exact h.elim
  | cons w W =>
    have h : cop w = 12 ∨ cop w = 13 := h
    rw [landI_c, if_neg (fun z => by
      rcases z with z | z
      · omega
      · cases z.1)]
theorem landT_e {W : List Int} (h : topE W) (q : LC) : landI true W q = (W, q) := by
  cases W with
  | nil => exact h.elim
  | cons w W =>
    have h : cop w = 13 := h
    rw [landI_c, if_neg (fun z => by
      rcases z with z | z
      · omega
      · omega)]
theorem cop_j {o k : Nat} (hk : k < 1048576) : cop (1048576 * (o : Int) + (k : Int)) = o ∧ carg (1048576 * (o : Int) + (k : Int)) = k := by
  unfold cop carg
  omega
theorem ztR_not (W : List Int) (q : LC) (cl : CL) (ch : Int) (p : Nat) : ztR (1048576 * 10 :: W) q cl ch p = ztR W (emC q (1048576 * 10)) cl ch p := by
  have e : popN (1048576 * 10 :: W) q = popN W (emC q (1048576 * 10)) := by
    rw [popN_c, cop_u, if_pos rfl]
  unfold ztR
  rw [e]
theorem ztR_and {W : List Int} (h : topB W) {k : Nat} (hk : k < 1048576) (q : LC) (cl : CL) (ch : Int) (p : Nat) : ztR ((1048576 * 11 + (k : Int)) :: W) q cl ch p = ztR W (ptC q k) cl ch p := by
  have hc := cop_j (o := 11) hk
  have hc1 : cop (1048576 * 11 + (k : Int)) = 11 := hc.1
  have hc2 : carg (1048576 * 11 + (k : Int)) = k := hc.2
  have e1 : popN ((1048576 * 11 + (k : Int)) :: W) q = ((1048576 * 11 + (k : Int)) :: W, q) := by
    rw [popN_c, hc1, if_neg (by decide)]
  have e2 : ∀ all, landI all ((1048576 * 11 + (k : Int)) :: W) q = landI all W (ptC q k) := fun all => by
    rw [landI_c, hc1, if_pos (.inl rfl), hc2, show ((k : Int)).toNat = k by omega]
  unfold ztR
  rw [e1, popN_b h]
  dsimp only
  rw [e2, e2]
theorem ztR_or {W : List Int} (h : topE W) {k : Nat} (hk : k < 1048576) (q : LC) (cl : CL) (ch : Int) (p : Nat) (hch : ch ≠ 38) : ztR ((1048576 * 12 + (k : Int)) :: W) q cl ch p = ztR W (ptC q k) cl ch p := by
  have hc := cop_j (o := 12) hk
  have hc1 : cop (1048576 * 12 + (k : Int)) = 12 := hc.1
  have hc2 : carg (1048576 * 12 + (k : Int)) = k := hc.2
  have e1 : popN ((1048576 * 12 + (k : Int)) :: W) q = ((1048576 * 12 + (k : Int)) :: W, q) := by
    rw [popN_c, hc1, if_neg (by decide)]
  have e2 : landI true ((1048576 * 12 + (k : Int)) :: W) q = landI true W (ptC q k) := by
    rw [landI_c, hc1, if_pos (.inr ⟨rfl, rfl⟩), hc2, show ((k : Int)).toNat = k by omega]
  unfold ztR
  rw [e1, popN_b h.b]
  dsimp only
  rw [e2, if_neg hch, if_neg hch]
theorem ztR_amp {W : List Int} (h : topB W) (q : LC) (cl : CL) (p : Nat) : ztR W q cl 38 p = .inr (zsP ((1048576 * 11 + (q.1 : Int)) :: W) (emC q (1048576 * 11)) cl) := by
  unfold ztR
  rw [popN_b h]
  dsimp only
  rw [landF_b h, if_neg (by decide), if_pos rfl]
theorem ztR_bar {W : List Int} (h : topE W) (q : LC) (cl : CL) (p : Nat) : ztR W q cl 124 p = .inr (zsP ((1048576 * 12 + (q.1 : Int)) :: W) (emC q (1048576 * 12)) cl) := by
  unfold ztR
  rw [popN_b h.b]
  dsimp only
  rw [landT_e h, if_neg (by decide), if_neg (by decide), if_pos rfl]
theorem ztR_close {w : Int} {W : List Int} (hw : cop w = 13) (hW : W ≠ []) (q : LC) (cl : CL) (p : Nat) : ztR (w :: W) q cl 41 p = .inr (zsR W q cl) := by
  have h : topE (w :: W) := hw
  unfold ztR
  rw [popN_b h.b]
  dsimp only
  rw [landT_e h, if_pos rfl]
  cases W with
  | nil => exact absurd rfl hW
  | cons w2 W3 => rfl
theorem ztR_last {w : Int} (hw : cop w = 13) (q : LC) (cl : CL) (p : Nat) : ztR [w] q cl 41 p = .inr (zsD q (cl.1 + 1, cl.2.1, cl.2.2.1, cl.2.2.2.1, upF cl.2.2.2.2 cl.1 q.1)) := by
  have h : topE [w] := hw
  unfold ztR
  rw [popN_b h.b]
  dsimp only
  rw [landT_e h, if_pos rfl]
theorem ztR_bad {W : List Int} (q : LC) (cl : CL) (ch : Int) (p : Nat) (h1 : ch ≠ 41) (h2 : ch ≠ 38) (h3 : ch ≠ 124) : ztR W q cl ch p = flt 1 p := by
  unfold ztR
  rw [if_neg h1, if_neg h2, if_neg h3]
