/-! PART 02: the machine as the methods of these classes see it ('E': the law's script, in its local 0). A world of cells at b, b + 1, ..; what they hold is a value 'Mem' (ints, longs, references by their number); locals are a list; 'G' is the judgement W over such a world. -/
abbrev Sh : Type := Nat ⊕ (FieldType × Nat)
abbrev Mem : Type := (Nat → Nat → Int32) × (Nat → Nat → Int64) × (Nat → Nat → Option Nat)
abbrev LV : Type := Int32 ⊕ (Int64 ⊕ Nat)
abbrev LS0 : Type := List (Option LV)
abbrev vI (x : Int32) : LV := Sum.inl x
abbrev vL (x : Int64) : LV := Sum.inr (Sum.inl x)
abbrev vR (k : Nat) : LV := Sum.inr (Sum.inr k)
def mI (M : Mem) (k j : Nat) : Int32 := M.1 k j
def mL (M : Mem) (k j : Nat) : Int64 := M.2.1 k j
def mR (M : Mem) (k j : Nat) : Option Nat := M.2.2 k j
def u2 {α : Type} (f : Nat → Nat → α) (k j : Nat) (v : α) : Nat → Nat → α := fun k' j' => if k' = k ∧ j' = j then v else f k' j'
def sI (M : Mem) (k j : Nat) (v : Int32) : Mem := (u2 M.1 k j v, M.2)
def sL (M : Mem) (k j : Nat) (v : Int64) : Mem := (M.1, u2 M.2.1 k j v, M.2.2)
def sR (M : Mem) (k j : Nat) (v : Option Nat) : Mem := (M.1, M.2.1, u2 M.2.2 k j v)
theorem mI_sI (M : Mem) (k j : Nat) (v : Int32) (k' j' : Nat) : mI (sI M k j v) k' j' = if k' = k ∧ j' = j then v else mI M k' j' := rfl
theorem mL_sI (M : Mem) (k j : Nat) (v : Int32) (k' j' : Nat) : mL (sI M k j v) k' j' = mL M k' j' := rfl
theorem mR_sI (M : Mem) (k j : Nat) (v : Int32) (k' j' : Nat) : mR (sI M k j v) k' j' = mR M k' j' := rfl
theorem mL_sL (M : Mem) (k j : Nat) (v : Int64) (k' j' : Nat) : mL (sL M k j v) k' j' = if k' = k ∧ j' = j then v else mL M k' j' := rfl
theorem mI_sL (M : Mem) (k j : Nat) (v : Int64) (k' j' : Nat) : mI (sL M k j v) k' j' = mI M k' j' := rfl
theorem mR_sL (M : Mem) (k j : Nat) (v : Int64) (k' j' : Nat) : mR (sL M k j v) k' j' = mR M k' j' := rfl
theorem mR_sR (M : Mem) (k j : Nat) (v : Option Nat) (k' j' : Nat) : mR (sR M k j v) k' j' = if k' = k ∧ j' = j then v else mR M k' j' := rfl
theorem mI_sR (M : Mem) (k j : Nat) (v : Option Nat) (k' j' : Nat) : mI (sR M k j v) k' j' = mI M k' j' := rfl
theorem mL_sR (M : Mem) (k j : Nat) (v : Option Nat) (k' j' : Nat) : mL (sR M k j v) k' j' = mL M k' j' := rfl
def cv (b : Nat) (v : LV) : Value := match v with
  | .inl x => .int x
  | .inr (.inl x) => .long x
  | .inr (.inr k) => .ref (b + k)
/-! locals -/
def isLg (v : Option (Option LV)) : Bool := match v with
  | some (some (.inr (.inl _))) => true
  | _ => false
def okS (L : LS0) (i : Nat) : Bool := match i with
  | 0 => true
  | j + 1 => !(isLg L[j]?)
def LocOK (E : Option Nat) (b nL : Nat) (ls : Array Slot) (L : LS0) : Prop := ls.size = nL ∧ lv_wf ls ∧ L.length = nL ∧ (∀ (i : Nat) (v : LV), L[i]? = some (some v) → ls[i]? = some (.val (cv b v))) ∧ ∀ a : Nat, E = some a → ls[0]? = some (.val (.ref a))
def lva (b : Nat) (L : LS0) : List (Nat × Value) := (List.range L.length).filterMap fun i => match L[i]? with
  | some (some v) => some (i, cv b v)
  | _ => none
theorem lva_mem {b : Nat} {L : LS0} {i : Nat} {v : LV} (h : L[i]? = some (some v)) : (i, cv b v) ∈ lva b L := by
  refine List.mem_filterMap.mpr ⟨i, List.mem_range.mpr (List.getElem?_eq_some_iff.mp h).1, ?_⟩
  rw [h]
theorem lva_of {b : Nat} {L : LS0} {q : Nat × Value} (h : q ∈ lva b L) : ∃ v, L[q.1]? = some (some v) ∧ q.2 = cv b v := by
  obtain ⟨i, -, hi⟩ := List.mem_filterMap.mp h
  cases hL : L[i]? with
  | none => rw [hL] at hi; cases hi
  | some o =>
    cases o with
    | none => rw [hL] at hi; cases hi
    | some v =>
      rw [hL] at hi
      have := Option.some.inj hi
      subst this
      exact ⟨v, hL, rfl⟩
def lvE (E : Option Nat) (b : Nat) (L : LS0) : List (Nat × Value) := (match E with
  | some a => [(0, .ref a)]
  | none => []) ++ lva b L
theorem LocOK.has {E : Option Nat} {b nL : Nat} {ls : Array Slot} {L : LS0} (h : LocOK E b nL ls L) : lv_has ls nL (lvE E b L) := by
  refine ⟨h.1, h.2.1, fun q hq => ?_⟩
  rcases List.mem_append.mp hq with hq | hq
  · cases hE : E with
    | none => rw [hE] at hq; cases hq
    | some a =>
      rw [hE] at hq
      rcases List.mem_cons.mp hq with rfl | hq
      · exact h.2.2.2.2 a hE
      · cases hq
  · obtain ⟨v, h1, h2⟩ := lva_of hq
    rw [h2]
    exact h.2.2.2.1 _ _ h1
theorem cv_cat1 (b : Nat) {v : LV} (h : isLg (some (some v)) = false) : (cv b v).category = 1 := by
  rcases v with x | x | k
  · rfl
  · simp [isLg] at h
  · rfl
theorem lvE_a {E : Option Nat} {b : Nat} {L : LS0} {a : Nat} (h : E = some a) : (0, Value.ref a) ∈ lvE E b L := by
  subst h
  exact List.mem_append_left _ List.mem_cons_self
theorem lvE_b {E : Option Nat} {b : Nat} {L : LS0} {q : Nat × Value} (h : q ∈ lva b L) : q ∈ lvE E b L := List.mem_append_right _ h
theorem loc_st1 {E : Option Nat} {b nL : Nat} {ls ls' : Array Slot} {L : LS0} {i : Nat} {v : LV} (h : LocOK E b nL ls L) (hE : E = none ∨ i ≠ 0) (hi : i < nL) (ho : okS L i = true) (h' : lv_has ls' nL ((i, cv b v) :: (lvE E b L).filter (fun q => !(q.1 == i) && !(q.1 + 1 == i && q.2.category == 2)))) : LocOK E b nL ls' (L.set i (some v)) := by
  have hl : i < L.length := by rw [h.2.2.1]; exact hi
  refine ⟨h'.1, h'.2.1, by rw [List.length_set]; exact h.2.2.1, fun j w hj => ?_, fun a ha => ?_⟩
  · by_cases hji : j = i
    · subst hji
      rw [List.getElem?_set_self hl] at hj
      cases hj
      exact h'.2.2 (j, cv b v) List.mem_cons_self
    · rw [List.getElem?_set_ne (Ne.symm hji)] at hj
      refine h'.2.2 (j, cv b w) (List.mem_cons_of_mem _ (List.mem_filter.mpr ⟨lvE_b (lva_mem hj), ?_⟩))
      by_cases hs : j + 1 = i
      · subst hs
        have ho2 : isLg L[j]? = false := by simpa [okS] using ho
        rw [hj] at ho2
        simp [hji, cv_cat1 b ho2]
      · simp [hji, hs]
  · have hi0 : i ≠ 0 := hE.resolve_left (by rw [ha]; exact fun q => by cases q)
    refine h'.2.2 (0, .ref a) (List.mem_cons_of_mem _ (List.mem_filter.mpr ⟨lvE_a ha, ?_⟩))
    simp [Ne.symm hi0, Value.category]
theorem loc_st2 {E : Option Nat} {b nL : Nat} {ls ls' : Array Slot} {L : LS0} {i : Nat} {v : LV} (h : LocOK E b nL ls L) (hE : E = none ∨ i ≠ 0) (hi : i + 1 < nL) (ho : okS L i = true) (h' : lv_has ls' nL ((i, cv b v) :: (lvE E b L).filter (fun q => !(q.1 == i) && (!(q.1 == i + 1) && !(q.1 + 1 == i && q.2.category == 2))))) : LocOK E b nL ls' ((L.set i (some v)).set (i + 1) none) := by
  have hl : i < L.length := by rw [h.2.2.1]; omega
  refine ⟨h'.1, h'.2.1, by rw [List.length_set, List.length_set]; exact h.2.2.1, fun j w hj => ?_, fun a ha => ?_⟩
  · by_cases hj1 : j = i + 1
    · subst hj1
      rw [List.getElem?_set_self (by rw [List.length_set, h.2.2.1]; exact hi)] at hj
      cases hj
    · rw [List.getElem?_set_ne (Ne.symm hj1)] at hj
      by_cases hji : j = i
      · subst hji
        rw [List.getElem?_set_self hl] at hj
        cases hj
        exact h'.2.2 (j, cv b v) List.mem_cons_self
      · rw [List.getElem?_set_ne (Ne.symm hji)] at hj
        refine h'.2.2 (j, cv b w) (List.mem_cons_of_mem _ (List.mem_filter.mpr ⟨lvE_b (lva_mem hj), ?_⟩))
        by_cases hs : j + 1 = i
        · subst hs
          have ho2 : isLg L[j]? = false := by simpa [okS] using ho
          rw [hj] at ho2
          simp [hji, hj1, cv_cat1 b ho2]
        · simp [hji, hj1, hs]
  · have hi0 : i ≠ 0 := hE.resolve_left (by rw [ha]; exact fun q => by cases q)
    refine h'.2.2 (0, .ref a) (List.mem_cons_of_mem _ (List.mem_filter.mpr ⟨lvE_a ha, ?_⟩))
    simp [Ne.symm hi0, Value.category]
/-! the world -/
def wcl : List (Nat × (Nat → FieldType)) := [(11, tyX0), (4, tyX1), (9, tyX2), (6, tyX3), (7, tyX4), (4, tyX6), (2, tyX7), (8, tyX8), (5, tyX9), (13, tyX10), (16, tyX11), (62, tyX12)]
def ncl (ci : Nat) : Nat := ((wcl[ci]?).getD (0, fun _ => .int)).1
def tcl (ci : Nat) : Nat → FieldType := ((wcl[ci]?).getD (0, fun _ => .int)).2
def wfld (b : Nat) (M : Mem) (k j : Nat) (ty : FieldType) : Value := match ty with
  | .object _ => va_rf ((mR M k j).map (b + ·))
  | .array _ => va_rf ((mR M k j).map (b + ·))
  | _ => .int (mI M k j)
def wfs (b : Nat) (M : Mem) (k ci : Nat) : List Value := (List.range (ncl ci)).map fun j => wfld b M k j (tcl ci j)
def warr (b : Nat) (M : Mem) (k : Nat) (ty : FieldType) : (Nat → Int32) ⊕ (Nat → Int64) ⊕ (Nat → UInt32) ⊕ (Nat → UInt64) ⊕ (Nat → Option Nat) := match ty with
  | .long => .inr (.inl (mL M k))
  | .array _ => .inr (.inr (.inr (.inr (fun j => (mR M k j).map (b + ·)))))
  | _ => .inl (mI M k)
def went (b : Nat) (cA : FieldType → ClassId) (M : Mem) (k : Nat) (sh : Sh) : va_E := match sh with
  | .inl ci => .inr (ci, wfs b M k ci)
  | .inr (ty, n) => .inl (cA ty, n, warr b M k ty)
def wld (b : Nat) (cA : FieldType → ClassId) (Y : List Sh) (M : Mem) : va_W := Y.mapIdx fun k sh => (b + k, went b cA M k sh)
def wtys (cA : FieldType → ClassId) : List (ClassId × FieldType) := [(cA .int, .int), (cA .long, .long), (cA .byte, .byte), (cA .boolean, .boolean), (cA (.array .int), .array .int)]
theorem wld_get {b : Nat} {cA : FieldType → ClassId} {Y : List Sh} {M : Mem} {k : Nat} {sh : Sh} (h : Y[k]? = some sh) : (wld b cA Y M)[k]? = some (b + k, went b cA M k sh) := by
  unfold wld
  rw [List.getElem?_mapIdx, h]
  rfl
theorem wld_of {b : Nat} {cA : FieldType → ClassId} {Y : List Sh} {M : Mem} {k : Nat} {q : Nat × va_E} (h : (wld b cA Y M)[k]? = some q) : q.1 = b + k := by
  unfold wld at h
  rw [List.getElem?_mapIdx] at h
  cases hY : Y[k]? with
  | none => rw [hY] at h; cases h
  | some sh => rw [hY] at h; cases h; rfl
theorem wld_D {b : Nat} {cA : FieldType → ClassId} {Y : List Sh} {M : Mem} : va_D (fun q => b ≤ q) (wld b cA Y M) := by
  refine ⟨fun i j p q hi hj h => ?_, fun k q h => ?_⟩
  · rw [wld_of hi, wld_of hj] at h
    omega
  · rw [wld_of h]
    exact Nat.le_add_right b k
theorem wld_set {b : Nat} {cA : FieldType → ClassId} {Y : List Sh} {M M' : Mem} {k : Nat} {sh : Sh} {e : va_E} (h : Y[k]? = some sh) (he : went b cA M' k sh = e) (ho : ∀ k' sh', k' ≠ k → went b cA M' k' sh' = went b cA M k' sh') : (wld b cA Y M).set k (b + k, e) = wld b cA Y M' := by
  subst he
  have hk : k < (wld b cA Y M).length := (List.getElem?_eq_some_iff.mp (wld_get h)).1
  apply List.ext_getElem?
  intro i
  by_cases hi : i = k
  · subst hi
    rw [List.getElem?_set_self hk, wld_get h]
  · rw [List.getElem?_set_ne (Ne.symm hi)]
    unfold wld
    rw [List.getElem?_mapIdx, List.getElem?_mapIdx]
    cases Y[i]? with
    | none => rfl
    | some sh' => simp [ho i sh' hi]
/-- a change of one cell's content changes no other cell -/
def offK (M M' : Mem) (k : Nat) : Prop := ∀ k', k' ≠ k → (∀ j, mI M' k' j = mI M k' j) ∧ (∀ j, mL M' k' j = mL M k' j) ∧ (∀ j, mR M' k' j = mR M k' j)
theorem went_off {b : Nat} {cA : FieldType → ClassId} {M M' : Mem} {k : Nat} (h : offK M M' k) : ∀ k' sh', k' ≠ k → went b cA M' k' sh' = went b cA M k' sh' := by
  intro k' sh' hk
  obtain ⟨h1, h2, h3⟩ := h k' hk
  have f1 : mI M' k' = mI M k' := funext h1
  have f2 : mL M' k' = mL M k' := funext h2
  have f3 : mR M' k' = mR M k' := funext h3
  rcases sh' with ci | ⟨ty, n⟩
  · show Sum.inr (ci, wfs b M' k' ci) = Sum.inr (ci, wfs b M k' ci)
    have e : wfs b M' k' ci = wfs b M k' ci := by
      unfold wfs
      apply List.map_congr_left
      intro j _
      unfold wfld
      rw [h1 j, h3 j]
    rw [e]
  · show Sum.inl (cA ty, n, warr b M' k' ty) = Sum.inl (cA ty, n, warr b M k' ty)
    have e : warr b M' k' ty = warr b M k' ty := by
      unfold warr
      rw [f1, f2, f3]
    rw [e]
theorem off_sI (M : Mem) (k j : Nat) (v : Int32) : offK M (sI M k j v) k := fun k' hk => ⟨fun j' => by rw [mI_sI, if_neg (fun q => hk q.1)], fun _ => rfl, fun _ => rfl⟩
theorem off_sL (M : Mem) (k j : Nat) (v : Int64) : offK M (sL M k j v) k := fun k' hk => ⟨fun _ => rfl, fun j' => by rw [mL_sL, if_neg (fun q => hk q.1)], fun _ => rfl⟩
theorem off_sR (M : Mem) (k j : Nat) (v : Option Nat) : offK M (sR M k j v) k := fun k' hk => ⟨fun _ => rfl, fun _ => rfl, fun j' => by rw [mR_sR, if_neg (fun q => hk q.1)]⟩
def isIty (ty : FieldType) : Bool := match ty with
  | .int => true
  | .byte => true
  | .boolean => true
  | _ => false
theorem warr_int {b : Nat} {M : Mem} {k : Nat} {ty : FieldType} (h : isIty ty = true) : warr b M k ty = .inl (mI M k) := by
  cases ty <;> first | rfl | (simp [isIty] at h)
theorem wfld_int {b : Nat} {M : Mem} {k j : Nat} {ty : FieldType} (h : isIty ty = true) : wfld b M k j ty = .int (mI M k j) := by
  cases ty <;> first | rfl | (simp [isIty] at h)
def isRty (ty : FieldType) : Bool := match ty with
  | .object _ => true
  | .array _ => true
  | _ => false
theorem wfld_ref {b : Nat} {M : Mem} {k j : Nat} {ty : FieldType} (h : isRty ty = true) : wfld b M k j ty = va_rf ((mR M k j).map (b + ·)) := by
  cases ty <;> first | rfl | (simp [isRty] at h)
theorem mI_upd (M : Mem) (k j : Nat) (v : Int32) : mI (sI M k j v) k = upd (mI M k) j v := by
  funext j'
  rw [mI_sI]
  unfold upd
  by_cases h : j' = j
  · rw [if_pos ⟨rfl, h⟩, if_pos h]
  · rw [if_neg (fun q => h q.2), if_neg h]
theorem mL_upd (M : Mem) (k j : Nat) (v : Int64) : mL (sL M k j v) k = vp_updL (mL M k) j v := by
  funext j'
  rw [mL_sL]
  unfold vp_updL
  by_cases h : j' = j
  · rw [if_pos ⟨rfl, h⟩, if_pos h]
  · rw [if_neg (fun q => h q.2), if_neg h]
theorem wfs_len (b : Nat) (M : Mem) (k ci : Nat) : (wfs b M k ci).length = ncl ci := by simp [wfs]
theorem wfs_get (b : Nat) (M : Mem) (k ci : Nat) {j : Nat} (h : j < ncl ci) : (wfs b M k ci)[j]? = some (wfld b M k j (tcl ci j)) := by
  simp [wfs, h]
theorem wfs_set {b : Nat} {M M' : Mem} {k ci j : Nat} {v : Value} (hv : wfld b M' k j (tcl ci j) = v) (ho : ∀ j', j' ≠ j → mI M' k j' = mI M k j' ∧ mR M' k j' = mR M k j') : (wfs b M k ci).set j v = wfs b M' k ci := by
  subst hv
  apply List.ext_getElem?
  intro i
  by_cases hi : i < ncl ci
  · by_cases hij : i = j
    · subst hij
      rw [List.getElem?_set_self (by rw [wfs_len]; exact hi), wfs_get b M' k ci hi]
    · rw [List.getElem?_set_ne (Ne.symm hij), wfs_get b M k ci hi, wfs_get b M' k ci hi]
      unfold wfld
      rw [(ho i hij).1, (ho i hij).2]
  · rw [List.getElem?_eq_none (by rw [List.length_set, wfs_len]; omega), List.getElem?_eq_none (by rw [wfs_len]; omega)]
/-! what stands fast about a state: words of nest mates, the two static rows -/
def lw_g : List Cond := lw_tbl.filter goodWord
def isNw (w : Cond) : Bool := match w with
  | .methodLinkNest .. => true
  | .fieldLinkNest .. => true
  | _ => false
def lw_n : List Cond := lw_tbl.filter isNw
def stpX (j : Nat) : Int32 := match j with
  | 1 => 1
  | 3 => -1
  | _ => 0
def stpY (j : Nat) : Int32 := match j with
  | 0 => 1
  | 2 => -1
  | _ => 0
def stX : Nat → Value := fun j => .int (stpX j)
def stY : Nat → Value := fun j => .int (stpY j)
/-- rows of rows of ints have been made before -/
def aoA (U : State) : Prop := (Cond.arrayOver (.array .int)).before #[] U = true
theorem aoA.moved {u U : State} (hvm : u.vm.Alike U.vm) (h : aoA u) : aoA U := by
  obtain ⟨comp, c, k, h1, h2, h3, h4, h5⟩ := arrayOverA_spec h
  obtain ⟨k', hk', he⟩ := hvm.2.2 _ _ h3
  have hi : (U.vm.classes.findIdx? fun (x : Class) => match x.kind with | .array component _ => component == comp | _ => false) = some c := by
    have e1 := va_idx_bare U.vm comp
    have e2 := va_idx_bare u.vm comp
    have e4 : U.vm.bare = u.vm.bare := by first | exact hvm.bare_eq | exact hvm.bare_eq.symm
    rw [e4] at e1
    exact e1.symm.trans (e2.trans h2)
  have hkind : k'.kind = .array comp (.array .int) := by rw [he]; exact h4
  have f1 : U.vm.findClass (FieldType.array .int).toString = some comp := by rw [hvm.findClass]; exact h1
  have f2 : U.vm.findClass ("[" ++ (FieldType.array .int).toString) = some c := by rw [hvm.findClass]; exact h5
  unfold aoA Cond.before Cond.holds
  simp only [Cond.value]
  rw [f1, Option.bind_some]
  refine (congrArg (fun o : Option Nat => (o.bind (fun c => (U.vm.classes[c]?).map fun (k : Class) => match k.kind with | .array _ ty => decide (ty = FieldType.array .int) && decide (U.vm.findClass ("[" ++ (FieldType.array .int).toString) = some c) | _ => false) == some true)) hi).trans ?_
  simp [hk', hkind, f2]
def ST (b : Nat) (U : State) : Prop := (∀ w ∈ lw_n, va_Nw w U) ∧ (∃ t, va_Z "GhostQuarter" "STEP_X" "[I" (.ref t) (fun q => b ≤ q) U U.heap ∧ va_T .int t 5 stX (fun q => b ≤ q) U U.heap) ∧ (∃ t, va_Z "GhostQuarter" "STEP_Y" "[I" (.ref t) (fun q => b ≤ q) U U.heap ∧ va_T .int t 5 stY (fun q => b ≤ q) U U.heap) ∧ aoA U
def Wd (b : Nat) (D : va_G) (cA : FieldType → ClassId) (Y : List Sh) (M : Mem) (U : State) : Prop := U.heap.size = b + Y.length ∧ va_P D vwCl (wld b cA Y M) U.heap ∧ va_K D vwCl (wtys cA) U ∧ ST b U
def WdP (b : Nat) (D : va_G) (cA : FieldType → ClassId) (Y : List Sh) (M : Mem) (U : State) : Prop := U.heap.size = b + Y.length ∧ va_P D vwCl (wld b cA Y M) U.heap
theorem lw_n_warm {w : Cond} (hw : w ∈ lw_n) {s U : State} (hW : s.WarmedH U.vm) (h : va_Nw w s) : va_Nw w U := by
  have h2 := (List.mem_filter.mp hw).2
  cases w <;> first | exact va_Nw.warmM hW h | exact va_Nw.warmF hW h | cases h2
theorem lw_n_tab {w : Cond} (hw : w ∈ lw_n) : w.onTables = true := by
  have h2 := (List.mem_filter.mp hw).2
  cases w <;> first | rfl | cases h2
theorem ST.warm {b : Nat} {s U : State} {H : Heap} {locs : List Loc} (h : ST b s) (hW : s.WarmedH U.vm) (hS : va_S (fun q => b ≤ q) s.heap H locs) (hU : U.heap = H) : ST b U := by
  obtain ⟨h1, ⟨t1, a1, a2⟩, ⟨t2, b1, b2⟩, h4⟩ := h
  have k := hS.2.1
  rw [← hU] at k
  exact ⟨fun w hw => lw_n_warm hw hW (h1 w hw), ⟨t1, (va_Z.moved hW.alike a1).kept k, (va_T.moved hW.alike a2).kept k⟩, ⟨t2, (va_Z.moved hW.alike b1).kept k, (va_T.moved hW.alike b2).kept k⟩, h4.moved hW.alike⟩
theorem ST.calling {b : Nat} {U : State} {g : JFrame} {mk : MethodId} {a : Array Value} (h : ST b U) : ST b (U.calling g mk a) := by
  obtain ⟨h1, ⟨t1, a1, a2⟩, ⟨t2, b1, b2⟩, h4⟩ := h
  exact ⟨fun w hw => va_Nw.same (u := U) (U := U.calling g mk a) (lw_n_tab hw) rfl (h1 w hw), ⟨t1, va_Z.moved (u := U) (U := U.calling g mk a) (Vm.Alike.refl U.vm) a1, va_T.moved (u := U) (U := U.calling g mk a) (Vm.Alike.refl U.vm) a2⟩, ⟨t2, va_Z.moved (u := U) (U := U.calling g mk a) (Vm.Alike.refl U.vm) b1, va_T.moved (u := U) (U := U.calling g mk a) (Vm.Alike.refl U.vm) b2⟩, aoA.moved (u := U) (U := U.calling g mk a) (Vm.Alike.refl U.vm) h4⟩
theorem Wd.calling {b : Nat} {D : va_G} {cA : FieldType → ClassId} {Y : List Sh} {M : Mem} {U : State} {g : JFrame} {mk : MethodId} {a : Array Value} (h : Wd b D cA Y M U) : Wd b D cA Y M (U.calling g mk a) := ⟨h.1, h.2.1, va_K.moved (u := U) (U := U.calling g mk a) (Vm.Alike.refl U.vm) h.2.2.1, h.2.2.2.calling⟩
