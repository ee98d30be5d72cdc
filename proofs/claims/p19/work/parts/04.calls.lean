/-! PART 04: what a method's run ends with; calls, returns; new cells -/
def catW (st : List Value) : Nat := (st.map fun v => v.category).sum
def rmD (d mc ms : Nat) : Room := { frames := d, cells := mc, slots := ms, locals := 32 * d }
def QC (ret : Option FieldType) (b : Nat) (D : va_G) (cA : FieldType → ClassId) (r : LV) (Y : List Sh) (M : Mem) : Array Value → State → Outcome → State → Prop := match ret with
  | none => va_Qv (fun _ : Unit => True) (fun _ t => WdP b D cA Y M t) (fun q => b ≤ q)
  | some .long => va_Ql (fun (x : Int64) (_ : Unit) => vL x = r) (fun _ t => WdP b D cA Y M t) (fun q => b ≤ q)
  | some _ => va_Qi (fun (x : Int32) (_ : Unit) => vI x = r) (fun _ t => WdP b D cA Y M t) (fun q => b ≤ q)
def wsM (y : MethodName) (bytes : ByteArray) (n : Nat) (ret : Option FieldType) : List Cond := .code y bytes n ret :: lw_g
/-- a run of method y at depth d of calls: from arguments as and cells Y holding M, to the answer r and cells Y1 holding M1 -/
def Snd (y : MethodName) (bytes : ByteArray) (n : Nat) (ret : Option FieldType) (d : Nat) (as : List LV) (Y : List Sh) (M : Mem) (r : LV) (Y1 : List Sh) (M1 : Mem) : Prop :=
  ∀ (l : Launch) (b : Nat) (D : va_G) (cA : FieldType → ClassId),
    Met l y (wsM y bytes n ret) (rmD d (Y1.length - Y.length) (szs Y1 - szs Y)) (va_Pc (as.map (cv b)) (Wd b D cA Y M)) (QC ret b D cA r Y1 M1) (Y1.length - Y.length) (szs Y1 - szs Y) (fun q => b ≤ q)
theorem goodIn_g {c : Cond} (hc : c ∈ lw_g) : GoodIn lw_g (c :: lw_g) := fun w h => by
  have hm : w ∈ lw_g := by
    rcases List.mem_cons.mp h with h | h
    · rw [h]; exact hc
    · exact h
  exact ⟨hm, good_of_word (List.mem_filter.mp hm).2⟩
theorem blind_Wd {vs : List Value} {b : Nat} {D : va_G} {cA : FieldType → ClassId} {Y : List Sh} {M : Mem} : FrameBlind (va_Pc vs (Wd b D cA Y M)) := fun _ _ _ _ h => ⟨h.1, h.2.calling⟩
/-- the room that a run from Y to Y1 needs of its caller -/
def Fit (Z : Px) (Y Y1 : List Sh) : Prop := xy0 Z ≤ Y.length ∧ Y.length ≤ Y1.length ∧ xs0 Z ≤ szs Y ∧ szs Y ≤ szs Y1 ∧ Y1.length - xy0 Z ≤ (xR Z).cells ∧ szs Y1 - xs0 Z ≤ (xR Z).slots
theorem Fit.here {Z : Px} {Y Y1 : List Sh} (F : Fit Z Y Y1) : (Y.length - xy0 Z) + (Y1.length - Y.length) ≤ (xR Z).cells ∧ (szs Y - xs0 Z) + (szs Y1 - szs Y) ≤ (xR Z).slots := by
  obtain ⟨h1, h2, h3, h4, h5, h6⟩ := F
  constructor <;> omega
theorem Fit.c {Z : Px} {Y Y1 : List Sh} (F : Fit Z Y Y1) : (Y.length - xy0 Z) + (Y1.length - Y.length) = Y1.length - xy0 Z := by
  obtain ⟨h1, h2, h3, h4, h5, h6⟩ := F
  omega
theorem Fit.s {Z : Px} {Y Y1 : List Sh} (F : Fit Z Y Y1) : (szs Y - xs0 Z) + (szs Y1 - szs Y) = szs Y1 - xs0 Z := by
  obtain ⟨h1, h2, h3, h4, h5, h6⟩ := F
  omega
/-- a callee as its caller has it at hand -/
def Cal (Z : Px) (y : MethodName) (bytes : ByteArray) (n : Nat) (ret : Option FieldType) (d np : Nat) : Prop :=
  Cond.code y bytes n ret ∈ lw_g ∧ Cond.initialized y.cls ∈ lw_g ∧ (y.cls ≠ "java/lang/invoke/MethodHandle" ∧ y.cls ≠ "java/lang/invoke/VarHandle" ∧ (parseMethodDescriptor y.desc).map (fun d => d.parameters.length) = some np) ∧ d + 1 ≤ xd Z ∧ n ≤ 13
section CALLS
variable {Z : Px} {pc : Nat} {st : List Value} {L : LS0} {M M1 : Mem} {Y Y1 : List Sh} {y : MethodName} {bytes : ByteArray} {n d index : Nat} {ret : Option FieldType} {r : LV}
theorem cal_B (C : Cx Z) {np mc ms : Nat} (K : Cal Z y bytes n ret d np) (hl : Cond.methodLink (xown Z) index y ∈ lw_g) : CallB (xR Z) (xs Z) (xargs Z) (xown Z) index y bytes n ret (wsM y bytes n ret) (rmD d mc ms) mc ms np := by
  obtain ⟨k1, k2, k3, k4, k5⟩ := K
  obtain ⟨-, -, -, c4, -, -, -, c8, c9, -⟩ := C
  exact callB_of np c4 (goodIn_g k1) rfl rfl rfl (c4 _ k2) (c4 _ hl) k3 ⟨Nat.le_trans k4 c8, Nat.le_trans (by show 8 + (n + 11) + 32 * d ≤ 32 * xd Z; omega) c9⟩
theorem cal_N (C : Cx Z) {np mc ms : Nat} {host : String} (K : Cal Z y bytes n ret d np) (hl : Cond.methodLinkNest (xown Z) index y host ∈ lw_n) : va_CN (xR Z) (xs Z) (xargs Z) (xown Z) index y host bytes n ret (wsM y bytes n ret) (rmD d mc ms) mc ms np := by
  obtain ⟨k1, k2, k3, k4, k5⟩ := K
  obtain ⟨-, -, -, c4, -, c6, -, c8, c9, -⟩ := C
  exact va_cnB np c4 (goodIn_g k1) rfl rfl rfl (c6.1 _ hl) (c4 _ k2) k3 ⟨Nat.le_trans k4 c8, Nat.le_trans (by show 8 + (n + 11) + 32 * d ≤ 32 * xd Z; omega) c9⟩
theorem pre_Wd (C : Cx Z) {as : List LV} {H : Heap} {lo : List Loc} (a1 : H.size = xb Z + Y.length) (a2 : va_P (xD Z) vwCl (wld (xb Z) (xA Z) Y M) H) (a3 : va_S (fun q => xb Z ≤ q) (xs Z).heap H lo) : ∀ U : State, U.heap = H → (xs Z).WarmedH U.vm → va_Pc (as.map (cv (xb Z))) (Wd (xb Z) (xD Z) (xA Z) Y M) (as.map (cv (xb Z))).toArray U := fun U hU hW =>
  ⟨rfl, by rw [hU]; exact a1, by rw [hU]; exact a2, va_K.moved hW.alike C.2.2.2.2.1, ST.warm C.2.2.2.2.2.1 hW a3 hU⟩
/-- the run of a call, by whatever instruction -/
def Runs (Z : Px) (Y : List Sh) (pc : Nat) (M : Mem) (ret : Option FieldType) (as : List LV) (r : LV) (Y1 : List Sh) (M1 : Mem) : Prop :=
  ∀ (st : List Value) (L : LS0), catW st ≤ 8 → ∀ (H : Heap) (lo : List Loc) (ls : Array Slot), H.size = xb Z + Y.length → va_P (xD Z) vwCl (wld (xb Z) (xA Z) Y M) H → va_S (fun q => xb Z ≤ q) (xs Z).heap H lo → LocOK (xE Z) (xb Z) (xnL Z) ls L →
    va_Run (xp Z) (xl Z) (xe Z) (xR Z) (xs Z) (xm Z) (xargs Z) (xbelow Z) (xmeth Z) (xc Z) H lo (Y.length - xy0 Z) (szs Y - xs0 Z) (Y1.length - Y.length) (szs Y1 - szs Y) (F0 (xm Z) pc ls ((as.map (cv (xb Z))).reverse ++ st)) st (QC ret (xb Z) (xD Z) (xA Z) r Y1 M1 (as.map (cv (xb Z))).toArray) (fun q => xb Z ≤ q)
theorem runs_S (C : Cx Z) (F : Fit Z Y Y1) {as : List LV} (S : Snd y bytes n ret d as Y M r Y1 M1) (K : Cal Z y bytes n ret d as.length) (hl : Cond.methodLink (xown Z) index y ∈ lw_g) (hs : Cond.static y ∈ lw_g) (dg : decode (xcc Z) pc = .ok (.invokestatic index, 3)) : Runs Z Y pc M ret as r Y1 M1 := fun st L hc H lo ls a1 a2 a3 a4 =>
  va_runS ⟨C.1, C.2.1, C.2.2.2.2.2.2.1, C.2.2.1, C.2.2.2.1⟩ (S (xl Z) (xb Z) (xD Z) (xA Z)) ⟨cal_B C K hl, C.2.2.2.1 _ hs⟩ ⟨blind_Wd, pre_Wd C a1 a2 a3⟩ rfl (by simp) a4.1 rfl (lv_room (m := xm Z) (pc := pc) (ls := ls) (rest := []) hc) dg F.here
theorem runs_SN (C : Cx Z) (F : Fit Z Y Y1) {as : List LV} (S : Snd y bytes n ret d as Y M r Y1 M1) {host : String} (K : Cal Z y bytes n ret d as.length) (hl : Cond.methodLinkNest (xown Z) index y host ∈ lw_n) (hs : Cond.static y ∈ lw_g) (dg : decode (xcc Z) pc = .ok (.invokestatic index, 3)) : Runs Z Y pc M ret as r Y1 M1 := fun st L hc H lo ls a1 a2 a3 a4 =>
  va_runSN ⟨C.1, C.2.1, C.2.2.2.2.2.2.1, C.2.2.1, C.2.2.2.1⟩ (S (xl Z) (xb Z) (xD Z) (xA Z)) ⟨cal_N C K hl, C.2.2.2.1 _ hs, trivial⟩ ⟨blind_Wd, pre_Wd C a1 a2 a3⟩ rfl (by simp) a4.1 rfl (lv_room (m := xm Z) (pc := pc) (ls := ls) (rest := []) hc) dg F.here
theorem runs_V (C : Cx Z) (F : Fit Z Y Y1) {as : List LV} {k ci N : Nat} (S : Snd y bytes n ret d (vR k :: as) Y M r Y1 M1) {TT : u_T} (K : Cal Z y bytes n ret d as.length) (hci : clOK ci y.cls TT N) (hY : Y[k]? = some (.inl ci)) (hl : Cond.methodLink (xown Z) index y ∈ lw_g) (hi : Cond.instanceMethod y ∈ lw_g) (hs : Cond.selects y.cls y y ∈ lw_g) (dg : decode (xcc Z) pc = .ok (.invokevirtual index, 3)) : Runs Z Y pc M ret (vR k :: as) r Y1 M1 := fun st L hc H lo ls a1 a2 a3 a4 => by
  have h := va_runV (rest := st) (As := as.map (cv (xb Z))) (b := xb Z + k) (g := F0 (xm Z) pc ls (((vR k :: as).map (cv (xb Z))).reverse ++ st)) ⟨C.1, C.2.1, C.2.2.2.2.2.2.1, C.2.2.1, C.2.2.2.1⟩ (S (xl Z) (xb Z) (xD Z) (xA Z)) ⟨cal_B C K hl, C.2.2.2.1 _ hi, C.2.2.2.1 _ hs⟩ ⟨blind_Wd, va_recv C.2.2.2.2.1 a2 hci.1 (wld_get hY), pre_Wd C (as := vR k :: as) a1 a2 a3⟩ (cells := Y.length - xy0 Z) (slots := szs Y - xs0 Z) (below := xbelow Z) (meth := xmeth Z) (e := xe Z) (locs := lo) rfl (by simp) a4.1 (by simp [cv]) (lv_room (m := xm Z) (pc := pc) (ls := ls) (rest := []) hc) dg F.here
  exact h
theorem runs_I (C : Cx Z) (F : Fit Z Y Y1) {as : List LV} {k : Nat} (S : Snd y bytes n none d (vR k :: as) Y M r Y1 M1) (K : Cal Z y bytes n none d as.length) (hl : Cond.methodLink (xown Z) index y ∈ lw_g) (hi : Cond.instanceMethod y ∈ lw_g) (hn : y.name = "<init>") (dg : decode (xcc Z) pc = .ok (.invokespecial index, 3)) : Runs Z Y pc M none (vR k :: as) r Y1 M1 := fun st L hc H lo ls a1 a2 a3 a4 => by
  have h := va_runI (rest := st) (As := as.map (cv (xb Z))) (b := xb Z + k) (g := F0 (xm Z) pc ls (((vR k :: as).map (cv (xb Z))).reverse ++ st)) ⟨C.1, C.2.1, C.2.2.2.2.2.2.1, C.2.2.1, C.2.2.2.1⟩ (S (xl Z) (xb Z) (xD Z) (xA Z)) ⟨cal_B C K hl, hn, C.2.2.2.1 _ hi⟩ ⟨blind_Wd, pre_Wd C (as := vR k :: as) a1 a2 a3⟩ (cells := Y.length - xy0 Z) (slots := szs Y - xs0 Z) (below := xbelow Z) (meth := xmeth Z) (e := xe Z) (locs := lo) rfl (by simp) a4.1 (by simp [cv]) (lv_room (m := xm Z) (pc := pc) (ls := ls) (rest := []) hc) dg F.here
  exact h
theorem runs_IN (C : Cx Z) (F : Fit Z Y Y1) {as : List LV} {k : Nat} (S : Snd y bytes n none d (vR k :: as) Y M r Y1 M1) {host : String} (K : Cal Z y bytes n none d as.length) (hl : Cond.methodLinkNest (xown Z) index y host ∈ lw_n) (hi : Cond.instanceMethod y ∈ lw_g) (hn : y.name = "<init>") (dg : decode (xcc Z) pc = .ok (.invokespecial index, 3)) : Runs Z Y pc M none (vR k :: as) r Y1 M1 := fun st L hc H lo ls a1 a2 a3 a4 => by
  have h := va_runIN (rest := st) (As := as.map (cv (xb Z))) (b := xb Z + k) (g := F0 (xm Z) pc ls (((vR k :: as).map (cv (xb Z))).reverse ++ st)) ⟨C.1, C.2.1, C.2.2.2.2.2.2.1, C.2.2.1, C.2.2.2.1⟩ (S (xl Z) (xb Z) (xD Z) (xA Z)) ⟨cal_N C K hl, hn, C.2.2.2.1 _ hi⟩ ⟨blind_Wd, pre_Wd C (as := vR k :: as) a1 a2 a3⟩ (cells := Y.length - xy0 Z) (slots := szs Y - xs0 Z) (below := xbelow Z) (meth := xmeth Z) (e := xe Z) (locs := lo) rfl (by simp) a4.1 (by simp [cv]) (lv_room (m := xm Z) (pc := pc) (ls := ls) (rest := []) hc) dg F.here
  exact h
theorem g_calli (C : Cx Z) (F : Fit Z Y Y1) {ty : FieldType} (hty : isIty ty = true) {as : List LV} {x : Int32} (hr : Runs Z Y pc M (some ty) as (vI x) Y1 M1) (hc : catW st ≤ 8) (kk : G Z Y1 (pc + 3) (.int x :: st) L M1) : G Z Y pc ((as.map (cv (xb Z))).reverse ++ st) L M := fun H lo ls a1 a2 a3 a4 => by
  have h := hr st L hc H lo ls a1 a2 a3 a4
  have e : QC (some ty) (xb Z) (xD Z) (xA Z) (vI x) Y1 M1 = va_Qi (fun (z : Int32) (_ : Unit) => vI z = vI x) (fun _ t => WdP (xb Z) (xD Z) (xA Z) Y1 M1 t) (fun q => xb Z ≤ q) := by
    cases ty <;> first | rfl | (simp [isIty] at hty)
  rw [e] at h
  refine va_calli h a3 (fun _ _ q => q) (fun _ q => q) (fun r u t H1 lo1 ht1 hvm hw hB hz1 hk1 hS => ?_)
  have h1 := hB.1
  have h2 := hB.2
  rw [ht1] at h1 h2
  cases hw
  rw [F.c, F.s]
  exact kk H1 lo1 ls h1 h2 hS a4
theorem g_calll (C : Cx Z) (F : Fit Z Y Y1) {as : List LV} {x : Int64} (hr : Runs Z Y pc M (some .long) as (vL x) Y1 M1) (hc : catW st ≤ 8) (kk : G Z Y1 (pc + 3) (.long x :: st) L M1) : G Z Y pc ((as.map (cv (xb Z))).reverse ++ st) L M := fun H lo ls a1 a2 a3 a4 => by
  have h := hr st L hc H lo ls a1 a2 a3 a4
  refine va_calll (a := (as.map (cv (xb Z))).toArray) h a3 (fun _ _ q => q) (fun _ q => q) (fun r u t H1 lo1 ht1 hvm hw hB hz1 hk1 hS => ?_)
  have h1 := hB.1
  have h2 := hB.2
  rw [ht1] at h1 h2
  cases hw
  rw [F.c, F.s]
  exact kk H1 lo1 ls h1 h2 hS a4
theorem g_callv (C : Cx Z) (F : Fit Z Y Y1) {as : List LV} (hr : Runs Z Y pc M none as r Y1 M1) (hc : catW st ≤ 8) (kk : G Z Y1 (pc + 3) st L M1) : G Z Y pc ((as.map (cv (xb Z))).reverse ++ st) L M := fun H lo ls a1 a2 a3 a4 => by
  have h := hr st L hc H lo ls a1 a2 a3 a4
  refine va_callv (a := (as.map (cv (xb Z))).toArray) h a3 (fun _ _ q => q) (fun _ q => q) (fun u t H1 lo1 ht1 hvm hw hB hz1 hk1 hS => ?_)
  have h1 := hB.1
  have h2 := hB.2
  rw [ht1] at h1 h2
  rw [F.c, F.s]
  exact kk H1 lo1 ls h1 h2 hS a4
end CALLS
/-! a method's entry and its ends -/
def argW (as : List LV) : Nat := (as.map fun v => if isLg (some (some v)) then 2 else 1).sum
def argL (as : List LV) : LS0 := as.flatMap fun v => if isLg (some (some v)) then [some v, none] else [some v]
def entL (nL : Nat) (as : List LV) : LS0 := argL as ++ List.replicate (nL - argW as) none
theorem argL_len (as : List LV) : (argL as).length = argW as := by
  induction as with
  | nil => rfl
  | cons v l ih =>
    unfold argL argW at *
    rw [List.flatMap_cons, List.length_append, ih, List.map_cons, List.sum_cons]
    by_cases h : isLg (some (some v)) = true <;> simp [h]
theorem argL_sl (b : Nat) (as : List LV) : lg_sl (as.map (cv b)) = (argL as).map (fun o => match o with
  | some v => Slot.val (cv b v)
  | none => Slot.second) := by
  induction as with
  | nil => rfl
  | cons v l ih =>
    unfold argL lg_sl at *
    rw [List.map_cons, List.flatMap_cons, ih, List.flatMap_cons, List.map_append]
    rcases v with x | x | k
    · rfl
    · rfl
    · rfl
theorem loc_entry (b nL : Nat) (as : List LV) (h : argW as ≤ nL) : LocOK none b nL ((lg_sl (as.map (cv b)) ++ List.replicate (nL - (lg_sl (as.map (cv b))).length) Slot.unset).toArray) (entL nL as) := by
  have hl : (lg_sl (as.map (cv b))).length = argW as := by rw [argL_sl, List.length_map, argL_len]
  have h0 := lv_entry (as.map (cv b)) (n := nL) (by rw [hl]; exact h)
  refine ⟨h0.1, h0.2.1, by unfold entL; rw [List.length_append, argL_len, List.length_replicate]; omega, fun i v hi => ?_, fun a h => by cases h⟩
  unfold entL at hi
  by_cases hk : i < argW as
  · rw [List.getElem?_append_left (by rw [argL_len]; exact hk)] at hi
    rw [List.getElem?_toArray, List.getElem?_append_left (by rw [hl]; exact hk), argL_sl, List.getElem?_map, hi]
    rfl
  · rw [List.getElem?_append_right (by rw [argL_len]; omega)] at hi
    have h2 := List.eq_of_mem_replicate (List.mem_of_getElem? hi)
    cases h2
/-- what a method's body may use at a return -/
def Rets (Z : Px) (ret : Option FieldType) (r : LV) (Y1 : List Sh) (M1 : Mem) : Prop :=
  (ret = none → ∀ (pc : Nat) (L : LS0), decode (xcc Z) pc = .ok (.return_, 1) → G Z Y1 pc [] L M1) ∧
  (ret = some .long → ∀ (pc : Nat) (L : LS0) (x : Int64), decode (xcc Z) pc = .ok (.lreturn, 1) → vL x = r → G Z Y1 pc [.long x] L M1) ∧
  (∀ ty, ret = some ty → isIty ty = true → ∀ (pc : Nat) (L : LS0) (x : Int32), decode (xcc Z) pc = .ok (.ireturn, 1) → narrow ty (.int x) = .int x → vI x = r → G Z Y1 pc [.int x] L M1)
abbrev Px0 : Type := Program × Launch × Env × Room × State × MethodId × Array Value × List Frame × Method × Code × (State → Prop)
theorem Snd.of {y : MethodName} {bytes : ByteArray} {n d : Nat} {ret : Option FieldType} {as : List LV} {Y Y1 : List Sh} {M M1 : Mem} {r : LV} (own : String) (ho : y.cls = own) (hy : plainName y.cls = true) (hw : argW as ≤ n)
    (body : ∀ (P : Px0) (b : Nat) (D : va_G) (cA : FieldType → ClassId), Cx (P, (bytes, own, n, d, b, D, cA, Y.length, szs Y, none, y.name)) → (xR (P, (bytes, own, n, d, b, D, cA, Y.length, szs Y, none, y.name))).cells = Y1.length - Y.length → (xR (P, (bytes, own, n, d, b, D, cA, Y.length, szs Y, none, y.name))).slots = szs Y1 - szs Y → Rets (P, (bytes, own, n, d, b, D, cA, Y.length, szs Y, none, y.name)) ret r Y1 M1 → G (P, (bytes, own, n, d, b, D, cA, Y.length, szs Y, none, y.name)) Y 0 [] (entL n as) M) : Snd y bytes n ret d as Y M r Y1 M1 := by
  subst ho
  intro l b D cA
  refine Met.ofW (cc := bytes) (maxL := n) (ret := ret) hy rfl ?_
  intro p e s m args below meth c s₁ B hml hv
  obtain ⟨rfl, hsz, hP, hK, hST⟩ := hv
  have hts : ∀ w ∈ wsM y bytes n ret, w.before ((as.map (cv b)).toArray) s = true := atoms_spec (ws := wsM y bytes n ret) B.pre
  have hlocks : meth.locks = false := B.notSynchronized
  have hr : meth.sig.returnType = ret := B.returns
  have hx : p.tables.exec = Jvm.exec := B.exec
  have hb : c.code = bytes := B.bytes
  have hnm : meth.name = y.name := (name_of_methodNamed B.named B.method).1
  let Z : Px := ((p, l, e, rmD d (Y1.length - Y.length) (szs Y1 - szs Y), s, m, (as.map (cv b)).toArray, below, meth, c, MQ below (QC ret b D cA r Y1 M1) ((as.map (cv b)).toArray) s (Y1.length - Y.length) (szs Y1 - szs Y) (fun q => b ≤ q)), (bytes, y.cls, n, d, b, D, cA, Y.length, szs Y, none, y.name))
  have hC : Cx Z := ⟨hx, hb, findClass_of_methodNamed B.named, fun w hw => hts w (List.mem_cons_of_mem _ hw), hK, hST, hml, Nat.le_refl _, Nat.le_refl _, by show b ≤ s.heap.size; omega, hnm⟩
  have hR : Rets Z ret r Y1 M1 := by
    refine ⟨fun h0 pc L hd H lo ls a1 a2 a3 a4 => ?_, fun h0 pc L x hd hQ H lo ls a1 a2 a3 a4 => ?_, fun ty h0 hty pc L x hd hn hQ H lo ls a1 a2 a3 a4 => ?_⟩
    · subst h0
      exact W.vret hx hb hr (fun t ht hW => ⟨⟨(), rfl, trivial, by rw [ht]; exact a1, by rw [ht]; exact a2⟩, a3.F ht⟩) a3.2.2 hd hlocks
    · subst h0
      exact W.lret hx hb hr (fun t ht hW => ⟨⟨x, (), rfl, hQ, by rw [ht]; exact a1, by rw [ht]; exact a2⟩, a3.F ht⟩) a3.2.2 hd hlocks
    · subst h0
      have eQ : QC (some ty) b D cA r Y1 M1 = va_Qi (fun (z : Int32) (_ : Unit) => vI z = r) (fun _ t => WdP b D cA Y1 M1 t) (fun q => b ≤ q) := by
        cases ty <;> first | rfl | (simp [isIty] at hty)
      show W p l e (rmD d (Y1.length - Y.length) (szs Y1 - szs Y)) s m _ below meth c H lo (Y1.length - Y.length) (szs Y1 - szs Y) (MQ below (QC (some ty) b D cA r Y1 M1) _ s (Y1.length - Y.length) (szs Y1 - szs Y) (fun q => b ≤ q)) _
      rw [eQ]
      exact W.zret hx hb hr hn (fun t ht hW => ⟨⟨x, (), rfl, hQ, by rw [ht]; exact a1, by rw [ht]; exact a2⟩, a3.F ht⟩) a3.2.2 hd hlocks
  have hG := body Z.1 b D cA hC rfl rfl hR
  rw [lg_entry_eq]
  have hG2 := hG s.heap [] _ hsz hP va_S.rf (loc_entry b n as hw)
  rw [show Y.length - xy0 Z = 0 from Nat.sub_self _, show szs Y - xs0 Z = 0 from Nat.sub_self _] at hG2
  exact hG2
/-! new cells -/
section NEW
variable {Z : Px} {pc : Nat} {st : List Value} {L : LS0} {M : Mem} {Y : List Sh}
theorem wld_app (b : Nat) (cA : FieldType → ClassId) (Y : List Sh) (M : Mem) (sh : Sh) : wld b cA (Y ++ [sh]) M = wld b cA Y M ++ [(b + Y.length, went b cA M Y.length sh)] := by
  unfold wld
  rw [List.mapIdx_append]
  simp
theorem szs_app (Y : List Sh) (sh : Sh) : szs (Y ++ [sh]) = szs Y + szS sh := by simp [szs]
theorem p_app {D : va_G} {b : Nat} {cA : FieldType → ClassId} {sh : Sh} {H H1 : Heap} (a1 : H.size = b + Y.length) (a2 : va_P D vwCl (wld b cA Y M) H) (o1 : ∀ q, q < H.size → H1[q]? = H[q]?) (e : va_at D vwCl (b + Y.length, went b cA M Y.length sh) H1) : va_P D vwCl (wld b cA (Y ++ [sh]) M) H1 := by
  rw [wld_app]
  refine (a2.kept (fun k x hx => o1 x.1 ((a2 k x hx).lt))).app (fun k x hx => ?_)
  have hz : k < 1 := (List.getElem?_eq_some_iff.mp hx).1
  rw [show k = 0 by omega] at hx
  cases hx
  exact e
theorem g_new (C : Cx Z) {ci N index : Nat} {Cn : String} {T : u_T} (F : Fit Z Y (Y ++ [.inl ci])) (K : clOK ci Cn T N) (hcl : Cond.classLink (xown Z) index Cn ∈ lw_g) (hins : Cond.instantiable Cn N ∈ lw_g) (hini : Cond.initialized Cn ∈ lw_g) (hty : ∀ j, j < N → isIty (tcl ci j) = true ∨ isRty (tcl ci j) = true) (hz : ∀ j, mI M Y.length j = 0 ∧ mR M Y.length j = none) (d : decode (xcc Z) pc = .ok (.new index, 3)) (kk : G Z (Y ++ [.inl ci]) (pc + 3) (.ref (xb Z + Y.length) :: st) L M) : G Z Y pc st L M := fun H lo ls a1 a2 a3 a4 => by
  have hKn := C.2.2.2.2.1.1 ci _ K.1
  have hf := F.here
  have e1 : (Y ++ [(.inl ci : Sh)]).length - Y.length = 1 := by simp
  have e2 : szs (Y ++ [(.inl ci : Sh)]) - szs Y = N := by rw [szs_app, ← K.2.1]; show szs Y + ncl ci - szs Y = ncl ci; omega
  have ec := F.c
  have es := F.s
  rw [e1, e2] at hf
  rw [e1] at ec
  rw [e2] at es
  refine W.newcK C.1 C.2.1 C.2.2.1 (C.2.2.2.1 _ hcl) (C.2.2.2.1 _ hins) (C.2.2.2.1 _ hini) rfl d hf.1 hf.2 hKn.2.1 a1 fun H1 kC hkC e z o => ?_
  rw [ec, es]
  refine kk H1 lo ls (by rw [z, List.length_append]; rfl) (p_app a1 a2 (fun q hq => o q (by rw [← a1]; exact hq)) ?_) ⟨Nat.le_trans a3.1 (by rw [a1, z]; omega), fun q h1 h2 => (o q (by rw [← a1]; exact Nat.lt_of_lt_of_le h1 a3.1)).trans (a3.2.1 q h1 h2), a3.2.2⟩ a4
  refine ⟨_, K.1, (u_born (tcl ci) C.2.2.2.1 K.2.2.1 hKn hkC e K.2.2.2.1).to (fun j hj => ?_)⟩
  show defaultValue (tcl ci j) = (wfs (xb Z) M Y.length ci).getD j .null
  rw [List.getD_eq_getElem?_getD, wfs_get _ _ _ _ (by rw [K.2.1]; exact hj), Option.getD_some]
  rcases hty j hj with h | h
  · rw [wfld_int h, (hz j).1]
    cases ht : tcl ci j <;> rw [ht] at h <;> first | rfl | (simp [isIty] at h)
  · rw [wfld_ref h, (hz j).2]
    cases ht : tcl ci j <;> rw [ht] at h <;> first | rfl | (simp [isRty] at h)
theorem g_newarr (C : Cx Z) {ty : FieldType} {n : Int32} {N : Nat} (atype : ArrayType) (hat : newarray.typeOf atype = ty) (F : Fit Z Y (Y ++ [.inr (ty, N)])) (hA : Cond.arrayClass ty ∈ lw_g) (hfc : ∀ cA : ClassId, (xs Z).vm.findClass ("[" ++ ty.toString) = some cA → cA = xA Z ty) (hn : ¬ n < 0) (hN : n.toNatClampNeg = N) (hbytes : N * componentBytes ty ≤ 536870912) (hz : ∀ cA : ClassId, vp_cell cA (N, warr (xb Z) M Y.length ty) = arrV cA N (fun _ => defaultValue ty)) (d : decode (xcc Z) pc = .ok (.newarray atype, 2)) (kk : G Z (Y ++ [.inr (ty, N)]) (pc + 2) (.ref (xb Z + Y.length) :: st) L M) : G Z Y pc (.int n :: st) L M := fun H lo ls a1 a2 a3 a4 => by
  subst hat
  have hf := F.here
  have e1 : (Y ++ [Sum.inr (newarray.typeOf atype, N)]).length - Y.length = 1 := by simp
  have e2 : szs (Y ++ [Sum.inr (newarray.typeOf atype, N)]) - szs Y = N := by rw [szs_app]; show szs Y + N - szs Y = N; omega
  have ec := F.c
  have es := F.s
  rw [e1, e2] at hf
  rw [e1] at ec
  rw [e2] at es
  refine va_newaK C.1 C.2.1 (C.2.2.2.1 _ hA) rfl d rfl hn hN hbytes hf.1 hf.2 a1 fun H1 cA e z o hAr hNm => ?_
  rw [ec, es]
  refine kk H1 lo ls (by rw [z, List.length_append]; rfl) (p_app a1 a2 (fun q hq => o q (by rw [← a1]; exact hq)) ?_) ⟨Nat.le_trans a3.1 (by rw [a1, z]; omega), fun q h1 h2 => (o q (by rw [← a1]; exact Nat.lt_of_lt_of_le h1 a3.1)).trans (a3.2.1 q h1 h2), a3.2.2⟩ a4
  show H1[xb Z + Y.length]? = some (vp_cell (xA Z _) (N, warr (xb Z) M Y.length _))
  rw [hz, ← hfc cA hNm]
  exact e
theorem g_objInit (C : Cx Z) {index x : Nat} (hl : Cond.methodLink (xown Z) index objectInit ∈ lw_g) (hi : Cond.instanceMethod objectInit ∈ lw_g) (hcd : Cond.code objectInit ⟨#[0xb1]⟩ 1 none ∈ lw_g) (hd : 1 ≤ xd Z) (hst : catW st ≤ 8) (d : decode (xcc Z) pc = .ok (.invokespecial index, 3)) (kk : G Z Y (pc + 3) st L M) : G Z Y pc (.ref (xb Z + x) :: st) L M := fun H lo ls a1 a2 a3 a4 => by
  obtain ⟨c1, c2, c3, c4, -, -, c7, c8, c9, -⟩ := C
  refine W.objInit c1 c2 c3 (c4 _ hl) (c4 _ hi) (c4 _ hcd) rfl (by show ls.size = _; rw [a4.1, c7]) rfl d (Nat.le_trans hd c8) ?_ (kk H lo ls a1 a2 a3 a4)
  have h8 := lv_room (m := xm Z) (pc := pc) (ls := ls) (rest := (.ref (xb Z + x) :: st : List Value)) (st := st) hst
  exact Nat.le_trans (Nat.add_le_add_right h8 12) (by omega)
theorem g_putF0 (C : Cx Z) {ci N k j index : Nat} {Cn : String} {T : u_T} {v : Value} {M' : Mem} (K : clOK ci Cn T N) (hY : Y[k]? = some (.inl ci)) (hj : j < N) (hw : Cond.fieldLink (xown Z) index (T j).1 (T j).2.1 (T j).2.2.1 ∈ lw_g) (hfin : (T j).2.2.2 = true) (hnm : xnm Z = "<init>") (hdecl : (T j).1 = xown Z) (hn : narrow (tcl ci j) v = v) (hfit : fits (tcl ci j) v = true) (hM : offK M M' k) (hv : wfld (xb Z) M' k j (tcl ci j) = v) (ho : ∀ j', j' ≠ j → mI M' k j' = mI M k j' ∧ mR M' k j' = mR M k j') (d : decode (xcc Z) pc = .ok (.putfield index, 3)) (kk : G Z Y (pc + 3) st L M') : G Z Y pc (v :: .ref (xb Z + k) :: st) L M := fun H lo ls a1 a2 a3 a4 => by
  have he := wld_get (b := xb Z) (cA := xA Z) (M := M) hY
  have hl : j < (wfs (xb Z) M k ci).length := by rw [wfs_len, K.2.1]; exact hj
  have hap := va_apart (own := xown Z) C.2.2.2.1 K.2.2.1 (tcl ci) K.2.2.2.1 K.2.2.2.2 C.2.2.2.2.1 K.1
  obtain ⟨r, h1, cell, q1, q2, q3, q4⟩ := a2 k _ he
  have hr : r = (Cn, T, N) := Option.some.inj (h1.symm.trans K.1)
  subst hr
  obtain ⟨hS, hfc, kC, hkC, hkind⟩ := C.2.2.2.2.1.1 ci _ K.1
  obtain ⟨cf, kf, fi, f, hi, hsl⟩ := hS j hj
  have hlay := C.2.2.2.1 _ (K.2.2.1 _ (u_in_lay hj))
  unfold u_lay at hlay
  rw [if_pos hfin] at hlay
  have hst := (u_facts hfc hkC (u_lays C.2.2.2.1 K.2.2.1 hj) hi).1
  have hcf : (xm Z).cls = cf := by
    obtain ⟨_, _, c', _, _, _, -, -, hf', -, -, -, hown2, -⟩ := Cond.laysFinal_spec hlay
    have e1 : c' = cf := by have := hi.symm.trans hf'; simp at this; exact this.1.symm
    rw [hdecl] at hown2
    rw [← e1]; exact Option.some.inj (C.2.2.1.symm.trans hown2)
  have h6 := u_fits hfc hkC hkind (Or.inr hlay) hi (K.2.2.2.1 j hj) hn hfit
  refine W.putFinK C.1 C.2.1 (f := f) C.2.2.1 (C.2.2.2.1 _ hw) hi hst hcf (C.2.2.2.2.2.2.2.2.2.2.trans hnm) (by rw [q2]; exact h6) q1 q3 (by rw [hsl]; exact k2_hasslot (q4 j hj)) rfl rfl d fun H' e1 e2 e3 => ?_
  rw [hsl] at e1 ⊢
  have hp := a2.set (e := .inr (ci, (wfs (xb Z) M k ci).set j v)) wld_D he ⟨_, K.1, t_OB.to (V := updV (vp_V (wfs (xb Z) M k ci)) j v) ⟨_, e1, q2, q3, t_set q4 hap hj v⟩ (fun j _ => vp_updV_set hl v j)⟩ e3
  have hp2 : va_P (xD Z) vwCl (wld (xb Z) (xA Z) Y M') H' := by
    rw [← wld_set (M := M) (M' := M') (b := xb Z) (cA := xA Z) (e := .inr (ci, (wfs (xb Z) M k ci).set j v)) hY (by rw [wfs_set hv ho]; rfl) (went_off hM)]
    exact hp
  exact kk H' _ ls (e2.trans a1) hp2 (a3.put e2 e3 (Nat.le_add_right _ _)) a4
theorem g_putFI (C : Cx Z) {ci N k j index : Nat} {Cn : String} {T : u_T} {x : Int32} (K : clOK ci Cn T N) (hY : Y[k]? = some (.inl ci)) (hj : j < N) (hw : Cond.fieldLink (xown Z) index (T j).1 (T j).2.1 (T j).2.2.1 ∈ lw_g) (hfin : (T j).2.2.2 = true) (hnm : xnm Z = "<init>") (hdecl : (T j).1 = xown Z) (hty : isIty (tcl ci j) = true) (hx : narrow (tcl ci j) (.int x) = .int x ∧ fits (tcl ci j) (.int x) = true) (d : decode (xcc Z) pc = .ok (.putfield index, 3)) (kk : G Z Y (pc + 3) st L (sI M k j x)) : G Z Y pc (.int x :: .ref (xb Z + k) :: st) L M :=
  g_putF0 C K hY hj hw hfin hnm hdecl hx.1 hx.2 (off_sI M k j x) (by rw [wfld_int hty, mI_sI, if_pos ⟨rfl, rfl⟩]) (fun j' h => ⟨by rw [mI_sI, if_neg (fun q => h q.2)], rfl⟩) d kk
theorem g_putFR (C : Cx Z) {ci N k j index t : Nat} {Cn : String} {T : u_T} (K : clOK ci Cn T N) (hY : Y[k]? = some (.inl ci)) (hj : j < N) (hw : Cond.fieldLink (xown Z) index (T j).1 (T j).2.1 (T j).2.2.1 ∈ lw_g) (hfin : (T j).2.2.2 = true) (hnm : xnm Z = "<init>") (hdecl : (T j).1 = xown Z) (hty : isRty (tcl ci j) = true) (d : decode (xcc Z) pc = .ok (.putfield index, 3)) (kk : G Z Y (pc + 3) st L (sR M k j (some t))) : G Z Y pc (.ref (xb Z + t) :: .ref (xb Z + k) :: st) L M :=
  g_putF0 C K hY hj hw hfin hnm hdecl (by cases h : tcl ci j <;> rw [h] at hty <;> first | rfl | (simp [isRty] at hty)) (by cases h : tcl ci j <;> rw [h] at hty <;> first | rfl | (simp [isRty] at hty)) (off_sR M k j (some t)) (by rw [wfld_ref hty, mR_sR, if_pos ⟨rfl, rfl⟩]; rfl) (fun j' h => ⟨rfl, by rw [mR_sR, if_neg (fun q => h q.2)]⟩) d kk
/-! new int[N][K] -/
theorem vr_outer (c : ClassId) (N h0 : Nat) : ∀ i : Nat, Jvm.Free.Multi.outerC c N h0 i = arrV c N (fun j => va_rf (if j < i then some (h0 + 1 + j) else none))
  | 0 => by
    show ({ cls := c, slots := Array.replicate N .null, vm := .none } : Cell) = _
    rw [arrV_new]
    congr 1
  | i + 1 => by
    show (Jvm.Free.Multi.outerC c N h0 i).setSlot i (.ref (h0 + 1 + i)) = _
    rw [vr_outer c N h0 i, arrV_store]
    congr 1
    funext j
    by_cases e : j = i
    · subst e
      simp [updV, va_rf]
    · by_cases h : j < i
      · simp [updV, e, h, Nat.lt_succ_of_lt h]
      · simp [updV, e, h, show ¬ j < i + 1 by omega]
theorem wld_app2 (b : Nat) (cA : FieldType → ClassId) (Y Y2 : List Sh) (M : Mem) : wld b cA (Y ++ Y2) M = wld b cA Y M ++ Y2.mapIdx fun k sh => (b + (k + Y.length), went b cA M (k + Y.length) sh) := by
  unfold wld
  rw [List.mapIdx_append]
abbrev mulY (N K : Nat) : List Sh := .inr (.array .int, N) :: List.replicate N (.inr (.int, K))
theorem g_multi (C : Cx Z) {index N K : Nat} {n k : Int32} (F : Fit Z Y (Y ++ mulY N K)) (hcl : Cond.classLink (xown Z) index ("[" ++ (FieldType.array .int).toString) ∈ lw_g) (hA : Cond.arrayClass .int ∈ lw_g) (hfc1 : ∀ c : ClassId, (xs Z).vm.findClass ("[" ++ (FieldType.array .int).toString) = some c → c = xA Z (.array .int)) (hfc2 : ∀ c : ClassId, (xs Z).vm.findClass (FieldType.array .int).toString = some c → c = xA Z .int) (hn : ¬ n < 0) (hk : ¬ k < 0) (hN : n.toNatClampNeg = N) (hK : k.toNatClampNeg = K) (hb1 : N * 4 ≤ 536870912) (hb2 : K * 4 ≤ 536870912)
    (hz1 : ∀ j, mR M Y.length j = if j < N then some (Y.length + 1 + j) else none) (hz2 : ∀ i j, i < N → mI M (Y.length + 1 + i) j = 0) (d : decode (xcc Z) pc = .ok (.multianewarray index 2, 4)) (kk : G Z (Y ++ mulY N K) (pc + 4) (.ref (xb Z + Y.length) :: st) L M) : G Z Y pc (.int k :: .int n :: st) L M := by
  subst hN
  subst hK
  intro H lo ls a1 a2 a3 a4 T hT Xs
  have hf := F.here
  have e1 : (Y ++ mulY n.toNatClampNeg k.toNatClampNeg).length - Y.length = 1 + n.toNatClampNeg := by simp [Nat.add_comm]
  have e2 : szs (Y ++ mulY n.toNatClampNeg k.toNatClampNeg) - szs Y = n.toNatClampNeg + n.toNatClampNeg * k.toNatClampNeg := by simp [szs, szS]
  have ec := F.c
  have es := F.s
  rw [e1, e2] at hf
  rw [e1, ← Nat.add_assoc] at ec
  rw [e2, ← Nat.add_assoc] at es
  obtain ⟨vm₁, cA, cy, -, fA, fC, -, -, X', step⟩ := Xs.multianewarray2F C.1 C.2.2.1 (C.2.2.2.1 _ hcl) (show (Cond.arrayOver (.array .int)).before (xargs Z) (xs Z) = true from C.2.2.2.2.2.1.2.2.2) (C.2.2.2.1 _ hA) (g := F0 (xm Z) pc ls (.int k :: .int n :: st)) rfl (by rw [C.2.1]; exact d) rfl hn hk hb1 hb2 (by omega) rfl rfl hf.1 hf.2
  have ca := hfc1 cA fA
  have cb := hfc2 cy fC
  subst ca
  subst cb
  generalize hF : Jvm.Free.Multi.fill (T.setVm vm₁) (xA Z (.array .int)) (xA Z .int) n.toNatClampNeg k.toNatClampNeg (defaultValue .int) n.toNatClampNeg = F' at X' step
  have hTh : (T.setVm vm₁).heap = H := hT
  obtain ⟨f1, f2, -, -⟩ := Jvm.Free.Multi.fill_facts (T.setVm vm₁) (xA Z (.array .int)) (xA Z .int) n.toNatClampNeg k.toNatClampNeg (defaultValue .int) n.toNatClampNeg
  rw [hF, hTh] at f1 f2
  have hold : ∀ x : Nat, x < H.size → F'.heap[x]? = H[x]? := fun x hx => by
    have := Jvm.Free.Multi.fill_old (T.setVm vm₁) (xA Z (.array .int)) (xA Z .int) n.toNatClampNeg k.toNatClampNeg (defaultValue .int) (a := x) (by rw [hTh]; exact hx) n.toNatClampNeg
    rw [hF, hTh] at this
    exact this
  have hrow : ∀ j : Nat, j < n.toNatClampNeg → F'.heap[H.size + 1 + j]? = some (Jvm.Free.Multi.innerC (xA Z .int) k.toNatClampNeg (defaultValue .int)) := fun j hj => by
    have := Jvm.Free.Multi.fill_inner (T.setVm vm₁) (xA Z (.array .int)) (xA Z .int) n.toNatClampNeg k.toNatClampNeg (defaultValue .int) n.toNatClampNeg j hj
    rw [hF, hTh] at this
    exact this
  have hin : Jvm.Free.Multi.innerC (xA Z .int) k.toNatClampNeg (defaultValue .int) = arrV (xA Z .int) k.toNatClampNeg (fun _ => .int 0) := by
    rw [← arrV_new]
    rfl
  have hout := vr_outer (xA Z (.array .int)) n.toNatClampNeg H.size n.toNatClampNeg
  have hp : va_P (xD Z) vwCl (wld (xb Z) (xA Z) (Y ++ mulY n.toNatClampNeg k.toNatClampNeg) M) F'.heap := by
    rw [wld_app2]
    refine (a2.kept (fun k x hx => hold x.1 ((a2 k x hx).lt))).app (fun q x hx => ?_)
    rw [List.getElem?_mapIdx] at hx
    cases q with
    | zero =>
      cases hx
      show F'.heap[xb Z + (0 + Y.length)]? = some (vp_cell (xA Z (.array .int)) (n.toNatClampNeg, .inr (.inr (.inr (.inr (fun j => (mR M (0 + Y.length) j).map (xb Z + ·)))))))
      rw [Nat.zero_add, ← a1, f2, hout, vp_cell_q]
      congr 2
      funext j
      rw [hz1]
      by_cases hj : j < n.toNatClampNeg
      · rw [if_pos hj, if_pos hj, a1]
        exact congrArg (fun z => va_rf (some z)) (show xb Z + Y.length + 1 + j = xb Z + (Y.length + 1 + j) by omega)
      · rw [if_neg hj, if_neg hj]
        rfl
    | succ q =>
      rw [List.getElem?_cons_succ] at hx
      by_cases hq : q < n.toNatClampNeg
      · rw [List.getElem?_replicate, if_pos hq] at hx
        cases hx
        show F'.heap[xb Z + (q + 1 + Y.length)]? = some (vp_cell (xA Z .int) (k.toNatClampNeg, .inl (mI M (q + 1 + Y.length))))
        rw [show xb Z + (q + 1 + Y.length) = H.size + 1 + q by omega, hrow q hq, hin, vp_cell_i]
        congr 2
        funext j
        rw [show q + 1 + Y.length = Y.length + 1 + q by omega, hz2 q j hq]
      · rw [List.getElem?_replicate, if_neg hq] at hx
        cases hx
  have hsz : F'.heap.size = xb Z + (Y ++ mulY n.toNatClampNeg k.toNatClampNeg).length := by
    rw [f1, a1]
    simp
    omega
  have hk := kk F'.heap lo ls hsz hp ⟨Nat.le_trans a3.1 (by rw [hsz, a1]; simp), fun q h1 h2 => (hold q (Nat.lt_of_lt_of_le h1 a3.1)).trans (a3.2.1 q h1 h2), a3.2.2⟩ a4
  rw [← ec, ← es] at hk
  obtain ⟨t, b1, b2⟩ := hk F' rfl X'
  refine ⟨t, step t ?_, b2⟩
  rw [show T.heap.size = xb Z + Y.length by rw [hT, a1]]
  exact b1
/-! the law's script -/
theorem g_ldX (C : Cx Z) {a : Nat} (hE : xE Z = some a) (d : decode (xcc Z) pc = .ok (.aload_n 0, 1)) (kk : G Z Y (pc + 1) (.ref a :: st) L M) : G Z Y pc st L M := fun H lo ls a1 a2 a3 a4 => lv_aload_n C.1 C.2.1 d rfl (a4.2.2.2.2 a hE) (kk H lo ls a1 a2 a3 a4)
theorem g_alenX (C : Cx Z) {a n : Nat} {f : Nat → Int32} (hX : va_X a n f (xs Z) (xs Z).heap) (ha : a < (xs Z).heap.size ∧ a < xb Z) (d : decode (xcc Z) pc = .ok (.arraylength, 1)) (kk : G Z Y (pc + 1) (.int (Int32.ofNat n) :: st) L M) : G Z Y pc (.ref a :: st) L M := fun H lo ls a1 a2 a3 a4 => va_slen C.1 C.2.1 hX ha.1 (Nat.not_le.mpr ha.2) a3 d (kk H lo ls a1 a2 a3 a4)
theorem g_aldX (C : Cx Z) {a n : Nat} {f : Nat → Int32} {i : Int32} (hX : va_X a n f (xs Z) (xs Z).heap) (ha : a < (xs Z).heap.size ∧ a < xb Z) (hi : vp_in i n) (d : decode (xcc Z) pc = .ok (.iaload, 1)) (kk : G Z Y (pc + 1) (.int (f i.toNatClampNeg) :: st) L M) : G Z Y pc (.int i :: .ref a :: st) L M := fun H lo ls a1 a2 a3 a4 => va_sld C.1 C.2.1 hX ha.1 (Nat.not_le.mpr ha.2) a3 hi d (kk H lo ls a1 a2 a3 a4)
end NEW
