/-! PART 04: contracts of methods as predicate transformers; calls, returns -/
abbrev PT : Type := List LV → Mem → (LV → Mem → Prop) → Prop
def cat (st : List Value) : Nat := (st.map fun v => v.category).sum
def rmD (d : Nat) : Room := { frames := d, cells := 0, slots := 0, locals := 32 * d }
def QC (ret : Option FieldType) (b : Nat) (D : va_G) (cA : FieldType → ClassId) (Y : List Sh) (Q : LV → Mem → Prop) : Array Value → State → Outcome → State → Prop := match ret with
  | none => va_Qv (fun M' : Mem => Q (vI 0) M') (fun M' t => WdP b D cA Y M' t) (fun q => b ≤ q)
  | some .long => va_Ql (fun (r : Int64) (M' : Mem) => Q (vL r) M') (fun M' t => WdP b D cA Y M' t) (fun q => b ≤ q)
  | some _ => va_Qi (fun (r : Int32) (M' : Mem) => Q (vI r) M') (fun M' t => WdP b D cA Y M' t) (fun q => b ≤ q)
def wsM (y : MethodName) (bytes : ByteArray) (n : Nat) (ret : Option FieldType) : List Cond := .code y bytes n ret :: lw_g
/-- the contract of a method, its meaning T, at depth d of calls -/
def Snd (y : MethodName) (bytes : ByteArray) (n : Nat) (ret : Option FieldType) (d : Nat) (T : List Sh → PT) : Prop :=
  ∀ (l : Launch) (b : Nat) (D : va_G) (cA : FieldType → ClassId) (Y : List Sh) (as : List LV) (M : Mem) (Q : LV → Mem → Prop), T Y as M Q →
    Met l y (wsM y bytes n ret) (rmD d) (va_Pc (as.map (cv b)) (Wd b D cA Y M)) (QC ret b D cA Y Q) 0 0 (fun q => b ≤ q)
theorem goodIn_g {c : Cond} (hc : c ∈ lw_g) : GoodIn lw_g (c :: lw_g) := fun w h => by
  have hm : w ∈ lw_g := by
    rcases List.mem_cons.mp h with h | h
    · rw [h]; exact hc
    · exact h
  exact ⟨hm, good_of_word (List.mem_filter.mp hm).2⟩
theorem blind_Wd {vs : List Value} {b : Nat} {D : va_G} {cA : FieldType → ClassId} {Y : List Sh} {M : Mem} : FrameBlind (va_Pc vs (Wd b D cA Y M)) := fun _ _ _ _ h => ⟨h.1, h.2.calling⟩
/-- a callee as its caller has it at hand -/
def Cal (Z : Px) (y : MethodName) (bytes : ByteArray) (n : Nat) (ret : Option FieldType) (d np : Nat) : Prop :=
  Cond.code y bytes n ret ∈ lw_g ∧ Cond.initialized y.cls ∈ lw_g ∧ (y.cls ≠ "java/lang/invoke/MethodHandle" ∧ y.cls ≠ "java/lang/invoke/VarHandle" ∧ (parseMethodDescriptor y.desc).map (fun d => d.parameters.length) = some np) ∧ d + 1 ≤ xd Z ∧ n ≤ 13
section CALLS
variable {Z : Px} {pc : Nat} {st : List Value} {L : LS0} {M : Mem} {y : MethodName} {bytes : ByteArray} {n d index : Nat} {ret : Option FieldType} {T : List Sh → PT}
theorem cal_B (C : Cx Z) {np : Nat} (K : Cal Z y bytes n ret d np) (hl : Cond.methodLink (xown Z) index y ∈ lw_g) : CallB (xR Z) (xs Z) (xargs Z) (xown Z) index y bytes n ret (wsM y bytes n ret) (rmD d) 0 0 np := by
  obtain ⟨k1, k2, k3, k4, k5⟩ := K
  obtain ⟨-, -, -, c4, -, -, -, c8, c9, -⟩ := C
  exact callB_of np c4 (goodIn_g k1) rfl rfl rfl (c4 _ k2) (c4 _ hl) k3 ⟨Nat.le_trans k4 c8, Nat.le_trans (by show 8 + (n + 11) + 32 * d ≤ 32 * xd Z; omega) c9⟩
theorem cal_N (C : Cx Z) {np : Nat} {host : String} (K : Cal Z y bytes n ret d np) (hl : Cond.methodLinkNest (xown Z) index y host ∈ lw_n) : va_CN (xR Z) (xs Z) (xargs Z) (xown Z) index y host bytes n ret (wsM y bytes n ret) (rmD d) 0 0 np := by
  obtain ⟨k1, k2, k3, k4, k5⟩ := K
  obtain ⟨-, -, -, c4, -, c6, -, c8, c9, -⟩ := C
  exact va_cnB np c4 (goodIn_g k1) rfl rfl rfl (c6.1 _ hl) (c4 _ k2) k3 ⟨Nat.le_trans k4 c8, Nat.le_trans (by show 8 + (n + 11) + 32 * d ≤ 32 * xd Z; omega) c9⟩
theorem pre_Wd (C : Cx Z) {as : List LV} {H : Heap} {lo : List Loc} (a1 : H.size = xb Z + (xY Z).length) (a2 : va_P (xD Z) vwCl (wld (xb Z) (xA Z) (xY Z) M) H) (a3 : va_S (fun q => xb Z ≤ q) (xs Z).heap H lo) : ∀ U : State, U.heap = H → (xs Z).WarmedH U.vm → va_Pc (as.map (cv (xb Z))) (Wd (xb Z) (xD Z) (xA Z) (xY Z) M) (as.map (cv (xb Z))).toArray U := fun U hU hW =>
  ⟨rfl, by rw [hU]; exact a1, by rw [hU]; exact a2, va_K.moved hW.alike C.2.2.2.2.1, ST.warm C.2.2.2.2.2.1 hW a3 hU⟩
/-- the run of a call, by whatever instruction -/
def Runs (Z : Px) (pc : Nat) (M : Mem) (y : MethodName) (ret : Option FieldType) (T : List Sh → PT) (as : List LV) : Prop :=
  ∀ (st : List Value) (L : LS0) (Q : LV → Mem → Prop), cat st ≤ 8 → T (xY Z) as M Q → ∀ (H : Heap) (lo : List Loc) (ls : Array Slot), H.size = xb Z + (xY Z).length → va_P (xD Z) vwCl (wld (xb Z) (xA Z) (xY Z) M) H → va_S (fun q => xb Z ≤ q) (xs Z).heap H lo → LocOK (xb Z) (xnL Z) ls L →
    va_Run (xp Z) (xl Z) (xe Z) (xR Z) (xs Z) (xm Z) (xargs Z) (xbelow Z) (xmeth Z) (xc Z) H lo 0 0 0 0 (F0 (xm Z) pc ls ((as.map (cv (xb Z))).reverse ++ st)) st (QC ret (xb Z) (xD Z) (xA Z) (xY Z) Q (as.map (cv (xb Z))).toArray) (fun q => xb Z ≤ q)
theorem runs_S (C : Cx Z) (S : Snd y bytes n ret d T) {as : List LV} (K : Cal Z y bytes n ret d as.length) (hl : Cond.methodLink (xown Z) index y ∈ lw_g) (hs : Cond.static y ∈ lw_g) (dg : decode (xcc Z) pc = .ok (.invokestatic index, 3)) : Runs Z pc M y ret T as := fun st L Q hc ht H lo ls a1 a2 a3 a4 =>
  va_runS ⟨C.1, C.2.1, C.2.2.2.2.2.2.1, C.2.2.1, C.2.2.2.1⟩ (S (xl Z) (xb Z) (xD Z) (xA Z) (xY Z) as M Q ht) ⟨cal_B C K hl, C.2.2.2.1 _ hs⟩ ⟨blind_Wd, pre_Wd C a1 a2 a3⟩ rfl (by simp) a4.1 rfl (lv_room (m := xm Z) (pc := pc) (ls := ls) (rest := []) hc) dg ⟨Nat.zero_le _, Nat.zero_le _⟩
theorem runs_SN (C : Cx Z) (S : Snd y bytes n ret d T) {as : List LV} {host : String} (K : Cal Z y bytes n ret d as.length) (hl : Cond.methodLinkNest (xown Z) index y host ∈ lw_n) (hs : Cond.static y ∈ lw_g) (dg : decode (xcc Z) pc = .ok (.invokestatic index, 3)) : Runs Z pc M y ret T as := fun st L Q hc ht H lo ls a1 a2 a3 a4 =>
  va_runSN ⟨C.1, C.2.1, C.2.2.2.2.2.2.1, C.2.2.1, C.2.2.2.1⟩ (S (xl Z) (xb Z) (xD Z) (xA Z) (xY Z) as M Q ht) ⟨cal_N C K hl, C.2.2.2.1 _ hs, trivial⟩ ⟨blind_Wd, pre_Wd C a1 a2 a3⟩ rfl (by simp) a4.1 rfl (lv_room (m := xm Z) (pc := pc) (ls := ls) (rest := []) hc) dg ⟨Nat.zero_le _, Nat.zero_le _⟩
theorem runs_V (C : Cx Z) (S : Snd y bytes n ret d T) {as : List LV} {k ci N : Nat} {TT : u_T} (K : Cal Z y bytes n ret d as.length) (hci : clOK ci y.cls TT N) (hY : (xY Z)[k]? = some (.inl ci)) (hl : Cond.methodLink (xown Z) index y ∈ lw_g) (hi : Cond.instanceMethod y ∈ lw_g) (hs : Cond.selects y.cls y y ∈ lw_g) (dg : decode (xcc Z) pc = .ok (.invokevirtual index, 3)) : Runs Z pc M y ret T (vR k :: as) := fun st L Q hc ht H lo ls a1 a2 a3 a4 => by
  have h := va_runV (rest := st) (As := as.map (cv (xb Z))) (b := xb Z + k) (g := F0 (xm Z) pc ls (((vR k :: as).map (cv (xb Z))).reverse ++ st)) ⟨C.1, C.2.1, C.2.2.2.2.2.2.1, C.2.2.1, C.2.2.2.1⟩ (S (xl Z) (xb Z) (xD Z) (xA Z) (xY Z) (vR k :: as) M Q ht) ⟨cal_B C K hl, C.2.2.2.1 _ hi, C.2.2.2.1 _ hs⟩ ⟨blind_Wd, va_recv C.2.2.2.2.1 a2 hci.1 (wld_get hY), pre_Wd C (as := vR k :: as) a1 a2 a3⟩ (cells := 0) (slots := 0) (below := xbelow Z) (meth := xmeth Z) (e := xe Z) (locs := lo) rfl (by simp) a4.1 (by simp [cv]) (lv_room (m := xm Z) (pc := pc) (ls := ls) (rest := []) hc) dg ⟨Nat.zero_le _, Nat.zero_le _⟩
  exact h
theorem g_calli (C : Cx Z) {ty : FieldType} (hty : isIty ty = true) {as : List LV} {Q : LV → Mem → Prop} (hr : Runs Z pc M y (some ty) T as) (hc : cat st ≤ 8) (ht : T (xY Z) as M Q) (kk : ∀ (x : Int32) (M' : Mem), Q (vI x) M' → G Z (pc + 3) (.int x :: st) L M') : G Z pc ((as.map (cv (xb Z))).reverse ++ st) L M := fun H lo ls a1 a2 a3 a4 => by
  have h := hr st L Q hc ht H lo ls a1 a2 a3 a4
  have e : QC (some ty) (xb Z) (xD Z) (xA Z) (xY Z) Q = va_Qi (fun (r : Int32) (M' : Mem) => Q (vI r) M') (fun M' t => WdP (xb Z) (xD Z) (xA Z) (xY Z) M' t) (fun q => xb Z ≤ q) := by
    cases ty <;> first | rfl | (simp [isIty] at hty)
  rw [e] at h
  refine va_calli h a3 (fun _ _ q => q) (fun _ q => q) (fun r u t H1 lo1 ht1 hvm hw hB hz1 hk1 hS => ?_)
  have h1 := hB.1
  have h2 := hB.2
  rw [ht1] at h1 h2
  exact kk r u hw H1 lo1 ls h1 h2 hS a4
theorem g_calll (C : Cx Z) {as : List LV} {Q : LV → Mem → Prop} (hr : Runs Z pc M y (some .long) T as) (hc : cat st ≤ 8) (ht : T (xY Z) as M Q) (kk : ∀ (x : Int64) (M' : Mem), Q (vL x) M' → G Z (pc + 3) (.long x :: st) L M') : G Z pc ((as.map (cv (xb Z))).reverse ++ st) L M := fun H lo ls a1 a2 a3 a4 => by
  have h := hr st L Q hc ht H lo ls a1 a2 a3 a4
  refine va_calll (a := (as.map (cv (xb Z))).toArray) h a3 (fun _ _ q => q) (fun _ q => q) (fun r u t H1 lo1 ht1 hvm hw hB hz1 hk1 hS => ?_)
  have h1 := hB.1
  have h2 := hB.2
  rw [ht1] at h1 h2
  exact kk r u hw H1 lo1 ls h1 h2 hS a4
theorem g_callv (C : Cx Z) {as : List LV} {Q : LV → Mem → Prop} (hr : Runs Z pc M y none T as) (hc : cat st ≤ 8) (ht : T (xY Z) as M Q) (kk : ∀ (M' : Mem), Q (vI 0) M' → G Z (pc + 3) st L M') : G Z pc ((as.map (cv (xb Z))).reverse ++ st) L M := fun H lo ls a1 a2 a3 a4 => by
  have h := hr st L Q hc ht H lo ls a1 a2 a3 a4
  refine va_callv (a := (as.map (cv (xb Z))).toArray) h a3 (fun _ _ q => q) (fun _ q => q) (fun u t H1 lo1 ht1 hvm hw hB hz1 hk1 hS => ?_)
  have h1 := hB.1
  have h2 := hB.2
  rw [ht1] at h1 h2
  exact kk u hw H1 lo1 ls h1 h2 hS a4
end CALLS
/-! a method's entry and its ends -/
def argW (as : List LV) : Nat := (as.map fun v => if isLg (some (some v)) then 2 else 1).sum
def argL (as : List LV) : LS0 := as.flatMap fun v => if isLg (some (some v)) then [some v, none] else [some v]
def entL (nL : Nat) (as : List LV) : LS0 := argL as ++ List.replicate (nL - argW as) none
theorem argL_len (as : List LV) : (argL as).length = argW as := by
  induction as with
  | nil => rfl
  | cons v l ih =>
    unfold argL argW at *
    rw [List.flatMap_cons, List.length_append, ih, List.map_cons, List.sum_cons]
    by_cases h : isLg (some (some v)) = true <;> simp [h]
theorem argL_sl (b : Nat) (as : List LV) : lg_sl (as.map (cv b)) = (argL as).map (fun o => match o with
  | some v => Slot.val (cv b v)
  | none => Slot.second) := by
  induction as with
  | nil => rfl
  | cons v l ih =>
    unfold argL lg_sl at *
    rw [List.map_cons, List.flatMap_cons, ih, List.flatMap_cons, List.map_append]
    rcases v with x | x | k
    · rfl
    · rfl
    · rfl
theorem loc_entry (b nL : Nat) (as : List LV) (h : argW as ≤ nL) : LocOK b nL ((lg_sl (as.map (cv b)) ++ List.replicate (nL - (lg_sl (as.map (cv b))).length) Slot.unset).toArray) (entL nL as) := by
  have hl : (lg_sl (as.map (cv b))).length = argW as := by rw [argL_sl, List.length_map, argL_len]
  have h0 := lv_entry (as.map (cv b)) (n := nL) (by rw [hl]; exact h)
  refine ⟨h0.1, h0.2.1, by unfold entL; rw [List.length_append, argL_len, List.length_replicate]; omega, fun i v hi => ?_⟩
  unfold entL at hi
  by_cases hk : i < argW as
  · rw [List.getElem?_append_left (by rw [argL_len]; exact hk)] at hi
    rw [List.getElem?_toArray, List.getElem?_append_left (by rw [hl]; exact hk), argL_sl, List.getElem?_map, hi]
    rfl
  · rw [List.getElem?_append_right (by rw [argL_len]; omega)] at hi
    have h2 := List.eq_of_mem_replicate (List.mem_of_getElem? hi)
    cases h2
/-- what a method's body may use at a return -/
def Rets (Z : Px) (ret : Option FieldType) (R : LV → Mem → Prop) : Prop :=
  (ret = none → ∀ (pc : Nat) (L : LS0) (M : Mem), decode (xcc Z) pc = .ok (.return_, 1) → R (vI 0) M → G Z pc [] L M) ∧
  (ret = some .long → ∀ (pc : Nat) (L : LS0) (M : Mem) (x : Int64), decode (xcc Z) pc = .ok (.lreturn, 1) → R (vL x) M → G Z pc [.long x] L M) ∧
  (∀ ty, ret = some ty → isIty ty = true → ∀ (pc : Nat) (L : LS0) (M : Mem) (x : Int32), decode (xcc Z) pc = .ok (.ireturn, 1) → narrow ty (.int x) = .int x → R (vI x) M → G Z pc [.int x] L M)
abbrev Px0 : Type := Program × Launch × Env × Room × State × MethodId × Array Value × List Frame × Method × Code × (State → Prop)
theorem Snd.of {y : MethodName} {bytes : ByteArray} {n d : Nat} {ret : Option FieldType} {T : List Sh → PT} (own : String) (ho : y.cls = own) (hy : plainName y.cls = true)
    (body : ∀ (P : Px0) (b : Nat) (D : va_G) (cA : FieldType → ClassId) (Y : List Sh), Cx (P, (bytes, own, n, d, b, D, cA, Y)) → ∀ (as : List LV) (M : Mem) (R : LV → Mem → Prop), Rets (P, (bytes, own, n, d, b, D, cA, Y)) ret R → T Y as M R → argW as ≤ n ∧ G (P, (bytes, own, n, d, b, D, cA, Y)) 0 [] (entL n as) M) : Snd y bytes n ret d T := by
  subst ho
  intro l b D cA Y as M Q hT
  refine Met.ofW (cc := bytes) (maxL := n) (ret := ret) hy rfl ?_
  intro p e s m args below meth c s₁ B hml hv
  obtain ⟨rfl, hsz, hP, hK, hST⟩ := hv
  have hts : ∀ w ∈ wsM y bytes n ret, w.before ((as.map (cv b)).toArray) s = true := atoms_spec (ws := wsM y bytes n ret) B.pre
  have hlocks : meth.locks = false := B.notSynchronized
  have hr : meth.sig.returnType = ret := B.returns
  have hx : p.tables.exec = Jvm.exec := B.exec
  have hb : c.code = bytes := B.bytes
  let Z : Px := ((p, l, e, rmD d, s, m, (as.map (cv b)).toArray, below, meth, c, MQ below (QC ret b D cA Y Q) ((as.map (cv b)).toArray) s 0 0 (fun q => b ≤ q)), (bytes, y.cls, n, d, b, D, cA, Y))
  have hC : Cx Z := ⟨hx, hb, findClass_of_methodNamed B.named, fun w hw => hts w (List.mem_cons_of_mem _ hw), hK, hST, hml, Nat.le_refl _, Nat.le_refl _, by show b ≤ s.heap.size; omega⟩
  have hR : Rets Z ret Q := by
    refine ⟨fun h0 pc L M' hd hQ H lo ls a1 a2 a3 a4 => ?_, fun h0 pc L M' x hd hQ H lo ls a1 a2 a3 a4 => ?_, fun ty h0 hty pc L M' x hd hn hQ H lo ls a1 a2 a3 a4 => ?_⟩
    · subst h0
      exact W.vret hx hb hr (fun t ht hW => ⟨⟨M', rfl, hQ, by rw [ht]; exact a1, by rw [ht]; exact a2⟩, a3.F ht⟩) a3.2.2 hd hlocks
    · subst h0
      exact W.lret hx hb hr (fun t ht hW => ⟨⟨x, M', rfl, hQ, by rw [ht]; exact a1, by rw [ht]; exact a2⟩, a3.F ht⟩) a3.2.2 hd hlocks
    · subst h0
      have eQ : QC (some ty) b D cA Y Q = va_Qi (fun (r : Int32) (M' : Mem) => Q (vI r) M') (fun M' t => WdP b D cA Y M' t) (fun q => b ≤ q) := by
        cases ty <;> first | rfl | (simp [isIty] at hty)
      show W p l e (rmD d) s m _ below meth c H lo 0 0 (MQ below (QC (some ty) b D cA Y Q) _ s 0 0 (fun q => b ≤ q)) _
      rw [eQ]
      exact W.zret hx hb hr hn (fun t ht hW => ⟨⟨x, M', rfl, hQ, by rw [ht]; exact a1, by rw [ht]; exact a2⟩, a3.F ht⟩) a3.2.2 hd hlocks
  obtain ⟨hw, hG⟩ := body Z.1 b D cA Y hC as M Q hR hT
  rw [lg_entry_eq]
  exact hG s.heap [] _ hsz hP va_S.rf (loc_entry b n as hw)
