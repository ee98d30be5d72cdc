/-! PART 95: the claim -/
/-! THE CLAIM OUT OF ONE WALK OF THE LAW'S BODY. Your part is whole_start (and what it stands on); all else here is the same for every law, but numbers. -/
def R_law : String := "GhostQuarterLaw"
def lw_P (b : Addr) (xs : List Int32) (args : Array Value) (s : State) : Prop := args = #[.ref b] ∧ s.IntsAt b xs ∧ xs.length ≤ 3072 ∧ (Jvm.Cond.and given_1 narrow_1).before args s = true
def lw_Q (_ : Array Value) (s : State) (o : Outcome) (t : State) : Prop := o = .returned (some (.int 1)) ∧ Framed s o t [] 600000 7302250
def lw_Z (below : List Frame) (a : Array Value) (s : State) : State → Prop := fun t => ∃ o, t.status = .running ∧ Ended t below o ∧ lw_Q a s o t
/-- the law's own end, with 1 on the stack, nothing written that was there before, its room as the claim has it -/
theorem lw_ret {p : Program} {l : Launch} {e : Env} {s : State} {m : MethodId} {below : List Frame} {meth : Method} {c : Code} {b : Nat} (hx : p.tables.exec = Jvm.exec) (hb : c.code = code) (hr : meth.sig.returnType = ret) (hlocks : meth.locks = false) {pc : Nat} {H : Heap} {ls : Array Slot} (hdg : decode code pc = .ok (.ireturn, 1)) : W p l e room_1 s m #[Value.ref b] below meth c H [] 600000 7302250 (lw_Z below #[Value.ref b] s) (F0 m pc ls [.int 1]) := by
  intro T hT X
  obtain ⟨fs, hret, hrun, hended, hW, hframe⟩ := X.leave (v := some (.int 1)) (hlocks := hlocks) (fun h => by rw [hr] at h; cases h)
  have hmeth' : T.vm.method? m = some meth := X.method'
  refine ⟨T.setFrames fs, ?_, .returned (some (.int 1)), hrun, hended, rfl, ⟨_, rfl⟩, hW, hframe⟩
  jvm_step X.here [X.here.top, hx, hb, hdg, hmeth', hr, ret, narrow_b1]
  (try refine ⟨rfl, ?_⟩); (try refine ⟨rfl, ?_⟩)
  first | (intro acts; rw [hret _ acts rfl rfl rfl]) | rw [hret _ _ rfl rfl rfl]
  exact Steps.refl _
/-- what holds at the law's entry: the machine, the code, the tables' words (any of lw_tbl by 'hts w (by decide +kernel)'), the script of L ints xs at the cell b, what the Statement gives of the start (any of its parts by flat_of_before) -/
def lw_At (p : Program) (s : State) (m : MethodId) (meth : Method) (c : Code) (b L : Nat) (xs : Nat → Int32) : Prop :=
  p.tables.exec = Jvm.exec ∧ c.code = code ∧ meth.sig.returnType = ret ∧ c.maxLocals = 4 ∧ s.vm.findClass R_law = some m.cls ∧ (∀ w ∈ lw_tbl, w.before #[Value.ref b] s = true) ∧ va_X b L xs s s.heap ∧ b < s.heap.size ∧ meth.locks = false ∧ (Jvm.Cond.and given_1 narrow_1).before #[Value.ref b] s = true
theorem ins_0 : (Cond.instantiable RX0 11) ∈ lw_tbl := lw_ch_mem (k := 2) (j := 85) (by decide +kernel)
theorem ins_1 : (Cond.instantiable RX1 4) ∈ lw_tbl := lw_ch_mem (k := 1) (j := 89) (by decide +kernel)
theorem ins_2 : (Cond.instantiable RX2 9) ∈ lw_tbl := lw_ch_mem (k := 1) (j := 108) (by decide +kernel)
theorem ins_3 : (Cond.instantiable RX3 6) ∈ lw_tbl := lw_ch_mem (k := 1) (j := 200) (by decide +kernel)
theorem ins_4 : (Cond.instantiable RX4 7) ∈ lw_tbl := lw_ch_mem (k := 2) (j := 7) (by decide +kernel)
theorem ins_5 : (Cond.instantiable RX6 4) ∈ lw_tbl := lw_ch_mem (k := 1) (j := 228) (by decide +kernel)
theorem ins_6 : (Cond.instantiable RX7 2) ∈ lw_tbl := lw_ch_mem (k := 1) (j := 25) (by decide +kernel)
theorem ins_7 : (Cond.instantiable RX8 8) ∈ lw_tbl := lw_ch_mem (k := 1) (j := 114) (by decide +kernel)
theorem ins_8 : (Cond.instantiable RX9 5) ∈ lw_tbl := lw_ch_mem (k := 2) (j := 37) (by decide +kernel)
theorem ins_9 : (Cond.instantiable RX10 13) ∈ lw_tbl := lw_ch_mem (k := 1) (j := 40) (by decide +kernel)
theorem ins_10 : (Cond.instantiable RX11 16) ∈ lw_tbl := lw_ch_mem (k := 1) (j := 17) (by decide +kernel)
theorem ins_11 : (Cond.instantiable RX12 62) ∈ lw_tbl := lw_ch_mem (k := 5) (j := 77) (by decide +kernel)
theorem arr_int : (Cond.arrayClass FieldType.int) ∈ lw_tbl := lw_ch_mem (k := 1) (j := 38) (by decide +kernel)
theorem arr_byte : (Cond.arrayClass FieldType.byte) ∈ lw_tbl := lw_ch_mem (k := 6) (j := 30) (by decide +kernel)
theorem arr_boolean : (Cond.arrayClass FieldType.boolean) ∈ lw_tbl := lw_ch_mem (k := 6) (j := 31) (by decide +kernel)
theorem arr_long : (Cond.arrayClass FieldType.long) ∈ lw_tbl := lw_ch_mem (k := 2) (j := 83) (by decide +kernel)
theorem arr_over : (Cond.arrayOver (FieldType.array FieldType.int)) ∈ lw_tbl := lw_ch_mem (k := 1) (j := 46) (by decide +kernel)
theorem lay_X : (Cond.laysStatic "GhostQuarter" "STEP_X" "[I") ∈ lw_tbl := lw_ch_mem (k := 2) (j := 55) (by decide +kernel)
theorem lay_Y : (Cond.laysStatic "GhostQuarter" "STEP_Y" "[I") ∈ lw_tbl := lw_ch_mem (k := 2) (j := 57) (by decide +kernel)
theorem ini_GQ : (Cond.initialized "GhostQuarter") ∈ lw_tbl := lw_ch_mem (k := 1) (j := 1) (by decide +kernel)
section TOP
variable {args : Array Value} {s : State}
theorem kn_cls (hts : ∀ w ∈ lw_tbl, w.before args s = true) (ci : Nat) : ∃ p : ClassId × (Nat → Nat), ∀ q, vwCl[ci]? = some q → u_Kn s q.1 q.2.1 q.2.2 p.1 p.2 := by
  match ci with
  | 0 => obtain ⟨cC, iS, h⟩ := u_known (C := RX0) (T := TX0) (N := 11) hts iX0 (hts _ ins_0); exact ⟨(cC, iS), fun q hq => by cases hq; exact h⟩
  | 1 => obtain ⟨cC, iS, h⟩ := u_known (C := RX1) (T := TX1) (N := 4) hts iX1 (hts _ ins_1); exact ⟨(cC, iS), fun q hq => by cases hq; exact h⟩
  | 2 => obtain ⟨cC, iS, h⟩ := u_known (C := RX2) (T := TX2) (N := 9) hts iX2 (hts _ ins_2); exact ⟨(cC, iS), fun q hq => by cases hq; exact h⟩
  | 3 => obtain ⟨cC, iS, h⟩ := u_known (C := RX3) (T := TX3) (N := 6) hts iX3 (hts _ ins_3); exact ⟨(cC, iS), fun q hq => by cases hq; exact h⟩
  | 4 => obtain ⟨cC, iS, h⟩ := u_known (C := RX4) (T := TX4) (N := 7) hts iX4 (hts _ ins_4); exact ⟨(cC, iS), fun q hq => by cases hq; exact h⟩
  | 5 => obtain ⟨cC, iS, h⟩ := u_known (C := RX6) (T := TX6) (N := 4) hts iX6 (hts _ ins_5); exact ⟨(cC, iS), fun q hq => by cases hq; exact h⟩
  | 6 => obtain ⟨cC, iS, h⟩ := u_known (C := RX7) (T := TX7) (N := 2) hts iX7 (hts _ ins_6); exact ⟨(cC, iS), fun q hq => by cases hq; exact h⟩
  | 7 => obtain ⟨cC, iS, h⟩ := u_known (C := RX8) (T := TX8) (N := 8) hts iX8 (hts _ ins_7); exact ⟨(cC, iS), fun q hq => by cases hq; exact h⟩
  | 8 => obtain ⟨cC, iS, h⟩ := u_known (C := RX9) (T := TX9) (N := 5) hts iX9 (hts _ ins_8); exact ⟨(cC, iS), fun q hq => by cases hq; exact h⟩
  | 9 => obtain ⟨cC, iS, h⟩ := u_known (C := RX10) (T := TX10) (N := 13) hts iX10 (hts _ ins_9); exact ⟨(cC, iS), fun q hq => by cases hq; exact h⟩
  | 10 => obtain ⟨cC, iS, h⟩ := u_known (C := RX11) (T := TX11) (N := 16) hts iX11 (hts _ ins_10); exact ⟨(cC, iS), fun q hq => by cases hq; exact h⟩
  | 11 => obtain ⟨cC, iS, h⟩ := u_known (C := RX12) (T := TX12) (N := 62) hts iX12 (hts _ ins_11); exact ⟨(cC, iS), fun q hq => by cases hq; exact h⟩
  | n + 12 => exact ⟨(0, fun _ => 0), fun q hq => by cases hq⟩
theorem kn_arr (hts : ∀ w ∈ lw_tbl, w.before args s = true) {ty : FieldType} (hw : Cond.arrayClass ty ∈ lw_tbl) (hp : ∀ C, ty ≠ .object C) : ∃ c : ClassId, ArrOfT s c ty ∧ va_RA s c ty := by
  obtain ⟨cA, kA, comp, h1, h2, h3⟩ := Cond.arrayClass_spec (hts _ hw)
  refine ⟨cA, fun n z => ⟨fun k h => (by cases h), kA, h2, comp, h3⟩, ?_⟩
  cases ty <;> first | exact h1 | exact absurd rfl (hp _)
theorem kn_over (hts : ∀ w ∈ lw_tbl, w.before args s = true) : ∃ c : ClassId, ArrOfT s c (.array .int) ∧ va_RA s c (.array .int) := by
  obtain ⟨comp, c, k, h1, h2, h3, h4, h5⟩ := arrayOverA_spec (hts _ arr_over)
  exact ⟨c, fun n z => ⟨fun k h => (by cases h), k, h3, comp, h4⟩, h5⟩
theorem kn_all (hts : ∀ w ∈ lw_tbl, w.before args s = true) : ∃ (D : va_G) (cA : FieldType → ClassId), va_K D vwCl (wtys cA) s := by
  obtain ⟨c0, a0⟩ := kn_arr hts arr_int (fun _ h => by cases h)
  obtain ⟨c1, a1⟩ := kn_arr hts arr_long (fun _ h => by cases h)
  obtain ⟨c2, a2⟩ := kn_arr hts arr_byte (fun _ h => by cases h)
  obtain ⟨c3, a3⟩ := kn_arr hts arr_boolean (fun _ h => by cases h)
  obtain ⟨c4, a4⟩ := kn_over hts
  refine ⟨(fun ci => (Classical.choose (kn_cls hts ci)).1, fun ci => (Classical.choose (kn_cls hts ci)).2), fun ty => match ty with
    | .int => c0
    | .long => c1
    | .byte => c2
    | .boolean => c3
    | _ => c4, fun ci q hq => Classical.choose_spec (kn_cls hts ci) q hq, fun k q hq => ?_⟩
  match k, hq with
  | 0, hq => cases hq; exact a0
  | 1, hq => cases hq; exact a1
  | 2, hq => cases hq; exact a2
  | 3, hq => cases hq; exact a3
  | 4, hq => cases hq; exact a4
  | k + 5, hq => cases hq
theorem kn_stX (hts : ∀ w ∈ lw_tbl, w.before args s = true) (hg : (Jvm.Cond.and given_1 narrow_1).before args s = true) : ∃ t : Nat, va_Z "GhostQuarter" "STEP_X" "[I" (.ref t) (fun q => s.heap.size ≤ q) s s.heap ∧ va_T .int t 5 stX (fun q => s.heap.size ≤ q) s s.heap := by
  have hs := flat_of_before _ hg
  obtain ⟨t, h1, h2⟩ := va_Tof (tm := .static "GhostQuarter" "STEP_X" "[I") (ty := .int) (N := 5) (f := stX) (A := fun q => s.heap.size ≤ q) (by decide) (hs _ (by decide +kernel)) (va_eqt (hs _ (by decide +kernel))) (fun j hj => by
    obtain rfl | rfl | rfl | rfl | rfl : j = 0 ∨ j = 1 ∨ j = 2 ∨ j = 3 ∨ j = 4 := by omega
    all_goals exact va_eqt (hs _ (by decide +kernel))) (fun a h => Nat.not_le.mpr h)
  exact ⟨t, va_Zref (hts _ lay_X) (hts _ ini_GQ) h1 (fun a h => Nat.not_le.mpr h), h2⟩
theorem kn_stY (hts : ∀ w ∈ lw_tbl, w.before args s = true) (hg : (Jvm.Cond.and given_1 narrow_1).before args s = true) : ∃ t : Nat, va_Z "GhostQuarter" "STEP_Y" "[I" (.ref t) (fun q => s.heap.size ≤ q) s s.heap ∧ va_T .int t 5 stY (fun q => s.heap.size ≤ q) s s.heap := by
  have hs := flat_of_before _ hg
  obtain ⟨t, h1, h2⟩ := va_Tof (tm := .static "GhostQuarter" "STEP_Y" "[I") (ty := .int) (N := 5) (f := stY) (A := fun q => s.heap.size ≤ q) (by decide) (hs _ (by decide +kernel)) (va_eqt (hs _ (by decide +kernel))) (fun j hj => by
    obtain rfl | rfl | rfl | rfl | rfl : j = 0 ∨ j = 1 ∨ j = 2 ∨ j = 3 ∨ j = 4 := by omega
    all_goals exact va_eqt (hs _ (by decide +kernel))) (fun a h => Nat.not_le.mpr h)
  exact ⟨t, va_Zref (hts _ lay_Y) (hts _ ini_GQ) h1 (fun a h => Nat.not_le.mpr h), h2⟩
theorem kn_ST (hts : ∀ w ∈ lw_tbl, w.before args s = true) (hg : (Jvm.Cond.and given_1 narrow_1).before args s = true) : ST s.heap.size s :=
  ⟨fun w hw => va_tabs (lw_n_tab hw) rfl (hts w (List.mem_filter.mp hw).1), kn_stX hts hg, kn_stY hts hg, hts _ arr_over⟩
end TOP
theorem whole_start {p : Program} {e : Env} {s : State} {m : MethodId} {below : List Frame} {meth : Method} {c : Code} (l : Launch) (hflags : l.flags = flags0) (hnm : meth.name = x.name) {b L : Nat} {xs : Nat → Int32} (hL : L ≤ 3072) (C0 : lw_At p s m meth c b L xs) : W p l e room_1 s m #[Value.ref b] below meth c s.heap [] 0 0 (lw_Z below #[Value.ref b] s) (entryFrame m ([Value.ref b] : List Value).toArray 4) := by
  obtain ⟨hx, hb, hr, hml, hown, hts, hX, hbl, hlocks, hgv⟩ := id C0
  obtain ⟨D, cA, hK⟩ := kn_all hts
  have hST := kn_ST hts hgv
  obtain ⟨sc, hsc⟩ : ∃ sc : List Int, sc = (List.range L).map (fun j => (xs j).toInt) := ⟨_, rfl⟩
  have hlen : sc.length = L := by rw [hsc, List.length_map, List.length_range]
  have hin : ∀ z ∈ sc, in32 z := fun z hz => by
    rw [hsc] at hz
    obtain ⟨j, -, rfl⟩ := List.mem_map.mp hz
    exact in_t32 _
  have hX2 : va_X b sc.length (fun j => i32 (sc.getD j 0)) s s.heap := by
    obtain ⟨scr, h1, h2, h3, h4, h5⟩ := hX
    refine ⟨scr, h1, h2, h3, by rw [hlen]; exact h4, fun j hj => ?_⟩
    rw [hlen] at hj
    rw [h5 j hj, hsc]
    dsimp only
    rw [List.getD_eq_getElem?_getD, List.getElem?_map, List.getElem?_range hj]
    show some (Value.int (xs j)) = some (Value.int (i32 (xs j).toInt))
    rw [i32_t]
  obtain ⟨n, r, Y1, M1, hex, rfl, rfl⟩ := law_here hin (by omega : sc.length ≤ 3072)
  let Z : Px := ((p, l, e, room_1, s, m, #[Value.ref b], below, meth, c, lw_Z below #[Value.ref b] s), (code, R_law0, 4, 60, s.heap.size, D, cA, 0, 0, some b, meth.name))
  have hC : Cx Z := ⟨hx, hb, hown, fun w hw => hts w (List.mem_filter.mp hw).1, hK, hST, hml, by show 60 ≤ 2048; decide, by show 32 * 60 ≤ 84000; decide, Nat.le_refl _, rfl⟩
  have hB : Bd sc rc_L_law 60 Z := ⟨hC, rfl, rfl, rfl, rfl, hnm, Or.inr ⟨rfl, b, rfl⟩, fun a h => by cases h; exact ⟨hX2, hbl, hbl⟩⟩
  have hFit : Fit Z (([] : YY).map shm) (YF.map shm) := ⟨Nat.le_refl _, Nat.zero_le _, Nat.le_refl _, Nat.zero_le _, by show (YF.map shm).length - 0 ≤ 600000; exact Nat.le_of_ble_eq_true (by decide +kernel), by show szs (YF.map shm) - 0 ≤ 7302250; exact Nat.le_of_ble_eq_true (by decide +kernel)⟩
  have hRet : Rets Z (rRet rc_L_law) (cV (vi 1)) (YF.map shm) (cM M1) := by
    refine ⟨fun h => (by cases h), fun h => (by cases h), fun ty hty hit pc L' x hd hn hv H lo ls a1 a2 a3 a4 => ?_⟩
    have hx1 : x = 1 := (Sum.inl.inj hv).trans (by decide)
    subst hx1
    refine va_forget (fun q hq => a3.2.2 q hq) ?_
    refine W.widen (k := 600000) (n := 7302250) hFit.2.2.2.2.1 hFit.2.2.2.2.2 ?_
    exact lw_ret hx hb hr hlocks hd
  have hG := exec_G RTL_okC RTL_okH (by exact ⟨hin, ⟨by omega, by omega⟩⟩ : (∀ z ∈ sc, in32 z) ∧ in32 (sc.length : Int)) n 60 m_L_law 0 [] _ [] _ _ YF M1 hex ⟨inv_0 _, fun _ q => (by cases q), fun i v h => by
    have := List.mem_of_getElem? h
    simp at this⟩ rc_L_law Z [] rfl (by decide) hB trivial hFit hRet
  rw [lg_entry_eq]
  have he := lv_entry ([.ref b]) (n := 4) (Nat.le_of_ble_eq_true rfl)
  refine hG s.heap [] _ (Nat.add_zero _).symm (fun k q h => by cases h) va_S.rf ⟨he.1, he.2.1, rfl, fun i v h => ?_, fun a h => ?_⟩
  · have := List.mem_of_getElem? h
    simp [cL] at this
  · cases h
    exact he.2.2 (0, .ref b) List.mem_cons_self
-- ===== YOUR PART ENDS =====
set_option maxHeartbeats 4000000 in
theorem lw_walk (l : Launch) (hflags : l.flags = flags0) (b : Addr) (xs : List Int32) : MetFree l x (headSpec (Jvm.Cond.code x code maxLocals ret :: tables_1) room_1) (lw_P b xs) (fun _ _ _ _ _ => True) lw_Q := by
  refine MetFree.of_bodyS (code := code) (maxLocals := maxLocals) (ret := ret) (by decide) ?_ ?_
  · intro args s m h hn
    obtain ⟨meth, c, h1, h2, h3, h4, h5, h6, -, -⟩ := Cond.code_spec hn (atoms_spec (ws := Jvm.Cond.code x code maxLocals ret :: tables_1) h _ List.mem_cons_self)
    exact ⟨meth, c, h1, h2, h3, h4, h5, h6⟩
  · intro p e s m args below meth c s₁ B hml0 hP _
    obtain ⟨rfl, hx, hbd, hgv⟩ := hP
    obtain ⟨scr, harrAt, hlist, hof, hsmall⟩ := hx
    obtain ⟨hcb, hkn, -, -⟩ := State.arrayAt?_spec harrAt
    have hown : s.vm.findClass R_law = some m.cls := findClass_of_methodNamed B.named
    have hts0 : ∀ c ∈ (Jvm.Cond.code x code maxLocals ret :: tables_1), c.before #[Value.ref b] s = true := atoms_spec (ws := Jvm.Cond.code x code maxLocals ret :: tables_1) B.pre
    have hts : ∀ w ∈ lw_tbl, w.before #[Value.ref b] s = true := k2_hts_sels lw_privs (fun w hw => hts0 w (List.mem_cons_of_mem _ hw)) lw_privs_ok
    have hml : c.maxLocals = 4 := B.maxLocals_eq (hts0 _ List.mem_cons_self)
    have X₀ : Stand p l e room_1 s m #[Value.ref b] below meth c s₁ [] 0 0 := Stand.of_body B
    have hh0 : s₁.heap = s.heap := by rw [B.state]; rfl
    have hsz : scr.slots.size = xs.length := by rw [← Array.length_toList, hlist, List.length_map]
    have hval : ∀ j : Nat, j < xs.length → scr.slots[j]? = some (.int (xs.getD j 0)) := fun j hj => by
      rw [← Array.getElem?_toList, hlist]
      simp [hj]
    have hbl : b < s.heap.size := (Array.getElem?_eq_some_iff.mp hcb).1
    have hX : va_X b xs.length (fun j => xs.getD j 0) s s.heap := ⟨scr, hcb, hof, hkn, hsz, hval⟩
    have K : W p l e room_1 s m #[Value.ref b] below meth c s₁.heap [] 0 0 (lw_Z below #[Value.ref b] s) (entryFrame m ([Value.ref b] : List Value).toArray 4) := by
      rw [hh0]
      exact whole_start l hflags (name_of_methodNamed B.named B.method).1 hbd ⟨B.exec, B.bytes, B.returns, hml, hown, hts, hX, hbl, B.notSynchronized, hgv⟩
    obtain ⟨t, a1, o, b1, b2, b3⟩ := K s₁ rfl X₀
    exact ⟨t, o, a1, b1, b2, b3⟩
theorem lw_pre_spec {args : Array Value} {s : State} (h : (Jvm.Cond.and given_1 narrow_1).before args s = true) (hr : rest_1_c.before args s = true) : ∃ (b : Addr) (xs : List Int32), lw_P b xs args s := by
  have hs := flat_of_before _ h
  have hq := flat_of_before _ hr
  have hc : (Cond.count 1).before args s = true := hs _ (by decide +kernel)
  have harr : (Cond.arrayOf (.arg 0) .int).before args s = true := hs _ (by decide +kernel)
  have hle : (Cond.le (.length (.arg 0)) (.int 3072)).before args s = true := hs _ (by decide +kernel)
  have hlen : (Cond.isInt (.length (.arg 0))).before args s = true := hq _ (by decide +kernel)
  have hall : (Cond.all (.arg 0) (.isInt (.elem (.arg 0) (.index 0)))).before args s = true := hq _ (by decide +kernel)
  obtain ⟨b, xs, hb, hx⟩ := State.ints_of_pre rfl harr hlen hall
  have hsm : xs.length < 2 ^ 31 := hx.choose_spec.2.2.2
  have hev : (Term.length (.arg 0)).eval args s none [] s = some (.int xs.length.toInt32) := hx.length_eval hb
  have hv := Cond.le_ints hev (show (Term.int 3072).eval args s none [] s = some (.int 3072) from rfl)
  have hd : xs.length.toInt32 ≤ 3072 := by
    simpa [Cond.before, Cond.holds, hv] using hle
  have hN : xs.length ≤ 3072 := (Int32.ofNat_le_ofNat hsm (by decide)).mp (show Int32.ofNat xs.length ≤ Int32.ofNat 3072 from hd)
  exact ⟨b, xs, Cond.one_arg hc (show args[0]? = some (.ref b) from hb), hx, hN, h⟩
theorem lw_comes (l : Launch) (hflags : l.flags = flags0) : Comes l x (Jvm.Cond.code x code maxLocals ret :: tables_1) room_1 (fun tb e args s => Calls_1 tb e args s ∧ rest_1 tb e args s ∧ Pre_1 tb e args s)
    (fun _ _ args s o t => lw_Q args s o t) := by
  intro p e ha hc hk s m args below hf hfit hheap happ hpre
  obtain ⟨b, xs, hP⟩ := lw_pre_spec hpre.2.2 hpre.2.1
  obtain ⟨k, o, h1, h2, h3, hQ⟩ := lw_walk l hflags b xs p e ha hc hk s m args below hf ((Spec.applies_iff_loose hf).mp happ).1 hP trivial
  exact ⟨k, o, h1, h2, h3, hQ⟩
theorem lw_frame {s t : State} {o : Outcome} {args : Array Value} (h : Framed s o t [] 600000 7302250) :
    Framed s o t (fieldLocs frame_1_writes args s ++ arrayLocs frame_1_arrays args s ++ staticLocs frame_1_statics s) 600000 7302250 := h
theorem lw_limb (L : Cond) (hL : ∀ (args : Array Value) (s t : State), L.after args s (.returned (some (.int 1))) t = true) :
    ArmFor flags0 classFile x code maxLocals ret World_1 tables_1 room_1 Calls_1 rest_1 Pre_1
      (fun tb e a s o t => postC L tb e a s o t ∧ Framed s o t (fieldLocs frame_1_writes a s ++ arrayLocs frame_1_arrays a s ++ staticLocs frame_1_statics s) 600000 7302250) := by
  intro l hflags _ _ p e ha hc hk s m args below hf hfit hheap happ hpre
  obtain ⟨k, o, h1, h2, h3, rfl, hF⟩ := lw_comes l hflags p e ha hc hk s m args below hf hfit hheap happ hpre
  exact ⟨k, _, h1, h2, h3, hL args s _, lw_frame hF⟩
theorem i_vc : Claimed_1_1 ∧ Claimed_1_2 := ⟨lw_limb limb_1_1 (fun args s t => by simp [limb_1_1, Cond.after, Cond.holds, Cond.value]), lw_limb limb_1_2 (fun args s t => Cond.after_iff.mpr (by
  first | (rw [show limb_1_2 = Cond.eq .result (.int 1) from rfl, Cond.eq_ints (x := 1) (y := 1) rfl rfl]; simp; done) | (simp [limb_1_2, Cond.value, Term.eval]; done)))⟩
