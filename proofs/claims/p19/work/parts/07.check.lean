/-! PART 07: what is asked of a method's printed instructions against its bytes and the tables' words, by program; what stays as it runs -/
abbrev Rec : Type := MethodName × ByteArray × String × Nat × Option FieldType × List MI × List Nat × Nat × Nat
abbrev rY (R : Rec) : MethodName := R.1
abbrev rBy (R : Rec) : ByteArray := R.2.1
abbrev rOwn (R : Rec) : String := R.2.2.1
abbrev rNL (R : Rec) : Nat := R.2.2.2.1
abbrev rRet (R : Rec) : Option FieldType := R.2.2.2.2.1
abbrev rCode (R : Rec) : List MI := R.2.2.2.2.2.1
abbrev rPcs (R : Rec) : List Nat := R.2.2.2.2.2.2.1
abbrev rPc (R : Rec) : Nat := R.2.2.2.2.2.2.2.1
abbrev rPi (R : Rec) : Nat := R.2.2.2.2.2.2.2.2
def PP (RT : List Rec) (m : Nat) : Nat × List MI := match RT[m]? with
  | some R => (rNL R, rCode R)
  | none => (0, [])
noncomputable def rpc (R : Rec) (i : Nat) : Nat := (nthz i (rPcs R)).getD 0
def tyc (t : Nat) : FieldType := match t with
  | 0 => .int
  | 1 => .byte
  | 2 => .boolean
  | 3 => .long
  | _ => .array .int
def shm (p : Nat × Nat) : Sh := match Nat.blt p.1 10 with
  | true => .inr (tyc p.1, p.2)
  | false => .inl (p.1 - 10)
def R_law0 : String := "GhostQuarterLaw"
/-- the tables' words in their printed pieces: place = 1000 * piece + place in it; piece 0: those of the private methods -/
def lw_ch (k : Nat) : List Cond := match k with
  | 0 => k2_sels lw_privs
  | 1 => tables_1_1
  | 2 => tables_1_2
  | 3 => tables_1_3
  | 4 => tables_1_4
  | 5 => tables_1_5
  | 6 => tables_1_6
  | 7 => tables_1_7
  | _ => []
noncomputable def ckw (p : Nat) (w : Cond) : Bool := decide (nthz (p % 1000) (lw_ch (p / 1000)) = some w) && goodWord w
noncomputable def ckn (p : Nat) (w : Cond) : Bool := decide (nthz (p % 1000) (lw_ch (p / 1000)) = some w) && isNw w
theorem lw_ch_mem {k j : Nat} {w : Cond} (h : (lw_ch k)[j]? = some w) : w ∈ lw_tbl := by
  have h := List.mem_of_getElem? h
  unfold lw_tbl tables_1
  simp only [List.mem_append]
  unfold lw_ch at h
  split at h
  · exact Or.inl h
  · exact Or.inr (Or.inl h)
  · exact Or.inr (Or.inr (Or.inl h))
  · exact Or.inr (Or.inr (Or.inr (Or.inl h)))
  · exact Or.inr (Or.inr (Or.inr (Or.inr (Or.inl h))))
  · exact Or.inr (Or.inr (Or.inr (Or.inr (Or.inr (Or.inl h)))))
  · exact Or.inr (Or.inr (Or.inr (Or.inr (Or.inr (Or.inr (Or.inl h))))))
  · exact Or.inr (Or.inr (Or.inr (Or.inr (Or.inr (Or.inr (Or.inr (h)))))))
  · cases h
theorem ckw_g {p : Nat} {w : Cond} (h : ckw p w = true) : w ∈ lw_g := by
  unfold ckw at h
  rw [Bool.and_eq_true, decide_eq_true_eq, nthz_eq] at h
  exact List.mem_filter.mpr ⟨lw_ch_mem h.1, h.2⟩
theorem ckn_n {p : Nat} {w : Cond} (h : ckn p w = true) : w ∈ lw_n := by
  unfold ckn at h
  rw [Bool.and_eq_true, decide_eq_true_eq, nthz_eq] at h
  exact List.mem_filter.mpr ⟨lw_ch_mem h.1, h.2⟩
noncomputable def dk (R : Rec) (i : Nat) (ins : Instr) (len : Nat) : Bool := qk (rBy R) (rpc R i) ins len || decide (decode (rBy R) (rpc R i) = .ok (ins, len))
noncomputable def nxk (R : Rec) (i len : Nat) : Bool := decide (rpc R (i + 1) = rpc R i + len)
noncomputable def dn (R : Rec) (i : Nat) (ins : Instr) (len : Nat) : Bool := dk R i ins len && nxk R i len
theorem dk_d {R : Rec} {i : Nat} {ins : Instr} {len : Nat} (h : dk R i ins len = true) : decode (rBy R) (rpc R i) = .ok (ins, len) := by
  unfold dk at h
  rw [Bool.or_eq_true] at h
  exact h.elim qk_d of_decide_eq_true
theorem dn_d {R : Rec} {i : Nat} {ins : Instr} {len : Nat} (h : dn R i ins len = true) : decode (rBy R) (rpc R i) = .ok (ins, len) ∧ rpc R (i + 1) = rpc R i + len := by
  unfold dn at h
  rw [Bool.and_eq_true] at h
  exact ⟨dk_d h.1, of_decide_eq_true h.2⟩
def in32b (v : Int) : Bool := decide (-2147483648 ≤ v) && decide (v < 2147483648)
def in64b (v : Int) : Bool := decide (-9223372036854775808 ≤ v) && decide (v < 9223372036854775808)
theorem in32b_d {v : Int} (h : in32b v = true) : in32 v := by
  unfold in32b at h
  rw [Bool.and_eq_true] at h
  exact ⟨of_decide_eq_true h.1, of_decide_eq_true h.2⟩
theorem in64b_d {v : Int} (h : in64b v = true) : in64 v := by
  unfold in64b at h
  rw [Bool.and_eq_true] at h
  exact ⟨of_decide_eq_true h.1, of_decide_eq_true h.2⟩
def st0k (R : Rec) (a : Nat) : Bool := decide (rOwn R ≠ R_law0) || decide (a ≠ 0)
def cnd (b : Nat) : Jvm.ClassFile.Cond := match b with
  | 0 => .eq
  | 1 => .ne
  | 2 => .lt
  | 3 => .ge
  | 4 => .gt
  | _ => .le
def aty (a : Nat) : ArrayType := match a with
  | 0 => .int
  | 1 => .byte
  | 2 => .boolean
  | _ => .long
noncomputable def offR (R : Rec) (i a : Nat) : Int := (rpc R a : Int) - (rpc R i : Int)
noncomputable def fldk (R : Rec) (idx p a b : Nat) (fin : Bool) (any : Bool) : Bool := match vwCl[a]? with
  | some q => decide (b < q.2.2) && (ckw p (.fieldLink (rOwn R) idx (q.2.1 b).1 (q.2.1 b).2.1 (q.2.1 b).2.2.1) && (any || ((q.2.1 b).2.2.2 == fin && (!fin || decide ((q.2.1 b).1 = rOwn R)))))
  | none => false
def rk (ret : Option FieldType) : Nat := match ret with
  | none => 0
  | some .long => 2
  | some t => if isIty t then 1 else 9
def npk (R : Rec) (b : Nat) : Bool := decide ((parseMethodDescriptor (rY R).desc).map (fun d => d.parameters.length) = some b)
noncomputable def clk (R R' : Rec) (i b sub idx : Nat) (pl : List Nat) : Bool := match sub with
  | 0 => dk R i (.invokestatic idx) 3 && (npk R' b && (ckw (pl.getD 0 0) (.methodLink (rOwn R) idx (rY R')) && ckw (pl.getD 1 0) (.static (rY R'))))
  | 1 => dk R i (.invokestatic idx) 3 && (npk R' b && (ckn (pl.getD 0 0) (.methodLinkNest (rOwn R) idx (rY R') "GhostQuarter") && ckw (pl.getD 1 0) (.static (rY R'))))
  | 2 => dk R i (.invokevirtual idx) 3 && (npk R' (b - 1) && (decide (0 < b) && (ckw (pl.getD 0 0) (.methodLink (rOwn R) idx (rY R')) && (ckw (pl.getD 1 0) (.instanceMethod (rY R')) && (ckw (pl.getD 2 0) (.selects (rY R').cls (rY R') (rY R')) && (match vwCl[pl.getD 3 0]? with
    | some q => decide (q.1 = (rY R').cls)
    | none => false))))))
  | 3 => dk R i (.invokespecial idx) 3 && (npk R' (b - 1) && (decide (0 < b) && (ckw (pl.getD 0 0) (.methodLink (rOwn R) idx (rY R')) && (ckw (pl.getD 1 0) (.instanceMethod (rY R')) && (decide ((rY R').name = "<init>") && decide (rRet R' = none))))))
  | 4 => dk R i (.invokespecial idx) 3 && (npk R' (b - 1) && (decide (0 < b) && (ckn (pl.getD 0 0) (.methodLinkNest (rOwn R) idx (rY R') "GhostQuarter") && (ckw (pl.getD 1 0) (.instanceMethod (rY R')) && (decide ((rY R').name = "<init>") && decide (rRet R' = none))))))
  | _ => false
noncomputable def okI (RT : List Rec) (R : Rec) (i : Nat) (mi : MI) : Bool := match mi with
  | (op, a, b, c, v, tab, sub, idx, pl) => match op with
    | 0 => in32b v && (match sub with
      | 0 => dn R i (.iconst v) 1
      | 1 => dn R i (.bipush v) 2 && decide ((Int8.ofInt v).toInt32 = i32 v)
      | 2 => dn R i (.sipush v) 3 && decide ((Int16.ofInt v).toInt32 = i32 v)
      | 3 => dn R i (.ldc idx) 2 && ckw (pl.getD 0 0) (.constant (rOwn R) idx (i32 v))
      | _ => dn R i (.ldc_w idx) 3 && ckw (pl.getD 0 0) (.constant (rOwn R) idx (i32 v)))
    | 1 => in64b v && (match sub with
      | 0 => dn R i (.lconst (Fin.ofNat 2 idx)) 1 && decide (Int64.ofNat ((Fin.ofNat 2 idx : Fin 2) : Nat) = i64 v)
      | _ => dn R i (.ldc2_w idx) 3 && ckw (pl.getD 0 0) (.constantLong (rOwn R) idx (i64 v)))
    | 2 => match sub with
      | 0 => decide (((Fin.ofNat 4 a : Fin 4) : Nat) = a) && dn R i (.iload_n (Fin.ofNat 4 a)) 1
      | _ => dn R i (.iload a) 2
    | 3 => match sub with
      | 0 => decide (((Fin.ofNat 4 a : Fin 4) : Nat) = a) && dn R i (.lload_n (Fin.ofNat 4 a)) 1
      | _ => dn R i (.lload a) 2
    | 4 => match sub with
      | 0 => decide (((Fin.ofNat 4 a : Fin 4) : Nat) = a) && dn R i (.aload_n (Fin.ofNat 4 a)) 1
      | _ => dn R i (.aload a) 2
    | 5 => st0k R a && (match sub with
      | 0 => decide (((Fin.ofNat 4 a : Fin 4) : Nat) = a) && dn R i (.istore_n (Fin.ofNat 4 a)) 1
      | _ => dn R i (.istore a) 2)
    | 6 => st0k R a && (match sub with
      | 0 => decide (((Fin.ofNat 4 a : Fin 4) : Nat) = a) && dn R i (.lstore_n (Fin.ofNat 4 a)) 1
      | _ => dn R i (.lstore a) 2)
    | 7 => st0k R a && (match sub with
      | 0 => decide (((Fin.ofNat 4 a : Fin 4) : Nat) = a) && dn R i (.astore_n (Fin.ofNat 4 a)) 1
      | _ => dn R i (.astore a) 2)
    | 8 => st0k R a && dn R i (.iinc a v) 3
    | 9 => match a with
      | 0 => dn R i .iadd 1
      | 1 => dn R i .isub 1
      | 2 => dn R i .imul 1
      | 3 => dn R i .iand 1
      | 4 => dn R i .ior 1
      | 5 => dn R i .ixor 1
      | 6 => dn R i .ishl 1
      | 7 => dn R i .ishr 1
      | 8 => dn R i .iushr 1
      | 9 => dn R i .idiv 1
      | 10 => dn R i .irem 1
      | _ => false
    | 10 => match a with
      | 0 => dn R i .ineg 1
      | _ => dn R i .i2b 1
    | 11 => match a with
      | 0 => dn R i .ladd 1
      | 1 => dn R i .lsub 1
      | 2 => dn R i .lmul 1
      | 3 => dn R i .land 1
      | 4 => dn R i .lor 1
      | 5 => dn R i .ldiv 1
      | 6 => dn R i .lrem 1
      | _ => false
    | 12 => match a with
      | 0 => dn R i .i2l 1
      | _ => dn R i .l2i 1
    | 13 => match a with
      | 0 => dn R i .lshl 1
      | _ => dn R i .lshr 1
    | 14 => dn R i .lcmp 1
    | 15 => dk R i (.goto (offR R i a)) 3
    | 16 => dn R i (.ifCond (cnd b) (offR R i a)) 3
    | 17 => dn R i (.if_icmp (cnd b) (offR R i a)) 3
    | 18 => match sub with
      | 0 => dk R i (.tableswitch (offR R i a) v (v + tab.length - 1) (tab.map fun p => offR R i p.2).toArray) idx && decide (tab.map (fun p => p.1) = (List.range tab.length).map (fun (j : Nat) => v + (j : Int)))
      | _ => dk R i (.lookupswitch (offR R i a) (tab.map fun p => (p.1, offR R i p.2)).toArray) idx && (((tab.map fun p => (p.1, offR R i p.2)).toArray.toList.zip ((tab.map fun p => (p.1, offR R i p.2)).toArray.toList.drop 1)).all (fun (a, next) => a.1 < next.1))
    | 19 => fldk R idx (pl.getD 0 0) a b false true && (isIty (tcl a b) && dn R i (.getfield idx) 3)
    | 20 => fldk R idx (pl.getD 0 0) a b false true && (isRty (tcl a b) && dn R i (.getfield idx) 3)
    | 21 => fldk R idx (pl.getD 0 0) a b false false && ((match c with
      | 0 => decide (tcl a b = .int)
      | _ => decide (tcl a b = .boolean)) && dn R i (.putfield idx) 3)
    | 22 => fldk R idx (pl.getD 0 0) a b false false && (isRty (tcl a b) && dn R i (.putfield idx) 3)
    | 23 => fldk R idx (pl.getD 0 0) a b true false && ((match c with
      | 0 => decide (tcl a b = .int)
      | _ => decide (tcl a b = .boolean)) && (decide ((rY R).name = "<init>") && dn R i (.putfield idx) 3))
    | 24 => fldk R idx (pl.getD 0 0) a b true false && (isRty (tcl a b) && (decide ((rY R).name = "<init>") && dn R i (.putfield idx) 3))
    | 25 => match a with
      | 0 => dn R i .iaload 1
      | 1 => dn R i .baload 1
      | 2 => dn R i .baload 1
      | 3 => dn R i .laload 1
      | 4 => dn R i .aaload 1
      | _ => false
    | 26 => match a with
      | 0 => dn R i .iastore 1
      | 1 => dn R i .bastore 1
      | 2 => dn R i .bastore 1
      | 3 => dn R i .lastore 1
      | _ => false
    | 27 => match a with
      | 0 => dn R i (.getstatic idx) 3 && ckn (pl.getD 0 0) (.fieldLinkNest (rOwn R) idx "GhostQuarter" "STEP_X" "[I" "GhostQuarter")
      | _ => dn R i (.getstatic idx) 3 && ckn (pl.getD 0 0) (.fieldLinkNest (rOwn R) idx "GhostQuarter" "STEP_Y" "[I" "GhostQuarter")
    | 28 => dn R i (.aload_n 0) 1 && decide (rOwn R = R_law0)
    | 29 => dn R i .arraylength 1
    | 30 => match nthz a RT with
      | some R' => decide (c = rk (rRet R') ∧ c < 3) && (decide (rOwn R' ≠ R_law0) && (clk R R' i b sub idx pl && nxk R i 3))
      | none => false
    | 31 => match a with
      | 0 => dk R i .return_ 1 && decide (rRet R = none)
      | 1 => dk R i .ireturn 1 && (match c with
        | 0 => decide (rRet R = some .int)
        | _ => decide (rRet R = some .boolean))
      | _ => dk R i .lreturn 1 && decide (rRet R = some .long)
    | 32 => dn R i .dup 1
    | 33 => dn R i .dup2 1
    | 34 => match a with
      | 0 => dn R i .pop 1
      | _ => dn R i .pop2 1
    | 35 => match vwCl[a]? with
      | some q => ckw (pl.getD 0 0) (.classLink (rOwn R) idx q.1) && (ckw (pl.getD 1 0) (.instantiable q.1 q.2.2) && (ckw (pl.getD 2 0) (.initialized q.1) && ((List.range q.2.2).all (fun j => isIty (tcl a j) || isRty (tcl a j)) && dn R i (.new idx) 3)))
      | none => false
    | 36 => decide (a < 4) && (ckw (pl.getD 0 0) (.arrayClass (tyc a)) && dn R i (.newarray (aty a)) 2)
    | 37 => ckw (pl.getD 0 0) (.classLink (rOwn R) idx ("[" ++ (FieldType.array .int).toString)) && (ckw (pl.getD 1 0) (.arrayClass .int) && dn R i (.multianewarray idx 2) 4)
    | 38 => ckw (pl.getD 0 0) (.methodLink (rOwn R) idx objectInit) && (ckw (pl.getD 1 0) (.instanceMethod objectInit) && (ckw (pl.getD 2 0) (.code objectInit ⟨#[0xb1]⟩ 1 none) && dn R i (.invokespecial idx) 3))
    | 39 => dn R i (.invokestatic idx) 3 && (ckw (pl.getD 1 0) (.initialized "java/lang/Math") && (match a with
      | 0 => ckw (pl.getD 0 0) (.methodLink (rOwn R) idx Lib.Math.abs.name) && (ckw (pl.getD 2 0) (.static Lib.Math.abs.name) && ckw (pl.getD 3 0) (.code Lib.Math.abs.name Lib.Math.abs.code 1 (some .int)))
      | 1 => ckw (pl.getD 0 0) (.methodLink (rOwn R) idx Lib.Math.max.name) && (ckw (pl.getD 2 0) (.static Lib.Math.max.name) && ckw (pl.getD 3 0) (.code Lib.Math.max.name Lib.Math.max.code 2 (some .int)))
      | 2 => ckw (pl.getD 0 0) (.methodLink (rOwn R) idx Lib.Math.min.name) && (ckw (pl.getD 2 0) (.static Lib.Math.min.name) && ckw (pl.getD 3 0) (.code Lib.Math.min.name Lib.Math.min.code 2 (some .int)))
      | _ => false))
    | _ => false
noncomputable def okH (R : Rec) : Bool := ckw (rPc R) (.code (rY R) (rBy R) (rNL R) (rRet R)) && (ckw (rPi R) (.initialized (rY R).cls) && (decide ((rY R).cls ≠ "java/lang/invoke/MethodHandle") && (decide ((rY R).cls ≠ "java/lang/invoke/VarHandle") && (decide ((rY R).cls = rOwn R) && (plainName (rY R).cls && (decide (rNL R ≤ 13) && decide (rpc R 0 = 0)))))))
noncomputable def okC (RT : List Rec) (R : Rec) : Bool := (rCode R).zipIdx.all (fun p => okI RT R p.2 p.1)
theorem okC_at {RT : List Rec} {R : Rec} (h : okC RT R = true) {i : Nat} {mi : MI} (hi : (rCode R)[i]? = some mi) : okI RT R i mi = true := by
  unfold okC at h
  rw [List.all_eq_true] at h
  exact h (mi, i) (List.mem_iff_getElem?.mpr ⟨i, by rw [List.getElem?_zipIdx, hi]; simp⟩)
/-! what stays -/
def okv (v : Vv) : Prop := match v with
  | .inl x => in32 x
  | .inr (.inl x) => in64 x
  | _ => True
def okLv (L : LL) : Prop := ∀ (i : Nat) (v : Vv), L[i]? = some (some v) → okv v ∧ isXv v = false
def Inv (F : Nat → Nat → Nat) (Y : YY) (M : MM) : Prop := (∀ (k : Nat) (p : Nat × Nat), Y[k]? = some p → ∀ j, (10 ≤ p.1 → isIty (tcl (p.1 - 10) j) = true → in32 (M k j)) ∧ (p.1 ≤ 2 → in32 (M k j)) ∧ (p.1 = 3 → in64 (M k j))) ∧ ∀ (k j t : Nat), F k j = t + 1 → M k j = (t : Int) + 1 ∧ ∃ p : Nat × Nat, Y[k]? = some p ∧ ((10 ≤ p.1 ∧ isRty (tcl (p.1 - 10) j) = true) ∨ p.1 = 4)
theorem kd_ge {Y : YY} {k c : Nat} (hc : c ≠ 99) (h : (kd Y k == c) = true) : ∃ n, Y[k]? = some (c, n) := by
  unfold kd at h
  cases hY : Y[k]? with
  | none => rw [hY] at h; simp at h; exact absurd h.symm hc
  | some p => rw [hY] at h; simp at h; exact ⟨p.2, by rw [← h]⟩
theorem ln_of {Y : YY} {k c n : Nat} (h : Y[k]? = some (c, n)) : ln Y k = (n : Int) := by
  unfold ln
  rw [h]
theorem iR_no {ty : FieldType} (h : isIty ty = true) : isRty ty = false := by
  cases ty <;> first | rfl | (simp [isIty] at h)
theorem in32_0 : in32 0 := ⟨by decide, by decide⟩
theorem in32_1 : in32 1 := ⟨by decide, by decide⟩
theorem in64_0 : in64 0 := ⟨by decide, by decide⟩
theorem stM_at (M : MM) (k j : Nat) (v : Int) (k' j' : Nat) : stM M k j v k' j' = if k' = k ∧ j' = j then v else M k' j' := rfl
/-- a store of an int (or long) into a place of that type -/
theorem Inv.st {F : Nat → Nat → Nat} {Y : YY} {M : MM} (h : Inv F Y M) {k j : Nat} {x : Int} {p : Nat × Nat} (hp : Y[k]? = some p) (hx : (p.1 = 3 → in64 x) ∧ (p.1 ≠ 3 → in32 x)) (hr : ¬ ((10 ≤ p.1 ∧ isRty (tcl (p.1 - 10) j) = true) ∨ p.1 = 4)) : Inv F Y (stM M k j x) := by
  refine ⟨fun k' p' hp' j' => ?_, fun k' j' t ht => ?_⟩
  · rw [stM_at]
    by_cases hk : k' = k ∧ j' = j
    · obtain ⟨rfl, rfl⟩ := hk
      have e := hp'.symm.trans hp
      cases e
      rw [if_pos ⟨rfl, rfl⟩]
      exact ⟨fun h1 _ => hx.2 (by omega), fun h1 => hx.2 (by omega), fun h1 => hx.1 h1⟩
    · rw [if_neg hk]
      exact h.1 k' p' hp' j'
  · obtain ⟨h1, p2, h2, h3⟩ := h.2 k' j' t ht
    refine ⟨?_, p2, h2, h3⟩
    rw [stM_at, if_neg, h1]
    rintro ⟨rfl, rfl⟩
    have e := h2.symm.trans hp
    cases e
    exact hr h3
/-- a store of a reference -/
theorem Inv.sr {F : Nat → Nat → Nat} {Y : YY} {M : MM} (h : Inv F Y M) {k j t : Nat} {p : Nat × Nat} (hp : Y[k]? = some p) (hr : 10 ≤ p.1 ∧ isRty (tcl (p.1 - 10) j) = true) (hF : F k j = 0) : Inv F Y (stM M k j ((t : Int) + 1)) := by
  refine ⟨fun k' p' hp' j' => ?_, fun k' j' t' ht => ?_⟩
  · rw [stM_at]
    by_cases hk : k' = k ∧ j' = j
    · obtain ⟨rfl, rfl⟩ := hk
      have e := hp'.symm.trans hp
      cases e
      refine ⟨fun h1 h2 => ?_, fun h1 => absurd hr.1 (by omega), fun h1 => absurd hr.1 (by omega)⟩
      rw [iR_no h2] at hr
      exact absurd hr.2 (by decide)
    · rw [if_neg hk]
      exact h.1 k' p' hp' j'
  · obtain ⟨h1, p2, h2, h3⟩ := h.2 k' j' t' ht
    refine ⟨?_, p2, h2, h3⟩
    rw [stM_at, if_neg, h1]
    rintro ⟨rfl, rfl⟩
    rw [hF] at ht
    cases ht
theorem get_app {Y Y2 : YY} {k : Nat} {p : Nat × Nat} (h : Y[k]? = some p) : (Y ++ Y2)[k]? = some p := by
  rw [List.getElem?_append_left (List.getElem?_eq_some_iff.mp h).1]
  exact h
theorem Inv.app {F : Nat → Nat → Nat} {Y Y2 : YY} {M M2 : MM} (h : Inv F Y M) (ho : ∀ k, k < Y.length → ∀ j, M2 k j = M k j) (h0 : ∀ (k : Nat) (p : Nat × Nat), Y2[k]? = some p → p.1 ≠ 4 → ∀ j, M2 (Y.length + k) j = 0) : Inv F (Y ++ Y2) M2 := by
  refine ⟨fun k p hp j => ?_, fun k j t ht => ?_⟩
  · by_cases hk : k < Y.length
    · rw [List.getElem?_append_left hk] at hp
      rw [ho k hk j]
      exact h.1 k p hp j
    · rw [List.getElem?_append_right (by omega)] at hp
      by_cases h4 : p.1 = 4
      · exact ⟨fun h1 => absurd h1 (by omega), fun h1 => absurd h1 (by omega), fun h1 => absurd h1 (by omega)⟩
      · have := h0 _ p hp h4 j
        rw [show Y.length + (k - Y.length) = k by omega] at this
        rw [this]
        exact ⟨fun _ _ => in32_0, fun _ => in32_0, fun _ => in64_0⟩
  · obtain ⟨h1, p, h2, h3⟩ := h.2 k j t ht
    exact ⟨by rw [ho k (List.getElem?_eq_some_iff.mp h2).1 j, h1], p, get_app h2, h3⟩
theorem okLv.set {L : LL} (h : okLv L) {i : Nat} {v : Vv} (hv : okv v) (hx : isXv v = false) : okLv (L.set i (some v)) := by
  intro j w hj
  by_cases hji : i = j
  · subst hji
    rw [List.getElem?_set] at hj
    by_cases hl : i < L.length
    · simp [hl] at hj
      subst hj
      exact ⟨hv, hx⟩
    · simp [hl] at hj
  · rw [List.getElem?_set_ne hji] at hj
    exact h j w hj
theorem okLv.no {L : LL} (h : okLv L) {i : Nat} : okLv (L.set i none) := by
  intro j w hj
  by_cases hji : i = j
  · subst hji
    rw [List.getElem?_set] at hj
    by_cases hl : i < L.length
    · simp [hl] at hj
    · simp [hl] at hj
  · rw [List.getElem?_set_ne hji] at hj
    exact h j w hj
theorem in_bin {a : Nat} {x y : Int} (hx : in32 x) (hy : in32 y) : in32 (bin a x y) := by
  unfold bin
  split
  · exact in_w32 _
  · exact in_w32 _
  · exact in_w32 _
  · exact in_t32 _
  · exact in_t32 _
  · exact in_t32 _
  · exact in_t32 _
  · exact in_t32 _
  · exact in_t32 _
  · exact in_w32 _
  · exact in32_tmod y hx
theorem in_lbn {a : Nat} {x y : Int} (hx : in64 x) (hy : in64 y) : in64 (lbn a x y) := by
  unfold lbn
  split
  · exact in_w64 _
  · exact in_w64 _
  · exact in_w64 _
  · exact in_t64 _
  · exact in_t64 _
  · exact in_w64 _
  · exact in64_tmod y hx
theorem bl2_d {c : Nat} {x : Int} (h : bl2 c x = true) : c = 0 ∨ x = 0 ∨ x = 1 := by
  unfold bl2 at h
  split at h
  · exact Or.inl rfl
  · rw [Bool.or_eq_true, decide_eq_true_eq, decide_eq_true_eq] at h
    exact Or.inr h
