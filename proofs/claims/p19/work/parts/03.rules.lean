/-! PART 03: one instruction each, over the world of part 02 -/
abbrev Px : Type := (Program × Launch × Env × Room × State × MethodId × Array Value × List Frame × Method × Code × (State → Prop)) × (ByteArray × String × Nat × Nat × Nat × va_G × (FieldType → ClassId) × Nat × Nat × Option Nat × String)
abbrev xp (Z : Px) : Program := Z.1.1
abbrev xl (Z : Px) : Launch := Z.1.2.1
abbrev xe (Z : Px) : Env := Z.1.2.2.1
abbrev xR (Z : Px) : Room := Z.1.2.2.2.1
abbrev xs (Z : Px) : State := Z.1.2.2.2.2.1
abbrev xm (Z : Px) : MethodId := Z.1.2.2.2.2.2.1
abbrev xargs (Z : Px) : Array Value := Z.1.2.2.2.2.2.2.1
abbrev xbelow (Z : Px) : List Frame := Z.1.2.2.2.2.2.2.2.1
abbrev xmeth (Z : Px) : Method := Z.1.2.2.2.2.2.2.2.2.1
abbrev xc (Z : Px) : Code := Z.1.2.2.2.2.2.2.2.2.2.1
abbrev xQ (Z : Px) : State → Prop := Z.1.2.2.2.2.2.2.2.2.2.2
abbrev xcc (Z : Px) : ByteArray := Z.2.1
abbrev xown (Z : Px) : String := Z.2.2.1
abbrev xnL (Z : Px) : Nat := Z.2.2.2.1
abbrev xd (Z : Px) : Nat := Z.2.2.2.2.1
abbrev xb (Z : Px) : Nat := Z.2.2.2.2.2.1
abbrev xD (Z : Px) : va_G := Z.2.2.2.2.2.2.1
abbrev xA (Z : Px) : FieldType → ClassId := Z.2.2.2.2.2.2.2.1
abbrev xy0 (Z : Px) : Nat := Z.2.2.2.2.2.2.2.2.1
abbrev xs0 (Z : Px) : Nat := Z.2.2.2.2.2.2.2.2.2.1
abbrev xE (Z : Px) : Option Nat := Z.2.2.2.2.2.2.2.2.2.2.1
abbrev xnm (Z : Px) : String := Z.2.2.2.2.2.2.2.2.2.2.2
/-- the slots of a world's cells -/
def szS (sh : Sh) : Nat := match sh with
  | .inl ci => ncl ci
  | .inr (_, n) => n
def szs (Y : List Sh) : Nat := (Y.map szS).sum
def Cx (Z : Px) : Prop := (xp Z).tables.exec = Jvm.exec ∧ (xc Z).code = xcc Z ∧ (xs Z).vm.findClass (xown Z) = some (xm Z).cls ∧ (∀ w ∈ lw_g, w.before (xargs Z) (xs Z) = true) ∧ va_K (xD Z) vwCl (wtys (xA Z)) (xs Z) ∧ ST (xb Z) (xs Z) ∧ (xc Z).maxLocals = xnL Z ∧ xd Z ≤ (xR Z).frames ∧ 32 * xd Z ≤ (xR Z).locals ∧ xb Z ≤ (xs Z).heap.size ∧ (xmeth Z).name = xnm Z
/-- at 'pc', with stack, locals, cells 'Y' holding 'M': the machine comes to its end -/
def G (Z : Px) (Y : List Sh) (pc : Nat) (st : List Value) (L : LS0) (M : Mem) : Prop :=
  ∀ (H : Heap) (lo : List Loc) (ls : Array Slot), H.size = xb Z + Y.length → va_P (xD Z) vwCl (wld (xb Z) (xA Z) Y M) H → va_S (fun q => xb Z ≤ q) (xs Z).heap H lo → LocOK (xE Z) (xb Z) (xnL Z) ls L →
    W (xp Z) (xl Z) (xe Z) (xR Z) (xs Z) (xm Z) (xargs Z) (xbelow Z) (xmeth Z) (xc Z) H lo (Y.length - xy0 Z) (szs Y - xs0 Z) (xQ Z) (F0 (xm Z) pc ls st)
theorem mem_g {w : Cond} {i : Nat} (h : lw_tbl[i]? = some w) (hg : goodWord w = true) : w ∈ lw_g := List.mem_filter.mpr ⟨List.mem_of_getElem? h, hg⟩
theorem mem_n {w : Cond} {i : Nat} (h : lw_tbl[i]? = some w) (hg : isNw w = true) : w ∈ lw_n := List.mem_filter.mpr ⟨List.mem_of_getElem? h, hg⟩
theorem u_ws_g (C : String) (T : u_T) (N : Nat) (h : ∀ w ∈ u_ws C T N, w ∈ lw_tbl) : ∀ w ∈ u_ws C T N, w ∈ lw_g := by
  intro w hw
  refine List.mem_filter.mpr ⟨h w hw, ?_⟩
  obtain ⟨k, -, hk⟩ := List.mem_map.mp hw
  rw [← hk]
  unfold u_lay
  split <;> rfl
section RULES
variable {Z : Px} {Y : List Sh} {pc : Nat} {st : List Value} {L : LS0} {M : Mem}
theorem g_iconst (C : Cx Z) {n : Int} {v : Int32} (d : decode (xcc Z) pc = .ok (.iconst n, 1)) (hv : Int32.ofInt n = v) (k : G Z Y (pc + 1) (.int v :: st) L M) : G Z Y pc st L M := fun H lo ls a1 a2 a3 a4 => lv_iconst C.1 C.2.1 d hv (k H lo ls a1 a2 a3 a4)
theorem g_bipush (C : Cx Z) {n : Int} {v : Int32} (d : decode (xcc Z) pc = .ok (.bipush n, 2)) (hv : (Int8.ofInt n).toInt32 = v) (k : G Z Y (pc + 2) (.int v :: st) L M) : G Z Y pc st L M := fun H lo ls a1 a2 a3 a4 => lv_bipush C.1 C.2.1 d hv (k H lo ls a1 a2 a3 a4)
theorem g_sipush (C : Cx Z) {n : Int} {v : Int32} (d : decode (xcc Z) pc = .ok (.sipush n, 3)) (hv : (Int16.ofInt n).toInt32 = v) (k : G Z Y (pc + 3) (.int v :: st) L M) : G Z Y pc st L M := fun H lo ls a1 a2 a3 a4 => lv_sipush C.1 C.2.1 d hv (k H lo ls a1 a2 a3 a4)
theorem g_ldc (C : Cx Z) {i : Nat} {v : Int32} (hw : (Cond.constant (xown Z) i v) ∈ lw_g) (d : decode (xcc Z) pc = .ok (.ldc i, 2)) (k : G Z Y (pc + 2) (.int v :: st) L M) : G Z Y pc st L M := fun H lo ls a1 a2 a3 a4 => lv_ldc C.1 C.2.1 C.2.2.1 (C.2.2.2.1 _ hw) d (k H lo ls a1 a2 a3 a4)
theorem g_ldcw (C : Cx Z) {i : Nat} {v : Int32} (hw : (Cond.constant (xown Z) i v) ∈ lw_g) (d : decode (xcc Z) pc = .ok (.ldc_w i, 3)) (k : G Z Y (pc + 3) (.int v :: st) L M) : G Z Y pc st L M := fun H lo ls a1 a2 a3 a4 => lv_ldcw C.1 C.2.1 C.2.2.1 (C.2.2.2.1 _ hw) d (k H lo ls a1 a2 a3 a4)
theorem g_ldc2 (C : Cx Z) {i : Nat} {v : Int64} (hw : (Cond.constantLong (xown Z) i v) ∈ lw_g) (d : decode (xcc Z) pc = .ok (.ldc2_w i, 3)) (k : G Z Y (pc + 3) (.long v :: st) L M) : G Z Y pc st L M := fun H lo ls a1 a2 a3 a4 => lv_ldc2 C.1 C.2.1 C.2.2.1 (C.2.2.2.1 _ hw) d (k H lo ls a1 a2 a3 a4)
theorem g_lconst (C : Cx Z) {n : Fin 2} {v : Int64} (d : decode (xcc Z) pc = .ok (.lconst n, 1)) (hv : Int64.ofNat (n : Nat) = v) (k : G Z Y (pc + 1) (.long v :: st) L M) : G Z Y pc st L M := fun H lo ls a1 a2 a3 a4 => lv_lconst C.1 C.2.1 d hv (k H lo ls a1 a2 a3 a4)
theorem g_iload_n (C : Cx Z) {n : Fin 4} {i : Nat} {x : Int32} (d : decode (xcc Z) pc = .ok (.iload_n n, 1)) (hi : (n : Nat) = i) (hl : L[i]? = some (some (vI x))) (k : G Z Y (pc + 1) (.int x :: st) L M) : G Z Y pc st L M := fun H lo ls a1 a2 a3 a4 => lv_iload_n C.1 C.2.1 d hi (a4.2.2.2.1 i _ hl) (k H lo ls a1 a2 a3 a4)
theorem g_iload (C : Cx Z) {i : Nat} {x : Int32} (d : decode (xcc Z) pc = .ok (.iload i, 2)) (hl : L[i]? = some (some (vI x))) (k : G Z Y (pc + 2) (.int x :: st) L M) : G Z Y pc st L M := fun H lo ls a1 a2 a3 a4 => lv_iload C.1 C.2.1 d (a4.2.2.2.1 i _ hl) (k H lo ls a1 a2 a3 a4)
theorem g_lload_n (C : Cx Z) {n : Fin 4} {i : Nat} {x : Int64} (d : decode (xcc Z) pc = .ok (.lload_n n, 1)) (hi : (n : Nat) = i) (hl : L[i]? = some (some (vL x))) (k : G Z Y (pc + 1) (.long x :: st) L M) : G Z Y pc st L M := fun H lo ls a1 a2 a3 a4 => lv_lload_n C.1 C.2.1 d hi (a4.2.2.2.1 i _ hl) (k H lo ls a1 a2 a3 a4)
theorem g_lload (C : Cx Z) {i : Nat} {x : Int64} (d : decode (xcc Z) pc = .ok (.lload i, 2)) (hl : L[i]? = some (some (vL x))) (k : G Z Y (pc + 2) (.long x :: st) L M) : G Z Y pc st L M := fun H lo ls a1 a2 a3 a4 => lv_lload C.1 C.2.1 d (a4.2.2.2.1 i _ hl) (k H lo ls a1 a2 a3 a4)
theorem g_aload_n (C : Cx Z) {n : Fin 4} {i x : Nat} (d : decode (xcc Z) pc = .ok (.aload_n n, 1)) (hi : (n : Nat) = i) (hl : L[i]? = some (some (vR x))) (k : G Z Y (pc + 1) (.ref (xb Z + x) :: st) L M) : G Z Y pc st L M := fun H lo ls a1 a2 a3 a4 => lv_aload_n C.1 C.2.1 d hi (a4.2.2.2.1 i _ hl) (k H lo ls a1 a2 a3 a4)
theorem g_aload (C : Cx Z) {i x : Nat} (d : decode (xcc Z) pc = .ok (.aload i, 2)) (hl : L[i]? = some (some (vR x))) (k : G Z Y (pc + 2) (.ref (xb Z + x) :: st) L M) : G Z Y pc st L M := fun H lo ls a1 a2 a3 a4 => lv_aload C.1 C.2.1 d (a4.2.2.2.1 i _ hl) (k H lo ls a1 a2 a3 a4)
theorem g_istore_n (C : Cx Z) {n : Fin 4} {i : Nat} {x : Int32} (d : decode (xcc Z) pc = .ok (.istore_n n, 1)) (hi : (n : Nat) = i) (hn : i < xnL Z) (ho : okS L i = true) (hE : xE Z = none ∨ i ≠ 0) (k : G Z Y (pc + 1) st (L.set i (some (vI x))) M) : G Z Y pc (.int x :: st) L M := fun H lo ls a1 a2 a3 a4 => lv_istore_n C.1 C.2.1 d hi a4.has hn rfl fun ls' h' => k H lo ls' a1 a2 a3 (loc_st1 (v := vI x) a4 hE hn ho h')
theorem g_istore (C : Cx Z) {i : Nat} {x : Int32} (d : decode (xcc Z) pc = .ok (.istore i, 2)) (hn : i < xnL Z) (ho : okS L i = true) (hE : xE Z = none ∨ i ≠ 0) (k : G Z Y (pc + 2) st (L.set i (some (vI x))) M) : G Z Y pc (.int x :: st) L M := fun H lo ls a1 a2 a3 a4 => lv_istore C.1 C.2.1 d a4.has hn rfl fun ls' h' => k H lo ls' a1 a2 a3 (loc_st1 (v := vI x) a4 hE hn ho h')
theorem g_astore_n (C : Cx Z) {n : Fin 4} {i x : Nat} (d : decode (xcc Z) pc = .ok (.astore_n n, 1)) (hi : (n : Nat) = i) (hn : i < xnL Z) (ho : okS L i = true) (hE : xE Z = none ∨ i ≠ 0) (k : G Z Y (pc + 1) st (L.set i (some (vR x))) M) : G Z Y pc (.ref (xb Z + x) :: st) L M := fun H lo ls a1 a2 a3 a4 => lv_astore_n C.1 C.2.1 d hi a4.has hn rfl fun ls' h' => k H lo ls' a1 a2 a3 (loc_st1 (v := vR x) a4 hE hn ho h')
theorem g_astore (C : Cx Z) {i x : Nat} (d : decode (xcc Z) pc = .ok (.astore i, 2)) (hn : i < xnL Z) (ho : okS L i = true) (hE : xE Z = none ∨ i ≠ 0) (k : G Z Y (pc + 2) st (L.set i (some (vR x))) M) : G Z Y pc (.ref (xb Z + x) :: st) L M := fun H lo ls a1 a2 a3 a4 => lv_astore C.1 C.2.1 d a4.has hn rfl fun ls' h' => k H lo ls' a1 a2 a3 (loc_st1 (v := vR x) a4 hE hn ho h')
theorem g_lstore_n (C : Cx Z) {n : Fin 4} {i : Nat} {x : Int64} (d : decode (xcc Z) pc = .ok (.lstore_n n, 1)) (hi : (n : Nat) = i) (hn : i + 1 < xnL Z) (ho : okS L i = true) (hE : xE Z = none ∨ i ≠ 0) (k : G Z Y (pc + 1) st ((L.set i (some (vL x))).set (i + 1) none) M) : G Z Y pc (.long x :: st) L M := fun H lo ls a1 a2 a3 a4 => lv_lstore_n C.1 C.2.1 d hi a4.has hn rfl fun ls' h' => k H lo ls' a1 a2 a3 (loc_st2 (v := vL x) a4 hE hn ho h')
theorem g_lstore (C : Cx Z) {i : Nat} {x : Int64} (d : decode (xcc Z) pc = .ok (.lstore i, 2)) (hn : i + 1 < xnL Z) (ho : okS L i = true) (hE : xE Z = none ∨ i ≠ 0) (k : G Z Y (pc + 2) st ((L.set i (some (vL x))).set (i + 1) none) M) : G Z Y pc (.long x :: st) L M := fun H lo ls a1 a2 a3 a4 => lv_lstore C.1 C.2.1 d a4.has hn rfl fun ls' h' => k H lo ls' a1 a2 a3 (loc_st2 (v := vL x) a4 hE hn ho h')
theorem g_iinc (C : Cx Z) {i : Nat} {n : Int} {x v : Int32} (d : decode (xcc Z) pc = .ok (.iinc i n, 3)) (hl : L[i]? = some (some (vI x))) (hv : x + Int32.ofInt n = v) (hn : i < xnL Z) (ho : okS L i = true) (hE : xE Z = none ∨ i ≠ 0) (k : G Z Y (pc + 3) st (L.set i (some (vI v))) M) : G Z Y pc st L M := fun H lo ls a1 a2 a3 a4 => by
  obtain ⟨j, hj⟩ := List.getElem?_of_mem (lvE_b (E := xE Z) (lva_mem (b := xb Z) hl))
  exact lv_iinc C.1 C.2.1 d a4.has hj hv hn rfl fun ls' h' => k H lo ls' a1 a2 a3 (loc_st1 (v := vI v) a4 hE hn ho h')
theorem g_iadd (C : Cx Z) {x y : Int32} (d : decode (xcc Z) pc = .ok (.iadd, 1)) (k : G Z Y (pc + 1) (.int (x + y) :: st) L M) : G Z Y pc (.int y :: .int x :: st) L M := fun H lo ls a1 a2 a3 a4 => lv_iadd C.1 C.2.1 d (k H lo ls a1 a2 a3 a4)
theorem g_isub (C : Cx Z) {x y : Int32} (d : decode (xcc Z) pc = .ok (.isub, 1)) (k : G Z Y (pc + 1) (.int (x - y) :: st) L M) : G Z Y pc (.int y :: .int x :: st) L M := fun H lo ls a1 a2 a3 a4 => lv_isub C.1 C.2.1 d (k H lo ls a1 a2 a3 a4)
theorem g_imul (C : Cx Z) {x y : Int32} (d : decode (xcc Z) pc = .ok (.imul, 1)) (k : G Z Y (pc + 1) (.int (x * y) :: st) L M) : G Z Y pc (.int y :: .int x :: st) L M := fun H lo ls a1 a2 a3 a4 => lv_imul C.1 C.2.1 d (k H lo ls a1 a2 a3 a4)
theorem g_iand (C : Cx Z) {x y : Int32} (d : decode (xcc Z) pc = .ok (.iand, 1)) (k : G Z Y (pc + 1) (.int (x &&& y) :: st) L M) : G Z Y pc (.int y :: .int x :: st) L M := fun H lo ls a1 a2 a3 a4 => lv_iand C.1 C.2.1 d (k H lo ls a1 a2 a3 a4)
theorem g_ior (C : Cx Z) {x y : Int32} (d : decode (xcc Z) pc = .ok (.ior, 1)) (k : G Z Y (pc + 1) (.int (x ||| y) :: st) L M) : G Z Y pc (.int y :: .int x :: st) L M := fun H lo ls a1 a2 a3 a4 => lv_ior C.1 C.2.1 d (k H lo ls a1 a2 a3 a4)
theorem g_ixor (C : Cx Z) {x y : Int32} (d : decode (xcc Z) pc = .ok (.ixor, 1)) (k : G Z Y (pc + 1) (.int (x ^^^ y) :: st) L M) : G Z Y pc (.int y :: .int x :: st) L M := fun H lo ls a1 a2 a3 a4 => lv_ixor C.1 C.2.1 d (k H lo ls a1 a2 a3 a4)
theorem g_idiv (C : Cx Z) {x y : Int32} (d : decode (xcc Z) pc = .ok (.idiv, 1)) (hne : ¬ y = 0) (k : G Z Y (pc + 1) (.int (x / y) :: st) L M) : G Z Y pc (.int y :: .int x :: st) L M := fun H lo ls a1 a2 a3 a4 => lv_idiv C.1 C.2.1 d hne (k H lo ls a1 a2 a3 a4)
theorem g_irem (C : Cx Z) {x y : Int32} (d : decode (xcc Z) pc = .ok (.irem, 1)) (hne : ¬ y = 0) (k : G Z Y (pc + 1) (.int (x - x / y * y) :: st) L M) : G Z Y pc (.int y :: .int x :: st) L M := fun H lo ls a1 a2 a3 a4 => lv_irem C.1 C.2.1 d hne (k H lo ls a1 a2 a3 a4)
theorem g_ineg (C : Cx Z) {x : Int32} (d : decode (xcc Z) pc = .ok (.ineg, 1)) (k : G Z Y (pc + 1) (.int (-x) :: st) L M) : G Z Y pc (.int x :: st) L M := fun H lo ls a1 a2 a3 a4 => lv_ineg C.1 C.2.1 d (k H lo ls a1 a2 a3 a4)
theorem g_ishl (C : Cx Z) {x y : Int32} (d : decode (xcc Z) pc = .ok (.ishl, 1)) (k : G Z Y (pc + 1) (.int (x <<< (y &&& 31)) :: st) L M) : G Z Y pc (.int y :: .int x :: st) L M := fun H lo ls a1 a2 a3 a4 => lv_ishl C.1 C.2.1 d (k H lo ls a1 a2 a3 a4)
theorem g_ishr (C : Cx Z) {x y : Int32} (d : decode (xcc Z) pc = .ok (.ishr, 1)) (k : G Z Y (pc + 1) (.int (x >>> (y &&& 31)) :: st) L M) : G Z Y pc (.int y :: .int x :: st) L M := fun H lo ls a1 a2 a3 a4 => lv_ishr C.1 C.2.1 d (k H lo ls a1 a2 a3 a4)
theorem g_iushr (C : Cx Z) {x y : Int32} (d : decode (xcc Z) pc = .ok (.iushr, 1)) (k : G Z Y (pc + 1) (.int (x.toUInt32 >>> (y.toUInt32 &&& Int32.toUInt32 31)).toInt32 :: st) L M) : G Z Y pc (.int y :: .int x :: st) L M := fun H lo ls a1 a2 a3 a4 => lv_iushr C.1 C.2.1 d rfl (k H lo ls a1 a2 a3 a4)
theorem g_ladd (C : Cx Z) {x y : Int64} (d : decode (xcc Z) pc = .ok (.ladd, 1)) (k : G Z Y (pc + 1) (.long (x + y) :: st) L M) : G Z Y pc (.long y :: .long x :: st) L M := fun H lo ls a1 a2 a3 a4 => lv_ladd C.1 C.2.1 d (k H lo ls a1 a2 a3 a4)
theorem g_lsub (C : Cx Z) {x y : Int64} (d : decode (xcc Z) pc = .ok (.lsub, 1)) (k : G Z Y (pc + 1) (.long (x - y) :: st) L M) : G Z Y pc (.long y :: .long x :: st) L M := fun H lo ls a1 a2 a3 a4 => lv_lsub C.1 C.2.1 d (k H lo ls a1 a2 a3 a4)
theorem g_lmul (C : Cx Z) {x y : Int64} (d : decode (xcc Z) pc = .ok (.lmul, 1)) (k : G Z Y (pc + 1) (.long (x * y) :: st) L M) : G Z Y pc (.long y :: .long x :: st) L M := fun H lo ls a1 a2 a3 a4 => lv_lmul C.1 C.2.1 d (k H lo ls a1 a2 a3 a4)
theorem g_land (C : Cx Z) {x y : Int64} (d : decode (xcc Z) pc = .ok (.land, 1)) (k : G Z Y (pc + 1) (.long (x &&& y) :: st) L M) : G Z Y pc (.long y :: .long x :: st) L M := fun H lo ls a1 a2 a3 a4 => lv_land C.1 C.2.1 d (k H lo ls a1 a2 a3 a4)
theorem g_lor (C : Cx Z) {x y : Int64} (d : decode (xcc Z) pc = .ok (.lor, 1)) (k : G Z Y (pc + 1) (.long (x ||| y) :: st) L M) : G Z Y pc (.long y :: .long x :: st) L M := fun H lo ls a1 a2 a3 a4 => lv_lor C.1 C.2.1 d (k H lo ls a1 a2 a3 a4)
theorem g_ldiv (C : Cx Z) {x y : Int64} (d : decode (xcc Z) pc = .ok (.ldiv, 1)) (hne : ¬ y = 0) (k : G Z Y (pc + 1) (.long (x / y) :: st) L M) : G Z Y pc (.long y :: .long x :: st) L M := fun H lo ls a1 a2 a3 a4 => lv_ldiv C.1 C.2.1 d hne (k H lo ls a1 a2 a3 a4)
theorem g_lrem (C : Cx Z) {x y : Int64} (d : decode (xcc Z) pc = .ok (.lrem, 1)) (hne : ¬ y = 0) (k : G Z Y (pc + 1) (.long (x - x / y * y) :: st) L M) : G Z Y pc (.long y :: .long x :: st) L M := fun H lo ls a1 a2 a3 a4 => lv_lrem C.1 C.2.1 d hne (k H lo ls a1 a2 a3 a4)
theorem g_lshl (C : Cx Z) {x : Int64} {y : Int32} (d : decode (xcc Z) pc = .ok (.lshl, 1)) (k : G Z Y (pc + 1) (.long (x <<< (y.toInt64 &&& 63)) :: st) L M) : G Z Y pc (.int y :: .long x :: st) L M := fun H lo ls a1 a2 a3 a4 => lv_lshl C.1 C.2.1 d rfl (k H lo ls a1 a2 a3 a4)
theorem g_lshr (C : Cx Z) {x : Int64} {y : Int32} (d : decode (xcc Z) pc = .ok (.lshr, 1)) (k : G Z Y (pc + 1) (.long (x >>> (y.toInt64 &&& 63)) :: st) L M) : G Z Y pc (.int y :: .long x :: st) L M := fun H lo ls a1 a2 a3 a4 => lv_lshr C.1 C.2.1 d rfl (k H lo ls a1 a2 a3 a4)
theorem g_lcmp (C : Cx Z) {x y : Int64} (d : decode (xcc Z) pc = .ok (.lcmp, 1)) (k : G Z Y (pc + 1) (.int (lg_cmp x y) :: st) L M) : G Z Y pc (.long y :: .long x :: st) L M := fun H lo ls a1 a2 a3 a4 => W.lcmp C.1 C.2.1 d (k H lo ls a1 a2 a3 a4)
theorem g_i2l (C : Cx Z) {x : Int32} (d : decode (xcc Z) pc = .ok (.i2l, 1)) (k : G Z Y (pc + 1) (.long x.toInt64 :: st) L M) : G Z Y pc (.int x :: st) L M := fun H lo ls a1 a2 a3 a4 => lv_i2l C.1 C.2.1 d rfl (k H lo ls a1 a2 a3 a4)
theorem g_l2i (C : Cx Z) {x : Int64} (d : decode (xcc Z) pc = .ok (.l2i, 1)) (k : G Z Y (pc + 1) (.int x.toInt32 :: st) L M) : G Z Y pc (.long x :: st) L M := fun H lo ls a1 a2 a3 a4 => lv_l2i C.1 C.2.1 d rfl (k H lo ls a1 a2 a3 a4)
theorem g_i2b (C : Cx Z) {x : Int32} (d : decode (xcc Z) pc = .ok (.i2b, 1)) (k : G Z Y (pc + 1) (.int x.toInt8.toInt32 :: st) L M) : G Z Y pc (.int x :: st) L M := fun H lo ls a1 a2 a3 a4 => lv_i2b C.1 C.2.1 d rfl (k H lo ls a1 a2 a3 a4)
theorem g_dup (C : Cx Z) {x : Nat} (d : decode (xcc Z) pc = .ok (.dup, 1)) (k : G Z Y (pc + 1) (.ref x :: .ref x :: st) L M) : G Z Y pc (.ref x :: st) L M := fun H lo ls a1 a2 a3 a4 => lv_dup C.1 C.2.1 d rfl (k H lo ls a1 a2 a3 a4)
theorem g_dup2 (C : Cx Z) {x : Nat} {i : Int32} (d : decode (xcc Z) pc = .ok (.dup2, 1)) (k : G Z Y (pc + 1) (.int i :: .ref x :: .int i :: .ref x :: st) L M) : G Z Y pc (.int i :: .ref x :: st) L M := fun H lo ls a1 a2 a3 a4 => lv_dup2_11 C.1 C.2.1 d rfl rfl (k H lo ls a1 a2 a3 a4)
theorem g_pop (C : Cx Z) {i : Int32} (d : decode (xcc Z) pc = .ok (.pop, 1)) (k : G Z Y (pc + 1) st L M) : G Z Y pc (.int i :: st) L M := fun H lo ls a1 a2 a3 a4 => lv_pop C.1 C.2.1 d rfl (k H lo ls a1 a2 a3 a4)
theorem g_pop2 (C : Cx Z) {i : Int64} (d : decode (xcc Z) pc = .ok (.pop2, 1)) (k : G Z Y (pc + 1) st L M) : G Z Y pc (.long i :: st) L M := fun H lo ls a1 a2 a3 a4 => lv_pop2_2 C.1 C.2.1 d rfl (k H lo ls a1 a2 a3 a4)
theorem g_goto (C : Cx Z) {off : Int} {tgt : Nat} (d : decode (xcc Z) pc = .ok (.goto off, 3)) (ht : (pc : Int) + off = (tgt : Int)) (k : G Z Y tgt st L M) : G Z Y pc st L M := fun H lo ls a1 a2 a3 a4 => lv_goto C.1 C.2.1 d ht (k H lo ls a1 a2 a3 a4)
/-! branches -/
def crel (op : Jvm.ClassFile.Cond) (x y : Int32) : Bool := match op with
  | .eq => decide (x = y)
  | .ne => decide (¬ x = y)
  | .lt => decide (x < y)
  | .ge => decide (y ≤ x)
  | .gt => decide (y < x)
  | .le => decide (x ≤ y)
def cneg (op : Jvm.ClassFile.Cond) : Jvm.ClassFile.Cond := match op with
  | .eq => .ne
  | .ne => .eq
  | .lt => .ge
  | .ge => .lt
  | .gt => .le
  | .le => .gt
theorem crel_neg (op : Jvm.ClassFile.Cond) (x y : Int32) : crel (cneg op) x y = !crel op x y := by
  have h : ∀ a b : Int32, (a < b) ↔ ¬ b ≤ a := fun a b => by
    rw [Int32.lt_iff_toInt_lt, Int32.le_iff_toInt_le]
    omega
  cases op
  · simp [crel, cneg]
  · simp [crel, cneg]
  · simp only [crel, cneg, h x y, decide_not, Bool.not_not]
  · simp only [crel, cneg, h x y, decide_not]
  · simp only [crel, cneg, h y x, decide_not, Bool.not_not]
  · simp only [crel, cneg, h y x, decide_not]
theorem g_icmp (C : Cx Z) {op : Jvm.ClassFile.Cond} {x y : Int32} {off : Int} {tgt : Nat} (d : decode (xcc Z) pc = .ok (.if_icmp op off, 3)) (ht : (pc : Int) + off = (tgt : Int)) (kt : crel op x y = true → G Z Y tgt st L M) (kf : crel op x y = false → G Z Y (pc + 3) st L M) : G Z Y pc (.int y :: .int x :: st) L M := fun H lo ls a1 a2 a3 a4 => by
  cases op
  · exact lv_icmp_eq C.1 C.2.1 d ht (fun h => kt (by simp [crel, h]) H lo ls a1 a2 a3 a4) (fun h => kf (by simp [crel, h]) H lo ls a1 a2 a3 a4)
  · exact lv_icmp_ne C.1 C.2.1 d ht (fun h => kt (by simp [crel, h]) H lo ls a1 a2 a3 a4) (fun h => kf (by simp [crel, h]) H lo ls a1 a2 a3 a4)
  · exact lv_icmp_lt C.1 C.2.1 d ht (fun h => kt (by unfold crel; exact decide_eq_true h) H lo ls a1 a2 a3 a4) (fun h => kf (by unfold crel; exact decide_eq_false h) H lo ls a1 a2 a3 a4)
  · exact lv_icmp_ge C.1 C.2.1 d ht (fun h => kt (by unfold crel; exact decide_eq_true h) H lo ls a1 a2 a3 a4) (fun h => kf (by unfold crel; exact decide_eq_false h) H lo ls a1 a2 a3 a4)
  · exact lv_icmp_gt C.1 C.2.1 d ht (fun h => kt (by unfold crel; exact decide_eq_true h) H lo ls a1 a2 a3 a4) (fun h => kf (by unfold crel; exact decide_eq_false h) H lo ls a1 a2 a3 a4)
  · exact lv_icmp_le C.1 C.2.1 d ht (fun h => kt (by unfold crel; exact decide_eq_true h) H lo ls a1 a2 a3 a4) (fun h => kf (by unfold crel; exact decide_eq_false h) H lo ls a1 a2 a3 a4)
theorem g_if (C : Cx Z) {op : Jvm.ClassFile.Cond} {x : Int32} {off : Int} {tgt : Nat} (d : decode (xcc Z) pc = .ok (.ifCond op off, 3)) (ht : (pc : Int) + off = (tgt : Int)) (kt : crel op x 0 = true → G Z Y tgt st L M) (kf : crel op x 0 = false → G Z Y (pc + 3) st L M) : G Z Y pc (.int x :: st) L M := fun H lo ls a1 a2 a3 a4 => by
  cases op
  · exact lv_if_eq C.1 C.2.1 d ht (fun h => kt (by simp [crel, h]) H lo ls a1 a2 a3 a4) (fun h => kf (by simp [crel, h]) H lo ls a1 a2 a3 a4)
  · exact lv_if_ne C.1 C.2.1 d ht (fun h => kt (by simp [crel, h]) H lo ls a1 a2 a3 a4) (fun h => kf (by simp [crel, h]) H lo ls a1 a2 a3 a4)
  · exact lv_if_lt C.1 C.2.1 d ht (fun h => kt (by unfold crel; exact decide_eq_true h) H lo ls a1 a2 a3 a4) (fun h => kf (by unfold crel; exact decide_eq_false h) H lo ls a1 a2 a3 a4)
  · exact lv_if_ge C.1 C.2.1 d ht (fun h => kt (by unfold crel; exact decide_eq_true h) H lo ls a1 a2 a3 a4) (fun h => kf (by unfold crel; exact decide_eq_false h) H lo ls a1 a2 a3 a4)
  · exact lv_if_gt C.1 C.2.1 d ht (fun h => kt (by unfold crel; exact decide_eq_true h) H lo ls a1 a2 a3 a4) (fun h => kf (by unfold crel; exact decide_eq_false h) H lo ls a1 a2 a3 a4)
  · exact lv_if_le C.1 C.2.1 d ht (fun h => kt (by unfold crel; exact decide_eq_true h) H lo ls a1 a2 a3 a4) (fun h => kf (by unfold crel; exact decide_eq_false h) H lo ls a1 a2 a3 a4)
def swT (pc : Nat) (dflt lo hi : Int) (offs : Array Int) (x : Int32) : Int := if x.toInt < lo ∨ hi < x.toInt then (pc : Int) + dflt else (pc : Int) + (offs[(x.toInt - lo).toNat]?).getD 0
theorem g_table (C : Cx Z) {dflt lo hi : Int} {offs : Array Int} {len tgt : Nat} {x : Int32} (d : decode (xcc Z) pc = .ok (.tableswitch dflt lo hi offs, len)) (hs : (offs.size : Int) = hi - lo + 1) (ht : swT pc dflt lo hi offs x = (tgt : Int)) (kk : G Z Y tgt st L M) : G Z Y pc (.int x :: st) L M := fun H lo2 ls a1 a2 a3 a4 => by
  unfold swT at ht
  by_cases h : x.toInt < lo ∨ hi < x.toInt
  · rw [if_pos h] at ht
    exact lv_tableOut C.1 C.2.1 d h ht (kk H lo2 ls a1 a2 a3 a4)
  · rw [if_neg h] at ht
    have h1 : ¬ x.toInt < lo := fun q => h (Or.inl q)
    have h2 : ¬ hi < x.toInt := fun q => h (Or.inr q)
    have h3 : (x.toInt - lo).toNat < offs.size := by omega
    have h4 : offs[(x.toInt - lo).toNat]? = some offs[(x.toInt - lo).toNat] := Array.getElem?_eq_getElem h3
    rw [h4, Option.getD_some] at ht
    exact lv_tableIn C.1 C.2.1 d h1 h2 h4 ht (kk H lo2 ls a1 a2 a3 a4)
theorem g_lookup (C : Cx Z) {dflt : Int} {ps : Array (Int × Int)} {len tgt : Nat} {x : Int32} (d : decode (xcc Z) pc = .ok (.lookupswitch dflt ps, len)) (hp : (ps.toList.zip (ps.toList.drop 1)).all (fun (a, next) => a.1 < next.1) = true) (ht : (pc : Int) + Op.lookupswitch.offset ps.toList dflt x.toInt = (tgt : Int)) (kk : G Z Y tgt st L M) : G Z Y pc (.int x :: st) L M := fun H lo2 ls a1 a2 a3 a4 => lv_lookup C.1 C.2.1 d hp rfl ht (kk H lo2 ls a1 a2 a3 a4)
/-! fields and rows -/
def clOK (ci : Nat) (Cn : String) (T : u_T) (N : Nat) : Prop := vwCl[ci]? = some (Cn, T, N) ∧ ncl ci = N ∧ (∀ w ∈ u_ws Cn T N, w ∈ lw_g) ∧ (∀ k, k < N → parseFieldDescriptor (T k).2.2.1 = some (tcl ci k)) ∧ ∀ a, a < N → ∀ b, b < N → a ≠ b → (T a).2.1 ≠ (T b).2.1
theorem g_getI (C : Cx Z) {ci N k j index : Nat} {Cn : String} {T : u_T} (K : clOK ci Cn T N) (hY : Y[k]? = some (.inl ci)) (hj : j < N) (hw : Cond.fieldLink (xown Z) index (T j).1 (T j).2.1 (T j).2.2.1 ∈ lw_g) (hty : isIty (tcl ci j) = true) (d : decode (xcc Z) pc = .ok (.getfield index, 3)) (kk : G Z Y (pc + 3) (.int (mI M k j) :: st) L M) : G Z Y pc (.ref (xb Z + k) :: st) L M := fun H lo ls a1 a2 a3 a4 =>
  va_get C.1 C.2.1 C.2.2.2.1 K.2.2.1 C.2.2.1 C.2.2.2.2.1 a2 k (wld_get hY) K.1 j hj (C.2.2.2.1 _ hw) (fun _ h => h) (by rw [wfs_get _ _ _ _ (by rw [K.2.1]; exact hj), wfld_int hty]) d (kk H lo ls a1 a2 a3 a4)
theorem g_getR (C : Cx Z) {ci N k j index t : Nat} {Cn : String} {T : u_T} (K : clOK ci Cn T N) (hY : Y[k]? = some (.inl ci)) (hj : j < N) (hw : Cond.fieldLink (xown Z) index (T j).1 (T j).2.1 (T j).2.2.1 ∈ lw_g) (hty : isRty (tcl ci j) = true) (ht : mR M k j = some t) (d : decode (xcc Z) pc = .ok (.getfield index, 3)) (kk : G Z Y (pc + 3) (.ref (xb Z + t) :: st) L M) : G Z Y pc (.ref (xb Z + k) :: st) L M := fun H lo ls a1 a2 a3 a4 =>
  va_get C.1 C.2.1 C.2.2.2.1 K.2.2.1 C.2.2.1 C.2.2.2.2.1 a2 k (wld_get hY) K.1 j hj (C.2.2.2.1 _ hw) (fun _ h => h) (by rw [wfs_get _ _ _ _ (by rw [K.2.1]; exact hj), wfld_ref hty, ht]; rfl) d (kk H lo ls a1 a2 a3 a4)
theorem g_put0 (C : Cx Z) {ci N k j index : Nat} {Cn : String} {T : u_T} {v : Value} {M' : Mem} (K : clOK ci Cn T N) (hY : Y[k]? = some (.inl ci)) (hj : j < N) (hw : Cond.fieldLink (xown Z) index (T j).1 (T j).2.1 (T j).2.2.1 ∈ lw_g) (hfin : (T j).2.2.2 = false) (hn : narrow (tcl ci j) v = v) (hfit : fits (tcl ci j) v = true) (hM : offK M M' k) (hv : wfld (xb Z) M' k j (tcl ci j) = v) (ho : ∀ j', j' ≠ j → mI M' k j' = mI M k j' ∧ mR M' k j' = mR M k j') (d : decode (xcc Z) pc = .ok (.putfield index, 3)) (kk : G Z Y (pc + 3) st L M') : G Z Y pc (v :: .ref (xb Z + k) :: st) L M := fun H lo ls a1 a2 a3 a4 => by
  have he := wld_get (b := xb Z) (cA := xA Z) (M := M) hY
  have hl : j < (wfs (xb Z) M k ci).length := by rw [wfs_len, K.2.1]; exact hj
  have hap := va_apart (own := xown Z) C.2.2.2.1 K.2.2.1 (tcl ci) K.2.2.2.1 K.2.2.2.2 C.2.2.2.2.1 K.1
  obtain ⟨r, h1, cell, q1, q2, q3, q4⟩ := a2 k _ he
  have hr : r = (Cn, T, N) := Option.some.inj (h1.symm.trans K.1)
  subst hr
  obtain ⟨hS, hfc, kC, hkC, hkind⟩ := C.2.2.2.2.1.1 ci _ K.1
  obtain ⟨cf, kf, fi, f, hi, hsl⟩ := hS j hj
  have hlay := C.2.2.2.1 _ (K.2.2.1 _ (u_in_lay hj))
  unfold u_lay at hlay
  rw [if_neg (by rw [hfin]; decide)] at hlay
  have hst := (u_facts hfc hkC (u_lays C.2.2.2.1 K.2.2.1 hj) hi).1
  have h6 := u_store hfc hkC hkind hlay hi (K.2.2.2.1 j hj) hn hfit
  refine W.putK C.1 C.2.1 (f := f) ⟨C.2.2.1, C.2.2.2.1 _ hw, ⟨_, _, _, hi⟩, hst⟩ (by rw [q2]; exact h6) q1 q3 (by rw [hsl]; exact k2_hasslot (q4 j hj)) rfl rfl d fun H' e1 e2 e3 => ?_
  rw [hsl] at e1 ⊢
  have hp := a2.set (e := .inr (ci, (wfs (xb Z) M k ci).set j v)) wld_D he ⟨_, K.1, t_OB.to (V := updV (vp_V (wfs (xb Z) M k ci)) j v) ⟨_, e1, q2, q3, t_set q4 hap hj v⟩ (fun j _ => vp_updV_set hl v j)⟩ e3
  have hp2 : va_P (xD Z) vwCl (wld (xb Z) (xA Z) Y M') H' := by
    rw [← wld_set (M := M) (M' := M') (b := xb Z) (cA := xA Z) (e := .inr (ci, (wfs (xb Z) M k ci).set j v)) hY (by rw [wfs_set hv ho]; rfl) (went_off hM)]
    exact hp
  exact kk H' _ ls (e2.trans a1) hp2 (a3.put e2 e3 (Nat.le_add_right _ _)) a4
theorem g_putI (C : Cx Z) {ci N k j index : Nat} {Cn : String} {T : u_T} {x : Int32} (K : clOK ci Cn T N) (hY : Y[k]? = some (.inl ci)) (hj : j < N) (hw : Cond.fieldLink (xown Z) index (T j).1 (T j).2.1 (T j).2.2.1 ∈ lw_g) (hfin : (T j).2.2.2 = false) (hty : isIty (tcl ci j) = true) (hx : narrow (tcl ci j) (.int x) = .int x ∧ fits (tcl ci j) (.int x) = true) (d : decode (xcc Z) pc = .ok (.putfield index, 3)) (kk : G Z Y (pc + 3) st L (sI M k j x)) : G Z Y pc (.int x :: .ref (xb Z + k) :: st) L M :=
  g_put0 C K hY hj hw hfin hx.1 hx.2 (off_sI M k j x) (by rw [wfld_int hty, mI_sI, if_pos ⟨rfl, rfl⟩]) (fun j' h => ⟨by rw [mI_sI, if_neg (fun q => h q.2)], rfl⟩) d kk
theorem g_putR (C : Cx Z) {ci N k j index t : Nat} {Cn : String} {T : u_T} (K : clOK ci Cn T N) (hY : Y[k]? = some (.inl ci)) (hj : j < N) (hw : Cond.fieldLink (xown Z) index (T j).1 (T j).2.1 (T j).2.2.1 ∈ lw_g) (hfin : (T j).2.2.2 = false) (hty : isRty (tcl ci j) = true) (d : decode (xcc Z) pc = .ok (.putfield index, 3)) (kk : G Z Y (pc + 3) st L (sR M k j (some t))) : G Z Y pc (.ref (xb Z + t) :: .ref (xb Z + k) :: st) L M :=
  g_put0 C K hY hj hw hfin (by cases h : tcl ci j <;> rw [h] at hty <;> first | rfl | (simp [isRty] at hty)) (by cases h : tcl ci j <;> rw [h] at hty <;> first | rfl | (simp [isRty] at hty)) (off_sR M k j (some t)) (by rw [wfld_ref hty, mR_sR, if_pos ⟨rfl, rfl⟩]; rfl) (fun j' h => ⟨rfl, by rw [mR_sR, if_neg (fun q => h q.2)]⟩) d kk
theorem g_iald (C : Cx Z) {k n : Nat} {i : Int32} (hY : Y[k]? = some (.inr (.int, n))) (hi : vp_in i n) (d : decode (xcc Z) pc = .ok (.iaload, 1)) (kk : G Z Y (pc + 1) (.int (mI M k i.toNatClampNeg) :: st) L M) : G Z Y pc (.int i :: .ref (xb Z + k) :: st) L M := fun H lo ls a1 a2 a3 a4 =>
  va_iald C.1 C.2.1 C.2.2.2.2.1 a2 k 0 (wld_get hY) rfl hi d (kk H lo ls a1 a2 a3 a4)
theorem g_bald (C : Cx Z) {k n : Nat} {i : Int32} (hY : Y[k]? = some (.inr (.byte, n))) (hi : vp_in i n) (d : decode (xcc Z) pc = .ok (.baload, 1)) (kk : G Z Y (pc + 1) (.int (mI M k i.toNatClampNeg) :: st) L M) : G Z Y pc (.int i :: .ref (xb Z + k) :: st) L M := fun H lo ls a1 a2 a3 a4 =>
  va_bald C.1 C.2.1 C.2.2.2.2.1 a2 k 2 (wld_get hY) rfl hi d (kk H lo ls a1 a2 a3 a4)
theorem g_zald (C : Cx Z) {k n : Nat} {i : Int32} (hY : Y[k]? = some (.inr (.boolean, n))) (hi : vp_in i n) (d : decode (xcc Z) pc = .ok (.baload, 1)) (kk : G Z Y (pc + 1) (.int (mI M k i.toNatClampNeg) :: st) L M) : G Z Y pc (.int i :: .ref (xb Z + k) :: st) L M := fun H lo ls a1 a2 a3 a4 =>
  va_zald C.1 C.2.1 C.2.2.2.2.1 a2 k 3 (wld_get hY) rfl hi d (kk H lo ls a1 a2 a3 a4)
theorem g_lald (C : Cx Z) {k n : Nat} {i : Int32} (hY : Y[k]? = some (.inr (.long, n))) (hi : vp_in i n) (d : decode (xcc Z) pc = .ok (.laload, 1)) (kk : G Z Y (pc + 1) (.long (mL M k i.toNatClampNeg) :: st) L M) : G Z Y pc (.int i :: .ref (xb Z + k) :: st) L M := fun H lo ls a1 a2 a3 a4 =>
  va_lald C.1 C.2.1 C.2.2.2.2.1 a2 k 1 (wld_get hY) rfl hi d (kk H lo ls a1 a2 a3 a4)
theorem g_aald (C : Cx Z) {k n t : Nat} {i : Int32} (hY : Y[k]? = some (.inr (.array .int, n))) (hi : vp_in i n) (ht : mR M k i.toNatClampNeg = some t) (d : decode (xcc Z) pc = .ok (.aaload, 1)) (kk : G Z Y (pc + 1) (.ref (xb Z + t) :: st) L M) : G Z Y pc (.int i :: .ref (xb Z + k) :: st) L M := fun H lo ls a1 a2 a3 a4 => by
  have ha := wld_get (b := xb Z) (cA := xA Z) (M := M) hY
  have hlt : i.toNatClampNeg < n := Nat.not_le.mp fun q => hi (Or.inr q)
  have h1 := a2 k _ ha
  exact W.aald (v := .ref (xb Z + t)) (ty := .array .int) C.1 C.2.1 h1 ((C.2.2.2.2.1.2 4 _ rfl).1 n (fun j => va_rf ((mR M k j).map (xb Z + ·)))) rfl (fun q => by cases q) (by show ¬ (i < 0 ∨ (arrV _ _ _).slots.size ≤ _); rw [arrV_size]; exact hi) (by show (arrV _ _ _).slots[_]? = _; rw [arrV_read _ _ hlt]; show some (va_rf ((mR M k i.toNatClampNeg).map (xb Z + ·))) = _; rw [ht]; rfl) rfl rfl d (kk H lo ls a1 a2 a3 a4)
theorem g_st0 {k : Nat} {M' : Mem} {sh : Sh} {H H1 : Heap} {lo : List Loc} {ls : Array Slot} {idx : Nat} (hY : Y[k]? = some sh) (hM : offK M M' k) (a1 : H.size = xb Z + Y.length) (a2 : va_P (xD Z) vwCl (wld (xb Z) (xA Z) Y M) H) (a3 : va_S (fun q => xb Z ≤ q) (xs Z).heap H lo) (a4 : LocOK (xE Z) (xb Z) (xnL Z) ls L) (he : va_at (xD Z) vwCl (xb Z + k, went (xb Z) (xA Z) M' k sh) H1) (z : H1.size = H.size) (oq : ∀ q : Nat, q ≠ xb Z + k → H1[q]? = H[q]?) (kk : G Z Y pc st L M') : W (xp Z) (xl Z) (xe Z) (xR Z) (xs Z) (xm Z) (xargs Z) (xbelow Z) (xmeth Z) (xc Z) H1 (lo ++ [⟨xb Z + k, idx⟩]) (Y.length - xy0 Z) (szs Y - xs0 Z) (xQ Z) (F0 (xm Z) pc ls st) := by
  have hp := a2.set wld_D (wld_get hY) he oq
  rw [wld_set (M' := M') hY rfl (went_off hM)] at hp
  exact kk H1 _ ls (z.trans a1) hp (a3.put z oq (Nat.le_add_right _ _)) a4
theorem g_iast (C : Cx Z) {k n : Nat} {i x : Int32} (hY : Y[k]? = some (.inr (.int, n))) (hi : vp_in i n) (d : decode (xcc Z) pc = .ok (.iastore, 1)) (kk : G Z Y (pc + 1) st L (sI M k i.toNatClampNeg x)) : G Z Y pc (.int x :: .int i :: .ref (xb Z + k) :: st) L M := fun H lo ls a1 a2 a3 a4 => by
  refine W.iast C.1 C.2.1 (a2 k _ (wld_get hY)) ((C.2.2.2.2.1.2 0 _ rfl).1 n (fun j => .int (mI M k j))) (fun q => by cases q) (by show ¬ (i < 0 ∨ (arrV _ _ _).slots.size ≤ _); rw [arrV_size]; exact hi) rfl rfl d fun H1 e z oq => ?_
  refine g_st0 hY (off_sI M k i.toNatClampNeg x) a1 a2 a3 a4 ?_ z oq kk
  show H1[xb Z + k]? = some (vp_cell _ _)
  rw [e]
  show some ((arrV (xA Z .int) n (fun j => .int (mI M k j))).setSlot _ _) = some (arrV (xA Z .int) n (fun j => .int (mI (sI M k i.toNatClampNeg x) k j)))
  rw [mI_upd, arrV_store]
  congr 2
  funext q
  by_cases hq : q = i.toNatClampNeg
  · subst hq
    simp [updV, upd]
  · simp [updV, upd, hq]
theorem g_bast (C : Cx Z) {k n : Nat} {i x : Int32} (hY : Y[k]? = some (.inr (.byte, n))) (hi : vp_in i n) (d : decode (xcc Z) pc = .ok (.bastore, 1)) (kk : G Z Y (pc + 1) st L (sI M k i.toNatClampNeg (vp_nar .byte x))) : G Z Y pc (.int x :: .int i :: .ref (xb Z + k) :: st) L M := fun H lo ls a1 a2 a3 a4 => by
  refine W.bast C.1 C.2.1 (a2 k _ (wld_get hY)) ((C.2.2.2.2.1.2 2 _ rfl).1 n (fun j => .int (mI M k j))) (fun q => by cases q) (by show ¬ (i < 0 ∨ (arrV _ _ _).slots.size ≤ _); rw [arrV_size]; exact hi) rfl rfl d fun H1 e z oq => ?_
  refine g_st0 hY (off_sI M k i.toNatClampNeg (vp_nar .byte x)) a1 a2 a3 a4 ?_ z oq kk
  show H1[xb Z + k]? = some (vp_cell _ _)
  rw [e]
  show some ((arrV (xA Z .byte) n (fun j => .int (mI M k j))).setSlot _ _) = some (arrV (xA Z .byte) n (fun j => .int (mI (sI M k i.toNatClampNeg (vp_nar .byte x)) k j)))
  rw [mI_upd, arrV_store]
  congr 2
  funext q
  by_cases hq : q = i.toNatClampNeg
  · subst hq
    simp [updV, upd, vp_nar]
    try rfl
  · simp [updV, upd, hq]
theorem g_zast (C : Cx Z) {k n : Nat} {i x : Int32} (hY : Y[k]? = some (.inr (.boolean, n))) (hi : vp_in i n) (d : decode (xcc Z) pc = .ok (.bastore, 1)) (kk : G Z Y (pc + 1) st L (sI M k i.toNatClampNeg (vp_nar .boolean x))) : G Z Y pc (.int x :: .int i :: .ref (xb Z + k) :: st) L M := fun H lo ls a1 a2 a3 a4 => by
  refine W.zast C.1 C.2.1 (a2 k _ (wld_get hY)) ((C.2.2.2.2.1.2 3 _ rfl).1 n (fun j => .int (mI M k j))) (fun q => by cases q) (by show ¬ (i < 0 ∨ (arrV _ _ _).slots.size ≤ _); rw [arrV_size]; exact hi) rfl rfl d fun H1 e z oq => ?_
  refine g_st0 hY (off_sI M k i.toNatClampNeg (vp_nar .boolean x)) a1 a2 a3 a4 ?_ z oq kk
  show H1[xb Z + k]? = some (vp_cell _ _)
  rw [e]
  show some ((arrV (xA Z .boolean) n (fun j => .int (mI M k j))).setSlot _ _) = some (arrV (xA Z .boolean) n (fun j => .int (mI (sI M k i.toNatClampNeg (vp_nar .boolean x)) k j)))
  rw [mI_upd, arrV_store]
  congr 2
  funext q
  by_cases hq : q = i.toNatClampNeg
  · subst hq
    simp [updV, upd, vp_nar]
    try rfl
  · simp [updV, upd, hq]
theorem g_last (C : Cx Z) {k n : Nat} {i : Int32} {x : Int64} (hY : Y[k]? = some (.inr (.long, n))) (hi : vp_in i n) (d : decode (xcc Z) pc = .ok (.lastore, 1)) (kk : G Z Y (pc + 1) st L (sL M k i.toNatClampNeg x)) : G Z Y pc (.long x :: .int i :: .ref (xb Z + k) :: st) L M := fun H lo ls a1 a2 a3 a4 => by
  refine W.last C.1 C.2.1 (a2 k _ (wld_get hY)) ((C.2.2.2.2.1.2 1 _ rfl).1 n (fun j => .long (mL M k j))) (fun q => by cases q) (by show ¬ (i < 0 ∨ (arrV _ _ _).slots.size ≤ _); rw [arrV_size]; exact hi) rfl rfl d fun H1 e z oq => ?_
  refine g_st0 hY (off_sL M k i.toNatClampNeg x) a1 a2 a3 a4 ?_ z oq kk
  show H1[xb Z + k]? = some (vp_cell _ _)
  rw [e]
  show some ((arrV (xA Z .long) n (fun j => .long (mL M k j))).setSlot _ _) = some (arrV (xA Z .long) n (fun j => .long (mL (sL M k i.toNatClampNeg x) k j)))
  rw [mL_upd, arrV_store]
  congr 2
  funext q
  by_cases hq : q = i.toNatClampNeg
  · subst hq
    simp [updV, vp_updL]
  · simp [updV, vp_updL, hq]
/-! the static rows: getstatic, an index, iaload -/
theorem g_stX (C : Cx Z) {index : Nat} (hw : Cond.fieldLinkNest (xown Z) index "GhostQuarter" "STEP_X" "[I" "GhostQuarter" ∈ lw_n) (d : decode (xcc Z) pc = .ok (.getstatic index, 3)) (kk : ∀ t : Nat, va_T .int t 5 stX (fun q => xb Z ≤ q) (xs Z) (xs Z).heap → G Z Y (pc + 3) (.ref t :: st) L M) : G Z Y pc st L M := fun H lo ls a1 a2 a3 a4 => by
  obtain ⟨h1, ⟨t1, c1, c2⟩, -⟩ := C.2.2.2.2.2.1
  exact va_getsN C.1 C.2.1 c1 a3 C.2.2.1 (va_Nw.use rfl (h1 _ hw)) (fun _ h => h) d (kk t1 c2 H lo ls a1 a2 a3 a4)
theorem g_stY (C : Cx Z) {index : Nat} (hw : Cond.fieldLinkNest (xown Z) index "GhostQuarter" "STEP_Y" "[I" "GhostQuarter" ∈ lw_n) (d : decode (xcc Z) pc = .ok (.getstatic index, 3)) (kk : ∀ t : Nat, va_T .int t 5 stY (fun q => xb Z ≤ q) (xs Z) (xs Z).heap → G Z Y (pc + 3) (.ref t :: st) L M) : G Z Y pc st L M := fun H lo ls a1 a2 a3 a4 => by
  obtain ⟨h1, -, ⟨t1, c1, c2⟩, -⟩ := C.2.2.2.2.2.1
  exact va_getsN C.1 C.2.1 c1 a3 C.2.2.1 (va_Nw.use rfl (h1 _ hw)) (fun _ h => h) d (kk t1 c2 H lo ls a1 a2 a3 a4)
theorem g_sti (C : Cx Z) {t : Nat} {f : Nat → Value} {i v : Int32} (hT : va_T .int t 5 f (fun q => xb Z ≤ q) (xs Z) (xs Z).heap) (hi : vp_in i 5) (hv : f i.toNatClampNeg = .int v) (d : decode (xcc Z) pc = .ok (.iaload, 1)) (kk : G Z Y (pc + 1) (.int v :: st) L M) : G Z Y pc (.int i :: .ref t :: st) L M := fun H lo ls a1 a2 a3 a4 =>
  va_ti C.1 C.2.1 hT a3 hi hv d (kk H lo ls a1 a2 a3 a4)
end RULES
