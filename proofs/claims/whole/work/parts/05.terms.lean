/-! PART 05: terms, conditions, statements: their meanings (predicate transformers), and what code has such a meaning -/
abbrev EI : Type := LS0 → Mem → (Int32 → Mem → Prop) → Prop
abbrev EL : Type := LS0 → Mem → (Int64 → Mem → Prop) → Prop
abbrev ER : Type := LS0 → Mem → (Nat → Mem → Prop) → Prop
abbrev EC : Type := LS0 → Mem → (Mem → Prop) → (Mem → Prop) → Prop
abbrev EA : Type := LS0 → Mem → (List LV → Mem → Prop) → Prop
abbrev ES : Type := (LS0 → Mem → Prop) → (LS0 → Mem → Prop) → (LS0 → Mem → Prop) → (LV → Mem → Prop) → LS0 → Mem → Prop
/-! terms -/
def eInt (v : Int32) : EI := fun _ M Q => Q v M
def eLng (v : Int64) : EL := fun _ M Q => Q v M
def eLoc (i : Nat) : EI := fun L M Q => ∃ x, L[i]? = some (some (vI x)) ∧ Q x M
def eLocL (i : Nat) : EL := fun L M Q => ∃ x, L[i]? = some (some (vL x)) ∧ Q x M
def eLocR (i : Nat) : ER := fun L M Q => ∃ k, L[i]? = some (some (vR k)) ∧ Q k M
def eBin (f : Int32 → Int32 → Int32) (a b : EI) : EI := fun L M Q => a L M fun x M => b L M fun y M => Q (f x y) M
def eDiv (a b : EI) : EI := fun L M Q => a L M fun x M => b L M fun y M => ¬ y = 0 ∧ Q (x / y) M
def eRem (a b : EI) : EI := fun L M Q => a L M fun x M => b L M fun y M => ¬ y = 0 ∧ Q (x - x / y * y) M
def eUn (f : Int32 → Int32) (a : EI) : EI := fun L M Q => a L M fun x M => Q (f x) M
def eBinL (f : Int64 → Int64 → Int64) (a b : EL) : EL := fun L M Q => a L M fun x M => b L M fun y M => Q (f x y) M
def eDivL (a b : EL) : EL := fun L M Q => a L M fun x M => b L M fun y M => ¬ y = 0 ∧ Q (x / y) M
def eRemL (a b : EL) : EL := fun L M Q => a L M fun x M => b L M fun y M => ¬ y = 0 ∧ Q (x - x / y * y) M
def eShL (f : Int64 → Int32 → Int64) (a : EL) (b : EI) : EL := fun L M Q => a L M fun x M => b L M fun y M => Q (f x y) M
def eI2L (a : EI) : EL := fun L M Q => a L M fun x M => Q x.toInt64 M
def eL2I (a : EL) : EI := fun L M Q => a L M fun x M => Q x.toInt32 M
def eFld (Y : List Sh) (ci j : Nat) (o : ER) : EI := fun L M Q => o L M fun k M => Y[k]? = some (.inl ci) ∧ Q (mI M k j) M
def eFldR (Y : List Sh) (ci j : Nat) (o : ER) : ER := fun L M Q => o L M fun k M => Y[k]? = some (.inl ci) ∧ ∃ t, mR M k j = some t ∧ Q t M
def eEl (Y : List Sh) (ty : FieldType) (a : ER) (i : EI) : EI := fun L M Q => a L M fun k M => i L M fun x M => ∃ n, Y[k]? = some (.inr (ty, n)) ∧ vp_in x n ∧ Q (mI M k x.toNatClampNeg) M
def eElL (Y : List Sh) (a : ER) (i : EI) : EL := fun L M Q => a L M fun k M => i L M fun x M => ∃ n, Y[k]? = some (.inr (.long, n)) ∧ vp_in x n ∧ Q (mL M k x.toNatClampNeg) M
def eElR (Y : List Sh) (a : ER) (i : EI) : ER := fun L M Q => a L M fun k M => i L M fun x M => ∃ n, Y[k]? = some (.inr (.array .int, n)) ∧ vp_in x n ∧ ∃ t, mR M k x.toNatClampNeg = some t ∧ Q t M
def eSt (f : Nat → Int32) (i : EI) : EI := fun L M Q => i L M fun x M => vp_in x 5 ∧ Q (f x.toNatClampNeg) M
def eTern (c : EC) (a b : EI) : EI := fun L M Q => c L M (fun M => a L M Q) (fun M => b L M Q)
def eTernL (c : EC) (a b : EL) : EL := fun L M Q => c L M (fun M => a L M Q) (fun M => b L M Q)
def aNil : EA := fun _ M Q => Q [] M
def aI (e : EI) (as : EA) : EA := fun L M Q => e L M fun x M => as L M fun vs M => Q (vI x :: vs) M
def aL (e : EL) (as : EA) : EA := fun L M Q => e L M fun x M => as L M fun vs M => Q (vL x :: vs) M
def aR (e : ER) (as : EA) : EA := fun L M Q => e L M fun k M => as L M fun vs M => Q (vR k :: vs) M
def eCall (T : PT) (as : EA) : EI := fun L M Q => as L M fun vs M => T vs M fun r M => ∃ x, r = vI x ∧ Q x M
def eCallL (T : PT) (as : EA) : EL := fun L M Q => as L M fun vs M => T vs M fun r M => ∃ x, r = vL x ∧ Q x M
/-! conditions: what follows where it holds, and where it doesn't -/
def cCmp (op : Jvm.ClassFile.Cond) (a b : EI) : EC := fun L M T F => a L M fun x M => b L M fun y M => if crel op x y = true then T M else F M
def cZ (op : Jvm.ClassFile.Cond) (a : EI) : EC := fun L M T F => a L M fun x M => if crel op x 0 = true then T M else F M
def cLng (op : Jvm.ClassFile.Cond) (a b : EL) : EC := fun L M T F => a L M fun x M => b L M fun y M => if crel op (lg_cmp x y) 0 = true then T M else F M
def cAnd (a b : EC) : EC := fun L M T F => a L M (fun M => b L M T F) F
def cOr (a b : EC) : EC := fun L M T F => a L M T (fun M => b L M T F)
def cNot (a : EC) : EC := fun L M T F => a L M F T
def cTrue : EC := fun _ M T _ => T M
/-! statements: N goes on, B leaves the loop or switch, C begins its next turn, R answers -/
def sSkip : ES := fun N _ _ _ L M => N L M
def sSeq (a b : ES) : ES := fun N B C R L M => a (b N B C R) B C R L M
def sSetI (i : Nat) (e : EI) : ES := fun N _ _ _ L M => e L M fun x M => okS L i = true ∧ N (L.set i (some (vI x))) M
def sSetL (i : Nat) (e : EL) : ES := fun N _ _ _ L M => e L M fun x M => okS L i = true ∧ N ((L.set i (some (vL x))).set (i + 1) none) M
def sSetR (i : Nat) (e : ER) : ES := fun N _ _ _ L M => e L M fun k M => okS L i = true ∧ N (L.set i (some (vR k))) M
def sInc (i : Nat) (n : Int) : ES := fun N _ _ _ L M => ∃ x, L[i]? = some (some (vI x)) ∧ okS L i = true ∧ N (L.set i (some (vI (x + Int32.ofInt n)))) M
def sPutI (Y : List Sh) (ci j : Nat) (o : ER) (e : EI) : ES := fun N _ _ _ L M => o L M fun k M => e L M fun x M => Y[k]? = some (.inl ci) ∧ N L (sI M k j x)
def sPutZ (Y : List Sh) (ci j : Nat) (o : ER) (e : EI) : ES := fun N _ _ _ L M => o L M fun k M => e L M fun x M => Y[k]? = some (.inl ci) ∧ (x = 0 ∨ x = 1) ∧ N L (sI M k j x)
def sPutR (Y : List Sh) (ci j : Nat) (o : ER) (e : ER) : ES := fun N _ _ _ L M => o L M fun k M => e L M fun t M => Y[k]? = some (.inl ci) ∧ N L (sR M k j (some t))
def sOpF (Y : List Sh) (ci j : Nat) (o : ER) (g : Int32 → EI) : ES := fun N _ _ _ L M => o L M fun k M => Y[k]? = some (.inl ci) ∧ g (mI M k j) L M fun x M => N L (sI M k j x)
def sAst (Y : List Sh) (ty : FieldType) (a : ER) (i e : EI) : ES := fun N _ _ _ L M => a L M fun k M => i L M fun x M => e L M fun y M => ∃ n, Y[k]? = some (.inr (ty, n)) ∧ vp_in x n ∧ N L (sI M k x.toNatClampNeg (vp_nar ty y))
def sAstL (Y : List Sh) (a : ER) (i : EI) (e : EL) : ES := fun N _ _ _ L M => a L M fun k M => i L M fun x M => e L M fun y M => ∃ n, Y[k]? = some (.inr (.long, n)) ∧ vp_in x n ∧ N L (sL M k x.toNatClampNeg y)
def sOpA (Y : List Sh) (a : ER) (i : EI) (g : Int32 → EI) : ES := fun N _ _ _ L M => a L M fun k M => i L M fun x M => ∃ n, Y[k]? = some (.inr (.int, n)) ∧ vp_in x n ∧ g (mI M k x.toNatClampNeg) L M fun y M => N L (sI M k x.toNatClampNeg y)
def sOpAL (Y : List Sh) (a : ER) (i : EI) (g : Int64 → EL) : ES := fun N _ _ _ L M => a L M fun k M => i L M fun x M => ∃ n, Y[k]? = some (.inr (.long, n)) ∧ vp_in x n ∧ g (mL M k x.toNatClampNeg) L M fun y M => N L (sL M k x.toNatClampNeg y)
def sExp (e : EI) : ES := fun N _ _ _ L M => e L M fun _ M => N L M
def sCall (T : PT) (as : EA) : ES := fun N _ _ _ L M => as L M fun vs M => T vs M fun _ M => N L M
def sIte (c : EC) (a b : ES) : ES := fun N B C R L M => c L M (fun M => a N B C R L M) (fun M => b N B C R L M)
def noB : LS0 → Mem → Prop := fun _ _ => False
def itL (c : EC) (body u : ES) (N : LS0 → Mem → Prop) (R : LV → Mem → Prop) : Nat → LS0 → Mem → Prop
  | 0 => fun _ _ => False
  | n + 1 => fun L M => c L M (fun M => body (u (itL c body u N R n) noB noB R) N (u (itL c body u N R n) noB noB R) R L M) (fun M => N L M)
def sLoop (c : EC) (body u : ES) : ES := fun N _ _ R L M => ∃ n, itL c body u N R n L M
def sRetI (e : EI) : ES := fun _ _ _ R L M => e L M fun x M => R (vI x) M
def sRetZ (e : EI) : ES := fun _ _ _ R L M => e L M fun x M => (x = 0 ∨ x = 1) ∧ R (vI x) M
def sRetL (e : EL) : ES := fun _ _ _ R L M => e L M fun x M => R (vL x) M
def sRetV : ES := fun _ _ _ R _ M => R (vI 0) M
def sBrk : ES := fun _ B _ _ L M => B L M
def sCont : ES := fun _ _ C _ L M => C L M
def sSw (e : EI) (br : Int32 → ES) : ES := fun N _ C R L M => e L M fun x M => br x N N C R L M
/-- a method: its body over its arguments -/
def mth (nL : Nat) (body : ES) : PT := fun as M Q => argW as ≤ nL ∧ body noB noB noB Q (entL nL as) M
/-! what code has such a meaning; n: how many words may stand on the stack below -/
def ImpI (Z : Px) (n pc pc' : Nat) (e : EI) : Prop := ∀ (st : List Value) (L : LS0) (M : Mem) (Q : Int32 → Mem → Prop), cat st ≤ n → (∀ x M', Q x M' → G Z pc' (.int x :: st) L M') → e L M Q → G Z pc st L M
def ImpL (Z : Px) (n pc pc' : Nat) (e : EL) : Prop := ∀ (st : List Value) (L : LS0) (M : Mem) (Q : Int64 → Mem → Prop), cat st ≤ n → (∀ x M', Q x M' → G Z pc' (.long x :: st) L M') → e L M Q → G Z pc st L M
def ImpR (Z : Px) (n pc pc' : Nat) (e : ER) : Prop := ∀ (st : List Value) (L : LS0) (M : Mem) (Q : Nat → Mem → Prop), cat st ≤ n → (∀ k M', Q k M' → G Z pc' (.ref (xb Z + k) :: st) L M') → e L M Q → G Z pc st L M
def ImpA (Z : Px) (n pc pc' np : Nat) (e : EA) : Prop := ∀ (st : List Value) (L : LS0) (M : Mem) (Q : List LV → Mem → Prop), cat st ≤ n → (∀ vs M', vs.length = np → Q vs M' → G Z pc' ((vs.map (cv (xb Z))).reverse ++ st) L M') → e L M Q → G Z pc st L M
def ImpC (Z : Px) (n pc T F : Nat) (c : EC) : Prop := ∀ (st : List Value) (L : LS0) (M : Mem) (QT QF : Mem → Prop), cat st ≤ n → (∀ M', QT M' → G Z T st L M') → (∀ M', QF M' → G Z F st L M') → c L M QT QF → G Z pc st L M
def ImpS (Z : Px) (R : LV → Mem → Prop) (pc pc' pB pC : Nat) (s : ES) : Prop := ∀ (L : LS0) (M : Mem) (N B C : LS0 → Mem → Prop), (∀ L M, N L M → G Z pc' [] L M) → (∀ L M, B L M → G Z pB [] L M) → (∀ L M, C L M → G Z pC [] L M) → s N B C R L M → G Z pc [] L M
theorem cat_i (x : Int32) (st : List Value) : cat (.int x :: st) = 1 + cat st := by simp [cat, Value.category]
theorem cat_l (x : Int64) (st : List Value) : cat (.long x :: st) = 2 + cat st := by simp [cat, Value.category]
theorem cat_r (x : Nat) (st : List Value) : cat (.ref x :: st) = 1 + cat st := by simp [cat, Value.category]
theorem cat_i1 {x : Int32} {st : List Value} {n : Nat} (h : cat st ≤ n) : cat (.int x :: st) ≤ n + 1 := by rw [cat_i]; omega
theorem cat_r1 {x : Nat} {st : List Value} {n : Nat} (h : cat st ≤ n) : cat (.ref x :: st) ≤ n + 1 := by rw [cat_r]; omega
theorem cat_l2 {x : Int64} {st : List Value} {n : Nat} (h : cat st ≤ n) : cat (.long x :: st) ≤ n + 2 := by rw [cat_l]; omega
section IMP
variable {Z : Px} {n pc p1 p2 p3 : Nat}
theorem iConst (C : Cx Z) {k : Int} {v : Int32} (d : decode (xcc Z) pc = .ok (.iconst k, 1)) (hv : Int32.ofInt k = v) : ImpI Z n pc (pc + 1) (eInt v) := fun _ _ _ _ _ k h => g_iconst C d hv (k _ _ h)
theorem iBi (C : Cx Z) {k : Int} {v : Int32} (d : decode (xcc Z) pc = .ok (.bipush k, 2)) (hv : (Int8.ofInt k).toInt32 = v) : ImpI Z n pc (pc + 2) (eInt v) := fun _ _ _ _ _ k h => g_bipush C d hv (k _ _ h)
theorem iSi (C : Cx Z) {k : Int} {v : Int32} (d : decode (xcc Z) pc = .ok (.sipush k, 3)) (hv : (Int16.ofInt k).toInt32 = v) : ImpI Z n pc (pc + 3) (eInt v) := fun _ _ _ _ _ k h => g_sipush C d hv (k _ _ h)
theorem iLdc (C : Cx Z) {i : Nat} {v : Int32} (hw : (Cond.constant (xown Z) i v) ∈ lw_g) (d : decode (xcc Z) pc = .ok (.ldc i, 2)) : ImpI Z n pc (pc + 2) (eInt v) := fun _ _ _ _ _ k h => g_ldc C hw d (k _ _ h)
theorem iLdcw (C : Cx Z) {i : Nat} {v : Int32} (hw : (Cond.constant (xown Z) i v) ∈ lw_g) (d : decode (xcc Z) pc = .ok (.ldc_w i, 3)) : ImpI Z n pc (pc + 3) (eInt v) := fun _ _ _ _ _ k h => g_ldcw C hw d (k _ _ h)
theorem lLdc (C : Cx Z) {i : Nat} {v : Int64} (hw : (Cond.constantLong (xown Z) i v) ∈ lw_g) (d : decode (xcc Z) pc = .ok (.ldc2_w i, 3)) : ImpL Z n pc (pc + 3) (eLng v) := fun _ _ _ _ _ k h => g_ldc2 C hw d (k _ _ h)
theorem lConst (C : Cx Z) {k : Fin 2} {v : Int64} (d : decode (xcc Z) pc = .ok (.lconst k, 1)) (hv : Int64.ofNat (k : Nat) = v) : ImpL Z n pc (pc + 1) (eLng v) := fun _ _ _ _ _ k h => g_lconst C d hv (k _ _ h)
theorem iLocn (C : Cx Z) {k : Fin 4} {i : Nat} (d : decode (xcc Z) pc = .ok (.iload_n k, 1)) (hi : (k : Nat) = i) : ImpI Z n pc (pc + 1) (eLoc i) := fun _ _ _ _ _ k ⟨_, h1, h2⟩ => g_iload_n C d hi h1 (k _ _ h2)
theorem iLoc (C : Cx Z) {i : Nat} (d : decode (xcc Z) pc = .ok (.iload i, 2)) : ImpI Z n pc (pc + 2) (eLoc i) := fun _ _ _ _ _ k ⟨_, h1, h2⟩ => g_iload C d h1 (k _ _ h2)
theorem lLocn (C : Cx Z) {k : Fin 4} {i : Nat} (d : decode (xcc Z) pc = .ok (.lload_n k, 1)) (hi : (k : Nat) = i) : ImpL Z n pc (pc + 1) (eLocL i) := fun _ _ _ _ _ k ⟨_, h1, h2⟩ => g_lload_n C d hi h1 (k _ _ h2)
theorem lLoc (C : Cx Z) {i : Nat} (d : decode (xcc Z) pc = .ok (.lload i, 2)) : ImpL Z n pc (pc + 2) (eLocL i) := fun _ _ _ _ _ k ⟨_, h1, h2⟩ => g_lload C d h1 (k _ _ h2)
theorem rLocn (C : Cx Z) {k : Fin 4} {i : Nat} (d : decode (xcc Z) pc = .ok (.aload_n k, 1)) (hi : (k : Nat) = i) : ImpR Z n pc (pc + 1) (eLocR i) := fun _ _ _ _ _ k ⟨_, h1, h2⟩ => g_aload_n C d hi h1 (k _ _ h2)
theorem rLoc (C : Cx Z) {i : Nat} (d : decode (xcc Z) pc = .ok (.aload i, 2)) : ImpR Z n pc (pc + 2) (eLocR i) := fun _ _ _ _ _ k ⟨_, h1, h2⟩ => g_aload C d h1 (k _ _ h2)
theorem iAdd (C : Cx Z) {a b : EI} (ha : ImpI Z n pc p1 a) (hb : ImpI Z (n + 1) p1 p2 b) (d : decode (xcc Z) p2 = .ok (.iadd, 1)) : ImpI Z n pc (p2 + 1) (eBin (· + ·) a b) := fun st L M Q hc k h => ha st L M _ hc (fun x M1 h1 => hb _ L M1 _ (cat_i1 hc) (fun y M2 h2 => g_iadd C d (k _ _ h2)) h1) h
theorem iSub (C : Cx Z) {a b : EI} (ha : ImpI Z n pc p1 a) (hb : ImpI Z (n + 1) p1 p2 b) (d : decode (xcc Z) p2 = .ok (.isub, 1)) : ImpI Z n pc (p2 + 1) (eBin (· - ·) a b) := fun st L M Q hc k h => ha st L M _ hc (fun x M1 h1 => hb _ L M1 _ (cat_i1 hc) (fun y M2 h2 => g_isub C d (k _ _ h2)) h1) h
theorem iMul (C : Cx Z) {a b : EI} (ha : ImpI Z n pc p1 a) (hb : ImpI Z (n + 1) p1 p2 b) (d : decode (xcc Z) p2 = .ok (.imul, 1)) : ImpI Z n pc (p2 + 1) (eBin (· * ·) a b) := fun st L M Q hc k h => ha st L M _ hc (fun x M1 h1 => hb _ L M1 _ (cat_i1 hc) (fun y M2 h2 => g_imul C d (k _ _ h2)) h1) h
theorem iAnd (C : Cx Z) {a b : EI} (ha : ImpI Z n pc p1 a) (hb : ImpI Z (n + 1) p1 p2 b) (d : decode (xcc Z) p2 = .ok (.iand, 1)) : ImpI Z n pc (p2 + 1) (eBin (· &&& ·) a b) := fun st L M Q hc k h => ha st L M _ hc (fun x M1 h1 => hb _ L M1 _ (cat_i1 hc) (fun y M2 h2 => g_iand C d (k _ _ h2)) h1) h
theorem iOr (C : Cx Z) {a b : EI} (ha : ImpI Z n pc p1 a) (hb : ImpI Z (n + 1) p1 p2 b) (d : decode (xcc Z) p2 = .ok (.ior, 1)) : ImpI Z n pc (p2 + 1) (eBin (· ||| ·) a b) := fun st L M Q hc k h => ha st L M _ hc (fun x M1 h1 => hb _ L M1 _ (cat_i1 hc) (fun y M2 h2 => g_ior C d (k _ _ h2)) h1) h
theorem iXor (C : Cx Z) {a b : EI} (ha : ImpI Z n pc p1 a) (hb : ImpI Z (n + 1) p1 p2 b) (d : decode (xcc Z) p2 = .ok (.ixor, 1)) : ImpI Z n pc (p2 + 1) (eBin (· ^^^ ·) a b) := fun st L M Q hc k h => ha st L M _ hc (fun x M1 h1 => hb _ L M1 _ (cat_i1 hc) (fun y M2 h2 => g_ixor C d (k _ _ h2)) h1) h
def iShlF (x y : Int32) : Int32 := x <<< (y &&& 31)
def iShrF (x y : Int32) : Int32 := x >>> (y &&& 31)
def iUshrF (x y : Int32) : Int32 := (x.toUInt32 >>> (y.toUInt32 &&& Int32.toUInt32 31)).toInt32
def lShlF (x : Int64) (y : Int32) : Int64 := x <<< (y.toInt64 &&& 63)
def lShrF (x : Int64) (y : Int32) : Int64 := x >>> (y.toInt64 &&& 63)
theorem iShl (C : Cx Z) {a b : EI} (ha : ImpI Z n pc p1 a) (hb : ImpI Z (n + 1) p1 p2 b) (d : decode (xcc Z) p2 = .ok (.ishl, 1)) : ImpI Z n pc (p2 + 1) (eBin iShlF a b) := fun st L M Q hc k h => ha st L M _ hc (fun x M1 h1 => hb _ L M1 _ (cat_i1 hc) (fun y M2 h2 => g_ishl C d (k _ _ h2)) h1) h
theorem iShr (C : Cx Z) {a b : EI} (ha : ImpI Z n pc p1 a) (hb : ImpI Z (n + 1) p1 p2 b) (d : decode (xcc Z) p2 = .ok (.ishr, 1)) : ImpI Z n pc (p2 + 1) (eBin iShrF a b) := fun st L M Q hc k h => ha st L M _ hc (fun x M1 h1 => hb _ L M1 _ (cat_i1 hc) (fun y M2 h2 => g_ishr C d (k _ _ h2)) h1) h
theorem iUshr (C : Cx Z) {a b : EI} (ha : ImpI Z n pc p1 a) (hb : ImpI Z (n + 1) p1 p2 b) (d : decode (xcc Z) p2 = .ok (.iushr, 1)) : ImpI Z n pc (p2 + 1) (eBin iUshrF a b) := fun st L M Q hc k h => ha st L M _ hc (fun x M1 h1 => hb _ L M1 _ (cat_i1 hc) (fun y M2 h2 => g_iushr C d (k _ _ h2)) h1) h
theorem iDiv (C : Cx Z) {a b : EI} (ha : ImpI Z n pc p1 a) (hb : ImpI Z (n + 1) p1 p2 b) (d : decode (xcc Z) p2 = .ok (.idiv, 1)) : ImpI Z n pc (p2 + 1) (eDiv a b) := fun st L M Q hc k h => ha st L M _ hc (fun x M1 h1 => hb _ L M1 _ (cat_i1 hc) (fun y M2 h2 => g_idiv C d h2.1 (k _ _ h2.2)) h1) h
theorem iRem (C : Cx Z) {a b : EI} (ha : ImpI Z n pc p1 a) (hb : ImpI Z (n + 1) p1 p2 b) (d : decode (xcc Z) p2 = .ok (.irem, 1)) : ImpI Z n pc (p2 + 1) (eRem a b) := fun st L M Q hc k h => ha st L M _ hc (fun x M1 h1 => hb _ L M1 _ (cat_i1 hc) (fun y M2 h2 => g_irem C d h2.1 (k _ _ h2.2)) h1) h
theorem iNeg (C : Cx Z) {a : EI} (ha : ImpI Z n pc p1 a) (d : decode (xcc Z) p1 = .ok (.ineg, 1)) : ImpI Z n pc (p1 + 1) (eUn (fun x => -x) a) := fun st L M Q hc k h => ha st L M _ hc (fun x M1 h1 => g_ineg C d (k _ _ h1)) h
theorem iI2b (C : Cx Z) {a : EI} (ha : ImpI Z n pc p1 a) (d : decode (xcc Z) p1 = .ok (.i2b, 1)) : ImpI Z n pc (p1 + 1) (eUn (fun x => x.toInt8.toInt32) a) := fun st L M Q hc k h => ha st L M _ hc (fun x M1 h1 => g_i2b C d (k _ _ h1)) h
theorem lAdd (C : Cx Z) {a b : EL} (ha : ImpL Z n pc p1 a) (hb : ImpL Z (n + 2) p1 p2 b) (d : decode (xcc Z) p2 = .ok (.ladd, 1)) : ImpL Z n pc (p2 + 1) (eBinL (· + ·) a b) := fun st L M Q hc k h => ha st L M _ hc (fun x M1 h1 => hb _ L M1 _ (cat_l2 hc) (fun y M2 h2 => g_ladd C d (k _ _ h2)) h1) h
theorem lSub (C : Cx Z) {a b : EL} (ha : ImpL Z n pc p1 a) (hb : ImpL Z (n + 2) p1 p2 b) (d : decode (xcc Z) p2 = .ok (.lsub, 1)) : ImpL Z n pc (p2 + 1) (eBinL (· - ·) a b) := fun st L M Q hc k h => ha st L M _ hc (fun x M1 h1 => hb _ L M1 _ (cat_l2 hc) (fun y M2 h2 => g_lsub C d (k _ _ h2)) h1) h
theorem lMul (C : Cx Z) {a b : EL} (ha : ImpL Z n pc p1 a) (hb : ImpL Z (n + 2) p1 p2 b) (d : decode (xcc Z) p2 = .ok (.lmul, 1)) : ImpL Z n pc (p2 + 1) (eBinL (· * ·) a b) := fun st L M Q hc k h => ha st L M _ hc (fun x M1 h1 => hb _ L M1 _ (cat_l2 hc) (fun y M2 h2 => g_lmul C d (k _ _ h2)) h1) h
theorem lAnd (C : Cx Z) {a b : EL} (ha : ImpL Z n pc p1 a) (hb : ImpL Z (n + 2) p1 p2 b) (d : decode (xcc Z) p2 = .ok (.land, 1)) : ImpL Z n pc (p2 + 1) (eBinL (· &&& ·) a b) := fun st L M Q hc k h => ha st L M _ hc (fun x M1 h1 => hb _ L M1 _ (cat_l2 hc) (fun y M2 h2 => g_land C d (k _ _ h2)) h1) h
theorem lOr (C : Cx Z) {a b : EL} (ha : ImpL Z n pc p1 a) (hb : ImpL Z (n + 2) p1 p2 b) (d : decode (xcc Z) p2 = .ok (.lor, 1)) : ImpL Z n pc (p2 + 1) (eBinL (· ||| ·) a b) := fun st L M Q hc k h => ha st L M _ hc (fun x M1 h1 => hb _ L M1 _ (cat_l2 hc) (fun y M2 h2 => g_lor C d (k _ _ h2)) h1) h
theorem lDiv (C : Cx Z) {a b : EL} (ha : ImpL Z n pc p1 a) (hb : ImpL Z (n + 2) p1 p2 b) (d : decode (xcc Z) p2 = .ok (.ldiv, 1)) : ImpL Z n pc (p2 + 1) (eDivL a b) := fun st L M Q hc k h => ha st L M _ hc (fun x M1 h1 => hb _ L M1 _ (cat_l2 hc) (fun y M2 h2 => g_ldiv C d h2.1 (k _ _ h2.2)) h1) h
theorem lRem (C : Cx Z) {a b : EL} (ha : ImpL Z n pc p1 a) (hb : ImpL Z (n + 2) p1 p2 b) (d : decode (xcc Z) p2 = .ok (.lrem, 1)) : ImpL Z n pc (p2 + 1) (eRemL a b) := fun st L M Q hc k h => ha st L M _ hc (fun x M1 h1 => hb _ L M1 _ (cat_l2 hc) (fun y M2 h2 => g_lrem C d h2.1 (k _ _ h2.2)) h1) h
theorem lShl (C : Cx Z) {a : EL} {b : EI} (ha : ImpL Z n pc p1 a) (hb : ImpI Z (n + 2) p1 p2 b) (d : decode (xcc Z) p2 = .ok (.lshl, 1)) : ImpL Z n pc (p2 + 1) (eShL lShlF a b) := fun st L M Q hc k h => ha st L M _ hc (fun x M1 h1 => hb _ L M1 _ (cat_l2 hc) (fun y M2 h2 => g_lshl C d (k _ _ h2)) h1) h
theorem lShr (C : Cx Z) {a : EL} {b : EI} (ha : ImpL Z n pc p1 a) (hb : ImpI Z (n + 2) p1 p2 b) (d : decode (xcc Z) p2 = .ok (.lshr, 1)) : ImpL Z n pc (p2 + 1) (eShL lShrF a b) := fun st L M Q hc k h => ha st L M _ hc (fun x M1 h1 => hb _ L M1 _ (cat_l2 hc) (fun y M2 h2 => g_lshr C d (k _ _ h2)) h1) h
theorem lI2l (C : Cx Z) {a : EI} (ha : ImpI Z n pc p1 a) (d : decode (xcc Z) p1 = .ok (.i2l, 1)) : ImpL Z n pc (p1 + 1) (eI2L a) := fun st L M Q hc k h => ha st L M _ hc (fun x M1 h1 => g_i2l C d (k _ _ h1)) h
theorem iL2i (C : Cx Z) {a : EL} (ha : ImpL Z n pc p1 a) (d : decode (xcc Z) p1 = .ok (.l2i, 1)) : ImpI Z n pc (p1 + 1) (eL2I a) := fun st L M Q hc k h => ha st L M _ hc (fun x M1 h1 => g_l2i C d (k _ _ h1)) h
theorem iFld (C : Cx Z) {ci N j index : Nat} {Cn : String} {T : u_T} {o : ER} (K : clOK ci Cn T N) (hj : j < N) (hty : isIty (tcl ci j) = true) (hw : Cond.fieldLink (xown Z) index (T j).1 (T j).2.1 (T j).2.2.1 ∈ lw_g) (ho : ImpR Z n pc p1 o) (d : decode (xcc Z) p1 = .ok (.getfield index, 3)) : ImpI Z n pc (p1 + 3) (eFld (xY Z) ci j o) := fun st L M Q hc k h => ho st L M _ hc (fun x M1 h1 => g_getI C K h1.1 hj hw hty d (k _ _ h1.2)) h
theorem rFld (C : Cx Z) {ci N j index : Nat} {Cn : String} {T : u_T} {o : ER} (K : clOK ci Cn T N) (hj : j < N) (hty : isRty (tcl ci j) = true) (hw : Cond.fieldLink (xown Z) index (T j).1 (T j).2.1 (T j).2.2.1 ∈ lw_g) (ho : ImpR Z n pc p1 o) (d : decode (xcc Z) p1 = .ok (.getfield index, 3)) : ImpR Z n pc (p1 + 3) (eFldR (xY Z) ci j o) := fun st L M Q hc k h => ho st L M _ hc (fun x M1 ⟨h1, t, h2, h3⟩ => g_getR C K h1 hj hw hty h2 d (k _ _ h3)) h
theorem iEl (C : Cx Z) {a : ER} {i : EI} (ha : ImpR Z n pc p1 a) (hi : ImpI Z (n + 1) p1 p2 i) (d : decode (xcc Z) p2 = .ok (.iaload, 1)) : ImpI Z n pc (p2 + 1) (eEl (xY Z) .int a i) := fun st L M Q hc k h => ha st L M _ hc (fun x M1 h1 => hi _ L M1 _ (cat_r1 hc) (fun y M2 ⟨N, q1, q2, q3⟩ => g_iald C q1 q2 d (k _ _ q3)) h1) h
theorem iElB (C : Cx Z) {a : ER} {i : EI} (ha : ImpR Z n pc p1 a) (hi : ImpI Z (n + 1) p1 p2 i) (d : decode (xcc Z) p2 = .ok (.baload, 1)) : ImpI Z n pc (p2 + 1) (eEl (xY Z) .byte a i) := fun st L M Q hc k h => ha st L M _ hc (fun x M1 h1 => hi _ L M1 _ (cat_r1 hc) (fun y M2 ⟨N, q1, q2, q3⟩ => g_bald C q1 q2 d (k _ _ q3)) h1) h
theorem iElZ (C : Cx Z) {a : ER} {i : EI} (ha : ImpR Z n pc p1 a) (hi : ImpI Z (n + 1) p1 p2 i) (d : decode (xcc Z) p2 = .ok (.baload, 1)) : ImpI Z n pc (p2 + 1) (eEl (xY Z) .boolean a i) := fun st L M Q hc k h => ha st L M _ hc (fun x M1 h1 => hi _ L M1 _ (cat_r1 hc) (fun y M2 ⟨N, q1, q2, q3⟩ => g_zald C q1 q2 d (k _ _ q3)) h1) h
theorem lEl (C : Cx Z) {a : ER} {i : EI} (ha : ImpR Z n pc p1 a) (hi : ImpI Z (n + 1) p1 p2 i) (d : decode (xcc Z) p2 = .ok (.laload, 1)) : ImpL Z n pc (p2 + 1) (eElL (xY Z) a i) := fun st L M Q hc k h => ha st L M _ hc (fun x M1 h1 => hi _ L M1 _ (cat_r1 hc) (fun y M2 ⟨N, q1, q2, q3⟩ => g_lald C q1 q2 d (k _ _ q3)) h1) h
theorem rEl (C : Cx Z) {a : ER} {i : EI} (ha : ImpR Z n pc p1 a) (hi : ImpI Z (n + 1) p1 p2 i) (d : decode (xcc Z) p2 = .ok (.aaload, 1)) : ImpR Z n pc (p2 + 1) (eElR (xY Z) a i) := fun st L M Q hc k h => ha st L M _ hc (fun x M1 h1 => hi _ L M1 _ (cat_r1 hc) (fun y M2 ⟨N, q1, q2, t, q3, q4⟩ => g_aald C q1 q2 q3 d (k _ _ q4)) h1) h
theorem stpX_ok (j : Nat) : stX j = .int (stpX j) := rfl
theorem stpY_ok (j : Nat) : stY j = .int (stpY j) := rfl
theorem iStX (C : Cx Z) {index : Nat} {i : EI} (hw : Cond.fieldLinkNest (xown Z) index "GhostQuarter" "STEP_X" "[I" "GhostQuarter" ∈ lw_n) (d0 : decode (xcc Z) pc = .ok (.getstatic index, 3)) (hi : ImpI Z (n + 1) (pc + 3) p2 i) (d : decode (xcc Z) p2 = .ok (.iaload, 1)) : ImpI Z n pc (p2 + 1) (eSt stpX i) := fun st L M Q hc k h => g_stX C hw d0 fun t hT => hi _ L M _ (cat_r1 hc) (fun y M2 h2 => g_sti C hT h2.1 (stpX_ok _) d (k _ _ h2.2)) h
theorem iStY (C : Cx Z) {index : Nat} {i : EI} (hw : Cond.fieldLinkNest (xown Z) index "GhostQuarter" "STEP_Y" "[I" "GhostQuarter" ∈ lw_n) (d0 : decode (xcc Z) pc = .ok (.getstatic index, 3)) (hi : ImpI Z (n + 1) (pc + 3) p2 i) (d : decode (xcc Z) p2 = .ok (.iaload, 1)) : ImpI Z n pc (p2 + 1) (eSt stpY i) := fun st L M Q hc k h => g_stY C hw d0 fun t hT => hi _ L M _ (cat_r1 hc) (fun y M2 h2 => g_sti C hT h2.1 (stpY_ok _) d (k _ _ h2.2)) h
theorem iTern (C : Cx Z) {c : EC} {a b : EI} {T F : Nat} {off : Int} (hc : ImpC Z n pc T F c) (ha : ImpI Z n T p1 a) (d : decode (xcc Z) p1 = .ok (.goto off, 3)) (ht : (p1 : Int) + off = (p2 : Int)) (hb : ImpI Z n F p2 b) : ImpI Z n pc p2 (eTern c a b) := fun st L M Q hk k h => hc st L M _ _ hk (fun M1 h1 => ha st L M1 _ hk (fun x M2 h2 => g_goto C d ht (k _ _ h2)) h1) (fun M1 h1 => hb st L M1 _ hk k h1) h
theorem lTern (C : Cx Z) {c : EC} {a b : EL} {T F : Nat} {off : Int} (hc : ImpC Z n pc T F c) (ha : ImpL Z n T p1 a) (d : decode (xcc Z) p1 = .ok (.goto off, 3)) (ht : (p1 : Int) + off = (p2 : Int)) (hb : ImpL Z n F p2 b) : ImpL Z n pc p2 (eTernL c a b) := fun st L M Q hk k h => hc st L M _ _ hk (fun M1 h1 => ha st L M1 _ hk (fun x M2 h2 => g_goto C d ht (k _ _ h2)) h1) (fun M1 h1 => hb st L M1 _ hk k h1) h
/-! arguments, calls -/
theorem xNil : ImpA Z n pc pc 0 aNil := fun st L M Q hc k h => k [] M rfl h
theorem xI {e : EI} {as : EA} {np : Nat} (he : ImpI Z n pc p1 e) (ha : ImpA Z (n + 1) p1 p2 np as) : ImpA Z n pc p2 (np + 1) (aI e as) := fun st L M Q hc k h => he st L M _ hc (fun x M1 h1 => ha _ L M1 _ (cat_i1 hc) (fun vs M2 hl h2 => by
  have q := k (vI x :: vs) M2 (by rw [List.length_cons, hl]) h2
  rw [List.map_cons, List.reverse_cons, List.append_assoc] at q
  exact q) h1) h
theorem xL {e : EL} {as : EA} {np : Nat} (he : ImpL Z n pc p1 e) (ha : ImpA Z (n + 2) p1 p2 np as) : ImpA Z n pc p2 (np + 1) (aL e as) := fun st L M Q hc k h => he st L M _ hc (fun x M1 h1 => ha _ L M1 _ (cat_l2 hc) (fun vs M2 hl h2 => by
  have q := k (vL x :: vs) M2 (by rw [List.length_cons, hl]) h2
  rw [List.map_cons, List.reverse_cons, List.append_assoc] at q
  exact q) h1) h
theorem xR1 {e : ER} {as : EA} {np : Nat} (he : ImpR Z n pc p1 e) (ha : ImpA Z (n + 1) p1 p2 np as) : ImpA Z n pc p2 (np + 1) (aR e as) := fun st L M Q hc k h => he st L M _ hc (fun x M1 h1 => ha _ L M1 _ (cat_r1 hc) (fun vs M2 hl h2 => by
  have q := k (vR x :: vs) M2 (by rw [List.length_cons, hl]) h2
  rw [List.map_cons, List.reverse_cons, List.append_assoc] at q
  exact q) h1) h
/-- an instruction that calls: static, static of a nest mate, virtual (the receiver's class is known of its number) -/
def CallAt (Z : Px) (pc np : Nat) (y : MethodName) (ret : Option FieldType) (T : List Sh → PT) : Prop := ∀ (M : Mem) (as : List LV), as.length = np → Runs Z pc M y ret T as
theorem caS (C : Cx Z) {y : MethodName} {bytes : ByteArray} {nL d index np : Nat} {ret : Option FieldType} {T : List Sh → PT} (S : Snd y bytes nL ret d T) (K : Cal Z y bytes nL ret d np) (hl : Cond.methodLink (xown Z) index y ∈ lw_g) (hs : Cond.static y ∈ lw_g) (dg : decode (xcc Z) pc = .ok (.invokestatic index, 3)) : CallAt Z pc np y ret T := fun M as hn => by
  subst hn
  exact runs_S C S K hl hs dg
theorem caSN (C : Cx Z) {y : MethodName} {bytes : ByteArray} {nL d index np : Nat} {host : String} {ret : Option FieldType} {T : List Sh → PT} (S : Snd y bytes nL ret d T) (K : Cal Z y bytes nL ret d np) (hl : Cond.methodLinkNest (xown Z) index y host ∈ lw_n) (hs : Cond.static y ∈ lw_g) (dg : decode (xcc Z) pc = .ok (.invokestatic index, 3)) : CallAt Z pc np y ret T := fun M as hn => by
  subst hn
  exact runs_SN C S K hl hs dg
theorem iCall (C : Cx Z) {as : EA} {np : Nat} {y : MethodName} {ty : FieldType} {T : List Sh → PT} (hty : isIty ty = true) (hn : n ≤ 8) (ha : ImpA Z n pc p1 np as) (hr : CallAt Z p1 np y (some ty) T) : ImpI Z n pc (p1 + 3) (eCall (T (xY Z)) as) := fun st L M Q hc k h => ha st L M _ hc (fun vs M1 hl h1 => g_calli C hty (hr M1 vs hl) (Nat.le_trans hc hn) h1 (fun x M2 ⟨x', hx, h2⟩ => by
  cases hx
  exact k x M2 h2)) h
theorem lCall (C : Cx Z) {as : EA} {np : Nat} {y : MethodName} {T : List Sh → PT} (hn : n ≤ 8) (ha : ImpA Z n pc p1 np as) (hr : CallAt Z p1 np y (some .long) T) : ImpL Z n pc (p1 + 3) (eCallL (T (xY Z)) as) := fun st L M Q hc k h => ha st L M _ hc (fun vs M1 hl h1 => g_calll C (hr M1 vs hl) (Nat.le_trans hc hn) h1 (fun x M2 ⟨x', hx, h2⟩ => by
  cases hx
  exact k x M2 h2)) h
/-! conditions -/
theorem cCmpT (C : Cx Z) {op : Jvm.ClassFile.Cond} {a b : EI} {T : Nat} {off : Int} (ha : ImpI Z n pc p1 a) (hb : ImpI Z (n + 1) p1 p2 b) (d : decode (xcc Z) p2 = .ok (.if_icmp op off, 3)) (ht : (p2 : Int) + off = (T : Int)) : ImpC Z n pc T (p2 + 3) (cCmp op a b) := fun st L M QT QF hc kT kF h => ha st L M _ hc (fun x M1 h1 => hb _ L M1 _ (cat_i1 hc) (fun y M2 h2 => g_icmp C d ht (fun e => by rw [if_pos e] at h2; exact kT _ h2) (fun e => by rw [if_neg (by rw [e]; decide)] at h2; exact kF _ h2)) h1) h
theorem cCmpF (C : Cx Z) {op : Jvm.ClassFile.Cond} {a b : EI} {F : Nat} {off : Int} (ha : ImpI Z n pc p1 a) (hb : ImpI Z (n + 1) p1 p2 b) (d : decode (xcc Z) p2 = .ok (.if_icmp (cneg op) off, 3)) (ht : (p2 : Int) + off = (F : Int)) : ImpC Z n pc (p2 + 3) F (cCmp op a b) := fun st L M QT QF hc kT kF h => ha st L M _ hc (fun x M1 h1 => hb _ L M1 _ (cat_i1 hc) (fun y M2 h2 => g_icmp C d ht (fun e => by rw [crel_neg] at e; rw [if_neg (by intro q; rw [q] at e; cases e)] at h2; exact kF _ h2) (fun e => by rw [crel_neg] at e; rw [if_pos (by cases q : crel op x y; rw [q] at e; cases e; rfl)] at h2; exact kT _ h2)) h1) h
theorem cZT (C : Cx Z) {op : Jvm.ClassFile.Cond} {a : EI} {T : Nat} {off : Int} (ha : ImpI Z n pc p2 a) (d : decode (xcc Z) p2 = .ok (.ifCond op off, 3)) (ht : (p2 : Int) + off = (T : Int)) : ImpC Z n pc T (p2 + 3) (cZ op a) := fun st L M QT QF hc kT kF h => ha st L M _ hc (fun x M1 h2 => g_if C d ht (fun e => by rw [if_pos e] at h2; exact kT _ h2) (fun e => by rw [if_neg (by rw [e]; decide)] at h2; exact kF _ h2)) h
theorem cZF (C : Cx Z) {op : Jvm.ClassFile.Cond} {a : EI} {F : Nat} {off : Int} (ha : ImpI Z n pc p2 a) (d : decode (xcc Z) p2 = .ok (.ifCond (cneg op) off, 3)) (ht : (p2 : Int) + off = (F : Int)) : ImpC Z n pc (p2 + 3) F (cZ op a) := fun st L M QT QF hc kT kF h => ha st L M _ hc (fun x M1 h2 => g_if C d ht (fun e => by rw [crel_neg] at e; rw [if_neg (by intro q; rw [q] at e; cases e)] at h2; exact kF _ h2) (fun e => by rw [crel_neg] at e; rw [if_pos (by cases q : crel op x 0; rw [q] at e; cases e; rfl)] at h2; exact kT _ h2)) h
theorem cLngT (C : Cx Z) {op : Jvm.ClassFile.Cond} {a b : EL} {T : Nat} {off : Int} (ha : ImpL Z n pc p1 a) (hb : ImpL Z (n + 2) p1 p2 b) (d1 : decode (xcc Z) p2 = .ok (.lcmp, 1)) (d : decode (xcc Z) (p2 + 1) = .ok (.ifCond op off, 3)) (ht : ((p2 + 1 : Nat) : Int) + off = (T : Int)) : ImpC Z n pc T (p2 + 1 + 3) (cLng op a b) := fun st L M QT QF hc kT kF h => ha st L M _ hc (fun x M1 h1 => hb _ L M1 _ (cat_l2 hc) (fun y M2 h2 => g_lcmp C d1 (g_if C d ht (fun e => by rw [if_pos e] at h2; exact kT _ h2) (fun e => by rw [if_neg (by rw [e]; decide)] at h2; exact kF _ h2))) h1) h
theorem cLngF (C : Cx Z) {op : Jvm.ClassFile.Cond} {a b : EL} {F : Nat} {off : Int} (ha : ImpL Z n pc p1 a) (hb : ImpL Z (n + 2) p1 p2 b) (d1 : decode (xcc Z) p2 = .ok (.lcmp, 1)) (d : decode (xcc Z) (p2 + 1) = .ok (.ifCond (cneg op) off, 3)) (ht : ((p2 + 1 : Nat) : Int) + off = (F : Int)) : ImpC Z n pc (p2 + 1 + 3) F (cLng op a b) := fun st L M QT QF hc kT kF h => ha st L M _ hc (fun x M1 h1 => hb _ L M1 _ (cat_l2 hc) (fun y M2 h2 => g_lcmp C d1 (g_if C d ht (fun e => by rw [crel_neg] at e; rw [if_neg (by intro q; rw [q] at e; cases e)] at h2; exact kF _ h2) (fun e => by rw [crel_neg] at e; rw [if_pos (by cases q : crel op (lg_cmp x y) 0; rw [q] at e; cases e; rfl)] at h2; exact kT _ h2))) h1) h
theorem cAndI {a b : EC} {T F : Nat} (ha : ImpC Z n pc p1 F a) (hb : ImpC Z n p1 T F b) : ImpC Z n pc T F (cAnd a b) := fun st L M QT QF hc kT kF h => ha st L M _ _ hc (fun M1 h1 => hb st L M1 _ _ hc kT kF h1) kF h
theorem cOrI {a b : EC} {T F : Nat} (ha : ImpC Z n pc T p1 a) (hb : ImpC Z n p1 T F b) : ImpC Z n pc T F (cOr a b) := fun st L M QT QF hc kT kF h => ha st L M _ _ hc kT (fun M1 h1 => hb st L M1 _ _ hc kT kF h1) h
theorem cNotI {a : EC} {T F : Nat} (ha : ImpC Z n pc F T a) : ImpC Z n pc T F (cNot a) := fun st L M QT QF hc kT kF h => ha st L M _ _ hc kF kT h
theorem cTrueI {F : Nat} : ImpC Z n pc pc F cTrue := fun st L M QT QF hc kT kF h => kT M h
/-- a jump's aim that is itself a goto -/
theorem cGoT (C : Cx Z) {a : EC} {T F : Nat} {off : Int} (ha : ImpC Z n pc p1 F a) (d : decode (xcc Z) p1 = .ok (.goto off, 3)) (ht : (p1 : Int) + off = (T : Int)) : ImpC Z n pc T F a := fun st L M QT QF hc kT kF h => ha st L M _ _ hc (fun M1 h1 => g_goto C d ht (kT M1 h1)) kF h
theorem cGoF (C : Cx Z) {a : EC} {T F : Nat} {off : Int} (ha : ImpC Z n pc T p1 a) (d : decode (xcc Z) p1 = .ok (.goto off, 3)) (ht : (p1 : Int) + off = (F : Int)) : ImpC Z n pc T F a := fun st L M QT QF hc kT kF h => ha st L M _ _ hc kT (fun M1 h1 => g_goto C d ht (kF M1 h1)) h
end IMP
section IMPS
variable {Z : Px} {R : LV → Mem → Prop} {pc p1 p2 p3 p4 pB pC : Nat}
theorem tSkip : ImpS Z R pc pc pB pC sSkip := fun L M N B C hN hB hC h => hN L M h
theorem tSeq {a b : ES} (ha : ImpS Z R pc p1 pB pC a) (hb : ImpS Z R p1 p2 pB pC b) : ImpS Z R pc p2 pB pC (sSeq a b) := fun L M N B C hN hB hC h => ha L M _ B C (fun L M h1 => hb L M N B C hN hB hC h1) hB hC h
theorem tGo (C : Cx Z) {a : ES} {off : Int} (ha : ImpS Z R pc p1 pB pC a) (d : decode (xcc Z) p1 = .ok (.goto off, 3)) (ht : (p1 : Int) + off = (p2 : Int)) : ImpS Z R pc p2 pB pC a := fun L M N B K hN hB hC h => ha L M _ B K (fun L M h1 => g_goto C d ht (hN L M h1)) hB hC h
/-- a statement that never goes on behind itself may be said to go on anywhere -/
theorem tSetIn (C : Cx Z) {e : EI} {k : Fin 4} {i : Nat} (he : ImpI Z 0 pc p1 e) (d : decode (xcc Z) p1 = .ok (.istore_n k, 1)) (hi : (k : Nat) = i) (hn : i < xnL Z) : ImpS Z R pc (p1 + 1) pB pC (sSetI i e) := fun L M N B K hN hB hC h => he [] L M _ (Nat.le_refl _) (fun x M1 h1 => g_istore_n C d hi hn h1.1 (hN _ _ h1.2)) h
theorem tSetI (C : Cx Z) {e : EI} {i : Nat} (he : ImpI Z 0 pc p1 e) (d : decode (xcc Z) p1 = .ok (.istore i, 2)) (hn : i < xnL Z) : ImpS Z R pc (p1 + 2) pB pC (sSetI i e) := fun L M N B K hN hB hC h => he [] L M _ (Nat.le_refl _) (fun x M1 h1 => g_istore C d hn h1.1 (hN _ _ h1.2)) h
theorem tSetLn (C : Cx Z) {e : EL} {k : Fin 4} {i : Nat} (he : ImpL Z 0 pc p1 e) (d : decode (xcc Z) p1 = .ok (.lstore_n k, 1)) (hi : (k : Nat) = i) (hn : i + 1 < xnL Z) : ImpS Z R pc (p1 + 1) pB pC (sSetL i e) := fun L M N B K hN hB hC h => he [] L M _ (Nat.le_refl _) (fun x M1 h1 => g_lstore_n C d hi hn h1.1 (hN _ _ h1.2)) h
theorem tSetL (C : Cx Z) {e : EL} {i : Nat} (he : ImpL Z 0 pc p1 e) (d : decode (xcc Z) p1 = .ok (.lstore i, 2)) (hn : i + 1 < xnL Z) : ImpS Z R pc (p1 + 2) pB pC (sSetL i e) := fun L M N B K hN hB hC h => he [] L M _ (Nat.le_refl _) (fun x M1 h1 => g_lstore C d hn h1.1 (hN _ _ h1.2)) h
theorem tSetRn (C : Cx Z) {e : ER} {k : Fin 4} {i : Nat} (he : ImpR Z 0 pc p1 e) (d : decode (xcc Z) p1 = .ok (.astore_n k, 1)) (hi : (k : Nat) = i) (hn : i < xnL Z) : ImpS Z R pc (p1 + 1) pB pC (sSetR i e) := fun L M N B K hN hB hC h => he [] L M _ (Nat.le_refl _) (fun x M1 h1 => g_astore_n C d hi hn h1.1 (hN _ _ h1.2)) h
theorem tSetR (C : Cx Z) {e : ER} {i : Nat} (he : ImpR Z 0 pc p1 e) (d : decode (xcc Z) p1 = .ok (.astore i, 2)) (hn : i < xnL Z) : ImpS Z R pc (p1 + 2) pB pC (sSetR i e) := fun L M N B K hN hB hC h => he [] L M _ (Nat.le_refl _) (fun x M1 h1 => g_astore C d hn h1.1 (hN _ _ h1.2)) h
theorem tInc (C : Cx Z) {i : Nat} {k : Int} (d : decode (xcc Z) pc = .ok (.iinc i k, 3)) (hn : i < xnL Z) : ImpS Z R pc (pc + 3) pB pC (sInc i k) := fun L M N B K hN hB hC ⟨x, h1, h2, h3⟩ => g_iinc C d h1 rfl hn h2 (hN _ _ h3)
theorem tPutI (C : Cx Z) {ci N j index : Nat} {Cn : String} {T : u_T} {o : ER} {e : EI} (K : clOK ci Cn T N) (hj : j < N) (hty : tcl ci j = .int) (hfin : (T j).2.2.2 = false) (hw : Cond.fieldLink (xown Z) index (T j).1 (T j).2.1 (T j).2.2.1 ∈ lw_g) (ho : ImpR Z 0 pc p1 o) (he : ImpI Z 1 p1 p2 e) (d : decode (xcc Z) p2 = .ok (.putfield index, 3)) : ImpS Z R pc (p2 + 3) pB pC (sPutI (xY Z) ci j o e) := fun L M N B K2 hN hB hC h => ho [] L M _ (Nat.le_refl _) (fun k M1 h1 => he _ L M1 _ (cat_r1 (Nat.le_refl _)) (fun x M2 h2 => g_putI C K h2.1 hj hw hfin (by rw [hty]; rfl) (by rw [hty]; exact ⟨rfl, rfl⟩) d (hN _ _ h2.2)) h1) h
theorem narZ {x : Int32} (h : x = 0 ∨ x = 1) : narrow .boolean (.int x) = .int x ∧ fits .boolean (.int x) = true := by
  rcases h with rfl | rfl
  · exact ⟨by decide, by decide⟩
  · exact ⟨by decide, by decide⟩
theorem tPutZ (C : Cx Z) {ci N j index : Nat} {Cn : String} {T : u_T} {o : ER} {e : EI} (K : clOK ci Cn T N) (hj : j < N) (hty : tcl ci j = .boolean) (hfin : (T j).2.2.2 = false) (hw : Cond.fieldLink (xown Z) index (T j).1 (T j).2.1 (T j).2.2.1 ∈ lw_g) (ho : ImpR Z 0 pc p1 o) (he : ImpI Z 1 p1 p2 e) (d : decode (xcc Z) p2 = .ok (.putfield index, 3)) : ImpS Z R pc (p2 + 3) pB pC (sPutZ (xY Z) ci j o e) := fun L M N B K2 hN hB hC h => ho [] L M _ (Nat.le_refl _) (fun k M1 h1 => he _ L M1 _ (cat_r1 (Nat.le_refl _)) (fun x M2 h2 => g_putI C K h2.1 hj hw hfin (by rw [hty]; rfl) (by rw [hty]; exact narZ h2.2.1) d (hN _ _ h2.2.2)) h1) h
theorem tPutR (C : Cx Z) {ci N j index : Nat} {Cn : String} {T : u_T} {o e : ER} (K : clOK ci Cn T N) (hj : j < N) (hty : isRty (tcl ci j) = true) (hfin : (T j).2.2.2 = false) (hw : Cond.fieldLink (xown Z) index (T j).1 (T j).2.1 (T j).2.2.1 ∈ lw_g) (ho : ImpR Z 0 pc p1 o) (he : ImpR Z 1 p1 p2 e) (d : decode (xcc Z) p2 = .ok (.putfield index, 3)) : ImpS Z R pc (p2 + 3) pB pC (sPutR (xY Z) ci j o e) := fun L M N B K2 hN hB hC h => ho [] L M _ (Nat.le_refl _) (fun k M1 h1 => he _ L M1 _ (cat_r1 (Nat.le_refl _)) (fun x M2 h2 => g_putR C K h2.1 hj hw hfin hty d (hN _ _ h2.2)) h1) h
/-- o; dup; getfield; what is made of it; putfield -/
theorem tOpF (C : Cx Z) {ci N j index : Nat} {Cn : String} {T : u_T} {o : ER} {g : Int32 → EI} (K : clOK ci Cn T N) (hj : j < N) (hty : tcl ci j = .int) (hfin : (T j).2.2.2 = false) (hw : Cond.fieldLink (xown Z) index (T j).1 (T j).2.1 (T j).2.2.1 ∈ lw_g) (ho : ImpR Z 0 pc p1 o) (d1 : decode (xcc Z) p1 = .ok (.dup, 1)) (d2 : decode (xcc Z) (p1 + 1) = .ok (.getfield index, 3)) (hg : ∀ (x : Int32) (st : List Value) (L : LS0) (M : Mem) (Q : Int32 → Mem → Prop), cat st ≤ 1 → (∀ x M', Q x M' → G Z p2 (.int x :: st) L M') → g x L M Q → G Z (p1 + 1 + 3) (.int x :: st) L M) (d : decode (xcc Z) p2 = .ok (.putfield index, 3)) : ImpS Z R pc (p2 + 3) pB pC (sOpF (xY Z) ci j o g) := fun L M N B K2 hN hB hC h => ho [] L M _ (Nat.le_refl _) (fun k M1 h1 => g_dup C d1 (g_getI C K h1.1 hj hw (by rw [hty]; rfl) d2 (hg _ _ L M1 _ (cat_r1 (Nat.le_refl _)) (fun x M2 h2 => g_putI C K h1.1 hj hw hfin (by rw [hty]; rfl) (by rw [hty]; exact ⟨rfl, rfl⟩) d (hN _ _ h2)) h1.2))) h
theorem tAst (C : Cx Z) {a : ER} {i e : EI} (ha : ImpR Z 0 pc p1 a) (hi : ImpI Z 1 p1 p2 i) (he : ImpI Z 2 p2 p3 e) (d : decode (xcc Z) p3 = .ok (.iastore, 1)) : ImpS Z R pc (p3 + 1) pB pC (sAst (xY Z) .int a i e) := fun L M N B K2 hN hB hC h => ha [] L M _ (Nat.le_refl _) (fun k M1 h1 => hi _ L M1 _ (cat_r1 (Nat.le_refl _)) (fun x M2 h2 => he _ L M2 _ (cat_i1 (cat_r1 (Nat.le_refl _))) (fun y M3 ⟨N', q1, q2, q3⟩ => g_iast C q1 q2 d (hN _ _ q3)) h2) h1) h
theorem tAstB (C : Cx Z) {a : ER} {i e : EI} (ha : ImpR Z 0 pc p1 a) (hi : ImpI Z 1 p1 p2 i) (he : ImpI Z 2 p2 p3 e) (d : decode (xcc Z) p3 = .ok (.bastore, 1)) : ImpS Z R pc (p3 + 1) pB pC (sAst (xY Z) .byte a i e) := fun L M N B K2 hN hB hC h => ha [] L M _ (Nat.le_refl _) (fun k M1 h1 => hi _ L M1 _ (cat_r1 (Nat.le_refl _)) (fun x M2 h2 => he _ L M2 _ (cat_i1 (cat_r1 (Nat.le_refl _))) (fun y M3 ⟨N', q1, q2, q3⟩ => g_bast C q1 q2 d (hN _ _ q3)) h2) h1) h
theorem tAstZ (C : Cx Z) {a : ER} {i e : EI} (ha : ImpR Z 0 pc p1 a) (hi : ImpI Z 1 p1 p2 i) (he : ImpI Z 2 p2 p3 e) (d : decode (xcc Z) p3 = .ok (.bastore, 1)) : ImpS Z R pc (p3 + 1) pB pC (sAst (xY Z) .boolean a i e) := fun L M N B K2 hN hB hC h => ha [] L M _ (Nat.le_refl _) (fun k M1 h1 => hi _ L M1 _ (cat_r1 (Nat.le_refl _)) (fun x M2 h2 => he _ L M2 _ (cat_i1 (cat_r1 (Nat.le_refl _))) (fun y M3 ⟨N', q1, q2, q3⟩ => g_zast C q1 q2 d (hN _ _ q3)) h2) h1) h
theorem tAstL (C : Cx Z) {a : ER} {i : EI} {e : EL} (ha : ImpR Z 0 pc p1 a) (hi : ImpI Z 1 p1 p2 i) (he : ImpL Z 2 p2 p3 e) (d : decode (xcc Z) p3 = .ok (.lastore, 1)) : ImpS Z R pc (p3 + 1) pB pC (sAstL (xY Z) a i e) := fun L M N B K2 hN hB hC h => ha [] L M _ (Nat.le_refl _) (fun k M1 h1 => hi _ L M1 _ (cat_r1 (Nat.le_refl _)) (fun x M2 h2 => he _ L M2 _ (cat_i1 (cat_r1 (Nat.le_refl _))) (fun y M3 ⟨N', q1, q2, q3⟩ => g_last C q1 q2 d (hN _ _ q3)) h2) h1) h
/-- a; i; dup2; iaload; what is made of it; iastore -/
theorem tOpA (C : Cx Z) {a : ER} {i : EI} {g : Int32 → EI} (ha : ImpR Z 0 pc p1 a) (hi : ImpI Z 1 p1 p2 i) (d1 : decode (xcc Z) p2 = .ok (.dup2, 1)) (d2 : decode (xcc Z) (p2 + 1) = .ok (.iaload, 1)) (hg : ∀ (x : Int32) (st : List Value) (L : LS0) (M : Mem) (Q : Int32 → Mem → Prop), cat st ≤ 2 → (∀ x M', Q x M' → G Z p3 (.int x :: st) L M') → g x L M Q → G Z (p2 + 1 + 1) (.int x :: st) L M) (d : decode (xcc Z) p3 = .ok (.iastore, 1)) : ImpS Z R pc (p3 + 1) pB pC (sOpA (xY Z) a i g) := fun L M N B K2 hN hB hC h => ha [] L M _ (Nat.le_refl _) (fun k M1 h1 => hi _ L M1 _ (cat_r1 (Nat.le_refl _)) (fun x M2 ⟨N', q1, q2, q3⟩ => g_dup2 C d1 (g_iald C q1 q2 d2 (hg _ _ L M2 _ (cat_i1 (cat_r1 (Nat.le_refl _))) (fun y M3 h3 => g_iast C q1 q2 d (hN _ _ h3)) q3))) h1) h
theorem tOpAL (C : Cx Z) {a : ER} {i : EI} {g : Int64 → EL} (ha : ImpR Z 0 pc p1 a) (hi : ImpI Z 1 p1 p2 i) (d1 : decode (xcc Z) p2 = .ok (.dup2, 1)) (d2 : decode (xcc Z) (p2 + 1) = .ok (.laload, 1)) (hg : ∀ (x : Int64) (st : List Value) (L : LS0) (M : Mem) (Q : Int64 → Mem → Prop), cat st ≤ 2 → (∀ x M', Q x M' → G Z p3 (.long x :: st) L M') → g x L M Q → G Z (p2 + 1 + 1) (.long x :: st) L M) (d : decode (xcc Z) p3 = .ok (.lastore, 1)) : ImpS Z R pc (p3 + 1) pB pC (sOpAL (xY Z) a i g) := fun L M N B K2 hN hB hC h => ha [] L M _ (Nat.le_refl _) (fun k M1 h1 => hi _ L M1 _ (cat_r1 (Nat.le_refl _)) (fun x M2 ⟨N', q1, q2, q3⟩ => g_dup2 C d1 (g_lald C q1 q2 d2 (hg _ _ L M2 _ (cat_i1 (cat_r1 (Nat.le_refl _))) (fun y M3 h3 => g_last C q1 q2 d (hN _ _ h3)) q3))) h1) h
theorem tExp (C : Cx Z) {e : EI} (he : ImpI Z 0 pc p1 e) (d : decode (xcc Z) p1 = .ok (.pop, 1)) : ImpS Z R pc (p1 + 1) pB pC (sExp e) := fun L M N B K2 hN hB hC h => he [] L M _ (Nat.le_refl _) (fun x M1 h1 => g_pop C d (hN _ _ h1)) h
theorem tCall (C : Cx Z) {as : EA} {np : Nat} {y : MethodName} {T : List Sh → PT} (ha : ImpA Z 0 pc p1 np as) (hr : CallAt Z p1 np y none T) : ImpS Z R pc (p1 + 3) pB pC (sCall (T (xY Z)) as) := fun L M N B K2 hN hB hC h => ha [] L M _ (Nat.le_refl _) (fun vs M1 hl h1 => g_callv C (hr M1 vs hl) (Nat.zero_le _) h1 (fun M2 h2 => hN _ _ h2)) h
theorem tIte {c : EC} {a b : ES} {T F : Nat} (hc : ImpC Z 0 pc T F c) (ha : ImpS Z R T p2 pB pC a) (hb : ImpS Z R F p2 pB pC b) : ImpS Z R pc p2 pB pC (sIte c a b) := fun L M N B K2 hN hB hC h => hc [] L M _ _ (Nat.le_refl _) (fun M1 h1 => ha L M1 N B K2 hN hB hC h1) (fun M1 h1 => hb L M1 N B K2 hN hB hC h1) h
/-- a loop: its condition at pc (out to p4), its body from p1 on, its step from pC' on, back to pc -/
theorem tLoop {c : EC} {body u : ES} {pU : Nat} (hc : ImpC Z 0 pc p1 p4 c) (hb : ImpS Z R p1 pU p4 pU body) (hu : ImpS Z R pU pc p4 p4 u) : ImpS Z R pc p4 pB pC (sLoop c body u) := fun L M N B K2 hN hB hC ⟨n, h⟩ => by
  have key : ∀ (n : Nat) (L : LS0) (M : Mem), itL c body u N R n L M → G Z pc [] L M := by
    intro n
    induction n with
    | zero => exact fun L M h => False.elim h
    | succ n ih =>
      intro L M h
      have hU : ∀ (L : LS0) (M : Mem), u (itL c body u N R n) noB noB R L M → G Z pU [] L M := fun L M h2 => hu L M _ noB noB (fun L M h3 => ih L M h3) (fun _ _ h3 => False.elim h3) (fun _ _ h3 => False.elim h3) h2
      exact hc [] L M _ _ (Nat.le_refl _) (fun M1 h1 => hb L M1 _ N _ hU hN hU h1) (fun M1 h1 => hN L M1 h1) h
  exact key n L M h
theorem tRetI (C : Cx Z) {ret : Option FieldType} {ty : FieldType} {e : EI} (hR : Rets Z ret R) (h0 : ret = some ty) (hty : ty = .int) (he : ImpI Z 0 pc p1 e) (d : decode (xcc Z) p1 = .ok (.ireturn, 1)) : ImpS Z R pc p2 pB pC (sRetI e) := fun L M N B K2 hN hB hC h => he [] L M _ (Nat.le_refl _) (fun x M1 h1 => hR.2.2 ty h0 (by rw [hty]; rfl) _ _ _ _ d (by rw [hty]; rfl) h1) h
theorem tRetZ (C : Cx Z) {ret : Option FieldType} {e : EI} (hR : Rets Z ret R) (h0 : ret = some .boolean) (he : ImpI Z 0 pc p1 e) (d : decode (xcc Z) p1 = .ok (.ireturn, 1)) : ImpS Z R pc p2 pB pC (sRetZ e) := fun L M N B K2 hN hB hC h => he [] L M _ (Nat.le_refl _) (fun x M1 h1 => hR.2.2 _ h0 rfl _ _ _ _ d (narZ h1.1).1 h1.2) h
theorem tRetL (C : Cx Z) {ret : Option FieldType} {e : EL} (hR : Rets Z ret R) (h0 : ret = some .long) (he : ImpL Z 0 pc p1 e) (d : decode (xcc Z) p1 = .ok (.lreturn, 1)) : ImpS Z R pc p2 pB pC (sRetL e) := fun L M N B K2 hN hB hC h => he [] L M _ (Nat.le_refl _) (fun x M1 h1 => hR.2.1 h0 _ _ _ _ d h1) h
theorem tRetV {ret : Option FieldType} (hR : Rets Z ret R) (h0 : ret = none) (d : decode (xcc Z) pc = .ok (.return_, 1)) : ImpS Z R pc p2 pB pC sRetV := fun L M N B K2 hN hB hC h => hR.1 h0 _ _ _ d h
theorem tBrk (C : Cx Z) {off : Int} (d : decode (xcc Z) pc = .ok (.goto off, 3)) (ht : (pc : Int) + off = (pB : Int)) : ImpS Z R pc p2 pB pC sBrk := fun L M N B K2 hN hB hC h => g_goto C d ht (hB _ _ h)
theorem tCont (C : Cx Z) {off : Int} (d : decode (xcc Z) pc = .ok (.goto off, 3)) (ht : (pc : Int) + off = (pC : Int)) : ImpS Z R pc p2 pB pC sCont := fun L M N B K2 hN hB hC h => g_goto C d ht (hC _ _ h)
/-- the aims of breaks, of continues may be gotos -/
theorem tGoB (C : Cx Z) {a : ES} {off : Int} (ha : ImpS Z R pc p2 p1 pC a) (d : decode (xcc Z) p1 = .ok (.goto off, 3)) (ht : (p1 : Int) + off = (pB : Int)) : ImpS Z R pc p2 pB pC a := fun L M N B K hN hB hC h => ha L M N _ K hN (fun L M h1 => g_goto C d ht (hB L M h1)) hC h
theorem tTab (C : Cx Z) {e : EI} {br : Int32 → ES} {dflt lo hi : Int} {offs : Array Int} {len : Nat} (he : ImpI Z 0 pc p1 e) (d : decode (xcc Z) p1 = .ok (.tableswitch dflt lo hi offs, len)) (hs : (offs.size : Int) = hi - lo + 1) (hbr : ∀ x : Int32, ∃ tgt : Nat, swT p1 dflt lo hi offs x = (tgt : Int) ∧ ImpS Z R tgt p2 p2 pC (br x)) : ImpS Z R pc p2 pB pC (sSw e br) := fun L M N B K hN hB hC h => he [] L M _ (Nat.le_refl _) (fun x M1 h1 => by
  obtain ⟨tgt, ht, hi⟩ := hbr x
  exact g_table C d hs ht (hi L M1 N N K hN hN hC h1)) h
theorem tLkp (C : Cx Z) {e : EI} {br : Int32 → ES} {dflt : Int} {ps : Array (Int × Int)} {len : Nat} (he : ImpI Z 0 pc p1 e) (d : decode (xcc Z) p1 = .ok (.lookupswitch dflt ps, len)) (hp : (ps.toList.zip (ps.toList.drop 1)).all (fun (a, next) => a.1 < next.1) = true) (hbr : ∀ x : Int32, ∃ tgt : Nat, (p1 : Int) + Op.lookupswitch.offset ps.toList dflt x.toInt = (tgt : Int) ∧ ImpS Z R tgt p2 p2 pC (br x)) : ImpS Z R pc p2 pB pC (sSw e br) := fun L M N B K hN hB hC h => he [] L M _ (Nat.le_refl _) (fun x M1 h1 => by
  obtain ⟨tgt, ht, hi⟩ := hbr x
  exact g_lookup C d hp ht (hi L M1 N N K hN hN hC h1)) h
end IMPS
