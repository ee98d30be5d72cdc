/-! PART 06z: a quick reading of an instruction's bytes, and that decode reads the same -/
theorem qk_bind {α β : Type} {m : Jvm.ClassFile.Decoder α} {f : α → Jvm.ClassFile.Decoder β} {c : ByteArray} {p q : Nat} {a : α} (h : m c p = Except.ok (a, q)) : (m >>= f) c p = f a c q := by
  have e : (m >>= f) c p = Except.bind (m c p) (fun x => f x.1 c x.2) := rfl
  rw [e, h]
  all_goals rfl
theorem qk_run {α : Type} (m : Jvm.ClassFile.Decoder α) (c : ByteArray) (p : Nat) : Jvm.ClassFile.Reader.runAt m c p = m c p := rfl
theorem qk_u1 {c : ByteArray} {p v : Nat} (hp : p < c.size) (hv : (c[p]'hp).toNat = v) : (Jvm.ClassFile.Reader.u1 : Jvm.ClassFile.Decoder Nat) c p = Except.ok (v, p + 1) := by
  subst hv
  have e : (Jvm.ClassFile.Reader.u1 : Jvm.ClassFile.Decoder Nat) c p = (dite (p < c.size) (fun h => (MonadStateOf.set (p + 1) >>= fun _ => Pure.pure (c[p]'h).toNat : Jvm.ClassFile.Decoder Nat)) (fun _ => MonadExcept.throw (Jvm.ClassFile.DecodeError.truncated p))) c p := rfl
  rw [e, dif_pos hp]
  all_goals rfl
theorem qk_dec {c : ByteArray} {p q : Nat} {i : Instr} (h : Jvm.ClassFile.Decoder.instr p c p = Except.ok (i, q)) : decode c p = Except.ok (i, q - p) := by
  unfold Jvm.ClassFile.decode
  rw [qk_run, h]
  all_goals rfl
theorem qk_k {c : ByteArray} {p o q : Nat} {i : Instr} {r : Jvm.ClassFile.Decoder Instr} (hK : ∃ k : Nat → Jvm.ClassFile.Decoder Instr, Jvm.ClassFile.Decoder.instr p = (Jvm.ClassFile.Reader.u1 >>= k) ∧ k o = r) (hp : p < c.size) (hv : (c[p]'hp).toNat = o) (hr : r c (p + 1) = Except.ok (i, q)) : decode c p = Except.ok (i, q - p) := by
  obtain ⟨k, e, eo⟩ := hK
  refine qk_dec ?_
  rw [e, qk_bind (qk_u1 hp hv), eo]
  exact hr
theorem qk_hd {c : ByteArray} {p : Nat} {b : UInt8} {t : List UInt8} (h : c.data.toList.drop p = b :: t) : ∃ hp : p < c.size, c[p]'hp = b ∧ c.data.toList.drop (p + 1) = t := by
  obtain ⟨⟨l⟩⟩ := c
  have h : l.drop p = b :: t := h
  have hl : p < l.length := by
    rcases Nat.lt_or_ge p l.length with h1 | h1
    · exact h1
    · rw [List.drop_eq_nil_of_le h1] at h
      cases h
  rw [List.drop_eq_getElem_cons hl] at h
  injection h with h1 h2
  exact ⟨hl, h1, h2⟩
noncomputable def qk_tl (p : Nat) : List UInt8 → List UInt8 := Nat.rec (motive := fun _ => List UInt8 → List UInt8) (fun l => l) (fun _ f l => List.rec (motive := fun _ => List UInt8) [] (fun _ t _ => f t) l) p
theorem qk_tl_drop (p : Nat) (l : List UInt8) : qk_tl p l = l.drop p := by
  induction p generalizing l with
  | zero => rfl
  | succ n ih => cases l with
    | nil => rfl
    | cons a t => exact ih t
noncomputable def qk_0 (o : Nat) (l : List UInt8) (len : Nat) : Bool := match l with
  | b :: _ => Nat.beq b.toNat o && Nat.beq len 1
  | [] => false
noncomputable def qk_1 (o : Nat) (f : Nat → Bool) (l : List UInt8) (len : Nat) : Bool := match l with
  | b :: t => Nat.beq b.toNat o && (match t with
    | b1 :: _ => f b1.toNat && Nat.beq len 2
    | [] => false)
  | [] => false
noncomputable def qk_2 (o : Nat) (f : Nat → Nat → Bool) (l : List UInt8) (len : Nat) : Bool := match l with
  | b :: t => Nat.beq b.toNat o && (match t with
    | b1 :: t1 => (match t1 with
      | b2 :: _ => f b1.toNat b2.toNat && Nat.beq len 3
      | [] => false)
    | [] => false)
  | [] => false
theorem qk_0d {c : ByteArray} {p o len : Nat} {i : Instr} (hK : ∃ k : Nat → Jvm.ClassFile.Decoder Instr, Jvm.ClassFile.Decoder.instr p = (Jvm.ClassFile.Reader.u1 >>= k) ∧ k o = Pure.pure i) (h : qk_0 o (qk_tl p c.data.toList) len = true) : decode c p = .ok (i, len) := by
  rw [qk_tl_drop] at h
  cases e : c.data.toList.drop p with
  | nil =>
    rw [e] at h
    exact absurd h Bool.false_ne_true
  | cons b t =>
    rw [e] at h
    have h : (Nat.beq b.toNat o && Nat.beq len 1) = true := h
    rw [Bool.and_eq_true] at h
    have h1 := Nat.eq_of_beq_eq_true h.1
    have h2 := Nat.eq_of_beq_eq_true h.2
    obtain ⟨hp, hb, -⟩ := qk_hd e
    have g := qk_k hK hp (by rw [hb]; exact h1) (i := i) (q := p + 1) rfl
    rw [show p + 1 - p = 1 by omega] at g
    rw [h2]
    exact g
theorem qk_1d {c : ByteArray} {p o len : Nat} {i : Instr} {f : Nat → Bool} {r : Jvm.ClassFile.Decoder Instr} (hK : ∃ k : Nat → Jvm.ClassFile.Decoder Instr, Jvm.ClassFile.Decoder.instr p = (Jvm.ClassFile.Reader.u1 >>= k) ∧ k o = r) (hf : ∀ (a q : Nat) (hq : q < c.size), (c[q]'hq).toNat = a → f a = true → r c q = Except.ok (i, q + 1)) (h : qk_1 o f (qk_tl p c.data.toList) len = true) : decode c p = .ok (i, len) := by
  rw [qk_tl_drop] at h
  cases e : c.data.toList.drop p with
  | nil =>
    rw [e] at h
    exact absurd h Bool.false_ne_true
  | cons b t => cases t with
    | nil =>
      rw [e] at h
      have h : (Nat.beq b.toNat o && false) = true := h
      rw [Bool.and_false] at h
      exact absurd h Bool.false_ne_true
    | cons b1 t1 =>
      rw [e] at h
      have h : (Nat.beq b.toNat o && (f b1.toNat && Nat.beq len 2)) = true := h
      rw [Bool.and_eq_true, Bool.and_eq_true] at h
      have h1 := Nat.eq_of_beq_eq_true h.1
      have h2 := Nat.eq_of_beq_eq_true h.2.2
      obtain ⟨hp, hb, e1⟩ := qk_hd e
      obtain ⟨hp1, hb1, -⟩ := qk_hd e1
      have g := qk_k hK hp (by rw [hb]; exact h1) (hf b1.toNat (p + 1) hp1 (by rw [hb1]) h.2.1)
      rw [show p + 1 + 1 - p = 2 by omega] at g
      rw [h2]
      exact g
theorem qk_2d {c : ByteArray} {p o len : Nat} {i : Instr} {f : Nat → Nat → Bool} {r : Jvm.ClassFile.Decoder Instr} (hK : ∃ k : Nat → Jvm.ClassFile.Decoder Instr, Jvm.ClassFile.Decoder.instr p = (Jvm.ClassFile.Reader.u1 >>= k) ∧ k o = r) (hf : ∀ (a b q : Nat) (hq : q < c.size) (hq1 : q + 1 < c.size), (c[q]'hq).toNat = a → (c[q + 1]'hq1).toNat = b → f a b = true → r c q = Except.ok (i, q + 1 + 1)) (h : qk_2 o f (qk_tl p c.data.toList) len = true) : decode c p = .ok (i, len) := by
  rw [qk_tl_drop] at h
  cases e : c.data.toList.drop p with
  | nil =>
    rw [e] at h
    exact absurd h Bool.false_ne_true
  | cons b t => cases t with
    | nil =>
      rw [e] at h
      have h : (Nat.beq b.toNat o && false) = true := h
      rw [Bool.and_false] at h
      exact absurd h Bool.false_ne_true
    | cons b1 t1 => cases t1 with
      | nil =>
        rw [e] at h
        have h : (Nat.beq b.toNat o && false) = true := h
        rw [Bool.and_false] at h
        exact absurd h Bool.false_ne_true
      | cons b2 t2 =>
        rw [e] at h
        have h : (Nat.beq b.toNat o && (f b1.toNat b2.toNat && Nat.beq len 3)) = true := h
        rw [Bool.and_eq_true, Bool.and_eq_true] at h
        have h1 := Nat.eq_of_beq_eq_true h.1
        have h2 := Nat.eq_of_beq_eq_true h.2.2
        obtain ⟨hp, hb, e1⟩ := qk_hd e
        obtain ⟨hp1, hb1, e2⟩ := qk_hd e1
        obtain ⟨hp2, hb2, -⟩ := qk_hd e2
        have g := qk_k hK hp (by rw [hb]; exact h1) (hf b1.toNat b2.toNat (p + 1) hp1 hp2 (by rw [hb1]) (by rw [hb2]) h.2.1)
        rw [show p + 1 + 1 + 1 - p = 3 by omega] at g
        rw [h2]
        exact g
theorem qk_map {α β : Type} {m : Jvm.ClassFile.Decoder α} {f : α → β} {c : ByteArray} {p q : Nat} {a : α} (h : m c p = Except.ok (a, q)) : (f <$> m) c p = Except.ok (f a, q) := by
  have e : (f <$> m) c p = Except.bind (m c p) (fun x => Except.ok (f x.1, x.2)) := rfl
  rw [e, h]
  all_goals rfl
theorem qk_u2 {c : ByteArray} {p a b : Nat} (hp : p < c.size) (hp1 : p + 1 < c.size) (ha : (c[p]'hp).toNat = a) (hb : (c[p + 1]'hp1).toNat = b) : (Jvm.ClassFile.Reader.u2 : Jvm.ClassFile.Decoder Nat) c p = Except.ok (a * 256 + b, p + 1 + 1) := by
  show (Jvm.ClassFile.Reader.u1 >>= fun x => Jvm.ClassFile.Reader.u1 >>= fun y => Pure.pure (x * 256 + y) : Jvm.ClassFile.Decoder Nat) c p = _
  rw [qk_bind (qk_u1 hp ha), qk_bind (qk_u1 hp1 hb)]
  all_goals rfl
/-! an operand of one byte, of two, with a sign or without -/
theorem qk_fa {c : ByteArray} {i : Nat → Instr} {a : Nat} : ∀ (x q : Nat) (hq : q < c.size), (c[q]'hq).toNat = x → Nat.beq x a = true → (Jvm.ClassFile.Reader.u1 >>= fun y => Pure.pure (i y) : Jvm.ClassFile.Decoder Instr) c q = Except.ok (i a, q + 1) := by
  intro x q hq h1 h2
  rw [qk_bind (qk_u1 hq h1), Nat.eq_of_beq_eq_true h2]
  all_goals rfl
theorem qk_fs {c : ByteArray} {i : Int → Instr} {d : Int} : ∀ (x q : Nat) (hq : q < c.size), (c[q]'hq).toNat = x → decide (Jvm.ClassFile.Reader.signed 8 x = d) = true → (Jvm.ClassFile.Reader.s1 >>= fun y => Pure.pure (i y) : Jvm.ClassFile.Decoder Instr) c q = Except.ok (i d, q + 1) := by
  intro x q hq h1 h2
  have g : (Jvm.ClassFile.Reader.s1 : Jvm.ClassFile.Decoder Int) c q = Except.ok (Jvm.ClassFile.Reader.signed 8 x, q + 1) := qk_map (qk_u1 hq h1)
  rw [qk_bind g, of_decide_eq_true h2]
  all_goals rfl
theorem qk_fb {c : ByteArray} {i : Nat → Instr} {a : Nat} : ∀ (x y q : Nat) (hq : q < c.size) (hq1 : q + 1 < c.size), (c[q]'hq).toNat = x → (c[q + 1]'hq1).toNat = y → Nat.beq (x * 256 + y) a = true → (Jvm.ClassFile.Reader.u2 >>= fun y => Pure.pure (i y) : Jvm.ClassFile.Decoder Instr) c q = Except.ok (i a, q + 1 + 1) := by
  intro x y q hq hq1 h1 h2 h3
  rw [qk_bind (qk_u2 hq hq1 h1 h2), Nat.eq_of_beq_eq_true h3]
  all_goals rfl
theorem qk_ft {c : ByteArray} {i : Int → Instr} {d : Int} : ∀ (x y q : Nat) (hq : q < c.size) (hq1 : q + 1 < c.size), (c[q]'hq).toNat = x → (c[q + 1]'hq1).toNat = y → decide (Jvm.ClassFile.Reader.signed 16 (x * 256 + y) = d) = true → (Jvm.ClassFile.Reader.s2 >>= fun y => Pure.pure (i y) : Jvm.ClassFile.Decoder Instr) c q = Except.ok (i d, q + 1 + 1) := by
  intro x y q hq hq1 h1 h2 h3
  have g : (Jvm.ClassFile.Reader.s2 : Jvm.ClassFile.Decoder Int) c q = Except.ok (Jvm.ClassFile.Reader.signed 16 (x * 256 + y), q + 1 + 1) := qk_map (qk_u2 hq hq1 h1 h2)
  rw [qk_bind g, of_decide_eq_true h3]
  all_goals rfl
theorem qk_fi {c : ByteArray} {i : Nat → Int → Instr} {a : Nat} {d : Int} : ∀ (x y q : Nat) (hq : q < c.size) (hq1 : q + 1 < c.size), (c[q]'hq).toNat = x → (c[q + 1]'hq1).toNat = y → (Nat.beq x a && decide (Jvm.ClassFile.Reader.signed 8 y = d)) = true → (Jvm.ClassFile.Reader.u1 >>= fun u => Jvm.ClassFile.Reader.s1 >>= fun w => Pure.pure (i u w) : Jvm.ClassFile.Decoder Instr) c q = Except.ok (i a d, q + 1 + 1) := by
  intro x y q hq hq1 h1 h2 h3
  rw [Bool.and_eq_true] at h3
  have g : (Jvm.ClassFile.Reader.s1 : Jvm.ClassFile.Decoder Int) c (q + 1) = Except.ok (Jvm.ClassFile.Reader.signed 8 y, q + 1 + 1) := qk_map (qk_u1 hq1 h2)
  rw [qk_bind (qk_u1 hq h1), qk_bind g, Nat.eq_of_beq_eq_true h3.1, of_decide_eq_true h3.2]
  all_goals rfl
theorem qk_f4 {P : Fin 4 → Prop} (h0 : P 0) (h1 : P 1) (h2 : P 2) (h3 : P 3) (k : Fin 4) : P k := by
  rcases k with ⟨k, hk⟩
  match k, hk with
  | 0, _ => exact h0
  | 1, _ => exact h1
  | 2, _ => exact h2
  | 3, _ => exact h3
  | n + 4, hk => exact absurd hk (by omega)
theorem qk_f2 {P : Fin 2 → Prop} (h0 : P 0) (h1 : P 1) (k : Fin 2) : P k := by
  rcases k with ⟨k, hk⟩
  match k, hk with
  | 0, _ => exact h0
  | 1, _ => exact h1
  | n + 2, hk => exact absurd hk (by omega)
noncomputable def nthz {α : Type} (n : Nat) : List α → Option α := Nat.rec (motive := fun _ => List α → Option α) (fun l => List.rec (motive := fun _ => Option α) none (fun a _ _ => some a) l) (fun _ f l => List.rec (motive := fun _ => Option α) none (fun _ t _ => f t) l) n
theorem nthz_eq {α : Type} (n : Nat) (l : List α) : nthz n l = l[n]? := by
  induction n generalizing l with
  | zero => cases l with
    | nil => rfl
    | cons a t => rfl
  | succ n ih => cases l with
    | nil => rfl
    | cons a t => exact ih t
def qk_cn (c : Jvm.ClassFile.Cond) : Nat := match c with
  | .eq => 0
  | .ne => 1
  | .lt => 2
  | .ge => 3
  | .gt => 4
  | .le => 5
noncomputable def qk (c : ByteArray) (p : Nat) (ins : Instr) (len : Nat) : Bool := match ins with
  | .ldc a => qk_1 18 (fun x => Nat.beq x a) (qk_tl p c.data.toList) len
  | .iload a => qk_1 21 (fun x => Nat.beq x a) (qk_tl p c.data.toList) len
  | .lload a => qk_1 22 (fun x => Nat.beq x a) (qk_tl p c.data.toList) len
  | .aload a => qk_1 25 (fun x => Nat.beq x a) (qk_tl p c.data.toList) len
  | .istore a => qk_1 54 (fun x => Nat.beq x a) (qk_tl p c.data.toList) len
  | .lstore a => qk_1 55 (fun x => Nat.beq x a) (qk_tl p c.data.toList) len
  | .astore a => qk_1 58 (fun x => Nat.beq x a) (qk_tl p c.data.toList) len
  | .iload_n k => qk_0 (26 + k.val) (qk_tl p c.data.toList) len
  | .lload_n k => qk_0 (30 + k.val) (qk_tl p c.data.toList) len
  | .aload_n k => qk_0 (42 + k.val) (qk_tl p c.data.toList) len
  | .istore_n k => qk_0 (59 + k.val) (qk_tl p c.data.toList) len
  | .lstore_n k => qk_0 (63 + k.val) (qk_tl p c.data.toList) len
  | .astore_n k => qk_0 (75 + k.val) (qk_tl p c.data.toList) len
  | .iconst v => (decide (-1 ≤ v) && decide (v ≤ 5)) && qk_0 (v + 3).toNat (qk_tl p c.data.toList) len
  | .lconst k => qk_0 (9 + k.val) (qk_tl p c.data.toList) len
  | .bipush d => qk_1 16 (fun x => decide (Jvm.ClassFile.Reader.signed 8 x = d)) (qk_tl p c.data.toList) len
  | .sipush d => qk_2 17 (fun x y => decide (Jvm.ClassFile.Reader.signed 16 (x * 256 + y) = d)) (qk_tl p c.data.toList) len
  | .ldc_w a => qk_2 19 (fun x y => Nat.beq (x * 256 + y) a) (qk_tl p c.data.toList) len
  | .ldc2_w a => qk_2 20 (fun x y => Nat.beq (x * 256 + y) a) (qk_tl p c.data.toList) len
  | .getstatic a => qk_2 178 (fun x y => Nat.beq (x * 256 + y) a) (qk_tl p c.data.toList) len
  | .getfield a => qk_2 180 (fun x y => Nat.beq (x * 256 + y) a) (qk_tl p c.data.toList) len
  | .putfield a => qk_2 181 (fun x y => Nat.beq (x * 256 + y) a) (qk_tl p c.data.toList) len
  | .invokevirtual a => qk_2 182 (fun x y => Nat.beq (x * 256 + y) a) (qk_tl p c.data.toList) len
  | .invokespecial a => qk_2 183 (fun x y => Nat.beq (x * 256 + y) a) (qk_tl p c.data.toList) len
  | .invokestatic a => qk_2 184 (fun x y => Nat.beq (x * 256 + y) a) (qk_tl p c.data.toList) len
  | .new a => qk_2 187 (fun x y => Nat.beq (x * 256 + y) a) (qk_tl p c.data.toList) len
  | .ifCond b d => qk_2 (153 + qk_cn b) (fun x y => decide (Jvm.ClassFile.Reader.signed 16 (x * 256 + y) = d)) (qk_tl p c.data.toList) len
  | .if_icmp b d => qk_2 (159 + qk_cn b) (fun x y => decide (Jvm.ClassFile.Reader.signed 16 (x * 256 + y) = d)) (qk_tl p c.data.toList) len
  | .goto d => qk_2 167 (fun x y => decide (Jvm.ClassFile.Reader.signed 16 (x * 256 + y) = d)) (qk_tl p c.data.toList) len
  | .iinc a d => qk_2 132 (fun x y => Nat.beq x a && decide (Jvm.ClassFile.Reader.signed 8 y = d)) (qk_tl p c.data.toList) len
  | .iaload => qk_0 46 (qk_tl p c.data.toList) len
  | .laload => qk_0 47 (qk_tl p c.data.toList) len
  | .aaload => qk_0 50 (qk_tl p c.data.toList) len
  | .baload => qk_0 51 (qk_tl p c.data.toList) len
  | .iastore => qk_0 79 (qk_tl p c.data.toList) len
  | .lastore => qk_0 80 (qk_tl p c.data.toList) len
  | .aastore => qk_0 83 (qk_tl p c.data.toList) len
  | .bastore => qk_0 84 (qk_tl p c.data.toList) len
  | .pop => qk_0 87 (qk_tl p c.data.toList) len
  | .pop2 => qk_0 88 (qk_tl p c.data.toList) len
  | .dup => qk_0 89 (qk_tl p c.data.toList) len
  | .dup2 => qk_0 92 (qk_tl p c.data.toList) len
  | .iadd => qk_0 96 (qk_tl p c.data.toList) len
  | .ladd => qk_0 97 (qk_tl p c.data.toList) len
  | .isub => qk_0 100 (qk_tl p c.data.toList) len
  | .lsub => qk_0 101 (qk_tl p c.data.toList) len
  | .imul => qk_0 104 (qk_tl p c.data.toList) len
  | .lmul => qk_0 105 (qk_tl p c.data.toList) len
  | .idiv => qk_0 108 (qk_tl p c.data.toList) len
  | .ldiv => qk_0 109 (qk_tl p c.data.toList) len
  | .irem => qk_0 112 (qk_tl p c.data.toList) len
  | .lrem => qk_0 113 (qk_tl p c.data.toList) len
  | .ineg => qk_0 116 (qk_tl p c.data.toList) len
  | .lneg => qk_0 117 (qk_tl p c.data.toList) len
  | .ishl => qk_0 120 (qk_tl p c.data.toList) len
  | .lshl => qk_0 121 (qk_tl p c.data.toList) len
  | .ishr => qk_0 122 (qk_tl p c.data.toList) len
  | .lshr => qk_0 123 (qk_tl p c.data.toList) len
  | .iushr => qk_0 124 (qk_tl p c.data.toList) len
  | .iand => qk_0 126 (qk_tl p c.data.toList) len
  | .land => qk_0 127 (qk_tl p c.data.toList) len
  | .ior => qk_0 128 (qk_tl p c.data.toList) len
  | .lor => qk_0 129 (qk_tl p c.data.toList) len
  | .ixor => qk_0 130 (qk_tl p c.data.toList) len
  | .lxor => qk_0 131 (qk_tl p c.data.toList) len
  | .i2l => qk_0 133 (qk_tl p c.data.toList) len
  | .l2i => qk_0 136 (qk_tl p c.data.toList) len
  | .i2b => qk_0 145 (qk_tl p c.data.toList) len
  | .lcmp => qk_0 148 (qk_tl p c.data.toList) len
  | .ireturn => qk_0 172 (qk_tl p c.data.toList) len
  | .lreturn => qk_0 173 (qk_tl p c.data.toList) len
  | .return_ => qk_0 177 (qk_tl p c.data.toList) len
  | .arraylength => qk_0 190 (qk_tl p c.data.toList) len
  | _ => false
set_option maxRecDepth 100000 in
theorem qk_d {c : ByteArray} {p : Nat} {ins : Instr} {len : Nat} (h : qk c p ins len = true) : decode c p = .ok (ins, len) := by
  cases ins
  case ldc a => exact qk_1d (o := 18) (r := Jvm.ClassFile.Reader.u1 >>= fun y => Pure.pure (.ldc y)) ⟨_, rfl, rfl⟩ qk_fa h
  case iload a => exact qk_1d (o := 21) (r := Jvm.ClassFile.Reader.u1 >>= fun y => Pure.pure (.iload y)) ⟨_, rfl, rfl⟩ qk_fa h
  case lload a => exact qk_1d (o := 22) (r := Jvm.ClassFile.Reader.u1 >>= fun y => Pure.pure (.lload y)) ⟨_, rfl, rfl⟩ qk_fa h
  case aload a => exact qk_1d (o := 25) (r := Jvm.ClassFile.Reader.u1 >>= fun y => Pure.pure (.aload y)) ⟨_, rfl, rfl⟩ qk_fa h
  case istore a => exact qk_1d (o := 54) (r := Jvm.ClassFile.Reader.u1 >>= fun y => Pure.pure (.istore y)) ⟨_, rfl, rfl⟩ qk_fa h
  case lstore a => exact qk_1d (o := 55) (r := Jvm.ClassFile.Reader.u1 >>= fun y => Pure.pure (.lstore y)) ⟨_, rfl, rfl⟩ qk_fa h
  case astore a => exact qk_1d (o := 58) (r := Jvm.ClassFile.Reader.u1 >>= fun y => Pure.pure (.astore y)) ⟨_, rfl, rfl⟩ qk_fa h
  case iload_n k => exact qk_f4 (P := fun k => qk_0 (26 + k.val) (qk_tl p c.data.toList) len = true → decode c p = .ok (.iload_n k, len)) (fun h => qk_0d (o := 26) ⟨_, rfl, rfl⟩ h) (fun h => qk_0d (o := 27) ⟨_, rfl, rfl⟩ h) (fun h => qk_0d (o := 28) ⟨_, rfl, rfl⟩ h) (fun h => qk_0d (o := 29) ⟨_, rfl, rfl⟩ h) k h
  case lload_n k => exact qk_f4 (P := fun k => qk_0 (30 + k.val) (qk_tl p c.data.toList) len = true → decode c p = .ok (.lload_n k, len)) (fun h => qk_0d (o := 30) ⟨_, rfl, rfl⟩ h) (fun h => qk_0d (o := 31) ⟨_, rfl, rfl⟩ h) (fun h => qk_0d (o := 32) ⟨_, rfl, rfl⟩ h) (fun h => qk_0d (o := 33) ⟨_, rfl, rfl⟩ h) k h
  case aload_n k => exact qk_f4 (P := fun k => qk_0 (42 + k.val) (qk_tl p c.data.toList) len = true → decode c p = .ok (.aload_n k, len)) (fun h => qk_0d (o := 42) ⟨_, rfl, rfl⟩ h) (fun h => qk_0d (o := 43) ⟨_, rfl, rfl⟩ h) (fun h => qk_0d (o := 44) ⟨_, rfl, rfl⟩ h) (fun h => qk_0d (o := 45) ⟨_, rfl, rfl⟩ h) k h
  case istore_n k => exact qk_f4 (P := fun k => qk_0 (59 + k.val) (qk_tl p c.data.toList) len = true → decode c p = .ok (.istore_n k, len)) (fun h => qk_0d (o := 59) ⟨_, rfl, rfl⟩ h) (fun h => qk_0d (o := 60) ⟨_, rfl, rfl⟩ h) (fun h => qk_0d (o := 61) ⟨_, rfl, rfl⟩ h) (fun h => qk_0d (o := 62) ⟨_, rfl, rfl⟩ h) k h
  case lstore_n k => exact qk_f4 (P := fun k => qk_0 (63 + k.val) (qk_tl p c.data.toList) len = true → decode c p = .ok (.lstore_n k, len)) (fun h => qk_0d (o := 63) ⟨_, rfl, rfl⟩ h) (fun h => qk_0d (o := 64) ⟨_, rfl, rfl⟩ h) (fun h => qk_0d (o := 65) ⟨_, rfl, rfl⟩ h) (fun h => qk_0d (o := 66) ⟨_, rfl, rfl⟩ h) k h
  case astore_n k => exact qk_f4 (P := fun k => qk_0 (75 + k.val) (qk_tl p c.data.toList) len = true → decode c p = .ok (.astore_n k, len)) (fun h => qk_0d (o := 75) ⟨_, rfl, rfl⟩ h) (fun h => qk_0d (o := 76) ⟨_, rfl, rfl⟩ h) (fun h => qk_0d (o := 77) ⟨_, rfl, rfl⟩ h) (fun h => qk_0d (o := 78) ⟨_, rfl, rfl⟩ h) k h
  case iconst v =>
    have h : ((decide (-1 ≤ v) && decide (v ≤ 5)) && qk_0 (v + 3).toNat (qk_tl p c.data.toList) len) = true := h
    rw [Bool.and_eq_true, Bool.and_eq_true] at h
    have h1 : -1 ≤ v := of_decide_eq_true h.1.1
    have h2 : v ≤ 5 := of_decide_eq_true h.1.2
    have h3 := h.2
    have hv : v = -1 ∨ v = 0 ∨ v = 1 ∨ v = 2 ∨ v = 3 ∨ v = 4 ∨ v = 5 := by omega
    rcases hv with rfl | rfl | rfl | rfl | rfl | rfl | rfl
    · exact qk_0d (o := 2) ⟨_, rfl, rfl⟩ h3
    · exact qk_0d (o := 3) ⟨_, rfl, rfl⟩ h3
    · exact qk_0d (o := 4) ⟨_, rfl, rfl⟩ h3
    · exact qk_0d (o := 5) ⟨_, rfl, rfl⟩ h3
    · exact qk_0d (o := 6) ⟨_, rfl, rfl⟩ h3
    · exact qk_0d (o := 7) ⟨_, rfl, rfl⟩ h3
    · exact qk_0d (o := 8) ⟨_, rfl, rfl⟩ h3
  case lconst k => exact qk_f2 (P := fun k => qk_0 (9 + k.val) (qk_tl p c.data.toList) len = true → decode c p = .ok (.lconst k, len)) (fun h => qk_0d (o := 9) ⟨_, rfl, rfl⟩ h) (fun h => qk_0d (o := 10) ⟨_, rfl, rfl⟩ h) k h
  case bipush d => exact qk_1d (o := 16) (r := Jvm.ClassFile.Reader.s1 >>= fun y => Pure.pure (.bipush y)) ⟨_, rfl, rfl⟩ qk_fs h
  case sipush d => exact qk_2d (o := 17) (r := Jvm.ClassFile.Reader.s2 >>= fun y => Pure.pure (.sipush y)) ⟨_, rfl, rfl⟩ qk_ft h
  case ldc_w a => exact qk_2d (o := 19) (r := Jvm.ClassFile.Reader.u2 >>= fun y => Pure.pure (.ldc_w y)) ⟨_, rfl, rfl⟩ qk_fb h
  case ldc2_w a => exact qk_2d (o := 20) (r := Jvm.ClassFile.Reader.u2 >>= fun y => Pure.pure (.ldc2_w y)) ⟨_, rfl, rfl⟩ qk_fb h
  case getstatic a => exact qk_2d (o := 178) (r := Jvm.ClassFile.Reader.u2 >>= fun y => Pure.pure (.getstatic y)) ⟨_, rfl, rfl⟩ qk_fb h
  case getfield a => exact qk_2d (o := 180) (r := Jvm.ClassFile.Reader.u2 >>= fun y => Pure.pure (.getfield y)) ⟨_, rfl, rfl⟩ qk_fb h
  case putfield a => exact qk_2d (o := 181) (r := Jvm.ClassFile.Reader.u2 >>= fun y => Pure.pure (.putfield y)) ⟨_, rfl, rfl⟩ qk_fb h
  case invokevirtual a => exact qk_2d (o := 182) (r := Jvm.ClassFile.Reader.u2 >>= fun y => Pure.pure (.invokevirtual y)) ⟨_, rfl, rfl⟩ qk_fb h
  case invokespecial a => exact qk_2d (o := 183) (r := Jvm.ClassFile.Reader.u2 >>= fun y => Pure.pure (.invokespecial y)) ⟨_, rfl, rfl⟩ qk_fb h
  case invokestatic a => exact qk_2d (o := 184) (r := Jvm.ClassFile.Reader.u2 >>= fun y => Pure.pure (.invokestatic y)) ⟨_, rfl, rfl⟩ qk_fb h
  case new a => exact qk_2d (o := 187) (r := Jvm.ClassFile.Reader.u2 >>= fun y => Pure.pure (.new y)) ⟨_, rfl, rfl⟩ qk_fb h
  case ifCond b d =>
    cases b
    · exact qk_2d (o := 153) (r := Jvm.ClassFile.Reader.s2 >>= fun y => Pure.pure (.ifCond .eq y)) ⟨_, rfl, rfl⟩ qk_ft h
    · exact qk_2d (o := 154) (r := Jvm.ClassFile.Reader.s2 >>= fun y => Pure.pure (.ifCond .ne y)) ⟨_, rfl, rfl⟩ qk_ft h
    · exact qk_2d (o := 155) (r := Jvm.ClassFile.Reader.s2 >>= fun y => Pure.pure (.ifCond .lt y)) ⟨_, rfl, rfl⟩ qk_ft h
    · exact qk_2d (o := 156) (r := Jvm.ClassFile.Reader.s2 >>= fun y => Pure.pure (.ifCond .ge y)) ⟨_, rfl, rfl⟩ qk_ft h
    · exact qk_2d (o := 157) (r := Jvm.ClassFile.Reader.s2 >>= fun y => Pure.pure (.ifCond .gt y)) ⟨_, rfl, rfl⟩ qk_ft h
    · exact qk_2d (o := 158) (r := Jvm.ClassFile.Reader.s2 >>= fun y => Pure.pure (.ifCond .le y)) ⟨_, rfl, rfl⟩ qk_ft h
  case if_icmp b d =>
    cases b
    · exact qk_2d (o := 159) (r := Jvm.ClassFile.Reader.s2 >>= fun y => Pure.pure (.if_icmp .eq y)) ⟨_, rfl, rfl⟩ qk_ft h
    · exact qk_2d (o := 160) (r := Jvm.ClassFile.Reader.s2 >>= fun y => Pure.pure (.if_icmp .ne y)) ⟨_, rfl, rfl⟩ qk_ft h
    · exact qk_2d (o := 161) (r := Jvm.ClassFile.Reader.s2 >>= fun y => Pure.pure (.if_icmp .lt y)) ⟨_, rfl, rfl⟩ qk_ft h
    · exact qk_2d (o := 162) (r := Jvm.ClassFile.Reader.s2 >>= fun y => Pure.pure (.if_icmp .ge y)) ⟨_, rfl, rfl⟩ qk_ft h
    · exact qk_2d (o := 163) (r := Jvm.ClassFile.Reader.s2 >>= fun y => Pure.pure (.if_icmp .gt y)) ⟨_, rfl, rfl⟩ qk_ft h
    · exact qk_2d (o := 164) (r := Jvm.ClassFile.Reader.s2 >>= fun y => Pure.pure (.if_icmp .le y)) ⟨_, rfl, rfl⟩ qk_ft h
  case goto d => exact qk_2d (o := 167) (r := Jvm.ClassFile.Reader.s2 >>= fun y => Pure.pure (.goto y)) ⟨_, rfl, rfl⟩ qk_ft h
  case iinc a d => exact qk_2d (o := 132) (r := Jvm.ClassFile.Reader.u1 >>= fun u => Jvm.ClassFile.Reader.s1 >>= fun w => Pure.pure (.iinc u w)) ⟨_, rfl, rfl⟩ qk_fi h
  case iaload => exact qk_0d (o := 46) ⟨_, rfl, rfl⟩ h
  case laload => exact qk_0d (o := 47) ⟨_, rfl, rfl⟩ h
  case aaload => exact qk_0d (o := 50) ⟨_, rfl, rfl⟩ h
  case baload => exact qk_0d (o := 51) ⟨_, rfl, rfl⟩ h
  case iastore => exact qk_0d (o := 79) ⟨_, rfl, rfl⟩ h
  case lastore => exact qk_0d (o := 80) ⟨_, rfl, rfl⟩ h
  case aastore => exact qk_0d (o := 83) ⟨_, rfl, rfl⟩ h
  case bastore => exact qk_0d (o := 84) ⟨_, rfl, rfl⟩ h
  case pop => exact qk_0d (o := 87) ⟨_, rfl, rfl⟩ h
  case pop2 => exact qk_0d (o := 88) ⟨_, rfl, rfl⟩ h
  case dup => exact qk_0d (o := 89) ⟨_, rfl, rfl⟩ h
  case dup2 => exact qk_0d (o := 92) ⟨_, rfl, rfl⟩ h
  case iadd => exact qk_0d (o := 96) ⟨_, rfl, rfl⟩ h
  case ladd => exact qk_0d (o := 97) ⟨_, rfl, rfl⟩ h
  case isub => exact qk_0d (o := 100) ⟨_, rfl, rfl⟩ h
  case lsub => exact qk_0d (o := 101) ⟨_, rfl, rfl⟩ h
  case imul => exact qk_0d (o := 104) ⟨_, rfl, rfl⟩ h
  case lmul => exact qk_0d (o := 105) ⟨_, rfl, rfl⟩ h
  case idiv => exact qk_0d (o := 108) ⟨_, rfl, rfl⟩ h
  case ldiv => exact qk_0d (o := 109) ⟨_, rfl, rfl⟩ h
  case irem => exact qk_0d (o := 112) ⟨_, rfl, rfl⟩ h
  case lrem => exact qk_0d (o := 113) ⟨_, rfl, rfl⟩ h
  case ineg => exact qk_0d (o := 116) ⟨_, rfl, rfl⟩ h
  case lneg => exact qk_0d (o := 117) ⟨_, rfl, rfl⟩ h
  case ishl => exact qk_0d (o := 120) ⟨_, rfl, rfl⟩ h
  case lshl => exact qk_0d (o := 121) ⟨_, rfl, rfl⟩ h
  case ishr => exact qk_0d (o := 122) ⟨_, rfl, rfl⟩ h
  case lshr => exact qk_0d (o := 123) ⟨_, rfl, rfl⟩ h
  case iushr => exact qk_0d (o := 124) ⟨_, rfl, rfl⟩ h
  case iand => exact qk_0d (o := 126) ⟨_, rfl, rfl⟩ h
  case land => exact qk_0d (o := 127) ⟨_, rfl, rfl⟩ h
  case ior => exact qk_0d (o := 128) ⟨_, rfl, rfl⟩ h
  case lor => exact qk_0d (o := 129) ⟨_, rfl, rfl⟩ h
  case ixor => exact qk_0d (o := 130) ⟨_, rfl, rfl⟩ h
  case lxor => exact qk_0d (o := 131) ⟨_, rfl, rfl⟩ h
  case i2l => exact qk_0d (o := 133) ⟨_, rfl, rfl⟩ h
  case l2i => exact qk_0d (o := 136) ⟨_, rfl, rfl⟩ h
  case i2b => exact qk_0d (o := 145) ⟨_, rfl, rfl⟩ h
  case lcmp => exact qk_0d (o := 148) ⟨_, rfl, rfl⟩ h
  case ireturn => exact qk_0d (o := 172) ⟨_, rfl, rfl⟩ h
  case lreturn => exact qk_0d (o := 173) ⟨_, rfl, rfl⟩ h
  case return_ => exact qk_0d (o := 177) ⟨_, rfl, rfl⟩ h
  case arraylength => exact qk_0d (o := 190) ⟨_, rfl, rfl⟩ h
  all_goals exact absurd h Bool.false_ne_true
