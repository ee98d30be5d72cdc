/-! PART 10: what a run keeps: the ranges of numbers, the fixed references; how many cells there are-/
section KEEPS
variable {RT : List Rec} {R : Rec} {F : Nat → Nat → Nat} {X : Nat → List Int} {Y : YY} {M M' : MM} {L L' : LL} {st st' : List Vv} {i a b c sub idx : Nat} {v : Int} {tab : List (Int × Nat)} {pl : List Nat}
abbrev okX (X : Nat → List Int) : Prop := ∀ k, (∀ z ∈ X k, in32 z) ∧ in32 ((X k).length : Int)
abbrev okVs (st : List Vv) : Prop := ∀ z ∈ st, okv z
theorem okVs.un {z : Vv} {s : List Vv} (h : okVs (z :: s)) : okv z ∧ okVs s := List.forall_mem_cons.mp h
theorem okVs.kk {z : Vv} {s : List Vv} (h1 : okv z) (h2 : okVs s) : okVs (z :: s) := List.forall_mem_cons.mpr ⟨h1, h2⟩
abbrev Kp (F : Nat → Nat → Nat) (Y : YY) (M : MM) (st : List Vv) (L : LL) : Prop := Inv F Y M ∧ okVs st ∧ okLv L
theorem fldk_ty {R : Rec} {idx p a b : Nat} {fin any : Bool} (h : fldk R idx p a b fin any = true) : a < 12 := by
  unfold fldk at h
  cases hv : vwCl[a]? with
  | none => rw [hv] at h; cases h
  | some q => exact (List.getElem?_eq_some_iff.mp hv).1
theorem Inv.fI {R : Rec} {k idx p : Nat} (h : Inv F Y M) {fin any : Bool} (hf : fldk R idx p a b fin any = true) (hk : (kd Y k == 10 + a) = true) (hty : isIty (tcl a b) = true) : in32 (M k b) := by
  have ha := fldk_ty hf
  obtain ⟨n, hn⟩ := kd_ge (by omega) hk
  have := (h.1 k _ hn b).1 (Nat.le_add_right 10 a)
  rw [Nat.add_sub_cancel_left] at this
  exact this hty
theorem Inv.fS {R : Rec} {k idx p : Nat} {x : Int} (h : Inv F Y M) {fin any : Bool} (hf : fldk R idx p a b fin any = true) (hk : (kd Y k == 10 + a) = true) (hty : isIty (tcl a b) = true) (hx : in32 x) : Inv F Y (stM M k b x) := by
  have ha := fldk_ty hf
  obtain ⟨n, hn⟩ := kd_ge (by omega) hk
  refine h.st hn ⟨fun q => absurd q (by show 10 + a ≠ 3; omega), fun _ => hx⟩ ?_
  show ¬ ((10 ≤ 10 + a ∧ isRty (tcl (10 + a - 10) b) = true) ∨ 10 + a = 4)
  rw [Nat.add_sub_cancel_left, iR_no hty]
  rintro (h | h)
  · cases h.2
  · omega
theorem Inv.fR {R : Rec} {k idx p t : Nat} (h : Inv F Y M) {fin any : Bool} (hf : fldk R idx p a b fin any = true) (hk : (kd Y k == 10 + a) = true) (hty : isRty (tcl a b) = true) (hF : F k b = 0) : Inv F Y (stM M k b ((t : Int) + 1)) := by
  have ha := fldk_ty hf
  obtain ⟨n, hn⟩ := kd_ge (by omega) hk
  refine h.sr hn ⟨Nat.le_add_right 10 a, ?_⟩ hF
  show isRty (tcl (10 + a - 10) b) = true
  rw [Nat.add_sub_cancel_left]
  exact hty
theorem ty_c {c : Nat} {t : FieldType} (h : (match c with
      | 0 => decide (t = .int)
      | _ => decide (t = .boolean)) = true) : isIty t = true := by
  split at h
  · rw [of_decide_eq_true h]
    rfl
  · rw [of_decide_eq_true h]
    rfl

theorem kp_0 (hX : okX X) (hk : okI RT R i (0, a, b, c, v, tab, sub, idx, pl) = true) (hs : stp F X Y M L st (0, a, b, c, v, tab, sub, idx, pl) = some (.inl (true, st', L', M'))) (K : Kp F Y M st L) : Kp F Y M' st' L' := by
  rw [ok_0] at hk
  have h := in_0 hs
  obtain ⟨rfl, rfl, rfl⟩ := h
  exact ⟨K.1, .kk (in32b_d (an2 hk).1) K.2.1, K.2.2⟩
theorem kp_1 (hX : okX X) (hk : okI RT R i (1, a, b, c, v, tab, sub, idx, pl) = true) (hs : stp F X Y M L st (1, a, b, c, v, tab, sub, idx, pl) = some (.inl (true, st', L', M'))) (K : Kp F Y M st L) : Kp F Y M' st' L' := by
  rw [ok_1] at hk
  have h := in_1 hs
  obtain ⟨rfl, rfl, rfl⟩ := h
  exact ⟨K.1, .kk (in64b_d (an2 hk).1) K.2.1, K.2.2⟩
theorem kp_2 (hX : okX X) (hk : okI RT R i (2, a, b, c, v, tab, sub, idx, pl) = true) (hs : stp F X Y M L st (2, a, b, c, v, tab, sub, idx, pl) = some (.inl (true, st', L', M'))) (K : Kp F Y M st L) : Kp F Y M' st' L' := by
  rw [ok_2] at hk
  have h := in_2 hs
  obtain ⟨x, hx, rfl, rfl, rfl⟩ := h
  exact ⟨K.1, .kk (K.2.2 a _ hx).1 K.2.1, K.2.2⟩
theorem kp_3 (hX : okX X) (hk : okI RT R i (3, a, b, c, v, tab, sub, idx, pl) = true) (hs : stp F X Y M L st (3, a, b, c, v, tab, sub, idx, pl) = some (.inl (true, st', L', M'))) (K : Kp F Y M st L) : Kp F Y M' st' L' := by
  rw [ok_3] at hk
  have h := in_3 hs
  obtain ⟨x, hx, rfl, rfl, rfl⟩ := h
  exact ⟨K.1, .kk (K.2.2 a _ hx).1 K.2.1, K.2.2⟩
theorem kp_4 (hX : okX X) (hk : okI RT R i (4, a, b, c, v, tab, sub, idx, pl) = true) (hs : stp F X Y M L st (4, a, b, c, v, tab, sub, idx, pl) = some (.inl (true, st', L', M'))) (K : Kp F Y M st L) : Kp F Y M' st' L' := by
  rw [ok_4] at hk
  have h := in_4 hs
  obtain ⟨x, hx, rfl, rfl, rfl⟩ := h
  exact ⟨K.1, .kk (K.2.2 a _ hx).1 K.2.1, K.2.2⟩
theorem kp_5 (hX : okX X) (hk : okI RT R i (5, a, b, c, v, tab, sub, idx, pl) = true) (hs : stp F X Y M L st (5, a, b, c, v, tab, sub, idx, pl) = some (.inl (true, st', L', M'))) (K : Kp F Y M st L) : Kp F Y M' st' L' := by
  rw [ok_5] at hk
  have h := in_5 hs
  obtain ⟨x, s0, rfl, -, -, rfl, rfl, rfl⟩ := h
  exact ⟨K.1, K.2.1.un.2, K.2.2.set K.2.1.un.1 rfl⟩
theorem kp_7 (hX : okX X) (hk : okI RT R i (7, a, b, c, v, tab, sub, idx, pl) = true) (hs : stp F X Y M L st (7, a, b, c, v, tab, sub, idx, pl) = some (.inl (true, st', L', M'))) (K : Kp F Y M st L) : Kp F Y M' st' L' := by
  rw [ok_7] at hk
  have h := in_7 hs
  obtain ⟨x, s0, rfl, -, -, rfl, rfl, rfl⟩ := h
  exact ⟨K.1, K.2.1.un.2, K.2.2.set K.2.1.un.1 rfl⟩
theorem kp_6 (hX : okX X) (hk : okI RT R i (6, a, b, c, v, tab, sub, idx, pl) = true) (hs : stp F X Y M L st (6, a, b, c, v, tab, sub, idx, pl) = some (.inl (true, st', L', M'))) (K : Kp F Y M st L) : Kp F Y M' st' L' := by
  rw [ok_6] at hk
  have h := in_6 hs
  obtain ⟨x, s0, rfl, -, -, rfl, rfl, rfl⟩ := h
  exact ⟨K.1, K.2.1.un.2, (K.2.2.set K.2.1.un.1 rfl).no⟩
theorem kp_8 (hX : okX X) (hk : okI RT R i (8, a, b, c, v, tab, sub, idx, pl) = true) (hs : stp F X Y M L st (8, a, b, c, v, tab, sub, idx, pl) = some (.inl (true, st', L', M'))) (K : Kp F Y M st L) : Kp F Y M' st' L' := by
  rw [ok_8] at hk
  have h := in_8 hs
  obtain ⟨x, hx, -, rfl, rfl, rfl⟩ := h
  exact ⟨K.1, K.2.1, K.2.2.set (v := vi _) (in_w32 _) rfl⟩
theorem kp_9 (hX : okX X) (hk : okI RT R i (9, a, b, c, v, tab, sub, idx, pl) = true) (hs : stp F X Y M L st (9, a, b, c, v, tab, sub, idx, pl) = some (.inl (true, st', L', M'))) (K : Kp F Y M st L) : Kp F Y M' st' L' := by
  rw [ok_9] at hk
  have h := in_9 hs
  obtain ⟨y, x, s0, rfl, -, rfl, rfl, rfl⟩ := h
  exact ⟨K.1, .kk (in_bin K.2.1.un.2.un.1 K.2.1.un.1) K.2.1.un.2.un.2, K.2.2⟩
theorem kp_10 (hX : okX X) (hk : okI RT R i (10, a, b, c, v, tab, sub, idx, pl) = true) (hs : stp F X Y M L st (10, a, b, c, v, tab, sub, idx, pl) = some (.inl (true, st', L', M'))) (K : Kp F Y M st L) : Kp F Y M' st' L' := by
  rw [ok_10] at hk
  have h := in_10 hs
  obtain ⟨x, s0, rfl, h, rfl, rfl⟩ := h
  rcases h with ⟨-, rfl⟩ | ⟨-, rfl⟩
  · exact ⟨K.1, .kk (in_w32 _) K.2.1.un.2, K.2.2⟩
  · exact ⟨K.1, .kk (in_w8 _) K.2.1.un.2, K.2.2⟩
theorem kp_11 (hX : okX X) (hk : okI RT R i (11, a, b, c, v, tab, sub, idx, pl) = true) (hs : stp F X Y M L st (11, a, b, c, v, tab, sub, idx, pl) = some (.inl (true, st', L', M'))) (K : Kp F Y M st L) : Kp F Y M' st' L' := by
  rw [ok_11] at hk
  have h := in_11 hs
  obtain ⟨y, x, s0, rfl, -, rfl, rfl, rfl⟩ := h
  exact ⟨K.1, .kk (in_lbn K.2.1.un.2.un.1 K.2.1.un.1) K.2.1.un.2.un.2, K.2.2⟩
theorem kp_12 (hX : okX X) (hk : okI RT R i (12, a, b, c, v, tab, sub, idx, pl) = true) (hs : stp F X Y M L st (12, a, b, c, v, tab, sub, idx, pl) = some (.inl (true, st', L', M'))) (K : Kp F Y M st L) : Kp F Y M' st' L' := by
  rw [ok_12] at hk
  have h := in_12 hs
  obtain ⟨x, s0, h, rfl, rfl⟩ := h
  rcases h with ⟨-, rfl, rfl⟩ | ⟨-, rfl, rfl⟩
  · exact ⟨K.1, .kk (in64_32 K.2.1.un.1) K.2.1.un.2, K.2.2⟩
  · exact ⟨K.1, .kk (in_w32 _) K.2.1.un.2, K.2.2⟩
theorem kp_13 (hX : okX X) (hk : okI RT R i (13, a, b, c, v, tab, sub, idx, pl) = true) (hs : stp F X Y M L st (13, a, b, c, v, tab, sub, idx, pl) = some (.inl (true, st', L', M'))) (K : Kp F Y M st L) : Kp F Y M' st' L' := by
  rw [ok_13] at hk
  have h := in_13 hs
  obtain ⟨y, x, s0, rfl, h, rfl, rfl⟩ := h
  rcases h with ⟨-, rfl⟩ | ⟨-, rfl⟩
  · exact ⟨K.1, .kk (in_t64 _) K.2.1.un.2.un.2, K.2.2⟩
  · exact ⟨K.1, .kk (in_t64 _) K.2.1.un.2.un.2, K.2.2⟩
theorem kp_14 (hX : okX X) (hk : okI RT R i (14, a, b, c, v, tab, sub, idx, pl) = true) (hs : stp F X Y M L st (14, a, b, c, v, tab, sub, idx, pl) = some (.inl (true, st', L', M'))) (K : Kp F Y M st L) : Kp F Y M' st' L' := by
  rw [ok_14] at hk
  have h := in_14 hs
  obtain ⟨y, x, s0, rfl, rfl, rfl, rfl⟩ := h
  exact ⟨K.1, .kk (in_lcm3 _ _) K.2.1.un.2.un.2, K.2.2⟩
theorem kp_19 (hX : okX X) (hk : okI RT R i (19, a, b, c, v, tab, sub, idx, pl) = true) (hs : stp F X Y M L st (19, a, b, c, v, tab, sub, idx, pl) = some (.inl (true, st', L', M'))) (K : Kp F Y M st L) : Kp F Y M' st' L' := by
  rw [ok_19] at hk
  have h := in_19 hs
  obtain ⟨k, s0, rfl, hkd, rfl, rfl, rfl⟩ := h
  exact ⟨K.1, .kk (K.1.fI (an3 hk).1 hkd (an3 hk).2.1) K.2.1.un.2, K.2.2⟩
theorem kp_20 (hX : okX X) (hk : okI RT R i (20, a, b, c, v, tab, sub, idx, pl) = true) (hs : stp F X Y M L st (20, a, b, c, v, tab, sub, idx, pl) = some (.inl (true, st', L', M'))) (K : Kp F Y M st L) : Kp F Y M' st' L' := by
  rw [ok_20] at hk
  have h := in_20 hs
  obtain ⟨k, s0, rfl, hkd, -, rfl, rfl, rfl⟩ := h
  exact ⟨K.1, .kk trivial K.2.1.un.2, K.2.2⟩
theorem kp_21 (hX : okX X) (hk : okI RT R i (21, a, b, c, v, tab, sub, idx, pl) = true) (hs : stp F X Y M L st (21, a, b, c, v, tab, sub, idx, pl) = some (.inl (true, st', L', M'))) (K : Kp F Y M st L) : Kp F Y M' st' L' := by
  rw [ok_21] at hk
  have h := in_21 hs
  obtain ⟨x, k, s0, rfl, hkd, -, rfl, rfl, rfl⟩ := h
  exact ⟨K.1.fS (an3 hk).1 hkd (ty_c (an3 hk).2.1) K.2.1.un.1, K.2.1.un.2.un.2, K.2.2⟩
theorem kp_23 (hX : okX X) (hk : okI RT R i (23, a, b, c, v, tab, sub, idx, pl) = true) (hs : stp F X Y M L st (23, a, b, c, v, tab, sub, idx, pl) = some (.inl (true, st', L', M'))) (K : Kp F Y M st L) : Kp F Y M' st' L' := by
  rw [ok_23] at hk
  have h := in_23 hs
  obtain ⟨x, k, s0, rfl, hkd, -, rfl, rfl, rfl⟩ := h
  exact ⟨K.1.fS (an3 hk).1 hkd (ty_c (an3 hk).2.1) K.2.1.un.1, K.2.1.un.2.un.2, K.2.2⟩
theorem kp_22 (hX : okX X) (hk : okI RT R i (22, a, b, c, v, tab, sub, idx, pl) = true) (hs : stp F X Y M L st (22, a, b, c, v, tab, sub, idx, pl) = some (.inl (true, st', L', M'))) (K : Kp F Y M st L) : Kp F Y M' st' L' := by
  rw [ok_22] at hk
  have h := in_22 hs
  obtain ⟨t, k, s0, rfl, hkd, hF, rfl, rfl, rfl⟩ := h
  exact ⟨K.1.fR (an3 hk).1 hkd (an3 hk).2.1 (eq_of_beq hF), K.2.1.un.2.un.2, K.2.2⟩
theorem kp_24 (hX : okX X) (hk : okI RT R i (24, a, b, c, v, tab, sub, idx, pl) = true) (hs : stp F X Y M L st (24, a, b, c, v, tab, sub, idx, pl) = some (.inl (true, st', L', M'))) (K : Kp F Y M st L) : Kp F Y M' st' L' := by
  rw [ok_24] at hk
  have h := in_24 hs
  obtain ⟨t, k, s0, rfl, hkd, hF, rfl, rfl, rfl⟩ := h
  exact ⟨K.1.fR (an3 hk).1 hkd (an3 hk).2.1 (eq_of_beq hF), K.2.1.un.2.un.2, K.2.2⟩
theorem kp_25 (hX : okX X) (hk : okI RT R i (25, a, b, c, v, tab, sub, idx, pl) = true) (hs : stp F X Y M L st (25, a, b, c, v, tab, sub, idx, pl) = some (.inl (true, st', L', M'))) (K : Kp F Y M st L) : Kp F Y M' st' L' := by
  rw [ok_25] at hk
  have h := in_25 hs
  rcases h with ⟨x, k, s0, rfl, hkd, -, -, rfl, rfl, h⟩ | ⟨x, k, s0, rfl, -, h0, h1, rfl, rfl, rfl⟩
  · rcases h with ⟨rfl, rfl⟩ | ⟨rfl, -, rfl⟩ | ⟨h3, h4, rfl⟩
    · obtain ⟨n, hn⟩ := kd_ge (by decide) hkd
      exact ⟨K.1, .kk ((K.1.1 k _ hn _).2.2 rfl) K.2.1.un.2.un.2, K.2.2⟩
    · exact ⟨K.1, .kk trivial K.2.1.un.2.un.2, K.2.2⟩
    · have ha : a ≤ 2 := by
        split at hk
        all_goals first | omega | exact absurd rfl h3 | exact absurd rfl h4 | cases hk
      obtain ⟨n, hn⟩ := kd_ge (by omega) hkd
      exact ⟨K.1, .kk ((K.1.1 k _ hn _).2.1 ha) K.2.1.un.2.un.2, K.2.2⟩
  · refine ⟨K.1, .kk ((hX k).1 _ ?_) K.2.1.un.2.un.2, K.2.2⟩
    rw [List.getD_eq_getElem?_getD, List.getElem?_eq_getElem (by omega), Option.getD_some]
    exact List.getElem_mem _
theorem kp_26 (hX : okX X) (hk : okI RT R i (26, a, b, c, v, tab, sub, idx, pl) = true) (hs : stp F X Y M L st (26, a, b, c, v, tab, sub, idx, pl) = some (.inl (true, st', L', M'))) (K : Kp F Y M st L) : Kp F Y M' st' L' := by
  rw [ok_26] at hk
  have h := in_26 hs
  obtain ⟨z, x, k, s0, w, hkd, -, -, rfl, rfl, rfl, h⟩ := h
  rcases h with ⟨rfl, rfl, rfl⟩ | ⟨rfl, rfl, rfl⟩ | ⟨rfl, rfl, rfl⟩ | ⟨rfl, rfl, rfl, -⟩
  · obtain ⟨n, hn⟩ := kd_ge (by decide) hkd
    exact ⟨K.1.st hn ⟨fun _ => K.2.1.un.1, fun q => absurd rfl q⟩ (by show ¬ ((10 ≤ 3 ∧ _) ∨ 3 = 4); omega), K.2.1.un.2.un.2.un.2, K.2.2⟩
  · obtain ⟨n, hn⟩ := kd_ge (by decide) hkd
    exact ⟨K.1.st hn ⟨fun q => absurd q (show ¬ 0 = 3 by decide), fun _ => K.2.1.un.1⟩ (by show ¬ ((10 ≤ 0 ∧ _) ∨ 0 = 4); omega), K.2.1.un.2.un.2.un.2, K.2.2⟩
  · obtain ⟨n, hn⟩ := kd_ge (by decide) hkd
    exact ⟨K.1.st hn ⟨fun q => absurd q (show ¬ 1 = 3 by decide), fun _ => in_w8 _⟩ (by show ¬ ((10 ≤ 1 ∧ _) ∨ 1 = 4); omega), K.2.1.un.2.un.2.un.2, K.2.2⟩
  · obtain ⟨n, hn⟩ := kd_ge (by decide) hkd
    exact ⟨K.1.st hn ⟨fun q => absurd q (show ¬ 2 = 3 by decide), fun _ => K.2.1.un.1⟩ (by show ¬ ((10 ≤ 2 ∧ _) ∨ 2 = 4); omega), K.2.1.un.2.un.2.un.2, K.2.2⟩
theorem kp_27 (hX : okX X) (hk : okI RT R i (27, a, b, c, v, tab, sub, idx, pl) = true) (hs : stp F X Y M L st (27, a, b, c, v, tab, sub, idx, pl) = some (.inl (true, st', L', M'))) (K : Kp F Y M st L) : Kp F Y M' st' L' := by
  rw [ok_27] at hk
  have h := in_27 hs
  obtain ⟨-, rfl, rfl, rfl⟩ := h
  exact ⟨K.1, .kk trivial K.2.1, K.2.2⟩
theorem kp_28 (hX : okX X) (hk : okI RT R i (28, a, b, c, v, tab, sub, idx, pl) = true) (hs : stp F X Y M L st (28, a, b, c, v, tab, sub, idx, pl) = some (.inl (true, st', L', M'))) (K : Kp F Y M st L) : Kp F Y M' st' L' := by
  rw [ok_28] at hk
  have h := in_28 hs
  obtain ⟨rfl, rfl, rfl⟩ := h
  exact ⟨K.1, .kk trivial K.2.1, K.2.2⟩
theorem kp_29 (hX : okX X) (hk : okI RT R i (29, a, b, c, v, tab, sub, idx, pl) = true) (hs : stp F X Y M L st (29, a, b, c, v, tab, sub, idx, pl) = some (.inl (true, st', L', M'))) (K : Kp F Y M st L) : Kp F Y M' st' L' := by
  rw [ok_29] at hk
  have h := in_29 hs
  obtain ⟨s0, rfl, rfl, rfl, rfl⟩ := h
  exact ⟨K.1, .kk (hX 2).2 K.2.1.un.2, K.2.2⟩
theorem kp_32 (hX : okX X) (hk : okI RT R i (32, a, b, c, v, tab, sub, idx, pl) = true) (hs : stp F X Y M L st (32, a, b, c, v, tab, sub, idx, pl) = some (.inl (true, st', L', M'))) (K : Kp F Y M st L) : Kp F Y M' st' L' := by
  rw [ok_32] at hk
  have h := in_32 hs
  obtain ⟨k, s0, rfl, rfl, rfl, rfl⟩ := h
  exact ⟨K.1, .kk trivial K.2.1, K.2.2⟩
theorem kp_33 (hX : okX X) (hk : okI RT R i (33, a, b, c, v, tab, sub, idx, pl) = true) (hs : stp F X Y M L st (33, a, b, c, v, tab, sub, idx, pl) = some (.inl (true, st', L', M'))) (K : Kp F Y M st L) : Kp F Y M' st' L' := by
  rw [ok_33] at hk
  have h := in_33 hs
  obtain ⟨x, k, s0, rfl, rfl, rfl, rfl⟩ := h
  exact ⟨K.1, .kk K.2.1.un.1 (.kk trivial K.2.1), K.2.2⟩
theorem kp_34 (hX : okX X) (hk : okI RT R i (34, a, b, c, v, tab, sub, idx, pl) = true) (hs : stp F X Y M L st (34, a, b, c, v, tab, sub, idx, pl) = some (.inl (true, st', L', M'))) (K : Kp F Y M st L) : Kp F Y M' st' L' := by
  rw [ok_34] at hk
  have h := in_34 hs
  obtain ⟨x, s0, h, rfl, rfl, rfl⟩ := h
  rcases h with ⟨-, rfl⟩ | ⟨-, rfl⟩
  · exact ⟨K.1, K.2.1.un.2, K.2.2⟩
  · exact ⟨K.1, K.2.1.un.2, K.2.2⟩
theorem kp_38 (hX : okX X) (hk : okI RT R i (38, a, b, c, v, tab, sub, idx, pl) = true) (hs : stp F X Y M L st (38, a, b, c, v, tab, sub, idx, pl) = some (.inl (true, st', L', M'))) (K : Kp F Y M st L) : Kp F Y M' st' L' := by
  rw [ok_38] at hk
  have h := in_38 hs
  obtain ⟨k, s0, rfl, -, rfl, rfl, rfl⟩ := h
  exact ⟨K.1, K.2.1.un.2, K.2.2⟩
theorem kp_39 (hX : okX X) (hk : okI RT R i (39, a, b, c, v, tab, sub, idx, pl) = true) (hs : stp F X Y M L st (39, a, b, c, v, tab, sub, idx, pl) = some (.inl (true, st', L', M'))) (K : Kp F Y M st L) : Kp F Y M' st' L' := by
  rw [ok_39] at hk
  have h := in_39 hs
  obtain ⟨h, rfl, rfl⟩ := h
  rcases h with ⟨-, x, s0, rfl, -, rfl⟩ | ⟨-, y, x, s0, rfl, -, rfl⟩
  · refine ⟨K.1, .kk (show in32 (mAbs x) from ?_) K.2.1.un.2, K.2.2⟩
    unfold mAbs
    split
    · exact K.2.1.un.1
    · exact in_w32 _
  · refine ⟨K.1, .kk (show in32 (mMM a x y) from ?_) K.2.1.un.2.un.2, K.2.2⟩
    have hy := K.2.1.un.1
    have hx := K.2.1.un.2.un.1
    unfold mMM
    split
    · unfold mMax
      split
      · exact hy
      · exact hx
    · unfold mMin
      split
      · exact hy
      · exact hx
theorem kp_N {mi : MI} (hX : okX X) (hk : okI RT R i mi = true) (hs : stp F X Y M L st mi = some (.inl (true, st', L', M'))) (K : Kp F Y M st L) : Kp F Y M' st' L' := by
  obtain ⟨op, a, b, c, v, tab, sub, idx, pl⟩ := mi
  match op, hk, hs with
  | 0, hk, hs => exact kp_0 hX hk hs K
  | 1, hk, hs => exact kp_1 hX hk hs K
  | 2, hk, hs => exact kp_2 hX hk hs K
  | 3, hk, hs => exact kp_3 hX hk hs K
  | 4, hk, hs => exact kp_4 hX hk hs K
  | 5, hk, hs => exact kp_5 hX hk hs K
  | 6, hk, hs => exact kp_6 hX hk hs K
  | 7, hk, hs => exact kp_7 hX hk hs K
  | 8, hk, hs => exact kp_8 hX hk hs K
  | 9, hk, hs => exact kp_9 hX hk hs K
  | 10, hk, hs => exact kp_10 hX hk hs K
  | 11, hk, hs => exact kp_11 hX hk hs K
  | 12, hk, hs => exact kp_12 hX hk hs K
  | 13, hk, hs => exact kp_13 hX hk hs K
  | 14, hk, hs => exact kp_14 hX hk hs K
  | 15, hk, hs => exact absurd hs in_15
  | 16, hk, hs => exact absurd hs in_16
  | 17, hk, hs => exact absurd hs in_17
  | 18, hk, hs => exact absurd hs in_18
  | 19, hk, hs => exact kp_19 hX hk hs K
  | 20, hk, hs => exact kp_20 hX hk hs K
  | 21, hk, hs => exact kp_21 hX hk hs K
  | 22, hk, hs => exact kp_22 hX hk hs K
  | 23, hk, hs => exact kp_23 hX hk hs K
  | 24, hk, hs => exact kp_24 hX hk hs K
  | 25, hk, hs => exact kp_25 hX hk hs K
  | 26, hk, hs => exact kp_26 hX hk hs K
  | 27, hk, hs => exact kp_27 hX hk hs K
  | 28, hk, hs => exact kp_28 hX hk hs K
  | 29, hk, hs => exact kp_29 hX hk hs K
  | 30, hk, hs => exact absurd hs in_30
  | 31, hk, hs => exact absurd hs in_31
  | 32, hk, hs => exact kp_32 hX hk hs K
  | 33, hk, hs => exact kp_33 hX hk hs K
  | 34, hk, hs => exact kp_34 hX hk hs K
  | 35, hk, hs => exact absurd hs in_35
  | 36, hk, hs => exact absurd hs in_36
  | 37, hk, hs => exact absurd hs in_37
  | 38, hk, hs => exact kp_38 hX hk hs K
  | 39, hk, hs => exact kp_39 hX hk hs K
  | op + 40, hk, hs => cases hs
theorem kp_B {mi : MI} {g : Bool} {t : Nat} (hs : stp F X Y M L st mi = some (.inr (.inl (g, t, st')))) (K : Kp F Y M st L) : okVs st' := by
  obtain ⟨op, a, b, c, v, tab, sub, idx, pl⟩ := mi
  match op, hs with
  | 16, hs =>
    rw [st_16] at hs
    split at hs
    · cases hs
      exact K.2.1.un.2
    · cases hs
  | 17, hs =>
    rw [st_17] at hs
    split at hs
    · cases hs
      exact K.2.1.un.2.un.2
    · cases hs
  | 0, hs =>
    rw [st_0] at hs
    repeat' first | (cases hs; done) | split at hs
  | 1, hs =>
    rw [st_1] at hs
    repeat' first | (cases hs; done) | split at hs
  | 2, hs =>
    rw [st_2] at hs
    repeat' first | (cases hs; done) | split at hs
  | 3, hs =>
    rw [st_3] at hs
    repeat' first | (cases hs; done) | split at hs
  | 4, hs =>
    rw [st_4] at hs
    repeat' first | (cases hs; done) | split at hs
  | 5, hs =>
    rw [st_5] at hs
    repeat' first | (cases hs; done) | split at hs
  | 6, hs =>
    rw [st_6] at hs
    repeat' first | (cases hs; done) | split at hs
  | 7, hs =>
    rw [st_7] at hs
    repeat' first | (cases hs; done) | split at hs
  | 8, hs =>
    rw [st_8] at hs
    repeat' first | (cases hs; done) | split at hs
  | 9, hs =>
    rw [st_9] at hs
    repeat' first | (cases hs; done) | split at hs
  | 10, hs =>
    rw [st_10] at hs
    repeat' first | (cases hs; done) | split at hs
  | 11, hs =>
    rw [st_11] at hs
    repeat' first | (cases hs; done) | split at hs
  | 12, hs =>
    rw [st_12] at hs
    repeat' first | (cases hs; done) | split at hs
  | 13, hs =>
    rw [st_13] at hs
    repeat' first | (cases hs; done) | split at hs
  | 14, hs =>
    rw [st_14] at hs
    repeat' first | (cases hs; done) | split at hs
  | 15, hs =>
    rw [st_15] at hs
    repeat' first | (cases hs; done) | split at hs
  | 18, hs =>
    rw [st_18] at hs
    repeat' first | (cases hs; done) | split at hs
  | 19, hs =>
    rw [st_19] at hs
    repeat' first | (cases hs; done) | split at hs
  | 20, hs =>
    rw [st_20] at hs
    repeat' first | (cases hs; done) | split at hs
  | 21, hs =>
    rw [st_21] at hs
    repeat' first | (cases hs; done) | split at hs
  | 22, hs =>
    rw [st_22] at hs
    repeat' first | (cases hs; done) | split at hs
  | 23, hs =>
    rw [st_23] at hs
    repeat' first | (cases hs; done) | split at hs
  | 24, hs =>
    rw [st_24] at hs
    repeat' first | (cases hs; done) | split at hs
  | 25, hs =>
    rw [st_25] at hs
    repeat' first | (cases hs; done) | split at hs
  | 26, hs =>
    rw [st_26] at hs
    repeat' first | (cases hs; done) | split at hs
  | 27, hs =>
    rw [st_27] at hs
    repeat' first | (cases hs; done) | split at hs
  | 28, hs =>
    rw [st_28] at hs
    repeat' first | (cases hs; done) | split at hs
  | 29, hs =>
    rw [st_29] at hs
    repeat' first | (cases hs; done) | split at hs
  | 30, hs =>
    rw [st_30] at hs
    repeat' first | (cases hs; done) | split at hs
  | 31, hs =>
    rw [st_31] at hs
    repeat' first | (cases hs; done) | split at hs
  | 32, hs =>
    rw [st_32] at hs
    repeat' first | (cases hs; done) | split at hs
  | 33, hs =>
    rw [st_33] at hs
    repeat' first | (cases hs; done) | split at hs
  | 34, hs =>
    rw [st_34] at hs
    repeat' first | (cases hs; done) | split at hs
  | 35, hs =>
    rw [st_35] at hs
    repeat' first | (cases hs; done) | split at hs
  | 36, hs =>
    rw [st_36] at hs
    repeat' first | (cases hs; done) | split at hs
  | 37, hs =>
    rw [st_37] at hs
    repeat' first | (cases hs; done) | split at hs
  | 38, hs =>
    rw [st_38] at hs
    repeat' first | (cases hs; done) | split at hs
  | 39, hs =>
    rw [st_39] at hs
    repeat' first | (cases hs; done) | split at hs
  | op + 40, hs => cases hs
theorem kp_S {mi : MI} {x : Int} {tb : List (Int × Nat)} {t : Nat} (hs : stp F X Y M L st mi = some (.inr (.inr (.inl (x, tb, t, st'))))) (K : Kp F Y M st L) : okVs st' := by
  obtain ⟨op, a, b, c, v, tab, sub, idx, pl⟩ := mi
  match op, hs with
  | 18, hs =>
    rw [st_18] at hs
    split at hs
    · cases hs
      exact K.2.1.un.2
    · cases hs
  | 0, hs =>
    rw [st_0] at hs
    repeat' first | (cases hs; done) | split at hs
  | 1, hs =>
    rw [st_1] at hs
    repeat' first | (cases hs; done) | split at hs
  | 2, hs =>
    rw [st_2] at hs
    repeat' first | (cases hs; done) | split at hs
  | 3, hs =>
    rw [st_3] at hs
    repeat' first | (cases hs; done) | split at hs
  | 4, hs =>
    rw [st_4] at hs
    repeat' first | (cases hs; done) | split at hs
  | 5, hs =>
    rw [st_5] at hs
    repeat' first | (cases hs; done) | split at hs
  | 6, hs =>
    rw [st_6] at hs
    repeat' first | (cases hs; done) | split at hs
  | 7, hs =>
    rw [st_7] at hs
    repeat' first | (cases hs; done) | split at hs
  | 8, hs =>
    rw [st_8] at hs
    repeat' first | (cases hs; done) | split at hs
  | 9, hs =>
    rw [st_9] at hs
    repeat' first | (cases hs; done) | split at hs
  | 10, hs =>
    rw [st_10] at hs
    repeat' first | (cases hs; done) | split at hs
  | 11, hs =>
    rw [st_11] at hs
    repeat' first | (cases hs; done) | split at hs
  | 12, hs =>
    rw [st_12] at hs
    repeat' first | (cases hs; done) | split at hs
  | 13, hs =>
    rw [st_13] at hs
    repeat' first | (cases hs; done) | split at hs
  | 14, hs =>
    rw [st_14] at hs
    repeat' first | (cases hs; done) | split at hs
  | 15, hs =>
    rw [st_15] at hs
    repeat' first | (cases hs; done) | split at hs
  | 16, hs =>
    rw [st_16] at hs
    repeat' first | (cases hs; done) | split at hs
  | 17, hs =>
    rw [st_17] at hs
    repeat' first | (cases hs; done) | split at hs
  | 19, hs =>
    rw [st_19] at hs
    repeat' first | (cases hs; done) | split at hs
  | 20, hs =>
    rw [st_20] at hs
    repeat' first | (cases hs; done) | split at hs
  | 21, hs =>
    rw [st_21] at hs
    repeat' first | (cases hs; done) | split at hs
  | 22, hs =>
    rw [st_22] at hs
    repeat' first | (cases hs; done) | split at hs
  | 23, hs =>
    rw [st_23] at hs
    repeat' first | (cases hs; done) | split at hs
  | 24, hs =>
    rw [st_24] at hs
    repeat' first | (cases hs; done) | split at hs
  | 25, hs =>
    rw [st_25] at hs
    repeat' first | (cases hs; done) | split at hs
  | 26, hs =>
    rw [st_26] at hs
    repeat' first | (cases hs; done) | split at hs
  | 27, hs =>
    rw [st_27] at hs
    repeat' first | (cases hs; done) | split at hs
  | 28, hs =>
    rw [st_28] at hs
    repeat' first | (cases hs; done) | split at hs
  | 29, hs =>
    rw [st_29] at hs
    repeat' first | (cases hs; done) | split at hs
  | 30, hs =>
    rw [st_30] at hs
    repeat' first | (cases hs; done) | split at hs
  | 31, hs =>
    rw [st_31] at hs
    repeat' first | (cases hs; done) | split at hs
  | 32, hs =>
    rw [st_32] at hs
    repeat' first | (cases hs; done) | split at hs
  | 33, hs =>
    rw [st_33] at hs
    repeat' first | (cases hs; done) | split at hs
  | 34, hs =>
    rw [st_34] at hs
    repeat' first | (cases hs; done) | split at hs
  | 35, hs =>
    rw [st_35] at hs
    repeat' first | (cases hs; done) | split at hs
  | 36, hs =>
    rw [st_36] at hs
    repeat' first | (cases hs; done) | split at hs
  | 37, hs =>
    rw [st_37] at hs
    repeat' first | (cases hs; done) | split at hs
  | 38, hs =>
    rw [st_38] at hs
    repeat' first | (cases hs; done) | split at hs
  | 39, hs =>
    rw [st_39] at hs
    repeat' first | (cases hs; done) | split at hs
  | op + 40, hs => cases hs
theorem kp_C {mi : MI} {g : Bool} {m c' : Nat} {as : List Vv} (hs : stp F X Y M L st mi = some (.inr (.inr (.inr (.inl (g, m, as, c', st')))))) (K : Kp F Y M st L) : okVs st' ∧ okVs as ∧ ∀ z ∈ as, isXv z = false := by
  obtain ⟨op, a, b, c, v, tab, sub, idx, pl⟩ := mi
  match op, hs with
  | 30, hs =>
    rw [st_30] at hs
    split at hs
    · rename_i hb
      cases hs
      refine ⟨fun z hz => K.2.1 z (List.mem_of_mem_drop hz), fun z hz => K.2.1 z (List.mem_of_mem_take (List.mem_reverse.mp hz)), fun z hz => ?_⟩
      have := List.all_eq_true.mp (an2 hb).1 z (List.mem_reverse.mp hz)
      simpa using this
    · cases hs
  | 0, hs =>
    rw [st_0] at hs
    repeat' first | (cases hs; done) | split at hs
  | 1, hs =>
    rw [st_1] at hs
    repeat' first | (cases hs; done) | split at hs
  | 2, hs =>
    rw [st_2] at hs
    repeat' first | (cases hs; done) | split at hs
  | 3, hs =>
    rw [st_3] at hs
    repeat' first | (cases hs; done) | split at hs
  | 4, hs =>
    rw [st_4] at hs
    repeat' first | (cases hs; done) | split at hs
  | 5, hs =>
    rw [st_5] at hs
    repeat' first | (cases hs; done) | split at hs
  | 6, hs =>
    rw [st_6] at hs
    repeat' first | (cases hs; done) | split at hs
  | 7, hs =>
    rw [st_7] at hs
    repeat' first | (cases hs; done) | split at hs
  | 8, hs =>
    rw [st_8] at hs
    repeat' first | (cases hs; done) | split at hs
  | 9, hs =>
    rw [st_9] at hs
    repeat' first | (cases hs; done) | split at hs
  | 10, hs =>
    rw [st_10] at hs
    repeat' first | (cases hs; done) | split at hs
  | 11, hs =>
    rw [st_11] at hs
    repeat' first | (cases hs; done) | split at hs
  | 12, hs =>
    rw [st_12] at hs
    repeat' first | (cases hs; done) | split at hs
  | 13, hs =>
    rw [st_13] at hs
    repeat' first | (cases hs; done) | split at hs
  | 14, hs =>
    rw [st_14] at hs
    repeat' first | (cases hs; done) | split at hs
  | 15, hs =>
    rw [st_15] at hs
    repeat' first | (cases hs; done) | split at hs
  | 16, hs =>
    rw [st_16] at hs
    repeat' first | (cases hs; done) | split at hs
  | 17, hs =>
    rw [st_17] at hs
    repeat' first | (cases hs; done) | split at hs
  | 18, hs =>
    rw [st_18] at hs
    repeat' first | (cases hs; done) | split at hs
  | 19, hs =>
    rw [st_19] at hs
    repeat' first | (cases hs; done) | split at hs
  | 20, hs =>
    rw [st_20] at hs
    repeat' first | (cases hs; done) | split at hs
  | 21, hs =>
    rw [st_21] at hs
    repeat' first | (cases hs; done) | split at hs
  | 22, hs =>
    rw [st_22] at hs
    repeat' first | (cases hs; done) | split at hs
  | 23, hs =>
    rw [st_23] at hs
    repeat' first | (cases hs; done) | split at hs
  | 24, hs =>
    rw [st_24] at hs
    repeat' first | (cases hs; done) | split at hs
  | 25, hs =>
    rw [st_25] at hs
    repeat' first | (cases hs; done) | split at hs
  | 26, hs =>
    rw [st_26] at hs
    repeat' first | (cases hs; done) | split at hs
  | 27, hs =>
    rw [st_27] at hs
    repeat' first | (cases hs; done) | split at hs
  | 28, hs =>
    rw [st_28] at hs
    repeat' first | (cases hs; done) | split at hs
  | 29, hs =>
    rw [st_29] at hs
    repeat' first | (cases hs; done) | split at hs
  | 31, hs =>
    rw [st_31] at hs
    repeat' first | (cases hs; done) | split at hs
  | 32, hs =>
    rw [st_32] at hs
    repeat' first | (cases hs; done) | split at hs
  | 33, hs =>
    rw [st_33] at hs
    repeat' first | (cases hs; done) | split at hs
  | 34, hs =>
    rw [st_34] at hs
    repeat' first | (cases hs; done) | split at hs
  | 35, hs =>
    rw [st_35] at hs
    repeat' first | (cases hs; done) | split at hs
  | 36, hs =>
    rw [st_36] at hs
    repeat' first | (cases hs; done) | split at hs
  | 37, hs =>
    rw [st_37] at hs
    repeat' first | (cases hs; done) | split at hs
  | 38, hs =>
    rw [st_38] at hs
    repeat' first | (cases hs; done) | split at hs
  | 39, hs =>
    rw [st_39] at hs
    repeat' first | (cases hs; done) | split at hs
  | op + 40, hs => cases hs
theorem kp_R {mi : MI} {g : Bool} {w : Vv} (hs : stp F X Y M L st mi = some (.inr (.inr (.inr (.inr (.inl (g, w))))))) (K : Kp F Y M st L) : okv w := by
  obtain ⟨op, a, b, c, v, tab, sub, idx, pl⟩ := mi
  match op, hs with
  | 31, hs =>
    rw [st_31] at hs
    split at hs
    · split at hs
      · cases hs
        exact in32_0
      · cases hs
    · split at hs
      · cases hs
        exact K.2.1.un.1
      · cases hs
    · split at hs
      · cases hs
        exact K.2.1.un.1
      · cases hs
  | 0, hs =>
    rw [st_0] at hs
    repeat' first | (cases hs; done) | split at hs
  | 1, hs =>
    rw [st_1] at hs
    repeat' first | (cases hs; done) | split at hs
  | 2, hs =>
    rw [st_2] at hs
    repeat' first | (cases hs; done) | split at hs
  | 3, hs =>
    rw [st_3] at hs
    repeat' first | (cases hs; done) | split at hs
  | 4, hs =>
    rw [st_4] at hs
    repeat' first | (cases hs; done) | split at hs
  | 5, hs =>
    rw [st_5] at hs
    repeat' first | (cases hs; done) | split at hs
  | 6, hs =>
    rw [st_6] at hs
    repeat' first | (cases hs; done) | split at hs
  | 7, hs =>
    rw [st_7] at hs
    repeat' first | (cases hs; done) | split at hs
  | 8, hs =>
    rw [st_8] at hs
    repeat' first | (cases hs; done) | split at hs
  | 9, hs =>
    rw [st_9] at hs
    repeat' first | (cases hs; done) | split at hs
  | 10, hs =>
    rw [st_10] at hs
    repeat' first | (cases hs; done) | split at hs
  | 11, hs =>
    rw [st_11] at hs
    repeat' first | (cases hs; done) | split at hs
  | 12, hs =>
    rw [st_12] at hs
    repeat' first | (cases hs; done) | split at hs
  | 13, hs =>
    rw [st_13] at hs
    repeat' first | (cases hs; done) | split at hs
  | 14, hs =>
    rw [st_14] at hs
    repeat' first | (cases hs; done) | split at hs
  | 15, hs =>
    rw [st_15] at hs
    repeat' first | (cases hs; done) | split at hs
  | 16, hs =>
    rw [st_16] at hs
    repeat' first | (cases hs; done) | split at hs
  | 17, hs =>
    rw [st_17] at hs
    repeat' first | (cases hs; done) | split at hs
  | 18, hs =>
    rw [st_18] at hs
    repeat' first | (cases hs; done) | split at hs
  | 19, hs =>
    rw [st_19] at hs
    repeat' first | (cases hs; done) | split at hs
  | 20, hs =>
    rw [st_20] at hs
    repeat' first | (cases hs; done) | split at hs
  | 21, hs =>
    rw [st_21] at hs
    repeat' first | (cases hs; done) | split at hs
  | 22, hs =>
    rw [st_22] at hs
    repeat' first | (cases hs; done) | split at hs
  | 23, hs =>
    rw [st_23] at hs
    repeat' first | (cases hs; done) | split at hs
  | 24, hs =>
    rw [st_24] at hs
    repeat' first | (cases hs; done) | split at hs
  | 25, hs =>
    rw [st_25] at hs
    repeat' first | (cases hs; done) | split at hs
  | 26, hs =>
    rw [st_26] at hs
    repeat' first | (cases hs; done) | split at hs
  | 27, hs =>
    rw [st_27] at hs
    repeat' first | (cases hs; done) | split at hs
  | 28, hs =>
    rw [st_28] at hs
    repeat' first | (cases hs; done) | split at hs
  | 29, hs =>
    rw [st_29] at hs
    repeat' first | (cases hs; done) | split at hs
  | 30, hs =>
    rw [st_30] at hs
    repeat' first | (cases hs; done) | split at hs
  | 32, hs =>
    rw [st_32] at hs
    repeat' first | (cases hs; done) | split at hs
  | 33, hs =>
    rw [st_33] at hs
    repeat' first | (cases hs; done) | split at hs
  | 34, hs =>
    rw [st_34] at hs
    repeat' first | (cases hs; done) | split at hs
  | 35, hs =>
    rw [st_35] at hs
    repeat' first | (cases hs; done) | split at hs
  | 36, hs =>
    rw [st_36] at hs
    repeat' first | (cases hs; done) | split at hs
  | 37, hs =>
    rw [st_37] at hs
    repeat' first | (cases hs; done) | split at hs
  | 38, hs =>
    rw [st_38] at hs
    repeat' first | (cases hs; done) | split at hs
  | 39, hs =>
    rw [st_39] at hs
    repeat' first | (cases hs; done) | split at hs
  | op + 40, hs => cases hs
theorem kp_A {mi : MI} {Y' : YY} (hs : stp F X Y M L st mi = some (.inr (.inr (.inr (.inr (.inr (.inl (st', Y', M')))))))) (K : Kp F Y M st L) : Inv F Y' M' ∧ okVs st' ∧ ∃ Y2, Y' = Y ++ Y2 := by
  obtain ⟨op, a, b, c, v, tab, sub, idx, pl⟩ := mi
  have hz : ∀ k, k < Y.length → ∀ j, zrM M Y.length k j = M k j := fun k hk j => if_neg (by omega)
  have hz0 : ∀ (q : Nat × Nat) (k : Nat) (p : Nat × Nat), ([q] : YY)[k]? = some p → p.1 ≠ 4 → ∀ j, zrM M Y.length (Y.length + k) j = 0 := fun q k p hp _ j => by
    have hk : k < 1 := (List.getElem?_eq_some_iff.mp hp).1
    exact if_pos (by omega)
  match op, hs with
  | 35, hs =>
    rw [st_35] at hs
    cases hs
    exact ⟨K.1.app hz (hz0 _), .kk trivial K.2.1, _, rfl⟩
  | 36, hs =>
    rw [st_36] at hs
    split at hs
    · split at hs
      · cases hs
        exact ⟨K.1.app hz (hz0 _), .kk trivial K.2.1.un.2, _, rfl⟩
      · cases hs
    · cases hs
  | 37, hs =>
    rw [st_37] at hs
    split at hs
    · rename_i x s0 _
      split at hs
      · cases hs
        refine ⟨K.1.app (fun k hk j => ?_) (fun k p hp h4 j => ?_), .kk trivial K.2.1.un.2.un.2, _, rfl⟩
        · unfold muM
          rw [if_neg (by omega), if_neg (by omega)]
        · cases k with
          | zero => cases hp; exact absurd rfl h4
          | succ k =>
            rw [List.getElem?_cons_succ, List.getElem?_replicate] at hp
            by_cases hk : k < x.toNat
            · unfold muM
              rw [if_neg (by omega), if_pos (by omega)]
            · rw [if_neg hk] at hp
              cases hp
      · cases hs
    · cases hs
  | 0, hs =>
    rw [st_0] at hs
    repeat' first | (cases hs; done) | split at hs
  | 1, hs =>
    rw [st_1] at hs
    repeat' first | (cases hs; done) | split at hs
  | 2, hs =>
    rw [st_2] at hs
    repeat' first | (cases hs; done) | split at hs
  | 3, hs =>
    rw [st_3] at hs
    repeat' first | (cases hs; done) | split at hs
  | 4, hs =>
    rw [st_4] at hs
    repeat' first | (cases hs; done) | split at hs
  | 5, hs =>
    rw [st_5] at hs
    repeat' first | (cases hs; done) | split at hs
  | 6, hs =>
    rw [st_6] at hs
    repeat' first | (cases hs; done) | split at hs
  | 7, hs =>
    rw [st_7] at hs
    repeat' first | (cases hs; done) | split at hs
  | 8, hs =>
    rw [st_8] at hs
    repeat' first | (cases hs; done) | split at hs
  | 9, hs =>
    rw [st_9] at hs
    repeat' first | (cases hs; done) | split at hs
  | 10, hs =>
    rw [st_10] at hs
    repeat' first | (cases hs; done) | split at hs
  | 11, hs =>
    rw [st_11] at hs
    repeat' first | (cases hs; done) | split at hs
  | 12, hs =>
    rw [st_12] at hs
    repeat' first | (cases hs; done) | split at hs
  | 13, hs =>
    rw [st_13] at hs
    repeat' first | (cases hs; done) | split at hs
  | 14, hs =>
    rw [st_14] at hs
    repeat' first | (cases hs; done) | split at hs
  | 15, hs =>
    rw [st_15] at hs
    repeat' first | (cases hs; done) | split at hs
  | 16, hs =>
    rw [st_16] at hs
    repeat' first | (cases hs; done) | split at hs
  | 17, hs =>
    rw [st_17] at hs
    repeat' first | (cases hs; done) | split at hs
  | 18, hs =>
    rw [st_18] at hs
    repeat' first | (cases hs; done) | split at hs
  | 19, hs =>
    rw [st_19] at hs
    repeat' first | (cases hs; done) | split at hs
  | 20, hs =>
    rw [st_20] at hs
    repeat' first | (cases hs; done) | split at hs
  | 21, hs =>
    rw [st_21] at hs
    repeat' first | (cases hs; done) | split at hs
  | 22, hs =>
    rw [st_22] at hs
    repeat' first | (cases hs; done) | split at hs
  | 23, hs =>
    rw [st_23] at hs
    repeat' first | (cases hs; done) | split at hs
  | 24, hs =>
    rw [st_24] at hs
    repeat' first | (cases hs; done) | split at hs
  | 25, hs =>
    rw [st_25] at hs
    repeat' first | (cases hs; done) | split at hs
  | 26, hs =>
    rw [st_26] at hs
    repeat' first | (cases hs; done) | split at hs
  | 27, hs =>
    rw [st_27] at hs
    repeat' first | (cases hs; done) | split at hs
  | 28, hs =>
    rw [st_28] at hs
    repeat' first | (cases hs; done) | split at hs
  | 29, hs =>
    rw [st_29] at hs
    repeat' first | (cases hs; done) | split at hs
  | 30, hs =>
    rw [st_30] at hs
    repeat' first | (cases hs; done) | split at hs
  | 31, hs =>
    rw [st_31] at hs
    repeat' first | (cases hs; done) | split at hs
  | 32, hs =>
    rw [st_32] at hs
    repeat' first | (cases hs; done) | split at hs
  | 33, hs =>
    rw [st_33] at hs
    repeat' first | (cases hs; done) | split at hs
  | 34, hs =>
    rw [st_34] at hs
    repeat' first | (cases hs; done) | split at hs
  | 38, hs =>
    rw [st_38] at hs
    repeat' first | (cases hs; done) | split at hs
  | 39, hs =>
    rw [st_39] at hs
    repeat' first | (cases hs; done) | split at hs
  | op + 40, hs => cases hs
theorem kp_G {mi : MI} {t : Nat} (hs : stp F X Y M L st mi = some (.inr (.inr (.inr (.inr (.inr (.inr (t, st')))))))) (K : Kp F Y M st L) : okVs st' := by
  obtain ⟨op, a, b, c, v, tab, sub, idx, pl⟩ := mi
  match op, hs with
  | 15, hs =>
    rw [st_15] at hs
    cases hs
    exact K.2.1
  | 0, hs =>
    rw [st_0] at hs
    repeat' first | (cases hs; done) | split at hs
  | 1, hs =>
    rw [st_1] at hs
    repeat' first | (cases hs; done) | split at hs
  | 2, hs =>
    rw [st_2] at hs
    repeat' first | (cases hs; done) | split at hs
  | 3, hs =>
    rw [st_3] at hs
    repeat' first | (cases hs; done) | split at hs
  | 4, hs =>
    rw [st_4] at hs
    repeat' first | (cases hs; done) | split at hs
  | 5, hs =>
    rw [st_5] at hs
    repeat' first | (cases hs; done) | split at hs
  | 6, hs =>
    rw [st_6] at hs
    repeat' first | (cases hs; done) | split at hs
  | 7, hs =>
    rw [st_7] at hs
    repeat' first | (cases hs; done) | split at hs
  | 8, hs =>
    rw [st_8] at hs
    repeat' first | (cases hs; done) | split at hs
  | 9, hs =>
    rw [st_9] at hs
    repeat' first | (cases hs; done) | split at hs
  | 10, hs =>
    rw [st_10] at hs
    repeat' first | (cases hs; done) | split at hs
  | 11, hs =>
    rw [st_11] at hs
    repeat' first | (cases hs; done) | split at hs
  | 12, hs =>
    rw [st_12] at hs
    repeat' first | (cases hs; done) | split at hs
  | 13, hs =>
    rw [st_13] at hs
    repeat' first | (cases hs; done) | split at hs
  | 14, hs =>
    rw [st_14] at hs
    repeat' first | (cases hs; done) | split at hs
  | 16, hs =>
    rw [st_16] at hs
    repeat' first | (cases hs; done) | split at hs
  | 17, hs =>
    rw [st_17] at hs
    repeat' first | (cases hs; done) | split at hs
  | 18, hs =>
    rw [st_18] at hs
    repeat' first | (cases hs; done) | split at hs
  | 19, hs =>
    rw [st_19] at hs
    repeat' first | (cases hs; done) | split at hs
  | 20, hs =>
    rw [st_20] at hs
    repeat' first | (cases hs; done) | split at hs
  | 21, hs =>
    rw [st_21] at hs
    repeat' first | (cases hs; done) | split at hs
  | 22, hs =>
    rw [st_22] at hs
    repeat' first | (cases hs; done) | split at hs
  | 23, hs =>
    rw [st_23] at hs
    repeat' first | (cases hs; done) | split at hs
  | 24, hs =>
    rw [st_24] at hs
    repeat' first | (cases hs; done) | split at hs
  | 25, hs =>
    rw [st_25] at hs
    repeat' first | (cases hs; done) | split at hs
  | 26, hs =>
    rw [st_26] at hs
    repeat' first | (cases hs; done) | split at hs
  | 27, hs =>
    rw [st_27] at hs
    repeat' first | (cases hs; done) | split at hs
  | 28, hs =>
    rw [st_28] at hs
    repeat' first | (cases hs; done) | split at hs
  | 29, hs =>
    rw [st_29] at hs
    repeat' first | (cases hs; done) | split at hs
  | 30, hs =>
    rw [st_30] at hs
    repeat' first | (cases hs; done) | split at hs
  | 31, hs =>
    rw [st_31] at hs
    repeat' first | (cases hs; done) | split at hs
  | 32, hs =>
    rw [st_32] at hs
    repeat' first | (cases hs; done) | split at hs
  | 33, hs =>
    rw [st_33] at hs
    repeat' first | (cases hs; done) | split at hs
  | 34, hs =>
    rw [st_34] at hs
    repeat' first | (cases hs; done) | split at hs
  | 35, hs =>
    rw [st_35] at hs
    repeat' first | (cases hs; done) | split at hs
  | 36, hs =>
    rw [st_36] at hs
    repeat' first | (cases hs; done) | split at hs
  | 37, hs =>
    rw [st_37] at hs
    repeat' first | (cases hs; done) | split at hs
  | 38, hs =>
    rw [st_38] at hs
    repeat' first | (cases hs; done) | split at hs
  | 39, hs =>
    rw [st_39] at hs
    repeat' first | (cases hs; done) | split at hs
  | op + 40, hs => cases hs
end KEEPS
