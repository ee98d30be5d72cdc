/-! PART 11: our small machine's cells, locals and stack as the machine's own -/
theorem okLv_rep {n : Nat} : okLv (List.replicate n none) := fun i v h => by
  have := List.eq_of_mem_replicate (List.mem_of_getElem? h)
  cases this
theorem okLv_arg {as : List Vv} (h : okVs as) (hx : ∀ z ∈ as, isXv z = false) : okLv (argLL as) := fun i v hi => by
  obtain ⟨z, hz, hm⟩ := List.mem_flatMap.mp (List.mem_of_getElem? hi)
  have e : v = z := by
    cases hl : isLv z with
    | true =>
      rw [hl] at hm
      rcases List.mem_cons.mp hm with q | q
      · exact Option.some.inj q
      · rcases List.mem_cons.mp q with q | q
        · cases q
        · cases q
    | false =>
      rw [hl] at hm
      rcases List.mem_cons.mp hm with q | q
      · exact Option.some.inj q
      · cases q
  subst e
  exact ⟨h v hz, hx v hz⟩
theorem okLv_ent {as : List Vv} {nL : Nat} (h : okVs as) (hx : ∀ z ∈ as, isXv z = false) : okLv (entLL nL as) := fun i v hi => by
  unfold entLL at hi
  by_cases hl : i < (argLL as).length
  · rw [List.getElem?_append_left hl] at hi
    exact okLv_arg h hx i v hi
  · rw [List.getElem?_append_right (by omega)] at hi
    exact okLv_rep _ v hi
theorem okVs_psh {c : Nat} {r : Vv} {st : List Vv} (hr : okv r) (h : okVs st) : okVs (psh c r st) := by
  unfold psh
  split
  · exact h
  · exact .kk hr h
theorem PP_at {RT : List Rec} {m i : Nat} {mi : MI} (h : (PP RT m).2[i]? = some mi) : ∃ R, RT[m]? = some R ∧ (rCode R)[i]? = some mi ∧ (PP RT m).1 = rNL R := by
  unfold PP at h ⊢
  cases hR : RT[m]? with
  | none => rw [hR] at h; cases h
  | some R => rw [hR] at h; exact ⟨R, rfl, h, rfl⟩
theorem exec_keeps {RT : List Rec} (hRT : ∀ (m : Nat) (R : Rec), RT[m]? = some R → okC RT R = true) {F : Nat → Nat → Nat} {X : Nat → List Int} (hX : okX X) : ∀ (n d m i : Nat) (st : List Vv) (L : LL) (Y : YY) (M : MM) (r : Vv) (Y1 : YY) (M1 : MM), exec (PP RT) F X n d m i st L Y M = some (r, Y1, M1) → Kp F Y M st L → Inv F Y1 M1 ∧ okv r ∧ ∃ Y2, Y1 = Y ++ Y2 := by
  intro n
  induction n with
  | zero => intro d m i st L Y M r Y1 M1 h; cases h
  | succ n ih =>
    intro d m i st L Y M r Y1 M1 h K
    rw [exec] at h
    cases hc : (PP RT m).2[i]? with
    | none => rw [hc] at h; cases h
    | some mi =>
      obtain ⟨R, hR, hi, -⟩ := PP_at hc
      have hk := okC_at (hRT m R hR) hi
      rw [hc] at h
      dsimp only at h
      cases hs : stp F X Y M L st mi with
      | none => rw [hs] at h; cases h
      | some act =>
        rw [hs] at h
        rcases act with ⟨c, st', L', M'⟩ | ⟨c, t, st'⟩ | ⟨x, tab, t, st'⟩ | ⟨g, m', as, c, st'⟩ | ⟨c, v⟩ | ⟨st', Y', M'⟩ | ⟨t, st'⟩ <;> dsimp only at h
        · cases c with
          | false => cases h
          | true => exact ih _ _ _ _ _ _ _ _ _ _ h (kp_N hX hk hs K)
        · cases c with
          | false => exact ih _ _ _ _ _ _ _ _ _ _ h ⟨K.1, kp_B hs K, K.2.2⟩
          | true => exact ih _ _ _ _ _ _ _ _ _ _ h ⟨K.1, kp_B hs K, K.2.2⟩
        · exact ih _ _ _ _ _ _ _ _ _ _ h ⟨K.1, kp_S hs K, K.2.2⟩
        · cases d with
          | zero => cases h
          | succ d =>
            dsimp only at h
            cases hb : g && (Nat.ble (catV as) (PP RT m').1 && Nat.ble 1 d) with
            | false => rw [hb] at h; cases h
            | true =>
              rw [hb] at h
              dsimp only at h
              obtain ⟨k1, k2, k3⟩ := kp_C hs K
              cases h1 : exec (PP RT) F X n d m' 0 [] (entLL (PP RT m').1 as) Y M with
              | none => rw [h1] at h; cases h
              | some q =>
                obtain ⟨r', Y2, M2⟩ := q
                rw [h1] at h
                obtain ⟨i1, i2, Z1, i3⟩ := ih _ _ _ _ _ _ _ _ _ _ h1 ⟨K.1, fun _ q => (by cases q), okLv_ent k2 k3⟩
                obtain ⟨j1, j2, Z2, j3⟩ := ih _ _ _ _ _ _ _ _ _ _ h ⟨i1, okVs_psh i2 k1, K.2.2⟩
                exact ⟨j1, j2, Z1 ++ Z2, by rw [j3, i3, List.append_assoc]⟩
        · cases c with
          | false => cases h
          | true =>
            cases h
            exact ⟨K.1, kp_R hs K, [], (List.append_nil _).symm⟩
        · obtain ⟨k1, k2, Z1, rfl⟩ := kp_A hs K
          obtain ⟨j1, j2, Z2, j3⟩ := ih _ _ _ _ _ _ _ _ _ _ h ⟨k1, k2, K.2.2⟩
          exact ⟨j1, j2, Z1 ++ Z2, by rw [j3, List.append_assoc]⟩
        · exact ih _ _ _ _ _ _ _ _ _ _ h ⟨K.1, kp_G hs K, K.2.2⟩
/-! conversions -/
def cV (v : Vv) : LV := match v with
  | .inl x => vI (i32 x)
  | .inr (.inl x) => vL (i64 x)
  | .inr (.inr (.inl k)) => vR k
  | .inr (.inr (.inr k)) => vR k
def cL (L : LL) : LS0 := L.map fun o => o.map cV
def cM (M : MM) : Mem := (fun k j => i32 (M k j), fun k j => i64 (M k j), fun k j => if M k j ≤ 0 then none else some ((M k j).toNat - 1))
theorem cM_I (M : MM) (k j : Nat) : mI (cM M) k j = i32 (M k j) := rfl
theorem cM_L (M : MM) (k j : Nat) : mL (cM M) k j = i64 (M k j) := rfl
theorem cM_R (M : MM) (k j : Nat) : mR (cM M) k j = if M k j ≤ 0 then none else some ((M k j).toNat - 1) := rfl
theorem cL_at {L : LL} {i : Nat} {v : Vv} (h : L[i]? = some (some v)) : (cL L)[i]? = some (some (cV v)) := by
  unfold cL
  rw [List.getElem?_map, h]
  rfl
theorem cL_set (L : LL) (i : Nat) (v : Vv) : cL (L.set i (some v)) = (cL L).set i (some (cV v)) := by
  unfold cL
  rw [List.map_set]
  rfl
theorem cL_no (L : LL) (i : Nat) : cL (L.set i none) = (cL L).set i none := by
  unfold cL
  rw [List.map_set]
  rfl
theorem cL_len (L : LL) : (cL L).length = L.length := by simp [cL]
theorem isLg_cV (v : Vv) (h : isXv v = false) : isLg (some (some (cV v))) = isLv v := by
  rcases v with x | x | k | k
  · rfl
  · rfl
  · rfl
  · cases h
theorem cL_ok {L : LL} (hL : okLv L) {i : Nat} (h : okSt L i = true) : okS (cL L) i = true := by
  unfold okS
  unfold okSt at h
  cases i with
  | zero => rfl
  | succ j =>
    dsimp only at h ⊢
    unfold cL
    rw [List.getElem?_map]
    cases hl : L[j]? with
    | none => rfl
    | some o =>
      cases o with
      | none => rfl
      | some v =>
        show (!isLg (some (some (cV v)))) = true
        rw [isLg_cV v (hL j v hl).2]
        rw [hl] at h
        rcases v with x | x | k | k
        · rfl
        · cases h
        · rfl
        · rfl
theorem cL_ent {as : List Vv} (hx : ∀ z ∈ as, isXv z = false) (nL : Nat) : cL (entLL nL as) = entL nL (as.map cV) := by
  have h1 : cL (argLL as) = argL (as.map cV) := by
    induction as with
    | nil => rfl
    | cons v l ih =>
      have h2 := ih (fun z hz => hx z (List.mem_cons_of_mem _ hz))
      have h3 := isLg_cV v (hx v List.mem_cons_self)
      unfold argLL cL argL at *
      rw [List.flatMap_cons, List.map_append, h2, List.map_cons, List.flatMap_cons, h3]
      cases isLv v <;> rfl
  have h4 : catV as = argW (as.map cV) := by
    unfold catV argW
    rw [List.map_map]
    congr 1
    apply List.map_congr_left
    intro v hv
    show ctV v = if isLg (some (some (cV v))) then 2 else 1
    rw [isLg_cV v (hx v hv)]
    unfold ctV
    cases isLv v <;> rfl
  unfold entLL entL
  rw [← h4, ← h1]
  simp [cL]
theorem wld_ext {b : Nat} {cA : FieldType → ClassId} {Y : List Sh} {M1 M2 : Mem} (h : ∀ (k : Nat) (sh : Sh), Y[k]? = some sh → went b cA M1 k sh = went b cA M2 k sh) : wld b cA Y M1 = wld b cA Y M2 := by
  apply List.ext_getElem?
  intro k
  unfold wld
  rw [List.getElem?_mapIdx, List.getElem?_mapIdx]
  cases hY : Y[k]? with
  | none => rfl
  | some sh => simp [h k sh hY]
theorem G.cg {Z : Px} {Y : List Sh} {pc : Nat} {st : List Value} {L : LS0} {M1 M2 : Mem} (h : wld (xb Z) (xA Z) Y M1 = wld (xb Z) (xA Z) Y M2) (g : G Z Y pc st L M2) : G Z Y pc st L M1 := fun H lo ls a1 a2 a3 a4 => g H lo ls a1 (by rw [← h]; exact a2) a3 a4
theorem went_eq {b : Nat} {cA : FieldType → ClassId} {M1 M2 : Mem} {k : Nat} (hI : ∀ j, mI M1 k j = mI M2 k j) (hL : ∀ j, mL M1 k j = mL M2 k j) (hR : ∀ j, mR M1 k j = mR M2 k j) (sh : Sh) : went b cA M1 k sh = went b cA M2 k sh := by
  rcases sh with ci | ⟨ty, n⟩
  · show Sum.inr (ci, wfs b M1 k ci) = Sum.inr (ci, wfs b M2 k ci)
    have e : wfs b M1 k ci = wfs b M2 k ci := by
      unfold wfs
      apply List.map_congr_left
      intro j _
      unfold wfld
      rw [hI j, hR j]
    rw [e]
  · show Sum.inl (cA ty, n, warr b M1 k ty) = Sum.inl (cA ty, n, warr b M2 k ty)
    have e : warr b M1 k ty = warr b M2 k ty := by
      unfold warr
      rw [funext hI, funext hL, funext hR]
    rw [e]
theorem wcF {b : Nat} {cA : FieldType → ClassId} {Y : List Sh} {M1 M2 : Mem} {k j ci : Nat} (hY : Y[k]? = some (.inl ci)) (hI : ∀ k' j', ¬ (k' = k ∧ j' = j) ∨ isIty (tcl ci j) = true → mI M1 k' j' = mI M2 k' j') (hL : ∀ k' j', k' ≠ k → mL M1 k' j' = mL M2 k' j') (hR : ∀ k' j', ¬ (k' = k ∧ j' = j) ∨ isRty (tcl ci j) = true → mR M1 k' j' = mR M2 k' j') (ht : isIty (tcl ci j) = true ∨ isRty (tcl ci j) = true) : wld b cA Y M1 = wld b cA Y M2 := by
  refine wld_ext fun k' sh h => ?_
  by_cases hk : k' = k
  · subst hk
    cases hY.symm.trans h
    show Sum.inr (ci, wfs b M1 k' ci) = Sum.inr (ci, wfs b M2 k' ci)
    have e : wfs b M1 k' ci = wfs b M2 k' ci := by
      unfold wfs
      apply List.map_congr_left
      intro j' _
      by_cases hj : j' = j
      · subst hj
        rcases ht with ht | ht
        · rw [wfld_int ht, wfld_int ht, hI k' j' (Or.inr ht)]
        · rw [wfld_ref ht, wfld_ref ht, hR k' j' (Or.inr ht)]
      · unfold wfld
        rw [hI k' j' (Or.inl fun q => hj q.2), hR k' j' (Or.inl fun q => hj q.2)]
    rw [e]
  · exact went_eq (fun j' => hI k' j' (Or.inl fun q => hk q.1)) (fun j' => hL k' j' hk) (fun j' => hR k' j' (Or.inl fun q => hk q.1)) sh
theorem wcA {b : Nat} {cA : FieldType → ClassId} {Y : List Sh} {M1 M2 : Mem} {k n : Nat} {ty : FieldType} (hY : Y[k]? = some (.inr (ty, n))) (hI : ∀ k' j', k' ≠ k ∨ isIty ty = true → mI M1 k' j' = mI M2 k' j') (hL : ∀ k' j', k' ≠ k ∨ ty = .long → mL M1 k' j' = mL M2 k' j') (hR : ∀ k' j', k' ≠ k → mR M1 k' j' = mR M2 k' j') (ht : isIty ty = true ∨ ty = .long) : wld b cA Y M1 = wld b cA Y M2 := by
  refine wld_ext fun k' sh h => ?_
  by_cases hk : k' = k
  · subst hk
    cases hY.symm.trans h
    show Sum.inl (cA ty, n, warr b M1 k' ty) = Sum.inl (cA ty, n, warr b M2 k' ty)
    have e : warr b M1 k' ty = warr b M2 k' ty := by
      rcases ht with ht | ht
      · rw [warr_int ht, warr_int ht, funext fun j' => hI k' j' (Or.inr ht)]
      · subst ht
        show Sum.inr (Sum.inl (mL M1 k')) = Sum.inr (Sum.inl (mL M2 k'))
        rw [funext fun j' => hL k' j' (Or.inr rfl)]
    rw [e]
  · exact went_eq (fun j' => hI k' j' (Or.inl hk)) (fun j' => hL k' j' (Or.inl hk)) (fun j' => hR k' j' hk) sh
theorem offI {M : MM} {k j k' j' : Nat} {x : Int} {y : Int32} : mI (sI (cM M) k j y) k' j' = if k' = k ∧ j' = j then y else i32 (M k' j') := rfl
/-- stores, as the machine has them and as we have them, make the same world -/
theorem wI_fld {b : Nat} {cA : FieldType → ClassId} {Y : List Sh} {M : MM} {k j ci : Nat} {x : Int} (hY : Y[k]? = some (.inl ci)) (ht : isIty (tcl ci j) = true) : wld b cA Y (sI (cM M) k j (i32 x)) = wld b cA Y (cM (stM M k j x)) := by
  refine wcF (j := j) hY (fun k' j' _ => ?_) (fun k' j' h => ?_) (fun k' j' h => ?_) (Or.inl ht)
  · rw [mI_sI, cM_I, cM_I, stM_at]
    split <;> rfl
  · rw [mL_sI, cM_L, cM_L, stM_at, if_neg (fun q => h q.1)]
  · rcases h with h | h
    · rw [mR_sI, cM_R, cM_R, stM_at, if_neg h]
    · rw [iR_no ht] at h
      cases h
theorem wR_fld {b : Nat} {cA : FieldType → ClassId} {Y : List Sh} {M : MM} {k j ci t : Nat} (hY : Y[k]? = some (.inl ci)) (ht : isRty (tcl ci j) = true) : wld b cA Y (sR (cM M) k j (some t)) = wld b cA Y (cM (stM M k j ((t : Int) + 1))) := by
  refine wcF (j := j) hY (fun k' j' h => ?_) (fun k' j' h => ?_) (fun k' j' _ => ?_) (Or.inr ht)
  · rcases h with h | h
    · rw [mI_sR, cM_I, cM_I, stM_at, if_neg h]
    · rw [iR_no h] at ht
      cases ht
  · rw [mL_sR, cM_L, cM_L, stM_at, if_neg (fun q => h q.1)]
  · rw [mR_sR, cM_R, cM_R, stM_at]
    by_cases h : k' = k ∧ j' = j
    · rw [if_pos h, if_pos h, if_neg (by omega)]
      congr 1
    · rw [if_neg h, if_neg h]
theorem wI_arr {b : Nat} {cA : FieldType → ClassId} {Y : List Sh} {M : MM} {k j n : Nat} {ty : FieldType} {x : Int} (hY : Y[k]? = some (.inr (ty, n))) (ht : isIty ty = true) : wld b cA Y (sI (cM M) k j (i32 x)) = wld b cA Y (cM (stM M k j x)) := by
  refine wcA hY (fun k' j' _ => ?_) (fun k' j' h => ?_) (fun k' j' h => ?_) (Or.inl ht)
  · rw [mI_sI, cM_I, cM_I, stM_at]
    split <;> rfl
  · rcases h with h | h
    · rw [mL_sI, cM_L, cM_L, stM_at, if_neg (fun q => h q.1)]
    · subst h
      cases ht
  · rw [mR_sI, cM_R, cM_R, stM_at, if_neg (c := k' = k ∧ j' = j) (fun q => h q.1)]
theorem wL_arr {b : Nat} {cA : FieldType → ClassId} {Y : List Sh} {M : MM} {k j n : Nat} {x : Int} (hY : Y[k]? = some (.inr (.long, n))) : wld b cA Y (sL (cM M) k j (i64 x)) = wld b cA Y (cM (stM M k j x)) := by
  refine wcA hY (fun k' j' h => ?_) (fun k' j' _ => ?_) (fun k' j' h => ?_) (Or.inr rfl)
  · rcases h with h | h
    · rw [mI_sL, cM_I, cM_I, stM_at, if_neg (fun q => h q.1)]
    · cases h
  · rw [mL_sL, cM_L, cM_L, stM_at]
    split <;> rfl
  · rw [mR_sL, cM_R, cM_R, stM_at, if_neg (c := k' = k ∧ j' = j) (fun q => h q.1)]
theorem w_off {b : Nat} {cA : FieldType → ClassId} {Y : List Sh} {M1 M2 : MM} (h : ∀ k, k < Y.length → ∀ j, M1 k j = M2 k j) : wld b cA Y (cM M1) = wld b cA Y (cM M2) :=
  wld_ext fun k sh hk => by
    have hl := (List.getElem?_eq_some_iff.mp hk).1
    exact went_eq (fun j => by rw [cM_I, cM_I, h k hl j]) (fun j => by rw [cM_L, cM_L, h k hl j]) (fun j => by rw [cM_R, cM_R, h k hl j]) sh
theorem shm_f {Y : YY} {k a n : Nat} (h : Y[k]? = some (10 + a, n)) : (Y.map shm)[k]? = some (.inl a) := by
  rw [List.getElem?_map, h]
  show some (shm (10 + a, n)) = _
  unfold shm
  rw [show Nat.blt (10 + a) 10 = false by rw [Bool.eq_false_iff]; intro q; have := Nat.le_of_ble_eq_true q; omega]
  show some (Sum.inl (10 + a - 10)) = _
  rw [Nat.add_sub_cancel_left]
theorem shm_a {Y : YY} {k a n : Nat} (ha : a < 10) (h : Y[k]? = some (a, n)) : (Y.map shm)[k]? = some (.inr (tyc a, n)) := by
  rw [List.getElem?_map, h]
  show some (shm (a, n)) = _
  unfold shm
  rw [show Nat.blt a 10 = true from Nat.ble_eq_true_of_le ha]
