/-! PART 14: calls, new cells; a run of our small machine is a run of the machine -/
section SOUND3
variable {RT : List Rec} {R : Rec} {F : Nat → Nat → Nat} {sc : List Int} {d : Nat} {Z : Px} {Y Y1 : YY} {M M' M1 : MM} {L L' : LL} {st st' : List Vv} {sv : List Value} {i : Nat}
theorem rk_0 {ret : Option FieldType} (h : rk ret = 0) : ret = none := by
  unfold rk at h
  split at h
  · rfl
  · cases h
  · split at h <;> cases h
theorem rk_1 {ret : Option FieldType} (h : rk ret = 1) : ∃ ty, ret = some ty ∧ isIty ty = true := by
  unfold rk at h
  split at h
  · cases h
  · cases h
  · rename_i t _
    split at h
    · rename_i q
      exact ⟨t, rfl, q⟩
    · cases h
theorem rk_2 {ret : Option FieldType} (h : rk ret = 2) : ret = some .long := by
  unfold rk at h
  split at h
  · cases h
  · rfl
  · split at h <;> cases h
theorem rcv_2 {ci : Nat} {as : List Vv} (h : rcv 2 ci Y as = true) : ∃ k as0, as = vr k :: as0 ∧ (kd Y k == 10 + ci) = true := by
  rcases as with _ | ⟨v, as0⟩
  · exact absurd (show false = true from h) (by decide)
  · rcases v with x | x | k | k
    · exact absurd (show false = true from h) (by decide)
    · exact absurd (show false = true from h) (by decide)
    · exact ⟨k, as0, rfl, h⟩
    · exact absurd (show false = true from h) (by decide)
theorem rcv_34 {sub ci : Nat} {as : List Vv} (hs : sub = 3 ∨ sub = 4) (h : rcv sub ci Y as = true) : ∃ k as0, as = vr k :: as0 := by
  rcases as with _ | ⟨v, as0⟩
  · rcases hs with rfl | rfl <;> exact absurd (show false = true from h) (by decide)
  · rcases v with x | x | k | k
    · rcases hs with rfl | rfl <;> exact absurd (show false = true from h) (by decide)
    · rcases hs with rfl | rfl <;> exact absurd (show false = true from h) (by decide)
    · exact ⟨k, as0, rfl⟩
    · rcases hs with rfl | rfl <;> exact absurd (show false = true from h) (by decide)
theorem so_C {mi : MI} {g : Bool} {m' c' : Nat} {as : List Vv} {r : Vv} (B : Bd sc R (d + 1) Z) (hk : okI RT R i mi = true) (hs : stp F (xar sc) Y M L st mi = some (.inr (.inr (.inr (.inl (g, m', as, c', st')))))) (hg : g = true) (hS : SS Z st sv)
    (hH : ∀ R', RT[m']? = some R' → rOwn R' ≠ R_law0 → okH R' = true) (S : ∀ R', RT[m']? = some R' → okH R' = true → rOwn R' ≠ R_law0 → Snd (rY R') (rBy R') (rNL R') (rRet R') d (as.map cV) (Y.map shm) (cM M) (cV r) (Y1.map shm) (cM M1)) (T : ∀ R', RT[m']? = some R' → tgk (rRet R') r) (Ft : Fit Z (Y.map shm) (Y1.map shm)) (k : Go R Z Y1 (i + 1) (psh c' r st') L M1) : G Z (Y.map shm) (rpc R i) sv (cL L) (cM M) := by
  obtain ⟨op, a, b, c, v, tab, sub, idx, pl⟩ := mi
  match op, hk, hs with
  | 30, hk, hs =>
    rw [ok_30] at hk
    rw [st_30] at hs
    split at hs
    · rename_i hbb
      have hs := Option.some.inj hs
      simp only [Sum.inr.injEq, Sum.inl.injEq, Prod.mk.injEq] at hs
      obtain ⟨h1, rfl, h3, rfl, rfl⟩ := hs
      cases hR : RT[a]? with
      | none => rw [hR] at hk; cases hk
      | some R' =>
        rw [hR] at hk
        dsimp only at hk
        obtain ⟨k1, k2, k3, k4⟩ := an4 hk
        obtain ⟨hc, hc3⟩ := of_decide_eq_true k1
        have hl := of_decide_eq_true k2
        have hh := hH R' hR hl
        obtain ⟨q1, q2, q3, q4, q5, q6, q7, q8⟩ := okH_d hh
        have hSn := S R' hR hh hl
        have hT := T R' hR
        have e3 : rpc R (i + 1) = rpc R i + 3 := of_decide_eq_true k4
        obtain ⟨b1, b2, b3⟩ := an3 hbb
        obtain ⟨t1, t2⟩ := hS.td b
        have hx : ∀ z ∈ st.take b, isXv z = false := fun z hz => by
          have := List.all_eq_true.mp b1 z hz
          simpa using this
        have e4 := t1.cvs hx
        have e5 : (as.map cV).map (cv (xb Z)) = (sv.take b).reverse := by rw [← h3, e4, List.map_reverse, List.map_reverse]
        have e6 : sv = ((as.map cV).map (cv (xb Z))).reverse ++ sv.drop b := by rw [e5, List.reverse_reverse, List.take_append_drop]
        have hcat : catW (sv.drop b) ≤ 8 := by rw [t2.ctt]; exact Nat.le_of_ble_eq_true b2
        have hlen : as.length = b := by rw [← h3, List.length_reverse]; exact eq_of_beq b3
        have hcal : ∀ np, npk R' np = true → Cal Z (rY R') (rBy R') (rNL R') (rRet R') d np := fun np hn => ⟨q1, q2, ⟨q3, q4, of_decide_eq_true hn⟩, by rw [B.2.2.2.2.1]; exact Nat.le_refl _, q7⟩
        have hrun : Runs Z (Y.map shm) (rpc R i) (cM M) (rRet R') (as.map cV) (cV r) (Y1.map shm) (cM M1) := by
          unfold clk at k3
          split at k3
          · obtain ⟨g1, g2, g3, g4⟩ := an4 k3
            exact runs_S B.1 Ft hSn (by rw [List.length_map, hlen]; exact hcal b g2) (by rw [B.2.2.1]; exact ckw_g g3) (ckw_g g4) (B.dc (dk_d g1))
          · obtain ⟨g1, g2, g3, g4⟩ := an4 k3
            exact runs_SN B.1 Ft hSn (by rw [List.length_map, hlen]; exact hcal b g2) (by rw [B.2.2.1]; exact ckn_n g3) (ckw_g g4) (B.dc (dk_d g1))
          · obtain ⟨g1, g2, g3, g4⟩ := an4 k3
            obtain ⟨g5, g6, g7, g8⟩ := an4 g4
            rw [h3] at h1
            obtain ⟨kk, as0, rfl, hkd⟩ := rcv_2 (h1.trans hg)
            split at g8
            · rename_i q hq
              obtain ⟨n, hn⟩ := kd_ge (by have := (List.getElem?_eq_some_iff.mp hq).1; have : vwCl.length = 12 := rfl; omega) hkd
              have hce := of_decide_eq_true g8
              have hci := clK _ q hq
              rw [hce] at hci
              exact runs_V (as := as0.map cV) B.1 Ft hSn (by rw [List.length_map, show as0.length = b - 1 by rw [← hlen]; rfl]; exact hcal _ g2) hci (shm_f hn) (by rw [B.2.2.1]; exact ckw_g g5) (ckw_g g6) (ckw_g g7) (B.dc (dk_d g1))
            · cases g8
          · obtain ⟨g1, g2, g3, g4⟩ := an4 k3
            obtain ⟨g5, g6, g7, g8⟩ := an4 g4
            have hn0 := of_decide_eq_true g8
            have hnm := of_decide_eq_true g7
            rw [h3] at h1
            obtain ⟨kk, as0, rfl⟩ := rcv_34 (Or.inl rfl) (h1.trans hg)
            rw [hn0] at hSn hcal ⊢
            exact runs_I (as := as0.map cV) B.1 Ft hSn (by rw [List.length_map, show as0.length = b - 1 by rw [← hlen]; rfl]; exact hcal _ g2) (by rw [B.2.2.1]; exact ckw_g g5) (ckw_g g6) hnm (B.dc (dk_d g1))
          · obtain ⟨g1, g2, g3, g4⟩ := an4 k3
            obtain ⟨g5, g6, g7, g8⟩ := an4 g4
            have hn0 := of_decide_eq_true g8
            have hnm := of_decide_eq_true g7
            rw [h3] at h1
            obtain ⟨kk, as0, rfl⟩ := rcv_34 (Or.inr rfl) (h1.trans hg)
            rw [hn0] at hSn hcal ⊢
            exact runs_IN (as := as0.map cV) B.1 Ft hSn (by rw [List.length_map, show as0.length = b - 1 by rw [← hlen]; rfl]; exact hcal _ g2) (by rw [B.2.2.1]; exact ckn_n g5) (ckw_g g6) hnm (B.dc (dk_d g1))
          · cases k3
        rw [e6]
        have hcase : c = 0 ∨ c = 1 ∨ c = 2 := by omega
        rcases hcase with h0 | h0 | h0
        · rw [rk_0 (hc.symm.trans h0)] at hrun
          rw [h0] at k
          have k2 := k _ t2
          rw [e3] at k2
          exact g_callv B.1 Ft hrun hcat k2
        · obtain ⟨ty, hty, hit⟩ := rk_1 (hc.symm.trans h0)
          obtain ⟨x, rfl⟩ := hT.1 (hc.symm.trans h0)
          rw [hty] at hrun
          rw [h0] at k
          have k2 := k (.int (i32 x) :: sv.drop b) (SS.k (v := vi x) rfl t2)
          rw [e3] at k2
          exact g_calli B.1 Ft hit hrun hcat k2
        · obtain ⟨x, rfl⟩ := hT.2 (hc.symm.trans h0)
          rw [rk_2 (hc.symm.trans h0)] at hrun
          rw [h0] at k
          have k2 := k (.long (i64 x) :: sv.drop b) (SS.k (v := vl x) rfl t2)
          rw [e3] at k2
          exact g_calll B.1 Ft hrun hcat k2
    · cases hs
  | 0, hk, hs =>
    rw [st_0] at hs
    repeat' first | (cases hs; done) | split at hs
  | 1, hk, hs =>
    rw [st_1] at hs
    repeat' first | (cases hs; done) | split at hs
  | 2, hk, hs =>
    rw [st_2] at hs
    repeat' first | (cases hs; done) | split at hs
  | 3, hk, hs =>
    rw [st_3] at hs
    repeat' first | (cases hs; done) | split at hs
  | 4, hk, hs =>
    rw [st_4] at hs
    repeat' first | (cases hs; done) | split at hs
  | 5, hk, hs =>
    rw [st_5] at hs
    repeat' first | (cases hs; done) | split at hs
  | 6, hk, hs =>
    rw [st_6] at hs
    repeat' first | (cases hs; done) | split at hs
  | 7, hk, hs =>
    rw [st_7] at hs
    repeat' first | (cases hs; done) | split at hs
  | 8, hk, hs =>
    rw [st_8] at hs
    repeat' first | (cases hs; done) | split at hs
  | 9, hk, hs =>
    rw [st_9] at hs
    repeat' first | (cases hs; done) | split at hs
  | 10, hk, hs =>
    rw [st_10] at hs
    repeat' first | (cases hs; done) | split at hs
  | 11, hk, hs =>
    rw [st_11] at hs
    repeat' first | (cases hs; done) | split at hs
  | 12, hk, hs =>
    rw [st_12] at hs
    repeat' first | (cases hs; done) | split at hs
  | 13, hk, hs =>
    rw [st_13] at hs
    repeat' first | (cases hs; done) | split at hs
  | 14, hk, hs =>
    rw [st_14] at hs
    repeat' first | (cases hs; done) | split at hs
  | 15, hk, hs =>
    rw [st_15] at hs
    repeat' first | (cases hs; done) | split at hs
  | 16, hk, hs =>
    rw [st_16] at hs
    repeat' first | (cases hs; done) | split at hs
  | 17, hk, hs =>
    rw [st_17] at hs
    repeat' first | (cases hs; done) | split at hs
  | 18, hk, hs =>
    rw [st_18] at hs
    repeat' first | (cases hs; done) | split at hs
  | 19, hk, hs =>
    rw [st_19] at hs
    repeat' first | (cases hs; done) | split at hs
  | 20, hk, hs =>
    rw [st_20] at hs
    repeat' first | (cases hs; done) | split at hs
  | 21, hk, hs =>
    rw [st_21] at hs
    repeat' first | (cases hs; done) | split at hs
  | 22, hk, hs =>
    rw [st_22] at hs
    repeat' first | (cases hs; done) | split at hs
  | 23, hk, hs =>
    rw [st_23] at hs
    repeat' first | (cases hs; done) | split at hs
  | 24, hk, hs =>
    rw [st_24] at hs
    repeat' first | (cases hs; done) | split at hs
  | 25, hk, hs =>
    rw [st_25] at hs
    repeat' first | (cases hs; done) | split at hs
  | 26, hk, hs =>
    rw [st_26] at hs
    repeat' first | (cases hs; done) | split at hs
  | 27, hk, hs =>
    rw [st_27] at hs
    repeat' first | (cases hs; done) | split at hs
  | 28, hk, hs =>
    rw [st_28] at hs
    repeat' first | (cases hs; done) | split at hs
  | 29, hk, hs =>
    rw [st_29] at hs
    repeat' first | (cases hs; done) | split at hs
  | 31, hk, hs =>
    rw [st_31] at hs
    repeat' first | (cases hs; done) | split at hs
  | 32, hk, hs =>
    rw [st_32] at hs
    repeat' first | (cases hs; done) | split at hs
  | 33, hk, hs =>
    rw [st_33] at hs
    repeat' first | (cases hs; done) | split at hs
  | 34, hk, hs =>
    rw [st_34] at hs
    repeat' first | (cases hs; done) | split at hs
  | 35, hk, hs =>
    rw [st_35] at hs
    repeat' first | (cases hs; done) | split at hs
  | 36, hk, hs =>
    rw [st_36] at hs
    repeat' first | (cases hs; done) | split at hs
  | 37, hk, hs =>
    rw [st_37] at hs
    repeat' first | (cases hs; done) | split at hs
  | 38, hk, hs =>
    rw [st_38] at hs
    repeat' first | (cases hs; done) | split at hs
  | 39, hk, hs =>
    rw [st_39] at hs
    repeat' first | (cases hs; done) | split at hs
  | op + 40, hk, hs => cases hs
theorem shm_app (Y Y2 : YY) : (Y ++ Y2).map shm = Y.map shm ++ Y2.map shm := List.map_append
theorem fc_ty (C : Cx Z) {a : Nat} (ha : a < 4) : ∀ cA : ClassId, (xs Z).vm.findClass ("[" ++ (tyc a).toString) = some cA → cA = xA Z (tyc a) := fun cA h => by
  have hK := C.2.2.2.2.1.2
  match a, ha, h with
  | 0, _, h => exact Option.some.inj (h.symm.trans (hK 0 _ rfl).2)
  | 1, _, h => exact Option.some.inj (h.symm.trans (hK 2 _ rfl).2)
  | 2, _, h => exact Option.some.inj (h.symm.trans (hK 3 _ rfl).2)
  | 3, _, h => exact Option.some.inj (h.symm.trans (hK 1 _ rfl).2)
theorem so_A {mi : MI} {Y' : YY} (B : Bd sc R d Z) (hk : okI RT R i mi = true) (hs : stp F (xar sc) Y M L st mi = some (.inr (.inr (.inr (.inr (.inr (.inl (st', Y', M')))))))) (K : Kp F Y M st L) (hS : SS Z st sv) (Ft : Fit Z (Y.map shm) (Y'.map shm)) (k : Go R Z Y' (i + 1) st' L M') : G Z (Y.map shm) (rpc R i) sv (cL L) (cM M) := by
  obtain ⟨op, a, b, c, v, tab, sub, idx, pl⟩ := mi
  have hz : ∀ k, k < (Y.map shm).length → ∀ j, M k j = zrM M (Y.map shm).length k j := fun k hk j => (if_neg (by omega)).symm
  have hln : (Y.map shm).length = Y.length := List.length_map _
  match op, hk, hs with
  | 35, hk, hs =>
    rw [ok_35] at hk
    rw [st_35] at hs
    have hs := Option.some.inj hs
    simp only [Sum.inr.injEq, Sum.inl.injEq, Prod.mk.injEq] at hs
    obtain ⟨rfl, rfl, rfl⟩ := hs
    cases hv : vwCl[a]? with
    | none => rw [hv] at hk; cases hk
    | some q =>
      rw [hv] at hk
      obtain ⟨g1, g2, g3, g4⟩ := an4 hk
      obtain ⟨g5, g6⟩ := an2 g4
      have ha : a < 12 := (List.getElem?_eq_some_iff.mp hv).1
      have e0 : ([(10 + a, 0)] : YY).map shm = [Sum.inl a] := by
        have := shm_f (Y := [(10 + a, 0)]) (k := 0) (a := a) (n := 0) rfl
        simp only [List.map_cons, List.map_nil] at this ⊢
        simpa using this
      rw [shm_app, e0] at Ft
      obtain ⟨e1, e2⟩ := dn_d g6
      have k2 := k (.ref (xb Z + Y.length) :: sv) (SS.k (v := vr _) rfl hS)
      rw [shm_app, e0, e2, ← hln] at k2
      refine G.cg (w_off hz) (g_new B.1 Ft (clK a q hv) (by rw [B.2.2.1]; exact ckw_g g1) (ckw_g g2) (ckw_g g3) (fun j hj => ?_) (fun j => ?_) (B.dc e1) k2)
      · have := List.all_eq_true.mp g5 j (List.mem_range.mpr hj)
        rw [Bool.or_eq_true] at this
        exact this
      · have h0 : zrM M (Y.map shm).length (Y.map shm).length j = 0 := if_pos rfl
        rw [cM_I, cM_R, h0]
        exact ⟨by decide, rfl⟩
  | 36, hk, hs =>
    rw [ok_36] at hk
    rw [st_36] at hs
    split at hs
    · rename_i x s0 _
      split at hs
      · rename_i hb
        have hs := Option.some.inj hs
        simp only [Sum.inr.injEq, Sum.inl.injEq, Prod.mk.injEq] at hs
        obtain ⟨rfl, rfl, rfl⟩ := hs
        obtain ⟨g1, g2, g3⟩ := an3 hk
        have ha := of_decide_eq_true g1
        have h0 := of_decide_eq_true (an2 hb).1
        have h1 := of_decide_eq_true (an2 hb).2
        have hx := K.2.1.un.1
        obtain ⟨ws, rfl, hQ⟩ := hS.uI
        have e0 : ([(a, x.toNat)] : YY).map shm = [Sum.inr (tyc a, x.toNat)] := by
          have := shm_a (Y := [(a, x.toNat)]) (k := 0) (a := a) (n := x.toNat) (by omega) rfl
          simp only [List.map_cons, List.map_nil] at this ⊢
          simpa using this
        rw [shm_app, e0] at Ft
        obtain ⟨e1, e2⟩ := dn_d g3
        have k2 := k (.ref (xb Z + Y.length) :: ws) (SS.k (v := vr _) rfl hQ)
        rw [shm_app, e0, e2, ← hln] at k2
        have hb8 : componentBytes (tyc a) ≤ 8 := by
          match a, ha with
          | 0, _ => decide
          | 1, _ => decide
          | 2, _ => decide
          | 3, _ => decide
        have hmul : x.toNat * componentBytes (tyc a) ≤ 536870912 := by
          have := Nat.mul_le_mul (show x.toNat ≤ 200000 by omega) hb8
          omega
        refine G.cg (w_off hz) (g_newarr B.1 (aty a) ?_ Ft (ckw_g g2) (fc_ty B.1 ha) ?_ (nat_i32 hx) hmul ?_ (B.dc e1) k2)
        · match a, ha with
          | 0, _ => rfl
          | 1, _ => rfl
          | 2, _ => rfl
          | 3, _ => rfl
        · rw [show (0 : Int32) = i32 0 by decide, lt_i32 hx in32_0]
          omega
        · intro cA
          have hi : mI (cM (zrM M (Y.map shm).length)) (Y.map shm).length = fun _ => 0 := funext fun j => by
            have h0 : zrM M (Y.map shm).length (Y.map shm).length j = 0 := if_pos rfl
            rw [cM_I, h0]
            decide
          have hl : mL (cM (zrM M (Y.map shm).length)) (Y.map shm).length = fun _ => 0 := funext fun j => by
            have h0 : zrM M (Y.map shm).length (Y.map shm).length j = 0 := if_pos rfl
            rw [cM_L, h0]
            decide
          match a, ha with
          | 0, _ => show vp_cell cA (_, .inl (mI (cM (zrM M (Y.map shm).length)) (Y.map shm).length)) = _; rw [hi]; rfl
          | 1, _ => show vp_cell cA (_, .inl (mI (cM (zrM M (Y.map shm).length)) (Y.map shm).length)) = _; rw [hi]; rfl
          | 2, _ => show vp_cell cA (_, .inl (mI (cM (zrM M (Y.map shm).length)) (Y.map shm).length)) = _; rw [hi]; rfl
          | 3, _ => show vp_cell cA (_, .inr (.inl (mL (cM (zrM M (Y.map shm).length)) (Y.map shm).length))) = _; rw [hl]; rfl
      · cases hs
    · cases hs
  | 37, hk, hs =>
    rw [ok_37] at hk
    rw [st_37] at hs
    split at hs
    · rename_i y x s0 _
      split at hs
      · rename_i hb
        have hs := Option.some.inj hs
        simp only [Sum.inr.injEq, Sum.inl.injEq, Prod.mk.injEq] at hs
        obtain ⟨rfl, rfl, rfl⟩ := hs
        obtain ⟨g1, g2, g3⟩ := an3 hk
        obtain ⟨b1, b2, b3, b4⟩ := an4 hb
        have c1 := of_decide_eq_true b1
        have c2 := of_decide_eq_true b2
        have c3 := of_decide_eq_true b3
        have c4 := of_decide_eq_true b4
        have hy := K.2.1.un.1
        have hx := K.2.1.un.2.un.1
        obtain ⟨ws, rfl, hQ⟩ := hS.uI
        obtain ⟨ws2, rfl, hQ2⟩ := hQ.uI
        have e0 : ((4, x.toNat) :: List.replicate x.toNat (0, y.toNat) : YY).map shm = mulY x.toNat y.toNat := by
          rw [List.map_cons, List.map_replicate]
          rfl
        rw [shm_app, e0] at Ft
        obtain ⟨e1, e2⟩ := dn_d g3
        have k2 := k (.ref (xb Z + Y.length) :: ws2) (SS.k (v := vr _) rfl hQ2)
        rw [shm_app, e0, e2, ← hln] at k2
        have hK := B.1.2.2.2.2.1.2
        refine G.cg (w_off (M2 := muM M (Y.map shm).length x.toNat) (fun k hk j => ?_)) (g_multi B.1 Ft (by rw [B.2.2.1]; exact ckw_g g1) (ckw_g g2) (fun cA h => Option.some.inj (h.symm.trans (hK 4 _ rfl).2)) (fun cA h => Option.some.inj (h.symm.trans (hK 0 _ rfl).2)) ?_ ?_ (nat_i32 hx) (nat_i32 hy) (by omega) (by omega) (fun j => ?_) (fun q j hq => ?_) (B.dc e1) k2)
        · unfold muM
          rw [if_neg (by omega), if_neg (by omega)]
        · rw [show (0 : Int32) = i32 0 by decide, lt_i32 hx in32_0]
          omega
        · rw [show (0 : Int32) = i32 0 by decide, lt_i32 hy in32_0]
          omega
        · rw [cM_R]
          unfold muM
          rw [if_pos rfl]
          by_cases hj : j < x.toNat
          · rw [if_pos hj, if_pos hj, if_neg (by omega)]
            congr 1
            omega
          · rw [if_neg hj, if_neg hj, if_pos (Int.le_refl 0)]
        · rw [cM_I]
          unfold muM
          rw [if_neg (by omega), if_pos (by omega)]
          decide
      · cases hs
    · cases hs
  | 0, hk, hs =>
    rw [st_0] at hs
    repeat' first | (cases hs; done) | split at hs
  | 1, hk, hs =>
    rw [st_1] at hs
    repeat' first | (cases hs; done) | split at hs
  | 2, hk, hs =>
    rw [st_2] at hs
    repeat' first | (cases hs; done) | split at hs
  | 3, hk, hs =>
    rw [st_3] at hs
    repeat' first | (cases hs; done) | split at hs
  | 4, hk, hs =>
    rw [st_4] at hs
    repeat' first | (cases hs; done) | split at hs
  | 5, hk, hs =>
    rw [st_5] at hs
    repeat' first | (cases hs; done) | split at hs
  | 6, hk, hs =>
    rw [st_6] at hs
    repeat' first | (cases hs; done) | split at hs
  | 7, hk, hs =>
    rw [st_7] at hs
    repeat' first | (cases hs; done) | split at hs
  | 8, hk, hs =>
    rw [st_8] at hs
    repeat' first | (cases hs; done) | split at hs
  | 9, hk, hs =>
    rw [st_9] at hs
    repeat' first | (cases hs; done) | split at hs
  | 10, hk, hs =>
    rw [st_10] at hs
    repeat' first | (cases hs; done) | split at hs
  | 11, hk, hs =>
    rw [st_11] at hs
    repeat' first | (cases hs; done) | split at hs
  | 12, hk, hs =>
    rw [st_12] at hs
    repeat' first | (cases hs; done) | split at hs
  | 13, hk, hs =>
    rw [st_13] at hs
    repeat' first | (cases hs; done) | split at hs
  | 14, hk, hs =>
    rw [st_14] at hs
    repeat' first | (cases hs; done) | split at hs
  | 15, hk, hs =>
    rw [st_15] at hs
    repeat' first | (cases hs; done) | split at hs
  | 16, hk, hs =>
    rw [st_16] at hs
    repeat' first | (cases hs; done) | split at hs
  | 17, hk, hs =>
    rw [st_17] at hs
    repeat' first | (cases hs; done) | split at hs
  | 18, hk, hs =>
    rw [st_18] at hs
    repeat' first | (cases hs; done) | split at hs
  | 19, hk, hs =>
    rw [st_19] at hs
    repeat' first | (cases hs; done) | split at hs
  | 20, hk, hs =>
    rw [st_20] at hs
    repeat' first | (cases hs; done) | split at hs
  | 21, hk, hs =>
    rw [st_21] at hs
    repeat' first | (cases hs; done) | split at hs
  | 22, hk, hs =>
    rw [st_22] at hs
    repeat' first | (cases hs; done) | split at hs
  | 23, hk, hs =>
    rw [st_23] at hs
    repeat' first | (cases hs; done) | split at hs
  | 24, hk, hs =>
    rw [st_24] at hs
    repeat' first | (cases hs; done) | split at hs
  | 25, hk, hs =>
    rw [st_25] at hs
    repeat' first | (cases hs; done) | split at hs
  | 26, hk, hs =>
    rw [st_26] at hs
    repeat' first | (cases hs; done) | split at hs
  | 27, hk, hs =>
    rw [st_27] at hs
    repeat' first | (cases hs; done) | split at hs
  | 28, hk, hs =>
    rw [st_28] at hs
    repeat' first | (cases hs; done) | split at hs
  | 29, hk, hs =>
    rw [st_29] at hs
    repeat' first | (cases hs; done) | split at hs
  | 30, hk, hs =>
    rw [st_30] at hs
    repeat' first | (cases hs; done) | split at hs
  | 31, hk, hs =>
    rw [st_31] at hs
    repeat' first | (cases hs; done) | split at hs
  | 32, hk, hs =>
    rw [st_32] at hs
    repeat' first | (cases hs; done) | split at hs
  | 33, hk, hs =>
    rw [st_33] at hs
    repeat' first | (cases hs; done) | split at hs
  | 34, hk, hs =>
    rw [st_34] at hs
    repeat' first | (cases hs; done) | split at hs
  | 38, hk, hs =>
    rw [st_38] at hs
    repeat' first | (cases hs; done) | split at hs
  | 39, hk, hs =>
    rw [st_39] at hs
    repeat' first | (cases hs; done) | split at hs
  | op + 40, hk, hs => cases hs
/-- a run of our small machine, in the machine -/
theorem exec_G (hRT : ∀ (m : Nat) (R : Rec), RT[m]? = some R → okC RT R = true) (hH : ∀ (m : Nat) (R : Rec), RT[m]? = some R → rOwn R ≠ R_law0 → okH R = true) (hsc : (∀ z ∈ sc, in32 z) ∧ in32 (sc.length : Int)) : ∀ (n d m i : Nat) (st : List Vv) (L : LL) (Y : YY) (M : MM) (r : Vv) (Y1 : YY) (M1 : MM), exec (PP RT) F (xar sc) n d m i st L Y M = some (r, Y1, M1) → Kp F Y M st L → ∀ (R : Rec) (Z : Px) (sv : List Value), RT[m]? = some R → 1 ≤ d → Bd sc R d Z → SS Z st sv → Fit Z (Y.map shm) (Y1.map shm) → Rets Z (rRet R) (cV r) (Y1.map shm) (cM M1) → G Z (Y.map shm) (rpc R i) sv (cL L) (cM M) := by
  intro n
  induction n with
  | zero => intro d m i st L Y M r Y1 M1 h; cases h
  | succ n ih =>
    intro d m i st L Y M r Y1 M1 h K R Z sv hR hd B hS Ft hRet
    have hX := okX_xar hsc
    rw [exec] at h
    cases hc : (PP RT m).2[i]? with
    | none => rw [hc] at h; cases h
    | some mi =>
      obtain ⟨R', hR', hi, -⟩ := PP_at hc
      cases hR.symm.trans hR'
      have hk := okC_at (hRT m R hR) hi
      rw [hc] at h
      dsimp only at h
      cases hs : stp F (xar sc) Y M L st mi with
      | none => rw [hs] at h; cases h
      | some act =>
        rw [hs] at h
        rcases act with ⟨c, st', L', M'⟩ | ⟨c, t, st'⟩ | ⟨x, tab, t, st'⟩ | ⟨g, m', as, c, st'⟩ | ⟨c, v⟩ | ⟨st', Y', M'⟩ | ⟨t, st'⟩ <;> dsimp only at h
        · cases c with
          | false => cases h
          | true =>
            have K2 := kp_N hX hk hs K
            exact so_N (by rw [B.2.2.2.2.1]; exact hd) (by obtain ⟨f1, f2, f3, f4, f5, f6⟩ := Ft; exact ⟨by omega, by omega⟩) B hk hs K hS fun sv' hS' => ih _ _ _ _ _ _ _ _ _ _ h K2 R Z sv' hR hd B hS' Ft hRet
        · have K2 : Kp F Y M st' L := ⟨K.1, kp_B hs K, K.2.2⟩
          refine so_B B hk hs K hS (fun hc sv' hS' => ?_) (fun hc sv' hS' => ?_)
          · subst hc
            exact ih _ _ _ _ _ _ _ _ _ _ h K2 R Z sv' hR hd B hS' Ft hRet
          · subst hc
            exact ih _ _ _ _ _ _ _ _ _ _ h K2 R Z sv' hR hd B hS' Ft hRet
        · have K2 : Kp F Y M st' L := ⟨K.1, kp_S hs K, K.2.2⟩
          exact so_S B hk hs K hS fun sv' hS' => ih _ _ _ _ _ _ _ _ _ _ h K2 R Z sv' hR hd B hS' Ft hRet
        · cases d with
          | zero => cases h
          | succ d =>
            dsimp only at h
            cases hb : g && (Nat.ble (catV as) (PP RT m').1 && Nat.ble 1 d) with
            | false => rw [hb] at h; cases h
            | true =>
              rw [hb] at h
              dsimp only at h
              obtain ⟨k1, k2, k3⟩ := kp_C hs K
              cases h1 : exec (PP RT) F (xar sc) n d m' 0 [] (entLL (PP RT m').1 as) Y M with
              | none => rw [h1] at h; cases h
              | some q =>
                obtain ⟨r', Y2, M2⟩ := q
                rw [h1] at h
                dsimp only at h
                have K3 : Kp F Y M [] (entLL (PP RT m').1 as) := ⟨K.1, fun _ q => (by cases q), okLv_ent k2 k3⟩
                obtain ⟨i1, i2, Z1, i3⟩ := exec_keeps hRT hX _ _ _ _ _ _ _ _ _ _ _ h1 K3
                have K4 : Kp F Y2 M2 (psh c r' st') L := ⟨i1, okVs_psh i2 k1, K.2.2⟩
                obtain ⟨j1, j2, Z2, j3⟩ := exec_keeps hRT hX _ _ _ _ _ _ _ _ _ _ _ h K4
                have f0 : Fit Z (Y.map shm) (Y2.map shm) ∧ Fit Z (Y2.map shm) (Y1.map shm) := by
                  obtain ⟨f1, f2, f3, f4, f5, f6⟩ := Ft
                  have l1 : (Y2.map shm).length = (Y.map shm).length + Z1.length := by rw [i3]; simp
                  have l2 : (Y1.map shm).length = (Y2.map shm).length + Z2.length := by rw [j3]; simp
                  have s1 : szs (Y2.map shm) = szs (Y.map shm) + szs (Z1.map shm) := by rw [i3, shm_app]; simp [szs]
                  have s2 : szs (Y1.map shm) = szs (Y2.map shm) + szs (Z2.map shm) := by rw [j3, shm_app]; simp [szs]
                  exact ⟨⟨f1, by omega, f3, by omega, by omega, by omega⟩, ⟨by omega, by omega, by omega, by omega, f5, f6⟩⟩
                refine so_C B hk hs (an2 hb).1 hS (fun R' h' => hH m' R' h') (fun R' h' hh hl => ?_) (fun R' h' => exec_tag hRT _ _ _ _ _ _ _ _ _ _ _ R' h' h1) f0.1 fun sv' hS' => ih _ _ _ _ _ _ _ _ _ _ h K4 R Z sv' hR hd B hS' f0.2 hRet
                obtain ⟨q1, q2, q3, q4, q5, q6, q7, q8⟩ := okH_d hh
                have hP1 : (PP RT m').1 = rNL R' := by unfold PP; rw [h']
                rw [hP1] at h1 K3 hb
                refine Snd.of (rOwn R') q5 q6 ?_ fun P b D cA C z1 z2 rt => ?_
                · have e : catV as = argW (as.map cV) := by
                    unfold catV argW
                    rw [List.map_map]
                    congr 1
                    apply List.map_congr_left
                    intro v hv
                    show ctV v = if isLg (some (some (cV v))) then 2 else 1
                    rw [isLg_cV v (k3 v hv)]
                    unfold ctV
                    cases isLv v <;> rfl
                  rw [← e]
                  exact Nat.le_of_ble_eq_true (an3 hb).2.1
                · have l1 : (Y2.map shm).length = (Y.map shm).length + Z1.length := by rw [i3]; simp
                  have s1 : szs (Y2.map shm) = szs (Y.map shm) + szs (Z1.map shm) := by rw [i3, shm_app]; simp [szs]
                  · have hG := ih _ _ _ _ _ _ _ _ _ _ h1 K3 R' (P, (rBy R', rOwn R', rNL R', d, b, D, cA, (Y.map shm).length, szs (Y.map shm), none, (rY R').name)) [] h' (Nat.le_of_ble_eq_true (an3 hb).2.2) ⟨C, rfl, rfl, rfl, rfl, rfl, Or.inl ⟨hl, rfl⟩, fun a h => (by cases h)⟩ trivial ⟨Nat.le_refl _, by omega, Nat.le_refl _, by omega, by rw [z1]; exact Nat.le_refl _, by rw [z2]; exact Nat.le_refl _⟩ rt
                    rw [q8, cL_ent k3] at hG
                    exact hG
        · cases c with
          | false => cases h
          | true =>
            cases h
            exact so_R B hk hs hS hRet
        · obtain ⟨k1, k2, Z1, e1⟩ := kp_A hs K
          have K2 : Kp F Y' M' st' L := ⟨k1, k2, K.2.2⟩
          obtain ⟨j1, j2, Z2, j3⟩ := exec_keeps hRT hX _ _ _ _ _ _ _ _ _ _ _ h K2
          have f0 : Fit Z (Y.map shm) (Y'.map shm) ∧ Fit Z (Y'.map shm) (Y1.map shm) := by
            obtain ⟨f1, f2, f3, f4, f5, f6⟩ := Ft
            have l1 : (Y'.map shm).length = (Y.map shm).length + Z1.length := by rw [e1]; simp
            have l2 : (Y1.map shm).length = (Y'.map shm).length + Z2.length := by rw [j3]; simp
            have s1 : szs (Y'.map shm) = szs (Y.map shm) + szs (Z1.map shm) := by rw [e1, shm_app]; simp [szs]
            have s2 : szs (Y1.map shm) = szs (Y'.map shm) + szs (Z2.map shm) := by rw [j3, shm_app]; simp [szs]
            exact ⟨⟨f1, by omega, f3, by omega, by omega, by omega⟩, ⟨by omega, by omega, by omega, by omega, f5, f6⟩⟩
          exact so_A B hk hs K hS f0.1 fun sv' hS' => ih _ _ _ _ _ _ _ _ _ _ h K2 R Z sv' hR hd B hS' f0.2 hRet
        · have K2 : Kp F Y M st' L := ⟨K.1, kp_G hs K, K.2.2⟩
          exact so_G B hk hs hS fun sv' hS' => ih _ _ _ _ _ _ _ _ _ _ h K2 R Z sv' hR hd B hS' Ft hRet
end SOUND3
