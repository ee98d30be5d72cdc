/-! PART 13: branches, calls, returns, new cells; the whole run -/
theorem crel_c {b : Nat} {x y : Int} (hx : in32 x) (hy : in32 y) : crel (cnd b) (i32 x) (i32 y) = cmpB b x y := by
  unfold cmpB cnd
  split <;> unfold crel <;> simp only [eq_i32 hx hy, lt_i32 hx hy, lt_i32 hy hx, le_i32 hx hy, le_i32 hy hx]
theorem swt_look (R : Rec) (i t : Nat) (x : Int) : ∀ tab : List (Int × Nat), (rpc R i : Int) + lookupswitch.offset (tab.map fun p => (p.1, offR R i p.2)) (offR R i t) x = (rpc R (swt tab t x) : Int) := by
  intro tab
  induction tab with
  | nil =>
    show (rpc R i : Int) + offR R i t = (rpc R t : Int)
    unfold offR
    omega
  | cons p ps ih =>
    rw [List.map_cons, lookupswitch.offset_cons]
    unfold swt
    by_cases h : p.1 = x
    · rw [if_pos h, if_pos h.symm]
      unfold offR
      omega
    · rw [if_neg h, if_neg (fun q => h q.symm)]
      exact ih
theorem swt_seq (t : Nat) (x : Int) : ∀ (tab : List (Int × Nat)) (lo : Int), tab.map (fun p => p.1) = (List.range tab.length).map (fun (j : Nat) => lo + (j : Int)) → swt tab t x = if x < lo ∨ lo + tab.length - 1 < x then t else ((tab[(x - lo).toNat]?).map (fun p => p.2)).getD t := by
  intro tab
  induction tab with
  | nil =>
    intro lo _
    unfold swt
    split <;> rfl
  | cons p ps ih =>
    intro lo h
    rw [List.length_cons, List.range_succ_eq_map, List.map_cons, List.map_cons, List.map_map, List.cons.injEq] at h
    have hp : p.1 = lo := by
      have := h.1
      simpa using this
    have h2 := ih (lo + 1) (h.2.trans (List.map_congr_left fun j _ => by
      show lo + ((j + 1 : Nat) : Int) = lo + 1 + (j : Int)
      omega))
    unfold swt
    rw [hp, h2, List.length_cons]
    by_cases h3 : x = lo
    · subst h3
      rw [if_pos rfl, if_neg (by omega), Int.sub_self]
      rfl
    · rw [if_neg h3]
      by_cases h4 : x < lo ∨ lo + ((ps.length + 1 : Nat) : Int) - 1 < x
      · rw [if_pos h4, if_pos (by omega)]
      · rw [if_neg h4, if_neg (by omega), show (x - lo).toNat = (x - (lo + 1)).toNat + 1 by omega, List.getElem?_cons_succ]
section SOUND2
variable {RT : List Rec} {R : Rec} {F : Nat → Nat → Nat} {sc : List Int} {d : Nat} {Z : Px} {Y : YY} {M M' : MM} {L L' : LL} {st st' : List Vv} {sv : List Value} {i : Nat}
theorem so_B {mi : MI} {g : Bool} {t : Nat} (B : Bd sc R d Z) (hk : okI RT R i mi = true) (hs : stp F (xar sc) Y M L st mi = some (.inr (.inl (g, t, st')))) (K : Kp F Y M st L) (hS : SS Z st sv) (kt : g = true → Go R Z Y t st' L M) (kf : g = false → Go R Z Y (i + 1) st' L M) : G Z (Y.map shm) (rpc R i) sv (cL L) (cM M) := by
  obtain ⟨op, a, b, c, v, tab, sub, idx, pl⟩ := mi
  match op, hk, hs with
  | 16, hk, hs =>
    rw [ok_16] at hk
    rw [st_16] at hs
    split at hs
    · rename_i x s0 _
      cases hs
      obtain ⟨ws, rfl, hQ⟩ := hS.uI
      have hx := K.2.1.un.1
      obtain ⟨e1, e2⟩ := dn_d hk
      have e0 : crel (cnd b) (i32 x) 0 = cmpB b x 0 := crel_c hx in32_0
      refine g_if B.1 (B.dc e1) (tgt := rpc R t) (by unfold offR; omega) (fun h => kt (by rw [← e0]; exact h) _ hQ) (fun h => ?_)
      have k2 := kf (by rw [← e0]; exact h) _ hQ
      rw [e2] at k2
      exact k2
    · cases hs
  | 17, hk, hs =>
    rw [ok_17] at hk
    rw [st_17] at hs
    split at hs
    · rename_i y x s0 _
      cases hs
      obtain ⟨ws, rfl, hQ⟩ := hS.uI
      obtain ⟨ws2, rfl, hQ2⟩ := hQ.uI
      have hy := K.2.1.un.1
      have hx := K.2.1.un.2.un.1
      obtain ⟨e1, e2⟩ := dn_d hk
      have e0 : crel (cnd b) (i32 x) (i32 y) = cmpB b x y := crel_c hx hy
      refine g_icmp B.1 (B.dc e1) (tgt := rpc R t) (by unfold offR; omega) (fun h => kt (by rw [← e0]; exact h) _ hQ2) (fun h => ?_)
      have k2 := kf (by rw [← e0]; exact h) _ hQ2
      rw [e2] at k2
      exact k2
    · cases hs
  | 0, hk, hs =>
    rw [st_0] at hs
    repeat' first | (cases hs; done) | split at hs
  | 1, hk, hs =>
    rw [st_1] at hs
    repeat' first | (cases hs; done) | split at hs
  | 2, hk, hs =>
    rw [st_2] at hs
    repeat' first | (cases hs; done) | split at hs
  | 3, hk, hs =>
    rw [st_3] at hs
    repeat' first | (cases hs; done) | split at hs
  | 4, hk, hs =>
    rw [st_4] at hs
    repeat' first | (cases hs; done) | split at hs
  | 5, hk, hs =>
    rw [st_5] at hs
    repeat' first | (cases hs; done) | split at hs
  | 6, hk, hs =>
    rw [st_6] at hs
    repeat' first | (cases hs; done) | split at hs
  | 7, hk, hs =>
    rw [st_7] at hs
    repeat' first | (cases hs; done) | split at hs
  | 8, hk, hs =>
    rw [st_8] at hs
    repeat' first | (cases hs; done) | split at hs
  | 9, hk, hs =>
    rw [st_9] at hs
    repeat' first | (cases hs; done) | split at hs
  | 10, hk, hs =>
    rw [st_10] at hs
    repeat' first | (cases hs; done) | split at hs
  | 11, hk, hs =>
    rw [st_11] at hs
    repeat' first | (cases hs; done) | split at hs
  | 12, hk, hs =>
    rw [st_12] at hs
    repeat' first | (cases hs; done) | split at hs
  | 13, hk, hs =>
    rw [st_13] at hs
    repeat' first | (cases hs; done) | split at hs
  | 14, hk, hs =>
    rw [st_14] at hs
    repeat' first | (cases hs; done) | split at hs
  | 15, hk, hs =>
    rw [st_15] at hs
    repeat' first | (cases hs; done) | split at hs
  | 18, hk, hs =>
    rw [st_18] at hs
    repeat' first | (cases hs; done) | split at hs
  | 19, hk, hs =>
    rw [st_19] at hs
    repeat' first | (cases hs; done) | split at hs
  | 20, hk, hs =>
    rw [st_20] at hs
    repeat' first | (cases hs; done) | split at hs
  | 21, hk, hs =>
    rw [st_21] at hs
    repeat' first | (cases hs; done) | split at hs
  | 22, hk, hs =>
    rw [st_22] at hs
    repeat' first | (cases hs; done) | split at hs
  | 23, hk, hs =>
    rw [st_23] at hs
    repeat' first | (cases hs; done) | split at hs
  | 24, hk, hs =>
    rw [st_24] at hs
    repeat' first | (cases hs; done) | split at hs
  | 25, hk, hs =>
    rw [st_25] at hs
    repeat' first | (cases hs; done) | split at hs
  | 26, hk, hs =>
    rw [st_26] at hs
    repeat' first | (cases hs; done) | split at hs
  | 27, hk, hs =>
    rw [st_27] at hs
    repeat' first | (cases hs; done) | split at hs
  | 28, hk, hs =>
    rw [st_28] at hs
    repeat' first | (cases hs; done) | split at hs
  | 29, hk, hs =>
    rw [st_29] at hs
    repeat' first | (cases hs; done) | split at hs
  | 30, hk, hs =>
    rw [st_30] at hs
    repeat' first | (cases hs; done) | split at hs
  | 31, hk, hs =>
    rw [st_31] at hs
    repeat' first | (cases hs; done) | split at hs
  | 32, hk, hs =>
    rw [st_32] at hs
    repeat' first | (cases hs; done) | split at hs
  | 33, hk, hs =>
    rw [st_33] at hs
    repeat' first | (cases hs; done) | split at hs
  | 34, hk, hs =>
    rw [st_34] at hs
    repeat' first | (cases hs; done) | split at hs
  | 35, hk, hs =>
    rw [st_35] at hs
    repeat' first | (cases hs; done) | split at hs
  | 36, hk, hs =>
    rw [st_36] at hs
    repeat' first | (cases hs; done) | split at hs
  | 37, hk, hs =>
    rw [st_37] at hs
    repeat' first | (cases hs; done) | split at hs
  | 38, hk, hs =>
    rw [st_38] at hs
    repeat' first | (cases hs; done) | split at hs
  | 39, hk, hs =>
    rw [st_39] at hs
    repeat' first | (cases hs; done) | split at hs
  | op + 40, hk, hs => cases hs
theorem so_S {mi : MI} {x : Int} {tb : List (Int × Nat)} {t : Nat} (B : Bd sc R d Z) (hk : okI RT R i mi = true) (hs : stp F (xar sc) Y M L st mi = some (.inr (.inr (.inl (x, tb, t, st'))))) (K : Kp F Y M st L) (hS : SS Z st sv) (k : Go R Z Y (swt tb t x) st' L M) : G Z (Y.map shm) (rpc R i) sv (cL L) (cM M) := by
  obtain ⟨op, a, b, c, v, tab, sub, idx, pl⟩ := mi
  match op, hk, hs with
  | 18, hk, hs =>
    rw [ok_18] at hk
    rw [st_18] at hs
    split at hs
    · cases hs
      obtain ⟨ws, rfl, hQ⟩ := hS.uI
      have hx := K.2.1.un.1
      split at hk
      · obtain ⟨h1, h2⟩ := an2 hk
        refine g_table B.1 (B.dc (dk_d h1)) (by simp; omega) (tgt := rpc R (swt tb t x)) ?_ (k _ hQ)
        unfold swT
        rw [t_i32' hx, swt_seq t x tb v (of_decide_eq_true h2)]
        by_cases h3 : x < v ∨ v + (tb.length : Int) - 1 < x
        · rw [if_pos h3, if_pos h3]
          unfold offR
          omega
        · rw [if_neg h3, if_neg h3]
          have hl : (x - v).toNat < tb.length := by omega
          simp only [List.getElem?_toArray, List.getElem?_map, List.getElem?_eq_getElem hl, Option.map_some, Option.getD_some]
          unfold offR
          omega
      · obtain ⟨h1, h2⟩ := an2 hk
        refine g_lookup B.1 (B.dc (dk_d h1)) h2 (tgt := rpc R (swt tb t x)) ?_ (k _ hQ)
        rw [t_i32' hx]
        exact swt_look R i t x tb
    · cases hs
  | 0, hk, hs =>
    rw [st_0] at hs
    repeat' first | (cases hs; done) | split at hs
  | 1, hk, hs =>
    rw [st_1] at hs
    repeat' first | (cases hs; done) | split at hs
  | 2, hk, hs =>
    rw [st_2] at hs
    repeat' first | (cases hs; done) | split at hs
  | 3, hk, hs =>
    rw [st_3] at hs
    repeat' first | (cases hs; done) | split at hs
  | 4, hk, hs =>
    rw [st_4] at hs
    repeat' first | (cases hs; done) | split at hs
  | 5, hk, hs =>
    rw [st_5] at hs
    repeat' first | (cases hs; done) | split at hs
  | 6, hk, hs =>
    rw [st_6] at hs
    repeat' first | (cases hs; done) | split at hs
  | 7, hk, hs =>
    rw [st_7] at hs
    repeat' first | (cases hs; done) | split at hs
  | 8, hk, hs =>
    rw [st_8] at hs
    repeat' first | (cases hs; done) | split at hs
  | 9, hk, hs =>
    rw [st_9] at hs
    repeat' first | (cases hs; done) | split at hs
  | 10, hk, hs =>
    rw [st_10] at hs
    repeat' first | (cases hs; done) | split at hs
  | 11, hk, hs =>
    rw [st_11] at hs
    repeat' first | (cases hs; done) | split at hs
  | 12, hk, hs =>
    rw [st_12] at hs
    repeat' first | (cases hs; done) | split at hs
  | 13, hk, hs =>
    rw [st_13] at hs
    repeat' first | (cases hs; done) | split at hs
  | 14, hk, hs =>
    rw [st_14] at hs
    repeat' first | (cases hs; done) | split at hs
  | 15, hk, hs =>
    rw [st_15] at hs
    repeat' first | (cases hs; done) | split at hs
  | 16, hk, hs =>
    rw [st_16] at hs
    repeat' first | (cases hs; done) | split at hs
  | 17, hk, hs =>
    rw [st_17] at hs
    repeat' first | (cases hs; done) | split at hs
  | 19, hk, hs =>
    rw [st_19] at hs
    repeat' first | (cases hs; done) | split at hs
  | 20, hk, hs =>
    rw [st_20] at hs
    repeat' first | (cases hs; done) | split at hs
  | 21, hk, hs =>
    rw [st_21] at hs
    repeat' first | (cases hs; done) | split at hs
  | 22, hk, hs =>
    rw [st_22] at hs
    repeat' first | (cases hs; done) | split at hs
  | 23, hk, hs =>
    rw [st_23] at hs
    repeat' first | (cases hs; done) | split at hs
  | 24, hk, hs =>
    rw [st_24] at hs
    repeat' first | (cases hs; done) | split at hs
  | 25, hk, hs =>
    rw [st_25] at hs
    repeat' first | (cases hs; done) | split at hs
  | 26, hk, hs =>
    rw [st_26] at hs
    repeat' first | (cases hs; done) | split at hs
  | 27, hk, hs =>
    rw [st_27] at hs
    repeat' first | (cases hs; done) | split at hs
  | 28, hk, hs =>
    rw [st_28] at hs
    repeat' first | (cases hs; done) | split at hs
  | 29, hk, hs =>
    rw [st_29] at hs
    repeat' first | (cases hs; done) | split at hs
  | 30, hk, hs =>
    rw [st_30] at hs
    repeat' first | (cases hs; done) | split at hs
  | 31, hk, hs =>
    rw [st_31] at hs
    repeat' first | (cases hs; done) | split at hs
  | 32, hk, hs =>
    rw [st_32] at hs
    repeat' first | (cases hs; done) | split at hs
  | 33, hk, hs =>
    rw [st_33] at hs
    repeat' first | (cases hs; done) | split at hs
  | 34, hk, hs =>
    rw [st_34] at hs
    repeat' first | (cases hs; done) | split at hs
  | 35, hk, hs =>
    rw [st_35] at hs
    repeat' first | (cases hs; done) | split at hs
  | 36, hk, hs =>
    rw [st_36] at hs
    repeat' first | (cases hs; done) | split at hs
  | 37, hk, hs =>
    rw [st_37] at hs
    repeat' first | (cases hs; done) | split at hs
  | 38, hk, hs =>
    rw [st_38] at hs
    repeat' first | (cases hs; done) | split at hs
  | 39, hk, hs =>
    rw [st_39] at hs
    repeat' first | (cases hs; done) | split at hs
  | op + 40, hk, hs => cases hs
theorem so_G {mi : MI} {t : Nat} (B : Bd sc R d Z) (hk : okI RT R i mi = true) (hs : stp F (xar sc) Y M L st mi = some (.inr (.inr (.inr (.inr (.inr (.inr (t, st')))))))) (hS : SS Z st sv) (k : Go R Z Y t st' L M) : G Z (Y.map shm) (rpc R i) sv (cL L) (cM M) := by
  obtain ⟨op, a, b, c, v, tab, sub, idx, pl⟩ := mi
  match op, hk, hs with
  | 15, hk, hs =>
    rw [ok_15] at hk
    rw [st_15] at hs
    cases hs
    exact g_goto B.1 (B.dc (dk_d hk)) (by unfold offR; omega) (k _ hS)
  | 0, hk, hs =>
    rw [st_0] at hs
    repeat' first | (cases hs; done) | split at hs
  | 1, hk, hs =>
    rw [st_1] at hs
    repeat' first | (cases hs; done) | split at hs
  | 2, hk, hs =>
    rw [st_2] at hs
    repeat' first | (cases hs; done) | split at hs
  | 3, hk, hs =>
    rw [st_3] at hs
    repeat' first | (cases hs; done) | split at hs
  | 4, hk, hs =>
    rw [st_4] at hs
    repeat' first | (cases hs; done) | split at hs
  | 5, hk, hs =>
    rw [st_5] at hs
    repeat' first | (cases hs; done) | split at hs
  | 6, hk, hs =>
    rw [st_6] at hs
    repeat' first | (cases hs; done) | split at hs
  | 7, hk, hs =>
    rw [st_7] at hs
    repeat' first | (cases hs; done) | split at hs
  | 8, hk, hs =>
    rw [st_8] at hs
    repeat' first | (cases hs; done) | split at hs
  | 9, hk, hs =>
    rw [st_9] at hs
    repeat' first | (cases hs; done) | split at hs
  | 10, hk, hs =>
    rw [st_10] at hs
    repeat' first | (cases hs; done) | split at hs
  | 11, hk, hs =>
    rw [st_11] at hs
    repeat' first | (cases hs; done) | split at hs
  | 12, hk, hs =>
    rw [st_12] at hs
    repeat' first | (cases hs; done) | split at hs
  | 13, hk, hs =>
    rw [st_13] at hs
    repeat' first | (cases hs; done) | split at hs
  | 14, hk, hs =>
    rw [st_14] at hs
    repeat' first | (cases hs; done) | split at hs
  | 16, hk, hs =>
    rw [st_16] at hs
    repeat' first | (cases hs; done) | split at hs
  | 17, hk, hs =>
    rw [st_17] at hs
    repeat' first | (cases hs; done) | split at hs
  | 18, hk, hs =>
    rw [st_18] at hs
    repeat' first | (cases hs; done) | split at hs
  | 19, hk, hs =>
    rw [st_19] at hs
    repeat' first | (cases hs; done) | split at hs
  | 20, hk, hs =>
    rw [st_20] at hs
    repeat' first | (cases hs; done) | split at hs
  | 21, hk, hs =>
    rw [st_21] at hs
    repeat' first | (cases hs; done) | split at hs
  | 22, hk, hs =>
    rw [st_22] at hs
    repeat' first | (cases hs; done) | split at hs
  | 23, hk, hs =>
    rw [st_23] at hs
    repeat' first | (cases hs; done) | split at hs
  | 24, hk, hs =>
    rw [st_24] at hs
    repeat' first | (cases hs; done) | split at hs
  | 25, hk, hs =>
    rw [st_25] at hs
    repeat' first | (cases hs; done) | split at hs
  | 26, hk, hs =>
    rw [st_26] at hs
    repeat' first | (cases hs; done) | split at hs
  | 27, hk, hs =>
    rw [st_27] at hs
    repeat' first | (cases hs; done) | split at hs
  | 28, hk, hs =>
    rw [st_28] at hs
    repeat' first | (cases hs; done) | split at hs
  | 29, hk, hs =>
    rw [st_29] at hs
    repeat' first | (cases hs; done) | split at hs
  | 30, hk, hs =>
    rw [st_30] at hs
    repeat' first | (cases hs; done) | split at hs
  | 31, hk, hs =>
    rw [st_31] at hs
    repeat' first | (cases hs; done) | split at hs
  | 32, hk, hs =>
    rw [st_32] at hs
    repeat' first | (cases hs; done) | split at hs
  | 33, hk, hs =>
    rw [st_33] at hs
    repeat' first | (cases hs; done) | split at hs
  | 34, hk, hs =>
    rw [st_34] at hs
    repeat' first | (cases hs; done) | split at hs
  | 35, hk, hs =>
    rw [st_35] at hs
    repeat' first | (cases hs; done) | split at hs
  | 36, hk, hs =>
    rw [st_36] at hs
    repeat' first | (cases hs; done) | split at hs
  | 37, hk, hs =>
    rw [st_37] at hs
    repeat' first | (cases hs; done) | split at hs
  | 38, hk, hs =>
    rw [st_38] at hs
    repeat' first | (cases hs; done) | split at hs
  | 39, hk, hs =>
    rw [st_39] at hs
    repeat' first | (cases hs; done) | split at hs
  | op + 40, hk, hs => cases hs
theorem so_R {mi : MI} {w : Vv} (B : Bd sc R d Z) (hk : okI RT R i mi = true) (hs : stp F (xar sc) Y M L st mi = some (.inr (.inr (.inr (.inr (.inl (true, w))))))) (hS : SS Z st sv) (hR : Rets Z (rRet R) (cV w) (Y.map shm) (cM M)) : G Z (Y.map shm) (rpc R i) sv (cL L) (cM M) := by
  obtain ⟨op, a, b, c, v, tab, sub, idx, pl⟩ := mi
  match op, hk, hs with
  | 31, hk, hs =>
    rw [ok_31] at hk
    rw [st_31] at hs
    split at hs
    · split at hs
      · cases hs
        cases hS.n
        obtain ⟨h1, h2⟩ := an2 hk
        exact hR.1 (of_decide_eq_true h2) _ _ (B.dc (dk_d h1))
      · cases hs
    · split at hs
      · rename_i x _
        have h := Option.some.inj hs
        simp only [Sum.inr.injEq, Sum.inl.injEq, Prod.mk.injEq] at h
        obtain ⟨hb, rfl⟩ := h
        obtain ⟨ws, rfl, hQ⟩ := hS.uI
        cases hQ.n
        obtain ⟨h1, h2⟩ := an2 hk
        split at h2
        · exact hR.2.2 .int (of_decide_eq_true h2) rfl _ _ _ (B.dc (dk_d h1)) rfl rfl
        · rename_i hc
          refine hR.2.2 .boolean (of_decide_eq_true h2) rfl _ _ _ (B.dc (dk_d h1)) ?_ rfl
          rcases bl2_d hb with q | q | q
          · exact absurd q hc
          · subst q
            decide
          · subst q
            decide
      · cases hs
    · rename_i h0 h1
      split at hs
      · cases hs
        obtain ⟨ws, rfl, hQ⟩ := hS.uL
        cases hQ.n
        split at hk
        · exact absurd rfl h0
        · exact absurd rfl h1
        · obtain ⟨g1, g2⟩ := an2 hk
          exact hR.2.1 (of_decide_eq_true g2) _ _ _ (B.dc (dk_d g1)) rfl
      · cases hs
  | 0, hk, hs =>
    rw [st_0] at hs
    repeat' first | (cases hs; done) | split at hs
  | 1, hk, hs =>
    rw [st_1] at hs
    repeat' first | (cases hs; done) | split at hs
  | 2, hk, hs =>
    rw [st_2] at hs
    repeat' first | (cases hs; done) | split at hs
  | 3, hk, hs =>
    rw [st_3] at hs
    repeat' first | (cases hs; done) | split at hs
  | 4, hk, hs =>
    rw [st_4] at hs
    repeat' first | (cases hs; done) | split at hs
  | 5, hk, hs =>
    rw [st_5] at hs
    repeat' first | (cases hs; done) | split at hs
  | 6, hk, hs =>
    rw [st_6] at hs
    repeat' first | (cases hs; done) | split at hs
  | 7, hk, hs =>
    rw [st_7] at hs
    repeat' first | (cases hs; done) | split at hs
  | 8, hk, hs =>
    rw [st_8] at hs
    repeat' first | (cases hs; done) | split at hs
  | 9, hk, hs =>
    rw [st_9] at hs
    repeat' first | (cases hs; done) | split at hs
  | 10, hk, hs =>
    rw [st_10] at hs
    repeat' first | (cases hs; done) | split at hs
  | 11, hk, hs =>
    rw [st_11] at hs
    repeat' first | (cases hs; done) | split at hs
  | 12, hk, hs =>
    rw [st_12] at hs
    repeat' first | (cases hs; done) | split at hs
  | 13, hk, hs =>
    rw [st_13] at hs
    repeat' first | (cases hs; done) | split at hs
  | 14, hk, hs =>
    rw [st_14] at hs
    repeat' first | (cases hs; done) | split at hs
  | 15, hk, hs =>
    rw [st_15] at hs
    repeat' first | (cases hs; done) | split at hs
  | 16, hk, hs =>
    rw [st_16] at hs
    repeat' first | (cases hs; done) | split at hs
  | 17, hk, hs =>
    rw [st_17] at hs
    repeat' first | (cases hs; done) | split at hs
  | 18, hk, hs =>
    rw [st_18] at hs
    repeat' first | (cases hs; done) | split at hs
  | 19, hk, hs =>
    rw [st_19] at hs
    repeat' first | (cases hs; done) | split at hs
  | 20, hk, hs =>
    rw [st_20] at hs
    repeat' first | (cases hs; done) | split at hs
  | 21, hk, hs =>
    rw [st_21] at hs
    repeat' first | (cases hs; done) | split at hs
  | 22, hk, hs =>
    rw [st_22] at hs
    repeat' first | (cases hs; done) | split at hs
  | 23, hk, hs =>
    rw [st_23] at hs
    repeat' first | (cases hs; done) | split at hs
  | 24, hk, hs =>
    rw [st_24] at hs
    repeat' first | (cases hs; done) | split at hs
  | 25, hk, hs =>
    rw [st_25] at hs
    repeat' first | (cases hs; done) | split at hs
  | 26, hk, hs =>
    rw [st_26] at hs
    repeat' first | (cases hs; done) | split at hs
  | 27, hk, hs =>
    rw [st_27] at hs
    repeat' first | (cases hs; done) | split at hs
  | 28, hk, hs =>
    rw [st_28] at hs
    repeat' first | (cases hs; done) | split at hs
  | 29, hk, hs =>
    rw [st_29] at hs
    repeat' first | (cases hs; done) | split at hs
  | 30, hk, hs =>
    rw [st_30] at hs
    repeat' first | (cases hs; done) | split at hs
  | 32, hk, hs =>
    rw [st_32] at hs
    repeat' first | (cases hs; done) | split at hs
  | 33, hk, hs =>
    rw [st_33] at hs
    repeat' first | (cases hs; done) | split at hs
  | 34, hk, hs =>
    rw [st_34] at hs
    repeat' first | (cases hs; done) | split at hs
  | 35, hk, hs =>
    rw [st_35] at hs
    repeat' first | (cases hs; done) | split at hs
  | 36, hk, hs =>
    rw [st_36] at hs
    repeat' first | (cases hs; done) | split at hs
  | 37, hk, hs =>
    rw [st_37] at hs
    repeat' first | (cases hs; done) | split at hs
  | 38, hk, hs =>
    rw [st_38] at hs
    repeat' first | (cases hs; done) | split at hs
  | 39, hk, hs =>
    rw [st_39] at hs
    repeat' first | (cases hs; done) | split at hs
  | op + 40, hk, hs => cases hs
def tgk (ret : Option FieldType) (r : Vv) : Prop := (rk ret = 1 → ∃ x, r = vi x) ∧ (rk ret = 2 → ∃ x, r = vl x)
theorem tg_R {mi : MI} {w : Vv} (hk : okI RT R i mi = true) (hs : stp F (xar sc) Y M L st mi = some (.inr (.inr (.inr (.inr (.inl (true, w))))))) : tgk (rRet R) w := by
  obtain ⟨op, a, b, c, v, tab, sub, idx, pl⟩ := mi
  match op, hk, hs with
  | 31, hk, hs =>
    rw [ok_31] at hk
    rw [st_31] at hs
    split at hs
    · split at hs
      · cases hs
        rw [of_decide_eq_true (an2 hk).2]
        exact ⟨fun q => (by cases q), fun q => (by cases q)⟩
      · cases hs
    · split at hs
      · rename_i x _
        have h := Option.some.inj hs
        simp only [Sum.inr.injEq, Sum.inl.injEq, Prod.mk.injEq] at h
        obtain ⟨hb, rfl⟩ := h
        obtain ⟨h1, h2⟩ := an2 hk
        refine ⟨fun _ => ⟨x, rfl⟩, fun q => ?_⟩
        split at h2
        · rw [of_decide_eq_true h2] at q
          cases q
        · rw [of_decide_eq_true h2] at q
          cases q
      · cases hs
    · rename_i h0 h1
      split at hs
      · rename_i x _
        cases hs
        split at hk
        · exact absurd rfl h0
        · exact absurd rfl h1
        · rw [of_decide_eq_true (an2 hk).2]
          exact ⟨fun q => (by cases q), fun _ => ⟨x, rfl⟩⟩
      · cases hs
  | 0, hk, hs =>
    rw [st_0] at hs
    repeat' first | (cases hs; done) | split at hs
  | 1, hk, hs =>
    rw [st_1] at hs
    repeat' first | (cases hs; done) | split at hs
  | 2, hk, hs =>
    rw [st_2] at hs
    repeat' first | (cases hs; done) | split at hs
  | 3, hk, hs =>
    rw [st_3] at hs
    repeat' first | (cases hs; done) | split at hs
  | 4, hk, hs =>
    rw [st_4] at hs
    repeat' first | (cases hs; done) | split at hs
  | 5, hk, hs =>
    rw [st_5] at hs
    repeat' first | (cases hs; done) | split at hs
  | 6, hk, hs =>
    rw [st_6] at hs
    repeat' first | (cases hs; done) | split at hs
  | 7, hk, hs =>
    rw [st_7] at hs
    repeat' first | (cases hs; done) | split at hs
  | 8, hk, hs =>
    rw [st_8] at hs
    repeat' first | (cases hs; done) | split at hs
  | 9, hk, hs =>
    rw [st_9] at hs
    repeat' first | (cases hs; done) | split at hs
  | 10, hk, hs =>
    rw [st_10] at hs
    repeat' first | (cases hs; done) | split at hs
  | 11, hk, hs =>
    rw [st_11] at hs
    repeat' first | (cases hs; done) | split at hs
  | 12, hk, hs =>
    rw [st_12] at hs
    repeat' first | (cases hs; done) | split at hs
  | 13, hk, hs =>
    rw [st_13] at hs
    repeat' first | (cases hs; done) | split at hs
  | 14, hk, hs =>
    rw [st_14] at hs
    repeat' first | (cases hs; done) | split at hs
  | 15, hk, hs =>
    rw [st_15] at hs
    repeat' first | (cases hs; done) | split at hs
  | 16, hk, hs =>
    rw [st_16] at hs
    repeat' first | (cases hs; done) | split at hs
  | 17, hk, hs =>
    rw [st_17] at hs
    repeat' first | (cases hs; done) | split at hs
  | 18, hk, hs =>
    rw [st_18] at hs
    repeat' first | (cases hs; done) | split at hs
  | 19, hk, hs =>
    rw [st_19] at hs
    repeat' first | (cases hs; done) | split at hs
  | 20, hk, hs =>
    rw [st_20] at hs
    repeat' first | (cases hs; done) | split at hs
  | 21, hk, hs =>
    rw [st_21] at hs
    repeat' first | (cases hs; done) | split at hs
  | 22, hk, hs =>
    rw [st_22] at hs
    repeat' first | (cases hs; done) | split at hs
  | 23, hk, hs =>
    rw [st_23] at hs
    repeat' first | (cases hs; done) | split at hs
  | 24, hk, hs =>
    rw [st_24] at hs
    repeat' first | (cases hs; done) | split at hs
  | 25, hk, hs =>
    rw [st_25] at hs
    repeat' first | (cases hs; done) | split at hs
  | 26, hk, hs =>
    rw [st_26] at hs
    repeat' first | (cases hs; done) | split at hs
  | 27, hk, hs =>
    rw [st_27] at hs
    repeat' first | (cases hs; done) | split at hs
  | 28, hk, hs =>
    rw [st_28] at hs
    repeat' first | (cases hs; done) | split at hs
  | 29, hk, hs =>
    rw [st_29] at hs
    repeat' first | (cases hs; done) | split at hs
  | 30, hk, hs =>
    rw [st_30] at hs
    repeat' first | (cases hs; done) | split at hs
  | 32, hk, hs =>
    rw [st_32] at hs
    repeat' first | (cases hs; done) | split at hs
  | 33, hk, hs =>
    rw [st_33] at hs
    repeat' first | (cases hs; done) | split at hs
  | 34, hk, hs =>
    rw [st_34] at hs
    repeat' first | (cases hs; done) | split at hs
  | 35, hk, hs =>
    rw [st_35] at hs
    repeat' first | (cases hs; done) | split at hs
  | 36, hk, hs =>
    rw [st_36] at hs
    repeat' first | (cases hs; done) | split at hs
  | 37, hk, hs =>
    rw [st_37] at hs
    repeat' first | (cases hs; done) | split at hs
  | 38, hk, hs =>
    rw [st_38] at hs
    repeat' first | (cases hs; done) | split at hs
  | 39, hk, hs =>
    rw [st_39] at hs
    repeat' first | (cases hs; done) | split at hs
  | op + 40, hk, hs => cases hs
theorem exec_tag (hRT : ∀ (m : Nat) (R : Rec), RT[m]? = some R → okC RT R = true) : ∀ (n d m i : Nat) (st : List Vv) (L : LL) (Y : YY) (M : MM) (r : Vv) (Y1 : YY) (M1 : MM) (R : Rec), RT[m]? = some R → exec (PP RT) F (xar sc) n d m i st L Y M = some (r, Y1, M1) → tgk (rRet R) r := by
  intro n
  induction n with
  | zero => intro d m i st L Y M r Y1 M1 R _ h; cases h
  | succ n ih =>
    intro d m i st L Y M r Y1 M1 R hR h
    rw [exec] at h
    cases hc : (PP RT m).2[i]? with
    | none => rw [hc] at h; cases h
    | some mi =>
      obtain ⟨R', hR', hi, -⟩ := PP_at hc
      cases hR.symm.trans hR'
      have hk := okC_at (hRT m R hR) hi
      rw [hc] at h
      dsimp only at h
      cases hs : stp F (xar sc) Y M L st mi with
      | none => rw [hs] at h; cases h
      | some act =>
        rw [hs] at h
        rcases act with ⟨c, st', L', M'⟩ | ⟨c, t, st'⟩ | ⟨x, tab, t, st'⟩ | ⟨g, m', as, c, st'⟩ | ⟨c, v⟩ | ⟨st', Y', M'⟩ | ⟨t, st'⟩ <;> dsimp only at h
        · cases c with
          | false => cases h
          | true => exact ih _ _ _ _ _ _ _ _ _ _ _ hR h
        · cases c with
          | false => exact ih _ _ _ _ _ _ _ _ _ _ _ hR h
          | true => exact ih _ _ _ _ _ _ _ _ _ _ _ hR h
        · exact ih _ _ _ _ _ _ _ _ _ _ _ hR h
        · cases d with
          | zero => cases h
          | succ d =>
            dsimp only at h
            cases hb : g && (Nat.ble (catV as) (PP RT m').1 && Nat.ble 1 d) with
            | false => rw [hb] at h; cases h
            | true =>
              rw [hb] at h
              dsimp only at h
              cases h1 : exec (PP RT) F (xar sc) n d m' 0 [] (entLL (PP RT m').1 as) Y M with
              | none => rw [h1] at h; cases h
              | some q =>
                rw [h1] at h
                exact ih _ _ _ _ _ _ _ _ _ _ _ hR h
        · cases c with
          | false => cases h
          | true =>
            cases h
            exact tg_R hk hs
        · exact ih _ _ _ _ _ _ _ _ _ _ _ hR h
        · exact ih _ _ _ _ _ _ _ _ _ _ _ hR h
/-! the stack's upper part as a call's arguments -/
theorem SS.td {Z : Px} : ∀ {vs : List Vv} {ws : List Value}, SS Z vs ws → ∀ b, SS Z (vs.take b) (ws.take b) ∧ SS Z (vs.drop b) (ws.drop b)
  | [], ws, h, b => by
    cases h.n
    simp [SS]
  | v :: vs, ws, h, b => by
    obtain ⟨w, ws', rfl, h1, h2⟩ := h.u
    cases b with
    | zero => exact ⟨trivial, h⟩
    | succ b =>
      have := SS.td h2 b
      exact ⟨⟨h1, this.1⟩, this.2⟩
theorem SS.cvs {Z : Px} : ∀ {vs : List Vv} {ws : List Value}, SS Z vs ws → (∀ z ∈ vs, isXv z = false) → ws = (vs.map cV).map (cv (xb Z))
  | [], ws, h, _ => h.n
  | v :: vs, ws, h, hx => by
    obtain ⟨w, ws', rfl, h1, h2⟩ := h.u
    rw [List.map_cons, List.map_cons, ← SS.cvs h2 (fun z hz => hx z (List.mem_cons_of_mem _ hz))]
    congr 1
    have h3 := hx v List.mem_cons_self
    rcases v with x | x | k | k
    · exact h1
    · exact h1
    · exact h1
    · cases h3
theorem okH_d {R : Rec} (h : okH R = true) : (.code (rY R) (rBy R) (rNL R) (rRet R)) ∈ lw_g ∧ (.initialized (rY R).cls) ∈ lw_g ∧ (rY R).cls ≠ "java/lang/invoke/MethodHandle" ∧ (rY R).cls ≠ "java/lang/invoke/VarHandle" ∧ (rY R).cls = rOwn R ∧ plainName (rY R).cls = true ∧ rNL R ≤ 13 ∧ rpc R 0 = 0 := by
  unfold okH at h
  obtain ⟨h1, h2, h3, h4⟩ := an4 h
  obtain ⟨h5, h6, h7, h8⟩ := an4 h4
  exact ⟨ckw_g h1, ckw_g h2, of_decide_eq_true h3, of_decide_eq_true h5, of_decide_eq_true h6, h7, of_decide_eq_true (an2 h8).1, of_decide_eq_true (an2 h8).2⟩

end SOUND2
