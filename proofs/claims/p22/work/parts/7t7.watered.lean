/-! PART 7t7: the answers of watered -/
theorem pc_X11_watered {sc : List Int} {n : Nat} {Q : Vv → MM → Prop} (v1 : Int) (M : MM) (h : ∀ n1, n1 < n → PC sc n1 m_X11_isIn [vi v1, vi 0, vi 1023] M (cI fun r2 M1 =>
  brA (decide (r2 ≠ 0))
   (gIm (decide (0 < M1 0 10)) (gIm (kd YF ((M1 0 10).toNat - 1) == 18) (PC sc n1 m_X9_housesWithSpots [vr ((M1 0 10).toNat - 1)] M1 (cI fun r4 M3 =>
    PW sc n1 m_X11_watered 17 [] [some (vr 0), some (vi v1), some (vi r4), some (vi ((-2))), some (vl ((-1))), none, some (vi 0), none, none] M3 Q))))
   (Q (vi ((-1))) M1))) : PC sc n m_X11_watered [vr 0, vi v1] M Q := pc_go rfl (fun j => Nat.beq j 17) 61 h
theorem pw_X11_watered_17 {sc : List Int} {n : Nat} {Q : Vv → MM → Prop} (v1 : Int) (v2 : Int) (v3 : Int) (v4 : Int) (v6 : Int) (o7 : Option Vv) (o8 : Option Vv) (M : MM) (h : ∀ n1, n1 < n → brA (decide (10 ≤ v6))
  (Q (vi v3) M)
  (PC sc n1 m_X11_hasBit [vi (bAnd v2 (bXor v1 ((-1)))), vi v6] M (cI fun r2 M1 =>
   brA (decide (r2 = 0))
    (PW sc n1 m_X11_watered 17 [] [some (vr 0), some (vi v1), some (vi v2), some (vi v3), some (vl v4), none, some (vi (w32 (v6 + 1))), o7, o8] M1 Q)
    (gIm (decide (0 < M1 0 10)) (gIm (decide (0 < M1 0 12)) (PC sc n1 m_X5_drawsInAll [vr ((M1 0 10).toNat - 1), vr ((M1 0 12).toNat - 1), vi (M1 46 6), vi (bOr (bAnd v1 v2) (bShl 1 v6))] M1 (cJ fun r4 M3 =>
     brA (decide ((lcm3 r4 v4) ≤ 0))
      (PW sc n1 m_X11_watered 17 [] [some (vr 0), some (vi v1), some (vi v2), some (vi v3), some (vl v4), none, some (vi (w32 (v6 + 1))), some (vl r4), none] M3 Q)
      (PW sc n1 m_X11_watered 17 [] [some (vr 0), some (vi v1), some (vi v2), some (vi v6), some (vl r4), none, some (vi (w32 (v6 + 1))), some (vl r4), none] M3 Q)))))))) : PW sc n m_X11_watered 17 [] [some (vr 0), some (vi v1), some (vi v2), some (vi v3), some (vl v4), none, some (vi v6), o7, o8] M Q := pw_go rfl (fun j => Nat.beq j 17) 61 h
theorem pc_X5_drawsInAll {sc : List Int} {n : Nat} {T : Nat} (hT : T = 57 ∨ T = 61) {L : Nat} (hL : L = 65 ∨ L = 73) {Q : Vv → MM → Prop} (v2 : Int) (v3 : Int) (M : MM) (h : ∀ n1, n1 < n → PC sc n1 m_X9_housesWithSpots [vr T] M (cI fun r2 M1 =>
  PW sc n1 m_X5_drawsInAll 11 [] [some (vr T), some (vr L), some (vi v2), some (vi v3), some (vi (bAnd r2 (bXor v3 ((-1))))), some (vl 0), none, some (vi 0)] M1 Q)) : PC sc n m_X5_drawsInAll [vr T, vr L, vi v2, vi v3] M Q := by
  rcases hT with rfl | rfl <;> rcases hL with rfl | rfl <;> exact pc_go rfl (fun j => Nat.beq j 11) 36 h
theorem pw_X5_drawsInAll_11 {sc : List Int} {n : Nat} {T : Nat} (hT : T = 57 ∨ T = 61) {L : Nat} (hL : L = 65 ∨ L = 73) {Q : Vv → MM → Prop} (v2 : Int) (v3 : Int) (v4 : Int) (v5 : Int) (v7 : Int) (M : MM) (h : ∀ n1, n1 < n → brA (decide (10 ≤ v7))
  (Q (vl v5) M)
  (PC sc n1 m_X11_hasBit [vi v4, vi v7] M (cI fun r2 M1 =>
   brA (decide (r2 = 0))
    (PW sc n1 m_X5_drawsInAll 11 [] [some (vr T), some (vr L), some (vi v2), some (vi v3), some (vi v4), some (vl v5), none, some (vi (w32 (v7 + 1)))] M1 Q)
    (PC sc n1 m_X5_drawsThatTell [vr T, vr L, vi v2, vi v3, vi v7] M1 (cJ fun r4 M3 =>
     PW sc n1 m_X5_drawsInAll 11 [] [some (vr T), some (vr L), some (vi v2), some (vi v3), some (vi v4), some (vl (w64 (v5 + r4))), none, some (vi (w32 (v7 + 1)))] M3 Q))))) : PW sc n m_X5_drawsInAll 11 [] [some (vr T), some (vr L), some (vi v2), some (vi v3), some (vi v4), some (vl v5), none, some (vi v7)] M Q := by
  rcases hT with rfl | rfl <;> rcases hL with rfl | rfl <;> exact pw_go rfl (fun j => Nat.beq j 11) 36 h
theorem pc_X12_watered {sc : List Int} {n : Nat} {Q : Vv → MM → Prop} (v1 : Int) (M : MM) (h : ∀ n1, n1 < n → PC sc n1 m_X12_in [vi v1, vi 0, vi 1023] M (cI fun r2 M1 =>
  brA (decide (r2 ≠ 0))
   (PC sc n1 m_X12_spotsSet [vr 81] M1 (cI fun r4 M3 =>
    PW sc n1 m_X12_watered 18 [] [some (vr 81), some (vi v1), some (vi (bAnd v1 r4)), some (vi ((-2))), some (vl ((-1))), none, some (vi 0), none, none, none, none] M3 Q))
   (Q (vi ((-1))) M1))) : PC sc n m_X12_watered [vr 81, vi v1] M Q := pc_go rfl (fun j => Nat.beq j 18 || Nat.beq j 40) 82 h
theorem pw_X12_watered_18 {sc : List Int} {n : Nat} {Q : Vv → MM → Prop} (v1 : Int) (v2 : Int) (v3 : Int) (v4 : Int) (v6 : Int) (o7 : Option Vv) (o8 : Option Vv) (o9 : Option Vv) (o10 : Option Vv) (M : MM) (h : ∀ n1, n1 < n → brA (decide (10 ≤ v6))
  (Q (vi v3) M)
  (PC sc n1 m_X12_hasSpot [vr 81, vi v6] M (cI fun r2 M1 =>
   brA (decide (r2 = 0))
    (PW sc n1 m_X12_watered 18 [] [some (vr 81), some (vi v1), some (vi v2), some (vi v3), some (vl v4), none, some (vi (w32 (v6 + 1))), o7, o8, o9, o10] M1 Q)
    (PC sc n1 m_X12_has [vi v2, vi v6] M1 (cI fun r4 M3 =>
     brA (decide (r4 = 0))
      (PW sc n1 m_X12_watered 40 [] [some (vr 81), some (vi v1), some (vi v2), some (vi v3), some (vl v4), none, some (vi v6), some (vi (bOr v2 (bShl 1 v6))), some (vl 0), none, some (vi 0)] M3 Q)
      (PW sc n1 m_X12_watered 18 [] [some (vr 81), some (vi v1), some (vi v2), some (vi v3), some (vl v4), none, some (vi (w32 (v6 + 1))), o7, o8, o9, o10] M3 Q)))))) : PW sc n m_X12_watered 18 [] [some (vr 81), some (vi v1), some (vi v2), some (vi v3), some (vl v4), none, some (vi v6), o7, o8, o9, o10] M Q := pw_go rfl (fun j => Nat.beq j 18 || Nat.beq j 40) 82 h
theorem pw_X12_watered_40 {sc : List Int} {n : Nat} {Q : Vv → MM → Prop} (v1 : Int) (v2 : Int) (v3 : Int) (v4 : Int) (v6 : Int) (v7 : Int) (v8 : Int) (v10 : Int) (M : MM) (h : ∀ n1, n1 < n → brA (decide (10 ≤ v10))
  (brA (decide (0 < (lcm3 v8 v4)))
   (PW sc n1 m_X12_watered 18 [] [some (vr 81), some (vi v1), some (vi v2), some (vi v6), some (vl v8), none, some (vi (w32 (v6 + 1))), some (vi v7), some (vl v8), none, some (vi v10)] M Q)
   (PW sc n1 m_X12_watered 18 [] [some (vr 81), some (vi v1), some (vi v2), some (vi v3), some (vl v4), none, some (vi (w32 (v6 + 1))), some (vi v7), some (vl v8), none, some (vi v10)] M Q))
  (PC sc n1 m_X12_hasSpot [vr 81, vi v10] M (cI fun r2 M1 =>
   brA (decide (r2 = 0))
    (PW sc n1 m_X12_watered 40 [] [some (vr 81), some (vi v1), some (vi v2), some (vi v3), some (vl v4), none, some (vi v6), some (vi v7), some (vl v8), none, some (vi (w32 (v10 + 1)))] M1 Q)
    (PC sc n1 m_X12_has [vi v7, vi v10] M1 (cI fun r4 M3 =>
     brA (decide (r4 ≠ 0))
      (PW sc n1 m_X12_watered 40 [] [some (vr 81), some (vi v1), some (vi v2), some (vi v3), some (vl v4), none, some (vi v6), some (vi v7), some (vl v8), none, some (vi (w32 (v10 + 1)))] M3 Q)
      (PC sc n1 m_X12_bits [vi v7] M3 (cI fun r6 M5 =>
       PC sc n1 m_X12_tens [vi r6] M5 (cJ fun r8 M7 =>
        PC sc n1 m_X12_without [vr 81, vi v7, vi v10] M7 (cJ fun r10 M9 =>
         PW sc n1 m_X12_watered 40 [] [some (vr 81), some (vi v1), some (vi v2), some (vi v3), some (vl v4), none, some (vi v6), some (vi v7), some (vl (w64 ((w64 (v8 + r8)) - r10))), none, some (vi (w32 (v10 + 1)))] M9 Q))))))))) : PW sc n m_X12_watered 40 [] [some (vr 81), some (vi v1), some (vi v2), some (vi v3), some (vl v4), none, some (vi v6), some (vi v7), some (vl v8), none, some (vi v10)] M Q := pw_go rfl (fun j => Nat.beq j 18 || Nat.beq j 40) 82 h
theorem lcm_le {x y : Int} : lcm3 x y ≤ 0 ↔ x ≤ y := by
  unfold lcm3
  split
  · omega
  · split <;> omega
/- the draws by which those that don't know it come to know it, in all -/
def waS (M : MM) (kn : Int) (n i : Nat) (acc : Int) : Int := match n with
  | 0 => acc
  | n + 1 => if spV M i = true ∧ bit kn i = false then waS M kn n (i + 1) (acc + (odA kn - odW M kn i)) else waS M kn n (i + 1) acc
theorem waS_s (M : MM) (kn : Int) (n i : Nat) (acc : Int) : waS M kn (n + 1) i acc = if spV M i = true ∧ bit kn i = false then waS M kn n (i + 1) (acc + (odA kn - odW M kn i)) else waS M kn n (i + 1) acc := rfl
theorem waS_r (M : MM) (kn : Int) : ∀ (n i : Nat) (acc : Int), 0 ≤ acc → 0 ≤ waS M kn n i acc := by
  intro n
  induction n with
  | zero => intro i acc h; exact h
  | succ n ih =>
    intro i acc h
    have r := odW_r M kn i
    rw [waS_s]
    split
    · exact ih _ _ (by omega)
    · exact ih _ _ h
def waB (M : MM) (kn : Int) (n i : Nat) (best most : Int) : Int := match n with
  | 0 => best
  | n + 1 => if spV M i = true ∧ bit kn i = false then (if most < waS M (bOr kn (bShl 1 (i : Int))) 10 0 0 then waB M kn n (i + 1) (i : Int) (waS M (bOr kn (bShl 1 (i : Int))) 10 0 0) else waB M kn n (i + 1) best most) else waB M kn n (i + 1) best most
theorem waB_s (M : MM) (kn : Int) (n i : Nat) (best most : Int) : waB M kn (n + 1) i best most = if spV M i = true ∧ bit kn i = false then (if most < waS M (bOr kn (bShl 1 (i : Int))) 10 0 0 then waB M kn n (i + 1) (i : Int) (waS M (bOr kn (bShl 1 (i : Int))) 10 0 0) else waB M kn n (i + 1) best most) else waB M kn n (i + 1) best most := rfl
def waT (M : MM) (hs : Int) : Int := if 0 ≤ hs ∧ hs ≤ 1023 then waB M (bAnd hs (spB M)) 10 0 (-2) (-1) else -1
theorem waT_up {M M1 : MM} (u : UpX M M1) (hs : Int) : waT M1 hs = waT M hs := by
  have e : rmV M1 = rmV M := rmV_eq (u 81 (by decide) 19) (fun c _ _ => u.f c (by omega)) (u 82 (by decide) 34) (u.f 86 (by decide))
  have es : spV M1 = spV M := spV_eq (u.f 86 (by decide))
  have e1 : ∀ kn j, odW M1 kn j = odW M kn j := fun kn j => by
    unfold odW
    rw [e]
  have e2 : ∀ kn n i acc, waS M1 kn n i acc = waS M kn n i acc := fun kn n => by
    induction n with
    | zero => intro i acc; rfl
    | succ n ih =>
      intro i acc
      rw [waS_s, waS_s, es, e1, ih, ih]
  have e3 : ∀ kn n i b m, waB M1 kn n i b m = waB M kn n i b m := fun kn n => by
    induction n with
    | zero => intro i b m; rfl
    | succ n ih =>
      intro i b m
      rw [waB_s, waB_s, es, e2, ih, ih]
  unfold waT spB
  rw [e3, es]
section WTQ
variable {sc : List Int} {Q : Vv → MM → Prop}
set_option maxRecDepth 20000 in
theorem f_diaC {L T : Nat} (hL : L = 65 ∨ L = 73) (hT : T = 57 ∨ T = 61) {q : LC} {cl : CL} {M0 : MM} (A : ruA L T q cl M0) {kn : Int} (ho : ruO (spV M0) kn) {nt : Int} (ent : nt = M0 82 34) {M : MM} (F : lqF L M0 M) {n : Nat} (k : ∀ M1, lqF L M0 M1 → Q (vl (waS M0 kn 10 0 0)) M1) : PC sc n m_X5_drawsInAll [vr T, vr L, vi nt, vi kn] M Q := by
  have rA := odA_r kn
  have eT : M (T + 2) = M0 (T + 2) := F.1 _ (by omega) (by omega) (by omega)
  refine pc_X5_drawsInAll hT hL _ _ M fun n1 _ => f_hws hT eT fun v hv => cI_i ?_
  have hb : ∀ i, i < 10 → bit (bAnd v (bXor kn (-1))) i = (spV M0 i && !bit kn i) := fun i hi => by
    rw [bit_and, bit_not _ (by omega), hv.2 i hi]
    unfold stands spV
    rw [decide_eq_decide.mpr ((A.2.2 i hi).1)]
  have lp : ∀ (m i n : Nat) (acc : Int) (M1 : MM), i + m = 10 → lqF L M0 M1 → 0 ≤ acc → acc ≤ (i : Int) * 10000000000 → waS M0 kn 10 0 0 = waS M0 kn m i acc → PW sc n m_X5_drawsInAll 11 [] [some (vr T), some (vr L), some (vi nt), some (vi kn), some (vi (bAnd v (bXor kn (-1)))), some (vl acc), none, some (vi (i : Int))] M1 Q := by
    intro m
    induction m with
    | zero =>
      intro i n acc M1 hi F1 _ _ e
      have hi : i = 10 := hi
      subst hi
      have e : waS M0 kn 10 0 0 = acc := e
      refine pw_X5_drawsInAll_11 hT hL _ _ _ _ _ M1 fun n1 _ => brT (by decide) ?_
      rw [← e]
      exact k M1 F1
    | succ m ih =>
      intro i n acc M1 hi F1 h0 h1 e
      rw [waS_s M0 kn m i acc] at e
      have hi10 : i < 10 := by omega
      have rW := odW_r M0 kn i
      have hbi := hb i hi10
      refine pw_X5_drawsInAll_11 hT hL _ _ _ _ _ M1 fun n1 _ => brF (by omega) ?_
      rw [show w32 ((i : Int) + 1) = ((i + 1 : Nat) : Int) from ew32 (by omega) (by omega)]
      refine p_hasC (by omega) (fun b x hx => cI_i (brT hx (ih (i + 1) n1 acc M1 (by omega) F1 h0 (by omega) ?_))) fun b x hx => cI_i (brF (by omega) ?_)
      · rw [if_neg] at e
        · exact e
        · intro z
          rw [b, z.1, z.2] at hbi
          exact absurd hbi (by decide)
      · rw [b] at hbi
        have hs := (Bool.and_eq_true _ _).mp hbi.symm
        have hn : bit kn i = false := by
          cases c : bit kn i
          · rfl
          · rw [c] at hs
            exact absurd hs.2 (by decide)
        rw [if_pos ⟨hs.1, hn⟩] at e
        refine f_dtC hL hT A ho hi10 hs.1 ent F1 fun M2 F2 => cJ_l ?_
        rw [show w64 (acc + (odA kn - odW M0 kn i)) = acc + (odA kn - odW M0 kn i) from ew64 (by omega) (by omega)]
        exact ih (i + 1) n1 _ M2 (by omega) F2 (by omega) (by omega) e
  exact lp 10 0 n1 0 M rfl F (by decide) (by decide) rfl
theorem ru_set {M : MM} {kn : Int} {i : Nat} (hi : i < 10) (ho : ruO (spV M) kn) (hs : spV M i = true) : ruO (spV M) (bOr kn (bShl 1 (i : Int))) := fun j hj hb => by
  rw [bit_set hi hj] at hb
  by_cases e : j = i
  · subst e
    exact hs
  · rw [decide_eq_false e, Bool.or_false] at hb
    exact ho j hj hb
set_option maxRecDepth 20000 in
theorem f_wateredC {M0 : MM} (G : GdA M0) {hs : Int} {n : Nat} : PC sc n m_X11_watered [vr 0, vi hs] M0 (fun r _ => r = vi (waT M0 hs)) := by
  obtain ⟨T, hT, v0, v1, hr, hh, hS⟩ := G.1.tw
  obtain ⟨L, q, cl, hL, h12, R0⟩ := G.2.1
  obtain ⟨-, W, -⟩ := id G.2.2.1
  have A : ruA L T q cl M0 := ⟨R0, W.2.1.2.1, hh⟩
  have w6 : M0 46 6 = M0 82 34 := W.2.1.2.1
  have et : ((T : Int) + 1).toNat - 1 = T := by omega
  have el : ((L : Int) + 1).toNat - 1 = L := by omega
  refine pc_X11_watered _ M0 fun n1 _ => p_isIn (fun z x hx => cI_i (brF (by omega) ?_)) fun h1 x hx => cI_i (brT (by omega) ?_)
  · unfold waT
    rw [if_neg z]
  have eV : waT M0 hs = waB M0 (bAnd hs (spB M0)) 10 0 (-2) (-1) := by
    unfold waT
    rw [if_pos h1]
  rw [eV, v0, et]
  refine gMB (gMB (f_hws hT rfl fun v hv => cI_i ?_))
  have hv : v = spB M0 := spB_eq (setB_p hv fun j hj => by
    unfold stands spV
    exact decide_eq_decide.mpr (hh j hj).1)
  subst hv
  have sb := (sbV_set (p := spV M0)).2
  have sb : ∀ i, i < 10 → bit (spB M0) i = spV M0 i := sb
  have lp : ∀ (m i n : Nat) (best most : Int) (o7 o8 : Option Vv) (M : MM), i + m = 10 → lqF L M0 M → waB M0 (bAnd hs (spB M0)) 10 0 (-2) (-1) = waB M0 (bAnd hs (spB M0)) m i best most → PW sc n m_X11_watered 17 [] [some (vr 0), some (vi hs), some (vi (spB M0)), some (vi best), some (vl most), none, some (vi (i : Int)), o7, o8] M (fun r _ => r = vi (waB M0 (bAnd hs (spB M0)) 10 0 (-2) (-1))) := by
    intro m
    induction m with
    | zero =>
      intro i n best most o7 o8 M hi F e
      have hi : i = 10 := hi
      subst hi
      have e : waB M0 (bAnd hs (spB M0)) 10 0 (-2) (-1) = best := e
      exact pw_X11_watered_17 _ _ _ _ _ _ _ M fun n1 _ => brT (by decide) (by rw [e])
    | succ m ih =>
      intro i n best most o7 o8 M hi F e
      rw [waB_s _ _ m i] at e
      have hi10 : i < 10 := by omega
      have hb : bit (bAnd (spB M0) (bXor hs (-1))) i = (spV M0 i && !bit hs i) := by rw [bit_and, bit_not _ (by omega), sb i hi10]
      have hk : bit (bAnd hs (spB M0)) i = (bit hs i && spV M0 i) := by rw [bit_and, sb i hi10]
      have o : ∀ c, c ≠ L → c ≠ L + 6 → c ≠ L + 7 → M c = M0 c := F.1
      refine pw_X11_watered_17 _ _ _ _ _ _ _ M fun n1 _ => brF (by omega) ?_
      rw [show w32 ((i : Int) + 1) = ((i + 1 : Nat) : Int) from ew32 (by omega) (by omega)]
      refine p_hasC (by omega) (fun b x hx => cI_i (brT hx (ih (i + 1) n1 _ _ _ _ M (by omega) F ?_))) fun b x hx => cI_i (brF (by omega) ?_)
      · rw [if_neg] at e
        · exact e
        · intro z
          rw [b, z.1] at hb
          rw [hk, z.1, Bool.and_true] at z
          rw [z.2] at hb
          exact absurd hb (by decide)
      · rw [b] at hb
        have hs2 := (Bool.and_eq_true _ _).mp hb.symm
        have hn : bit hs i = false := by
          cases c : bit hs i
          · rfl
          · rw [c] at hs2
            exact absurd hs2.2 (by decide)
        rw [if_pos ⟨hs2.1, by rw [hk, hn]; rfl⟩] at e
        rw [o 0 (by omega) (by omega) (by omega), o 46 (by omega) (by omega) (by omega), v0, h12, et, el, w6]
        refine gMB (gMB (f_diaC hL hT A (ru_set hi10 (ru_and hs) hs2.1) rfl F fun M2 F2 => cJ_l (brP (fun c => ?_) fun c => ?_)))
        · have c := lcm_le.mp c
          rw [if_neg (by omega)] at e
          exact ih (i + 1) n1 _ _ _ _ M2 (by omega) F2 e
        · have c : ¬ _ ≤ _ := fun z => c (lcm_le.mpr z)
          rw [if_pos (by omega)] at e
          exact ih (i + 1) n1 _ _ _ _ M2 (by omega) F2 e
  exact lp 10 0 n1 (-2) (-1) none none M0 rfl ⟨fun _ _ _ _ => rfl, fun _ _ _ => rfl⟩ rfl
set_option maxRecDepth 20000 in
theorem f_wateredM {M0 : MM} (G : axG M0) {hs : Int} {n : Nat} : PC sc n m_X12_watered [vr 81, vi hs] M0 (fun r _ => r = vi (waT M0 hs)) := by
  refine pc_X12_watered _ M0 fun n1 _ => p_in (fun z x hx => cI_i (brF (by omega) ?_)) fun h1 x hx => cI_i (brT (by omega) ?_)
  · unfold waT
    rw [if_neg z]
  have eV : waT M0 hs = waB M0 (bAnd hs (spB M0)) 10 0 (-2) (-1) := by
    unfold waT
    rw [if_pos h1]
  rw [eV]
  refine f_spotsM fun v hv => cI_i ?_
  have hv : v = spB M0 := spB_eq hv
  subst hv
  have lj : ∀ (i : Nat), i < 10 → ∀ (best most th : Int), (∀ (n : Nat) (o7 o8 o9 o10 : Option Vv) (M : MM), (∀ c, c ≠ 108 → c ≠ 109 → M c = M0 c) → PW sc n m_X12_watered 18 [] [some (vr 81), some (vi hs), some (vi (bAnd hs (spB M0))), some (vi (if most < waS M0 th 10 0 0 then (i : Int) else best)), some (vl (if most < waS M0 th 10 0 0 then waS M0 th 10 0 0 else most)), none, some (vi ((i + 1 : Nat) : Int)), o7, o8, o9, o10] M (fun r _ => r = vi (waB M0 (bAnd hs (spB M0)) 10 0 (-2) (-1)))) → ∀ (m j n : Nat) (acc : Int) (M : MM), j + m = 10 → (∀ c, c ≠ 108 → c ≠ 109 → M c = M0 c) → 0 ≤ acc → acc ≤ (j : Int) * 10000000000 → waS M0 th 10 0 0 = waS M0 th m j acc → PW sc n m_X12_watered 40 [] [some (vr 81), some (vi hs), some (vi (bAnd hs (spB M0))), some (vi best), some (vl most), none, some (vi (i : Int)), some (vi th), some (vl acc), none, some (vi (j : Int))] M (fun r _ => r = vi (waB M0 (bAnd hs (spB M0)) 10 0 (-2) (-1))) := by
    intro i hi best most th kk m
    have rA := odA_r th
    induction m with
    | zero =>
      intro j n acc M hj F _ _ e
      have hj : j = 10 := hj
      subst hj
      have e : waS M0 th 10 0 0 = acc := e
      rw [e] at kk
      refine pw_X12_watered_40 _ _ _ _ _ _ _ _ M fun n1 _ => brT (by decide) ?_
      rw [show w32 ((i : Int) + 1) = ((i + 1 : Nat) : Int) from ew32 (by omega) (by omega)]
      refine brP (fun c => ?_) fun c => ?_
      · have c : most < acc := by
          rcases Int.lt_or_le most acc with z | z
          · exact z
          · have := lcm_le.mpr z
            omega
        rw [if_pos c, if_pos c] at kk
        exact kk _ _ _ _ _ M F
      · have c : ¬ most < acc := fun z => by
          have : ¬ acc ≤ most := by omega
          have : ¬ lcm3 acc most ≤ 0 := fun y => this (lcm_le.mp y)
          omega
        rw [if_neg c, if_neg c] at kk
        exact kk _ _ _ _ _ M F
    | succ m ih =>
      intro j n acc M hj F h0 h1 e
      rw [waS_s M0 th m j acc] at e
      have hj10 : j < 10 := by omega
      have rW := odW_r M0 th j
      refine pw_X12_watered_40 _ _ _ _ _ _ _ _ M fun n1 _ => brF (by omega) ?_
      rw [show w32 ((j : Int) + 1) = ((j + 1 : Nat) : Int) from ew32 (by omega) (by omega)]
      have e86 : M 86 = M0 86 := F 86 (by decide) (by decide)
      have sj : ((0 ≤ (j : Int) ∧ (j : Int) ≤ 9) ∧ 0 ≤ M 86 ((j : Int)).toNat) ↔ spV M0 j = true := by
        rw [e86, show ((j : Int)).toNat = j by omega]
        exact ⟨fun z => decide_eq_true z.2, fun z => ⟨by omega, of_decide_eq_true z⟩⟩
      refine f_hasSpotM (fun hn x hx => cI_i (brT hx (ih (j + 1) n1 acc M (by omega) F h0 (by omega) ?_))) fun hs2 x hx => cI_i (brF (by omega) (p_has (by omega) (fun b x hx => cI_i (brF (by omega) ?_)) fun b x hx => cI_i (brT (by omega) (ih (j + 1) n1 acc M (by omega) F h0 (by omega) ?_))))
      · rw [if_neg fun z => hn (sj.mpr z.1)] at e
        exact e
      · rw [if_pos ⟨sj.mp hs2, b⟩] at e
        refine PC.of (s_bits (d := 1) (cI_i (f_tensOf (cJ_l (f_woM (lwJ.of G) hj10 F fun M2 F2 => cJ_l ?_)))))
        rw [show w64 (acc + odA th) = acc + odA th from ew64 (by omega) (by omega), show w64 (acc + odA th - odW M0 th j) = acc + (odA th - odW M0 th j) by rw [ew64 (by omega) (by omega)]; omega]
        exact ih (j + 1) n1 _ M2 (by omega) F2 (by omega) (by omega) e
      · rw [if_neg fun z => absurd (b.symm.trans z.2) (by decide)] at e
        exact e
  have lp : ∀ (m i n : Nat) (best most : Int) (o7 o8 o9 o10 : Option Vv) (M : MM), i + m = 10 → (∀ c, c ≠ 108 → c ≠ 109 → M c = M0 c) → waB M0 (bAnd hs (spB M0)) 10 0 (-2) (-1) = waB M0 (bAnd hs (spB M0)) m i best most → PW sc n m_X12_watered 18 [] [some (vr 81), some (vi hs), some (vi (bAnd hs (spB M0))), some (vi best), some (vl most), none, some (vi (i : Int)), o7, o8, o9, o10] M (fun r _ => r = vi (waB M0 (bAnd hs (spB M0)) 10 0 (-2) (-1))) := by
    intro m
    induction m with
    | zero =>
      intro i n best most o7 o8 o9 o10 M hi F e
      have hi : i = 10 := hi
      subst hi
      have e : waB M0 (bAnd hs (spB M0)) 10 0 (-2) (-1) = best := e
      exact pw_X12_watered_18 _ _ _ _ _ _ _ _ _ M fun n1 _ => brT (by decide) (by rw [e])
    | succ m ih =>
      intro i n best most o7 o8 o9 o10 M hi F e
      rw [waB_s _ _ m i] at e
      have hi10 : i < 10 := by omega
      refine pw_X12_watered_18 _ _ _ _ _ _ _ _ _ M fun n1 _ => brF (by omega) ?_
      rw [show w32 ((i : Int) + 1) = ((i + 1 : Nat) : Int) from ew32 (by omega) (by omega)]
      have e86 : M 86 = M0 86 := F 86 (by decide) (by decide)
      have si : ((0 ≤ (i : Int) ∧ (i : Int) ≤ 9) ∧ 0 ≤ M 86 ((i : Int)).toNat) ↔ spV M0 i = true := by
        rw [e86, show ((i : Int)).toNat = i by omega]
        exact ⟨fun z => decide_eq_true z.2, fun z => ⟨by omega, of_decide_eq_true z⟩⟩
      refine f_hasSpotM (fun hn x hx => cI_i (brT hx (ih (i + 1) n1 _ _ _ _ _ _ M (by omega) F ?_))) fun hs2 x hx => cI_i (brF (by omega) (p_has (by omega) (fun b x hx => cI_i (brT hx (lj i hi10 best most _ (fun n o7 o8 o9 o10 M2 F2 => ih (i + 1) n _ _ _ _ _ _ M2 (by omega) F2 ?_) 10 0 n1 0 M rfl F (by decide) (by decide) rfl))) fun b x hx => cI_i (brF (by omega) (ih (i + 1) n1 _ _ _ _ _ _ M (by omega) F ?_))))
      · rw [if_neg fun z => hn (si.mpr z.1)] at e
        exact e
      · rw [if_pos ⟨si.mp hs2, b⟩] at e
        rw [e]
        by_cases c : most < waS M0 (bOr (bAnd hs (spB M0)) (bShl 1 (i : Int))) 10 0 0
        · rw [if_pos c, if_pos c, if_pos c]
        · rw [if_neg c, if_neg c, if_neg c]
      · rw [if_neg fun z => absurd (b.symm.trans z.2) (by decide)] at e
        exact e
  exact lp 10 0 n1 (-2) (-1) none none none none M0 rfl (fun _ _ _ => rfl) rfl
theorem csQ_watered {M : MM} {hs : Int} (i0 : in32 hs) (G : GdA M) : CA FF sc YF 59 m_X11_watered [vr 0, vi hs] M (fun r M1 => ∃ x, r = vi x ∧ GdA M1 ∧ x = waT M1 hs) := csV G (by decide +kernel) (cf_watered i0 G.1.1) (V := fun M => waT M hs) (fun n => f_wateredC G) fun M1 u => waT_up u hs
theorem msQ_watered {M : MM} {hs x : Int} (i0 : in32 hs) (G : GdA M ∧ x = waT M hs) : CA FF sc YF 59 m_X12_watered [vr 81, vi hs] M (fun r M1 => ∃ y, r = vi y ∧ GdA M1 ∧ y = x) := msV (V := fun M => waT M hs) G (by decide +kernel) (mf_watered i0 G.1.1.1) fun n => f_wateredM G.1.1.1
end WTQ
