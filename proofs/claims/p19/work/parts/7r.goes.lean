/-! PART 7r: goes of both sides -/
theorem pc_X11_goes {sc : List Int} {n : Nat} {Q : Vv → MM → Prop} (v1 : Int) (v2 : Int) (M : MM) (h : ∀ n1, n1 < n → PC sc n1 m_X11_isIn [vi v1, vi 0, vi 1023] M (cI fun r2 M1 =>
  brA (decide (r2 = 0))
   (Q (vi ((-1))) M1)
   (PC sc n1 m_X11_isIn [vi v2, vi 1, vi 20] M1 (cI fun r4 M3 =>
    brA (decide (r4 ≠ 0))
     (gIm (decide (0 < M3 0 10)) (gIm (kd YF ((M3 0 10).toNat - 1) == 18) (PC sc n1 m_X9_housesWithSpots [vr ((M3 0 10).toNat - 1)] M3 (cI fun r6 M5 =>
      PW sc n1 m_X11_goes 20 [] [some (vr 0), some (vi v1), some (vi v2), some (vi (bAnd v1 r6)), some (vi 0)] M5 Q))))
     (Q (vi ((-1))) M3))))) : PC sc n m_X11_goes [vr 0, vi v1, vi v2] M Q := pc_go rfl (fun j => Nat.beq j 20) 41 h
theorem pw_X11_goes_20 {sc : List Int} {n : Nat} {Q : Vv → MM → Prop} (v1 : Int) (v2 : Int) (v3 : Int) (v4 : Int) (M : MM) (h : ∀ n1, n1 < n → brA (decide (v2 ≤ v4))
  (Q (vi v3) M)
  (gIm (decide (0 < M 0 10)) (gIm (decide (0 < M 0 12)) (PC sc n1 m_X5_pass [vr ((M 0 10).toNat - 1), vr ((M 0 12).toNat - 1), vr 46, vi v3] M (cI fun r2 M1 =>
   PW sc n1 m_X11_goes 20 [] [some (vr 0), some (vi v1), some (vi v2), some (vi r2), some (vi (w32 (v4 + 1)))] M1 Q))))) : PW sc n m_X11_goes 20 [] [some (vr 0), some (vi v1), some (vi v2), some (vi v3), some (vi v4)] M Q := pw_go rfl (fun j => Nat.beq j 20) 41 h
theorem pc_X5_pass {sc : List Int} {n : Nat} {T : Nat} (hT : T = 57 ∨ T = 61) {L : Nat} (hL : L = 65 ∨ L = 73) {Q : Vv → MM → Prop} (v0 : Nat) (v2 : Nat) (v3 : Int) (M : MM) (h : ∀ n1, n1 < n → gIm (kd YF v0 == 18) (PC sc n1 m_X9_housesWithSpots [vr v0] M (cI fun r2 M1 =>
  PW sc n1 m_X5_pass 11 [] [some (vr v0), some (vr L), some (vr v2), some (vi v3), some (vi v3), some (vi (bAnd r2 (bXor v3 ((-1))))), some (vi 0), none] M1 Q))) : PC sc n m_X5_pass [vr v0, vr L, vr v2, vi v3] M Q := by
  rcases hT with rfl | rfl <;> rcases hL with rfl | rfl <;> exact pc_go rfl (fun j => Nat.beq j 11 || Nat.beq j 16) 54 h
theorem pw_X5_pass_11 {sc : List Int} {n : Nat} {T : Nat} (hT : T = 57 ∨ T = 61) {L : Nat} (hL : L = 65 ∨ L = 73) {Q : Vv → MM → Prop} (v0 : Nat) (v2 : Nat) (v3 : Int) (v4 : Int) (v5 : Int) (v6 : Int) (o7 : Option Vv) (M : MM) (h : ∀ n1, n1 < n → brA (decide (10 ≤ v6))
  (Q (vi v4) M)
  (PW sc n1 m_X5_pass 16 [] [some (vr v0), some (vr L), some (vr v2), some (vi v3), some (vi v4), some (vi v5), some (vi v6), some (vi 0)] M Q)) : PW sc n m_X5_pass 11 [] [some (vr v0), some (vr L), some (vr v2), some (vi v3), some (vi v4), some (vi v5), some (vi v6), o7] M Q := by
  rcases hT with rfl | rfl <;> rcases hL with rfl | rfl <;> exact pw_go rfl (fun j => Nat.beq j 11 || Nat.beq j 16) 54 h
theorem pw_X5_pass_16 {sc : List Int} {n : Nat} {T : Nat} (hT : T = 57 ∨ T = 61) {L : Nat} (hL : L = 65 ∨ L = 73) {Q : Vv → MM → Prop} (v0 : Nat) (v2 : Nat) (v3 : Int) (v4 : Int) (v5 : Int) (v6 : Int) (v7 : Int) (M : MM) (h : ∀ n1, n1 < n → brA (decide (10 ≤ v7))
  (PW sc n1 m_X5_pass 11 [] [some (vr v0), some (vr L), some (vr v2), some (vi v3), some (vi v4), some (vi v5), some (vi (w32 (v6 + 1))), some (vi v7)] M Q)
  (PC sc n1 m_X11_hasBit [vi v3, vi v6] M (cI fun r2 M1 =>
   brA (decide (r2 = 0))
    (PW sc n1 m_X5_pass 16 [] [some (vr v0), some (vr L), some (vr v2), some (vi v3), some (vi v4), some (vi v5), some (vi v6), some (vi (w32 (v7 + 1)))] M1 Q)
    (PC sc n1 m_X11_hasBit [vi v5, vi v7] M1 (cI fun r4 M3 =>
     brA (decide (r4 = 0))
      (PW sc n1 m_X5_pass 16 [] [some (vr v0), some (vr L), some (vr v2), some (vi v3), some (vi v4), some (vi v5), some (vi v6), some (vi (w32 (v7 + 1)))] M3 Q)
      (gIm (kd YF v2 == 17) (PC sc n1 m_X8_draw [vr v2] M3 (cI fun r6 M5 =>
       gIm (kd YF v2 == 17) (PC sc n1 m_X0_tenths [vr L, vr v0, vi (M5 v2 6), vi v6, vi v7] M5 (cI fun r8 M7 =>
        brA (decide (r8 ≤ r6))
         (PW sc n1 m_X5_pass 16 [] [some (vr v0), some (vr L), some (vr v2), some (vi v3), some (vi v4), some (vi v5), some (vi v6), some (vi (w32 (v7 + 1)))] M7 Q)
         (PW sc n1 m_X5_pass 16 [] [some (vr v0), some (vr L), some (vr v2), some (vi v3), some (vi (bOr v4 (bShl 1 v7))), some (vi v5), some (vi v6), some (vi (w32 (v7 + 1)))] M7 Q))))))))))) : PW sc n m_X5_pass 16 [] [some (vr v0), some (vr L), some (vr v2), some (vi v3), some (vi v4), some (vi v5), some (vi v6), some (vi v7)] M Q := by
  rcases hT with rfl | rfl <;> rcases hL with rfl | rfl <;> exact pw_go rfl (fun j => Nat.beq j 11 || Nat.beq j 16) 54 h
theorem pc_X8_draw {sc : List Int} {n : Nat} {Q : Vv → MM → Prop}  (M : MM) (h : ∀ n1, n1 < n → Q (vi (Int.tmod (Int.tmod (w32 ((w32 (25173 * (M 46 7))) + 13849)) 65536) 10)) (stM M 46 7 (Int.tmod (w32 ((w32 (25173 * (M 46 7))) + 13849)) 65536))) : PC sc n m_X8_draw [vr 46] M Q := pc_go rfl (fun j => false) 20 h
theorem pc_X12_goes {sc : List Int} {n : Nat} {Q : Vv → MM → Prop} (v1 : Int) (v2 : Int) (M : MM) (h : ∀ n1, n1 < n → PC sc n1 m_X12_in [vi v1, vi 0, vi 1023] M (cI fun r2 M1 =>
  brA (decide (r2 = 0))
   (Q (vi ((-1))) M1)
   (PC sc n1 m_X12_in [vi v2, vi 1, vi 20] M1 (cI fun r4 M3 =>
    brA (decide (r4 ≠ 0))
     (PC sc n1 m_X12_spotsSet [vr 81] M3 (cI fun r6 M5 =>
      PW sc n1 m_X12_goes 19 [] [some (vr 81), some (vi v1), some (vi v2), some (vi (bAnd v1 r6)), some (vi 0), none, none, none] M5 Q))
     (Q (vi ((-1))) M3))))) : PC sc n m_X12_goes [vr 81, vi v1, vi v2] M Q := pc_go rfl (fun j => Nat.beq j 19 || Nat.beq j 26 || Nat.beq j 36) 75 h
theorem pw_X12_goes_19 {sc : List Int} {n : Nat} {Q : Vv → MM → Prop} (v1 : Int) (v2 : Int) (v3 : Int) (v4 : Int) (o5 : Option Vv) (o6 : Option Vv) (o7 : Option Vv) (M : MM) (h : ∀ n1, n1 < n → brA (decide (v2 ≤ v4))
  (Q (vi v3) M)
  (PW sc n1 m_X12_goes 26 [] [some (vr 81), some (vi v1), some (vi v2), some (vi v3), some (vi v4), some (vi v3), some (vi 0), o7] M Q)) : PW sc n m_X12_goes 19 [] [some (vr 81), some (vi v1), some (vi v2), some (vi v3), some (vi v4), o5, o6, o7] M Q := pw_go rfl (fun j => Nat.beq j 19 || Nat.beq j 26 || Nat.beq j 36) 75 h
theorem pw_X12_goes_26 {sc : List Int} {n : Nat} {Q : Vv → MM → Prop} (v1 : Int) (v2 : Int) (v3 : Int) (v4 : Int) (v5 : Int) (v6 : Int) (o7 : Option Vv) (M : MM) (h : ∀ n1, n1 < n → brA (decide (10 ≤ v6))
  (PW sc n1 m_X12_goes 19 [] [some (vr 81), some (vi v1), some (vi v2), some (vi v5), some (vi (w32 (v4 + 1))), some (vi v5), some (vi v6), o7] M Q)
  (PC sc n1 m_X12_has [vi v3, vi v6] M (cI fun r2 M1 =>
   brA (decide (r2 ≠ 0))
    (PW sc n1 m_X12_goes 36 [] [some (vr 81), some (vi v1), some (vi v2), some (vi v3), some (vi v4), some (vi v5), some (vi v6), some (vi 0)] M1 Q)
    (PW sc n1 m_X12_goes 26 [] [some (vr 81), some (vi v1), some (vi v2), some (vi v3), some (vi v4), some (vi v5), some (vi (w32 (v6 + 1))), o7] M1 Q)))) : PW sc n m_X12_goes 26 [] [some (vr 81), some (vi v1), some (vi v2), some (vi v3), some (vi v4), some (vi v5), some (vi v6), o7] M Q := pw_go rfl (fun j => Nat.beq j 19 || Nat.beq j 26 || Nat.beq j 36) 75 h
theorem pw_X12_goes_36 {sc : List Int} {n : Nat} {Q : Vv → MM → Prop} (v1 : Int) (v2 : Int) (v3 : Int) (v4 : Int) (v5 : Int) (v6 : Int) (v7 : Int) (M : MM) (h : ∀ n1, n1 < n → brA (decide (10 ≤ v7))
  (PW sc n1 m_X12_goes 26 [] [some (vr 81), some (vi v1), some (vi v2), some (vi v3), some (vi v4), some (vi v5), some (vi (w32 (v6 + 1))), some (vi v7)] M Q)
  (PC sc n1 m_X12_hasSpot [vr 81, vi v7] M (cI fun r2 M1 =>
   brA (decide (r2 = 0))
    (PW sc n1 m_X12_goes 36 [] [some (vr 81), some (vi v1), some (vi v2), some (vi v3), some (vi v4), some (vi v5), some (vi v6), some (vi (w32 (v7 + 1)))] M1 Q)
    (PC sc n1 m_X12_has [vi v3, vi v7] M1 (cI fun r4 M3 =>
     brA (decide (r4 ≠ 0))
      (PW sc n1 m_X12_goes 36 [] [some (vr 81), some (vi v1), some (vi v2), some (vi v3), some (vi v4), some (vi v5), some (vi v6), some (vi (w32 (v7 + 1)))] M3 Q)
      (PC sc n1 m_X12_draws [vr 81] M3 (cI fun r6 M5 =>
       PC sc n1 m_X12_rumourOf [vr 81, vi v6, vi v7] M5 (cI fun r8 M7 =>
        brA (decide (r8 ≤ r6))
         (PW sc n1 m_X12_goes 36 [] [some (vr 81), some (vi v1), some (vi v2), some (vi v3), some (vi v4), some (vi v5), some (vi v6), some (vi (w32 (v7 + 1)))] M7 Q)
         (PW sc n1 m_X12_goes 36 [] [some (vr 81), some (vi v1), some (vi v2), some (vi v3), some (vi v4), some (vi (bOr v5 (bShl 1 v7))), some (vi v6), some (vi (w32 (v7 + 1)))] M7 Q))))))))) : PW sc n m_X12_goes 36 [] [some (vr 81), some (vi v1), some (vi v2), some (vi v3), some (vi v4), some (vi v5), some (vi v6), some (vi v7)] M Q := pw_go rfl (fun j => Nat.beq j 19 || Nat.beq j 26 || Nat.beq j 36) 75 h
theorem pc_X12_draws {sc : List Int} {n : Nat} {Q : Vv → MM → Prop}  (M : MM) (h : ∀ n1, n1 < n → Q (vi (Int.tmod (Int.tmod (w32 ((w32 (25173 * (M 82 35))) + 13849)) 65536) 10)) (stM M 82 35 (Int.tmod (w32 ((w32 (25173 * (M 82 35))) + 13849)) 65536))) : PC sc n m_X12_draws [vr 81] M Q := pc_go rfl (fun j => false) 26 h
theorem pc_X12_spotsSet {sc : List Int} {n : Nat} {Q : Vv → MM → Prop}  (M : MM) (h : ∀ n1, n1 < n → PW sc n1 m_X12_spotsSet 4 [] [some (vr 81), some (vi 0), some (vi 0)] M Q) : PC sc n m_X12_spotsSet [vr 81] M Q := pc_go rfl (fun j => Nat.beq j 4) 28 h
theorem pw_X12_spotsSet_4 {sc : List Int} {n : Nat} {Q : Vv → MM → Prop} (v1 : Int) (v2 : Int) (M : MM) (h : ∀ n1, n1 < n → brA (decide (10 ≤ v2))
  (Q (vi v1) M)
  (PC sc n1 m_X12_hasSpot [vr 81, vi v2] M (cI fun r2 M1 =>
   brA (decide (r2 = 0))
    (PW sc n1 m_X12_spotsSet 4 [] [some (vr 81), some (vi (bOr v1 0)), some (vi (w32 (v2 + 1)))] M1 Q)
    (PW sc n1 m_X12_spotsSet 4 [] [some (vr 81), some (vi (bOr v1 (bShl 1 v2))), some (vi (w32 (v2 + 1)))] M1 Q)))) : PW sc n m_X12_spotsSet 4 [] [some (vr 81), some (vi v1), some (vi v2)] M Q := pw_go rfl (fun j => Nat.beq j 4) 28 h
def lotV (x : Int) : Int := Int.tmod (w32 (w32 (25173 * x) + 13849)) 65536
/- how a rumour goes: one pair of houses, a house, a day, days -/
def ruS (sp : Nat → Bool) (rum : Nat → Nat → Int) (kn : Int) (h j : Nat) (st : Int × Int) : Int × Int := if bit kn h = true ∧ sp j = true ∧ bit kn j = false then (if Int.tmod (lotV st.2) 10 < rum h j then bOr st.1 (bShl 1 (j : Int)) else st.1, lotV st.2) else st
def ruJ (sp : Nat → Bool) (rum : Nat → Nat → Int) (kn : Int) (h n : Nat) (st : Int × Int) : Int × Int := match n with
  | 0 => st
  | n + 1 => ruS sp rum kn h n (ruJ sp rum kn h n st)
def ruH (sp : Nat → Bool) (rum : Nat → Nat → Int) (kn : Int) (n : Nat) (st : Int × Int) : Int × Int := match n with
  | 0 => st
  | n + 1 => ruJ sp rum kn n 10 (ruH sp rum kn n st)
def ruD (sp : Nat → Bool) (rum : Nat → Nat → Int) (n : Nat) (st : Int × Int) : Int × Int := match n with
  | 0 => st
  | n + 1 => ruH sp rum (ruD sp rum n st).1 10 (ruD sp rum n st)
theorem ruJ_s (sp : Nat → Bool) (rum : Nat → Nat → Int) (kn : Int) (h n : Nat) (st : Int × Int) : ruJ sp rum kn h (n + 1) st = ruS sp rum kn h n (ruJ sp rum kn h n st) := rfl
theorem ruH_s (sp : Nat → Bool) (rum : Nat → Nat → Int) (kn : Int) (n : Nat) (st : Int × Int) : ruH sp rum kn (n + 1) st = ruJ sp rum kn n 10 (ruH sp rum kn n st) := rfl
theorem ruD_s (sp : Nat → Bool) (rum : Nat → Nat → Int) (n : Nat) (st : Int × Int) : ruD sp rum (n + 1) st = ruH sp rum (ruD sp rum n st).1 10 (ruD sp rum n st) := rfl
theorem ruJ_no {sp : Nat → Bool} {rum : Nat → Nat → Int} {kn : Int} {h : Nat} (hb : bit kn h = false) (st : Int × Int) : ∀ n, ruJ sp rum kn h n st = st
  | 0 => rfl
  | n + 1 => by
    rw [ruJ_s, ruJ_no hb st n]
    unfold ruS
    rw [if_neg fun z => absurd (hb.symm.trans z.1) (by decide)]
/- only houses with spots know it -/
def ruO (sp : Nat → Bool) (v : Int) : Prop := ∀ i, i < 10 → bit v i = true → sp i = true
theorem ruS_o {sp : Nat → Bool} {rum : Nat → Nat → Int} {kn : Int} {h j : Nat} {st : Int × Int} (hj : j < 10) (ho : ruO sp st.1) : ruO sp (ruS sp rum kn h j st).1 := by
  unfold ruS
  split
  · rename_i c
    show ruO sp (if _ then _ else _)
    split
    · intro i hi hb
      rw [bit_set hj hi] at hb
      by_cases e : i = j
      · subst e
        exact c.2.1
      · rw [decide_eq_false e, Bool.or_false] at hb
        exact ho i hi hb
    · exact ho
  · exact ho
theorem ruJ_o {sp : Nat → Bool} {rum : Nat → Nat → Int} {kn : Int} {h : Nat} {st : Int × Int} (ho : ruO sp st.1) : ∀ n, n ≤ 10 → ruO sp (ruJ sp rum kn h n st).1
  | 0, _ => ho
  | n + 1, hn => ruS_o (by omega) (ruJ_o ho n (by omega))
theorem ruH_o {sp : Nat → Bool} {rum : Nat → Nat → Int} {kn : Int} {st : Int × Int} (ho : ruO sp st.1) : ∀ n, ruO sp (ruH sp rum kn n st).1
  | 0 => ho
  | n + 1 => ruJ_o (ruH_o ho n) 10 (by decide)
theorem ruD_o {sp : Nat → Bool} {rum : Nat → Nat → Int} {st : Int × Int} (ho : ruO sp st.1) : ∀ n, ruO sp (ruD sp rum n st).1
  | 0 => ho
  | n + 1 => ruH_o (ruD_o ho n) 10
/- the tenths of a rumour, and who has a spot, by what the reference holds -/
def rmV (M : MM) (h j : Nat) : Int := bl M (Frm h (M 82 34) j (faO (M 86 h) (M 86 j))) 114 10
def spV (M : MM) (j : Nat) : Bool := decide (0 ≤ M 86 j)
section GOC
variable {sc : List Int} {Q : Vv → MM → Prop} {L T : Nat}
/- what a rumour leaves as it was, class -/
def gcF (L : Nat) (M0 M : MM) : Prop := (∀ c, c ≠ 46 → c ≠ L → c ≠ L + 6 → c ≠ L + 7 → M c = M0 c) ∧ (∀ j, j ≠ 9 → j ≠ 10 → M L j = M0 L j) ∧ ∀ j, j ≠ 7 → M 46 j = M0 46 j
theorem gcF.rf {M : MM} : gcF L M M := ⟨fun _ _ _ _ _ => rfl, fun _ _ _ => rfl, fun _ _ => rfl⟩
/- what the class goes by -/
def ruA (L T : Nat) (q : LC) (cl : CL) (M0 : MM) : Prop := rL1 M0 L q cl ∧ M0 46 6 = M0 82 34 ∧ ∀ g, g < 10 → (0 ≤ M0 86 g ↔ M0 (T + 2) g ≠ -1) ∧ (M0 (T + 2) g ≠ -1 → M0 (T + 2) g = M0 86 g)
theorem gcF.R (hL : L = 65 ∨ L = 73) {M0 M : MM} {q : LC} {cl : CL} (f : gcF L M0 M) (R : rL1 M0 L q cl) : rL1 M L q cl := R.eq (f.2.1 0 (by decide) (by decide)) (f.2.1 6 (by decide) (by decide)) (fun c c1 c2 j _ => by rw [f.1 c (by omega) (by omega) (by omega) (by omega)]) (by rw [f.1 81 (by decide) (by omega) (by omega) (by omega)]) fun c c1 c2 j => by rw [f.1 c (by omega) (by omega) (by omega) (by omega)]
set_option maxRecDepth 20000 in
theorem f_ruC (hL : L = 65 ∨ L = 73) (hT : T = 57 ∨ T = 61) {q : LC} {cl : CL} {M0 : MM} (A : ruA L T q cl M0) {kn : Int} (ho : ruO (spV M0) kn) {M : MM} (F : gcF L M0 M) {n : Nat} (k : ∀ M1, gcF L M0 M1 → M1 46 7 = (ruH (spV M0) (rmV M0) kn 10 (kn, M 46 7)).2 → Q (vi (ruH (spV M0) (rmV M0) kn 10 (kn, M 46 7)).1) M1) : PC sc n m_X5_pass [vr T, vr L, vr 46, vi kn] M Q := by
  obtain ⟨R0, e34, eh⟩ := A
  have eT : M (T + 2) = M0 (T + 2) := F.1 _ (by omega) (by omega) (by omega) (by omega)
  refine pc_X5_pass hT hL _ _ _ M fun n1 _ => gMB (f_hws hT eT fun r hr => cI_i ?_)
  have hob : ∀ j, j < 10 → bit (bAnd r (bXor kn (-1))) j = (spV M0 j && !bit kn j) := fun j hj => by
    rw [bit_and, bit_not _ (by omega), hr.2 j hj]
    unfold stands spV
    rw [decide_eq_decide.mpr ((eh j hj).1)]
  have lj : ∀ (h : Nat), h < 10 → ∀ st : Int × Int, (∀ (n : Nat) (o7 : Option Vv) (M1 : MM), gcF L M0 M1 → M1 46 7 = (ruJ (spV M0) (rmV M0) kn h 10 st).2 → PW sc n m_X5_pass 11 [] [some (vr T), some (vr L), some (vr 46), some (vi kn), some (vi (ruJ (spV M0) (rmV M0) kn h 10 st).1), some (vi (bAnd r (bXor kn (-1)))), some (vi ((h + 1 : Nat) : Int)), o7] M1 Q) → ∀ (m j n : Nat) (M1 : MM), j + m = 10 → gcF L M0 M1 → M1 46 7 = (ruJ (spV M0) (rmV M0) kn h j st).2 → PW sc n m_X5_pass 16 [] [some (vr T), some (vr L), some (vr 46), some (vi kn), some (vi (ruJ (spV M0) (rmV M0) kn h j st).1), some (vi (bAnd r (bXor kn (-1)))), some (vi (h : Int)), some (vi (j : Int))] M1 Q := by
    intro h hh st kk m
    induction m with
    | zero =>
      intro j n M1 hi F1 e7
      have hi : j = 10 := hi
      subst hi
      refine pw_X5_pass_16 hT hL _ _ _ _ _ _ _ M1 fun n1 _ => brT (by decide) ?_
      rw [show w32 ((h : Int) + 1) = ((h + 1 : Nat) : Int) from ew32 (by omega) (by omega)]
      exact kk _ _ M1 F1 e7
    | succ m ih =>
      intro j n M1 hi F1 e7
      have hj : j < 10 := by omega
      obtain ⟨s1, hs1⟩ : ∃ s, s = ruJ (spV M0) (rmV M0) kn h j st := ⟨_, rfl⟩
      have ih2 : ∀ (n : Nat) (M1 : MM) (s2 : Int × Int), s2 = ruS (spV M0) (rmV M0) kn h j s1 → gcF L M0 M1 → M1 46 7 = s2.2 → PW sc n m_X5_pass 16 [] [some (vr T), some (vr L), some (vr 46), some (vi kn), some (vi s2.1), some (vi (bAnd r (bXor kn (-1)))), some (vi (h : Int)), some (vi ((j + 1 : Nat) : Int))] M1 Q := fun n M1 s2 e2 F1 e7 => by
        rw [e2, hs1, ← ruJ_s] at e7 ⊢
        exact ih (j + 1) n M1 (by omega) F1 e7
      rw [← hs1] at e7 ⊢
      clear ih hs1
      refine pw_X5_pass_16 hT hL _ _ _ _ _ _ _ M1 fun n1 _ => brF (by omega) ?_
      rw [show w32 ((j : Int) + 1) = ((j + 1 : Nat) : Int) from ew32 (by omega) (by omega)]
      refine p_hasC (by omega) (fun b1 x hx => cI_i (brT hx (ih2 n1 M1 s1 ?_ F1 e7))) fun b1 x hx => cI_i (brF (by omega) (p_hasC (by omega) (fun b2 x hx => cI_i (brT hx (ih2 n1 M1 s1 ?_ F1 e7))) fun b2 x hx => cI_i (brF (by omega) (gMB (pc_X8_draw M1 fun n2 _ => cI_i (gMB ?_))))))
      · unfold ruS
        rw [if_neg fun z => absurd (b1.symm.trans z.1) (by decide)]
      · rw [hob j hj] at b2
        unfold ruS
        rw [if_neg]
        intro z
        rw [z.2.1, z.2.2] at b2
        exact absurd b2 (by decide)
      rw [hob j hj, Bool.and_eq_true, Bool.not_eq_true'] at b2
      have s2 : ruS (spV M0) (rmV M0) kn h j s1 = (if Int.tmod (lotV s1.2) 10 < rmV M0 h j then bOr s1.1 (bShl 1 (j : Int)) else s1.1, lotV s1.2) := by
        unfold ruS
        rw [if_pos ⟨b1, b2.1, b2.2⟩]
      rw [s2] at ih2
      rw [e7]
      have F2 : gcF L M0 (stM M1 46 7 (lotV s1.2)) := ⟨fun c c1 c2 c3 c4 => (stK c1).trans (F1.1 c c1 c2 c3 c4), fun i i1 i2 => by rw [stK (by omega)]; exact F1.2.1 i i1 i2, fun i hi => (stO hi).trans (F1.2.2 i hi)⟩
      show PC sc n1 m_X0_tenths [vr L, vr T, vi (stM M1 46 7 (lotV s1.2) 46 6), vi (h : Int), vi (j : Int)] (stM M1 46 7 (lotV s1.2)) _
      refine f_tenthsC hL hT (F2.R hL R0) ⟨fun _ _ _ _ => rfl, fun _ _ _ => rfl⟩ hh hj fun M3 f3 => cI_i ?_
      have hk := ho h hh b1
      have ev : bl (stM M1 46 7 (lotV s1.2)) (Frm h (stM M1 46 7 (lotV s1.2) 46 6) j (faO (stM M1 46 7 (lotV s1.2) (T + 2) h) (stM M1 46 7 (lotV s1.2) (T + 2) j))) 114 10 = rmV M0 h j := by
        rw [bl_eq (M := M0) (by rw [F2.1 81 (by decide) (by omega) (by omega) (by omega)]) (fun c c1 c2 => F2.1 c (by omega) (by omega) (by omega) (by omega)), F2.2.2 6 (by decide), F2.1 (T + 2) (by omega) (by omega) (by omega) (by omega), e34, (eh h hh).2 ((eh h hh).1.mp (of_decide_eq_true hk)), (eh j hj).2 ((eh j hj).1.mp (of_decide_eq_true b2.1))]
        rfl
      rw [ev]
      have F3 : gcF L M0 M3 := ⟨fun c c1 c2 c3 c4 => (f3.1 c c2 c3 c4).trans (F2.1 c c1 c2 c3 c4), fun i i1 i2 => (f3.2 i i1 i2).trans (F2.2.1 i i1 i2), fun i hi => by rw [f3.1 46 (by omega) (by omega) (by omega)]; exact F2.2.2 i hi⟩
      have e3 : M3 46 7 = lotV s1.2 := by
        rw [f3.1 46 (by omega) (by omega) (by omega)]
        exact stE
      refine brP (fun hle => ih2 n1 M3 (s1.1, lotV s1.2) ?_ F3 e3) fun hgt => ih2 n1 M3 (bOr s1.1 (bShl 1 (j : Int)), lotV s1.2) ?_ F3 e3
      · rw [if_neg (by
          have hle : rmV M0 h j ≤ Int.tmod (lotV s1.2) 10 := hle
          omega)]
      · rw [if_pos (by
          have hgt : ¬ rmV M0 h j ≤ Int.tmod (lotV s1.2) 10 := hgt
          omega)]
  have lh : ∀ (m h n : Nat) (o7 : Option Vv) (M1 : MM), h + m = 10 → gcF L M0 M1 → M1 46 7 = (ruH (spV M0) (rmV M0) kn h (kn, M 46 7)).2 → PW sc n m_X5_pass 11 [] [some (vr T), some (vr L), some (vr 46), some (vi kn), some (vi (ruH (spV M0) (rmV M0) kn h (kn, M 46 7)).1), some (vi (bAnd r (bXor kn (-1)))), some (vi (h : Int)), o7] M1 Q := by
    intro m
    induction m with
    | zero =>
      intro h n o7 M1 hi F1 e7
      have hi : h = 10 := hi
      subst hi
      exact pw_X5_pass_11 hT hL _ _ _ _ _ _ _ M1 fun n1 _ => brT (by decide) (k M1 F1 e7)
    | succ m ih =>
      intro h n o7 M1 hi F1 e7
      exact pw_X5_pass_11 hT hL _ _ _ _ _ _ _ M1 fun n1 _ => brF (by omega) (lj h (by omega) (ruH (spV M0) (rmV M0) kn h (kn, M 46 7)) (fun n o7 M2 F2 e2 => ih (h + 1) n o7 M2 (by omega) F2 e2) 10 0 n1 M1 rfl F1 e7)
  exact lh 10 0 n1 none M rfl F rfl
abbrev gsOk (hs n : Int) : Prop := (0 ≤ hs ∧ hs ≤ 1023) ∧ (1 ≤ n ∧ n ≤ 20)
set_option maxRecDepth 20000 in
theorem f_goesC (hL : L = 65 ∨ L = 73) (hT : T = 57 ∨ T = 61) {q : LC} {cl : CL} {M0 : MM} (A : ruA L T q cl M0) (e10 : M0 0 10 = (T : Int) + 1) (e12 : M0 0 12 = (L : Int) + 1) {hs nn : Int} {n : Nat} (k0 : ¬ gsOk hs nn → Q (vi (-1)) M0) (k1 : gsOk hs nn → ∀ v, setB v (spV M0) → ∀ M1, gcF L M0 M1 → M1 46 7 = (ruD (spV M0) (rmV M0) nn.toNat (bAnd hs v, M0 46 7)).2 → Q (vi (ruD (spV M0) (rmV M0) nn.toNat (bAnd hs v, M0 46 7)).1) M1) : PC sc n m_X11_goes [vr 0, vi hs, vi nn] M0 Q := by
  refine pc_X11_goes _ _ M0 fun n1 _ => p_isIn (fun h x hx => cI_i (brT hx (k0 fun z => h z.1))) fun h1 x hx => cI_i (brF (by omega) (p_isIn (fun h x hx => cI_i (brF (by omega) (k0 fun z => h z.2))) fun h2 x hx => cI_i (brT (by omega) ?_)))
  rw [e10, show ((T : Int) + 1).toNat - 1 = T by omega]
  refine gMB (gMB (f_hws hT rfl fun v hv => cI_i ?_))
  have hv : setB v (spV M0) := setB_p hv fun j hj => by
    unfold stands spV
    exact decide_eq_decide.mpr (A.2.2 j hj).1
  have ho : ruO (spV M0) (bAnd hs v) := fun i hi hb => by
    rw [bit_and, Bool.and_eq_true] at hb
    rw [← hv.2 i hi]
    exact hb.2
  have ld : ∀ (m d n : Nat) (M1 : MM), d + m = nn.toNat → gcF L M0 M1 → M1 46 7 = (ruD (spV M0) (rmV M0) d (bAnd hs v, M0 46 7)).2 → PW sc n m_X11_goes 20 [] [some (vr 0), some (vi hs), some (vi nn), some (vi (ruD (spV M0) (rmV M0) d (bAnd hs v, M0 46 7)).1), some (vi (d : Int))] M1 Q := by
    intro m
    induction m with
    | zero =>
      intro d n M1 hi F1 e7
      have hi : d = nn.toNat := hi
      subst hi
      exact pw_X11_goes_20 _ _ _ _ M1 fun n1 _ => brT (by omega) (k1 ⟨h1, h2⟩ v hv M1 F1 e7)
    | succ m ih =>
      intro d n M1 hi F1 e7
      refine pw_X11_goes_20 _ _ _ _ M1 fun n1 _ => brF (by omega) ?_
      rw [F1.1 0 (by decide) (by omega) (by omega) (by omega), e10, e12, show ((T : Int) + 1).toNat - 1 = T by omega, show ((L : Int) + 1).toNat - 1 = L by omega, show w32 ((d : Int) + 1) = ((d + 1 : Nat) : Int) from ew32 (by omega) (by omega)]
      obtain ⟨p, hp⟩ : ∃ p, p = ruD (spV M0) (rmV M0) d (bAnd hs v, M0 46 7) := ⟨_, rfl⟩
      have hop : ruO (spV M0) p.1 := by
        rw [hp]
        exact ruD_o (st := (bAnd hs v, M0 46 7)) ho d
      have ih2 := ih (d + 1)
      rw [ruD_s, ← hp] at ih2
      rw [← hp] at e7 ⊢
      refine gMB (gMB (f_ruC hL hT A hop F1 fun M2 F2 e2 => cI_i ?_))
      rw [e7] at e2 ⊢
      exact ih2 n1 M2 (by omega) F2 e2
  exact ld nn.toNat 0 n1 M0 (Nat.zero_add _) .rf rfl
end GOC
section GOM
variable {sc : List Int} {Q : Vv → MM → Prop}
/- what a rumour leaves as it was, reference -/
def gmF (M0 M : MM) : Prop := (∀ c, c ≠ 82 → c ≠ 108 → c ≠ 109 → M c = M0 c) ∧ ∀ j, j ≠ 35 → M 82 j = M0 82 j
theorem gmF.rf {M : MM} : gmF M M := ⟨fun _ _ _ _ => rfl, fun _ _ => rfl⟩
theorem gmF.sp {M0 M : MM} (f : gmF M0 M) : M 86 = M0 86 := f.1 86 (by decide) (by decide) (by decide)
set_option maxRecDepth 20000 in
theorem f_spotsM {M : MM} {n : Nat} (k : ∀ v, setB v (spV M) → Q (vi v) M) : PC sc n m_X12_spotsSet [vr 81] M Q := by
  have lp : ∀ (m i n : Nat) (acc : Int), i + m = 10 → setB acc (fun j => decide (j < i) && spV M j) → PW sc n m_X12_spotsSet 4 [] [some (vr 81), some (vi acc), some (vi (i : Int))] M Q := by
    intro m
    induction m with
    | zero =>
      intro i n acc hi h
      have hi : i = 10 := hi
      subst hi
      exact pw_X12_spotsSet_4 _ _ M fun n1 _ => brT (by decide) (k acc (setB_p h fun j hj => by rw [decide_eq_true hj, Bool.true_and]))
    | succ m ih =>
      intro i n acc hi h
      refine pw_X12_spotsSet_4 _ _ M fun n1 _ => brF (by omega) ?_
      rw [show w32 ((i : Int) + 1) = ((i + 1 : Nat) : Int) from ew32 (by omega) (by omega)]
      refine f_hasSpotM (fun hn x hx => cI_i (brT hx (ih (i + 1) n1 _ (by omega) ?_))) fun hk x hx => cI_i (brF (by omega) (ih (i + 1) n1 _ (by omega) (setB_or h (by omega) fun j hj => ?_)))
      · have e0 : spV M i = false := decide_eq_false fun z => hn ⟨by omega, by rw [show ((i : Int)).toNat = i by omega]; exact z⟩
        have eb : bOr acc 0 = acc := by
          have r : ∀ j, j < 10 → bit (bOr acc 0) j = bit acc j := fun j _ => by rw [bit_or, bit_zero, Bool.or_false]
          exact bit_ext (fbOr 10 1024 (by decide) h.1 (by decide) (by decide)) h.1 r
        rw [eb]
        refine setB_p h fun j hj => ?_
        by_cases e : j = i
        · subst e
          rw [e0, Bool.and_false, Bool.and_false]
        · rw [decide_eq_decide.mpr (show j < i + 1 ↔ j < i by omega)]
      · by_cases e : j = i
        · subst e
          rw [decide_eq_true (show j < j + 1 by omega), decide_eq_true rfl, Bool.or_true, Bool.true_and]
          exact decide_eq_true (by have := hk.2; rw [show ((j : Int)).toNat = j by omega] at this; exact this)
        · rw [decide_eq_false e, Bool.or_false, decide_eq_decide.mpr (show j < i + 1 ↔ j < i by omega)]
  exact pc_X12_spotsSet M fun n1 _ => lp 10 0 n1 0 rfl (setB_0 fun i hi => rfl)
set_option maxRecDepth 20000 in
theorem f_goesM {M0 : MM} (J : lwJ M0) {hs nn : Int} {n : Nat} (k0 : ¬ gsOk hs nn → Q (vi (-1)) M0) (k1 : gsOk hs nn → ∀ v, setB v (spV M0) → ∀ M1, gmF M0 M1 → M1 82 35 = (ruD (spV M0) (rmV M0) nn.toNat (bAnd hs v, M0 82 35)).2 → Q (vi (ruD (spV M0) (rmV M0) nn.toNat (bAnd hs v, M0 82 35)).1) M1) : PC sc n m_X12_goes [vr 81, vi hs, vi nn] M0 Q := by
  refine pc_X12_goes _ _ M0 fun n1 _ => p_in (fun h x hx => cI_i (brT hx (k0 fun z => h z.1))) fun h1 x hx => cI_i (brF (by omega) (p_in (fun h x hx => cI_i (brF (by omega) (k0 fun z => h z.2))) fun h2 x hx => cI_i (brT (by omega) (f_spotsM fun v hv => cI_i ?_))))
  have lj : ∀ (kn : Int) (d : Nat) (h : Nat), h < 10 → bit kn h = true → ∀ st : Int × Int, (∀ (n : Nat) (o7 : Option Vv) (M1 : MM), gmF M0 M1 → M1 82 35 = (ruJ (spV M0) (rmV M0) kn h 10 st).2 → PW sc n m_X12_goes 26 [] [some (vr 81), some (vi hs), some (vi nn), some (vi kn), some (vi (d : Int)), some (vi (ruJ (spV M0) (rmV M0) kn h 10 st).1), some (vi ((h + 1 : Nat) : Int)), o7] M1 Q) → ∀ (m j n : Nat) (M1 : MM), j + m = 10 → gmF M0 M1 → M1 82 35 = (ruJ (spV M0) (rmV M0) kn h j st).2 → PW sc n m_X12_goes 36 [] [some (vr 81), some (vi hs), some (vi nn), some (vi kn), some (vi (d : Int)), some (vi (ruJ (spV M0) (rmV M0) kn h j st).1), some (vi (h : Int)), some (vi (j : Int))] M1 Q := by
    intro kn d h hh hb st kk m
    induction m with
    | zero =>
      intro j n M1 hi F1 e7
      have hi : j = 10 := hi
      subst hi
      refine pw_X12_goes_36 _ _ _ _ _ _ _ M1 fun n1 _ => brT (by decide) ?_
      rw [show w32 ((h : Int) + 1) = ((h + 1 : Nat) : Int) from ew32 (by omega) (by omega)]
      exact kk _ _ M1 F1 e7
    | succ m ih =>
      intro j n M1 hi F1 e7
      have hj : j < 10 := by omega
      obtain ⟨s1, hs1⟩ : ∃ s, s = ruJ (spV M0) (rmV M0) kn h j st := ⟨_, rfl⟩
      have ih2 : ∀ (n : Nat) (M1 : MM) (s2 : Int × Int), s2 = ruS (spV M0) (rmV M0) kn h j s1 → gmF M0 M1 → M1 82 35 = s2.2 → PW sc n m_X12_goes 36 [] [some (vr 81), some (vi hs), some (vi nn), some (vi kn), some (vi (d : Int)), some (vi s2.1), some (vi (h : Int)), some (vi ((j + 1 : Nat) : Int))] M1 Q := fun n M1 s2 e2 F1 e7 => by
        rw [e2, hs1, ← ruJ_s] at e7 ⊢
        exact ih (j + 1) n M1 (by omega) F1 e7
      rw [← hs1] at e7 ⊢
      clear ih hs1
      refine pw_X12_goes_36 _ _ _ _ _ _ _ M1 fun n1 _ => brF (by omega) ?_
      rw [show w32 ((j : Int) + 1) = ((j + 1 : Nat) : Int) from ew32 (by omega) (by omega)]
      have sj : ((0 ≤ (j : Int) ∧ (j : Int) ≤ 9) ∧ 0 ≤ M1 86 ((j : Int)).toNat) ↔ spV M0 j = true := by
        rw [F1.sp, show ((j : Int)).toNat = j by omega]
        exact ⟨fun z => decide_eq_true z.2, fun z => ⟨by omega, of_decide_eq_true z⟩⟩
      refine f_hasSpotM (fun hn x hx => cI_i (brT hx (ih2 n1 M1 s1 ?_ F1 e7))) fun hk x hx => cI_i (brF (by omega) (p_has (by omega) (fun b2 x hx => cI_i (brF (by omega) (pc_X12_draws M1 fun n2 _ => cI_i ?_))) fun b2 x hx => cI_i (brT (by omega) (ih2 n1 M1 s1 ?_ F1 e7))))
      · unfold ruS
        rw [if_neg fun z => hn (sj.mpr z.2.1)]
      · have s2 : ruS (spV M0) (rmV M0) kn h j s1 = (if Int.tmod (lotV s1.2) 10 < rmV M0 h j then bOr s1.1 (bShl 1 (j : Int)) else s1.1, lotV s1.2) := by
          unfold ruS
          rw [if_pos ⟨hb, sj.mp hk, b2⟩]
        rw [s2] at ih2
        rw [e7]
        have F2 : gmF M0 (stM M1 82 35 (lotV s1.2)) := ⟨fun c c1 c2 c3 => (stK c1).trans (F1.1 c c1 c2 c3), fun i hi => (stO hi).trans (F1.2 i hi)⟩
        show PC sc n1 m_X12_rumourOf [vr 81, vi (h : Int), vi (j : Int)] (stM M1 82 35 (lotV s1.2)) _
        refine f_rumourOfM hh hj (J.eq (by rw [F2.1 81 (by decide) (by decide) (by decide)]) fun c c1 c2 => F2.1 c (by omega) (by omega) (by omega)) fun M3 f3 => cI_i ?_
        have ev : bl (stM M1 82 35 (lotV s1.2)) (Frm h (stM M1 82 35 (lotV s1.2) 82 34) j (faO (stM M1 82 35 (lotV s1.2) 86 h) (stM M1 82 35 (lotV s1.2) 86 j))) 114 10 = rmV M0 h j := by
          rw [bl_eq (M := M0) (by rw [F2.1 81 (by decide) (by decide) (by decide)]) (fun c c1 c2 => F2.1 c (by omega) (by omega) (by omega)), F2.2 34 (by decide), F2.sp]
          rfl
        show brA (decide (bl (stM M1 82 35 (lotV s1.2)) (Frm h (stM M1 82 35 (lotV s1.2) 82 34) j (faO (stM M1 82 35 (lotV s1.2) 86 h) (stM M1 82 35 (lotV s1.2) 86 j))) 114 10 ≤ Int.tmod (lotV s1.2) 10)) _ _
        rw [ev]
        have F3 : gmF M0 M3 := ⟨fun c c1 c2 c3 => (f3 c c2 c3).trans (F2.1 c c1 c2 c3), fun i hi => by rw [f3 82 (by decide) (by decide)]; exact F2.2 i hi⟩
        have e3 : M3 82 35 = lotV s1.2 := by
          rw [f3 82 (by decide) (by decide)]
          exact stE
        refine brP (fun hle => ih2 n1 M3 (s1.1, lotV s1.2) ?_ F3 e3) fun hgt => ih2 n1 M3 (bOr s1.1 (bShl 1 (j : Int)), lotV s1.2) ?_ F3 e3
        · rw [if_neg (by omega)]
        · rw [if_pos (by omega)]
      · unfold ruS
        rw [if_neg fun z => absurd (b2.symm.trans z.2.2) (by decide)]
  have lh : ∀ (kn x : Int) (d : Nat), (∀ (n : Nat) (o5 o6 o7 : Option Vv) (M1 : MM), gmF M0 M1 → M1 82 35 = (ruH (spV M0) (rmV M0) kn 10 (kn, x)).2 → PW sc n m_X12_goes 19 [] [some (vr 81), some (vi hs), some (vi nn), some (vi (ruH (spV M0) (rmV M0) kn 10 (kn, x)).1), some (vi ((d + 1 : Nat) : Int)), o5, o6, o7] M1 Q) → d ≤ 20 → ∀ (m h n : Nat) (o7 : Option Vv) (M1 : MM), h + m = 10 → gmF M0 M1 → M1 82 35 = (ruH (spV M0) (rmV M0) kn h (kn, x)).2 → PW sc n m_X12_goes 26 [] [some (vr 81), some (vi hs), some (vi nn), some (vi kn), some (vi (d : Int)), some (vi (ruH (spV M0) (rmV M0) kn h (kn, x)).1), some (vi (h : Int)), o7] M1 Q := by
    intro kn x d kk hd m
    induction m with
    | zero =>
      intro h n o7 M1 hi F1 e7
      have hi : h = 10 := hi
      subst hi
      refine pw_X12_goes_26 _ _ _ _ _ _ _ M1 fun n1 _ => brT (by decide) ?_
      rw [show w32 ((d : Int) + 1) = ((d + 1 : Nat) : Int) from ew32 (by omega) (by omega)]
      exact kk _ _ _ _ M1 F1 e7
    | succ m ih =>
      intro h n o7 M1 hi F1 e7
      refine pw_X12_goes_26 _ _ _ _ _ _ _ M1 fun n1 _ => brF (by omega) ?_
      rw [show w32 ((h : Int) + 1) = ((h + 1 : Nat) : Int) from ew32 (by omega) (by omega)]
      refine p_has (by omega) (fun b1 y hy => cI_i (brF (by omega) ?_)) fun b1 y hy => cI_i (brT (by omega) (lj kn d h (by omega) b1 (ruH (spV M0) (rmV M0) kn h (kn, x)) (fun n o7 M2 F2 e2 => ih (h + 1) n o7 M2 (by omega) F2 e2) 10 0 n1 M1 rfl F1 e7))
      have e : ruH (spV M0) (rmV M0) kn (h + 1) (kn, x) = ruH (spV M0) (rmV M0) kn h (kn, x) := by
        rw [ruH_s, ruJ_no b1]
      rw [← e] at e7 ⊢
      exact ih (h + 1) n1 o7 M1 (by omega) F1 e7
  have ld : ∀ (m d n : Nat) (o5 o6 o7 : Option Vv) (M1 : MM), d + m = nn.toNat → gmF M0 M1 → M1 82 35 = (ruD (spV M0) (rmV M0) d (bAnd hs v, M0 82 35)).2 → PW sc n m_X12_goes 19 [] [some (vr 81), some (vi hs), some (vi nn), some (vi (ruD (spV M0) (rmV M0) d (bAnd hs v, M0 82 35)).1), some (vi (d : Int)), o5, o6, o7] M1 Q := by
    intro m
    induction m with
    | zero =>
      intro d n o5 o6 o7 M1 hi F1 e7
      have hi : d = nn.toNat := hi
      subst hi
      exact pw_X12_goes_19 _ _ _ _ _ _ _ M1 fun n1 _ => brT (by omega) (k1 ⟨h1, h2⟩ v hv M1 F1 e7)
    | succ m ih =>
      intro d n o5 o6 o7 M1 hi F1 e7
      refine pw_X12_goes_19 _ _ _ _ _ _ _ M1 fun n1 _ => brF (by omega) ?_
      obtain ⟨p, hp⟩ : ∃ p, p = ruD (spV M0) (rmV M0) d (bAnd hs v, M0 82 35) := ⟨_, rfl⟩
      have ih2 := ih (d + 1)
      rw [ruD_s, ← hp] at ih2
      rw [← hp] at e7 ⊢
      refine lh p.1 p.2 d (fun n o5 o6 o7 M2 F2 e2 => ih2 n o5 o6 o7 M2 (by omega) F2 e2) (by omega) 10 0 n1 _ M1 rfl F1 e7
  exact ld nn.toNat 0 n1 none none none M0 (Nat.zero_add _) .rf rfl
end GOM
