/-! PART 7n: a NIGHT, minute by minute, and the class's -/
theorem pc_X2_pass {sc : List Int} {n : Nat} {T : Nat} (hT : T = 57 ∨ T = 61) {L : Nat} (hL : L = 65 ∨ L = 73) {Q : Vv → MM → Prop} (v2 : Nat) (v4 : Nat) (v5 : Int) (v6 : Int) (M : MM) (h : ∀ n1, n1 < n → PC sc n1 m_X2_start [vr 24, vr v4] M (fun _ M1 =>
  gIm (kd YF v2 == 19) (PC sc n1 m_X10_trace [vr v2, vr T, vi v5, vr 30] M1 (cI fun r3 M2 =>
   PW sc n1 m_X2_pass 13 [] [some (vr 24), some (vr T), some (vr v2), some (vr L), some (vr v4), some (vi v5), some (vi v6), some (vi 0), none, none] (stM M2 24 3 r3) Q)))) : PC sc n m_X2_pass [vr 24, vr T, vr v2, vr L, vr v4, vi v5, vi v6] M Q := by
  rcases hT with rfl | rfl <;> rcases hL with rfl | rfl <;> exact pc_go rfl (fun j => Nat.beq j 13 || Nat.beq j 21 || Nat.beq j 52) 80 h
theorem pw_X2_pass_13 {sc : List Int} {n : Nat} {T : Nat} (hT : T = 57 ∨ T = 61) {L : Nat} (hL : L = 65 ∨ L = 73) {Q : Vv → MM → Prop} (v2 : Nat) (v4 : Nat) (v5 : Int) (v6 : Int) (v7 : Int) (o8 : Option Vv) (o9 : Option Vv) (M : MM) (h : ∀ n1, n1 < n → brA (decide ((M 24 3) < v7))
  (Q (vi 0) (stM M 25 5 (w32 ((M 25 5) + (M 24 4)))))
  (PW sc n1 m_X2_pass 21 [] [some (vr 24), some (vr T), some (vr v2), some (vr L), some (vr v4), some (vi v5), some (vi v6), some (vi v7), some (vi 0), some (vi 0)] M Q)) : PW sc n m_X2_pass 13 [] [some (vr 24), some (vr T), some (vr v2), some (vr L), some (vr v4), some (vi v5), some (vi v6), some (vi v7), o8, o9] M Q := by
  rcases hT with rfl | rfl <;> rcases hL with rfl | rfl <;> exact pw_go rfl (fun j => Nat.beq j 13 || Nat.beq j 21 || Nat.beq j 52) 80 h
theorem pw_X2_pass_21 {sc : List Int} {n : Nat} {T : Nat} (hT : T = 57 ∨ T = 61) {L : Nat} (hL : L = 65 ∨ L = 73) {Q : Vv → MM → Prop} (v2 : Nat) (v4 : Nat) (v5 : Int) (v6 : Int) (v7 : Int) (v8 : Int) (v9 : Int) (M : MM) (h : ∀ n1, n1 < n → brA (decide (10 ≤ v9))
  (brA (decide (v8 = 0))
   (PW sc n1 m_X2_pass 52 [] [some (vr 24), some (vr T), some (vr v2), some (vr L), some (vr v4), some (vi v5), some (vi v6), some (vi v7), some (vi v8), some (vi v9)] M Q)
   (PW sc n1 m_X2_pass 52 [] [some (vr 24), some (vr T), some (vr v2), some (vr L), some (vr v4), some (vi v5), some (vi v6), some (vi v7), some (vi v8), some (vi v9)] (stM M 24 7 (w32 ((M 24 7) + 1))) Q))
  (gIm (decide (0 ≤ v7) && decide (v7 < 61)) (PC sc n1 m_X8_sees [vr 25, vr T, vi v9, vi (M 30 v7.toNat)] M (cI fun r2 M1 =>
   brA (decide (r2 = 0))
    (PW sc n1 m_X2_pass 21 [] [some (vr 24), some (vr T), some (vr v2), some (vr L), some (vr v4), some (vi v5), some (vi v6), some (vi v7), some (vi v8), some (vi (w32 (v9 + 1)))] M1 Q)
    (PC sc n1 m_X2_frighten [vr 24, vr L, vi v5, vi v9, vi v7] M1 (fun _ M3 =>
     PW sc n1 m_X2_pass 21 [] [some (vr 24), some (vr T), some (vr v2), some (vr L), some (vr v4), some (vi v5), some (vi v6), some (vi v7), some (vi 1), some (vi (w32 (v9 + 1)))] M3 Q)))))) : PW sc n m_X2_pass 21 [] [some (vr 24), some (vr T), some (vr v2), some (vr L), some (vr v4), some (vi v5), some (vi v6), some (vi v7), some (vi v8), some (vi v9)] M Q := by
  rcases hT with rfl | rfl <;> rcases hL with rfl | rfl <;> exact pw_go rfl (fun j => Nat.beq j 13 || Nat.beq j 21 || Nat.beq j 52) 80 h
theorem pw_X2_pass_52 {sc : List Int} {n : Nat} {T : Nat} (hT : T = 57 ∨ T = 61) {L : Nat} (hL : L = 65 ∨ L = 73) {Q : Vv → MM → Prop} (v2 : Nat) (v4 : Nat) (v5 : Int) (v6 : Int) (v7 : Int) (v8 : Int) (v9 : Int) (M : MM) (h : ∀ n1, n1 < n → gIm (decide (0 ≤ v7) && decide (v7 < 61)) (PC sc n1 m_X2_barksAt [vr T, vi (M 30 v7.toNat), vi v6] M (cI fun r2 M1 =>
  PW sc n1 m_X2_pass 13 [] [some (vr 24), some (vr T), some (vr v2), some (vr L), some (vr v4), some (vi v5), some (vi v6), some (vi (w32 (v7 + 1))), some (vi v8), some (vi v9)] (stM M1 24 6 (w32 ((M 24 6) + r2))) Q))) : PW sc n m_X2_pass 52 [] [some (vr 24), some (vr T), some (vr v2), some (vr L), some (vr v4), some (vi v5), some (vi v6), some (vi v7), some (vi v8), some (vi v9)] M Q := by
  rcases hT with rfl | rfl <;> rcases hL with rfl | rfl <;> exact pw_go rfl (fun j => Nat.beq j 13 || Nat.beq j 21 || Nat.beq j 52) 80 h
theorem pc_X2_start {sc : List Int} {n : Nat} {N : Nat} (hN : N = 25 ∨ N = 46 ∨ N = 51) {Q : Vv → MM → Prop}  (M : MM) (h : ∀ n1, n1 < n → PC sc n1 m_X8_copy [vr 25, vr N] M (fun _ M1 =>
  PW sc n1 m_X2_start 21 [] [some (vr 24), some (vr N), some (vi 0)] (stM (stM (stM (stM (stM M1 24 4 0) 24 5 0) 24 6 0) 24 7 0) 24 8 0) Q)) : PC sc n m_X2_start [vr 24, vr N] M Q := by
  rcases hN with rfl | rfl | rfl <;> exact pc_go rfl (fun j => Nat.beq j 21) 37 h
theorem pw_X2_start_21 {sc : List Int} {n : Nat} {N : Nat} (hN : N = 25 ∨ N = 46 ∨ N = 51) {Q : Vv → MM → Prop} (v2 : Int) (M : MM) (h : ∀ n1, n1 < n → brA (decide (10 ≤ v2))
  (Q (vi 0) M)
  (gIm (decide (0 ≤ v2) && decide (v2 < 10)) (PW sc n1 m_X2_start 21 [] [some (vr 24), some (vr N), some (vi (w32 (v2 + 1)))] (stM M 31 (v2.toNat) ((-2))) Q))) : PW sc n m_X2_start 21 [] [some (vr 24), some (vr N), some (vi v2)] M Q := by
  rcases hN with rfl | rfl | rfl <;> exact pw_go rfl (fun j => Nat.beq j 21) 37 h
theorem pc_X2_frighten {sc : List Int} {n : Nat} {L : Nat} (hL : L = 65 ∨ L = 73) {Q : Vv → MM → Prop} (v2 : Int) (v3 : Int) (v4 : Int) (M : MM) (h : ∀ n1, n1 < n → gIm (decide (0 ≤ v3) && decide (v3 < 10)) (gIm (decide (0 ≤ v3) && decide (v3 < 10)) (gIm (decide (0 ≤ v4) && decide (v4 < 61)) (PC sc n1 m_X11_stepsBetween [vi (M 26 v3.toNat), vi (M 30 v4.toNat)] M (cI fun r2 M1 =>
  PC sc n1 m_X0_fearOf [vr L, vr 25, vi v2, vi v3, vi r2, vi v4] M1 (cI fun r4 M3 =>
   gIm (decide (0 ≤ v3) && decide (v3 < 10)) (gIm (decide (0 ≤ v3) && decide (v3 < 10)) (gIm (decide (0 ≤ v3) && decide (v3 < 10)) (gIm (decide (0 ≤ v3) && decide (v3 < 10)) (brA (decide (((stM M3 27 (v3.toNat) (mMin 999 (w32 ((M 27 v3.toNat) + r4)))) 27 v3.toNat) < (M3 28 v3.toNat)))
    (Q (vi 0) (stM (stM M3 27 (v3.toNat) (mMin 999 (w32 ((M 27 v3.toNat) + r4)))) 24 8 (w32 ((M3 24 8) + (w32 (((stM M3 27 (v3.toNat) (mMin 999 (w32 ((M 27 v3.toNat) + r4)))) 27 v3.toNat) - (M 27 v3.toNat)))))))
    (PC sc n1 m_X0_payOf [vr L, vr 25, vi v2, vi v3, vi v4] (stM (stM M3 27 (v3.toNat) (mMin 999 (w32 ((M 27 v3.toNat) + r4)))) 24 8 (w32 ((M3 24 8) + (w32 (((stM M3 27 (v3.toNat) (mMin 999 (w32 ((M 27 v3.toNat) + r4)))) 27 v3.toNat) - (M 27 v3.toNat)))))) (cI fun r6 M5 =>
     gIm (decide (0 ≤ v3) && decide (v3 < 10)) (gIm (decide (0 ≤ v3) && decide (v3 < 10)) (Q (vi 0) (stM (stM (stM (stM M5 24 4 (w32 ((M3 24 4) + r6))) 24 5 (bOr (M5 24 5) (bShl 1 v3))) 31 (v3.toNat) v4) 29 (v3.toNat) 1))))))))))))))) : PC sc n m_X2_frighten [vr 24, vr L, vi v2, vi v3, vi v4] M Q := by
  rcases hL with rfl | rfl <;> exact pc_go rfl (fun j => false) 96 h
theorem pc_X2_barksAt {sc : List Int} {n : Nat} {T : Nat} (hT : T = 57 ∨ T = 61) {Q : Vv → MM → Prop} (v0 : Nat) (v1 : Int) (v2 : Int) (M : MM) (h : ∀ n1, n1 < n → PW sc n1 m_X2_barksAt 4 [] [some (vr v0), some (vi v1), some (vi v2), some (vi 0), some (vi 0), none] M Q) : PC sc n m_X2_barksAt [vr v0, vi v1, vi v2] M Q := by
  rcases hT with rfl | rfl <;> exact pc_go rfl (fun j => Nat.beq j 4 || Nat.beq j 20) 41 h
theorem pw_X2_barksAt_4 {sc : List Int} {n : Nat} {T : Nat} (hT : T = 57 ∨ T = 61) {Q : Vv → MM → Prop} (v0 : Nat) (v1 : Int) (v2 : Int) (v3 : Int) (v4 : Int) (o5 : Option Vv) (M : MM) (h : ∀ n1, n1 < n → brA (decide (10 ≤ v4))
  (Q (vi v3) M)
  (PC sc n1 m_X11_hasBit [vi v2, vi v4] M (cI fun r2 M1 =>
   brA (decide (r2 = 0))
    (PW sc n1 m_X2_barksAt 20 [vi 0] [some (vr v0), some (vi v1), some (vi v2), some (vi v3), some (vi v4), o5] M1 Q)
    (gIm ((kd YF v0 == 18) && rfK (FF v0 1) (M1 v0 1)) (gIm ((kd YF (rfO (FF v0 1) (M1 v0 1)) == 0) && (decide (0 ≤ v4) && decide (v4 < ln YF (rfO (FF v0 1) (M1 v0 1))))) (brA (decide ((M1 (rfO (FF v0 1) (M1 v0 1)) v4.toNat) = ((-1))))
     (PW sc n1 m_X2_barksAt 20 [vi 0] [some (vr v0), some (vi v1), some (vi v2), some (vi v3), some (vi v4), o5] M1 Q)
     (PW sc n1 m_X2_barksAt 20 [vi 1] [some (vr v0), some (vi v1), some (vi v2), some (vi v3), some (vi v4), o5] M1 Q))))))) : PW sc n m_X2_barksAt 4 [] [some (vr v0), some (vi v1), some (vi v2), some (vi v3), some (vi v4), o5] M Q := by
  rcases hT with rfl | rfl <;> exact pw_go rfl (fun j => Nat.beq j 4 || Nat.beq j 20) 41 h
theorem pw_X2_barksAt_20 {sc : List Int} {n : Nat} {T : Nat} (hT : T = 57 ∨ T = 61) {Q : Vv → MM → Prop} (v0 : Nat) (v1 : Int) (v2 : Int) (v3 : Int) (v4 : Int) (o5 : Option Vv) (s0 : Int) (M : MM) (h : ∀ n1, n1 < n → brA (decide (s0 = 0))
  (PW sc n1 m_X2_barksAt 4 [] [some (vr v0), some (vi v1), some (vi v2), some (vi v3), some (vi (w32 (v4 + 1))), some (vi s0)] M Q)
  (gIm ((kd YF v0 == 18) && rfK (FF v0 1) (M v0 1)) (gIm ((kd YF (rfO (FF v0 1) (M v0 1)) == 0) && (decide (0 ≤ v4) && decide (v4 < ln YF (rfO (FF v0 1) (M v0 1))))) (PC sc n1 m_X11_stepsBetween [vi (M (rfO (FF v0 1) (M v0 1)) v4.toNat), vi v1] M (cI fun r2 M1 =>
   brA (decide (1 < r2))
    (PW sc n1 m_X2_barksAt 4 [] [some (vr v0), some (vi v1), some (vi v2), some (vi v3), some (vi (w32 (v4 + 1))), some (vi s0)] M1 Q)
    (PW sc n1 m_X2_barksAt 4 [] [some (vr v0), some (vi v1), some (vi v2), some (vi (w32 (v3 + 1))), some (vi (w32 (v4 + 1))), some (vi s0)] M1 Q)))))) : PW sc n m_X2_barksAt 20 [vi s0] [some (vr v0), some (vi v1), some (vi v2), some (vi v3), some (vi v4), o5] M Q := by
  rcases hT with rfl | rfl <;> exact pw_go rfl (fun j => Nat.beq j 4 || Nat.beq j 20) 41 h
theorem pc_X8_sees {sc : List Int} {n : Nat} {Q : Vv → MM → Prop} (v1 : Nat) (v2 : Int) (v3 : Int) (M : MM) (h : ∀ n1, n1 < n → PC sc n1 m_X8_isTold [vr 25, vi v2] M (cI fun r2 M1 =>
  brA (decide (r2 = 0))
   (Q (vi 0) M1)
   (gIm (decide (0 ≤ v2) && decide (v2 < 10)) (brA (decide ((M1 29 v2.toNat) ≠ 0))
    (Q (vi 0) M1)
    (gIm (decide (0 ≤ v2) && decide (v2 < 10)) (gIm (kd YF v1 == 18) (PC sc n1 m_X9_sees [vr v1, vi (M1 26 v2.toNat), vi v3] M1 (cI fun r4 M3 =>
     brA (decide (r4 = 0))
      (Q (vi 0) M3)
      (Q (vi 1) M3))))))))) : PC sc n m_X8_sees [vr 25, vr v1, vi v2, vi v3] M Q := pc_go rfl (fun j => false) 26 h
theorem pc_X8_isTolde {sc : List Int} {n : Nat} {Q : Vv → MM → Prop} (v1 : Int) (M : MM) (h : ∀ n1, n1 < n → gIm (decide (0 ≤ v1) && decide (v1 < 10)) (brA (decide ((M 26 v1.toNat) = ((-1))))
  (Q (vi 0) M)
  (Q (vi 1) M))) : PC sc n m_X8_isTold [vr 25, vi v1] M Q := pc_go rfl (fun j => false) 15 h
abbrev NS : Type := (Nat → Int) × (Nat → Bool)
def capV (f w : Int) : Int := if f + w ≤ 999 then f + w else 999
/- a STRANGER in a MINUTE: who sees the ghost is afraid, and pays where the FEAR comes to the COURAGE -/
def ngS (R K : Nat → Int) (fw : Nat → Int → Int → Int → Int) (s t : Int) (g : Nat) (st : NS) : NS := if bit (R 30) g = true ∧ st.2 g = false ∧ seeB K (R g) s = true then (fun j => if j = g then capV (st.1 g) (fw g s (st.1 g) t) else st.1 j, fun j => if j = g then decide (R (20 + g) ≤ capV (st.1 g) (fw g s (st.1 g) t)) else st.2 j) else st
def ngM (R K : Nat → Int) (fw : Nat → Int → Int → Int → Int) (s t : Int) (n : Nat) (st : NS) : NS := match n with
  | 0 => st
  | n + 1 => ngS R K fw s t n (ngM R K fw s t n st)
def ngT (R K : Nat → Int) (fw : Nat → Int → Int → Int → Int) (P : Nat → Int) (n : Nat) (st : NS) : NS := match n with
  | 0 => st
  | n + 1 => ngM R K fw (P n) (n : Int) 10 (ngT R K fw P n st)
theorem ngM_s (R K : Nat → Int) (fw : Nat → Int → Int → Int → Int) (s t : Int) (n : Nat) (st : NS) : ngM R K fw s t (n + 1) st = ngS R K fw s t n (ngM R K fw s t n st) := rfl
theorem ngT_s (R K : Nat → Int) (fw : Nat → Int → Int → Int → Int) (P : Nat → Int) (n : Nat) (st : NS) : ngT R K fw P (n + 1) st = ngM R K fw (P n) (n : Int) 10 (ngT R K fw P n st) := rfl
/- FEARS in range -/
def ngR (st : NS) : Prop := ∀ g, g < 10 → 0 ≤ st.1 g ∧ st.1 g ≤ 999
theorem capV_r {f w : Int} (hf : 0 ≤ f) (hw : 0 ≤ w) : 0 ≤ capV f w ∧ capV f w ≤ 999 := by
  unfold capV
  split <;> omega
theorem ngS_r {R K : Nat → Int} {fw : Nat → Int → Int → Int → Int} (hw : ∀ g s b t, 0 ≤ fw g s b t) {s t : Int} {g : Nat} {st : NS} (h : ngR st) : ngR (ngS R K fw s t g st) := by
  unfold ngS
  split
  · intro j hj
    show 0 ≤ (if j = g then _ else _) ∧ (if j = g then _ else _) ≤ 999
    by_cases e : j = g
    · subst e
      rw [if_pos rfl]
      exact capV_r (h j hj).1 (hw _ _ _ _)
    · rw [if_neg e]
      exact h j hj
  · exact h
theorem ngM_r {R K : Nat → Int} {fw : Nat → Int → Int → Int → Int} (hw : ∀ g s b t, 0 ≤ fw g s b t) {s t : Int} {st : NS} (h : ngR st) : ∀ n, ngR (ngM R K fw s t n st)
  | 0 => h
  | n + 1 => ngS_r hw (ngM_r hw h n)
theorem ngT_r {R K : Nat → Int} {fw : Nat → Int → Int → Int → Int} (hw : ∀ g s b t, 0 ≤ fw g s b t) {P : Nat → Int} {st : NS} (h : ngR st) : ∀ n, ngR (ngT R K fw P n st)
  | 0 => h
  | n + 1 => ngM_r hw (ngT_r hw h n) 10
/- what a stranger's fear grows by, asked of the codes -/
def fwV (M : MM) (R : Nat → Int) (h : Int) (g : Nat) (s b t : Int) : Int := bl M (Fst h (R 34) g (faO (R g) s) b (R (20 + g)) t) 102 99
theorem fwV_r (M : MM) (R : Nat → Int) (h : Int) : ∀ g s b t, 0 ≤ fwV M R h g s b t ∧ fwV M R h g s b t ≤ 99 := fun _ _ _ _ => blv_r _ _ _ _ _ _ _ _ _ (by decide) _ _
theorem fwV_eq {M M1 : MM} (h19 : M1 81 19 = M 81 19) (hc : ∀ c, 97 ≤ c → c ≤ 101 → M1 c = M c) (R : Nat → Int) (h : Int) : fwV M1 R h = fwV M R h := by
  funext g s b t
  exact bl_eq h19 hc _ _ _
/- the STRANGERS of the class in a NIGHT -/
def ngG (S F C D R : Nat → Int) (st : NS) (g : Nat) : Prop := (bit (R 30) g = true → (S g = R g ∧ 0 ≤ R g ∧ R g < 64) ∧ F g = st.1 g ∧ C g = R (20 + g) ∧ D g = (if st.2 g then 1 else 0)) ∧ (bit (R 30) g = false → S g = -1 ∧ F g = 0)
section NGC
variable {sc : List Int} {Q : Vv → MM → Prop} {L T : Nat}
/- what a NIGHT of the class leaves as it was -/
def ngF (L : Nat) (M0 M : MM) : Prop := (∀ c, (c < 24 ∨ 31 < c) → c ≠ L → c ≠ L + 6 → c ≠ L + 7 → M c = M0 c) ∧ ∀ j, j ≠ 9 → j ≠ 10 → M L j = M0 L j
theorem ngF.lq {M0 M M1 : MM} (f : ngF L M0 M) (g : lqF L M M1) : ngF L M0 M1 := ⟨fun c c1 c2 c3 c4 => (g.1 c c2 c3 c4).trans (f.1 c c1 c2 c3 c4), fun j j1 j2 => (g.2 j j1 j2).trans (f.2 j j1 j2)⟩
theorem ngF.st (hL : L = 65 ∨ L = 73) {M0 M : MM} (f : ngF L M0 M) {k j : Nat} {v : Int} (hk : 24 ≤ k ∧ k ≤ 31) : ngF L M0 (stM M k j v) := ⟨fun c c1 c2 c3 c4 => (stK (by omega)).trans (f.1 c c1 c2 c3 c4), fun i i1 i2 => (stN (by omega)).trans (f.2 i i1 i2)⟩
theorem ngF.R (hL : L = 65 ∨ L = 73) {M0 M : MM} {q : LC} {cl : CL} (f : ngF L M0 M) (R : rL1 M0 L q cl) : rL1 M L q cl := R.eq (f.2 0 (by decide) (by decide)) (f.2 6 (by decide) (by decide)) (fun c c1 c2 j _ => by rw [f.1 c (by omega) (by omega) (by omega) (by omega)]) (by rw [f.1 81 (by omega) (by omega) (by omega) (by omega)]) fun c c1 c2 j => by rw [f.1 c (by omega) (by omega) (by omega) (by omega)]
/- the class within a NIGHT -/
def ngI (R P : Nat → Int) (sz : Nat) (st : NS) (M : MM) : Prop := (∀ g, g < 10 → ngG (M 26) (M 27) (M 28) (M 29) R st g) ∧ (M 25 4 = R 32 ∧ M 25 6 = R 34 ∧ M 25 7 = R 35) ∧ M 24 3 = (sz : Int) ∧ ∀ i, i ≤ sz → M 30 i = P i
theorem ngI.eq {R P : Nat → Int} {sz : Nat} {st : NS} {M M1 : MM} (I : ngI R P sz st M) (h : ∀ c, 25 ≤ c → c ≤ 30 → M1 c = M c) (h3 : M1 24 3 = M 24 3) : ngI R P sz st M1 := by
  unfold ngI
  rw [h 25 (by decide) (by decide), h 26 (by decide) (by decide), h 27 (by decide) (by decide), h 28 (by decide) (by decide), h 29 (by decide) (by decide), h 30 (by decide) (by decide), h3]
  exact I
set_option maxRecDepth 20000 in
theorem p_isToldN {g n : Nat} (hg : g < 10) {M : MM} (k0 : M 26 g = -1 → ∀ x : Int, x = 0 → Q (vi x) M) (k1 : M 26 g ≠ -1 → ∀ x : Int, x = 1 → Q (vi x) M) : PC sc n m_X8_isTold [vr 25, vi (g : Int)] M Q := pc_X8_isTolde _ M fun n1 _ => gMB (by
  rw [show ((g : Int)).toNat = g by omega]
  exact brP (fun h => k0 (by omega) 0 rfl) fun h => k1 (by omega) 1 rfl)
set_option maxRecDepth 20000 in
theorem f_barksAt (hT : T = 57 ∨ T = 61) {v0 : Nat} {s w : Int} {n : Nat} {M : MM} (k : ∀ x : Int, Q (vi x) M) : PC sc n m_X2_barksAt [vr v0, vi s, vi w] M Q := by
  have lp : ∀ (n : Nat) (a b : Int) (o : Option Vv), PW sc n m_X2_barksAt 4 [] [some (vr v0), some (vi s), some (vi w), some (vi a), some (vi b), o] M Q := by
    intro n
    induction n using Nat.strongRecOn with
    | ind n ih =>
      intro a b o
      refine pw_X2_barksAt_4 hT _ _ _ _ _ _ M fun n1 h1 => brP (fun _ => k _) fun _ => ?_
      have h20 : ∀ (x : Int), PW sc n1 m_X2_barksAt 20 [vi x] [some (vr v0), some (vi s), some (vi w), some (vi a), some (vi b), o] M Q := fun x => pw_X2_barksAt_20 hT _ _ _ _ _ _ _ M fun n2 h2 => brP (fun _ => ih n2 (by omega) _ _ _) fun _ => gMB (gMB (f_stepsBetween (cI_i (brP (fun _ => ih n2 (by omega) _ _ _) fun _ => ih n2 (by omega) _ _ _))))
      exact pc_X11_hasBit _ _ M fun n2 _ => brP (fun _ => cI_i (brP (fun _ => h20 _) fun _ => gMB (gMB (brP (fun _ => h20 _) fun _ => h20 _)))) fun _ => cI_i (brP (fun _ => h20 _) fun _ => gMB (gMB (brP (fun _ => h20 _) fun _ => h20 _)))
  exact pc_X2_barksAt hT _ _ _ M fun n1 _ => lp n1 _ _ _
theorem mMin_cap {f w : Int} (hf : 0 ≤ f ∧ f ≤ 999) (hw : 0 ≤ w ∧ w ≤ 99) : mMin 999 (w32 (f + w)) = capV f w := by
  rw [ew32 (by omega) (by omega)]
  unfold mMin capV
  split <;> split <;> omega
/- a STRANGER who sees the ghost -/
set_option maxRecDepth 20000 in
theorem f_frighten (hL : L = 65 ∨ L = 73) {R P : Nat → Int} {sz : Nat} {st : NS} {M0 M : MM} {q : LC} {cl : CL} (R0 : rL1 M0 L q cl) (F : ngF L M0 M) (I : ngI R P sz st M) (hr : ngR st) {h : Int} {g t n : Nat} (hg : g < 10) (ht : t ≤ sz) {K : Nat → Int} (b1 : bit (R 30) g = true) (b2 : st.2 g = false) (b3 : seeB K (R g) (P t) = true) (k : ∀ M1, ngF L M0 M1 → ngI R P sz (ngS R K (fwV M0 R h) (P t) t g st) M1 → Q (vi 0) M1) : PC sc n m_X2_frighten [vr 24, vr L, vi h, vi (g : Int), vi (t : Int)] M Q := by
  obtain ⟨i1, ⟨i4, i6, i7⟩, i3, i5⟩ := id I
  obtain ⟨⟨s1, s2, s3⟩, s4, s5, s6⟩ := (i1 g hg).1 b1
  refine pc_X2_frighten hL _ _ _ M fun n1 _ => gMB (gMB (gMB ?_))
  rw [show ((g : Int)).toNat = g by omega, show ((t : Int)).toNat = t by omega, s1, s4, i5 t ht]
  refine f_stepsBetween (cI_i (f_fearOfC hL (.inl rfl) (F.R hL R0) ⟨fun _ _ _ _ => rfl, fun _ _ _ => rfl⟩ fun M2 f2 => cI_i ?_))
  have ew : bl M (Fst h (M 25 6) g (faO (R g) (P t)) (M (25 + 2) ((g : Int)).toNat) (M (25 + 3) ((g : Int)).toNat) t) 102 99 = fwV M0 R h g (P t) (st.1 g) t := by
    rw [show ((g : Int)).toNat = g by omega, i6, show M (25 + 2) g = st.1 g from s4, show M (25 + 3) g = R (20 + g) from s5]
    exact bl_eq (by rw [F.1 81 (by omega) (by omega) (by omega) (by omega)]) (fun c c1 c2 => F.1 c (by omega) (by omega) (by omega) (by omega)) _ _ _
  rw [ew]
  have hw := fwV_r M0 R h g (P t) (st.1 g) t
  have hf := hr g hg
  rw [mMin_cap hf hw, stE]
  have eS : ngS R K (fwV M0 R h) (P t) t g st = (fun j => if j = g then capV (st.1 g) (fwV M0 R h g (P t) (st.1 g) t) else st.1 j, fun j => if j = g then decide (R (20 + g) ≤ capV (st.1 g) (fwV M0 R h g (P t) (st.1 g) t)) else st.2 j) := by
    unfold ngS
    rw [if_pos ⟨b1, b2, b3⟩]
  rw [eS] at k
  clear eS ew
  generalize fwV M0 R h g (P t) (st.1 g) t = w at k hw ⊢
  obtain ⟨x, hx⟩ : ∃ x, x = capV (st.1 g) w := ⟨_, rfl⟩
  rw [← hx] at k ⊢
  have F2 := F.lq f2
  have o : ∀ c, 24 ≤ c → c ≤ 31 → M2 c = M c := fun c c1 c2 => f2.1 c (by omega) (by omega) (by omega)
  have main : ∀ (M3 : MM) (d : Bool), ngF L M0 M3 → (∀ c, 25 ≤ c → c ≤ 30 → c ≠ 25 → c ≠ 27 → c ≠ 29 → M3 c = M c) → (∀ j, j ≠ 5 → M3 25 j = M 25 j) → M3 24 3 = M 24 3 → M3 27 g = x → (∀ j, j ≠ g → M3 27 j = M 27 j) → M3 29 g = (if d then 1 else 0) → (∀ j, j ≠ g → M3 29 j = M 29 j) → decide (R (20 + g) ≤ x) = d → Q (vi 0) M3 := fun M3 d f3 h1 h25 h3 h27 h27' h29 h29' hd => by
    refine k M3 f3 ⟨fun j hj => ?_, ⟨(h25 4 (by decide)).trans i4, (h25 6 (by decide)).trans i6, (h25 7 (by decide)).trans i7⟩, h3.trans i3, fun i hi => by rw [h1 30 (by decide) (by decide) (by decide) (by decide) (by decide)]; exact i5 i hi⟩
    rw [h1 26 (by decide) (by decide) (by decide) (by decide) (by decide), h1 28 (by decide) (by decide) (by decide) (by decide) (by decide)]
    by_cases e : j = g
    · subst e
      refine ⟨fun _ => ⟨⟨s1, s2, s3⟩, ?_, s5, ?_⟩, fun z => by rw [b1] at z; cases z⟩
      · show M3 27 j = if j = j then x else _
        rw [if_pos rfl]
        exact h27
      · show M3 29 j = if (if j = j then decide (R (20 + j) ≤ x) else _) then 1 else 0
        rw [if_pos rfl, hd]
        exact h29
    · have z := i1 j hj
      unfold ngG at z ⊢
      show (_ → _ ∧ M3 27 j = (if j = g then x else st.1 j) ∧ _ ∧ M3 29 j = (if (if j = g then decide (R (20 + g) ≤ x) else st.2 j) then 1 else 0)) ∧ (_ → _ ∧ M3 27 j = 0)
      rw [if_neg e, if_neg e, h27' j e, h29' j e]
      exact z
  refine gMB (gMB (gMB (gMB (brP (fun hlt => ?_) fun hge => ?_))))
  · rw [o 28 (by decide) (by decide), s5] at hlt
    refine main _ false ((F2.st hL (by decide)).st hL (by decide)) (fun c c1 c2 c3 c4 c5 => by rw [stK (by omega), stK (by omega), o c (by omega) (by omega)]) (fun j _ => by rw [stK (by decide), stK (by decide), o 25 (by decide) (by decide)]) (by rw [stO (by decide), stK (by decide), o 24 (by decide) (by decide)]) (by rw [stK (by decide)]; exact stE) (fun j hj => by rw [stK (by decide), stO hj, o 27 (by decide) (by decide)]) ?_ (fun j _ => by rw [stK (by decide), stK (by decide), o 29 (by decide) (by decide)]) (decide_eq_false (by omega))
    rw [stK (by decide), stK (by decide), o 29 (by decide) (by decide), s6, b2]
  · rw [o 28 (by decide) (by decide), s5] at hge
    have F3 : ngF L M0 (stM (stM M2 27 g x) 24 8 (w32 (M2 24 8 + w32 (x - st.1 g)))) := (F2.st hL (by decide)).st hL (by decide)
    refine f_payOfC hL (.inl rfl) (F3.R hL R0) ⟨fun _ _ _ _ => rfl, fun _ _ _ => rfl⟩ fun y M4 f4 => cI_i (gMB (gMB ?_))
    have o4 : ∀ c, 24 ≤ c → c ≤ 31 → M4 c = stM (stM M2 27 g x) 24 8 (w32 (M2 24 8 + w32 (x - st.1 g))) c := fun c c1 c2 => f4.1 c (by omega) (by omega) (by omega)
    refine main _ true (((((F3.lq f4).st hL (by decide)).st hL (by decide)).st hL (by decide)).st hL (by decide)) (fun c c1 c2 c3 c4 c5 => by rw [stK (by omega), stK (k := 31) (by omega), stK (by omega), stK (by omega), o4 c (by omega) (by omega), stK (by omega), stK (by omega), o c (by omega) (by omega)]) (fun j _ => by rw [stK (by decide), stK (by decide), stK (by decide), stK (by decide), o4 25 (by decide) (by decide), stK (by decide), stK (by decide), o 25 (by decide) (by decide)]) (by rw [stK (by decide), stK (by decide), stO (by decide), stO (by decide), o4 24 (by decide) (by decide), stO (by decide), stK (by decide), o 24 (by decide) (by decide)]) (by rw [stK (by decide), stK (by decide), stK (by decide), stK (by decide), o4 27 (by decide) (by decide), stK (by decide)]; exact stE) (fun j hj => by rw [stK (by decide), stK (by decide), stK (by decide), stK (by decide), o4 27 (by decide) (by decide), stK (by decide), stO hj, o 27 (by decide) (by decide)]) (by rw [stE]; rfl) (fun j hj => by rw [stO hj, stK (by decide), stK (by decide), stK (by decide), o4 29 (by decide) (by decide), stK (by decide), stK (by decide), o 29 (by decide) (by decide)]) (decide_eq_true (by omega))
set_option maxRecDepth 20000 in
theorem f_traceN (hT : T = 57 ∨ T = 61) {h v3 : Nat} (hh : h < 10) (hv : v3 = 30) {sz : Nat} {a : Int} {n : Nat} {M : MM} (ha : 0 ≤ a ∧ a ≤ 63) (e2 : M (T + 2) h = a) (e4 : M 4 h = (sz : Int)) (hsz : sz ≤ 60) (hD : ∀ j, 0 ≤ M (6 + h) j ∧ M (6 + h) j ≤ 4) (k : ∀ M1, (∀ c, c ≠ v3 → M1 c = M c) → (∀ i, i ≤ sz → M1 v3 i = posV (M (T + 1)) (M (6 + h)) sz a i) → Q (vi (sz : Int)) M1) : PC sc n m_X10_trace [vr 3, vr T, vi (h : Int), vr v3] M Q := by
  obtain ⟨f1, f2, f3, f4, f5, f6⟩ := FF5 h hh
  have hT2 : T + 1 ≠ v3 ∧ T + 2 ≠ v3 ∧ 4 ≠ v3 ∧ 6 + h ≠ v3 ∧ 5 ≠ v3 := by omega
  have lp : ∀ (m i n : Nat) (M1 : MM), i + m = sz → (∀ c, c ≠ v3 → M1 c = M c) → (∀ j, j ≤ i → M1 v3 j = posV (M (T + 1)) (M (6 + h)) sz a j) → PW sc n m_X10_trace 9 [] [some (vr 3), some (vr T), some (vi (h : Int)), some (vr v3), some (vi (i : Int))] M1 Q := by
    intro m
    induction m with
    | zero =>
      intro i n M1 hi a1 a2
      have hi : i = sz := hi
      subst hi
      refine pw_X10_trace_9 hT _ _ _ M1 fun n2 _ => gMB ?_
      rw [show ((h : Int)).toNat = h by omega, a1 4 hT2.2.2.1, e4]
      exact brT (Int.le_refl _) (gMB (k M1 a1 a2))
    | succ m ih =>
      intro i n M1 hi a1 a2
      refine pw_X10_trace_9 hT _ _ _ M1 fun n2 _ => gMB ?_
      have hr := posV_r (K := M (T + 1)) (D := M (6 + h)) (sz := sz) ha i
      have e1 : M1 v3 i = posV (M (T + 1)) (M (6 + h)) sz a i := a2 i (Nat.le_refl _)
      rw [show ((h : Int)).toNat = h by omega, show ((i : Int)).toNat = i by omega, a1 4 hT2.2.2.1, e4, e1, f1]
      refine brF (by omega) (gMB (gMB (gMB ?_)))
      show PC sc n2 m_X9_after [vr T, vi (posV (M (T + 1)) (M (6 + h)) sz a i), vi (M1 (h + 6) i)] M1 _
      rw [Nat.add_comm h 6, a1 (6 + h) hT2.2.2.2.1]
      refine f_after hT hr (hD i) (cI_i (gMB ?_))
      rw [show w32 ((i : Int) + 1) = ((i + 1 : Nat) : Int) from ew32 (by omega) (by omega), show (((i + 1 : Nat) : Int)).toNat = i + 1 by omega, a1 (T + 1) hT2.1]
      refine ih (i + 1) n2 _ (by omega) (fun c hc => (stK hc).trans (a1 c hc)) fun j hj => ?_
      by_cases e : j = i + 1
      · subst e
        rw [stE, posV_s, if_pos (by omega)]
      · rw [stO e]
        exact a2 j (by omega)
  refine pc_X10_trace hT _ _ M fun n1 _ => gMB (gMB ?_)
  rw [show ((h : Int)).toNat = h by omega, e2]
  refine lp sz 0 n1 _ (Nat.zero_add _) (fun c hc => stK hc) fun j hj => ?_
  have hj : j = 0 := by omega
  subst hj
  exact stE
/- who sees the ghost -/
set_option maxRecDepth 20000 in
theorem f_seesN (hT : T = 57 ∨ T = 61) {R P K : Nat → Int} {sz : Nat} {st : NS} {M : MM} (I : ngI R P sz st M) (hS : ∀ f t : Nat, f < 64 → t < 64 → bil (M (T + 3) f) t = seeB K f t) {g n : Nat} (hg : g < 10) {s : Int} (hs : 0 ≤ s ∧ s ≤ 63) (k0 : ¬ (bit (R 30) g = true ∧ st.2 g = false ∧ seeB K (R g) s = true) → ∀ x : Int, x = 0 → Q (vi x) M) (k1 : bit (R 30) g = true → st.2 g = false → seeB K (R g) s = true → ∀ x : Int, x = 1 → Q (vi x) M) : PC sc n m_X8_sees [vr 25, vr T, vi (g : Int), vi s] M Q := by
  obtain ⟨c1, c2⟩ := I.1 g hg
  refine pc_X8_sees _ _ _ M fun n1 _ => p_isToldN hg (fun h x hx => cI_i (brT hx (k0 (fun z => ?_) 0 rfl))) fun h x hx => cI_i (brF (by omega) ?_)
  · obtain ⟨⟨d1, d2, d3⟩, -⟩ := c1 z.1
    omega
  · rw [show ((g : Int)).toNat = g by omega]
    have b1 : bit (R 30) g = true := by
      cases e : bit (R 30) g
      · exact absurd (c2 e).1 h
      · rfl
    obtain ⟨⟨d1, d2, d3⟩, d4, d5, d6⟩ := c1 b1
    rw [d6, d1]
    cases e : st.2 g
    · refine gMB (brF (by rw [if_neg (by decide)]; decide) (gMB (gMB (f_sees hT ⟨d2, d3⟩ hS (fun q x hx => cI_i (brT hx (k0 (fun z => q ⟨by omega, z.2.2⟩) 0 rfl))) fun _ q x hx => cI_i (brF (by omega) (k1 b1 e q 1 rfl))))))
    · exact gMB (brT (by rw [if_pos rfl]; decide) (k0 (fun z => by rw [e] at z; exact absurd z.2.1 (by decide)) 0 rfl))
theorem ngS_no {R K : Nat → Int} {fw : Nat → Int → Int → Int → Int} {s t : Int} {g : Nat} {st : NS} (h : ¬ (bit (R 30) g = true ∧ st.2 g = false ∧ seeB K (R g) s = true)) : ngS R K fw s t g st = st := if_neg h
/- a row of the reference's times as a NIGHT begins -/
def ngB (R : Nat → Int) : NS := (fun g => R (10 + g), fun g => bit (R 31) g)
set_option maxRecDepth 20000 in
theorem f_startC {N : Nat} (hN : N = 46) {M : MM} {n : Nat} (k : ∀ M1, (∀ c, (c < 24 ∨ 31 < c) → M1 c = M c) → (∀ i, 1 ≤ i → i ≤ 4 → ∀ j, j < 10 → M1 (25 + i) j = M (46 + i) j) → (M1 25 4 = M 46 4 ∧ M1 25 6 = M 46 6 ∧ M1 25 7 = M 46 7) → Q (vi 0) M1) : PC sc n m_X2_start [vr 24, vr 46] M Q := by
  refine pc_X2_start (.inr (.inl rfl)) M fun n1 _ => p_copyC (.inl rfl) (.inr (.inl rfl)) (by decide) fun M1 f1 f2 f3 => ?_
  have lp : ∀ (m i n : Nat) (M2 : MM), i + m = 10 → (∀ c, c ≠ 24 → c ≠ 31 → M2 c = M1 c) → PW sc n m_X2_start 21 [] [some (vr 24), some (vr 46), some (vi (i : Int))] M2 Q := by
    intro m
    induction m with
    | zero =>
      intro i n M2 hi a1
      have hi : i = 10 := hi
      subst hi
      exact pw_X2_start_21 (.inr (.inl rfl)) _ M2 fun n1 _ => brT (by decide) (k M2 (fun c hc => (a1 c (by omega) (by omega)).trans (f1 c (by omega))) (fun i i1 i2 j hj => by rw [a1 _ (by omega) (by omega)]; exact f2 i i1 i2 j hj) (by rw [a1 25 (by decide) (by decide)]; exact f3))
    | succ m ih =>
      intro i n M2 hi a1
      refine pw_X2_start_21 (.inr (.inl rfl)) _ M2 fun n1 _ => ?_
      rw [show w32 ((i : Int) + 1) = ((i + 1 : Nat) : Int) from ew32 (by omega) (by omega)]
      exact brF (by omega) (gMB (ih (i + 1) n1 _ (by omega) fun c c1 c2 => (stK c2).trans (a1 c c1 c2)))
  exact lp 10 0 n1 _ rfl fun c c1 c2 => (stK c1).trans ((stK c1).trans ((stK c1).trans ((stK c1).trans (stK c1))))
/- the class's NIGHT -/
set_option maxRecDepth 20000 in
theorem f_pass (hL : L = 65 ∨ L = 73) (hT : T = 57 ∨ T = 61) {R P K : Nat → Int} {M0 : MM} {q : LC} {cl : CL} (R0 : rL1 M0 L q cl) (W : nwO M0 46 R) (hr : ngR (ngB R)) {h : Nat} (hh : h < 10) {sz : Nat} {a w : Int} (ha : 0 ≤ a ∧ a ≤ 63) (e2 : M0 (T + 2) h = a) (e4 : M0 4 h = (sz : Int)) (hsz : sz ≤ 60) (hD : ∀ j, 0 ≤ M0 (6 + h) j ∧ M0 (6 + h) j ≤ 4) (hP : ∀ i, i ≤ sz → P i = posV (M0 (T + 1)) (M0 (6 + h)) sz a i) (hS : ∀ f t : Nat, f < 64 → t < 64 → bil (M0 (T + 3) f) t = seeB K f t) {n : Nat} (k : ∀ M1, ngF L M0 M1 → ngI R P sz (ngT R K (fwV M0 R h) P (sz + 1) (ngB R)) M1 → Q (vi 0) M1) : PC sc n m_X2_pass [vr 24, vr T, vr 3, vr L, vr 46, vi (h : Int), vi w] M0 Q := by
  have hw : ∀ g s b t, 0 ≤ fwV M0 R h g s b t := fun g s b t => (fwV_r M0 R h g s b t).1
  have hPr : ∀ i, i ≤ sz → 0 ≤ P i ∧ P i ≤ 63 := fun i hi => by
    rw [hP i hi]
    exact posV_r ha i
  have lg : ∀ (t : Nat), t ≤ sz → ∀ st : NS, ngR st → (∀ (n : Nat) (v8 v9 : Int) (M2 : MM), ngF L M0 M2 → ngI R P sz (ngM R K (fwV M0 R h) (P t) t 10 st) M2 → PW sc n m_X2_pass 52 [] [some (vr 24), some (vr T), some (vr 3), some (vr L), some (vr 46), some (vi (h : Int)), some (vi w), some (vi (t : Int)), some (vi v8), some (vi v9)] M2 Q) → ∀ (m i n : Nat) (v8 : Int) (M1 : MM), i + m = 10 → ngF L M0 M1 → ngI R P sz (ngM R K (fwV M0 R h) (P t) t i st) M1 → PW sc n m_X2_pass 21 [] [some (vr 24), some (vr T), some (vr 3), some (vr L), some (vr 46), some (vi (h : Int)), some (vi w), some (vi (t : Int)), some (vi v8), some (vi (i : Int))] M1 Q := by
    intro t ht st hst kk m
    induction m with
    | zero =>
      intro i n v8 M1 hi F I
      have hi : i = 10 := hi
      subst hi
      exact pw_X2_pass_21 hT hL _ _ _ _ _ _ _ M1 fun n1 _ => brT (by decide) (brP (fun _ => kk _ _ _ _ F I) fun _ => kk _ _ _ _ (F.st hL (by decide)) (I.eq (fun c c1 c2 => stK (by omega)) (stO (by decide))))
    | succ m ih =>
      intro i n v8 M1 hi F I
      refine pw_X2_pass_21 hT hL _ _ _ _ _ _ _ M1 fun n1 _ => brF (by omega) (gMB ?_)
      rw [show ((t : Int)).toNat = t by omega, I.2.2.2 t ht, show w32 ((i : Int) + 1) = ((i + 1 : Nat) : Int) from ew32 (by omega) (by omega)]
      have hS1 : ∀ f t : Nat, f < 64 → t < 64 → bil (M1 (T + 3) f) t = seeB K f t := by
        rw [F.1 (T + 3) (by omega) (by omega) (by omega) (by omega)]
        exact hS
      refine f_seesN hT I hS1 (by omega) (hPr t ht) (fun no x hx => cI_i (brT hx (ih (i + 1) n1 v8 M1 (by omega) F ?_))) fun b1 b2 b3 x hx => cI_i (brF (by omega) (f_frighten hL R0 F I (ngM_r hw hst i) (by omega) ht b1 b2 b3 fun M3 F3 I3 => ih (i + 1) n1 1 M3 (by omega) F3 ?_))
      · rw [ngM_s, ngS_no no]
        exact I
      · rw [ngM_s]
        exact I3
  have lt : ∀ (m t n : Nat) (o8 o9 : Option Vv) (M1 : MM), t + m = sz + 1 → ngF L M0 M1 → ngI R P sz (ngT R K (fwV M0 R h) P t (ngB R)) M1 → PW sc n m_X2_pass 13 [] [some (vr 24), some (vr T), some (vr 3), some (vr L), some (vr 46), some (vi (h : Int)), some (vi w), some (vi (t : Int)), o8, o9] M1 Q := by
    intro m
    induction m with
    | zero =>
      intro t n o8 o9 M1 hi F I
      have hi : t = sz + 1 := hi
      subst hi
      refine pw_X2_pass_13 hT hL _ _ _ _ _ _ _ M1 fun n1 _ => ?_
      rw [I.2.2.1]
      refine brT (by omega) (k _ (F.st hL (by decide)) ?_)
      obtain ⟨i1, ⟨i4, i6, i7⟩, i3, i5⟩ := I
      refine ⟨?_, ⟨?_, ?_, ?_⟩, ?_, ?_⟩
      · rw [stK (by decide), stK (by decide), stK (by decide), stK (by decide)]
        exact i1
      · exact (stO (by decide)).trans i4
      · exact (stO (by decide)).trans i6
      · exact (stO (by decide)).trans i7
      · rw [stK (by decide)]
        exact i3
      · rw [stK (by decide)]
        exact i5
    | succ m ih =>
      intro t n o8 o9 M1 hi F I
      refine pw_X2_pass_13 hT hL _ _ _ _ _ _ _ M1 fun n1 _ => ?_
      rw [I.2.2.1]
      refine brF (by omega) (lg t (by omega) _ (ngT_r hw hr t) (fun n v8 v9 M2 F2 I2 => ?_) 10 0 n1 0 M1 rfl F I)
      refine pw_X2_pass_52 hT hL _ _ _ _ _ _ _ M2 fun n2 _ => gMB (f_barksAt hT fun x => cI_i ?_)
      rw [show w32 ((t : Int) + 1) = ((t + 1 : Nat) : Int) from ew32 (by omega) (by omega)]
      exact ih (t + 1) n2 _ _ _ (by omega) (F2.st hL (by decide)) (I2.eq (fun c c1 c2 => stK (by omega)) (stO (by decide)))
  refine pc_X2_pass hT hL _ _ _ _ M0 fun n1 _ => f_startC rfl fun M1 f1 f2 f3 => gMB ?_
  refine f_traceN hT hh rfl ha (by rw [f1 (T + 2) (by omega)]; exact e2) (by rw [f1 4 (by decide)]; exact e4) hsz (by rw [f1 (6 + h) (by omega)]; exact hD) fun M2 g1 g2 => cI_i ?_
  obtain ⟨w1, ⟨w4, w6, w7⟩, w8⟩ := W
  refine lt (sz + 1) 0 n1 none none _ (Nat.zero_add _) ⟨fun c c1 c2 c3 c4 => (stK (by omega)).trans ((g1 c (by omega)).trans (f1 c c1)), fun j _ _ => by rw [stK (by omega), g1 L (by omega), f1 L (by omega)]⟩ ⟨fun g hg => ?_, ⟨?_, ?_, ?_⟩, stE, fun i hi => ?_⟩
  · have z := w1 g hg
    have c := fun i i1 i2 => f2 i i1 i2 g hg
    rw [stK (by decide), stK (by decide), stK (by decide), stK (by decide), g1 26 (by decide), g1 27 (by decide), g1 28 (by decide), g1 29 (by decide)]
    unfold ngG
    unfold nwG at z
    rw [show M1 26 g = M0 47 g from c 1 (by decide) (by decide), show M1 27 g = M0 48 g from c 2 (by decide) (by decide), show M1 28 g = M0 49 g from c 3 (by decide) (by decide), show M1 29 g = M0 50 g from c 4 (by decide) (by decide)]
    exact z
  · rw [stK (by decide), g1 25 (by decide)]
    exact f3.1.trans w4
  · rw [stK (by decide), g1 25 (by decide)]
    exact f3.2.1.trans w6
  · rw [stK (by decide), g1 25 (by decide)]
    exact f3.2.2.trans w7
  · rw [stK (by decide), g2 i hi, hP i hi, f1 (T + 1) (by omega), f1 (6 + h) (by omega)]
end NGC
