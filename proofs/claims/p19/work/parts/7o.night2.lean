/-! PART 7o: the reference's NIGHT -/
set_option maxRecDepth 100000 in
theorem pc_X12_minuteOf {sc : List Int} {n : Nat} {Q : Vv → MM → Prop} (v1 : Int) (v2 : Int) (v3 : Int) (M : MM) (h : ∀ n1, n1 < n → PW sc n1 m_X12_minuteOf 4 [] [some (vr 81), some (vi v1), some (vi v2), some (vi v3), some (vi 0), some (vi 0), none, none] M Q) : PC sc n m_X12_minuteOf [vr 81, vi v1, vi v2, vi v3] M Q := pc_go rfl (fun j => Nat.beq j 4 || Nat.beq j 140) 184 h
set_option maxRecDepth 100000 in
theorem pw_X12_minuteOf_4 {sc : List Int} {n : Nat} {Q : Vv → MM → Prop} (v1 : Int) (v2 : Int) (v3 : Int) (v4 : Int) (v5 : Int) (o6 : Option Vv) (o7 : Option Vv) (M : MM) (h : ∀ n1, n1 < n → brA (decide (10 ≤ v5))
  (brA (decide (v4 = 0))
   (PW sc n1 m_X12_minuteOf 140 [] [some (vr 81), some (vi v1), some (vi v2), some (vi v3), some (vi v4), some (vi 0), o6, o7] (stM M 81 48 (w32 ((M 81 48) + 0))) Q)
   (PW sc n1 m_X12_minuteOf 140 [] [some (vr 81), some (vi v1), some (vi v2), some (vi v3), some (vi v4), some (vi 0), o6, o7] (stM M 81 48 (w32 ((M 81 48) + 1))) Q))
  (PC sc n1 m_X12_isThere [vr 81, vi v5] M (cI fun r2 M1 =>
   brA (decide (r2 = 0))
    (PW sc n1 m_X12_minuteOf 4 [] [some (vr 81), some (vi v1), some (vi v2), some (vi v3), some (vi v4), some (vi (w32 (v5 + 1))), o6, o7] M1 Q)
    (gIm (decide (0 ≤ (w32 (0 + v5))) && decide ((w32 (0 + v5)) < 36)) (PC sc n1 m_X12_isSeen [vr 81, vi (M1 82 (w32 (0 + v5)).toNat), vi v2] M1 (cI fun r4 M3 =>
     brA (decide (r4 ≠ 0))
      (gIm (decide (0 ≤ (w32 (10 + v5))) && decide ((w32 (10 + v5)) < 36)) (PC sc n1 m_X12_fearOf [vr 81, vi v1, vi v5, vi v2, vi v3] M3 (cI fun r6 M5 =>
       PC sc n1 m_X12_min [vi (w32 (999 - (M3 82 (w32 (10 + v5)).toNat))), vi r6] M5 (cI fun r8 M7 =>
        PC sc n1 m_X12_feelsStranger [vr 81, vi v1, vi v5, vi v2, vi v3] M7 (fun _ M9 =>
         PC sc n1 m_X12_byLaw [vr 81, vi 99, vi 999] M9 (cI fun r11 M10 =>
          gIm (decide (0 ≤ (w32 (10 + v5))) && decide ((w32 (10 + v5)) < 36)) (gIm (decide (0 ≤ (w32 (10 + v5))) && decide ((w32 (10 + v5)) < 36)) (gIm (decide (0 ≤ (w32 (10 + v5))) && decide ((w32 (10 + v5)) < 36)) (gIm (decide (0 ≤ (w32 (20 + v5))) && decide ((w32 (20 + v5)) < 36)) (brA (decide (((stM M10 82 ((w32 (10 + v5)).toNat) (w32 ((M10 82 (w32 (10 + v5)).toNat) + r8))) 82 (w32 (20 + v5)).toNat) ≤ ((stM M10 82 ((w32 (10 + v5)).toNat) (w32 ((M10 82 (w32 (10 + v5)).toNat) + r8))) 82 (w32 (10 + v5)).toNat)))
           (gIm (decide (0 ≤ v5) && decide (v5 < 10)) (PW sc n1 m_X12_minuteOf 4 [] [some (vr 81), some (vi v1), some (vi v2), some (vi v3), some (vi 1), some (vi (w32 (v5 + 1))), some (vi r8), some (vi r11)] (stM (stM (stM (stM (stM (stM (stM M10 82 ((w32 (10 + v5)).toNat) (w32 ((M10 82 (w32 (10 + v5)).toNat) + r8))) 81 49 (w32 ((M10 81 49) + r8))) 82 31 (bOr ((stM M10 82 ((w32 (10 + v5)).toNat) (w32 ((M10 82 (w32 (10 + v5)).toNat) + r8))) 82 31) (bShl 1 v5))) 82 33 (w32 (((stM M10 82 ((w32 (10 + v5)).toNat) (w32 ((M10 82 (w32 (10 + v5)).toNat) + r8))) 82 33) + r11))) 81 45 (w32 ((M10 81 45) + r11))) 81 46 (bOr (M10 81 46) (bShl 1 v5))) 110 (v5.toNat) v3) Q))
           (PW sc n1 m_X12_minuteOf 4 [] [some (vr 81), some (vi v1), some (vi v2), some (vi v3), some (vi 1), some (vi (w32 (v5 + 1))), some (vi r8), some (vi r11)] (stM (stM M10 82 ((w32 (10 + v5)).toNat) (w32 ((M10 82 (w32 (10 + v5)).toNat) + r8))) 81 49 (w32 ((M10 81 49) + r8))) Q)))))))))))
      (PW sc n1 m_X12_minuteOf 4 [] [some (vr 81), some (vi v1), some (vi v2), some (vi v3), some (vi v4), some (vi (w32 (v5 + 1))), o6, o7] M3 Q))))))) : PW sc n m_X12_minuteOf 4 [] [some (vr 81), some (vi v1), some (vi v2), some (vi v3), some (vi v4), some (vi v5), o6, o7] M Q := pw_go rfl (fun j => Nat.beq j 4 || Nat.beq j 140) 184 h
set_option maxRecDepth 100000 in
theorem pw_X12_minuteOf_140 {sc : List Int} {n : Nat} {Q : Vv → MM → Prop} (v1 : Int) (v2 : Int) (v3 : Int) (v4 : Int) (v5 : Int) (o6 : Option Vv) (o7 : Option Vv) (M : MM) (h : ∀ n1, n1 < n → brA (decide (10 ≤ v5))
  (Q (vi 0) M)
  (brA (decide (v5 = v1))
   (PW sc n1 m_X12_minuteOf 140 [] [some (vr 81), some (vi v1), some (vi v2), some (vi v3), some (vi v4), some (vi (w32 (v5 + 1))), o6, o7] M Q)
   (PC sc n1 m_X12_hasSpot [vr 81, vi v5] M (cI fun r2 M1 =>
    brA (decide (r2 = 0))
     (PW sc n1 m_X12_minuteOf 140 [] [some (vr 81), some (vi v1), some (vi v2), some (vi v3), some (vi v4), some (vi (w32 (v5 + 1))), o6, o7] M1 Q)
     (PC sc n1 m_X12_has [vi (M1 81 8), vi v5] M1 (cI fun r4 M3 =>
      brA (decide (r4 = 0))
       (PW sc n1 m_X12_minuteOf 140 [] [some (vr 81), some (vi v1), some (vi v2), some (vi v3), some (vi v4), some (vi (w32 (v5 + 1))), o6, o7] M3 Q)
       (PC sc n1 m_X12_has [vi (M3 82 32), vi v5] M3 (cI fun r6 M5 =>
        brA (decide (r6 ≠ 0))
         (PW sc n1 m_X12_minuteOf 140 [] [some (vr 81), some (vi v1), some (vi v2), some (vi v3), some (vi v4), some (vi (w32 (v5 + 1))), o6, o7] M5 Q)
         (gIm (decide (0 ≤ v5) && decide (v5 < 10)) (PC sc n1 m_X12_farOf [vi (M5 86 v5.toNat), vi v2] M5 (cI fun r8 M7 =>
          brA (decide (2 ≤ r8))
           (PW sc n1 m_X12_minuteOf 140 [] [some (vr 81), some (vi v1), some (vi v2), some (vi v3), some (vi v4), some (vi (w32 (v5 + 1))), o6, o7] M7 Q)
           (PW sc n1 m_X12_minuteOf 140 [] [some (vr 81), some (vi v1), some (vi v2), some (vi v3), some (vi v4), some (vi (w32 (v5 + 1))), o6, o7] (stM M7 81 47 (w32 ((M7 81 47) + 1))) Q)))))))))))) : PW sc n m_X12_minuteOf 140 [] [some (vr 81), some (vi v1), some (vi v2), some (vi v3), some (vi v4), some (vi v5), o6, o7] M Q := pw_go rfl (fun j => Nat.beq j 4 || Nat.beq j 140) 184 h
theorem pc_X12_nightOf {sc : List Int} {n : Nat} {Q : Vv → MM → Prop} (v1 : Int) (M : MM) (h : ∀ n1, n1 < n → PW sc n1 m_X12_nightOf 17 [] [some (vr 81), some (vi v1), some (vi 0), none] (stM (stM (stM (stM (stM M 81 45 0) 81 46 0) 81 47 0) 81 48 0) 81 49 0) Q) : PC sc n m_X12_nightOf [vr 81, vi v1] M Q := pc_go rfl (fun j => Nat.beq j 17 || Nat.beq j 34 || Nat.beq j 56) 84 h
theorem pw_X12_nightOf_17 {sc : List Int} {n : Nat} {Q : Vv → MM → Prop} (v1 : Int) (v2 : Int) (o3 : Option Vv) (M : MM) (h : ∀ n1, n1 < n → brA (decide (10 ≤ v2))
  (gIm (decide (0 ≤ v1) && decide (v1 < 10)) (PW sc n1 m_X12_nightOf 34 [] [some (vr 81), some (vi v1), some (vi (M 86 v1.toNat)), some (vi 0)] M Q))
  (gIm (decide (0 ≤ v2) && decide (v2 < 10)) (PW sc n1 m_X12_nightOf 17 [] [some (vr 81), some (vi v1), some (vi (w32 (v2 + 1))), o3] (stM M 110 (v2.toNat) ((-2))) Q))) : PW sc n m_X12_nightOf 17 [] [some (vr 81), some (vi v1), some (vi v2), o3] M Q := pw_go rfl (fun j => Nat.beq j 17 || Nat.beq j 34 || Nat.beq j 56) 84 h
theorem pw_X12_nightOf_34 {sc : List Int} {n : Nat} {Q : Vv → MM → Prop} (v1 : Int) (v2 : Int) (v3 : Int) (M : MM) (h : ∀ n1, n1 < n → gIm (decide (0 ≤ v1) && decide (v1 < 10)) (brA (decide ((M 88 v1.toNat) < v3))
  (Q (vi 0) (stM M 82 34 (w32 ((M 82 34) + 1))))
  (brA (decide (v3 ≤ 0))
   (PW sc n1 m_X12_nightOf 56 [] [some (vr 81), some (vi v1), some (vi v2), some (vi v3)] M Q)
   (gIm (decide (0 ≤ (w32 ((w32 ((w32 (60 * v1)) + v3)) - 1))) && decide ((w32 ((w32 ((w32 (60 * v1)) + v3)) - 1)) < 600)) (PC sc n1 m_X12_stepTo [vr 81, vi v2, vi (M 89 (w32 ((w32 ((w32 (60 * v1)) + v3)) - 1)).toNat)] M (cI fun r2 M1 =>
    PW sc n1 m_X12_nightOf 56 [] [some (vr 81), some (vi v1), some (vi r2), some (vi v3)] M1 Q)))))) : PW sc n m_X12_nightOf 34 [] [some (vr 81), some (vi v1), some (vi v2), some (vi v3)] M Q := pw_go rfl (fun j => Nat.beq j 17 || Nat.beq j 34 || Nat.beq j 56) 84 h
theorem pw_X12_nightOf_56 {sc : List Int} {n : Nat} {Q : Vv → MM → Prop} (v1 : Int) (v2 : Int) (v3 : Int) (M : MM) (h : ∀ n1, n1 < n → gIm (decide (0 ≤ v3) && decide (v3 < 61)) (PC sc n1 m_X12_minuteOf [vr 81, vi v1, vi v2, vi v3] (stM M 111 (v3.toNat) v2) (fun _ M1 =>
  PW sc n1 m_X12_nightOf 34 [] [some (vr 81), some (vi v1), some (vi v2), some (vi (w32 (v3 + 1)))] M1 Q))) : PW sc n m_X12_nightOf 56 [] [some (vr 81), some (vi v1), some (vi v2), some (vi v3)] M Q := pw_go rfl (fun j => Nat.beq j 17 || Nat.beq j 34 || Nat.beq j 56) 84 h
theorem pc_X12_isThere {sc : List Int} {n : Nat} {Q : Vv → MM → Prop} (v1 : Int) (M : MM) (h : ∀ n1, n1 < n → PC sc n1 m_X12_isTold [vr 81, vi v1] M (cI fun r2 M1 =>
  brA (decide (r2 = 0))
   (Q (vi 0) M1)
   (PC sc n1 m_X12_has [vi (M1 82 31), vi v1] M1 (cI fun r4 M3 =>
    brA (decide (r4 ≠ 0))
     (Q (vi 0) M3)
     (Q (vi 1) M3))))) : PC sc n m_X12_isThere [vr 81, vi v1] M Q := pc_go rfl (fun j => false) 20 h
theorem pc_X12_min {sc : List Int} {n : Nat} {Q : Vv → MM → Prop} (v0 : Int) (v1 : Int) (M : MM) (h : ∀ n1, n1 < n → brA (decide (v1 ≤ v0))
  (Q (vi v1) M)
  (Q (vi v0) M)) : PC sc n m_X12_min [vi v0, vi v1] M Q := pc_go rfl (fun j => false) 12 h
section NGM
variable {sc : List Int} {Q : Vv → MM → Prop}
/- what a NIGHT of the reference leaves as it was -/
def rgF (M0 M : MM) : Prop := (∀ c, c ≠ 81 → c ≠ 82 → (c < 108 ∨ 111 < c) → M c = M0 c) ∧ ∀ j, (j < 45 ∨ 49 < j) → M 81 j = M0 81 j
theorem rgF.fr {M0 M M1 : MM} (f : rgF M0 M) (h : ∀ c, c ≠ 81 → c ≠ 82 → (c < 108 ∨ 111 < c) → M1 c = M c) (h1 : ∀ j, (j < 45 ∨ 49 < j) → M1 81 j = M 81 j) : rgF M0 M1 := ⟨fun c c1 c2 c3 => (h c c1 c2 c3).trans (f.1 c c1 c2 c3), fun j hj => (h1 j hj).trans (f.2 j hj)⟩
theorem rgF.st {M0 M : MM} (f : rgF M0 M) {k j : Nat} {v : Int} (hk : k = 82 ∨ (108 ≤ k ∧ k ≤ 111) ∨ (k = 81 ∧ 45 ≤ j ∧ j ≤ 49)) : rgF M0 (stM M k j v) := f.fr (fun c c1 c2 c3 => stK (by omega)) fun i hi => by rw [stM_at, if_neg (by omega)]
theorem rgF.J {M0 M : MM} (f : rgF M0 M) (J : lwJ M0) : lwJ M := J.eq (f.2 19 (by decide)) fun c c1 c2 => f.1 c (by omega) (by omega) (by omega)
/- the reference within a NIGHT -/
def rgI (R : Nat → Int) (st : NS) (M : MM) : Prop := (∀ g, g < 10 → M 82 (10 + g) = st.1 g ∧ bit (M 82 31) g = st.2 g) ∧ ∀ j, j < 36 → (j < 10 ∨ 20 ≤ j) → j ≠ 31 → j ≠ 33 → M 82 j = R j
theorem rgI.eq {R : Nat → Int} {st : NS} {M M1 : MM} (I : rgI R st M) (h : M1 82 = M 82) : rgI R st M1 := by
  unfold rgI
  rw [h]
  exact I
set_option maxRecDepth 20000 in
theorem p_isThereM {g n : Nat} (hg : g < 10) {M : MM} (k0 : ¬ (bit (M 82 30) g = true ∧ bit (M 82 31) g = false) → ∀ x : Int, x = 0 → Q (vi x) M) (k1 : bit (M 82 30) g = true → bit (M 82 31) g = false → ∀ x : Int, x = 1 → Q (vi x) M) : PC sc n m_X12_isThere [vr 81, vi (g : Int)] M Q := pc_X12_isThere _ M fun n1 _ => p_isToldM hg (fun q x hx => cI_i (brT hx (k0 (fun z => absurd (q.symm.trans z.1) (by decide)) 0 rfl))) fun q x hx => cI_i (brF (by omega) (p_has (by omega) (fun q2 y hy => cI_i (brF (by omega) (k1 q q2 1 rfl))) fun q2 y hy => cI_i (brT (by omega) (k0 (fun z => absurd (q2.symm.trans z.2) (by decide)) 0 rfl))))
set_option maxRecDepth 20000 in
theorem f_barksM {h s t v : Int} {M0 : MM} (k : ∀ M1, (∀ c, c ≠ 81 → M1 c = M0 c) → (∀ j, j ≠ 47 → M1 81 j = M0 81 j) → Q (vi 0) M1) : ∀ (n : Nat) (b : Int) (o6 o7 : Option Vv) (M : MM), (∀ c, c ≠ 81 → M c = M0 c) → (∀ j, j ≠ 47 → M 81 j = M0 81 j) → PW sc n m_X12_minuteOf 140 [] [some (vr 81), some (vi h), some (vi s), some (vi t), some (vi v), some (vi b), o6, o7] M Q := by
  intro n
  induction n using Nat.strongRecOn with
  | ind n ih =>
    intro b o6 o7 M f1 f2
    have hb : ∀ (x y : Int) (n : Nat) (M : MM) (Q : Vv → MM → Prop), (∀ x : Int, Q (vi x) M) → PC sc n m_X12_has [vi x, vi y] M Q := fun x y n M Q k => pc_X12_has _ _ M fun _ _ => brP (fun _ => k _) fun _ => k _
    have hs : ∀ (y : Int) (n : Nat) (M : MM) (Q : Vv → MM → Prop), (∀ x : Int, Q (vi x) M) → PC sc n m_X12_hasSpot [vr 81, vi y] M Q := fun y n M Q k => f_hasSpotM (fun _ x _ => k x) fun _ x _ => k x
    refine pw_X12_minuteOf_140 _ _ _ _ _ _ _ M fun n1 h1 => brP (fun _ => k M f1 f2) fun _ => brP (fun _ => ih n1 h1 _ _ _ M f1 f2) fun _ => hs _ _ _ _ fun x => cI_i (brP (fun _ => ih n1 h1 _ _ _ M f1 f2) fun _ => hb _ _ _ _ _ fun x2 => cI_i (brP (fun _ => ih n1 h1 _ _ _ M f1 f2) fun _ => hb _ _ _ _ _ fun x3 => cI_i (brP (fun _ => ih n1 h1 _ _ _ M f1 f2) fun _ => gMB (f_farOf (cI_i (brP (fun _ => ih n1 h1 _ _ _ M f1 f2) fun _ => ih n1 h1 _ _ _ _ (fun c hc => (stK hc).trans (f1 c hc)) fun j hj => (stO hj).trans (f2 j hj))))))) 
theorem cap_min {f w : Int} (hf : 0 ≤ f ∧ f ≤ 999) (hw : 0 ≤ w ∧ w ≤ 99) : w32 (f + (if w ≤ w32 (999 - f) then w else w32 (999 - f))) = capV f w := by
  rw [show w32 (999 - f) = 999 - f from ew32 (by omega) (by omega)]
  unfold capV
  by_cases h : w ≤ 999 - f
  · rw [if_pos h, if_pos (by omega)]
    exact ew32 (by omega) (by omega)
  · rw [if_neg h, if_neg (by omega), ew32 (by omega) (by omega)]
    omega
/- a MINUTE of the reference -/
set_option maxRecDepth 20000 in
theorem f_minuteM {R : Nat → Int} {M0 : MM} (J : lwJ M0) (hR : ∀ g, g < 10 → bit (R 30) g = true → 0 ≤ R g ∧ R g < 64) {h s t : Int} (hs : 0 ≤ s ∧ s ≤ 63) {st : NS} (hr : ngR st) {n : Nat} {M : MM} (F : rgF M0 M) (I : rgI R st M) (k : ∀ M1, rgF M0 M1 → rgI R (ngM R (M0 85) (fwV M0 R h) s t 10 st) M1 → Q (vi 0) M1) : PC sc n m_X12_minuteOf [vr 81, vi h, vi s, vi t] M Q := by
  have hw : ∀ g s b t, 0 ≤ fwV M0 R h g s b t := fun g s b t => (fwV_r M0 R h g s b t).1
  have lp : ∀ (m i n : Nat) (v4 : Int) (o6 o7 : Option Vv) (M : MM), i + m = 10 → rgF M0 M → rgI R (ngM R (M0 85) (fwV M0 R h) s t i st) M → PW sc n m_X12_minuteOf 4 [] [some (vr 81), some (vi h), some (vi s), some (vi t), some (vi v4), some (vi (i : Int)), o6, o7] M Q := by
    intro m
    induction m with
    | zero =>
      intro i n v4 o6 o7 M hi F I
      have hi : i = 10 := hi
      subst hi
      have fin : ∀ (n : Nat) (v : Int), PW sc n m_X12_minuteOf 140 [] [some (vr 81), some (vi h), some (vi s), some (vi t), some (vi v4), some (vi 0), o6, o7] (stM M 81 48 v) Q := fun n v => f_barksM (M0 := stM M 81 48 v) (fun M1 f1 f2 => k M1 ((F.st (.inr (.inr (by decide)))).fr (fun c c1 _ _ => f1 c c1) fun j hj => f2 j (by omega)) (I.eq ((f1 82 (by decide)).trans (stK (by decide))))) n 0 o6 o7 _ (fun _ _ => rfl) fun _ _ => rfl
      exact pw_X12_minuteOf_4 _ _ _ _ _ _ _ M fun n1 _ => brT (by decide) (brP (fun _ => fin _ _) fun _ => fin _ _)
    | succ m ih =>
      intro i n v4 o6 o7 M hi F I
      have hi10 : i < 10 := by omega
      have e0 : w32 (0 + (i : Int)) = (i : Int) := by rw [Int.zero_add]; exact ew32 (by omega) (by omega)
      have e10 : w32 (10 + (i : Int)) = ((10 + i : Nat) : Int) := ew32 (by omega) (by omega)
      have e20 : w32 (20 + (i : Int)) = ((20 + i : Nat) : Int) := ew32 (by omega) (by omega)
      obtain ⟨st1, hst1⟩ : ∃ x, x = ngM R (M0 85) (fwV M0 R h) s t i st := ⟨_, rfl⟩
      have hr1 : ngR st1 := by rw [hst1]; exact ngM_r hw hr i
      have ih2 : ∀ (n : Nat) (v4 : Int) (o6 o7 : Option Vv) (M : MM), rgF M0 M → rgI R (ngS R (M0 85) (fwV M0 R h) s t i st1) M → PW sc n m_X12_minuteOf 4 [] [some (vr 81), some (vi h), some (vi s), some (vi t), some (vi v4), some (vi ((i + 1 : Nat) : Int)), o6, o7] M Q := fun n v4 o6 o7 M F I => ih (i + 1) n v4 o6 o7 M (by omega) F (by rw [ngM_s, ← hst1]; exact I)
      rw [← hst1] at I
      clear ih hst1
      refine pw_X12_minuteOf_4 _ _ _ _ _ _ _ M fun n1 _ => brF (by omega) ?_
      rw [e0, e10, e20, show ((i : Int)).toNat = i by omega, show (((10 + i : Nat) : Int)).toNat = 10 + i by omega, show (((20 + i : Nat) : Int)).toNat = 20 + i by omega, show w32 ((i : Int) + 1) = ((i + 1 : Nat) : Int) from ew32 (by omega) (by omega)]
      have x30 : M 82 30 = R 30 := I.2 30 (by decide) (by decide) (by decide) (by decide)
      have xg : M 82 i = R i := I.2 i (by omega) (by omega) (by omega) (by omega)
      obtain ⟨xf, xp⟩ := I.1 i hi10
      have x20 : M 82 (20 + i) = R (20 + i) := I.2 (20 + i) (by omega) (by omega) (by omega) (by omega)
      have x34 : M 82 34 = R 34 := I.2 34 (by decide) (by decide) (by decide) (by decide)
      have e85 : M 85 = M0 85 := F.1 85 (by decide) (by decide) (by decide)
      refine p_isThereM hi10 (fun q x hx => cI_i (brT hx (ih2 n1 v4 o6 o7 M F ?_))) fun b1 b2 x hx => cI_i (brF (by omega) (gMB ?_))
      · rw [ngS_no]
        · exact I
        · intro z
          exact q ⟨by rw [x30]; exact z.1, by rw [xp]; exact z.2.1⟩
      rw [x30] at b1
      rw [xp] at b2
      have rg := hR i hi10 b1
      rw [xg]
      refine f_isSeen ⟨rg.1, by omega⟩ hs (fun b3 y hy => cI_i (brF (by omega) (ih2 n1 v4 o6 o7 M F ?_))) fun b3 y hy => cI_i (brT (by omega) (gMB ?_))
      · rw [e85] at b3
        rw [ngS_no fun z => absurd (b3.symm.trans z.2.2) (by decide)]
        exact I
      rw [e85] at b3
      refine f_fearOfM hi10 (F.J J) fun M5 f5 => cI_i ?_
      have ew : bl M (Fst h (M 82 34) i (faO (M 82 i) s) (M 82 (10 + i)) (M 82 (20 + i)) t) 102 99 = fwV M0 R h i s (st1.1 i) t := by
        rw [x34, xg, xf, x20]
        exact bl_eq (F.2 19 (by decide)) (fun c c1 c2 => F.1 c (by omega) (by omega) (by omega)) _ _ _
      rw [ew, xf]
      have eS : ngS R (M0 85) (fwV M0 R h) s t i st1 = (fun j => if j = i then capV (st1.1 i) (fwV M0 R h i s (st1.1 i) t) else st1.1 j, fun j => if j = i then decide (R (20 + i) ≤ capV (st1.1 i) (fwV M0 R h i s (st1.1 i) t)) else st1.2 j) := by
        unfold ngS
        rw [if_pos ⟨b1, b2, b3⟩]
      rw [eS] at ih2
      have hwr := fwV_r M0 R h i s (st1.1 i) t
      have hfr := hr1 i hi10
      clear eS ew
      generalize fwV M0 R h i s (st1.1 i) t = w at ih2 hwr ⊢
      have F5 : rgF M0 M5 := F.fr (fun c _ _ c3 => f5 c (by omega) (by omega)) fun j _ => by rw [f5 81 (by decide) (by decide)]
      have I5 : rgI R st1 M5 := I.eq (f5 82 (by decide) (by decide))
      have step : ∀ r8 : Int, r8 = (if w ≤ w32 (999 - st1.1 i) then w else w32 (999 - st1.1 i)) → cI (fun r8 M7 => PC sc n1 m_X12_feelsStranger [vr 81, vi h, vi (i : Int), vi s, vi t] M7 fun _ M9 => PC sc n1 m_X12_byLaw [vr 81, vi 99, vi 999] M9 (cI fun r11 M10 => gIm (decide (0 ≤ ((10 + i : Nat) : Int)) && decide (((10 + i : Nat) : Int) < 36)) (gIm (decide (0 ≤ ((10 + i : Nat) : Int)) && decide (((10 + i : Nat) : Int) < 36)) (gIm (decide (0 ≤ ((10 + i : Nat) : Int)) && decide (((10 + i : Nat) : Int) < 36)) (gIm (decide (0 ≤ ((20 + i : Nat) : Int)) && decide (((20 + i : Nat) : Int) < 36)) (brA (decide (((stM M10 82 (10 + i) (w32 ((M10 82 (10 + i)) + r8))) 82 (20 + i)) ≤ ((stM M10 82 (10 + i) (w32 ((M10 82 (10 + i)) + r8))) 82 (10 + i)))) (gIm (decide (0 ≤ (i : Int)) && decide ((i : Int) < 10)) (PW sc n1 m_X12_minuteOf 4 [] [some (vr 81), some (vi h), some (vi s), some (vi t), some (vi 1), some (vi ((i + 1 : Nat) : Int)), some (vi r8), some (vi r11)] (stM (stM (stM (stM (stM (stM (stM M10 82 (10 + i) (w32 ((M10 82 (10 + i)) + r8))) 81 49 (w32 ((M10 81 49) + r8))) 82 31 (bOr ((stM M10 82 (10 + i) (w32 ((M10 82 (10 + i)) + r8))) 82 31) (bShl 1 (i : Int)))) 82 33 (w32 (((stM M10 82 (10 + i) (w32 ((M10 82 (10 + i)) + r8))) 82 33) + r11))) 81 45 (w32 ((M10 81 45) + r11))) 81 46 (bOr (M10 81 46) (bShl 1 (i : Int)))) 110 i t) Q)) (PW sc n1 m_X12_minuteOf 4 [] [some (vr 81), some (vi h), some (vi s), some (vi t), some (vi 1), some (vi ((i + 1 : Nat) : Int)), some (vi r8), some (vi r11)] (stM (stM M10 82 (10 + i) (w32 ((M10 82 (10 + i)) + r8))) 81 49 (w32 ((M10 81 49) + r8))) Q))))))) (vi r8) M5 := fun r8 h8 => cI_i (f_feelsStrangerM hi10 fun M9 f9 t9 => by
        have J9 : lwJ M9 := (F5.J J).eq (congrFun (f9 81 (by decide)) 19) fun c c1 c2 => f9 c (by omega)
        refine f_byLawM (by decide) J9.1 J9.2.1 J9.2.2 t9 fun M10 f10 => cI_i (gMB (gMB (gMB (gMB ?_))))
        have e82 : M10 82 = M5 82 := (f10 82 (by decide)).trans (f9 82 (by decide))
        have F10 : rgF M0 M10 := F5.fr (fun c _ _ c3 => (f10 c (by omega)).trans (f9 c (by omega))) fun j _ => by rw [f10 81 (by decide), f9 81 (by decide)]
        have I10 : rgI R st1 M10 := I5.eq e82
        obtain ⟨yf, yp⟩ := I10.1 i hi10
        have y20 : M10 82 (20 + i) = R (20 + i) := I10.2 (20 + i) (by omega) (by omega) (by omega) (by omega)
        have ex : w32 (M10 82 (10 + i) + r8) = capV (st1.1 i) w := by
          rw [yf, h8]
          exact cap_min hfr hwr
        rw [ex, stE, stO (by omega), y20]
        clear ex
        generalize capV (st1.1 i) w = x at ih2 ⊢
        have main : ∀ (M3 : MM) (d : Bool), (∀ j, j < 36 → j ≠ 10 + i → j ≠ 31 → j ≠ 33 → M3 82 j = M10 82 j) → M3 82 (10 + i) = x → (∀ g, g < 10 → bit (M3 82 31) g = (if g = i then d else bit (M10 82 31) g)) → decide (R (20 + i) ≤ x) = d → rgI R (fun j => if j = i then x else st1.1 j, fun j => if j = i then decide (R (20 + i) ≤ x) else st1.2 j) M3 := fun M3 d a1 a2 a3 a4 => by
          refine ⟨fun g hg => ?_, fun j j1 j2 j3 j4 => (a1 j j1 (by omega) j3 j4).trans (I10.2 j j1 j2 j3 j4)⟩
          show M3 82 (10 + g) = (if g = i then x else st1.1 g) ∧ bit (M3 82 31) g = (if g = i then decide (R (20 + i) ≤ x) else st1.2 g)
          rw [a3 g hg, a4]
          by_cases e : g = i
          · subst e
            rw [if_pos rfl, if_pos rfl, if_pos rfl]
            exact ⟨a2, rfl⟩
          · rw [if_neg e, if_neg e, if_neg e, a1 (10 + g) (by omega) (by omega) (by omega) (by omega)]
            exact I10.1 g hg
        refine brP (fun hge => gMB (ih2 _ _ _ _ _ (((((((F10.st (.inl rfl)).st (.inr (.inr (by decide)))).st (.inl rfl)).st (.inl rfl)).st (.inr (.inr (by decide)))).st (.inr (.inr (by decide)))).st (.inr (.inl (by decide)))) (main _ true (fun j j1 j2 j3 j4 => ?_) ?_ (fun g hg => ?_) (decide_eq_true hge)))) fun hlt => ih2 _ _ _ _ _ ((F10.st (.inl rfl)).st (.inr (.inr (by decide)))) (main _ false (fun j j1 j2 j3 j4 => ?_) ?_ (fun g hg => ?_) (decide_eq_false hlt))
        · rw [stK (by decide), stK (by decide), stK (by decide), stO j4, stO j3, stK (by decide), stO j2]
        · rw [stK (by decide), stK (by decide), stK (by decide), stO (by omega), stO (by omega), stK (by decide)]
          exact stE
        · rw [stK (by decide), stK (by decide), stK (by decide), stO (by decide), stE, bit_set hi10 hg, stO (by omega)]
          by_cases e : g = i
          · subst e
            rw [if_pos rfl, decide_eq_true rfl, Bool.or_true]
          · rw [if_neg e, decide_eq_false e, Bool.or_false]
        · rw [stK (by decide), stO j2]
        · rw [stK (by decide)]
          exact stE
        · rw [stK (by decide), stO (by omega)]
          by_cases e : g = i
          · subst e
            rw [if_pos rfl, yp, b2]
          · rw [if_neg e])
      refine pc_X12_min _ _ M5 fun _ _ => brP (fun q => step _ (by rw [if_pos q])) fun q => step _ (by rw [if_neg q])
  exact pc_X12_minuteOf _ _ _ M fun n1 _ => lp 10 0 n1 0 none none M rfl F I
end NGM
