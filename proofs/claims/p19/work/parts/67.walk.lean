/-! PART 67: the text of a WALK, read by the class -/
theorem pc_X11_walk {sc : List Int} {n : Nat} {Q : Vv → MM → Prop} (v1 : Int) (v2 : Int) (M : MM) (h : ∀ n1, n1 < n → PC sc n1 m_X11_isHouse [vi v1] M (cI fun r2 M1 =>
  brA (decide (r2 = 0))
   (Q (vi ((-1))) M1)
   (PC sc n1 m_X7_hasText [vr 1, vi v2, vi 80] M1 (cI fun r4 M3 =>
    brA (decide (r4 ≠ 0))
     (PC sc n1 m_X10_read [vr 3, vr 1, vi v2, vi v1] M3 (cI fun r6 M5 =>
      PC sc n1 m_X7_empty [vr 1] M5 (fun _ M7 =>
       Q (vi r6) M7)))
     (Q (vi ((-1))) M3))))) : PC sc n m_X11_walk [vr 0, vi v1, vi v2] M Q := pc_go rfl (fun j => false) 29 h
theorem pc_X10_read {sc : List Int} {n : Nat} {Q : Vv → MM → Prop} (v2 : Int) (v3 : Int) (M : MM) (h : ∀ n1, n1 < n → PW sc n1 m_X10_read 14 [] [some (vr 3), some (vr 1), some (vi v2), some (vi v3), some (vi 0), none] (stM (stM (stM (stM M 3 8 0) 3 9 0) 3 10 0) 3 12 0) Q) : PC sc n m_X10_read [vr 3, vr 1, vi v2, vi v3] M Q := pc_go rfl (fun j => Nat.beq j 14 || Nat.beq j 42) 72 h
theorem pw_X10_read_14 {sc : List Int} {n : Nat} {Q : Vv → MM → Prop} (v2 : Int) (v3 : Int) (v4 : Int) (o5 : Option Vv) (M : MM) (h : ∀ n1, n1 < n → brA (decide (v2 ≤ v4))
  (brA (decide ((M 3 10) ≠ 0))
   (PC sc n1 m_X11_faultAt [vi 1, vi v2] M (cI fun r2 M1 =>
    Q (vi r2) M1))
   (brA (decide ((M 3 9) ≤ 0))
    (PW sc n1 m_X10_read 42 [] [some (vr 3), some (vr 1), some (vi v2), some (vi v3), some (vi 0), o5] M Q)
    (PC sc n1 m_X11_faultAt [vi 1, vi v2] M (cI fun r4 M3 =>
     Q (vi r4) M3))))
  (PC sc n1 m_X7_at [vr 1, vi v4] M (cI fun r6 M5 =>
   PC sc n1 m_X10_take [vr 3, vi r6, vi v4] M5 (cI fun r8 M7 =>
    brA (decide (0 ≤ r8))
     (PW sc n1 m_X10_read 14 [] [some (vr 3), some (vr 1), some (vi v2), some (vi v3), some (vi (w32 (v4 + 1))), some (vi r8)] M7 Q)
     (Q (vi r8) M7))))) : PW sc n m_X10_read 14 [] [some (vr 3), some (vr 1), some (vi v2), some (vi v3), some (vi v4), o5] M Q := pw_go rfl (fun j => Nat.beq j 14 || Nat.beq j 42) 72 h
theorem pw_X10_read_42 {sc : List Int} {n : Nat} {Q : Vv → MM → Prop} (v2 : Int) (v3 : Int) (v4 : Int) (o5 : Option Vv) (M : MM) (h : ∀ n1, n1 < n → brA (decide ((M 3 8) ≤ v4))
  (gIm (decide (0 ≤ v3) && decide (v3 < 10)) (Q (vi (M 3 8)) (stM M 4 (v3.toNat) (M 3 8))))
  (gIm (decide (0 ≤ v3) && (decide (v3 < 10) && rfK (FF 5 v3.toNat) (M 5 v3.toNat))) (gIm (decide (0 ≤ v4) && decide (v4 < 60)) (gIm ((kd YF (rfO (FF 5 v3.toNat) (M 5 v3.toNat)) == 0) && (decide (0 ≤ v4) && decide (v4 < ln YF (rfO (FF 5 v3.toNat) (M 5 v3.toNat))))) (PW sc n1 m_X10_read 42 [] [some (vr 3), some (vr 1), some (vi v2), some (vi v3), some (vi (w32 (v4 + 1))), o5] (stM M (rfO (FF 5 v3.toNat) (M 5 v3.toNat)) (v4.toNat) (M 18 v4.toNat)) Q))))) : PW sc n m_X10_read 42 [] [some (vr 3), some (vr 1), some (vi v2), some (vi v3), some (vi v4), o5] M Q := pw_go rfl (fun j => Nat.beq j 14 || Nat.beq j 42) 72 h
theorem pc_X10_take {sc : List Int} {n : Nat} {Q : Vv → MM → Prop} (v1 : Int) (v2 : Int) (M : MM) (h : ∀ n1, n1 < n → brA (decide ((M 3 10) ≠ 0))
  (brA (decide ((M 3 10) ≠ 0))
   (PW sc n1 m_X10_take 26 [vi (M 3 11)] [some (vr 3), some (vi v1), some (vi v2), none, none, none] M Q)
   (PW sc n1 m_X10_take 26 [vi v2] [some (vr 3), some (vi v1), some (vi v2), none, none, none] M Q))
  (brA (decide (v1 < 50))
   (brA (decide ((M 3 10) ≠ 0))
    (PW sc n1 m_X10_take 26 [vi (M 3 11)] [some (vr 3), some (vi v1), some (vi v2), none, none, none] M Q)
    (PW sc n1 m_X10_take 26 [vi v2] [some (vr 3), some (vi v1), some (vi v2), none, none, none] M Q))
   (brA (decide (57 < v1))
    (brA (decide ((M 3 10) ≠ 0))
     (PW sc n1 m_X10_take 26 [vi (M 3 11)] [some (vr 3), some (vi v1), some (vi v2), none, none, none] M Q)
     (PW sc n1 m_X10_take 26 [vi v2] [some (vr 3), some (vi v1), some (vi v2), none, none, none] M Q))
    (Q (vi 0) (stM (stM M 3 10 (w32 (v1 - 48))) 3 11 v2))))) : PC sc n m_X10_take [vr 3, vi v1, vi v2] M Q := pc_go rfl (fun j => Nat.beq j 26) 83 h
theorem pw_X10_take_26 {sc : List Int} {n : Nat} {Q : Vv → MM → Prop} (v1 : Int) (v2 : Int) (o3 : Option Vv) (o4 : Option Vv) (o5 : Option Vv) (s0 : Int) (M : MM) (h : ∀ n1, n1 < n → PC sc n1 m_X10_stepOf [vi v1] M (cI fun r2 M1 =>
  brA (decide (r2 = ((-1))))
   (brA (decide (v1 ≠ 40))
    (brA (decide (v1 ≠ 41))
     (PC sc n1 m_X11_faultAt [vi 1, vi v2] M1 (cI fun r4 M3 =>
      Q (vi r4) M3))
     (brA (decide ((M1 3 10) ≠ 0))
      (PC sc n1 m_X11_faultAt [vi 1, vi v2] M1 (cI fun r6 M5 =>
       Q (vi r6) M5))
      (brA (decide ((M1 3 9) ≤ 0))
       (PC sc n1 m_X11_faultAt [vi 1, vi v2] M1 (cI fun r8 M7 =>
        Q (vi r8) M7))
       (brA (decide ((M1 3 12) ≠ 0))
        (PC sc n1 m_X11_faultAt [vi 1, vi v2] M1 (cI fun r10 M9 =>
         Q (vi r10) M9))
        (PC sc n1 m_X10_closeGroup [vr 3] M1 (cI fun r12 M11 =>
         Q (vi r12) M11))))))
    (PC sc n1 m_X10_openGroup [vr 3, vi (mMax (M 3 10) 1), vi s0, vi v2] (stM M1 3 10 0) (cI fun r14 M13 =>
     Q (vi r14) M13)))
   (PC sc n1 m_X10_addStep [vr 3, vi r2, vi (mMax (M 3 10) 1), vi s0] (stM M1 3 10 0) (cI fun r16 M15 =>
    Q (vi r16) M15)))) : PW sc n m_X10_take 26 [vi s0] [some (vr 3), some (vi v1), some (vi v2), o3, o4, o5] M Q := pw_go rfl (fun j => Nat.beq j 26) 83 h
theorem pc_X10_addStep {sc : List Int} {n : Nat} {Q : Vv → MM → Prop} (v1 : Int) (v2 : Int) (v3 : Int) (M : MM) (h : ∀ n1, n1 < n → brA (decide ((w32 ((M 3 8) + v2)) ≤ 60))
  (PW sc n1 m_X10_addStep 12 [] [some (vr 3), some (vi v1), some (vi v2), some (vi v3), some (vi 0)] M Q)
  (PC sc n1 m_X11_faultAt [vi 6, vi v3] M (cI fun r2 M1 =>
   Q (vi r2) M1))) : PC sc n m_X10_addStep [vr 3, vi v1, vi v2, vi v3] M Q := pc_go rfl (fun j => Nat.beq j 12) 39 h
theorem pw_X10_addStep_12 {sc : List Int} {n : Nat} {Q : Vv → MM → Prop} (v1 : Int) (v2 : Int) (v3 : Int) (v4 : Int) (M : MM) (h : ∀ n1, n1 < n → brA (decide (v2 ≤ v4))
  (Q (vi 0) (stM M 3 12 0))
  (gIm (decide (0 ≤ (M 3 8)) && decide ((M 3 8) < 60)) (PW sc n1 m_X10_addStep 12 [] [some (vr 3), some (vi v1), some (vi v2), some (vi v3), some (vi (w32 (v4 + 1)))] (stM (stM M 18 ((M 3 8).toNat) v1) 3 8 (w32 ((M 3 8) + 1))) Q))) : PW sc n m_X10_addStep 12 [] [some (vr 3), some (vi v1), some (vi v2), some (vi v3), some (vi v4)] M Q := pw_go rfl (fun j => Nat.beq j 12) 39 h
theorem pc_X10_openGroup {sc : List Int} {n : Nat} {Q : Vv → MM → Prop} (v1 : Int) (v2 : Int) (v3 : Int) (M : MM) (h : ∀ n1, n1 < n → brA (decide ((M 3 9) < 3))
  (gIm (decide (0 ≤ (M 3 9)) && decide ((M 3 9) < 3)) (gIm (decide (0 ≤ (M 3 9)) && decide ((M 3 9) < 3)) (gIm (decide (0 ≤ (M 3 9)) && decide ((M 3 9) < 3)) (Q (vi 0) (stM (stM (stM (stM (stM M 20 ((M 3 9).toNat) v1) 19 ((M 3 9).toNat) v2) 21 ((M 3 9).toNat) (M 3 8)) 3 9 (w32 ((M 3 9) + 1))) 3 12 1)))))
  (PC sc n1 m_X11_faultAt [vi 5, vi v3] M (cI fun r2 M1 =>
   Q (vi r2) M1))) : PC sc n m_X10_openGroup [vr 3, vi v1, vi v2, vi v3] M Q := pc_go rfl (fun j => false) 43 h
theorem pc_X10_closeGroup {sc : List Int} {n : Nat} {Q : Vv → MM → Prop}  (M : MM) (h : ∀ n1, n1 < n → gIm (decide (0 ≤ (w32 ((M 3 9) - 1))) && decide ((w32 ((M 3 9) - 1)) < 3)) (gIm (decide (0 ≤ (w32 ((M 3 9) - 1))) && decide ((w32 ((M 3 9) - 1)) < 3)) (brA (decide ((w32 ((M 3 8) + (w32 ((w32 ((M 3 8) - (M 21 (w32 ((M 3 9) - 1)).toNat))) * (w32 ((M 20 (w32 ((M 3 9) - 1)).toNat) - 1)))))) ≤ 60))
  (PW sc n1 m_X10_closeGroup 41 [] [some (vr 3), some (vi (M 21 (w32 ((M 3 9) - 1)).toNat)), some (vi (w32 ((w32 ((M 3 8) - (M 21 (w32 ((M 3 9) - 1)).toNat))) * (w32 ((M 20 (w32 ((M 3 9) - 1)).toNat) - 1))))), some (vi 0)] (stM M 3 9 (w32 ((M 3 9) - 1))) Q)
  (gIm (decide (0 ≤ (w32 ((M 3 9) - 1))) && decide ((w32 ((M 3 9) - 1)) < 3)) (PC sc n1 m_X11_faultAt [vi 6, vi (M 19 (w32 ((M 3 9) - 1)).toNat)] (stM M 3 9 (w32 ((M 3 9) - 1))) (cI fun r2 M1 =>
   Q (vi r2) M1)))))) : PC sc n m_X10_closeGroup [vr 3] M Q := pc_go rfl (fun j => Nat.beq j 41) 70 h
theorem pw_X10_closeGroup_41 {sc : List Int} {n : Nat} {Q : Vv → MM → Prop} (v1 : Int) (v2 : Int) (v3 : Int) (M : MM) (h : ∀ n1, n1 < n → brA (decide (v2 ≤ v3))
  (Q (vi 0) M)
  (gIm (decide (0 ≤ (w32 (v1 + v3))) && decide ((w32 (v1 + v3)) < 60)) (gIm (decide (0 ≤ (M 3 8)) && decide ((M 3 8) < 60)) (PW sc n1 m_X10_closeGroup 41 [] [some (vr 3), some (vi v1), some (vi v2), some (vi (w32 (v3 + 1)))] (stM (stM M 18 ((M 3 8).toNat) (M 18 (w32 (v1 + v3)).toNat)) 3 8 (w32 ((M 3 8) + 1))) Q)))) : PW sc n m_X10_closeGroup 41 [] [some (vr 3), some (vi v1), some (vi v2), some (vi v3)] M Q := pw_go rfl (fun j => Nat.beq j 41) 70 h
theorem pc_X10_stepOf {sc : List Int} {n : Nat} {Q : Vv → MM → Prop} (v0 : Int) (M : MM) (h : ∀ n1, n1 < n → (v0 = 46 → Q (vi 4) M) ∧
  (v0 ≠ 46 → (v0 = 101 → Q (vi 1) M) ∧
  (v0 ≠ 101 → (v0 = 110 → Q (vi 0) M) ∧
  (v0 ≠ 110 → (v0 = 115 → Q (vi 2) M) ∧
  (v0 ≠ 115 → (v0 = 119 → Q (vi 3) M) ∧
  (v0 ≠ 119 → Q (vi ((-1))) M)))))) : PC sc n m_X10_stepOf [vi v0] M Q := pc_go rfl (fun j => false) 19 h
theorem pc_X11_isHouse {sc : List Int} {n : Nat} {Q : Vv → MM → Prop} (v0 : Int) (M : MM) (h : ∀ n1, n1 < n → PC sc n1 m_X11_isIn [vi v0, vi 0, vi 9] M (cI fun r2 M1 =>
  gIm (decide (r2 = 0) || decide (r2 = 1)) (Q (vi r2) M1))) : PC sc n m_X11_isHouse [vi v0] M Q := pc_go rfl (fun j => false) 10 h
def wyV (c : Int) : Int := if c = 46 then 4 else if c = 101 then 1 else if c = 110 then 0 else if c = 115 then 2 else if c = 119 then 3 else -1
theorem wyV_r (c : Int) : wyV c = -1 ∨ (0 ≤ wyV c ∧ wyV c ≤ 4) := by
  unfold wyV
  split
  · omega
  · split
    · omega
    · split
      · omega
      · split
        · omega
        · split <;> omega
theorem wyV_no {c : Int} (h : wyV c ≠ -1) : ¬ (50 ≤ c ∧ c ≤ 57) ∧ c ≠ 40 ∧ c ≠ 41 := by
  unfold wyV at h
  split at h
  · omega
  · split at h
    · omega
    · split at h
      · omega
      · split at h
        · omega
        · split at h
          · omega
          · exact absurd rfl h
/- m steps more are copied, each from place f + i to sz + i -/
def cpD (D : Nat → Int) (f sz m : Nat) : Nat → Int := match m with
  | 0 => D
  | m + 1 => fun j => if j = sz + m then cpD D f sz m (f + m) else cpD D f sz m j
theorem cpD_s (D : Nat → Int) (f sz m : Nat) : cpD D f sz (m + 1) = fun j => if j = sz + m then cpD D f sz m (f + m) else cpD D f sz m j := rfl
/- groups that are open: times, place, from -/
abbrev GG : Type := List (Nat × Nat × Nat)
/- the text of a WALK: fault or how many steps, how many, the steps -/
def wz (t : Nat → Int) (N m p sz dg dp : Nat) (br : Bool) (D : Nat → Int) (G : GG) : Int × Nat × (Nat → Int) := match m with
  | 0 => if dg ≠ 0 ∨ G.length ≠ 0 then (-1000 - (N : Int), sz, D) else ((sz : Int), sz, D)
  | m + 1 => if dg = 0 ∧ 50 ≤ t p ∧ t p ≤ 57 then wz t N m (p + 1) sz (t p - 48).toNat p br D G
    else if wyV (t p) ≠ -1 then (if 60 < sz + (if dg = 0 then 1 else dg) then (-6000 - ((if dg = 0 then p else dp : Nat) : Int), sz, D) else wz t N m (p + 1) (sz + (if dg = 0 then 1 else dg)) 0 dp false (upK D sz (if dg = 0 then 1 else dg) (wyV (t p))) G)
    else if t p = 40 then (if 3 ≤ G.length then (-5000 - (p : Int), sz, D) else wz t N m (p + 1) sz 0 dp true D ((if dg = 0 then 1 else dg, if dg = 0 then p else dp, sz) :: G))
    else if t p = 41 ∧ dg = 0 ∧ br = false then (match G with
      | [] => (-1000 - (p : Int), sz, D)
      | g :: r => if 60 < sz + (sz - g.2.2) * (g.1 - 1) then (-6000 - (g.2.1 : Int), sz, D) else wz t N m (p + 1) (sz + (sz - g.2.2) * (g.1 - 1)) 0 dp false (cpD D g.2.2 sz ((sz - g.2.2) * (g.1 - 1))) r)
    else (-1000 - (p : Int), sz, D)
theorem wz_s (t : Nat → Int) (N m p sz dg dp : Nat) (br : Bool) (D : Nat → Int) (G : GG) : wz t N (m + 1) p sz dg dp br D G = (if dg = 0 ∧ 50 ≤ t p ∧ t p ≤ 57 then wz t N m (p + 1) sz (t p - 48).toNat p br D G
    else if wyV (t p) ≠ -1 then (if 60 < sz + (if dg = 0 then 1 else dg) then (-6000 - ((if dg = 0 then p else dp : Nat) : Int), sz, D) else wz t N m (p + 1) (sz + (if dg = 0 then 1 else dg)) 0 dp false (upK D sz (if dg = 0 then 1 else dg) (wyV (t p))) G)
    else if t p = 40 then (if 3 ≤ G.length then (-5000 - (p : Int), sz, D) else wz t N m (p + 1) sz 0 dp true D ((if dg = 0 then 1 else dg, if dg = 0 then p else dp, sz) :: G))
    else if t p = 41 ∧ dg = 0 ∧ br = false then (match G with
      | [] => (-1000 - (p : Int), sz, D)
      | g :: r => if 60 < sz + (sz - g.2.2) * (g.1 - 1) then (-6000 - (g.2.1 : Int), sz, D) else wz t N m (p + 1) (sz + (sz - g.2.2) * (g.1 - 1)) 0 dp false (cpD D g.2.2 sz ((sz - g.2.2) * (g.1 - 1))) r)
    else (-1000 - (p : Int), sz, D)) := rfl
theorem mulN {a b : Nat} (ha : a ≤ 60) (h1 : 1 ≤ b) (h9 : b ≤ 9) : (a : Int) * ((b : Int) - 1) = ((a * (b - 1) : Nat) : Int) ∧ (a : Int) * (b : Int) = (a : Int) + ((a * (b - 1) : Nat) : Int) ∧ a * (b - 1) ≤ 480 := by
  obtain rfl | rfl | rfl | rfl | rfl | rfl | rfl | rfl | rfl : b = 1 ∨ b = 2 ∨ b = 3 ∨ b = 4 ∨ b = 5 ∨ b = 6 ∨ b = 7 ∨ b = 8 ∨ b = 9 := by omega
  all_goals omega
/- the class's open groups -/
def gsC (M : MM) (sz : Nat) (G : GG) : Prop := match G with
  | [] => True
  | g :: r => (M 20 r.length = (g.1 : Int) ∧ M 19 r.length = (g.2.1 : Int) ∧ M 21 r.length = (g.2.2 : Int)) ∧ (1 ≤ g.1 ∧ g.1 ≤ 9 ∧ g.2.1 ≤ 80 ∧ g.2.2 ≤ sz) ∧ gsC M sz r
theorem gsC_eq {M M1 : MM} {sz sz1 : Nat} (hs : sz ≤ sz1) : ∀ {G : GG}, (∀ i, i < G.length → M1 20 i = M 20 i ∧ M1 19 i = M 19 i ∧ M1 21 i = M 21 i) → gsC M sz G → gsC M1 sz1 G := by
  intro G
  induction G with
  | nil => intro _ _; trivial
  | cons g r ih =>
    intro h I
    have hl : (g :: r).length = r.length + 1 := rfl
    obtain ⟨e1, e2, e3⟩ := h r.length (by omega)
    refine ⟨⟨e1.trans I.1.1, e2.trans I.1.2.1, e3.trans I.1.2.2⟩, ⟨I.2.1.1, I.2.1.2.1, I.2.1.2.2.1, by have := I.2.1.2.2.2; omega⟩, ih (fun i hi => h i (by omega)) I.2.2⟩
def frW (M0 M : MM) : Prop := (∀ c, c ≠ 3 → c ≠ 18 → c ≠ 19 → c ≠ 20 → c ≠ 21 → M c = M0 c)
theorem frW.st {M0 M : MM} (h : frW M0 M) {k j : Nat} {v : Int} (hk : k = 3 ∨ (18 ≤ k ∧ k ≤ 21)) : frW M0 (stM M k j v) := fun c h1 h2 h3 h4 h5 => (stK (by omega)).trans (h c h1 h2 h3 h4 h5)
/- the class while it reads a WALK -/
def wcI (sz dg dp : Nat) (br : Bool) (D : Nat → Int) (G : GG) (M0 M : MM) : Prop := frW M0 M ∧ (M 3 8 = (sz : Int) ∧ M 3 9 = (G.length : Int) ∧ M 3 10 = (dg : Int) ∧ (dg ≠ 0 → M 3 11 = (dp : Int)) ∧ M 3 12 = (if br then 1 else 0)) ∧ M 18 = D ∧ gsC M sz G ∧ (sz ≤ 60 ∧ G.length ≤ 3 ∧ (dg = 0 ∨ 2 ≤ dg) ∧ dg ≤ 9 ∧ dp ≤ 80)
section WCS
variable {sc : List Int} {Q : Vv → MM → Prop} {M0 : MM}
set_option maxRecDepth 20000 in
theorem p_isHouse {a : Int} {n : Nat} {M : MM} (k0 : ¬ (0 ≤ a ∧ a ≤ 9) → ∀ x : Int, x = 0 → Q (vi x) M) (k1 : (0 ≤ a ∧ a ≤ 9) → ∀ x : Int, x = 1 → Q (vi x) M) : PC sc n m_X11_isHouse [vi a] M Q := pc_X11_isHouse a M fun n1 _ => p_isIn (fun h x hx => gMB (k0 h x hx)) fun h x hx => gMB (k1 h x hx)
set_option maxRecDepth 20000 in
theorem p_stepOf {c : Int} {n : Nat} {M : MM} (k : ∀ x : Int, x = wyV c → Q (vi x) M) : PC sc n m_X10_stepOf [vi c] M Q := pc_X10_stepOf c M fun n1 _ => by
  unfold wyV at k
  refine ⟨fun h => ?_, fun h1 => ⟨fun h => ?_, fun h2 => ⟨fun h => ?_, fun h3 => ⟨fun h => ?_, fun h4 => ⟨fun h => ?_, fun h5 => ?_⟩⟩⟩⟩⟩
  · exact k _ (by rw [if_pos h])
  · exact k _ (by rw [if_neg h1, if_pos h])
  · exact k _ (by rw [if_neg h1, if_neg h2, if_pos h])
  · exact k _ (by rw [if_neg h1, if_neg h2, if_neg h3, if_pos h])
  · exact k _ (by rw [if_neg h1, if_neg h2, if_neg h3, if_neg h4, if_pos h])
  · exact k _ (by rw [if_neg h1, if_neg h2, if_neg h3, if_neg h4, if_neg h5])
set_option maxRecDepth 20000 in
theorem f_addStep {step : Int} {sz times dp first n : Nat} {br : Bool} {D : Nat → Int} {G : GG} {M : MM} (ht : 1 ≤ times ∧ times ≤ 9) (hf : first ≤ 80) (I : wcI sz 0 dp br D G M0 M) (k0 : 60 < sz + times → ∀ x : Int, x = -6000 - (first : Int) → Q (vi x) M) (k1 : ¬ 60 < sz + times → ∀ M1, wcI (sz + times) 0 dp false (upK D sz times step) G M0 M1 → ∀ x : Int, x = 0 → Q (vi x) M1) : PC sc n m_X10_addStep [vr 3, vi step, vi (times : Int), vi (first : Int)] M Q := by
  have hb := I.2.2.2.2
  refine pc_X10_addStep step _ _ M fun n1 _ => ?_
  rw [I.2.1.1, ew32 (z := (sz : Int) + (times : Int)) (by omega) (by omega)]
  refine brP (fun h => ?_) fun h => p_fault (by omega) (by omega) (k0 (by omega) _ (by omega))
  have k1 := k1 (by omega)
  have lp : ∀ (m i n : Nat) (M1 : MM), i + m = times → wcI (sz + i) 0 dp br (upK D sz i step) G M0 M1 → PW sc n m_X10_addStep 12 [] [some (vr 3), some (vi step), some (vi (times : Int)), some (vi (first : Int)), some (vi (i : Int))] M1 Q := by
    intro m
    induction m with
    | zero =>
      intro i n M1 hi I
      have hi : i = times := hi
      subst hi
      obtain ⟨f, ⟨e8, e9, e10, e11, e12⟩, eD, gs, hb⟩ := I
      refine pw_X10_addStep_12 step _ _ _ M1 fun n2 _ => brT (by omega) (k1 _ ⟨f.st (.inl rfl), ⟨(stO (by decide)).trans e8, (stO (by decide)).trans e9, (stO (by decide)).trans e10, fun h => absurd rfl h, stE⟩, (stK (by decide)).trans eD, gsC_eq (Nat.le_refl _) (fun i hi => ⟨stN (by decide), stN (by decide), stN (by decide)⟩) gs, hb⟩ 0 rfl)
    | succ m ih =>
      intro i n M1 hi I
      obtain ⟨f, ⟨e8, e9, e10, e11, e12⟩, eD, gs, hb⟩ := I
      refine pw_X10_addStep_12 step _ _ _ M1 fun n2 _ => brF (by omega) (gMB ?_)
      rw [e8, show (((sz + i : Nat) : Int)).toNat = sz + i by omega, show w32 (((sz + i : Nat) : Int) + 1) = ((sz + (i + 1) : Nat) : Int) from ew32 (by omega) (by omega), show w32 ((i : Int) + 1) = ((i + 1 : Nat) : Int) from ew32 (by omega) (by omega)]
      refine ih (i + 1) n2 _ (by omega) ⟨(f.st (.inr (by omega))).st (.inl rfl), ⟨stE, ?_, ?_, fun h => absurd rfl h, ?_⟩, ?_, gsC_eq (by omega) (fun i hi => ⟨?_, ?_, ?_⟩) gs, by omega⟩
      · rw [stO (by decide), stN (by decide)]
        exact e9
      · rw [stO (by decide), stN (by decide)]
        exact e10
      · rw [stO (by decide), stN (by decide)]
        exact e12
      · rw [stK (by decide), stF, eD]
        exact upK_s _ _ _ _
      · rw [stN (by decide), stN (by decide)]
      · rw [stN (by decide), stN (by decide)]
      · rw [stN (by decide), stN (by decide)]
  exact lp times 0 n1 M (Nat.zero_add _) (by rw [upK_0]; exact I)
set_option maxRecDepth 20000 in
theorem f_openGroup {sz times dp first p n : Nat} {br : Bool} {D : Nat → Int} {G : GG} {M : MM} (ht : 1 ≤ times ∧ times ≤ 9) (hf : first ≤ 80) (hp : p ≤ 80) (I : wcI sz 0 dp br D G M0 M) (k0 : 3 ≤ G.length → ∀ x : Int, x = -5000 - (p : Int) → Q (vi x) M) (k1 : ¬ 3 ≤ G.length → ∀ M1, wcI sz 0 dp true D ((times, first, sz) :: G) M0 M1 → ∀ x : Int, x = 0 → Q (vi x) M1) : PC sc n m_X10_openGroup [vr 3, vi (times : Int), vi (first : Int), vi (p : Int)] M Q := by
  obtain ⟨f, ⟨e8, e9, e10, e11, e12⟩, eD, gs, hb⟩ := I
  refine pc_X10_openGroup _ _ _ M fun n1 _ => ?_
  rw [e9, e8, show ((G.length : Int)).toNat = G.length by omega]
  refine brP (fun h => gMB (gMB (gMB ?_))) fun h => p_fault (by omega) (by omega) (k0 (by omega) _ (by omega))
  have hl : ((times, first, sz) :: G).length = G.length + 1 := rfl
  rw [show w32 ((G.length : Int) + 1) = (((times, first, sz) :: G).length : Int) by rw [hl]; exact ew32 (by omega) (by omega)]
  refine k1 (by omega) _ ⟨((((f.st (.inr (by omega))).st (.inr (by omega))).st (.inr (by omega))).st (.inl rfl)).st (.inl rfl), ⟨?_, ?_, ?_, fun h => absurd rfl h, stE⟩, ?_, ⟨⟨?_, ?_, ?_⟩, ⟨by show 1 ≤ times; omega, by show times ≤ 9; omega, by show first ≤ 80; omega, Nat.le_refl _⟩, gsC_eq (Nat.le_refl _) (fun i hi => ⟨?_, ?_, ?_⟩) gs⟩, by omega⟩ 0 rfl
  · rw [stO (by decide), stO (by decide), stN (by decide), stN (by decide), stN (by decide)]
    exact e8
  · rw [stO (by decide), stE]
  · rw [stO (by decide), stO (by decide), stN (by decide), stN (by decide), stN (by decide)]
    exact e10
  · rw [stK (by decide), stK (by decide), stK (by decide), stK (by decide), stK (by decide)]
    exact eD
  · rw [stN (by decide), stN (by decide), stN (by decide), stN (by decide), stE]
  · rw [stN (by decide), stN (by decide), stN (by decide), stE]
  · rw [stN (by decide), stN (by decide), stE]
  · rw [stN (by decide), stN (by decide), stN (by decide), stN (by decide), stO (by omega)]
  · rw [stN (by decide), stN (by decide), stN (by decide), stO (by omega), stN (by decide)]
  · rw [stN (by decide), stN (by decide), stO (by omega), stN (by decide), stN (by decide)]
set_option maxRecDepth 20000 in
theorem f_closeGroup {sz dp n : Nat} {D : Nat → Int} {g : Nat × Nat × Nat} {G : GG} {M : MM} (I : wcI sz 0 dp false D (g :: G) M0 M) (k0 : 60 < sz + (sz - g.2.2) * (g.1 - 1) → ∀ M1, frW M0 M1 → ∀ x : Int, x = -6000 - (g.2.1 : Int) → Q (vi x) M1) (k1 : ¬ 60 < sz + (sz - g.2.2) * (g.1 - 1) → ∀ M1, wcI (sz + (sz - g.2.2) * (g.1 - 1)) 0 dp false (cpD D g.2.2 sz ((sz - g.2.2) * (g.1 - 1))) G M0 M1 → ∀ x : Int, x = 0 → Q (vi x) M1) : PC sc n m_X10_closeGroup [vr 3] M Q := by
  obtain ⟨f, ⟨e8, e9, e10, e11, e12⟩, eD, gs, hb⟩ := I
  obtain ⟨⟨g1, g2, g3⟩, g4, gs⟩ := gs
  have hl : (g :: G).length = G.length + 1 := rfl
  have hm := mulN (a := sz - g.2.2) (b := g.1) (by omega) (by omega) (by omega)
  generalize hmore : (sz - g.2.2) * (g.1 - 1) = more at hm k0 k1
  refine pc_X10_closeGroup M fun n1 _ => ?_
  have ew : ∀ _ : Unit, w32 (M 3 9 - 1) = (G.length : Int) := fun _ => by
    rw [e9, hl, ew32 (by omega) (by omega)]
    omega
  rw [ew (), show ((G.length : Int)).toNat = G.length by omega, g1, g2, g3, e8, ew32 (z := (sz : Int) - (g.2.2 : Int)) (by omega) (by omega), ew32 (z := (g.1 : Int) - 1) (by omega) (by omega), show ((sz : Int) - (g.2.2 : Int)) = ((sz - g.2.2 : Nat) : Int) by omega, hm.1, ew32 (z := ((more : Nat) : Int)) (by omega) (by omega), ew32 (z := (sz : Int) + ((more : Nat) : Int)) (by omega) (by omega)]
  refine gMB (gMB (brP (fun h => ?_) fun h => gMB (p_fault (by omega) (by omega) (k0 (by omega) _ (f.st (.inl rfl)) _ (by omega)))))
  have k1 := k1 (by omega)
  have lp : ∀ (m i n : Nat) (M1 : MM), i + m = more → wcI (sz + i) 0 dp false (cpD D g.2.2 sz i) G M0 M1 → PW sc n m_X10_closeGroup 41 [] [some (vr 3), some (vi (g.2.2 : Int)), some (vi (more : Int)), some (vi (i : Int))] M1 Q := by
    intro m
    induction m with
    | zero =>
      intro i n M1 hi I
      have hi : i = more := hi
      subst hi
      exact pw_X10_closeGroup_41 _ _ _ M1 fun n2 _ => brT (by omega) (k1 M1 I 0 rfl)
    | succ m ih =>
      intro i n M1 hi I
      obtain ⟨f, ⟨e8, e9, e10, e11, e12⟩, eD, gs, hb⟩ := I
      refine pw_X10_closeGroup_41 _ _ _ M1 fun n2 _ => brF (by omega) ?_
      rw [e8, show (((sz + i : Nat) : Int)).toNat = sz + i by omega, show w32 (((sz + i : Nat) : Int) + 1) = ((sz + (i + 1) : Nat) : Int) from ew32 (by omega) (by omega), show w32 ((i : Int) + 1) = ((i + 1 : Nat) : Int) from ew32 (by omega) (by omega), show w32 ((g.2.2 : Int) + (i : Int)) = ((g.2.2 + i : Nat) : Int) from ew32 (by omega) (by omega), show (((g.2.2 + i : Nat) : Int)).toNat = g.2.2 + i by omega, eD]
      refine gMB (gMB ?_)
      refine ih (i + 1) n2 _ (by omega) ⟨(f.st (.inr (by omega))).st (.inl rfl), ⟨stE, ?_, ?_, fun h => absurd rfl h, ?_⟩, ?_, gsC_eq (by omega) (fun i hi => ⟨?_, ?_, ?_⟩) gs, by omega⟩
      · rw [stO (by decide), stN (by decide)]
        exact e9
      · rw [stO (by decide), stN (by decide)]
        exact e10
      · rw [stO (by decide), stN (by decide)]
        exact e12
      · rw [stK (by decide), stF, eD]
        rfl
      · rw [stN (by decide), stN (by decide)]
      · rw [stN (by decide), stN (by decide)]
      · rw [stN (by decide), stN (by decide)]
  refine lp more 0 n1 _ (Nat.zero_add _) ⟨f.st (.inl rfl), ⟨(stO (by decide)).trans e8, stE, (stO (by decide)).trans e10, fun h => absurd rfl h, (stO (by decide)).trans e12⟩, (stK (by decide)).trans eD, gsC_eq (Nat.le_refl _) (fun i hi => ⟨stN (by decide), stN (by decide), stN (by decide)⟩) gs, by omega⟩
/- one byte of a WALK -/
set_option maxRecDepth 20000 in
theorem f_take {t : Nat → Int} {N m p sz dg dp n : Nat} {br : Bool} {D : Nat → Int} {G : GG} {M : MM} (hp : p ≤ 80) (I : wcI sz dg dp br D G M0 M) (k0 : (wz t N (m + 1) p sz dg dp br D G).1 < 0 → ∀ M1, frW M0 M1 → ∀ x : Int, x = (wz t N (m + 1) p sz dg dp br D G).1 → Q (vi x) M1) (k1 : ∀ (sz' dg' dp' : Nat) (br' : Bool) (D' : Nat → Int) (G' : GG) (M1 : MM), wz t N (m + 1) p sz dg dp br D G = wz t N m (p + 1) sz' dg' dp' br' D' G' → wcI sz' dg' dp' br' D' G' M0 M1 → ∀ x : Int, x = 0 → Q (vi x) M1) : PC sc n m_X10_take [vr 3, vi (t p), vi (p : Int)] M Q := by
  have hz := wz_s t N m p sz dg dp br D G
  obtain ⟨f, ⟨e8, e9, e10, e11, e12⟩, eD, gs, hb⟩ := id I
  have hmax : mMax (dg : Int) 1 = ((if dg = 0 then 1 else dg : Nat) : Int) := by
    unfold mMax
    split <;> split <;> omega
  have hwr := wyV_r (t p)
  have bad : wz t N (m + 1) p sz dg dp br D G = (-1000 - (p : Int), sz, D) → Q (vi (-1000 * 1 - (p : Int))) M := fun e => by
    rw [e] at k0
    exact k0 (by show -1000 - (p : Int) < 0; omega) M f _ (by show _ = -1000 - (p : Int); omega)
  have h26 : ∀ (n : Nat) (s0 : Int) (o3 o4 o5 : Option Vv), ¬ (dg = 0 ∧ 50 ≤ t p ∧ t p ≤ 57) → s0 = ((if dg = 0 then p else dp : Nat) : Int) → PW sc n m_X10_take 26 [vi s0] [some (vr 3), some (vi (t p)), some (vi (p : Int)), o3, o4, o5] M Q := fun n s0 o3 o4 o5 hd hs0 => by
    rw [if_neg hd] at hz
    subst hs0
    have I0 : wcI sz 0 dp br D G M0 (stM M 3 10 0) := ⟨f.st (.inl rfl), ⟨(stO (by decide)).trans e8, (stO (by decide)).trans e9, stE, fun h => absurd rfl h, (stO (by decide)).trans e12⟩, (stK (by decide)).trans eD, gsC_eq (Nat.le_refl _) (fun i hi => ⟨stN (by decide), stN (by decide), stN (by decide)⟩) gs, by omega⟩
    have hfi : (if dg = 0 then p else dp) ≤ 80 := by split <;> omega
    have hti : 1 ≤ (if dg = 0 then 1 else dg) ∧ (if dg = 0 then 1 else dg) ≤ 9 := by split <;> omega
    refine pw_X10_take_26 _ _ o3 o4 o5 _ M fun n1 _ => p_stepOf fun r hr => cI_i ?_
    rw [e10, e9, e12, hmax]
    refine brP (fun h => ?_) fun h => ?_
    · rw [if_neg (by omega)] at hz
      refine brP (fun h40 => ?_) fun h40 => ?_
      · rw [if_neg h40] at hz
        refine brP (fun h41 => ?_) fun h41 => ?_
        · rw [if_neg (fun z => h41 z.1)] at hz
          exact p_fault (by omega) (by omega) (bad hz)
        · have h41 := Classical.not_not.mp h41
          refine brP (fun hd0 => ?_) fun hd0 => ?_
          · rw [if_neg (fun z => hd0 (by omega))] at hz
            exact p_fault (by omega) (by omega) (bad hz)
          · cases G with
            | nil =>
              refine brT (Int.le_refl _) (p_fault (by omega) (by omega) (bad ?_))
              rw [hz]
              split <;> rfl
            | cons g r =>
              have hl : (g :: r).length = r.length + 1 := rfl
              refine brF (by omega) ?_
              cases br with
              | true =>
                rw [if_neg (fun z => by cases z.2.2)] at hz
                exact brT (by decide) (p_fault (by omega) (by omega) (bad hz))
              | false =>
                have hdz : dg = 0 := by omega
                subst hdz
                rw [if_pos ⟨h41, rfl, rfl⟩] at hz
                dsimp only at hz
                refine brF (by decide) (f_closeGroup I (fun q M1 f1 x hx => ?_) fun q M1 I1 x hx => ?_)
                · rw [if_pos q] at hz
                  rw [hz] at k0
                  exact k0 (by show -6000 - (g.2.1 : Int) < 0; omega) M1 f1 x hx
                · rw [if_neg q] at hz
                  exact k1 _ _ _ _ _ _ M1 hz I1 x hx
      · rw [if_pos (Classical.not_not.mp h40)] at hz
        refine f_openGroup hti hfi hp I0 (fun q x hx => ?_) fun q M1 I1 x hx => ?_
        · rw [if_pos q] at hz
          rw [hz] at k0
          exact k0 (by show -5000 - (p : Int) < 0; omega) _ I0.1 x hx
        · rw [if_neg q] at hz
          exact k1 _ _ _ _ _ _ M1 hz I1 x hx
    · rw [if_pos (by omega)] at hz
      rw [hr]
      refine f_addStep hti hfi I0 (fun q x hx => ?_) fun q M1 I1 x hx => ?_
      · rw [if_pos q] at hz
        rw [hz] at k0
        exact k0 (by show -6000 - ((if dg = 0 then p else dp : Nat) : Int) < 0; omega) _ I0.1 x hx
      · rw [if_neg q] at hz
        exact k1 _ _ _ _ _ _ M1 hz I1 x hx
  have hfirst : ∀ (n : Nat) (o3 o4 o5 : Option Vv), ¬ (dg = 0 ∧ 50 ≤ t p ∧ t p ≤ 57) → brA (decide ((dg : Int) ≠ 0)) (PW sc n m_X10_take 26 [vi (M 3 11)] [some (vr 3), some (vi (t p)), some (vi (p : Int)), o3, o4, o5] M Q) (PW sc n m_X10_take 26 [vi (p : Int)] [some (vr 3), some (vi (t p)), some (vi (p : Int)), o3, o4, o5] M Q) := fun n o3 o4 o5 hd => brP (fun q => h26 n _ o3 o4 o5 hd (by rw [e11 (by omega), if_neg (by omega)])) fun q => h26 n _ o3 o4 o5 hd (by rw [if_pos (by omega)])
  refine pc_X10_take _ _ M fun n1 _ => ?_
  rw [e10]
  refine brP (fun q => hfirst n1 _ _ _ (by omega)) fun q => brP (fun q2 => hfirst n1 _ _ _ (by omega)) fun q2 => brP (fun q3 => hfirst n1 _ _ _ (by omega)) fun q3 => ?_
  rw [if_pos (by omega)] at hz
  rw [ew32 (z := t p - 48) (by omega) (by omega)]
  refine k1 sz (t p - 48).toNat p br D G _ hz ⟨(f.st (.inl rfl)).st (.inl rfl), ⟨?_, ?_, ?_, fun _ => stE, ?_⟩, ?_, gsC_eq (Nat.le_refl _) (fun i hi => ⟨?_, ?_, ?_⟩) gs, by omega⟩ 0 rfl
  · rw [stO (by decide), stO (by decide)]
    exact e8
  · rw [stO (by decide), stO (by decide)]
    exact e9
  · rw [stO (by decide), stE]
    omega
  · rw [stO (by decide), stO (by decide)]
    exact e12
  · rw [stK (by decide), stK (by decide)]
    exact eD
  · rw [stN (by decide), stN (by decide)]
  · rw [stN (by decide), stN (by decide)]
  · rw [stN (by decide), stN (by decide)]
set_option maxRecDepth 20000 in
theorem f_wrLoop {t : Nat → Int} {N : Nat} {h : Int} (hN : N ≤ 80) (ht : ∀ i, M0 2 i = t i) (hs : (N : Int) ≤ M0 1 1) : ∀ (m p sz dg dp n : Nat) (br : Bool) (D : Nat → Int) (G : GG) (o5 : Option Vv) (M : MM), p + m = N → wcI sz dg dp br D G M0 M → ((wz t N m p sz dg dp br D G).1 < 0 → ∀ M1, frW M0 M1 → ∀ x : Int, x = (wz t N m p sz dg dp br D G).1 → Q (vi x) M1) → (∀ (sz' dp' n' : Nat) (br' : Bool) (D' : Nat → Int) (o5 : Option Vv) (M1 : MM), wz t N m p sz dg dp br D G = ((sz' : Int), sz', D') → wcI sz' 0 dp' br' D' [] M0 M1 → PW sc n' m_X10_read 42 [] [some (vr 3), some (vr 1), some (vi (N : Int)), some (vi h), some (vi 0), o5] M1 Q) → PW sc n m_X10_read 14 [] [some (vr 3), some (vr 1), some (vi (N : Int)), some (vi h), some (vi (p : Int)), o5] M Q := by
  intro m
  induction m with
  | zero =>
    intro p sz dg dp n br D G o5 M hp I k0 k1
    obtain ⟨f, ⟨e8, e9, e10, e11, e12⟩, eD, gs, hb⟩ := id I
    have hz : wz t N 0 p sz dg dp br D G = (if dg ≠ 0 ∨ G.length ≠ 0 then (-1000 - (N : Int), sz, D) else ((sz : Int), sz, D)) := rfl
    have bad : dg ≠ 0 ∨ G.length ≠ 0 → Q (vi (-1000 * 1 - (N : Int))) M := fun hc => by
      rw [if_pos hc] at hz
      rw [hz] at k0
      exact k0 (by show -1000 - (N : Int) < 0; omega) M f _ (by show _ = -1000 - (N : Int); omega)
    refine pw_X10_read_14 _ _ _ o5 M fun n1 _ => ?_
    rw [e10, e9]
    refine brT (by omega) (brP (fun q => p_fault (by omega) (by omega) (bad (by omega))) fun q => brP (fun q2 => ?_) fun q2 => p_fault (by omega) (by omega) (bad (by omega)))
    have hG : G = [] := List.eq_nil_of_length_eq_zero (by omega)
    have hd : dg = 0 := by omega
    subst hG hd
    exact k1 sz dp n1 br D o5 M hz I
  | succ m ih =>
    intro p sz dg dp n br D G o5 M hp I k0 k1
    have et : M 2 p = t p := by rw [I.1 2 (by decide) (by decide) (by decide) (by decide) (by decide)]; exact ht p
    have es : M 1 1 = M0 1 1 := by rw [I.1 1 (by decide) (by decide) (by decide) (by decide) (by decide)]
    refine pw_X10_read_14 _ _ _ o5 M fun n1 _ => brF (by omega) (p_at (by omega) ?_)
    rw [show ((p : Int)).toNat = p by omega, et, show w32 ((p : Int) + 1) = ((p + 1 : Nat) : Int) from ew32 (by omega) (by omega)]
    refine f_take (N := N) (m := m) (by omega) I (fun q M1 f1 x hx => brF (by omega) (k0 q M1 f1 x hx)) fun sz' dg' dp' br' D' G' M1 hz I1 x hx => brT (by omega) ?_
    rw [hz] at k0 k1
    exact ih (p + 1) sz' dg' dp' n1 br' D' G' _ M1 (by omega) I1 k0 k1
/- a WALK's text, read -/
def wzR (t : Nat → Int) (N : Nat) (D : Nat → Int) : Int × Nat × (Nat → Int) := wz t N N 0 0 0 0 false D []
set_option maxRecDepth 20000 in
theorem f_walkC {t : Nat → Int} {h v : Int} {n : Nat} {M : MM} (ht : ∀ i, M 2 i = t i) (k0 : ¬ ((0 ≤ h ∧ h ≤ 9) ∧ 1 ≤ v ∧ v ≤ 80 ∧ v ≤ M 1 1) → Q (vi (-1)) M) (k1 : ((0 ≤ h ∧ h ≤ 9) ∧ 1 ≤ v ∧ v ≤ 80 ∧ v ≤ M 1 1) → (wzR t v.toNat (M 18)).1 < 0 → ∀ M1, (∀ c, c ≠ 1 → c ≠ 3 → c ≠ 18 → c ≠ 19 → c ≠ 20 → c ≠ 21 → M1 c = M c) → M1 1 = (fun j => if j = 1 then 0 else M 1 j) → Q (vi (wzR t v.toNat (M 18)).1) M1) (k2 : ((0 ≤ h ∧ h ≤ 9) ∧ 1 ≤ v ∧ v ≤ 80 ∧ v ≤ M 1 1) → ∀ (sz : Nat) (D : Nat → Int), wzR t v.toNat (M 18) = ((sz : Int), sz, D) → sz ≤ 60 → ∀ M1, (∀ c, c ≠ 1 → c ≠ 3 → c ≠ 4 → c ≠ 6 + h.toNat → c ≠ 18 → c ≠ 19 → c ≠ 20 → c ≠ 21 → M1 c = M c) → M1 1 = (fun j => if j = 1 then 0 else M 1 j) → M1 4 = (fun j => if j = h.toNat then (sz : Int) else M 4 j) → (∀ j, j < sz → M1 (6 + h.toNat) j = D j) → Q (vi (sz : Int)) M1) : PC sc n m_X11_walk [vr 0, vi h, vi v] M Q := by
  refine pc_X11_walk h v M fun n1 _ => p_isHouse (fun q x hx => brT hx (k0 fun z => q z.1)) fun q x hx => brF (by omega) (p_hasText (fun q2 y hy => brF (by omega) (k0 fun z => q2 z.2)) fun q2 y hy => brT (by omega) ?_)
  have k3 := k1 ⟨q, q2⟩
  have k4 := k2 ⟨q, q2⟩
  clear k0 k1 k2
  obtain ⟨N, hN⟩ : ∃ N : Nat, v = (N : Int) := ⟨v.toNat, by omega⟩
  subst hN
  rw [show ((N : Int)).toNat = N by omega] at k3 k4
  obtain ⟨hn, hh⟩ : ∃ hn : Nat, h = (hn : Int) := ⟨h.toNat, by omega⟩
  subst hh
  rw [show ((hn : Int)).toNat = hn by omega] at k4
  obtain ⟨f1, f2, f3, f4, f5, f6⟩ := FF5 hn (by omega)
  refine pc_X10_read _ _ M fun n2 _ => f_wrLoop (M0 := M) (by omega) ht (by omega) N 0 0 0 0 n2 false (M 18) [] none _ (Nat.zero_add _) ⟨(((show frW M M from fun _ _ _ _ _ _ => rfl).st (.inl rfl)).st (.inl rfl)).st (.inl rfl) |>.st (.inl rfl), ⟨?_, ?_, ?_, fun h => absurd rfl h, stE⟩, ?_, trivial, by show 0 ≤ 60 ∧ 0 ≤ 3 ∧ (0 = 0 ∨ 2 ≤ 0) ∧ 0 ≤ 9 ∧ 0 ≤ 80; omega⟩ (fun z M1 w1 x hx => pc_X7_empty M1 fun n3 _ => ?_) fun sz dp n3 br D o5 M1 hz I1 => ?_
  · rw [stO (by decide), stO (by decide), stO (by decide)]
    exact stE
  · rw [stO (by decide), stO (by decide)]
    exact stE
  · rw [stO (by decide)]
    exact stE
  · rw [stK (by decide), stK (by decide), stK (by decide), stK (by decide)]
  · rw [hx]
    refine k3 z _ (fun c c1 c2 c3 c4 c5 c6 => (stK c1).trans (w1 c c2 c3 c4 c5 c6)) ?_
    rw [stF, w1 1 (by decide) (by decide) (by decide) (by decide) (by decide)]
  · have hsz := I1.2.2.2.2.1
    have lp : ∀ (m i n : Nat) (o5 : Option Vv) (M2 : MM), i + m = sz → (∀ c, c ≠ 6 + hn → M2 c = M1 c) → (∀ j, j < i → M2 (6 + hn) j = D j) → PW sc n m_X10_read 42 [] [some (vr 3), some (vr 1), some (vi (N : Int)), some (vi (hn : Int)), some (vi (i : Int)), o5] M2 (cI fun r6 M5 => PC sc n1 m_X7_empty [vr 1] M5 (fun _ M7 => Q (vi r6) M7)) := by
      intro m
      induction m with
      | zero =>
        intro i n o5 M2 hi a1 a2
        have hi : i = sz := hi
        subst hi
        have e8 : M2 3 8 = (i : Int) := by rw [a1 3 (by omega)]; exact I1.2.1.1
        refine pw_X10_read_42 _ _ _ o5 M2 fun n4 _ => ?_
        rw [e8]
        refine brT (Int.le_refl _) (gMB (pc_X7_empty _ fun n5 _ => ?_))
        rw [show ((hn : Int)).toNat = hn by omega]
        refine k4 i D hz (by omega) _ (fun c c1 c2 c3 c4 c5 c6 c7 c8 => ?_) ?_ ?_ fun j hj => ?_
        · rw [stK c1, stK c3, a1 c c4]
          exact I1.1 c c2 c5 c6 c7 c8
        · rw [stF, stK (by decide), a1 1 (by omega), I1.1 1 (by decide) (by decide) (by decide) (by decide) (by decide)]
        · rw [stK (by decide), stF, a1 4 (by omega), I1.1 4 (by decide) (by decide) (by decide) (by decide) (by decide)]
        · rw [stN (by omega), stN (by omega)]
          exact a2 j hj
      | succ m ih =>
        intro i n o5 M2 hi a1 a2
        have e8 : M2 3 8 = (sz : Int) := by rw [a1 3 (by omega)]; exact I1.2.1.1
        have e18 : M2 18 = D := by rw [a1 18 (by omega)]; exact I1.2.2.1
        refine pw_X10_read_42 _ _ _ o5 M2 fun n4 _ => ?_
        rw [e8, e18, show ((hn : Int)).toNat = hn by omega, f1]
        refine brF (by omega) (gMB (gMB (gMB ?_)))
        show PW sc n4 m_X10_read 42 [] [some (vr 3), some (vr 1), some (vi (N : Int)), some (vi (hn : Int)), some (vi (w32 ((i : Int) + 1))), o5] (stM M2 (hn + 6) ((i : Int)).toNat (D ((i : Int)).toNat)) _
        rw [show ((i : Int)).toNat = i by omega, show w32 ((i : Int) + 1) = ((i + 1 : Nat) : Int) from ew32 (by omega) (by omega), Nat.add_comm hn 6]
        refine ih (i + 1) n4 o5 _ (by omega) (fun c hc => (stK hc).trans (a1 c hc)) fun j hj => ?_
        by_cases e : j = i
        · subst e
          exact stE
        · rw [stO e]
          exact a2 j (by omega)
    exact lp sz 0 n3 o5 M1 (Nat.zero_add _) (fun _ _ => rfl) fun j hj => by omega
end WCS
