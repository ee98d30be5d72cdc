/-! PART 68: the text of a WALK, read by the reference -/
theorem pc_X12_walk {sc : List Int} {n : Nat} {Q : Vv → MM → Prop} (v1 : Int) (v2 : Int) (M : MM) (h : ∀ n1, n1 < n → PC sc n1 m_X12_isTen [vi v1] M (cI fun r2 M1 =>
  brA (decide (r2 = 0))
   (Q (vi ((-1))) M1)
   (PC sc n1 m_X12_in [vi v2, vi 1, vi 80] M1 (cI fun r4 M3 =>
    brA (decide (r4 = 0))
     (Q (vi ((-1))) M3)
     (brA (decide (v2 ≤ (M3 81 10)))
      (PC sc n1 m_X12_readsStep [vr 81] (stM (stM (stM (stM M3 81 11 0) 81 12 v2) 81 37 0) 81 38 0) (cI fun r6 M5 =>
       PW sc n1 m_X12_walk 29 [] [some (vr 81), some (vi v1), some (vi v2), some (vi r6), none] M5 Q))
      (Q (vi ((-1))) M3)))))) : PC sc n m_X12_walk [vr 81, vi v1, vi v2] M Q := pc_go rfl (fun j => Nat.beq j 29 || Nat.beq j 43 || Nat.beq j 59) 85 h
theorem pw_X12_walk_29 {sc : List Int} {n : Nat} {Q : Vv → MM → Prop} (v1 : Int) (v2 : Int) (v3 : Int) (o4 : Option Vv) (M : MM) (h : ∀ n1, n1 < n → brA (decide (v3 = 0))
  (PW sc n1 m_X12_walk 43 [] [some (vr 81), some (vi v1), some (vi v2), some (vi v3), o4] M Q)
  (brA (decide ((M 81 11) < (M 81 12)))
   (PC sc n1 m_X12_readsStep [vr 81] M (cI fun r2 M1 =>
    PW sc n1 m_X12_walk 29 [] [some (vr 81), some (vi v1), some (vi v2), some (vi r2), o4] M1 Q))
   (brA (decide ((M 81 38) ≤ 0))
    (PW sc n1 m_X12_walk 43 [] [some (vr 81), some (vi v1), some (vi v2), some (vi v3), o4] M Q)
    (PC sc n1 m_X12_readsStep [vr 81] M (cI fun r4 M3 =>
     PW sc n1 m_X12_walk 29 [] [some (vr 81), some (vi v1), some (vi v2), some (vi r4), o4] M3 Q))))) : PW sc n m_X12_walk 29 [] [some (vr 81), some (vi v1), some (vi v2), some (vi v3), o4] M Q := pw_go rfl (fun j => Nat.beq j 29 || Nat.beq j 43 || Nat.beq j 59) 85 h
theorem pw_X12_walk_43 {sc : List Int} {n : Nat} {Q : Vv → MM → Prop} (v1 : Int) (v2 : Int) (v3 : Int) (o4 : Option Vv) (M : MM) (h : ∀ n1, n1 < n → brA (decide (v3 ≠ 0))
  (gIm (decide (0 ≤ v1) && decide (v1 < 10)) (PW sc n1 m_X12_walk 59 [] [some (vr 81), some (vi v1), some (vi v2), some (vi v3), some (vi 0)] (stM (stM M 81 10 0) 88 (v1.toNat) (M 81 37)) Q))
  (Q (vi (M 81 13)) (stM M 81 10 0))) : PW sc n m_X12_walk 43 [] [some (vr 81), some (vi v1), some (vi v2), some (vi v3), o4] M Q := pw_go rfl (fun j => Nat.beq j 29 || Nat.beq j 43 || Nat.beq j 59) 85 h
theorem pw_X12_walk_59 {sc : List Int} {n : Nat} {Q : Vv → MM → Prop} (v1 : Int) (v2 : Int) (v3 : Int) (v4 : Int) (M : MM) (h : ∀ n1, n1 < n → brA (decide ((M 81 37) ≤ v4))
  (Q (vi (M 81 37)) M)
  (gIm (decide (0 ≤ v4) && decide (v4 < 60)) (gIm (decide (0 ≤ (w32 ((w32 (60 * v1)) + v4))) && decide ((w32 ((w32 (60 * v1)) + v4)) < 600)) (PW sc n1 m_X12_walk 59 [] [some (vr 81), some (vi v1), some (vi v2), some (vi v3), some (vi (w32 (v4 + 1)))] (stM M 89 ((w32 ((w32 (60 * v1)) + v4)).toNat) (w8 (M 104 v4.toNat))) Q)))) : PW sc n m_X12_walk 59 [] [some (vr 81), some (vi v1), some (vi v2), some (vi v3), some (vi v4)] M Q := pw_go rfl (fun j => Nat.beq j 29 || Nat.beq j 43 || Nat.beq j 59) 85 h
theorem pc_X12_readsStep {sc : List Int} {n : Nat} {Q : Vv → MM → Prop}  (M : MM) (h : ∀ n1, n1 < n → PC sc n1 m_X12_readsTimes [vr 81] M (fun _ M1 =>
  PW sc n1 m_X12_readsStep 2 [] [some (vr 81), none, none, none] M1 Q)) : PC sc n m_X12_readsStep [vr 81] M Q := pc_go rfl (fun j => Nat.beq j 2) 120 h
theorem pw_X12_readsStep_2 {sc : List Int} {n : Nat} {Q : Vv → MM → Prop} (o1 : Option Vv) (o2 : Option Vv) (o3 : Option Vv) (M : MM) (h : ∀ n1, n1 < n → PC sc n1 m_X12_here [vr 81] M (cI fun r2 M1 =>
  brA (decide (r2 ≠ 40))
   (PC sc n1 m_X12_here [vr 81] M1 (cI fun r4 M3 =>
    PC sc n1 m_X12_wayOf [vi r4] M3 (cI fun r6 M5 =>
     brA (decide (r6 ≠ ((-1))))
      (brA (decide ((w32 ((M5 81 37) + (M1 81 40))) ≤ 60))
       (gIm (decide (0 ≤ (M5 81 37)) && decide ((M5 81 37) < 60)) (PC sc n1 m_X12_repeats [vr 81, vi (w32 ((w32 ((M5 81 37) + 1)) - 1)), vi (M1 81 40), vi (M1 81 39)] (stM (stM (stM M5 81 11 (w32 ((M5 81 11) + 1))) 104 ((M5 81 37).toNat) (w8 (w8 r6))) 81 37 (w32 ((M5 81 37) + 1))) (cI fun r8 M7 =>
        brA (decide (r8 ≠ 0))
         (PC sc n1 m_X12_endsRounds [vr 81] M7 (cI fun r10 M9 =>
          gIm (decide (r10 = 0) || decide (r10 = 1)) (Q (vi r10) M9)))
         (Q (vi 0) M7))))
       (PC sc n1 m_X12_wrongAt [vr 81, vi 6, vi (M1 81 39)] (stM M5 81 11 (w32 ((M5 81 11) + 1))) (cI fun r12 M11 =>
        gIm (decide (r12 = 0) || decide (r12 = 1)) (Q (vi r12) M11))))
      (PC sc n1 m_X12_wrongAt [vr 81, vi 1, vi (M5 81 11)] M5 (cI fun r14 M13 =>
       gIm (decide (r14 = 0) || decide (r14 = 1)) (Q (vi r14) M13))))))
   (brA (decide ((M1 81 38) ≠ 3))
    (gIm (decide (0 ≤ (M1 81 38)) && decide ((M1 81 38) < 3)) (gIm (decide (0 ≤ (M1 81 38)) && decide ((M1 81 38) < 3)) (gIm (decide (0 ≤ (M1 81 38)) && decide ((M1 81 38) < 3)) (PC sc n1 m_X12_readsTimes [vr 81] (stM (stM (stM (stM (stM M1 105 ((M1 81 38).toNat) (M1 81 39)) 106 ((M1 81 38).toNat) (M1 81 37)) 107 ((M1 81 38).toNat) (M1 81 40)) 81 38 (w32 ((M1 81 38) + 1))) 81 11 (w32 ((M1 81 11) + 1))) (fun _ M15 =>
     PW sc n1 m_X12_readsStep 2 [] [some (vr 81), o1, o2, o3] M15 Q)))))
    (PC sc n1 m_X12_wrongAt [vr 81, vi 5, vi (M1 81 11)] M1 (cI fun r17 M16 =>
     gIm (decide (r17 = 0) || decide (r17 = 1)) (Q (vi r17) M16)))))) : PW sc n m_X12_readsStep 2 [] [some (vr 81), o1, o2, o3] M Q := pw_go rfl (fun j => Nat.beq j 2) 120 h
theorem pc_X12_readsTimes {sc : List Int} {n : Nat} {Q : Vv → MM → Prop}  (M : MM) (h : ∀ n1, n1 < n → PC sc n1 m_X12_here [vr 81] (stM (stM M 81 39 (M 81 11)) 81 40 1) (cI fun r2 M1 =>
  PC sc n1 m_X12_in [vi r2, vi 50, vi 57] M1 (cI fun r4 M3 =>
   brA (decide (r4 ≠ 0))
    (PC sc n1 m_X12_here [vr 81] M3 (cI fun r6 M5 =>
     Q (vi 0) (stM (stM M5 81 40 (w32 (r6 - 48))) 81 11 (w32 ((M5 81 11) + 1)))))
    (Q (vi 0) M3)))) : PC sc n m_X12_readsTimes [vr 81] M Q := pc_go rfl (fun j => false) 32 h
theorem pc_X12_repeats {sc : List Int} {n : Nat} {Q : Vv → MM → Prop} (v1 : Int) (v2 : Int) (v3 : Int) (M : MM) (h : ∀ n1, n1 < n → brA (decide ((w32 (v1 + (w32 ((w32 ((M 81 37) - v1)) * v2)))) ≤ 60))
  (PW sc n1 m_X12_repeats 19 [] [some (vr 81), some (vi v1), some (vi v2), some (vi v3), some (vi (w32 ((M 81 37) - v1))), some (vi (w32 ((M 81 37) - v1)))] M Q)
  (PC sc n1 m_X12_wrongAt [vr 81, vi 6, vi v3] M (cI fun r2 M1 =>
   gIm (decide (r2 = 0) || decide (r2 = 1)) (Q (vi r2) M1)))) : PC sc n m_X12_repeats [vr 81, vi v1, vi v2, vi v3] M Q := pc_go rfl (fun j => Nat.beq j 19) 54 h
theorem pw_X12_repeats_19 {sc : List Int} {n : Nat} {Q : Vv → MM → Prop} (v1 : Int) (v2 : Int) (v3 : Int) (v4 : Int) (v5 : Int) (M : MM) (h : ∀ n1, n1 < n → brA (decide ((w32 (v4 * v2)) ≤ v5))
  (Q (vi 1) (stM M 81 37 (w32 (v1 + (w32 (v4 * v2))))))
  (gIm (decide (0 ≤ (w32 ((w32 (v1 + v5)) - v4))) && decide ((w32 ((w32 (v1 + v5)) - v4)) < 60)) (gIm (decide (0 ≤ (w32 (v1 + v5))) && decide ((w32 (v1 + v5)) < 60)) (PW sc n1 m_X12_repeats 19 [] [some (vr 81), some (vi v1), some (vi v2), some (vi v3), some (vi v4), some (vi (w32 (v5 + 1)))] (stM M 104 ((w32 (v1 + v5)).toNat) (w8 (M 104 (w32 ((w32 (v1 + v5)) - v4)).toNat))) Q)))) : PW sc n m_X12_repeats 19 [] [some (vr 81), some (vi v1), some (vi v2), some (vi v3), some (vi v4), some (vi v5)] M Q := pw_go rfl (fun j => Nat.beq j 19) 54 h
theorem pc_X12_endsRounds {sc : List Int} {n : Nat} {Q : Vv → MM → Prop}  (M : MM) (h : ∀ n1, n1 < n → PC sc n1 m_X12_here [vr 81] M (cI fun r2 M1 =>
  brA (decide (r2 ≠ 41))
   (Q (vi 1) M1)
   (brA (decide ((M1 81 38) ≤ 0))
    (Q (vi 1) M1)
    (gIm (decide (0 ≤ (w32 ((M1 81 38) - 1))) && decide ((w32 ((M1 81 38) - 1)) < 3)) (gIm (decide (0 ≤ (w32 ((M1 81 38) - 1))) && decide ((w32 ((M1 81 38) - 1)) < 3)) (gIm (decide (0 ≤ (w32 ((M1 81 38) - 1))) && decide ((w32 ((M1 81 38) - 1)) < 3)) (PC sc n1 m_X12_repeats [vr 81, vi (M1 106 (w32 ((M1 81 38) - 1)).toNat), vi (M1 107 (w32 ((M1 81 38) - 1)).toNat), vi (M1 105 (w32 ((M1 81 38) - 1)).toNat)] (stM (stM M1 81 11 (w32 ((M1 81 11) + 1))) 81 38 (w32 ((M1 81 38) - 1))) (cI fun r4 M3 =>
     brA (decide (r4 ≠ 0))
      (PW sc n1 m_X12_endsRounds 0 [] [some (vr 81)] M3 Q)
      (Q (vi 0) M3))))))))) : PC sc n m_X12_endsRounds [vr 81] M Q := pc_go rfl (fun j => Nat.beq j 0) 46 h
theorem pw_X12_endsRounds_0 {sc : List Int} {n : Nat} {Q : Vv → MM → Prop}  (M : MM) (h : ∀ n1, n1 < n → PC sc n1 m_X12_here [vr 81] M (cI fun r2 M1 =>
  brA (decide (r2 ≠ 41))
   (Q (vi 1) M1)
   (brA (decide ((M1 81 38) ≤ 0))
    (Q (vi 1) M1)
    (gIm (decide (0 ≤ (w32 ((M1 81 38) - 1))) && decide ((w32 ((M1 81 38) - 1)) < 3)) (gIm (decide (0 ≤ (w32 ((M1 81 38) - 1))) && decide ((w32 ((M1 81 38) - 1)) < 3)) (gIm (decide (0 ≤ (w32 ((M1 81 38) - 1))) && decide ((w32 ((M1 81 38) - 1)) < 3)) (PC sc n1 m_X12_repeats [vr 81, vi (M1 106 (w32 ((M1 81 38) - 1)).toNat), vi (M1 107 (w32 ((M1 81 38) - 1)).toNat), vi (M1 105 (w32 ((M1 81 38) - 1)).toNat)] (stM (stM M1 81 11 (w32 ((M1 81 11) + 1))) 81 38 (w32 ((M1 81 38) - 1))) (cI fun r4 M3 =>
     brA (decide (r4 ≠ 0))
      (PW sc n1 m_X12_endsRounds 0 [] [some (vr 81)] M3 Q)
      (Q (vi 0) M3))))))))) : PW sc n m_X12_endsRounds 0 [] [some (vr 81)] M Q := pw_go rfl (fun j => Nat.beq j 0) 46 h
theorem pc_X12_wayOf {sc : List Int} {n : Nat} {Q : Vv → MM → Prop} (v0 : Int) (M : MM) (h : ∀ n1, n1 < n → (v0 = 46 → Q (vi 4) M) ∧
  (v0 ≠ 46 → (v0 = 101 → Q (vi 1) M) ∧
  (v0 ≠ 101 → (v0 = 110 → Q (vi 0) M) ∧
  (v0 ≠ 110 → (v0 = 115 → Q (vi 2) M) ∧
  (v0 ≠ 115 → (v0 = 119 → Q (vi 3) M) ∧
  (v0 ≠ 119 → Q (vi ((-1))) M)))))) : PC sc n m_X12_wayOf [vi v0] M Q := pc_go rfl (fun j => false) 19 h
def frV (M0 M : MM) : Prop := (∀ c, c ≠ 81 → c ≠ 104 → c ≠ 105 → c ≠ 106 → c ≠ 107 → M c = M0 c) ∧ ∀ j, j ≠ 11 → j ≠ 12 → j ≠ 13 → j ≠ 37 → j ≠ 38 → j ≠ 39 → j ≠ 40 → M 81 j = M0 81 j
theorem frV.rf (M : MM) : frV M M := ⟨fun _ _ _ _ _ _ => rfl, fun _ _ _ _ _ _ _ _ => rfl⟩
theorem frV.st {M0 M : MM} (h : frV M0 M) {k j : Nat} {v : Int} (hk : (k = 81 ∧ ((11 ≤ j ∧ j ≤ 13) ∨ (37 ≤ j ∧ j ≤ 40))) ∨ (104 ≤ k ∧ k ≤ 107)) : frV M0 (stM M k j v) := ⟨fun c h1 h2 h3 h4 h5 => (stK (by omega)).trans (h.1 c h1 h2 h3 h4 h5), fun i h1 h2 h3 h4 h5 h6 h7 => by
  rw [stM_at, if_neg (by omega)]
  exact h.2 i h1 h2 h3 h4 h5 h6 h7⟩
/- the reference's open groups -/
def gsM (M : MM) (sz : Nat) (G : GG) : Prop := match G with
  | [] => True
  | g :: r => (M 107 r.length = (g.1 : Int) ∧ M 105 r.length = (g.2.1 : Int) ∧ M 106 r.length = (g.2.2 : Int)) ∧ (1 ≤ g.1 ∧ g.1 ≤ 9 ∧ g.2.1 ≤ 80 ∧ g.2.2 ≤ sz) ∧ gsM M sz r
theorem gsM_eq {M M1 : MM} {sz sz1 : Nat} (hs : sz ≤ sz1) : ∀ {G : GG}, (∀ i, i < G.length → M1 107 i = M 107 i ∧ M1 105 i = M 105 i ∧ M1 106 i = M 106 i) → gsM M sz G → gsM M1 sz1 G := by
  intro G
  induction G with
  | nil => intro _ _; trivial
  | cons g r ih =>
    intro h I
    have hl : (g :: r).length = r.length + 1 := rfl
    obtain ⟨e1, e2, e3⟩ := h r.length (by omega)
    refine ⟨⟨e1.trans I.1.1, e2.trans I.1.2.1, e3.trans I.1.2.2⟩, ⟨I.2.1.1, I.2.1.2.1, I.2.1.2.2.1, by have := I.2.1.2.2.2; omega⟩, ih (fun i hi => h i (by omega)) I.2.2⟩
/- the reference while it reads a WALK -/
def wmI (N p sz : Nat) (D : Nat → Int) (G : GG) (M0 M : MM) : Prop := frV M0 M ∧ (M 81 11 = (p : Int) ∧ M 81 12 = (N : Int) ∧ M 81 37 = (sz : Int) ∧ M 81 38 = (G.length : Int)) ∧ (∀ j, j < sz → M 104 j = D j ∧ 0 ≤ D j ∧ D j ≤ 4) ∧ gsM M sz G ∧ (sz ≤ 60 ∧ G.length ≤ 3)
theorem cpD_up (D : Nat → Int) (s : Nat) (v : Int) : ∀ m, cpD (upK D s 1 v) s (s + 1) m = upK D s (m + 1) v := by
  intro m
  induction m with
  | zero => rfl
  | succ m ih =>
    rw [cpD_s, ih, ← upK_s D s (m + 1) v]
    funext j
    have e : upK D s (m + 1) v (s + m) = v := if_pos (by omega)
    rw [e, show s + 1 + m = s + (m + 1) by omega]
section WMS
variable {sc : List Int} {Q : Vv → MM → Prop} {M0 : MM} {t : Nat → Int} {N : Nat}
theorem wmI.fault {p sz : Nat} {D : Nat → Int} {G : GG} {M : MM} (I : wmI N p sz D G M0 M) (v : Int) : frV M0 (stM M 81 13 v) := I.1.st (.inl ⟨rfl, by omega⟩)
set_option maxRecDepth 20000 in
theorem p_wayOf {c : Int} {n : Nat} {M : MM} (k : ∀ x : Int, x = wyV c → Q (vi x) M) : PC sc n m_X12_wayOf [vi c] M Q := pc_X12_wayOf c M fun n1 _ => by
  unfold wyV at k
  refine ⟨fun h => ?_, fun h1 => ⟨fun h => ?_, fun h2 => ⟨fun h => ?_, fun h3 => ⟨fun h => ?_, fun h4 => ⟨fun h => ?_, fun h5 => ?_⟩⟩⟩⟩⟩
  · exact k _ (by rw [if_pos h])
  · exact k _ (by rw [if_neg h1, if_pos h])
  · exact k _ (by rw [if_neg h1, if_neg h2, if_pos h])
  · exact k _ (by rw [if_neg h1, if_neg h2, if_neg h3, if_pos h])
  · exact k _ (by rw [if_neg h1, if_neg h2, if_neg h3, if_neg h4, if_pos h])
  · exact k _ (by rw [if_neg h1, if_neg h2, if_neg h3, if_neg h4, if_neg h5])
set_option maxRecDepth 20000 in
theorem f_repeats {p sz fr tm pl n : Nat} {D : Nat → Int} {G : GG} {M : MM} (hf : fr ≤ sz) (h1 : 1 ≤ tm) (h9 : tm ≤ 9) (hp : pl ≤ 80) (I : wmI N p sz D G M0 M) (k0 : 60 < sz + (sz - fr) * (tm - 1) → ∀ x : Int, x = 0 → Q (vi x) (stM M 81 13 (-6000 - (pl : Int)))) (k1 : ¬ 60 < sz + (sz - fr) * (tm - 1) → ∀ M1, wmI N p (sz + (sz - fr) * (tm - 1)) (cpD D fr sz ((sz - fr) * (tm - 1))) G M0 M1 → ∀ x : Int, x = 1 → Q (vi x) M1) : PC sc n m_X12_repeats [vr 81, vi (fr : Int), vi (tm : Int), vi (pl : Int)] M Q := by
  have hb := I.2.2.2.2
  have hm := mulN (a := sz - fr) (b := tm) (by omega) h1 h9
  generalize hmore : (sz - fr) * (tm - 1) = more at hm k0 k1
  have hz0 : sz - fr = 0 → more = 0 := fun z => by rw [← hmore, z, Nat.zero_mul]
  refine pc_X12_repeats _ _ _ M fun n1 _ => ?_
  rw [I.2.1.2.2.1, ew32 (z := (sz : Int) - (fr : Int)) (by omega) (by omega), show ((sz : Int) - (fr : Int)) = ((sz - fr : Nat) : Int) by omega, hm.2.1, ew32 (z := ((sz - fr : Nat) : Int) + ((more : Nat) : Int)) (by omega) (by omega), ew32 (z := (fr : Int) + (((sz - fr : Nat) : Int) + ((more : Nat) : Int))) (by omega) (by omega)]
  refine brP (fun h => ?_) fun h => p_wrong (by omega) (by omega) fun x hx => gMB ?_
  · have k1 := k1 (by omega)
    have lp : ∀ (m i n : Nat) (M1 : MM), i + m = more → frV M0 M1 → (M1 81 11 = (p : Int) ∧ M1 81 12 = (N : Int) ∧ M1 81 38 = (G.length : Int)) → (∀ j, j < sz + i → M1 104 j = cpD D fr sz i j ∧ 0 ≤ cpD D fr sz i j ∧ cpD D fr sz i j ≤ 4) → gsM M1 sz G → PW sc n m_X12_repeats 19 [] [some (vr 81), some (vi (fr : Int)), some (vi (tm : Int)), some (vi (pl : Int)), some (vi ((sz - fr : Nat) : Int)), some (vi ((sz - fr + i : Nat) : Int))] M1 Q := by
      intro m
      induction m with
      | zero =>
        intro i n M1 hi f e eD gs
        have hi : i = more := hi
        subst hi
        refine pw_X12_repeats_19 _ _ _ _ _ M1 fun n2 _ => ?_
        rw [hm.2.1, ew32 (z := ((sz - fr : Nat) : Int) + ((i : Nat) : Int)) (by omega) (by omega), ew32 (z := (fr : Int) + (((sz - fr : Nat) : Int) + ((i : Nat) : Int))) (by omega) (by omega)]
        refine brT (by omega) (k1 _ ⟨f.st (.inl ⟨rfl, by omega⟩), ⟨(stO (by decide)).trans e.1, (stO (by decide)).trans e.2.1, ?_, (stO (by decide)).trans e.2.2⟩, fun j hj => ?_, gsM_eq (by omega) (fun i hi => ⟨stN (by decide), stN (by decide), stN (by decide)⟩) gs, by omega⟩ 1 rfl)
        · rw [stE]
          omega
        · rw [stN (by decide)]
          exact eD j hj
      | succ m ih =>
        intro i n M1 hi f e eD gs
        refine pw_X12_repeats_19 _ _ _ _ _ M1 fun n2 _ => ?_
        rw [hm.2.1, ew32 (z := ((sz - fr : Nat) : Int) + ((more : Nat) : Int)) (by omega) (by omega), ew32 (z := (fr : Int) + ((sz - fr + i : Nat) : Int)) (by omega) (by omega), ew32 (z := (fr : Int) + ((sz - fr + i : Nat) : Int) - ((sz - fr : Nat) : Int)) (by omega) (by omega), show ((fr : Int) + ((sz - fr + i : Nat) : Int)).toNat = sz + i by omega, show ((fr : Int) + ((sz - fr + i : Nat) : Int) - ((sz - fr : Nat) : Int)).toNat = fr + i by omega, show w32 (((sz - fr + i : Nat) : Int) + 1) = ((sz - fr + (i + 1) : Nat) : Int) from ew32 (by omega) (by omega)]
        refine brF (by omega) (gMB (gMI fun g1 g2 => ?_))
        have hd := eD (fr + i) (by omega)
        rw [hd.1, ew8 (by omega) (by omega)]
        refine ih (i + 1) n2 _ (by omega) (f.st (.inr (by omega))) ⟨(stN (by decide)).trans e.1, (stN (by decide)).trans e.2.1, (stN (by decide)).trans e.2.2⟩ (fun j hj => ?_) (gsM_eq (Nat.le_refl _) (fun i hi => ⟨stN (by decide), stN (by decide), stN (by decide)⟩) gs)
        rw [stF, cpD_s]
        dsimp only
        by_cases q : j = sz + i
        · rw [if_pos q, if_pos q]
          exact ⟨rfl, hd.2⟩
        · rw [if_neg q, if_neg q]
          exact eD j (by omega)
    exact lp more 0 n1 M (Nat.zero_add _) I.1 ⟨I.2.1.1, I.2.1.2.1, I.2.1.2.2.2⟩ I.2.2.1 I.2.2.2.1
  · exact k0 (by omega) x hx
set_option maxRecDepth 20000 in
theorem f_ends (ht : ∀ i, bAnd (M0 90 i) 255 = t i) (hN : N ≤ 80) {Z : Int × Nat × (Nat → Int)} {dp : Nat} (k0 : ∀ M1, frV M0 M1 → M1 81 13 = Z.1 → Z.1 < 0 → ∀ x : Int, x = 0 → Q (vi x) M1) (k1 : ∀ (p sz : Nat) (D : Nat → Int) (G : GG) (M1 : MM), wz t N (N - p) p sz 0 dp false D G = Z → p ≤ N → (G ≠ [] → p < N → t p ≠ 41) → wmI N p sz D G M0 M1 → ∀ x : Int, x = 1 → Q (vi x) M1) : ∀ (G : GG) (p sz n : Nat) (D : Nat → Int) (M : MM), p ≤ N → wz t N (N - p) p sz 0 dp false D G = Z → wmI N p sz D G M0 M → PC sc n m_X12_endsRounds [vr 81] M Q := by
  intro G
  induction G with
  | nil =>
    intro p sz n D M hp hz I
    have htM : ∀ i, bAnd (M 90 i) 255 = t i := fun i => by rw [I.1.1 90 (by decide) (by decide) (by decide) (by decide) (by decide)]; exact ht i
    have e38 : M 81 38 = 0 := I.2.1.2.2.2
    have fin : ∀ x : Int, x = 1 → Q (vi x) M := k1 p sz D [] M hz hp (fun z => absurd rfl z) I
    refine pc_X12_endsRounds M fun n1 _ => p_here I.2.1.1 I.2.1.2.1 htM (fun q c hc => brT (by omega) (fin 1 rfl)) fun q c hc => cI_i ?_
    rw [e38]
    exact brP (fun _ => fin 1 rfl) fun _ => brT (Int.le_refl _) (fin 1 rfl)
  | cons g r ih =>
    intro p sz n D M hp hz I
    have htM : ∀ i, bAnd (M 90 i) 255 = t i := fun i => by rw [I.1.1 90 (by decide) (by decide) (by decide) (by decide) (by decide)]; exact ht i
    have hl : (g :: r).length = r.length + 1 := rfl
    have e38 : M 81 38 = ((r.length + 1 : Nat) : Int) := I.2.1.2.2.2
    obtain ⟨⟨g1, g2, g3⟩, g4, gs⟩ := I.2.2.2.1
    have hb := I.2.2.2.2
    have fin : (p < N → t p ≠ 41) → ∀ x : Int, x = 1 → Q (vi x) M := fun h => k1 p sz D (g :: r) M hz hp (fun _ => h) I
    refine pc_X12_endsRounds M fun n1 _ => p_here I.2.1.1 I.2.1.2.1 htM (fun q c hc => brT (by omega) (fin (fun z => by omega) 1 rfl)) fun q c hc => cI_i ?_
    have ew : ∀ _ : Unit, w32 (M 81 38 - 1) = (r.length : Int) := fun _ => by
      rw [e38, ew32 (by omega) (by omega)]
      omega
    rw [ew (), show ((r.length : Int)).toNat = r.length by omega, g1, g2, g3, I.2.1.1, show w32 ((p : Int) + 1) = ((p + 1 : Nat) : Int) from ew32 (by omega) (by omega)]
    refine brP (fun h => fin (fun _ => by omega) 1 rfl) fun h => ?_
    have h := Classical.not_not.mp h
    refine brF (by omega) (gMB (gMB (gMB ?_)))
    obtain ⟨m, hm⟩ : ∃ m, N - p = m + 1 := ⟨N - p - 1, by omega⟩
    have hs := wz_s t N m p sz 0 dp false D (g :: r)
    have hw : wyV (t p) = -1 := by
      rw [← hc, h]
      rfl
    rw [if_neg (by omega), if_neg (fun z => z hw), if_neg (by omega), if_pos ⟨by omega, rfl, rfl⟩] at hs
    rw [hm, hs] at hz
    have I1 : wmI N (p + 1) sz D r M0 (stM (stM M 81 11 ((p + 1 : Nat) : Int)) 81 38 (r.length : Int)) := ⟨(I.1.st (.inl ⟨rfl, by omega⟩)).st (.inl ⟨rfl, by omega⟩), ⟨(stO (by decide)).trans stE, (stO (by decide)).trans ((stO (by decide)).trans I.2.1.2.1), (stO (by decide)).trans ((stO (by decide)).trans I.2.1.2.2.1), stE⟩, fun j hj => by rw [stN (by decide), stN (by decide)]; exact I.2.2.1 j hj, gsM_eq (Nat.le_refl _) (fun i hi => by rw [stN (by decide), stN (by decide), stN (by decide), stN (by decide), stN (by decide), stN (by decide)]; exact ⟨rfl, rfl, rfl⟩) gs, by omega⟩
    refine f_repeats (by omega) (by omega) (by omega) (by omega) I1 (fun q2 x hx => brF (by omega) ?_) fun q2 M2 I2 x hx => brT (by omega) ?_
    · have hz : (if 60 < sz + (sz - g.2.2) * (g.1 - 1) then (-6000 - (g.2.1 : Int), sz, D) else wz t N m (p + 1) (sz + (sz - g.2.2) * (g.1 - 1)) 0 dp false (cpD D g.2.2 sz ((sz - g.2.2) * (g.1 - 1))) r) = Z := hz
      rw [if_pos q2] at hz
      refine k0 _ (I1.fault _) ?_ ?_ 0 rfl
      · rw [stE, ← hz]
      · rw [← hz]
        show -6000 - (g.2.1 : Int) < 0
        omega
    · have hz : (if 60 < sz + (sz - g.2.2) * (g.1 - 1) then (-6000 - (g.2.1 : Int), sz, D) else wz t N m (p + 1) (sz + (sz - g.2.2) * (g.1 - 1)) 0 dp false (cpD D g.2.2 sz ((sz - g.2.2) * (g.1 - 1))) r) = Z := hz
      rw [if_neg q2, show m = N - (p + 1) by omega] at hz
      have := ih (p + 1) _ (n1 + 1) _ M2 (by omega) hz I2
      exact PW.le this (by omega)
set_option maxRecDepth 20000 in
theorem f_times (ht : ∀ i, bAnd (M0 90 i) 255 = t i) (hN : N ≤ 80) {p sz dp n : Nat} {br : Bool} {D : Nat → Int} {G : GG} {M : MM} (hp : p ≤ N) (I : wmI N p sz D G M0 M) (k : ∀ (p2 dg tm fi dp2 : Nat) (M1 : MM), wz t N (N - p2) p2 sz dg dp2 br D G = wz t N (N - p) p sz 0 dp br D G → p ≤ p2 → p2 ≤ N → ((dg = 0 ∧ tm = 1 ∧ fi = p2 ∧ p2 = p ∧ (p2 < N → ¬ (50 ≤ t p2 ∧ t p2 ≤ 57))) ∨ (dg = tm ∧ 2 ≤ tm ∧ tm ≤ 9 ∧ dp2 = fi)) → fi ≤ 80 → wmI N p2 sz D G M0 M1 → M1 81 39 = (fi : Int) → M1 81 40 = (tm : Int) → Q (vi 0) M1) : PC sc n m_X12_readsTimes [vr 81] M Q := by
  have htM : ∀ M1, frV M0 M1 → ∀ i, bAnd (M1 90 i) 255 = t i := fun M1 f i => by rw [f.1 90 (by decide) (by decide) (by decide) (by decide) (by decide)]; exact ht i
  refine pc_X12_readsTimes M fun n1 _ => ?_
  have I1 : wmI N p sz D G M0 (stM (stM M 81 39 (M 81 11)) 81 40 1) := ⟨(I.1.st (.inl ⟨rfl, by omega⟩)).st (.inl ⟨rfl, by omega⟩), ⟨(stO (by decide)).trans ((stO (by decide)).trans I.2.1.1), (stO (by decide)).trans ((stO (by decide)).trans I.2.1.2.1), (stO (by decide)).trans ((stO (by decide)).trans I.2.1.2.2.1), (stO (by decide)).trans ((stO (by decide)).trans I.2.1.2.2.2)⟩, fun j hj => by rw [stN (by decide), stN (by decide)]; exact I.2.2.1 j hj, gsM_eq (Nat.le_refl _) (fun i hi => by rw [stN (by decide), stN (by decide), stN (by decide), stN (by decide), stN (by decide), stN (by decide)]; exact ⟨rfl, rfl, rfl⟩) I.2.2.2.1, I.2.2.2.2⟩
  have e39 : stM (stM M 81 39 (M 81 11)) 81 40 1 81 39 = (p : Int) := by rw [stO (by decide), stE]; exact I.2.1.1
  have no : (p < N → ¬ (50 ≤ t p ∧ t p ≤ 57)) → Q (vi 0) (stM (stM M 81 39 (M 81 11)) 81 40 1) := fun h => k p 0 1 p dp _ rfl (Nat.le_refl _) hp (.inl ⟨rfl, rfl, rfl, rfl, h⟩) (by omega) I1 e39 stE
  refine p_here I1.2.1.1 I1.2.1.2.1 (htM _ I1.1) (fun q c hc => p_in (fun _ x hx => brF (by omega) (no fun z => by omega)) fun q2 x hx => by omega) fun q c hc => ?_
  subst hc
  refine p_in (fun q2 x hx => brF (by omega) (no fun _ => q2)) fun q2 x hx => brT (by omega) (p_here I1.2.1.1 I1.2.1.2.1 (htM _ I1.1) (fun z => by omega) fun _ c hc => cI_i ?_)
  subst hc
  have e11 := I1.2.1.1
  rw [ew32 (z := t p - 48) (by omega) (by omega), e11, show w32 ((p : Int) + 1) = ((p + 1 : Nat) : Int) from ew32 (by omega) (by omega)]
  obtain ⟨m, hm⟩ : ∃ m, N - p = m + 1 := ⟨N - p - 1, by omega⟩
  have hs := wz_s t N m p sz 0 dp br D G
  rw [if_pos ⟨rfl, q2⟩] at hs
  refine k (p + 1) (t p - 48).toNat (t p - 48).toNat p p _ (by rw [hm, hs, show N - (p + 1) = m by omega]) (by omega) (by omega) (.inr ⟨rfl, by omega, by omega, rfl⟩) (by omega) ⟨(I1.1.st (.inl ⟨rfl, by omega⟩)).st (.inl ⟨rfl, by omega⟩), ⟨stE, ?_, ?_, ?_⟩, fun j hj => ?_, gsM_eq (Nat.le_refl _) (fun i hi => ?_) I1.2.2.2.1, I1.2.2.2.2⟩ ?_ ?_
  · rw [stO (by decide), stO (by decide)]
    exact I1.2.1.2.1
  · rw [stO (by decide), stO (by decide)]
    exact I1.2.1.2.2.1
  · rw [stO (by decide), stO (by decide)]
    exact I1.2.1.2.2.2
  · rw [stN (by decide), stN (by decide)]
    exact I1.2.2.1 j hj
  · rw [stN (by decide), stN (by decide), stN (by decide), stN (by decide), stN (by decide), stN (by decide)]
    exact ⟨rfl, rfl, rfl⟩
  · rw [stO (by decide), stO (by decide)]
    exact e39
  · rw [stO (by decide), stE]
    omega
set_option maxRecDepth 20000 in
theorem f_step2 (ht : ∀ i, bAnd (M0 90 i) 255 = t i) (hN : N ≤ 80) {Z : Int × Nat × (Nat → Int)} (k0 : ∀ M1, frV M0 M1 → M1 81 13 = Z.1 → Z.1 < 0 → ∀ x : Int, x = 0 → Q (vi x) M1) (k1 : ∀ (p sz dp : Nat) (D : Nat → Int) (G : GG) (M1 : MM), wz t N (N - p) p sz 0 dp false D G = Z → p ≤ N → (G ≠ [] → p < N → t p ≠ 41) → wmI N p sz D G M0 M1 → ∀ x : Int, x = 1 → Q (vi x) M1) : ∀ (m p dg tm fi dp sz n : Nat) (br : Bool) (D : Nat → Int) (G : GG) (o1 o2 o3 : Option Vv) (M : MM), G.length + m = 3 → wz t N (N - p) p sz dg dp br D G = Z → p ≤ N → ((dg = 0 ∧ tm = 1 ∧ fi = p ∧ (p < N → ¬ (50 ≤ t p ∧ t p ≤ 57)) ∧ (br = false → G ≠ [] → p < N → t p ≠ 41) ∧ (G = [] → p < N)) ∨ (dg = tm ∧ 2 ≤ tm ∧ tm ≤ 9 ∧ dp = fi)) → fi ≤ 80 → wmI N p sz D G M0 M → M 81 39 = (fi : Int) → M 81 40 = (tm : Int) → PW sc n m_X12_readsStep 2 [] [some (vr 81), o1, o2, o3] M Q := by
  intro m
  induction m using Nat.strongRecOn with
  | ind m ih =>
    intro p dg tm fi dp sz n br D G o1 o2 o3 M hG hz hp hd hfi I e39 e40
    have htM : ∀ M1, frV M0 M1 → ∀ i, bAnd (M1 90 i) 255 = t i := fun M1 f i => by rw [f.1 90 (by decide) (by decide) (by decide) (by decide) (by decide)]; exact ht i
    have hb := I.2.2.2.2
    have htm : 1 ≤ tm ∧ tm ≤ 9 := by omega
    have bad : Z.1 = -1000 - (p : Int) → ∀ x : Int, x = 0 → Q (vi x) (stM M 81 13 (-1000 * 1 - (p : Int))) := fun e => k0 _ (I.fault _) (by rw [stE]; omega) (by omega)
    refine pw_X12_readsStep_2 o1 o2 o3 M fun n1 _ => p_here I.2.1.1 I.2.1.2.1 (htM M I.1) (fun q c hc => brT (by omega) (p_here I.2.1.1 I.2.1.2.1 (htM M I.1) (fun _ c2 hc2 => p_wayOf fun r hr => brF ?_ ?_) fun z => by omega)) fun q c hc => ?_
    · subst hc2
      have : wyV (-1) = -1 := rfl
      omega
    · rw [I.2.1.1]
      refine p_wrong (by omega) (by omega) fun w hw => gMB (bad ?_ w hw)
      rw [← hz, show N - p = 0 by omega]
      show (if dg ≠ 0 ∨ G.length ≠ 0 then (-1000 - (N : Int), sz, D) else ((sz : Int), sz, D)).1 = _
      rw [if_pos (by
        rcases hd with hd | hd
        · refine .inr fun z => ?_
          have := hd.2.2.2.2.2 (List.eq_nil_of_length_eq_zero z)
          omega
        · exact .inl (by omega))]
      show -1000 - (N : Int) = -1000 - (p : Int)
      omega
    · subst hc
      obtain ⟨m', hm⟩ : ∃ m', N - p = m' + 1 := ⟨N - p - 1, by omega⟩
      have hs := wz_s t N m' p sz dg dp br D G
      rw [hm] at hz
      rw [if_neg (by omega)] at hs
      have hti : (if dg = 0 then 1 else dg) = tm := by split <;> omega
      have hfp : (if dg = 0 then p else dp) = fi := by split <;> omega
      rw [hti, hfp] at hs
      refine brP (fun h40 => p_here I.2.1.1 I.2.1.2.1 (htM M I.1) (fun z => by omega) fun _ c hc => ?_) fun h40 => ?_
      · subst hc
        refine p_wayOf fun r hr => cI_i ?_
        have hwr := wyV_r (t p)
        rw [I.2.1.1, I.2.1.2.2.1, e40, e39, show w32 ((p : Int) + 1) = ((p + 1 : Nat) : Int) from ew32 (by omega) (by omega), ew32 (z := (sz : Int) + (tm : Int)) (by omega) (by omega)]
        refine brP (fun hw => ?_) fun hw => ?_
        · rw [if_pos (by omega)] at hs
          refine brP (fun hle => gMB ?_) fun hle => p_wrong (by omega) (by omega) fun w hw2 => gMB ?_
          · rw [if_neg (by omega)] at hs
            rw [show (((sz : Nat) : Int)).toNat = sz by omega, show w32 ((sz : Int) + 1) = ((sz + 1 : Nat) : Int) from ew32 (by omega) (by omega), show w32 (((sz + 1 : Nat) : Int) - 1) = (sz : Int) by rw [ew32 (by omega) (by omega)]; omega, ew8 (z := r) (by omega) (by omega), ew8 (z := r) (by omega) (by omega)]
            have I1 : wmI N (p + 1) (sz + 1) (upK D sz 1 r) G M0 (stM (stM (stM M 81 11 ((p + 1 : Nat) : Int)) 104 sz r) 81 37 ((sz + 1 : Nat) : Int)) := by
              refine ⟨((I.1.st (.inl ⟨rfl, by omega⟩)).st (.inr (by omega))).st (.inl ⟨rfl, by omega⟩), ⟨?_, ?_, stE, ?_⟩, fun j hj => ?_, gsM_eq (by omega) (fun i hi => ?_) I.2.2.2.1, by omega⟩
              · rw [stO (by decide), stN (by decide), stE]
              · rw [stO (by decide), stN (by decide), stO (by decide)]
                exact I.2.1.2.1
              · rw [stO (by decide), stN (by decide), stO (by decide)]
                exact I.2.1.2.2.2
              · rw [stN (by decide), stF, ← upK_1]
                dsimp only
                by_cases z : j = sz
                · rw [if_pos z, if_pos z]
                  omega
                · rw [if_neg z, if_neg z, stN (by decide)]
                  exact I.2.2.1 j (by omega)
              · rw [stN (by decide), stN (by decide), stN (by decide), stN (by decide), stN (by decide), stN (by decide), stN (by decide), stN (by decide), stN (by decide)]
                exact ⟨rfl, rfl, rfl⟩
            have hmore : (sz + 1 - sz) * (tm - 1) = tm - 1 := by
              rw [show sz + 1 - sz = 1 by omega, Nat.one_mul]
            have e2 : sz + 1 + (tm - 1) = sz + tm := by omega
            refine f_repeats (by omega) htm.1 htm.2 hfi I1 (fun q2 => ?_) fun q2 M2 I2 x hx => brT (by omega) ?_
            · rw [hmore] at q2
              omega
            · rw [hmore, e2, cpD_up, show tm - 1 + 1 = tm by omega, hr] at I2
              rw [hs] at hz
              exact f_ends (Q := cI fun r10 M9 => gIm (decide (r10 = 0) || decide (r10 = 1)) (Q (vi r10) M9)) ht hN (dp := dp) (fun M3 f3 h13 h0 z hz3 => gMB (k0 M3 f3 h13 h0 z hz3)) (fun p3 sz3 D3 G3 M3 hz3 hp3 hs3 I3 z hzz => gMB (k1 p3 sz3 dp D3 G3 M3 hz3 hp3 hs3 I3 z hzz)) G (p + 1) (sz + tm) n1 _ M2 (by omega) (by rw [show N - (p + 1) = m' by omega]; exact hz) I2
          · rw [if_pos (by omega)] at hs
            rw [hs] at hz
            refine k0 _ ((I.1.st (.inl ⟨rfl, by omega⟩)).st (.inl ⟨rfl, by omega⟩)) ?_ ?_ w hw2
            · rw [stE, ← hz]
              show -1000 * 6 - (fi : Int) = -6000 - (fi : Int)
              omega
            · rw [← hz]
              show -6000 - (fi : Int) < 0
              omega
        · rw [if_neg (by omega), if_neg (by omega)] at hs
          refine p_wrong (by omega) (by omega) fun w hw2 => gMB (bad ?_ w hw2)
          rw [← hz, hs]
          by_cases h41 : t p = 41 ∧ dg = 0 ∧ br = false
          · rw [if_pos h41]
            have hGn : G = [] := by
              rcases hd with hd | hd
              · cases G with
                | nil => rfl
                | cons g r => exact absurd h41.1 (hd.2.2.2.2.1 h41.2.2 (fun z => (by cases z)) q)
              · omega
            subst hGn
            rfl
          · rw [if_neg h41]
      · have h40 := Classical.not_not.mp h40
        have hw : wyV (t p) = -1 := by
          rw [h40]
          rfl
        rw [if_neg (fun z => z hw), if_pos h40] at hs
        rw [I.2.1.1, I.2.1.2.2.1, I.2.1.2.2.2, e39, e40, show ((G.length : Int)).toNat = G.length by omega, show w32 ((p : Int) + 1) = ((p + 1 : Nat) : Int) from ew32 (by omega) (by omega), show w32 ((G.length : Int) + 1) = ((G.length + 1 : Nat) : Int) from ew32 (by omega) (by omega)]
        refine brP (fun h3 => gMB (gMB (gMB ?_))) fun h3 => p_wrong (by omega) (by omega) fun w hw2 => gMB ?_
        · rw [if_neg (by omega)] at hs
          rw [hs] at hz
          have hl : ((tm, fi, sz) :: G).length = G.length + 1 := rfl
          have I1 : wmI N (p + 1) sz D ((tm, fi, sz) :: G) M0 (stM (stM (stM (stM (stM M 105 G.length (fi : Int)) 106 G.length (sz : Int)) 107 G.length (tm : Int)) 81 38 ((G.length + 1 : Nat) : Int)) 81 11 ((p + 1 : Nat) : Int)) := by
            refine ⟨((((I.1.st (.inr (by omega))).st (.inr (by omega))).st (.inr (by omega))).st (.inl ⟨rfl, by omega⟩)).st (.inl ⟨rfl, by omega⟩), ⟨stE, ?_, ?_, ?_⟩, fun j hj => ?_, ⟨⟨?_, ?_, ?_⟩, ⟨by show 1 ≤ tm; omega, by show tm ≤ 9; omega, by show fi ≤ 80; omega, Nat.le_refl _⟩, gsM_eq (Nat.le_refl _) (fun i hi => ⟨?_, ?_, ?_⟩) I.2.2.2.1⟩, by omega⟩
            · rw [stO (by decide), stO (by decide), stN (by decide), stN (by decide), stN (by decide)]
              exact I.2.1.2.1
            · rw [stO (by decide), stO (by decide), stN (by decide), stN (by decide), stN (by decide)]
              exact I.2.1.2.2.1
            · rw [stO (by decide), stE]
              rfl
            · rw [stN (by decide), stN (by decide), stN (by decide), stN (by decide), stN (by decide)]
              exact I.2.2.1 j hj
            · rw [stN (by decide), stN (by decide), stE]
            · rw [stN (by decide), stN (by decide), stN (by decide), stN (by decide), stE]
            · rw [stN (by decide), stN (by decide), stN (by decide), stE]
            · rw [stN (by decide), stN (by decide), stO (by omega), stN (by decide), stN (by decide)]
            · rw [stN (by decide), stN (by decide), stN (by decide), stN (by decide), stO (by omega)]
            · rw [stN (by decide), stN (by decide), stN (by decide), stO (by omega), stN (by decide)]
          refine f_times (br := true) (dp := dp) ht hN (by omega) I1 fun p2 dg2 tm2 fi2 dp2 M2 hz2 hp2 hp2N hd2 hfi2 I2 e39 e40 => ?_
          refine ih (m - 1) (by omega) p2 dg2 tm2 fi2 dp2 sz n1 true D _ o1 o2 o3 M2 (by omega) ?_ hp2N ?_ hfi2 I2 e39 e40
          · rw [hz2, show N - (p + 1) = m' by omega]
            exact hz
          · rcases hd2 with h | h
            · exact .inl ⟨h.1, h.2.1, h.2.2.1, h.2.2.2.2, fun z => (by cases z), fun z => (by cases z)⟩
            · exact .inr h
        · rw [if_pos (by omega)] at hs
          rw [hs] at hz
          refine k0 _ (I.fault _) ?_ ?_ w hw2
          · rw [stE, ← hz]
            show -1000 * 5 - (p : Int) = -5000 - (p : Int)
            omega
          · rw [← hz]
            show -5000 - (p : Int) < 0
            omega
set_option maxRecDepth 20000 in
theorem f_readsStep (ht : ∀ i, bAnd (M0 90 i) 255 = t i) (hN : N ≤ 80) {Z : Int × Nat × (Nat → Int)} (k0 : ∀ M1, frV M0 M1 → M1 81 13 = Z.1 → Z.1 < 0 → ∀ x : Int, x = 0 → Q (vi x) M1) (k1 : ∀ (p sz dp : Nat) (D : Nat → Int) (G : GG) (M1 : MM), wz t N (N - p) p sz 0 dp false D G = Z → p ≤ N → (G ≠ [] → p < N → t p ≠ 41) → wmI N p sz D G M0 M1 → ∀ x : Int, x = 1 → Q (vi x) M1) {p dp sz n : Nat} {D : Nat → Int} {G : GG} {M : MM} (hz : wz t N (N - p) p sz 0 dp false D G = Z) (hp : p ≤ N) (h41 : G ≠ [] → p < N → t p ≠ 41) (hG : G = [] → p < N) (I : wmI N p sz D G M0 M) : PC sc n m_X12_readsStep [vr 81] M Q := by
  refine pc_X12_readsStep M fun n1 _ => f_times (br := false) (dp := dp) ht hN hp I fun p2 dg2 tm2 fi2 dp2 M2 hz2 hp2 hp2N hd2 hfi2 I2 e39 e40 => ?_
  have hb := I.2.2.2.2
  refine f_step2 ht hN k0 k1 (3 - G.length) p2 dg2 tm2 fi2 dp2 sz n1 false D G none none none M2 (by omega) (hz2.trans hz) hp2N ?_ hfi2 I2 e39 e40
  rcases hd2 with h | h
  · obtain ⟨h1, h2, h3, h4, h5⟩ := h
    subst h4
    exact .inl ⟨h1, h2, h3, h5, fun _ => h41, hG⟩
  · exact .inr h
/- what the reference's walk leaves alone -/
def frU (h : Nat) (M M1 : MM) : Prop := (∀ c, c ≠ 81 → c ≠ 88 → c ≠ 89 → c ≠ 104 → c ≠ 105 → c ≠ 106 → c ≠ 107 → M1 c = M c) ∧ (∀ j, j ≠ 10 → j ≠ 11 → j ≠ 12 → j ≠ 13 → j ≠ 37 → j ≠ 38 → j ≠ 39 → j ≠ 40 → M1 81 j = M 81 j) ∧ M1 81 10 = 0 ∧ (∀ j, j ≠ h → M1 88 j = M 88 j) ∧ ∀ j, (j < 60 * h ∨ 60 * h + 60 ≤ j) → M1 89 j = M 89 j
set_option maxRecDepth 20000 in
theorem f_walkM {D0 : Nat → Int} {h v : Int} {n : Nat} {M : MM} (ht : ∀ i, bAnd (M 90 i) 255 = t i) (k0 : ¬ ((0 ≤ h ∧ h ≤ 9) ∧ 1 ≤ v ∧ v ≤ 80 ∧ v ≤ M 81 10) → Q (vi (-1)) M) (k1 : ((0 ≤ h ∧ h ≤ 9) ∧ 1 ≤ v ∧ v ≤ 80 ∧ v ≤ M 81 10) → (wzR t v.toNat D0).1 < 0 → ∀ M1, frU h.toNat M M1 → M1 88 = M 88 → M1 89 = M 89 → Q (vi (wzR t v.toNat D0).1) M1) (k2 : ((0 ≤ h ∧ h ≤ 9) ∧ 1 ≤ v ∧ v ≤ 80 ∧ v ≤ M 81 10) → ∀ (sz : Nat) (D : Nat → Int), wzR t v.toNat D0 = ((sz : Int), sz, D) → sz ≤ 60 → (∀ j, j < sz → 0 ≤ D j ∧ D j ≤ 4) → ∀ M1, frU h.toNat M M1 → M1 88 h.toNat = (sz : Int) → (∀ j, j < sz → M1 89 (60 * h.toNat + j) = D j) → (∀ j, sz ≤ j → M1 89 (60 * h.toNat + j) = M 89 (60 * h.toNat + j)) → Q (vi (sz : Int)) M1) : PC sc n m_X12_walk [vr 81, vi h, vi v] M Q := by
  refine pc_X12_walk h v M fun n1 _ => p_isTen (fun q x hx => brT hx (k0 fun z => q z.1)) fun q x hx => brF (by omega) (p_in (fun q2 y hy => brT hy (k0 fun z => q2 ⟨z.2.1, z.2.2.1⟩)) fun q2 y hy => brF (by omega) (brP (fun q3 => ?_) fun q3 => k0 fun z => q3 z.2.2.2))
  have k3 := k1 ⟨q, q2.1, q2.2, q3⟩
  have k4 := k2 ⟨q, q2.1, q2.2, q3⟩
  clear k0 k1 k2
  obtain ⟨N, hN⟩ : ∃ N : Nat, v = (N : Int) := ⟨v.toNat, by omega⟩
  subst hN
  rw [show ((N : Int)).toNat = N by omega] at k3 k4
  obtain ⟨hn, hh⟩ : ∃ hn : Nat, h = (hn : Int) := ⟨h.toNat, by omega⟩
  subst hh
  rw [show ((hn : Int)).toNat = hn by omega] at k3 k4
  have bad : ∀ (n : Nat) (o4 : Option Vv) (M1 : MM), frV M M1 → M1 81 13 = (wzR t N D0).1 → (wzR t N D0).1 < 0 → PW sc n m_X12_walk 29 [] [some (vr 81), some (vi (hn : Int)), some (vi (N : Int)), some (vi 0), o4] M1 Q := fun n o4 M1 f e q0 => by
    refine pw_X12_walk_29 _ _ _ o4 M1 fun n2 _ => brT rfl (pw_X12_walk_43 _ _ _ o4 M1 fun n3 _ => brF (by decide) ?_)
    rw [e]
    refine k3 q0 _ ⟨fun c c1 c2 c3 c4 c5 c6 c7 => (stK c1).trans (f.1 c c1 c4 c5 c6 c7), fun j j1 j2 j3 j4 j5 j6 j7 j8 => (stO j1).trans (f.2 j j2 j3 j4 j5 j6 j7 j8), stE, fun j hj => ?_, fun j hj => ?_⟩ ?_ ?_
    · rw [stN (by decide), f.1 88 (by decide) (by decide) (by decide) (by decide) (by decide)]
    · rw [stN (by decide), f.1 89 (by decide) (by decide) (by decide) (by decide) (by decide)]
    · rw [stK (by decide), f.1 88 (by decide) (by decide) (by decide) (by decide) (by decide)]
    · rw [stK (by decide), f.1 89 (by decide) (by decide) (by decide) (by decide) (by decide)]
  have good : ∀ (m n p sz dp : Nat) (D : Nat → Int) (G : GG) (o4 : Option Vv) (M1 : MM), n ≤ m → wz t N (N - p) p sz 0 dp false D G = wzR t N D0 → p ≤ N → (G ≠ [] → p < N → t p ≠ 41) → wmI N p sz D G M M1 → PW sc n m_X12_walk 29 [] [some (vr 81), some (vi (hn : Int)), some (vi (N : Int)), some (vi 1), o4] M1 Q := by
    intro m
    induction m with
    | zero =>
      intro n p sz dp D G o4 M1 hn0 hz hp h41 I
      exact pw_X12_walk_29 _ _ _ o4 M1 fun n2 h2 => by omega
    | succ m ih =>
      intro n p sz dp D G o4 M1 hn0 hz hp h41 I
      have hb := I.2.2.2.2
      have again : ∀ n2, n2 < n → (G = [] → p < N) → PC sc n2 m_X12_readsStep [vr 81] M1 (cI fun r2 M2 => PW sc n2 m_X12_walk 29 [] [some (vr 81), some (vi (hn : Int)), some (vi (N : Int)), some (vi r2), o4] M2 Q) := fun n2 hn2 hG => f_readsStep (M0 := M) ht (by omega) (fun M2 f2 h13 h0 x hx => by subst hx; exact bad n2 o4 M2 f2 h13 h0) (fun p2 sz2 dp2 D2 G2 M2 hz2 hp2 h412 I2 x hx => by subst hx; exact ih n2 p2 sz2 dp2 D2 G2 o4 M2 (by omega) hz2 hp2 h412 I2) hz hp h41 hG I
      refine pw_X12_walk_29 _ _ _ o4 M1 fun n2 hn2 => ?_
      rw [I.2.1.1, I.2.1.2.1, I.2.1.2.2.2]
      refine brF (by omega) (brP (fun h => again n2 hn2 fun _ => by omega) fun h => brP (fun h2 => ?_) fun h2 => again n2 hn2 fun z => by subst z; exact absurd h2 (by decide))
      have hG : G = [] := List.eq_nil_of_length_eq_zero (by omega)
      subst hG
      rw [show N - p = 0 by omega] at hz
      have hz : ((sz : Int), sz, D) = wzR t N D0 := hz
      refine pw_X12_walk_43 _ _ _ o4 M1 fun n3 _ => brT (by decide) (gMB ?_)
      rw [I.2.1.2.2.1, show ((hn : Int)).toNat = hn by omega]
      have lp : ∀ (m i n : Nat) (M2 : MM), i + m = sz → (∀ c, c ≠ 81 → c ≠ 88 → c ≠ 89 → M2 c = M1 c) → (∀ j, j ≠ 10 → M2 81 j = M1 81 j) → M2 81 10 = 0 → M2 88 = (fun j => if j = hn then (sz : Int) else M1 88 j) → (∀ j, j < i → M2 89 (60 * hn + j) = D j) → (∀ j, (j < 60 * hn ∨ 60 * hn + i ≤ j) → M2 89 j = M1 89 j) → PW sc n m_X12_walk 59 [] [some (vr 81), some (vi (hn : Int)), some (vi (N : Int)), some (vi 1), some (vi (i : Int))] M2 Q := by
        intro m
        induction m with
        | zero =>
          intro i n M2 hi a1 a2 a3 a4 a5 a6
          have hi : i = sz := hi
          subst hi
          have e37 : M2 81 37 = (i : Int) := (a2 37 (by decide)).trans I.2.1.2.2.1
          refine pw_X12_walk_59 _ _ _ _ M2 fun n4 _ => ?_
          rw [e37]
          have f := I.1
          have e88 := f.1 88 (by decide) (by decide) (by decide) (by decide) (by decide)
          have e89 := f.1 89 (by decide) (by decide) (by decide) (by decide) (by decide)
          refine brT (Int.le_refl _) (k4 i D hz.symm (by omega) (fun j hj => (I.2.2.1 j hj).2) M2 ⟨fun c c1 c2 c3 c4 c5 c6 c7 => (a1 c c1 c2 c3).trans (f.1 c c1 c4 c5 c6 c7), fun j j1 j2 j3 j4 j5 j6 j7 j8 => (a2 j j1).trans (f.2 j j2 j3 j4 j5 j6 j7 j8), a3, fun j hj => ?_, fun j hj => ?_⟩ ?_ a5 fun j hj => ?_)
          · rw [a4, e88]
            exact if_neg hj
          · rw [a6 j (by omega), e89]
          · rw [a4]
            exact if_pos rfl
          · rw [a6 _ (by omega), e89]
        | succ m ih2 =>
          intro i n M2 hi a1 a2 a3 a4 a5 a6
          have e37 : M2 81 37 = (sz : Int) := (a2 37 (by decide)).trans I.2.1.2.2.1
          have e104 : M2 104 i = D i := by rw [a1 104 (by decide) (by decide) (by decide)]; exact (I.2.2.1 i (by omega)).1
          have hr := (I.2.2.1 i (by omega)).2
          refine pw_X12_walk_59 _ _ _ _ M2 fun n4 _ => ?_
          rw [e37, show ((i : Int)).toNat = i by omega, e104, ew8 (by omega) (by omega), ew32 (z := 60 * (hn : Int)) (by omega) (by omega), ew32 (z := 60 * (hn : Int) + (i : Int)) (by omega) (by omega), show (60 * (hn : Int) + (i : Int)).toNat = 60 * hn + i by omega, show w32 ((i : Int) + 1) = ((i + 1 : Nat) : Int) from ew32 (by omega) (by omega)]
          refine brF (by omega) (gMB (gMB (ih2 (i + 1) n4 _ (by omega) (fun c c1 c2 c3 => (stK c3).trans (a1 c c1 c2 c3)) (fun j hj => (stN (by decide)).trans (a2 j hj)) ((stN (by decide)).trans a3) ((stK (by decide)).trans a4) (fun j hj => ?_) fun j hj => ?_)))
          · by_cases e : j = i
            · subst e
              exact stE
            · rw [stO (by omega)]
              exact a5 j (by omega)
          · rw [stO (by omega)]
            exact a6 j (by omega)
      refine lp sz 0 n3 _ (Nat.zero_add _) (fun c c1 c2 c3 => (stK c2).trans (stK c1)) (fun j hj => (stN (by decide)).trans (stO hj)) ((stN (by decide)).trans stE) ?_ (fun j hj => by omega) fun j hj => ?_
      · rw [stF, stK (by decide)]
      · rw [stN (by decide), stN (by decide)]
  have I0 : wmI N 0 0 D0 [] M (stM (stM (stM (stM M 81 11 0) 81 12 (N : Int)) 81 37 0) 81 38 0) := ⟨((((frV.rf M).st (.inl ⟨rfl, by omega⟩)).st (.inl ⟨rfl, by omega⟩)).st (.inl ⟨rfl, by omega⟩)).st (.inl ⟨rfl, by omega⟩), ⟨(stO (by decide)).trans ((stO (by decide)).trans ((stO (by decide)).trans stE)), (stO (by decide)).trans ((stO (by decide)).trans stE), (stO (by decide)).trans stE, stE⟩, fun j hj => by omega, trivial, by show 0 ≤ 60 ∧ 0 ≤ 3; omega⟩
  exact f_readsStep (M0 := M) ht (by omega) (fun M2 f2 h13 h0 x hx => by subst hx; exact bad n1 none M2 f2 h13 h0) (fun p2 sz2 dp2 D2 G2 M2 hz2 hp2 h412 I2 x hx => by subst hx; exact good n1 n1 p2 sz2 dp2 D2 G2 none M2 (Nat.le_refl _) hz2 hp2 h412 I2) (p := 0) (dp := 0) (sz := 0) (D := D0) (G := []) rfl (by omega) (fun z => absurd rfl z) (fun _ => by omega) I0
end WMS
