/-! PART 6i: clauses of THE LAW (reference), the public method -/
theorem pc_X12_isClause {sc : List Int} {n : Nat} {Q : Vv → MM → Prop} (v0 : Int) (M : MM) (h : ∀ n1, n1 < n → brA (decide (v0 = 102))
  (Q (vi 1) M)
  (brA (decide (v0 = 99))
   (Q (vi 1) M)
   (brA (decide (v0 = 109))
    (Q (vi 1) M)
    (brA (decide (v0 ≠ 114))
     (Q (vi 0) M)
     (Q (vi 1) M))))) : PC sc n m_X12_isClause [vi v0] M Q := pc_go rfl (fun j => false) 21 h
theorem pc_X12_readsClause {sc : List Int} {n : Nat} {Q : Vv → MM → Prop}  (M : MM) (h : ∀ n1, n1 < n → PC sc n1 m_X12_here [vr 81] M (cI fun r2 M1 =>
  PC sc n1 m_X12_isClause [vi r2] M1 (cI fun r4 M3 =>
   brA (decide (r4 ≠ 0))
    (brA (decide ((M3 81 18) ≠ 16))
     (gIm (decide (0 ≤ (M3 81 18)) && decide ((M3 81 18) < 16)) (gIm (decide (0 ≤ (M3 81 18)) && decide ((M3 81 18) < 16)) (brA (decide (r2 = 109))
      (PW sc n1 m_X12_readsClause 55 [] [some (vr 81), some (vi r2)] (stM (stM (stM (stM (stM M3 93 ((M3 81 18).toNat) r2) 81 11 (w32 ((M3 81 11) + 1))) 94 ((M3 81 18).toNat) (M3 81 16)) 81 15 0) 81 17 0) Q)
      (PC sc n1 m_X12_readsSum [vr 81] (stM (stM (stM (stM (stM M3 93 ((M3 81 18).toNat) r2) 81 11 (w32 ((M3 81 11) + 1))) 94 ((M3 81 18).toNat) (M3 81 16)) 81 15 0) 81 17 0) (cI fun r6 M5 =>
       brA (decide (r6 ≠ 0))
        (PW sc n1 m_X12_readsClause 55 [] [some (vr 81), some (vi r2)] M5 Q)
        (Q (vi 0) M5))))))
     (PC sc n1 m_X12_wrongAt [vr 81, vi 4, vi (M3 81 11)] M3 (cI fun r8 M7 =>
      gIm (decide (r8 = 0) || decide (r8 = 1)) (Q (vi r8) M7))))
    (PC sc n1 m_X12_wrongAt [vr 81, vi 1, vi (M3 81 11)] M3 (cI fun r10 M9 =>
     gIm (decide (r10 = 0) || decide (r10 = 1)) (Q (vi r10) M9)))))) : PC sc n m_X12_readsClause [vr 81] M Q := pc_go rfl (fun j => Nat.beq j 55) 87 h
theorem pw_X12_readsClause_55 {sc : List Int} {n : Nat} {Q : Vv → MM → Prop} (v1 : Int) (M : MM) (h : ∀ n1, n1 < n → gIm (decide (0 ≤ (M 81 18)) && decide ((M 81 18) < 16)) (PC sc n1 m_X12_readsCondition [vr 81] (stM M 95 ((M 81 18).toNat) (M 81 16)) (cI fun r2 M1 =>
  brA (decide (r2 ≠ 0))
   (gIm (decide (0 ≤ (M1 81 18)) && decide ((M1 81 18) < 16)) (Q (vi 1) (stM (stM M1 96 ((M1 81 18).toNat) (M1 81 16)) 81 18 (w32 ((M1 81 18) + 1)))))
   (Q (vi 0) M1)))) : PW sc n m_X12_readsClause 55 [] [some (vr 81), some (vi v1)] M Q := pw_go rfl (fun j => Nat.beq j 55) 87 h
theorem pc_X12_law {sc : List Int} {n : Nat} {Q : Vv → MM → Prop} (v1 : Int) (M : MM) (h : ∀ n1, n1 < n → PC sc n1 m_X12_in [vi v1, vi 1, vi 240] M (cI fun r2 M1 =>
  brA (decide (r2 = 0))
   (Q (vi ((-1))) M1)
   (brA (decide (v1 ≤ (M1 81 10)))
    (PC sc n1 m_X12_readsClause [vr 81] (stM (stM (stM (stM M1 81 11 0) 81 12 v1) 81 16 0) 81 18 0) (cI fun r4 M3 =>
     PW sc n1 m_X12_law 26 [] [some (vr 81), some (vi v1), some (vi r4), none] M3 Q))
    (Q (vi ((-1))) M1)))) : PC sc n m_X12_law [vr 81, vi v1] M Q := pc_go rfl (fun j => Nat.beq j 26 || Nat.beq j 45 || Nat.beq j 59 || Nat.beq j 75) 121 h
theorem pw_X12_law_26 {sc : List Int} {n : Nat} {Q : Vv → MM → Prop} (v1 : Int) (v2 : Int) (o3 : Option Vv) (M : MM) (h : ∀ n1, n1 < n → brA (decide (v2 = 0))
  (PW sc n1 m_X12_law 45 [] [some (vr 81), some (vi v1), some (vi v2), o3] M Q)
  (brA (decide ((M 81 12) ≤ (M 81 11)))
   (PW sc n1 m_X12_law 45 [] [some (vr 81), some (vi v1), some (vi v2), o3] M Q)
   (PC sc n1 m_X12_takes [vr 81, vi 59] M (cI fun r2 M1 =>
    brA (decide (r2 = 0))
     (PW sc n1 m_X12_law 26 [] [some (vr 81), some (vi v1), some (vi 0), o3] M1 Q)
     (PC sc n1 m_X12_readsClause [vr 81] M1 (cI fun r4 M3 =>
      brA (decide (r4 = 0))
       (PW sc n1 m_X12_law 26 [] [some (vr 81), some (vi v1), some (vi 0), o3] M3 Q)
       (PW sc n1 m_X12_law 26 [] [some (vr 81), some (vi v1), some (vi 1), o3] M3 Q))))))) : PW sc n m_X12_law 26 [] [some (vr 81), some (vi v1), some (vi v2), o3] M Q := pw_go rfl (fun j => Nat.beq j 26 || Nat.beq j 45 || Nat.beq j 59 || Nat.beq j 75) 121 h
theorem pw_X12_law_45 {sc : List Int} {n : Nat} {Q : Vv → MM → Prop} (v1 : Int) (v2 : Int) (o3 : Option Vv) (M : MM) (h : ∀ n1, n1 < n → brA (decide (v2 ≠ 0))
  (PW sc n1 m_X12_law 59 [] [some (vr 81), some (vi v1), some (vi v2), some (vi 0)] (stM (stM M 81 10 0) 81 19 (M 81 18)) Q)
  (Q (vi (M 81 13)) (stM M 81 10 0))) : PW sc n m_X12_law 45 [] [some (vr 81), some (vi v1), some (vi v2), o3] M Q := pw_go rfl (fun j => Nat.beq j 26 || Nat.beq j 45 || Nat.beq j 59 || Nat.beq j 75) 121 h
theorem pw_X12_law_59 {sc : List Int} {n : Nat} {Q : Vv → MM → Prop} (v1 : Int) (v2 : Int) (v3 : Int) (M : MM) (h : ∀ n1, n1 < n → brA (decide ((M 81 16) ≤ v3))
  (PW sc n1 m_X12_law 75 [] [some (vr 81), some (vi v1), some (vi v2), some (vi 0)] M Q)
  (gIm (decide (0 ≤ v3) && decide (v3 < 260)) (gIm (decide (0 ≤ v3) && decide (v3 < 260)) (PW sc n1 m_X12_law 59 [] [some (vr 81), some (vi v1), some (vi v2), some (vi (w32 (v3 + 1)))] (stM M 97 (v3.toNat) (M 91 v3.toNat)) Q)))) : PW sc n m_X12_law 59 [] [some (vr 81), some (vi v1), some (vi v2), some (vi v3)] M Q := pw_go rfl (fun j => Nat.beq j 26 || Nat.beq j 45 || Nat.beq j 59 || Nat.beq j 75) 121 h
theorem pw_X12_law_75 {sc : List Int} {n : Nat} {Q : Vv → MM → Prop} (v1 : Int) (v2 : Int) (v3 : Int) (M : MM) (h : ∀ n1, n1 < n → brA (decide ((M 81 18) ≤ v3))
  (Q (vi (M 81 18)) M)
  (gIm (decide (0 ≤ v3) && decide (v3 < 16)) (gIm (decide (0 ≤ v3) && decide (v3 < 16)) (gIm (decide (0 ≤ v3) && decide (v3 < 16)) (gIm (decide (0 ≤ v3) && decide (v3 < 16)) (gIm (decide (0 ≤ v3) && decide (v3 < 16)) (gIm (decide (0 ≤ v3) && decide (v3 < 16)) (gIm (decide (0 ≤ v3) && decide (v3 < 16)) (gIm (decide (0 ≤ v3) && decide (v3 < 16)) (PW sc n1 m_X12_law 75 [] [some (vr 81), some (vi v1), some (vi v2), some (vi (w32 (v3 + 1)))] (stM (stM (stM (stM M 98 (v3.toNat) (M 93 v3.toNat)) 99 (v3.toNat) (M 94 v3.toNat)) 100 (v3.toNat) (M 95 v3.toNat)) 101 (v3.toNat) (M 96 v3.toNat)) Q)))))))))) : PW sc n m_X12_law 75 [] [some (vr 81), some (vi v1), some (vi v2), some (vi v3)] M Q := pw_go rfl (fun j => Nat.beq j 26 || Nat.beq j 45 || Nat.beq j 59 || Nat.beq j 75) 121 h
/- what reading THE LAW leaves as it was -/
def xcF (M0 M : MM) : Prop := (∀ c, c ≠ 81 → (c < 91 ∨ 96 < c) → M c = M0 c) ∧ ∀ j, j ≠ 11 → j ≠ 13 → j ≠ 14 → j ≠ 15 → j ≠ 16 → j ≠ 17 → j ≠ 18 → M 81 j = M0 81 j
theorem xcF.rf (M : MM) : xcF M M := ⟨fun _ _ _ => rfl, fun _ _ _ _ _ _ _ _ => rfl⟩
theorem xcF.st {M0 M : MM} (h : xcF M0 M) {k j : Nat} {v : Int} (hk : (91 ≤ k ∧ k ≤ 96) ∨ (k = 81 ∧ (j = 11 ∨ (13 ≤ j ∧ j ≤ 18)))) : xcF M0 (stM M k j v) := ⟨fun c h1 h2 => (stK (by omega)).trans (h.1 c h1 h2), fun i h1 h2 h3 h4 h5 h6 h7 => by
  rw [stM_at, if_neg (by omega)]
  exact h.2 i h1 h2 h3 h4 h5 h6 h7⟩
theorem xcF.tr {M0 M M1 : MM} (h : xcF M0 M) (g : xlF M M1) : xcF M0 M1 := ⟨fun c h1 h2 => (g.1 c h1 (by omega) (by omega)).trans (h.1 c h1 h2), fun i h1 h2 h3 h4 h5 h6 h7 => (g.2 i h1 h2 h3 h4 h5 h6).trans (h.2 i h1 h2 h3 h4 h5 h6 h7)⟩
/- the clauses noted -/
def clL (M : MM) (cl : CL) : Prop := ∀ k, k < cl.1 → M 93 k = cl.2.1 k ∧ M 94 k = (cl.2.2.1 k : Int) ∧ M 95 k = (cl.2.2.2.1 k : Int) ∧ M 96 k = (cl.2.2.2.2 k : Int)
def xcI (N p : Nat) (q : LC) (cl : CL) (M0 M : MM) : Prop := xcF M0 M ∧ (M 81 11 = (p : Int) ∧ M 81 18 = (cl.1 : Int)) ∧ cdL M q ∧ clL M cl ∧ (p ≤ N ∧ N ≤ 240 ∧ cl.1 ≤ 16)
theorem cdL.eq {M M1 : MM} {q : LC} (h : cdL M q) (h1 : M1 81 16 = M 81 16) (h2 : M1 91 = M 91) : cdL M1 q := ⟨h1.trans h.1, h.2.1, fun i hi => by rw [h2]; exact h.2.2 i hi⟩
section LRV
variable {sc : List Int} {Q : Vv → MM → Prop} {t : Nat → Int} {N : Nat} {M0 : MM}
set_option maxRecDepth 20000 in
theorem p_isClause {v : Int} {n : Nat} {M : MM} (k0 : ¬ isCl v → ∀ x : Int, x = 0 → Q (vi x) M) (k1 : isCl v → ∀ x : Int, x = 1 → Q (vi x) M) : PC sc n m_X12_isClause [vi v] M Q := pc_X12_isClause v M fun n1 _ => brP (fun h => k1 (.inl h) 1 rfl) fun h1 => brP (fun h => k1 (.inr (.inl h)) 1 rfl) fun h2 => brP (fun h => k1 (.inr (.inr (.inl h))) 1 rfl) fun h3 => brP (fun h => k0 (fun z => by unfold isCl at z; omega) 0 rfl) fun h => k1 (.inr (.inr (.inr (Classical.not_not.mp h)))) 1 rfl
set_option maxRecDepth 20000 in
theorem f_clauseM (h12 : M0 81 12 = (N : Int)) (ht : ∀ i, bAnd (M0 90 i) 255 = t i) {p n : Nat} {q : LC} {cl : CL} {M : MM} (I : xcI N p q cl M0 M) (k0 : ∀ f M1, outL t N p (zsK q cl) = .inl f → xcF M0 M1 → M1 81 13 = f → ∀ z : Int, z = 0 → Q (vi z) M1) (k1 : ∀ p1 q1 cl1 M1, outL t N p (zsK q cl) = outL t N p1 (zsD q1 cl1) → p < p1 → xcI N p1 q1 cl1 M0 M1 → ∀ z : Int, z = 1 → Q (vi z) M1) : PC sc n m_X12_readsClause [vr 81] M Q := by
  obtain ⟨fr, ⟨a1, a2⟩, hc, hcl, hb⟩ := id I
  have h12' : M 81 12 = (N : Int) := (fr.2 12 (by decide) (by decide) (by decide) (by decide) (by decide) (by decide) (by decide)).trans h12
  have ht' : ∀ i, bAnd (M 90 i) 255 = t i := fun i => by
    rw [fr.1 90 (by decide) (by decide)]
    exact ht i
  have wr : ∀ (n : Nat) (a : Int), 1 ≤ a ∧ a ≤ 7 → outL t N p (zsK q cl) = .inl (-1000 * a - (p : Int)) → PC sc n m_X12_wrongAt [vr 81, vi a, vi (M 81 11)] M (cI fun r8 M7 => gIm (decide (r8 = 0) || decide (r8 = 1)) (Q (vi r8) M7)) := fun n a ha ho => by
    rw [a1]
    exact p_wrong ha (by omega) fun x hx => cI_i (gMB (k0 _ _ ho (fr.st (.inr ⟨rfl, .inr ⟨by decide, by decide⟩⟩)) stE x hx))
  have hr : ∀ i, 0 ≤ bAnd (M 90 i) 255 → True := fun _ _ => trivial
  refine pc_X12_readsClause M fun n1 h1 => p_here (t := t) a1 h12' ht' (fun h x hx => cI_i (p_isClause (fun g y hy => cI_i (brF (by omega) (wr n1 1 (by decide) (outL_end h (by show (7 : Nat) ≠ 6; decide))))) fun g y hy => ?_)) fun hl x hx => cI_i (p_isClause (fun g y hy => cI_i (brF (by omega) (wr n1 1 (by decide) (outL_no hl ?_)))) fun g y hy => cI_i (brT (by omega) ?_))
  · exfalso
    unfold isCl at g
    omega
  · subst hx
    show ztK q cl (t p) p = _
    unfold ztK
    unfold isCl at g
    rw [if_neg g]
    rfl
  · subst hx
    rw [a2]
    refine brP (fun h16 => gMB (gMB ?_)) fun h16 => wr n1 4 (by decide) (outL_no hl ?_)
    · have h16n : ¬ cl.1 = 16 := by omega
      rw [a1, hc.1, show ((cl.1 : Int)).toNat = cl.1 by omega, show w32 ((p : Int) + 1) = ((p + 1 : Nat) : Int) from ew32 (by omega) (by omega)]
      obtain ⟨Mb, hMb⟩ : ∃ Mb, Mb = stM (stM (stM M 93 cl.1 (t p)) 81 11 ((p + 1 : Nat) : Int)) 94 cl.1 (q.1 : Int) := ⟨_, rfl⟩
      rw [← hMb]
      have b1 : Mb 81 11 = ((p + 1 : Nat) : Int) := by
        rw [hMb]
        exact (stN (by decide)).trans stE
      have b2 : Mb 81 18 = (cl.1 : Int) := by
        rw [hMb]
        exact (stN (by decide)).trans ((stO (by decide)).trans ((stN (by decide)).trans a2))
      have b3 : cdL Mb q := hc.eq (by rw [hMb]; exact (stN (by decide)).trans ((stO (by decide)).trans (stN (by decide)))) (by rw [hMb]; exact (stK (by decide)).trans ((stK (by decide)).trans (stK (by decide))))
      have b4 : xcF M0 Mb := by
        rw [hMb]
        exact ((fr.st (.inl (by decide))).st (.inr ⟨rfl, .inl rfl⟩)).st (.inl (by decide))
      have b5 : Mb 93 cl.1 = t p ∧ Mb 94 cl.1 = (q.1 : Int) := by
        rw [hMb]
        exact ⟨(stN (by decide)).trans ((stN (by decide)).trans stE), stE⟩
      have b6 : ∀ k, k < cl.1 → Mb 93 k = M 93 k ∧ Mb 94 k = M 94 k ∧ Mb 95 k = M 95 k ∧ Mb 96 k = M 96 k := fun k hk => by
        rw [hMb]
        exact ⟨(stN (by decide)).trans ((stN (by decide)).trans (stO (by omega))), (stO (by omega)).trans ((stN (by decide)).trans (stN (by decide))), (stN (by decide)).trans ((stN (by decide)).trans (stN (by decide))), (stN (by decide)).trans ((stN (by decide)).trans (stN (by decide)))⟩
      clear hMb
      have b12 : Mb 81 12 = (N : Int) := (b4.2 12 (by decide) (by decide) (by decide) (by decide) (by decide) (by decide) (by decide)).trans h12
      have b90 : ∀ i, bAnd (Mb 90 i) 255 = t i := fun i => by
        rw [b4.1 90 (by decide) (by decide)]
        exact ht i
      have I0 : xlI N (p + 1) [] q Mb (stM (stM Mb 81 15 0) 81 17 0) := xlI.z (xlF.rf Mb) b1 b3 (by omega)
      have h55 : ∀ (n : Nat) (q1 : LC) (p1 : Nat) (v : Int) (M1 : MM), xlI N p1 [] q1 Mb M1 → p < p1 → outL t N p (zsK q cl) = outL t N p1 (zsO q1 (cl.1, upF cl.2.1 cl.1 (t p), upF cl.2.2.1 cl.1 q.1, cl.2.2.2.1, cl.2.2.2.2)) → PW sc n m_X12_readsClause 55 [] [some (vr 81), some (vi v)] M1 Q := fun n q1 p1 v M1 I1 hp ho => by
        have e18 : M1 81 18 = (cl.1 : Int) := (I1.1.2 18 (by decide) (by decide) (by decide) (by decide) (by decide) (by decide)).trans b2
        have hb1 := I1.2.2.2.2
        have hc1 := I1.2.2.2.1
        refine pw_X12_readsClause_55 v M1 fun n2 _ => ?_
        rw [e18, hc1.1, show ((cl.1 : Int)).toNat = cl.1 by omega]
        refine gMB ?_
        obtain ⟨Mc, hMc⟩ : ∃ Mc, Mc = stM M1 95 cl.1 (q1.1 : Int) := ⟨_, rfl⟩
        rw [← hMc]
        have d4 : xcF M0 Mc := by
          rw [hMc]
          exact (b4.tr I1.1).st (.inl (by decide))
        have d3 : cdL Mc q1 := hc1.eq (by rw [hMc]; exact stN (by decide)) (by rw [hMc]; exact stK (by decide))
        have d1 : Mc 81 11 = (p1 : Int) := by
          rw [hMc]
          exact (stN (by decide)).trans I1.2.1.1
        have d2 : Mc 81 18 = (cl.1 : Int) := by
          rw [hMc]
          exact (stN (by decide)).trans e18
        have i93 := I1.1.1 93 (by decide) (by decide) (by decide)
        have i94 := I1.1.1 94 (by decide) (by decide) (by decide)
        have i95 := I1.1.1 95 (by decide) (by decide) (by decide)
        have i96 := I1.1.1 96 (by decide) (by decide) (by decide)
        have d5 : Mc 93 cl.1 = t p ∧ Mc 94 cl.1 = (q.1 : Int) ∧ Mc 95 cl.1 = (q1.1 : Int) := by
          rw [hMc]
          exact ⟨(stN (by decide)).trans (by rw [i93]; exact b5.1), (stN (by decide)).trans (by rw [i94]; exact b5.2), stE⟩
        have d6 : ∀ k, k < cl.1 → Mc 93 k = M 93 k ∧ Mc 94 k = M 94 k ∧ Mc 95 k = M 95 k ∧ Mc 96 k = M 96 k := fun k hk => by
          have z := b6 k hk
          rw [hMc]
          exact ⟨(stN (by decide)).trans (by rw [i93]; exact z.1), (stN (by decide)).trans (by rw [i94]; exact z.2.1), (stO (by omega)).trans (by rw [i95]; exact z.2.2.1), (stN (by decide)).trans (by rw [i96]; exact z.2.2.2)⟩
        clear hMc
        have d12 : Mc 81 12 = (N : Int) := (d4.2 12 (by decide) (by decide) (by decide) (by decide) (by decide) (by decide) (by decide)).trans h12
        have d90 : ∀ i, bAnd (Mc 90 i) 255 = t i := fun i => by
          rw [d4.1 90 (by decide) (by decide)]
          exact ht i
        refine f_condM d12 d90 (cl := (cl.1, upF cl.2.1 cl.1 (t p), upF cl.2.2.1 cl.1 q.1, cl.2.2.2.1, cl.2.2.2.2)) (xlF.rf Mc) d1 d3 ⟨hb1.1, hb1.2.1⟩ (fun f M2 g X z hz => cI_i (brF (by omega) (k0 f M2 (ho.trans g) (d4.tr X.1) X.2 0 rfl))) fun q2 p2 M2 g hp2 I2 z hz => cI_i (brT (by omega) ?_)
        have f18 : M2 81 18 = (cl.1 : Int) := (I2.1.2 18 (by decide) (by decide) (by decide) (by decide) (by decide) (by decide)).trans d2
        have hc2 := I2.2.2.2.1
        have hb2 := I2.2.2.2.2
        rw [f18, hc2.1, show ((cl.1 : Int)).toNat = cl.1 by omega, show w32 ((cl.1 : Int) + 1) = ((cl.1 + 1 : Nat) : Int) from ew32 (by omega) (by omega)]
        refine gMB (k1 p2 q2 _ _ (ho.trans g) (by omega) ⟨((d4.tr I2.1).st (.inl (by decide))).st (.inr ⟨rfl, .inr (by decide)⟩), ⟨(stO (by decide)).trans ((stN (by decide)).trans I2.2.1.1), stE⟩, hc2.eq ((stO (by decide)).trans (stN (by decide))) ((stK (by decide)).trans (stK (by decide))), fun k hk => ?_, hb2.1, hb2.2.1, by show cl.1 + 1 ≤ 16; omega⟩ 1 rfl)
        have hk : k < cl.1 + 1 := hk
        have j93 := I2.1.1 93 (by decide) (by decide) (by decide)
        have j94 := I2.1.1 94 (by decide) (by decide) (by decide)
        have j95 := I2.1.1 95 (by decide) (by decide) (by decide)
        have j96 := I2.1.1 96 (by decide) (by decide) (by decide)
        show stM (stM M2 96 cl.1 (q2.1 : Int)) 81 18 _ 93 k = (if k = cl.1 then t p else cl.2.1 k) ∧ stM (stM M2 96 cl.1 (q2.1 : Int)) 81 18 _ 94 k = (((if k = cl.1 then q.1 else cl.2.2.1 k) : Nat) : Int) ∧ stM (stM M2 96 cl.1 (q2.1 : Int)) 81 18 _ 95 k = (((if k = cl.1 then q1.1 else cl.2.2.2.1 k) : Nat) : Int) ∧ stM (stM M2 96 cl.1 (q2.1 : Int)) 81 18 _ 96 k = (((if k = cl.1 then q2.1 else cl.2.2.2.2 k) : Nat) : Int)
        rw [stN (by decide), stN (by decide), stN (by decide), stN (by decide), stN (by decide), stN (by decide), stN (by decide), j93, j94, j95]
        by_cases e : k = cl.1
        · subst e
          rw [if_pos rfl, if_pos rfl, if_pos rfl, if_pos rfl, stE]
          exact ⟨d5.1, d5.2.1, d5.2.2, rfl⟩
        · rw [if_neg e, if_neg e, if_neg e, if_neg e, stO e, j96]
          have z := d6 k (by omega)
          have y := hcl k (by omega)
          exact ⟨z.1.trans y.1, z.2.1.trans y.2.1, z.2.2.1.trans y.2.2.1, z.2.2.2.trans y.2.2.2⟩
      refine brP (fun h109 => h55 n1 q (p + 1) _ _ I0 (by omega) (outL_go hl ?_)) fun h109 => ?_
      · show ztK q cl (t p) p = _
        unfold ztK
        unfold isCl at g
        rw [if_pos g, if_neg h16n, if_pos h109]
      · have hgo : outL t N p (zsK q cl) = outL t N (p + 1) (zsA (0, 0) [] q (cl.1, upF cl.2.1 cl.1 (t p), upF cl.2.2.1 cl.1 q.1, cl.2.2.2.1, cl.2.2.2.2)) := outL_go hl (by
          show ztK q cl (t p) p = _
          unfold ztK
          unfold isCl at g
          rw [if_pos g, if_neg h16n, if_neg h109])
        refine f_sumM b12 b90 (x := (0, 0)) (cl := (cl.1, upF cl.2.1 cl.1 (t p), upF cl.2.2.1 cl.1 q.1, cl.2.2.2.1, cl.2.2.2.2)) I0 trivial rfl (fun f M2 g X z hz => cI_i (brF (by omega) (k0 f M2 (hgo.trans g) (b4.tr X.1) X.2 0 rfl))) fun q1 p1 M1 g hp I1 hs z hz => cI_i (brT (by omega) (h55 n1 q1 p1 _ M1 I1 (by omega) ((hgo.trans g).trans (outL_eq (by show (2 : Nat) ≠ 6; decide) (by show (5 : Nat) ≠ 6; decide) fun hl1 => ?_))))
        rw [chL_at hl1] at hs
        show ztB (0, 0) [] q1 _ (t p1) p1 = ztO q1 _ (t p1) p1
        rw [ztB_no (W := []) trivial (fun z => absurd z (by decide)) _ _ _ _ hs]
        rfl
    · show ztK q cl (t p) p = _
      unfold ztK
      unfold isCl at g
      rw [if_pos g, if_pos (by omega)]
      rfl
/- THE LAW as the reference holds it -/
def mlR (M : MM) (q : LC) (cl : CL) : Prop := M 81 19 = (cl.1 : Int) ∧ (q.1 ≤ 260 ∧ ∀ i, i < q.1 → M 97 i = q.2 i ∧ 0 ≤ q.2 i ∧ q.2 i < 16777216) ∧ cl.1 ≤ 16 ∧ ∀ k, k < cl.1 → M 98 k = cl.2.1 k ∧ M 99 k = (cl.2.2.1 k : Int) ∧ M 100 k = (cl.2.2.2.1 k : Int) ∧ M 101 k = (cl.2.2.2.2 k : Int)
def mlF (M0 M : MM) : Prop := (∀ c, c ≠ 81 → (c < 91 ∨ 96 < c) → M c = M0 c) ∧ ∀ j, (j < 10 ∨ 18 < j) → M 81 j = M0 81 j
def mlG (M0 M : MM) : Prop := (∀ c, c ≠ 81 → (c < 91 ∨ 101 < c) → M c = M0 c) ∧ ∀ j, (j < 10 ∨ 19 < j) → M 81 j = M0 81 j
/- LAW of the reference -/
set_option maxRecDepth 20000 in
theorem f_lawM {v : Int} {n : Nat} {M : MM} (ht : ∀ i, bAnd (M 90 i) 255 = t i) (k0 : ¬ (1 ≤ v ∧ v ≤ 240 ∧ v ≤ M 81 10) → Q (vi (-1)) M) (k1 : (1 ≤ v ∧ v ≤ 240 ∧ v ≤ M 81 10) → ∀ f M1, outL t v.toNat 0 (zsK q0L cl0L) = .inl f → mlF M M1 → M1 81 10 = 0 → Q (vi f) M1) (k2 : (1 ≤ v ∧ v ≤ 240 ∧ v ≤ M 81 10) → ∀ q cl M1, outL t v.toNat 0 (zsK q0L cl0L) = .inr (zsD q cl) → mlG M M1 → M1 81 10 = 0 → mlR M1 q cl → Q (vi (cl.1 : Int)) M1) : PC sc n m_X12_law [vr 81, vi v] M Q := by
  refine pc_X12_law v M fun n1 _ => p_in (fun g x hx => cI_i (brT hx (k0 fun z => g ⟨z.1, z.2.1⟩))) fun g x hx => cI_i (brF (by omega) (brP (fun g2 => ?_) fun g2 => k0 fun z => g2 z.2.2))
  have k3 := k1 ⟨g.1, g.2, g2⟩
  have k4 := k2 ⟨g.1, g.2, g2⟩
  clear k0 k1 k2
  obtain ⟨N, hN⟩ : ∃ N : Nat, v = (N : Int) := ⟨v.toNat, by omega⟩
  subst hN
  rw [show ((N : Int)).toNat = N by omega] at k3 k4
  obtain ⟨Ma, hMa⟩ : ∃ Ma, Ma = stM (stM (stM (stM M 81 11 0) 81 12 (N : Int)) 81 16 0) 81 18 0 := ⟨_, rfl⟩
  rw [← hMa]
  have a12 : Ma 81 12 = (N : Int) := by
    rw [hMa]
    exact (stO (by decide)).trans ((stO (by decide)).trans stE)
  have aF : (∀ c, c ≠ 81 → Ma c = M c) ∧ ∀ j, j ≠ 11 → j ≠ 12 → j ≠ 16 → j ≠ 18 → Ma 81 j = M 81 j := by
    rw [hMa]
    exact ⟨fun c hc => (stK hc).trans ((stK hc).trans ((stK hc).trans (stK hc))), fun j j1 j2 j3 j4 => (stO j4).trans ((stO j3).trans ((stO j2).trans (stO j1)))⟩
  have a90 : ∀ i, bAnd (Ma 90 i) 255 = t i := fun i => by
    rw [aF.1 90 (by decide)]
    exact ht i
  have I0 : xcI N 0 q0L cl0L Ma Ma := by
    refine ⟨xcF.rf Ma, ⟨?_, ?_⟩, ⟨?_, Nat.zero_le _, fun i hi => absurd hi (Nat.not_lt_zero i)⟩, fun k hk => absurd hk (Nat.not_lt_zero k), Nat.zero_le _, by omega, Nat.zero_le _⟩
    · rw [hMa]
      exact (stO (by decide)).trans ((stO (by decide)).trans ((stO (by decide)).trans stE))
    · rw [hMa]
      exact stE
    · rw [hMa]
      exact (stO (by decide)).trans stE
  clear hMa
  have bad : ∀ (n : Nat) (f w : Int) (o3 : Option Vv) (M1 : MM), w = 0 → outL t N 0 (zsK q0L cl0L) = .inl f → xcF Ma M1 → M1 81 13 = f → PW sc n m_X12_law 26 [] [some (vr 81), some (vi (N : Int)), some (vi w), o3] M1 Q := fun n f w o3 M1 hw ho hf h13 => by
    have e13 : stM M1 81 10 0 81 13 = f := (stO (by decide)).trans h13
    refine pw_X12_law_26 _ w o3 M1 fun n2 _ => brT hw (pw_X12_law_45 _ w o3 M1 fun n3 _ => brF (by omega) ?_)
    rw [h13]
    exact k3 f _ ho ⟨fun c c1 c2 => (stK c1).trans ((hf.1 c c1 c2).trans (aF.1 c c1)), fun j hj => (stO (by omega)).trans ((hf.2 j (by omega) (by omega) (by omega) (by omega) (by omega) (by omega) (by omega)).trans (aF.2 j (by omega) (by omega) (by omega) (by omega)))⟩ stE
  have good : ∀ (n : Nat) (q : LC) (cl : CL) (w : Int) (o3 : Option Vv) (M1 : MM), w = 1 → outL t N 0 (zsK q0L cl0L) = .inr (zsD q cl) → xcI N N q cl Ma M1 → PW sc n m_X12_law 45 [] [some (vr 81), some (vi (N : Int)), some (vi w), o3] M1 Q := fun n q cl w o3 M1 hw ho I1 => by
    obtain ⟨f1, ⟨i1, i2⟩, ⟨c1, c2, c3⟩, icl, ib⟩ := I1
    refine pw_X12_law_45 _ w o3 M1 fun n2 _ => brT (by omega) ?_
    rw [i2]
    have cp2 : ∀ (m i n : Nat) (M2 : MM), i + m = cl.1 → M2 81 18 = (cl.1 : Int) → (∀ j, j < cl.1 → M2 93 j = cl.2.1 j ∧ M2 94 j = (cl.2.2.1 j : Int) ∧ M2 95 j = (cl.2.2.2.1 j : Int) ∧ M2 96 j = (cl.2.2.2.2 j : Int)) → mlG M M2 → M2 81 10 = 0 → M2 81 19 = (cl.1 : Int) → (∀ i, i < q.1 → M2 97 i = q.2 i) → (∀ j, j < i → M2 98 j = cl.2.1 j ∧ M2 99 j = (cl.2.2.1 j : Int) ∧ M2 100 j = (cl.2.2.2.1 j : Int) ∧ M2 101 j = (cl.2.2.2.2 j : Int)) → PW sc n m_X12_law 75 [] [some (vr 81), some (vi (N : Int)), some (vi w), some (vi (i : Int))] M2 Q := by
      intro m
      induction m with
      | zero =>
        intro i n M2 hi e18 h93 hG e10 e19 e97 e98
        have hi : i = cl.1 := hi
        refine pw_X12_law_75 _ w _ M2 fun n3 _ => ?_
        rw [e18]
        exact brT (by omega) (k4 q cl M2 ho hG e10 ⟨e19, ⟨c2, fun i hi => ⟨e97 i hi, (c3 i hi).2⟩⟩, ib.2.2, fun k hk => e98 k (by omega)⟩)
      | succ m ih =>
        intro i n M2 hi e18 h93 hG e10 e19 e97 e98
        refine pw_X12_law_75 _ w _ M2 fun n3 _ => ?_
        rw [e18, show ((i : Int)).toNat = i by omega, show w32 ((i : Int) + 1) = ((i + 1 : Nat) : Int) from ew32 (by omega) (by omega)]
        refine brF (by omega) (gMB (gMB (gMB (gMB (gMB (gMB (gMB (gMB ?_))))))))
        refine ih (i + 1) n3 _ (by omega) ((stN (by decide)).trans ((stN (by decide)).trans ((stN (by decide)).trans ((stN (by decide)).trans e18)))) (fun j hj => ?_) ⟨fun c c1 c2 => ?_, fun j hj => ?_⟩ ?_ ?_ (fun j hj => ?_) fun j hj => ?_
        · rw [stN (by decide), stN (by decide), stN (by decide), stN (by decide), stN (by decide), stN (by decide), stN (by decide), stN (by decide), stN (by decide), stN (by decide), stN (by decide), stN (by decide), stN (by decide), stN (by decide), stN (by decide), stN (by decide)]
          exact h93 j hj
        · rw [stK (by omega), stK (by omega), stK (by omega), stK (by omega)]
          exact hG.1 c c1 c2
        · rw [stN (by decide), stN (by decide), stN (by decide), stN (by decide)]
          exact hG.2 j hj
        · rw [stN (by decide), stN (by decide), stN (by decide), stN (by decide)]
          exact e10
        · rw [stN (by decide), stN (by decide), stN (by decide), stN (by decide)]
          exact e19
        · rw [stN (by decide), stN (by decide), stN (by decide), stN (by decide)]
          exact e97 j hj
        · have h9 := h93 i (by omega)
          rw [h9.1, h9.2.1, h9.2.2.1, h9.2.2.2, stN (k := 101) (k' := 98) (by decide), stN (k := 100) (k' := 98) (by decide), stN (k := 99) (k' := 98) (by decide), stN (k := 101) (k' := 99) (by decide), stN (k := 100) (k' := 99) (by decide), stN (k := 101) (k' := 100) (by decide)]
          by_cases e : j = i
          · rw [e]
            exact ⟨stE, stE, stE, stE⟩
          · have z := e98 j (by omega)
            exact ⟨(stO e).trans z.1, (stO e).trans ((stN (by decide)).trans z.2.1), (stO e).trans ((stN (by decide)).trans ((stN (by decide)).trans z.2.2.1)), (stO e).trans ((stN (by decide)).trans ((stN (by decide)).trans ((stN (by decide)).trans z.2.2.2)))⟩
    have cp : ∀ (m i n : Nat) (M2 : MM), i + m = q.1 → M2 81 16 = (q.1 : Int) → (∀ j, j < q.1 → M2 91 j = q.2 j) → M2 81 18 = (cl.1 : Int) → (∀ j, j < cl.1 → M2 93 j = cl.2.1 j ∧ M2 94 j = (cl.2.2.1 j : Int) ∧ M2 95 j = (cl.2.2.2.1 j : Int) ∧ M2 96 j = (cl.2.2.2.2 j : Int)) → mlG M M2 → M2 81 10 = 0 → M2 81 19 = (cl.1 : Int) → (∀ j, j < i → M2 97 j = q.2 j) → PW sc n m_X12_law 59 [] [some (vr 81), some (vi (N : Int)), some (vi w), some (vi (i : Int))] M2 Q := by
      intro m
      induction m with
      | zero =>
        intro i n M2 hi e16 e91 e18 h93 hG e10 e19 e97
        have hi : i = q.1 := hi
        refine pw_X12_law_59 _ w _ M2 fun n3 _ => ?_
        rw [e16]
        exact brT (by omega) (cp2 cl.1 0 n3 M2 (Nat.zero_add _) e18 h93 hG e10 e19 (fun j hj => e97 j (by omega)) fun j hj => absurd hj (Nat.not_lt_zero j))
      | succ m ih =>
        intro i n M2 hi e16 e91 e18 h93 hG e10 e19 e97
        refine pw_X12_law_59 _ w _ M2 fun n3 _ => ?_
        rw [e16, show ((i : Int)).toNat = i by omega, show w32 ((i : Int) + 1) = ((i + 1 : Nat) : Int) from ew32 (by omega) (by omega)]
        refine brF (by omega) (gMB (gMB ?_))
        refine ih (i + 1) n3 _ (by omega) ((stN (by decide)).trans e16) (fun j hj => (stN (by decide)).trans (e91 j hj)) ((stN (by decide)).trans e18) (fun j hj => ?_) ⟨fun c c1 c2 => (stK (by omega)).trans (hG.1 c c1 c2), fun j hj => (stN (by decide)).trans (hG.2 j hj)⟩ ((stN (by decide)).trans e10) ((stN (by decide)).trans e19) fun j hj => ?_
        · rw [stN (by decide), stN (by decide), stN (by decide), stN (by decide)]
          exact h93 j hj
        · by_cases e : j = i
          · rw [e, e91 i (by omega)]
            exact stE
          · exact (stO e).trans (e97 j (by omega))
    exact cp q.1 0 n2 _ (Nat.zero_add _) ((stO (by decide)).trans ((stO (by decide)).trans c1)) (fun j hj => (stN (by decide)).trans ((stN (by decide)).trans (c3 j hj).1)) ((stO (by decide)).trans ((stO (by decide)).trans i2)) (fun j hj => by
      rw [stN (by decide), stN (by decide), stN (by decide), stN (by decide), stN (by decide), stN (by decide), stN (by decide), stN (by decide)]
      exact icl j hj) ⟨fun c c1 c2 => (stK c1).trans ((stK c1).trans ((f1.1 c c1 (by omega)).trans (aF.1 c c1))), fun j hj => (stO (by omega)).trans ((stO (by omega)).trans ((f1.2 j (by omega) (by omega) (by omega) (by omega) (by omega) (by omega) (by omega)).trans (aF.2 j (by omega) (by omega) (by omega) (by omega))))⟩ ((stO (by decide)).trans stE) stE fun j hj => absurd hj (Nat.not_lt_zero j)
  have lp : ∀ (n p : Nat) (q : LC) (cl : CL) (w : Int) (o3 : Option Vv) (M1 : MM), w = 1 → outL t N 0 (zsK q0L cl0L) = outL t N p (zsD q cl) → xcI N p q cl Ma M1 → PW sc n m_X12_law 26 [] [some (vr 81), some (vi (N : Int)), some (vi w), o3] M1 Q := by
    intro n
    induction n using Nat.strongRecOn with
    | ind n ih =>
      intro p q cl w o3 M1 hw ho I1
      have hb := I1.2.2.2.2
      have b12 : M1 81 12 = (N : Int) := (I1.1.2 12 (by decide) (by decide) (by decide) (by decide) (by decide) (by decide) (by decide)).trans a12
      have b90 : ∀ i, bAnd (M1 90 i) 255 = t i := fun i => by
        rw [I1.1.1 90 (by decide) (by decide)]
        exact a90 i
      refine pw_X12_law_26 _ w o3 M1 fun n2 h2 => brF (by omega) ?_
      rw [b12, I1.2.1.1]
      refine brP (fun h => ?_) fun h => ?_
      · have hp : p = N := by omega
        subst hp
        exact good n2 q cl w o3 M1 hw (ho.trans (outL_D rfl)) I1
      · have hl : p < N := by omega
        refine pc_X12_takes _ M1 fun n3 h3 => p_here (t := t) I1.2.1.1 b12 b90 (fun z => absurd hl (by omega)) fun _ c hc => cI_i (brP (fun h59 => ?_) fun h59 => ?_)
        · rw [I1.2.1.1, show w32 ((p : Int) + 1) = ((p + 1 : Nat) : Int) from ew32 (by omega) (by omega)]
          refine cI_i (brF (by decide) ?_)
          have hgo : outL t N 0 (zsK q0L cl0L) = outL t N (p + 1) (zsK q cl) := ho.trans (outL_go hl (by
            show (if t p = 59 then .inr (zsK q cl) else flt 1 p) = _
            exact if_pos (by omega)))
          refine f_clauseM a12 a90 (p := p + 1) (q := q) (cl := cl) ⟨I1.1.st (.inr ⟨rfl, .inl rfl⟩), ⟨stE, (stO (by decide)).trans I1.2.1.2⟩, I1.2.2.1.eq (stO (by decide)) (stK (by decide)), fun k hk => ?_, hl, hb.2⟩ (fun f M2 e1 e2 e3 z hz => cI_i (brT hz (bad n2 f _ _ M2 rfl (hgo.trans e1) e2 e3))) fun p1 q1 cl1 M2 e1 e2 e3 z hz => cI_i (brF (by omega) (ih n2 h2 p1 q1 cl1 _ _ M2 rfl (hgo.trans e1) e3))
          rw [stN (by decide), stN (by decide), stN (by decide), stN (by decide)]
          exact I1.2.2.2.1 k hk
        · rw [I1.2.1.1]
          refine p_wrong (by decide) (by omega) fun y hy => cI_i (gMB (cI_i (brT hy (bad n2 (-1000 * 1 - (p : Int)) _ _ _ rfl (ho.trans (outL_no hl ?_)) (I1.1.st (.inr ⟨rfl, .inr (by decide)⟩)) stE))))
          show (if t p = 59 then .inr (zsK q cl) else flt 1 p) = _
          rw [if_neg (by omega)]
          rfl
  exact f_clauseM a12 a90 I0 (fun f M1 e1 e2 e3 z hz => cI_i (bad _ f _ _ M1 hz e1 e2 e3)) fun p1 q1 cl1 M1 e1 e2 e3 z hz => cI_i (lp _ p1 q1 cl1 _ _ M1 hz e1 e3)
end LRV
