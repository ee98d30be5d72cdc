/-! PART 7q: tried and feared of the reference leave now as it was -/
theorem pc_X12_tried {sc : List Int} {n : Nat} {Q : Vv → MM → Prop} (v1 : Int) (v2 : Int) (M : MM) (h : ∀ n1, n1 < n → PC sc n1 m_X12_hasSpot [vr 81, vi v1] M (cI fun r2 M1 =>
  brA (decide (r2 = 0))
   (Q (vi ((-1))) M1)
   (PC sc n1 m_X12_in [vi v2, vi 0, vi 5] M1 (cI fun r4 M3 =>
    brA (decide (r4 ≠ 0))
     (PW sc n1 m_X12_tried 32 [] [some (vr 81), some (vi v1), some (vi v2)] M3 Q)
     (PC sc n1 m_X12_in [vi v2, vi 10, vi 19] M3 (cI fun r6 M5 =>
      brA (decide (r6 = 0))
       (PW sc n1 m_X12_tried 20 [] [some (vr 81), some (vi v1), some (vi v2)] M5 Q)
       (PC sc n1 m_X12_isTold [vr 81, vi (w32 (v2 - 10))] M5 (cI fun r8 M7 =>
        brA (decide (r8 ≠ 0))
         (PW sc n1 m_X12_tried 32 [] [some (vr 81), some (vi v1), some (vi v2)] M7 Q)
         (PW sc n1 m_X12_tried 20 [] [some (vr 81), some (vi v1), some (vi v2)] M7 Q))))))))) : PC sc n m_X12_tried [vr 81, vi v1, vi v2] M Q := pc_go rfl (fun j => Nat.beq j 20 || Nat.beq j 32) 92 h
theorem pw_X12_tried_20 {sc : List Int} {n : Nat} {Q : Vv → MM → Prop} (v1 : Int) (v2 : Int) (M : MM) (h : ∀ n1, n1 < n → gIm (decide (0 ≤ v1) && decide (v1 < 10)) (PC sc n1 m_X12_in [vi v2, vi 20, vi (w32 (20 + (M 88 v1.toNat)))] M (cI fun r2 M1 =>
  brA (decide (r2 ≠ 0))
   (PW sc n1 m_X12_tried 32 [] [some (vr 81), some (vi v1), some (vi v2)] M1 Q)
   (Q (vi ((-1))) M1)))) : PW sc n m_X12_tried 20 [] [some (vr 81), some (vi v1), some (vi v2)] M Q := pw_go rfl (fun j => Nat.beq j 20 || Nat.beq j 32) 92 h
theorem pw_X12_tried_32 {sc : List Int} {n : Nat} {Q : Vv → MM → Prop} (v1 : Int) (v2 : Int) (M : MM) (h : ∀ n1, n1 < n → PC sc n1 m_X12_copies [vr 82, vr 83] M (fun _ M1 =>
  PC sc n1 m_X12_nightOf [vr 81, vi v1] M1 (fun _ M2 =>
   PC sc n1 m_X12_copies [vr 83, vr 82] M2 (fun _ M3 =>
    (v2 = 0 → Q (vi (M3 81 45)) M3) ∧
     (v2 ≠ 0 → (v2 = 1 → Q (vi (M3 81 46)) M3) ∧
     (v2 ≠ 1 → (v2 = 2 → Q (vi (M3 81 47)) M3) ∧
     (v2 ≠ 2 → (v2 = 3 → Q (vi (M3 81 48)) M3) ∧
     (v2 ≠ 3 → (v2 = 4 → gIm (decide (0 ≤ v1) && decide (v1 < 10)) (gIm (decide (0 ≤ (M3 88 v1.toNat)) && decide ((M3 88 v1.toNat) < 61)) (Q (vi (M3 111 (M3 88 v1.toNat).toNat)) M3))) ∧
     (v2 ≠ 4 → (v2 = 5 → Q (vi (M3 81 49)) M3) ∧
     (v2 ≠ 5 → brA (decide (20 ≤ v2))
      (gIm (decide (0 ≤ (w32 (v2 - 20))) && decide ((w32 (v2 - 20)) < 61)) (Q (vi (M3 111 (w32 (v2 - 20)).toNat)) M3))
      (gIm (decide (0 ≤ (w32 (v2 - 10))) && decide ((w32 (v2 - 10)) < 10)) (Q (vi (M3 110 (w32 (v2 - 10)).toNat)) M3)))))))))))) : PW sc n m_X12_tried 32 [] [some (vr 81), some (vi v1), some (vi v2)] M Q := pw_go rfl (fun j => Nat.beq j 20 || Nat.beq j 32) 92 h
theorem pc_X12_feared {sc : List Int} {n : Nat} {Q : Vv → MM → Prop} (v1 : Int) (v2 : Int) (M : MM) (h : ∀ n1, n1 < n → PC sc n1 m_X12_isTold [vr 81, vi v1] M (cI fun r2 M1 =>
  brA (decide (r2 = 0))
   (Q (vi ((-1))) M1)
   (PC sc n1 m_X12_in [vi v2, vi 0, vi 1] M1 (cI fun r4 M3 =>
    brA (decide (r4 ≠ 0))
     (PW sc n1 m_X12_feared 17 [] [some (vr 81), some (vi v1), some (vi v2), some (vi ((-2))), some (vi 0), some (vi 0), none] M3 Q)
     (Q (vi ((-1))) M3))))) : PC sc n m_X12_feared [vr 81, vi v1, vi v2] M Q := pc_go rfl (fun j => Nat.beq j 17) 73 h
theorem pw_X12_feared_17 {sc : List Int} {n : Nat} {Q : Vv → MM → Prop} (v1 : Int) (v2 : Int) (v3 : Int) (v4 : Int) (v5 : Int) (o6 : Option Vv) (M : MM) (h : ∀ n1, n1 < n → brA (decide (10 ≤ v5))
  (brA (decide (v2 ≠ 0))
   (Q (vi v4) M)
   (Q (vi v3) M))
  (PC sc n1 m_X12_hasSpot [vr 81, vi v5] M (cI fun r2 M1 =>
   brA (decide (r2 ≠ 0))
    (PC sc n1 m_X12_copies [vr 82, vr 83] M1 (fun _ M3 =>
     PC sc n1 m_X12_nightOf [vr 81, vi v5] M3 (fun _ M4 =>
      gIm (decide (0 ≤ (w32 (10 + v1))) && decide ((w32 (10 + v1)) < 36)) (gIm (decide (0 ≤ (w32 (10 + v1))) && decide ((w32 (10 + v1)) < 36)) (PC sc n1 m_X12_copies [vr 83, vr 82] M4 (fun _ M5 =>
       brA (decide (v4 < (w32 ((M4 82 (w32 (10 + v1)).toNat) - (M4 83 (w32 (10 + v1)).toNat)))))
        (PW sc n1 m_X12_feared 17 [] [some (vr 81), some (vi v1), some (vi v2), some (vi v5), some (vi (w32 ((M4 82 (w32 (10 + v1)).toNat) - (M4 83 (w32 (10 + v1)).toNat)))), some (vi (w32 (v5 + 1))), some (vi (w32 ((M4 82 (w32 (10 + v1)).toNat) - (M4 83 (w32 (10 + v1)).toNat))))] M5 Q)
        (PW sc n1 m_X12_feared 17 [] [some (vr 81), some (vi v1), some (vi v2), some (vi v3), some (vi v4), some (vi (w32 (v5 + 1))), some (vi (w32 ((M4 82 (w32 (10 + v1)).toNat) - (M4 83 (w32 (10 + v1)).toNat))))] M5 Q)))))))
    (PW sc n1 m_X12_feared 17 [] [some (vr 81), some (vi v1), some (vi v2), some (vi v3), some (vi v4), some (vi (w32 (v5 + 1))), o6] M1 Q)))) : PW sc n m_X12_feared 17 [] [some (vr 81), some (vi v1), some (vi v2), some (vi v3), some (vi v4), some (vi v5), o6] M Q := pw_go rfl (fun j => Nat.beq j 17) 73 h
section TRM
variable {sc : List Int} {Q : Vv → MM → Prop} {M0 M M1 : MM}
/- what trying a NIGHT leaves as it was, reference -/
def asF (M0 M : MM) : Prop := (∀ c, c ≠ 81 → c ≠ 82 → c ≠ 83 → (c < 108 ∨ 111 < c) → M c = M0 c) ∧ (∀ j, (j < 45 ∨ 49 < j) → M 81 j = M0 81 j) ∧ ∀ j, j < 36 → M 82 j = M0 82 j
theorem asF.rf : asF M M := ⟨fun _ _ _ _ _ => rfl, fun _ _ => rfl, fun _ _ => rfl⟩
theorem asF.T (A : asF M0 M) : nwT M0 M := ⟨⟨A.2.1 8 (by decide), A.2.1 61 (by decide)⟩, fun j hj _ => A.2.2 j hj, fun j _ _ => by rw [A.1 84 (by decide) (by decide) (by decide) (by decide)]⟩
theorem hnS_fit {h : Nat} {R : Nat → Int} (e19 : M1 81 19 = M 81 19) (e : ∀ c, (85 ≤ c ∧ c ≤ 89) ∨ (97 ≤ c ∧ c ≤ 101) → M1 c = M c) (hR : R = M 82) : ngT R (M1 85) (fwV M1 R (h : Int)) (posV (M1 85) (fun i => M1 89 (60 * h + i)) (M 88 h).toNat (M 86 h)) ((M 88 h).toNat + 1) (ngB R) = hnS M h := by
  unfold hnS
  rw [fwV_eq e19 fun c c1 c2 => e c (by omega), e 85 (by omega), e 89 (by omega), hR]
/- a NIGHT tried by the reference: set aside, gone through, put back -/
set_option maxRecDepth 20000 in
theorem f_asideM (g : axG M0) (A : asF M0 M) {h : Nat} (hh : h < 10) (h86 : 0 ≤ M0 86 h) {n : Nat} (Q1 : MM → Prop) (k1 : ∀ M2 : MM, (∀ g : Nat, g < 10 → M2 82 (10 + g) = (hnS M0 h).1 g ∧ M2 83 (10 + g) = M0 82 (10 + g)) → (PC sc n m_X12_copies [vr 83, vr 82] M2 fun _ M3 => asF M0 M3) → Q1 M2) : PC sc n m_X12_copies [vr 82, vr 83] M fun _ M1 => PC sc n m_X12_nightOf [vr 81, vi (h : Int)] M1 fun _ M2 => Q1 M2 := by
  have l88 := rA_88 g.1 h
  refine p_copies (by decide) fun M1 f1 f2 => ?_
  have e82 : ∀ j, j < 36 → M1 82 j = M0 82 j := fun j hj => by rw [f1 82 (by decide)]; exact A.2.2 j hj
  have e19 : M1 81 19 = M0 81 19 := by rw [f1 81 (by decide)]; exact A.2.1 19 (by decide)
  have ec : ∀ c, c ≠ 81 → c ≠ 82 → c ≠ 83 → (c < 108 ∨ 111 < c) → M1 c = M0 c := fun c c1 c2 c3 c4 => (f1 c c3).trans (A.1 c c1 c2 c3 c4)
  refine f_nightM (R := M0 82) e82 ((lwJ.of g).eq e19 fun c c1 c2 => ec c (by omega) (by omega) (by omega) (by omega)) (r82s g.1) (r82f g.1) hh (sz := (M0 88 h).toNat) (a := M0 86 h) ⟨h86, (rA_86 g.1 _).2⟩ (by rw [ec 86 (by decide) (by decide) (by decide) (by decide)]) (by rw [ec 88 (by decide) (by decide) (by decide) (by decide)]; omega) (by omega) fun M2 F B C D => ?_
  rw [hnS_fit e19 (fun c hc => ec c (by omega) (by omega) (by omega) (by omega)) rfl] at B
  refine k1 M2 (fun i hi => ⟨(B i hi).1, ?_⟩) (p_copies (by decide) fun M3 g1 g2 => ⟨fun c c1 c2 c3 c4 => ?_, fun j hj => ?_, fun j hj => ?_⟩)
  · rw [F.1 83 (by decide) (by decide) (by decide), f2 _ (by omega)]
    exact A.2.2 _ (by omega)
  · rw [g1 c c2, F.1 c c1 c2 (by omega)]
    exact ec c c1 c2 c3 c4
  · rw [g1 81 (by decide), F.2 j hj, f1 81 (by decide)]
    exact A.2.1 j hj
  · rw [g2 j hj, F.1 83 (by decide) (by decide) (by decide), f2 j hj]
    exact A.2.2 j hj
set_option maxRecDepth 20000 in
theorem f_triedM (g : axG M) {h w : Int} {n : Nat} : PC sc n m_X12_tried [vr 81, vi h, vi w] M (fun _ M1 => asF M M1) := by
  refine pc_X12_tried _ _ M fun n1 _ => f_hasSpotM (fun hn x hx => cI_i (brT hx .rf)) fun hk x hx => cI_i (brF (by omega) ?_)
  have h10 : h.toNat < 10 := by have := hk.1; omega
  have eh : h = ((h.toNat : Nat) : Int) := by omega
  have h32 : ∀ n, PW sc n m_X12_tried 32 [] [some (vr 81), some (vi h), some (vi w)] M (fun _ M1 => asF M M1) := fun n => by
    refine pw_X12_tried_32 _ _ M fun n1 _ => ?_
    have hrP : ∀ P : Int → Prop, P ((h.toNat : Nat) : Int) → P h := fun P p => by rw [eh]; exact p
    refine hrP (fun v => PC sc n1 m_X12_copies [vr 82, vr 83] M fun _ M1 => PC sc n1 m_X12_nightOf [vr 81, vi v] M1 _) (f_asideM g .rf h10 hk.2 (fun M2 => PC sc n1 m_X12_copies [vr 83, vr 82] M2 _) fun M2 _ k => k.mono fun r M3 A => ?_)
    exact ⟨fun _ => A, fun _ => ⟨fun _ => A, fun _ => ⟨fun _ => A, fun _ => ⟨fun _ => A, fun _ => ⟨fun _ => gMB (gMB A), fun _ => ⟨fun _ => A, fun _ => brP (fun _ => gMB A) fun _ => gMB A⟩⟩⟩⟩⟩⟩
  have h20 : ∀ n, PW sc n m_X12_tried 20 [] [some (vr 81), some (vi h), some (vi w)] M (fun _ M1 => asF M M1) := fun n => pw_X12_tried_20 _ _ M fun n1 _ => gMB (p_in (fun _ x hx => cI_i (brF (by omega) .rf)) fun _ x hx => cI_i (brT (by omega) (h32 n1)))
  refine p_in (fun q x hx => cI_i (brF (by omega) (p_in (fun q2 x hx => cI_i (brT hx (h20 n1))) fun q2 x hx => cI_i (brF (by omega) ?_)))) fun q x hx => cI_i (brT (by omega) (h32 n1))
  have q3 : w32 (w - 10) = (((w - 10).toNat : Nat) : Int) := by
    rw [ew32 (by omega) (by omega)]
    omega
  rw [q3]
  exact p_isToldM (by omega) (fun _ x hx => cI_i (brF (by omega) (h20 n1))) fun _ x hx => cI_i (brT (by omega) (h32 n1))
/- who frightens most, from house i on -/
def mstV (D : Nat → Int) (n i : Nat) (best most : Int) : Int × Int := match n with
  | 0 => (best, most)
  | n + 1 => if most < D i then mstV D n (i + 1) (i : Int) (D i) else mstV D n (i + 1) best most
theorem mstV_s (D : Nat → Int) (n i : Nat) (best most : Int) : mstV D (n + 1) i best most = if most < D i then mstV D n (i + 1) (i : Int) (D i) else mstV D n (i + 1) best most := rfl
/- how much a NIGHT of a house makes a stranger's FEAR grow -/
def mstD (M : MM) (g h : Nat) : Int := if 0 ≤ M 86 h then w32 ((hnS M h).1 g - M 82 (10 + g)) else -1
def feV (M : MM) (g w : Int) : Int := if ((0 ≤ g ∧ g ≤ 9) ∧ bit (M 82 30) g.toNat = true) ∧ (0 ≤ w ∧ w ≤ 1) then (if w = 0 then (mstV (mstD M g.toNat) 10 0 (-2) 0).1 else (mstV (mstD M g.toNat) 10 0 (-2) 0).2) else -1
set_option maxRecDepth 20000 in
theorem f_fearedM (G : axG M0) {g w : Int} {n : Nat} : PC sc n m_X12_feared [vr 81, vi g, vi w] M0 (fun r M1 => asF M0 M1 ∧ r = vi (feV M0 g w)) := by
  have no : ¬ (((0 ≤ g ∧ g ≤ 9) ∧ bit (M0 82 30) g.toNat = true) ∧ (0 ≤ w ∧ w ≤ 1)) → asF M0 M0 ∧ vi (-1) = vi (feV M0 g w) := fun z => ⟨.rf, by unfold feV; rw [if_neg z]⟩
  have go : (0 ≤ g ∧ g ≤ 9) → bit (M0 82 30) g.toNat = true → (0 ≤ w ∧ w ≤ 1) → ∀ (m i n : Nat) (best most : Int) (o6 : Option Vv) (M : MM), i + m = 10 → 0 ≤ most → asF M0 M → mstV (mstD M0 g.toNat) 10 0 (-2) 0 = mstV (mstD M0 g.toNat) m i best most → PW sc n m_X12_feared 17 [] [some (vr 81), some (vi g), some (vi w), some (vi best), some (vi most), some (vi (i : Int)), o6] M (fun r M1 => asF M0 M1 ∧ r = vi (feV M0 g w)) := by
    intro hg hb hw m
    induction m with
    | zero =>
      intro i n best most o6 M hi h0 A e
      have hi : i = 10 := hi
      subst hi
      have ef : feV M0 g w = if w = 0 then best else most := by
        unfold feV
        rw [if_pos ⟨⟨hg, hb⟩, hw⟩, e]
        rfl
      rw [ef]
      exact pw_X12_feared_17 _ _ _ _ _ _ M fun n1 _ => brT (by decide) (brP (fun q => ⟨A, by rw [if_neg q]⟩) fun q => ⟨A, by rw [if_pos (Classical.not_not.mp q)]⟩)
    | succ m ih =>
      intro i n best most o6 M hi h0 A e
      rw [mstV_s _ m i] at e
      refine pw_X12_feared_17 _ _ _ _ _ _ M fun n1 _ => brF (by omega) ?_
      rw [show w32 ((i : Int) + 1) = ((i + 1 : Nat) : Int) from ew32 (by omega) (by omega), show w32 (10 + g) = ((10 + g.toNat : Nat) : Int) by rw [ew32 (by omega) (by omega)]; omega, show (((10 + g.toNat : Nat) : Int)).toNat = 10 + g.toNat by omega]
      have e86 : M 86 = M0 86 := A.1 86 (by decide) (by decide) (by decide) (by decide)
      refine f_hasSpotM (fun hn x hx => cI_i (brF (by omega) ?_)) fun hk x hx => cI_i (brT (by omega) ?_)
      · have d : mstD M0 g.toNat i = -1 := by
          unfold mstD
          rw [if_neg fun z => hn ⟨by omega, by rw [e86, show ((i : Int)).toNat = i by omega]; exact z⟩]
        rw [d, if_neg (by omega)] at e
        exact ih (i + 1) n1 _ _ _ M (by omega) h0 A e
      · have h86 : 0 ≤ M0 86 i := by
          have := hk.2
          rw [e86, show ((i : Int)).toNat = i by omega] at this
          exact this
        refine f_asideM G A (by omega) h86 (fun M2 => gIm _ (gIm _ (PC sc n1 m_X12_copies [vr 83, vr 82] M2 _))) fun M2 B k => gMB (gMB (k.mono fun r M3 A3 => ?_))
        have d : w32 (M2 82 (10 + g.toNat) - M2 83 (10 + g.toNat)) = mstD M0 g.toNat i := by
          unfold mstD
          rw [if_pos h86, (B g.toNat (by omega)).1, (B g.toNat (by omega)).2]
        rw [d]
        refine brP (fun q => ?_) fun q => ?_
        · rw [if_pos q] at e
          exact ih (i + 1) n1 _ _ _ M3 (by omega) (by omega) A3 e
        · rw [if_neg q] at e
          exact ih (i + 1) n1 _ _ _ M3 (by omega) h0 A3 e
  by_cases hg : 0 ≤ g ∧ g ≤ 9
  · have hrP : ∀ P : Int → Prop, P ((g.toNat : Nat) : Int) → P g := fun P p => by rw [show g = ((g.toNat : Nat) : Int) by omega]; exact p
    refine pc_X12_feared _ _ M0 fun n1 _ => hrP (fun v => PC sc n1 m_X12_isTold [vr 81, vi v] M0 _) (p_isToldM (by omega) (fun q x hx => cI_i (brT hx (no fun z => absurd (q.symm.trans z.1.2) (by decide)))) fun q x hx => cI_i (brF (by omega) (p_in (fun q2 x hx => cI_i (brF (by omega) (no fun z => q2 z.2))) fun q2 x hx => cI_i (brT (by omega) (go hg q q2 10 0 n1 (-2) 0 none M0 rfl (by decide) .rf rfl)))))
  · exact pc_X12_feared _ _ M0 fun n1 _ => pc_X12_isTold _ M0 fun n2 _ => p_isTen (fun _ x hx => cI_i (brT hx (cI_i (brT rfl (no fun z => hg z.1.1))))) fun z => absurd z hg
theorem msN_tried {h w : Int} (i0 : in32 h) (i1 : in32 w) (g : axG M) (V : rN M) : CA FF sc YF 59 m_X12_tried [vr 81, vi h, vi w] M (fun r M1 => (∃ x, r = vi x) ∧ rN M1) := ((mf_tried i0 i1 g).and fun n => f_triedM g).mono fun r M1 q => ⟨q.1.1, V.eq (.lo q.1.2.2.1) q.2.T⟩
theorem msN_feared {h w : Int} (i0 : in32 h) (i1 : in32 w) (g : axG M) (V : rN M) : CA FF sc YF 59 m_X12_feared [vr 81, vi h, vi w] M (fun r M1 => r = vi (feV M h w) ∧ rN M1) := ((mf_feared i0 i1 g).and fun n => f_fearedM g).mono fun r M1 q => ⟨q.2.2, V.eq (.lo q.1.2.2.1) q.2.1.T⟩
end TRM
