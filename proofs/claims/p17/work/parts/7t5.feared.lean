/-! PART 7t5: the answers of feared -/
theorem pc_X11_feared {sc : List Int} {n : Nat} {Q : Vv → MM → Prop} (v1 : Int) (v2 : Int) (M : MM) (h : ∀ n1, n1 < n → PC sc n1 m_X11_isStranger [vi v1] M (cI fun r2 M1 =>
  brA (decide (r2 = 0))
   (Q (vi ((-1))) M1)
   (PC sc n1 m_X8_isTold [vr 46, vi v1] M1 (cI fun r4 M3 =>
    brA (decide (r4 = 0))
     (Q (vi ((-1))) M3)
     (PC sc n1 m_X11_isIn [vi v2, vi 0, vi 1] M3 (cI fun r6 M5 =>
      brA (decide (r6 ≠ 0))
       (PW sc n1 m_X11_feared 21 [] [some (vr 0), some (vi v1), some (vi v2), some (vi ((-2))), some (vi 0), some (vi 0), none] M5 Q)
       (Q (vi ((-1))) M5))))))) : PC sc n m_X11_feared [vr 0, vi v1, vi v2] M Q := pc_go rfl (fun j => Nat.beq j 21) 76 h
theorem pw_X11_feared_21 {sc : List Int} {n : Nat} {Q : Vv → MM → Prop} (v1 : Int) (v2 : Int) (v3 : Int) (v4 : Int) (v5 : Int) (o6 : Option Vv) (M : MM) (h : ∀ n1, n1 < n → brA (decide (10 ≤ v5))
  (brA (decide (v2 ≠ 0))
   (Q (vi v4) M)
   (Q (vi v3) M))
  (PC sc n1 m_X11_hasSpot [vr 0, vi v5] M (cI fun r2 M1 =>
   brA (decide (r2 = 0))
    (PW sc n1 m_X11_feared 21 [] [some (vr 0), some (vi v1), some (vi v2), some (vi v3), some (vi v4), some (vi (w32 (v5 + 1))), o6] M1 Q)
    (gIm (decide (0 < M1 0 10)) (gIm (decide (0 < M1 0 12)) (PC sc n1 m_X11_dogsAgainst [vr 0, vi v5] M1 (cI fun r4 M3 =>
     PC sc n1 m_X2_pass [vr 24, vr ((M1 0 10).toNat - 1), vr 3, vr ((M1 0 12).toNat - 1), vr 46, vi v5, vi r4] M3 (fun _ M5 =>
      gIm (decide (0 ≤ v1) && decide (v1 < 10)) (gIm (decide (0 ≤ v1) && decide (v1 < 10)) (brA (decide ((w32 ((M5 27 v1.toNat) - (M5 48 v1.toNat))) ≤ v4))
       (PW sc n1 m_X11_feared 21 [] [some (vr 0), some (vi v1), some (vi v2), some (vi v3), some (vi v4), some (vi (w32 (v5 + 1))), some (vi (w32 ((M5 27 v1.toNat) - (M5 48 v1.toNat))))] M5 Q)
       (PW sc n1 m_X11_feared 21 [] [some (vr 0), some (vi v1), some (vi v2), some (vi v5), some (vi (w32 ((M5 27 v1.toNat) - (M5 48 v1.toNat)))), some (vi (w32 (v5 + 1))), some (vi (w32 ((M5 27 v1.toNat) - (M5 48 v1.toNat))))] M5 Q))))))))))) : PW sc n m_X11_feared 21 [] [some (vr 0), some (vi v1), some (vi v2), some (vi v3), some (vi v4), some (vi v5), o6] M Q := pw_go rfl (fun j => Nat.beq j 21) 76 h
section FEC
variable {sc : List Int}
set_option maxRecDepth 20000 in
theorem f_fearedC {M0 : MM} (G : GdA M0) {g w : Int} {n : Nat} : PC sc n m_X11_feared [vr 0, vi g, vi w] M0 (fun r _ => r = vi (feV M0 g w)) := by
  obtain ⟨T, hT, v0, v1, hr, hh, hS⟩ := G.1.tw
  obtain ⟨L, q, cl, hL, h12, R0⟩ := G.2.1
  obtain ⟨⟨a1, a2⟩, W, -⟩ := id G.2.2.1
  have ax : axG M0 := G.1.1
  have no : ¬ (((0 ≤ g ∧ g ≤ 9) ∧ bit (M0 82 30) g.toNat = true) ∧ (0 ≤ w ∧ w ≤ 1)) → vi (-1) = vi (feV M0 g w) := fun z => by
    unfold feV
    rw [if_neg z]
  refine pc_X11_feared _ _ M0 fun n1 _ => p_isStr (fun h x hx => cI_i (brT hx (no fun z => h z.1.1))) fun hg x hx => cI_i (brF (by omega) ?_)
  obtain ⟨i, hi⟩ : ∃ i : Nat, g = (i : Int) := ⟨g.toNat, by omega⟩
  subst hi
  have hi : i < 10 := by omega
  obtain ⟨z1, z2⟩ := W.1 i hi
  refine p_isToldK hi (fun nt x hx => cI_i (brT hx (no fun z => ?_))) fun yes x hx => cI_i (brF (by omega) (p_isIn (fun q2 x hx => cI_i (brF (by omega) (no fun z => q2 z.2))) fun q2 x hx => cI_i (brT (by omega) ?_)))
  · have b := z.1.2
    rw [show ((i : Int)).toNat = i by omega] at b
    obtain ⟨⟨y1, y2, -⟩, -⟩ := z1 b
    have y1 : M0 47 i = M0 82 i := y1
    omega
  have b : bit (M0 82 30) i = true := by
    cases e : bit (M0 82 30) i
    · exact absurd (z2 e).1 yes
    · rfl
  have y3 : M0 48 i = M0 82 (10 + i) := (z1 b).2.1
  have lp : ∀ (m k n : Nat) (best most : Int) (o6 : Option Vv) (M : MM), k + m = 10 → ngF L M0 M → 0 ≤ most → mstV (mstD M0 i) 10 0 (-2) 0 = mstV (mstD M0 i) m k best most → PW sc n m_X11_feared 21 [] [some (vr 0), some (vi (i : Int)), some (vi w), some (vi best), some (vi most), some (vi (k : Int)), o6] M (fun r _ => r = vi (feV M0 (i : Int) w)) := by
    intro m
    induction m with
    | zero =>
      intro k n best most o6 M hk F h0 e
      have hk : k = 10 := hk
      subst hk
      have ef : feV M0 (i : Int) w = if w = 0 then best else most := by
        unfold feV
        rw [show ((i : Int)).toNat = i by omega, if_pos ⟨⟨hg, b⟩, q2⟩, e]
        rfl
      rw [ef]
      exact pw_X11_feared_21 _ _ _ _ _ _ M fun n1 _ => brT (by decide) (brP (fun y => by rw [if_neg y]) fun y => by rw [if_pos (Classical.not_not.mp y)])
    | succ m ih =>
      intro k n best most o6 M hk F h0 e
      rw [mstV_s _ m k] at e
      have hk10 : k < 10 := by omega
      have o : ∀ c, (c < 24 ∨ 31 < c) → c ≠ L → c ≠ L + 6 → c ≠ L + 7 → M c = M0 c := F.1
      refine pw_X11_feared_21 _ _ _ _ _ _ M fun n1 _ => brF (by omega) ?_
      rw [show w32 ((k : Int) + 1) = ((k + 1 : Nat) : Int) from ew32 (by omega) (by omega), show ((i : Int)).toNat = i by omega]
      refine f_hasSpotC hT (by rw [o 0 (by decide) (by omega) (by omega) (by omega)]; exact v0) (fun hn x hx => cI_i (brT hx ?_)) fun hs x hx => cI_i (brF (by omega) ?_)
      · have h86 : ¬ 0 ≤ M0 86 k := fun z => hn ⟨by omega, by rw [show ((k : Int)).toNat = k by omega, o (T + 2) (by omega) (by omega) (by omega) (by omega)]; exact (hh k hk10).1.mp z⟩
        have d : mstD M0 i k = -1 := by
          unfold mstD
          rw [if_neg h86]
        rw [d, if_neg (by omega)] at e
        exact ih (k + 1) n1 _ _ _ M (by omega) F h0 e
      · have hs := hs.2
        rw [show ((k : Int)).toNat = k by omega, o (T + 2) (by omega) (by omega) (by omega) (by omega)] at hs
        have h86 : 0 ≤ M0 86 k := (hh k hk10).1.mpr hs
        have l88 := rA_88 ax.1 k
        have rK := G.1.2.2.2.1.1 k hk10
        rw [o 0 (by decide) (by omega) (by omega) (by omega), v0, h12, show ((T : Int) + 1).toNat - 1 = T by omega, show ((L : Int) + 1).toNat - 1 = L by omega]
        refine gMB (gMB (pc_X11_dogsAgainst _ M fun n2 _ => cI_i ?_))
        have ef : fwV M (M0 82) (k : Int) = fwV M0 (M0 82) (k : Int) := fwV_eq (by rw [o 81 (by decide) (by omega) (by omega) (by omega)]) (fun c c1 c2 => o c (by omega) (by omega) (by omega) (by omega)) _ _
        refine f_pass hL hT (R := M0 82) (P := posV (M0 85) (fun j => M0 89 (60 * k + j)) (M0 88 k).toNat (M0 86 k)) (K := M0 85) (F.R hL R0) (W.eq (fun j j1 j2 a _ => by rw [o (46 + j) (by omega) (by omega) (by omega) (by omega)]) (by rw [o 46 (by decide) (by omega) (by omega) (by omega)]) (by rw [o 46 (by decide) (by omega) (by omega) (by omega)]) (by rw [o 46 (by decide) (by omega) (by omega) (by omega)]) .rf) (r82f ax.1) hk10 (sz := (M0 88 k).toNat) (a := M0 86 k) ⟨h86, (rA_86 ax.1 _).2⟩ (by rw [o (T + 2) (by omega) (by omega) (by omega) (by omega)]; exact (hh _ hk10).2 hs) (by rw [o 4 (by decide) (by omega) (by omega) (by omega), rK.1]; omega) (by omega) (by rw [o (6 + k) (by omega) (by omega) (by omega) (by omega)]; exact rA_6h ax.1 _ hk10) (fun j _ => ?_) (by rw [o (T + 3) (by omega) (by omega) (by omega) (by omega)]; exact hS ⟨_, hk10, h86⟩) fun M7 F7 I7 => gMB (gMB ?_)
        · rw [o (T + 1) (by omega) (by omega) (by omega) (by omega), o (6 + k) (by omega) (by omega) (by omega) (by omega)]
          exact (posV_K v1 (fun j hj => rK.2 j (by omega)) _ j).symm
        rw [ef] at I7
        have F2 : ngF L M0 M7 := ⟨fun c c1 c2 c3 c4 => (F7.1 c c1 c2 c3 c4).trans (o c c1 c2 c3 c4), fun j j1 j2 => (F7.2 j j1 j2).trans (F.2 j j1 j2)⟩
        have e27 : M7 27 i = (hnS M0 k).1 i := ((I7.1 i hi).1 b).2.1
        have e48 : M7 48 i = M0 82 (10 + i) := by
          rw [F2.1 48 (by decide) (by omega) (by omega) (by omega)]
          exact y3
        have d : w32 (M7 27 i - M7 48 i) = mstD M0 i k := by
          unfold mstD
          rw [if_pos h86, e27, e48]
        rw [d]
        refine brP (fun y => ?_) fun y => ?_
        · rw [if_neg (by omega)] at e
          exact ih (k + 1) n1 _ _ _ M7 (by omega) F2 h0 e
        · rw [if_pos (by omega)] at e
          exact ih (k + 1) n1 _ _ _ M7 (by omega) F2 (by omega) e
  exact lp 10 0 n1 (-2) 0 none M0 rfl ⟨fun _ _ _ _ _ => rfl, fun _ _ _ => rfl⟩ (by decide) rfl
theorem feV_up {M M1 : MM} (u : UpX M M1) (g w : Int) : feV M1 g w = feV M g w := by
  have e : mstD M1 g.toNat = mstD M g.toNat := by
    funext h
    unfold mstD
    rw [u.f 86 (by decide), hnS_eq fun c c1 _ => u.f c c1, u.f 82 (by decide)]
  unfold feV
  rw [e, u.f 82 (by decide)]
theorem csQ_feared {M : MM} {g w : Int} (i0 : in32 g) (i1 : in32 w) (G : GdA M) : CA FF sc YF 59 m_X11_feared [vr 0, vi g, vi w] M (fun r M1 => ∃ x, r = vi x ∧ GdA M1 ∧ x = feV M1 g w) := csV G (by decide +kernel) (cf_feared i0 i1 G.1.1) (V := fun M => feV M g w) (fun n => f_fearedC G) fun M1 u => feV_up u g w
theorem msQ_feared {M : MM} {g w x : Int} (i0 : in32 g) (i1 : in32 w) (G : GdA M ∧ x = feV M g w) : CA FF sc YF 59 m_X12_feared [vr 81, vi g, vi w] M (fun r M1 => ∃ y, r = vi y ∧ GdA M1 ∧ y = x) := ((mdS (w := mw_feared) G.1.1 (by decide +kernel) (mf_feared i0 i1 G.1.1.1)).and fun n => (PC.of (n := n) (msN_feared i0 i1 G.1.1.1 G.1.2.2.1)).and (PC.of (n := n) (mf_feared i0 i1 G.1.1.1))).mono fun r M1 q => by
  obtain ⟨⟨y1, hy1, p⟩, ⟨hy, p3⟩, -, g', l, kp⟩ := q
  exact ⟨_, hy, ⟨p, G.1.2.1.lo l kp (by decide +kernel), p3, G.1.2.2.2.lo g' l kp (by decide +kernel)⟩, G.2.symm⟩
end FEC
