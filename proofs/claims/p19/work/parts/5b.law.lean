/-! PART 5b: by hand: THE LAW (reference), the public method -/
section RD7
variable {sc : List Int} {d : Nat} {Q : Vv → MM → Prop} {M0 M : MM}
theorem lw_75 {n g1 : Int} {m : Nat} {M2 : MM} (hm : m ≤ 16) (e18 : M2 81 18 = m) (k : ∀ (r : Int) (M1 : MM), ai_GI ax_T M1 → (∀ c, c ≠ 98 → c ≠ 99 → c ≠ 100 → c ≠ 101 → ∀ j, M1 c j = M2 c j) → (∀ q, q < m → M1 98 q = M2 93 q ∧ M1 99 q = M2 94 q ∧ M1 100 q = M2 95 q ∧ M1 101 q = M2 96 q) → Q (vi r) M1) : ∀ (s i : Nat) (M : MM), m < i + s → i ≤ m → ai_GI ax_T M → (∀ c, c ≠ 98 → c ≠ 99 → c ≠ 100 → c ≠ 101 → ∀ j, M c j = M2 c j) → (∀ q, q < i → M 98 q = M2 93 q ∧ M 99 q = M2 94 q ∧ M 100 q = M2 95 q ∧ M 101 q = M2 96 q) → WP FF sc YF (d + 9) m_X12_law 75 [] [some (vr 81), some (vi n), some (vi g1), some (vi (i : Int))] M Q := by
  intro s
  induction s with
  | zero => intro i M h1 h2; omega
  | succ s ih =>
    intro i M h1 h2 G hM hq
    have e := (hM 81 (by decide) (by decide) (by decide) (by decide) 18).trans e18
    have et : ((i : Int)).toNat = i := by omega
    refine rg_X12_law_75 n g1 _ M (brP (fun h => k _ M G hM fun q hq2 => hq q (by omega)) fun h => ?_)
    refine gI (by omega) (by omega) (gI (by omega) (by omega) (gI (by omega) (by omega) (gI (by omega) (by omega) (gI (by omega) (by omega) (gI (by omega) (by omega) (gI (by omega) (by omega) (gI (by omega) (by omega) ?_)))))))
    rw [et, ew32 (z := (i : Int) + 1) (by omega) (by omega)]
    have v93 := rA_93 G i
    have v94 := rA_94 G i
    have v95 := rA_95 G i
    have v96 := rA_96 G i
    have x94 : stM M 98 i (M 93 i) 94 i = M 94 i := stN (by decide)
    rw [x94]
    have x95 : stM (stM M 98 i (M 93 i)) 99 i (M 94 i) 95 i = M 95 i := (stN (by decide)).trans (stN (by decide))
    rw [x95]
    have x96 : stM (stM (stM M 98 i (M 93 i)) 99 i (M 94 i)) 100 i (M 95 i) 96 i = M 96 i := (stN (by decide)).trans ((stN (by decide)).trans (stN (by decide)))
    rw [x96]
    have G1 := sA_98 G (j := i) v93.1 v93.2
    have G2 := sA_99 G1 (j := i) v94.1 v94.2
    have G3 := sA_100 G2 (j := i) v95.1 v95.2
    have G4 := sA_101 G3 (j := i) v96.1 v96.2
    refine ih (i + 1) _ (by omega) (by omega) G4 (fun c h98 h99 h100 h101 j => ?_) fun q hq2 => ?_
    · rw [stN h101, stN h100, stN h99, stN h98]
      exact hM c h98 h99 h100 h101 j
    · by_cases z : q = i
      · subst z
        refine ⟨?_, ?_, ?_, stE.trans (hM 96 (by decide) (by decide) (by decide) (by decide) q)⟩
        · rw [stN (by decide), stN (by decide), stN (by decide), stE]
          exact hM 93 (by decide) (by decide) (by decide) (by decide) q
        · rw [stN (by decide), stN (by decide), stE]
          exact hM 94 (by decide) (by decide) (by decide) (by decide) q
        · rw [stN (by decide), stE]
          exact hM 95 (by decide) (by decide) (by decide) (by decide) q
      · obtain ⟨z1, z2, z3, z4⟩ := hq q (by omega)
        refine ⟨?_, ?_, ?_, ?_⟩
        · rw [stN (by decide), stN (by decide), stN (by decide), stO z]
          exact z1
        · rw [stN (by decide), stN (by decide), stO z, stN (by decide)]
          exact z2
        · rw [stN (by decide), stO z, stN (by decide), stN (by decide)]
          exact z3
        · rw [stO z, stN (by decide), stN (by decide), stN (by decide)]
          exact z4
set_option maxRecDepth 20000 in
theorem lw_59 {n g1 : Int} {c : Nat} {M2 : MM} (hc : c ≤ 260) (e16 : M2 81 16 = c) (k : ∀ M1 : MM, ai_GI ax_T M1 → (∀ k, k ≠ 97 → ∀ j, M1 k j = M2 k j) → (∀ q, q < c → M1 97 q = M2 91 q) → WP FF sc YF (d + 9) m_X12_law 75 [] [some (vr 81), some (vi n), some (vi g1), some (vi 0)] M1 Q) : ∀ (s i : Nat) (M : MM), c < i + s → i ≤ c → ai_GI ax_T M → (∀ k, k ≠ 97 → ∀ j, M k j = M2 k j) → (∀ q, q < i → M 97 q = M2 91 q) → WP FF sc YF (d + 9) m_X12_law 59 [] [some (vr 81), some (vi n), some (vi g1), some (vi (i : Int))] M Q := by
  intro s
  induction s with
  | zero => intro i M h1 h2; omega
  | succ s ih =>
    intro i M h1 h2 G hM hq
    have e := (hM 81 (by decide) 16).trans e16
    have et : ((i : Int)).toNat = i := by omega
    refine rg_X12_law_59 n g1 _ M (brP (fun h => k M G hM fun q hq2 => hq q (by omega)) fun h => ?_)
    refine gI (by omega) (by omega) (gI (by omega) (by omega) ?_)
    rw [et, ew32 (z := (i : Int) + 1) (by omega) (by omega)]
    have v91 := rA_91 G i
    refine ih (i + 1) _ (by omega) (by omega) (sA_97 G v91.1 v91.2) (fun k hk j => by rw [stN hk]; exact hM k hk j) fun q hq2 => ?_
    by_cases z : q = i
    · subst z
      exact stE.trans (hM 91 (by decide) q)
    · rw [stO z]
      exact hq q (by omega)
/-- what is asked of THE LAW's answer -/
def lwQ (Q : Vv → MM → Prop) (M0 : MM) : Prop := ∀ (r : Int) (M1 : MM), ai_GI ax_T M1 → (∀ k, k < 81 → ∀ j, (ai_un ax_T k = true ∨ j < 64) → M1 k j = M0 k j) → axJ M1 → M1 81 61 = M0 81 61 → M1 81 10 = 0 → Keep kpLM M0 M1 → Q (vi r) M1
theorem lwF.lo {M1 : MM} (F : lwF M0 M1) : LoX M0 M1 := loX_fr F.2 (by decide +kernel)
theorem lw_bad {n : Int} {o3 : Option Vv} (J : axJ M0) (k : lwQ Q M0) (F : lwF M0 M) : WP FF sc YF (d + 9) m_X12_law 26 [] [some (vr 81), some (vi n), some (vi 0), o3] M Q := by
  refine rg_X12_law_26 n 0 o3 M (brT rfl (rg_X12_law_45 n 0 o3 M (brF (by decide) ?_)))
  have F1 := F.st (k := 81) (j := 10) (v := 0)
  refine k _ _ (sO_81_10 F.1 (by decide) (by decide)) (F.lo.st (by decide)) (axJ_eq ⟨stO (by decide), rfl, rfl, rfl, rfl, rfl⟩ (axJ_fr _ _ _ (by decide +kernel) F.2 J)) ((stO (by decide)).trans (ax_frO F.2 rfl (by decide +kernel))) stE ((Keep.of_fr F.2 (by decide +kernel)).st (by decide +kernel))
theorem lw_good {n : Int} {o3 : Option Vv} {m c P : Nat} (k : lwQ Q M0) (I : lwI M0 M m c P) : WP FF sc YF (d + 9) m_X12_law 45 [] [some (vr 81), some (vi n), some (vi 1), o3] M Q := by
  obtain ⟨G, f, ⟨e18, e16, e11⟩, ⟨hP, hc, hm⟩, hs⟩ := I
  have F : lwF M0 M := ⟨G, f⟩
  have el : M 81 12 = M0 81 12 := ax_frO f rfl (by decide +kernel)
  have hl := rO_81_12 G
  have e61 : M 81 61 = M0 81 61 := ax_frO f rfl (by decide +kernel)
  have L := F.lo
  refine rg_X12_law_45 n 1 o3 M (brT (by decide) ?_)
  rw [show stM M 81 10 0 81 18 = m from (stO (by decide)).trans e18]
  have G2 : ai_GI ax_T (stM (stM M 81 10 0) 81 19 (m : Int)) := sO_81_19 (sO_81_10 G (by decide) (by decide)) (by omega) (by omega)
  have b10 : stM (stM M 81 10 0) 81 19 (m : Int) 81 10 = 0 := (stO (by decide)).trans stE
  have b19 : stM (stM M 81 10 0) 81 19 (m : Int) 81 19 = m := stE
  have bO : ∀ j, j ≠ 10 → j ≠ 19 → stM (stM M 81 10 0) 81 19 (m : Int) 81 j = M 81 j := fun j h1 h2 => (stO h2).trans (stO h1)
  have bN : ∀ k, k ≠ 81 → ∀ j, stM (stM M 81 10 0) 81 19 (m : Int) k j = M k j := fun k hk j => (stN hk).trans (stN hk)
  generalize stM (stM M 81 10 0) 81 19 (m : Int) = M2 at G2 b10 b19 bO bN
  have h16 := (bO 16 (by decide) (by decide)).trans e16
  have h18 := (bO 18 (by decide) (by decide)).trans e18
  refine lw_59 (c := c) (M2 := M2) (by omega) h16 (fun M3 G3 h3 h97 => ?_) (c + 1) 0 M2 (by omega) (by omega) G2 (fun _ _ _ => rfl) fun q hq => by omega
  refine lw_75 (m := m) (M2 := M3) hm ((h3 81 (by decide) 18).trans h18) (fun r M4 G4 h4 hq4 => ?_) (m + 1) 0 M3 (by omega) (by omega) G3 (fun _ _ _ _ _ _ => rfl) fun q hq => by omega
  have n81 : ∀ j, M4 81 j = M2 81 j := fun j => (h4 81 (by decide) (by decide) (by decide) (by decide) j).trans (h3 81 (by decide) j)
  have nA : ∀ k, k ≠ 81 → k ≠ 97 → k ≠ 98 → k ≠ 99 → k ≠ 100 → k ≠ 101 → ∀ j, M4 k j = M k j := fun k h81 h97 h98 h99 h100 h101 j => (h4 k h98 h99 h100 h101 j).trans ((h3 k h97 j).trans (bN k h81 j))
  refine k r M4 G4 (fun k hk j hj => (nA k (by omega) (by omega) (by omega) (by omega) (by omega) (by omega) j).trans (L k hk j hj)) (fun q hq => ?_) ?_ ?_ (fun kk jj hkj => ?_)
  · rw [n81, b19] at hq
    have hq' : q < m := by omega
    obtain ⟨q98, q99, q100, q101⟩ := hq4 q hq'
    obtain ⟨⟨a, b, h1, h2, hb, hg⟩, h5⟩ := hs q hq'
    have eC : ∀ i, i < c → M4 97 i = M 91 i := fun i hi => (h4 97 (by decide) (by decide) (by decide) (by decide) i).trans ((h97 i hi).trans (bN 91 (by decide) i))
    have r93 : M3 93 q = M 93 q := (h3 93 (by decide) q).trans (bN 93 (by decide) q)
    have r94 : M3 94 q = M 94 q := (h3 94 (by decide) q).trans (bN 94 (by decide) q)
    have r95 : M3 95 q = M 95 q := (h3 95 (by decide) q).trans (bN 95 (by decide) q)
    have r96 : M3 96 q = M 96 q := (h3 96 (by decide) q).trans (bN 96 (by decide) q)
    rw [q98, q99, q100, q101, r93, r94, r95, r96]
    refine ⟨⟨a, b, h1, h2, cvG_eq hg fun i hi => eC i (by omega)⟩, fun hn => ?_⟩
    obtain ⟨a', b', g1, g2, gb, gg⟩ := h5 hn
    exact ⟨a', b', g1, g2, cvG_eq gg fun i hi => eC i (by omega)⟩
  · rw [n81, bO 61 (by decide) (by decide)]
    exact e61
  · rw [n81]
    exact b10
  · have hf : M kk jj = M0 kk jj := (Keep.of_fr (w := kpLM) f (by decide +kernel)) kk jj hkj
    by_cases z : kk = 81
    · subst z
      have z10 : jj ≠ 10 := fun z => by
        subst z
        exact absurd hkj (by decide +kernel)
      have z19 : jj ≠ 19 := fun z => by
        subst z
        exact absurd hkj (by decide +kernel)
      rw [n81, bO jj z10 z19, hf]
    · have za : ∀ a, ai_un ax_T a = true → kpLM.testBit (64 * a) = false → kk ≠ a := fun a ha hb z => by
        subst z
        unfold ai_sl at hkj
        rw [ha] at hkj
        rw [hb] at hkj
        cases hkj
      rw [nA kk z (za 97 rfl (by decide +kernel)) (za 98 rfl (by decide +kernel)) (za 99 rfl (by decide +kernel)) (za 100 rfl (by decide +kernel)) (za 101 rfl (by decide +kernel)), hf]
theorem lw_26 {n : Int} {o3 : Option Vv} (J : axJ M0) (k : lwQ Q M0) : ∀ (s m c P : Nat) (M : MM), M0 81 12 < (P : Int) + s → lwI M0 M m c P → WP FF sc YF (d + 9) m_X12_law 26 [] [some (vr 81), some (vi n), some (vi 1), o3] M Q := by
  intro s
  induction s with
  | zero =>
    intro m c P M h1 I
    have := I.2.2.2.1.1
    omega
  | succ s ih =>
    intro m c P M h1 I
    have el : M 81 12 = M0 81 12 := ax_frO I.2.1 rfl (by decide +kernel)
    have e11 := I.2.2.1.2.2
    have hP := I.2.2.2.1.1
    refine rg_X12_law_26 n 1 o3 M (brF (by decide) (brP (fun h => lw_good k I) fun h => s_takes (by decide) I (fun M1 F1 x hx => brT hx (lw_bad J k F1)) fun M1 I1 x hx => brF (by omega) (s_readsClause I1 (fun M3 F3 y hy => brT hy (lw_bad J k F3)) fun M3 c3 P3 hP3 I3 y hy => brF (by omega) (ih (m + 1) c3 P3 M3 (by omega) I3))))
theorem sm_law {n : Int} {M : MM} (G : axG M) (k : ∀ (r : Int) (M1 : MM), axG M1 → LoX M M1 → M1 81 61 = M 81 61 → szM (1 ≤ n ∧ n ≤ 240 ∧ n ≤ M 81 10) M M1 → Keep kpLM M M1 → Q (vi r) M1) : CA FF sc YF (d + 9) m_X12_law [vr 81, vi n] M Q := by
  obtain ⟨g, j, w⟩ := G
  refine ca_X12_law n M (s_in n 1 240 M (brI0 (fun h => k _ M ⟨g, j, w⟩ LoX.rf rfl (.inl ⟨fun q => h ⟨q.1, q.2.1⟩, rfl⟩) Keep.rf) fun h1 => brP (fun h3 => ?_) fun h3 => k _ M ⟨g, j, w⟩ LoX.rf rfl (.inl ⟨fun q => h3 q.2.2, rfl⟩) Keep.rf))
  have G1 : ai_GI ax_T (stM (stM (stM (stM M 81 11 0) 81 12 n) 81 16 0) 81 18 0) := sO_81_18 (sO_81_16 (sO_81_12 (sO_81_11 g (by decide) (by decide)) (by omega) (by omega)) (by decide) (by decide)) (by decide) (by decide)
  have l1 : LoX M (stM (stM (stM (stM M 81 11 0) 81 12 n) 81 16 0) 81 18 0) := (((LoX.rf.st (by decide)).st (by decide)).st (by decide)).st (by decide)
  have b11 : stM (stM (stM (stM M 81 11 0) 81 12 n) 81 16 0) 81 18 0 81 11 = ((0 : Nat) : Int) := (stO (by decide)).trans ((stO (by decide)).trans ((stO (by decide)).trans stE))
  have b12 : stM (stM (stM (stM M 81 11 0) 81 12 n) 81 16 0) 81 18 0 81 12 = n := (stO (by decide)).trans ((stO (by decide)).trans stE)
  have b16 : stM (stM (stM (stM M 81 11 0) 81 12 n) 81 16 0) 81 18 0 81 16 = ((0 : Nat) : Int) := (stO (by decide)).trans stE
  have b18 : stM (stM (stM (stM M 81 11 0) 81 12 n) 81 16 0) 81 18 0 81 18 = ((0 : Nat) : Int) := stE
  have b61 : stM (stM (stM (stM M 81 11 0) 81 12 n) 81 16 0) 81 18 0 81 61 = M 81 61 := (stO (by decide)).trans ((stO (by decide)).trans ((stO (by decide)).trans (stO (by decide))))
  have J1 : axJ (stM (stM (stM (stM M 81 11 0) 81 12 n) 81 16 0) 81 18 0) := axJ_eq ⟨(stO (by decide)).trans ((stO (by decide)).trans ((stO (by decide)).trans (stO (by decide)))), rfl, rfl, rfl, rfl, rfl⟩ j
  have kp1 : Keep kpLM M (stM (stM (stM (stM M 81 11 0) 81 12 n) 81 16 0) 81 18 0) := (((Keep.rf.st (by decide +kernel)).st (by decide +kernel)).st (by decide +kernel)).st (by decide +kernel)
  generalize stM (stM (stM (stM M 81 11 0) 81 12 n) 81 16 0) 81 18 0 = M2 at G1 l1 b11 b12 b16 b18 b61 J1 kp1
  have hk : lwQ Q M2 := fun r M1 g1 lo j1 e61 e10 kp => by
    have l : LoX M M1 := l1.tr lo
    exact k r M1 ⟨g1, j1, l.w w⟩ l (e61.trans b61) (.inr ⟨⟨h1.1, h1.2, h3⟩, e10⟩) (kp1.tr kp)
  have I : lwI M2 M2 0 0 0 := ⟨G1, ax_fr0, ⟨b18, b16, b11⟩, ⟨by omega, Nat.le_refl _, by decide⟩, fun q hq => by omega⟩
  refine s_readsClause I (fun M3 F3 y hy => ?_) fun M3 c3 P3 hP3 I3 y hy => ?_
  · subst hy
    exact lw_bad J1 hk F3
  · subst hy
    exact lw_26 J1 hk (M2 81 12).toNat 1 c3 P3 M3 (by omega) I3
end RD7
