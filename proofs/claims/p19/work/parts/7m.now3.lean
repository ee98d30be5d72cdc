/-! PART 7m: now alike: quarter, walk -/
section NWQ
variable {sc : List Int} {M M1 : MM} {Q : Vv → MM → Prop}
def MdN_quarter (v : Int) (M1 : MM) : Prop := (¬ (1 ≤ v ∧ v ≤ 120 ∧ v ≤ M1 81 10) → rN M1) ∧ ((1 ≤ v ∧ v ≤ 120 ∧ v ≤ M1 81 10) → ∃ K H : Nat → Int, (∀ h, h < 10 → H h = -1) ∧ ((qzY (tpY M1) v.toNat K H).1 < 0 → rN M1) ∧ (¬ (qzY (tpY M1) v.toNat K H).1 < 0 → ∀ S : Nat → Int, (∀ j, j < 36 → j ≠ 30 → S j = M1 82 j) → setB (S 30) (tdP (qzY (tpY M1) v.toNat K H).2.1 M1 10) → nwP M1 (M1 81 8) S (M1 81 61) (M1 84)))
theorem csN_quarter {v : Int} (i0 : in32 v) (G : GdT M) (V : rN M) : CA FF sc YF 59 m_X11_quarter [vr 0, vi v] M (fun r M1 => (∃ x, r = vi x) ∧ MdN_quarter v M1) := by
  have go : ∀ T S : Nat, ((T = 57 ∧ S = 61) ∨ (T = 61 ∧ S = 57)) → M 0 10 = (T : Int) + 1 → M 0 11 = (S : Int) + 1 → CA FF sc YF 59 m_X11_quarter [vr 0, vi v] M (fun r M1 => (∃ x, r = vi x) ∧ MdN_quarter v M1) := fun T S hTS e10 e11 => by
    have hS : S = 57 ∨ S = 61 := by omega
    refine ((cf_quarter i0 G.1).and fun n => f_quarterC (Q := fun _ M1 => (¬ (1 ≤ v ∧ v ≤ 120 ∧ v ≤ M 1 1) → M1 = M) ∧ ((1 ≤ v ∧ v ≤ 120 ∧ v ≤ M 1 1) → ∃ K H : Nat → Int, (∀ h, h < 10 → H h = -1) ∧ ((qzY (tpY M) v.toNat K H).1 < 0 → nwS M M1) ∧ (¬ (qzY (tpY M) v.toNat K H).1 < 0 → (M1 0 15 = M 0 15 ∧ M1 0 14 = M 0 14) ∧ (∀ c, 46 ≤ c → c ≤ 55 → c ≠ 47 → c ≠ 48 → c ≠ 49 → c ≠ 50 → M1 c = M c) ∧ ∀ g, (g < 10 → drpO (qzY (tpY M) v.toNat K H).2.1 M g → M1 47 g = -1 ∧ M1 48 g = 0 ∧ M1 49 g = 0 ∧ M1 50 g = 0) ∧ (¬ (g < 10 ∧ drpO (qzY (tpY M) v.toNat K H).2.1 M g) → M1 47 g = M 47 g ∧ M1 48 g = M 48 g ∧ M1 49 g = M 49 g ∧ M1 50 g = M 50 g)))) (t := tpY M) hTS G.c e10 e11 (fun h => ⟨fun _ => rfl, fun z => absurd z h⟩) (fun h z M1 f e1 => ⟨fun y => absurd h y, fun _ => ⟨upK (M (S + 1)) 0 64 0, upK (M (S + 2)) 0 10 (-1), fun h hh => upK_at (by omega), fun _ => .cells ⟨congrFun (f 0 (by omega) (by decide)) 15, congrFun (f 0 (by omega) (by decide)) 14⟩ fun c c1 c2 => f c (by omega) (by omega), fun y => absurd z y⟩⟩) (fun h z M1 f e1 e0 k1 k2 _ dr => ⟨fun y => absurd h y, fun _ => ⟨upK (M (S + 1)) 0 64 0, upK (M (S + 2)) 0 10 (-1), fun h hh => upK_at (by omega), fun y => absurd y z, fun _ => ⟨?_, fun c c1 c2 c3 c4 c5 c6 => f c (by omega) (by omega) (by omega) c3 c4 c5 c6, dr⟩⟩⟩)).mono fun r M1 q => ?_
    · rw [e0]
      exact ⟨rfl, rfl⟩
    · obtain ⟨⟨hx, -, u, -⟩, q1, q2⟩ := q
      have e10 : M 1 1 = M1 81 10 := G.2.1.trans (u 81 (by decide) 10).symm
      rw [e10] at q1 q2
      refine ⟨hx, fun h => by rw [q1 h]; exact V, fun h => ?_⟩
      obtain ⟨K, H, hH, b1, b2⟩ := q2 h
      rw [tpY_up u]
      refine ⟨K, H, hH, fun y => V.eq (b1 y) (.up u), fun y R hR hB => ?_⟩
      obtain ⟨⟨d1, d2⟩, dc, dg⟩ := b2 y
      obtain ⟨⟨a1, a2⟩, w, k⟩ := id V
      have e82 : ∀ j, M1 82 j = M 82 j := u 82 (by decide)
      have eK : tdP (qzY (tpY M) v.toNat K H).2.1 M1 10 = tdP (qzY (tpY M) v.toNat K H).2.1 M 10 := by
        unfold tdP
        rw [funext e82]
      rw [eK] at hB
      have hR2 : ∀ j, j < 36 → j ≠ 30 → R j = M 82 j := fun j h1 h2 => (hR j h1 h2).trans (e82 j)
      refine ⟨⟨?_, ?_⟩, ⟨fun g hg => ?_, ⟨?_, ?_, ?_⟩, ?_⟩, fun z => (k ?_).eq (fun i i1 i2 j _ => by rw [dc (51 + i) (by omega) (by omega) (by omega) (by omega) (by omega) (by omega)]) (by rw [dc 51 (by decide) (by decide) (by decide) (by decide) (by decide) (by decide)]) (by rw [dc 51 (by decide) (by decide) (by decide) (by decide) (by decide) (by decide)]) (by rw [dc 51 (by decide) (by decide) (by decide) (by decide) (by decide) (by decide)]) fun j _ _ => u 84 (by decide) j⟩
      · rw [d1, u 81 (by decide)]
        exact a1
      · rw [d2, u 81 (by decide)]
        exact a2
      · obtain ⟨w1, w2⟩ := w.1 g hg
        obtain ⟨g1, g2⟩ := dg g
        have hb := hB.2 g hg
        show nwG (M1 47) (M1 48) (M1 49) (M1 50) R g
        by_cases d : drpO (qzY (tpY M) v.toNat K H).2.1 M g
        · obtain ⟨x1, x2, x3, x4⟩ := g1 hg d
          refine ⟨fun z => ?_, fun _ => ⟨x1, x2⟩⟩
          exfalso
          rw [hb] at z
          unfold tdP at z
          rw [Bool.and_eq_true, Bool.not_eq_true', decide_eq_true hg, Bool.true_and] at z
          obtain ⟨z1, z2⟩ := z
          obtain ⟨⟨v1, v2, v3⟩, -⟩ := w1 z1
          obtain ⟨-, d⟩ := d
          have v1 : M 47 g = M 82 g := v1
          rw [v1] at d
          have d3 : (qzY (tpY M) v.toNat K H).2.1 (M 82 g).toNat = 1 := by
            unfold wl at d
            omega
          rw [d3] at z2
          exact absurd z2 (by decide)
        · obtain ⟨x1, x2, x3, x4⟩ := g2 fun z => d z.2
          have hbb : bit (R 30) g = bit (M 82 30) g := by
            rw [hb]
            unfold tdP
            by_cases t : bit (M 82 30) g = true
            · obtain ⟨⟨v1, v2, v3⟩, -⟩ := w1 t
              have v1 : M 47 g = M 82 g := v1
              have nK : ¬ (qzY (tpY M) v.toNat K H).2.1 (M 82 g).toNat = 1 := fun y => d ⟨by omega, by rw [v1]; unfold wl; omega⟩
              rw [decide_eq_false nK, Bool.and_false, Bool.not_false, Bool.and_true]
            · rw [Bool.eq_false_iff.mpr t, Bool.false_and]
          have w3 : nwG (M 47) (M 48) (M 49) (M 50) (M 82) g := ⟨w1, w2⟩
          unfold nwG at w3 ⊢
          rw [hbb, x1, x2, x3, x4, hR2 g (by omega) (by omega), hR2 (10 + g) (by omega) (by omega), hR2 (20 + g) (by omega) (by omega), hR2 31 (by decide) (by decide)]
          exact w3
      · rw [dc 46 (by decide) (by decide) (by decide) (by decide) (by decide) (by decide), hR2 32 (by decide) (by decide)]
        exact w.2.1.1
      · rw [dc 46 (by decide) (by decide) (by decide) (by decide) (by decide) (by decide), hR2 34 (by decide) (by decide)]
        exact w.2.1.2.1
      · rw [dc 46 (by decide) (by decide) (by decide) (by decide) (by decide) (by decide), hR2 35 (by decide) (by decide)]
        exact w.2.1.2.2
      · rw [hR2 34 (by decide) (by decide)]
        exact w.2.2
      · rw [u 81 (by decide)] at z
        exact z
  rcases id G.1.2.2.1 with ⟨e10, e11⟩ | ⟨e10, e11⟩
  · exact go 57 61 (.inl ⟨rfl, rfl⟩) e10 e11
  · exact go 61 57 (.inr ⟨rfl, rfl⟩) e10 e11
theorem msN_quarter {v : Int} (i0 : in32 v) (g : axG M) (V : MdN_quarter v M) : CA FF sc YF 59 m_X12_quarter [vr 81, vi v] M (fun r M1 => (∃ y, r = vi y) ∧ rN M1) := by
  obtain ⟨V1, V2⟩ := V
  have h30 := rO_82_30 g.1
  have go : ∀ K H : Nat → Int, (∀ h, h < 10 → H h = -1) → ((1 ≤ v ∧ v ≤ 120 ∧ v ≤ M 81 10) → ((qzY (tpY M) v.toNat K H).1 < 0 → rN M) ∧ (¬ (qzY (tpY M) v.toNat K H).1 < 0 → ∀ S : Nat → Int, (∀ j, j < 36 → j ≠ 30 → S j = M 82 j) → setB (S 30) (tdP (qzY (tpY M) v.toNat K H).2.1 M 10) → nwP M (M 81 8) S (M 81 61) (M 84))) → CA FF sc YF 59 m_X12_quarter [vr 81, vi v] M (fun r M1 => (∃ y, r = vi y) ∧ rN M1) := fun K H hH hK => by
    refine ((mf_quarter i0 g).and fun n => f_quarterM (K0 := K) (H0 := H) (Q := fun _ M1 => LoX M M1 → rN M1) (t := tpY M) (tpY_r M) hH (tpY_m g.1) (by omega) (fun h _ => V1 h) (fun h z M1 f f81 e l => ((hK h).1 z).eq (.lo l) (.cells ⟨f81 8 (by decide) (by decide) (by decide) (by decide), f81 61 (by decide) (by decide) (by decide) (by decide)⟩ (f 82 (by decide) (by decide) (by decide)) (f 84 (by decide) (by decide) (by decide)))) fun h z M1 f l => ?_).mono fun r M1 q => ⟨q.1.1, q.2 q.1.2.2.1⟩
    obtain ⟨f1, f2, f3, f4, f5, f6, f7⟩ := f
    unfold rN
    rw [f2 8 (by decide) (by decide) (by decide) (by decide), f2 61 (by decide) (by decide) (by decide) (by decide), f1 84 (by decide) (by decide) (by decide) (by decide) (by decide) (by decide)]
    exact nwP.eq ((hK h).2 z (M1 82) (fun j _ j2 => f6 j j2) f7) (.lo l) .rf .rf
  by_cases ok : 1 ≤ v ∧ v ≤ 120 ∧ v ≤ M 81 10
  · obtain ⟨K, H, hH, a1, a2⟩ := V2 ok
    exact go K H hH fun _ => ⟨a1, a2⟩
  · exact go (fun _ => 0) (fun _ => -1) (fun _ _ => rfl) fun z => absurd z ok
theorem csN_walk {h v : Int} (i0 : in32 h) (i1 : in32 v) (g : axG M) (V : rN M) : CA FF sc YF 59 m_X11_walk [vr 0, vi h, vi v] M (fun r M1 => (∃ x, r = vi x) ∧ rN M1) := ((cf_walk i0 i1 g).and fun n => f_walkC (Q := fun _ M1 => nwS M M1) (t := M 2) (fun _ => rfl) (fun _ => .cells ⟨rfl, rfl⟩ fun _ _ _ => rfl) (fun _ _ M1 f _ => .cells ⟨congrFun (f 0 (by decide) (by decide) (by decide) (by decide) (by decide) (by decide)) 15, congrFun (f 0 (by decide) (by decide) (by decide) (by decide) (by decide) (by decide)) 14⟩ fun c c1 c2 => f c (by omega) (by omega) (by omega) (by omega) (by omega) (by omega)) fun hk _ _ _ _ M1 f _ _ _ => .cells ⟨congrFun (f 0 (by decide) (by decide) (by decide) (by omega) (by decide) (by decide) (by decide) (by decide)) 15, congrFun (f 0 (by decide) (by decide) (by decide) (by omega) (by decide) (by decide) (by decide) (by decide)) 14⟩ fun c c1 c2 => f c (by omega) (by omega) (by omega) (by omega) (by omega) (by omega) (by omega) (by omega)).mono fun r M1 q => ⟨q.1.1, V.eq q.2 (.up q.1.2.2.1)⟩
theorem msN_walk {h v : Int} (i0 : in32 h) (i1 : in32 v) (g : axG M) (V : rN M) : CA FF sc YF 59 m_X12_walk [vr 81, vi h, vi v] M (fun r M1 => (∃ x, r = vi x) ∧ rN M1) := ((mf_walk i0 i1 g).and fun n => f_walkM (D0 := fun _ => 0) (Q := fun _ M1 => nwT M M1) (t := tpY M) (tpY_m g.1) (fun _ => .cells ⟨rfl, rfl⟩ rfl rfl) (fun _ _ M1 f _ _ => .cells ⟨f.2.1 8 (by decide) (by decide) (by decide) (by decide) (by decide) (by decide) (by decide) (by decide), f.2.1 61 (by decide) (by decide) (by decide) (by decide) (by decide) (by decide) (by decide) (by decide)⟩ (f.1 82 (by decide) (by decide) (by decide) (by decide) (by decide) (by decide) (by decide)) (f.1 84 (by decide) (by decide) (by decide) (by decide) (by decide) (by decide) (by decide))) fun _ _ _ _ _ _ M1 f _ _ _ => .cells ⟨f.2.1 8 (by decide) (by decide) (by decide) (by decide) (by decide) (by decide) (by decide) (by decide), f.2.1 61 (by decide) (by decide) (by decide) (by decide) (by decide) (by decide) (by decide) (by decide)⟩ (f.1 82 (by decide) (by decide) (by decide) (by decide) (by decide) (by decide) (by decide)) (f.1 84 (by decide) (by decide) (by decide) (by decide) (by decide) (by decide) (by decide))).mono fun r M1 q => ⟨q.1.1, V.eq (.lo q.1.2.2.1) q.2⟩
end NWQ
