/-! PART 7t2: the answers of check -/
section CKQ
variable {sc : List Int} {M M1 : MM}
def ckOk (M : MM) (v : Int) : Prop := 0 ≤ v ∧ v ≤ 10 ∧ 4 * v ≤ M 81 10
def MdQ_check (v x : Int) (M1 : MM) : Prop := MdA_check v x M1 ∧ (¬ ckOk M1 v → x = -2) ∧ (ckOk M1 v → x = ckV (tnV (tpY M1)) (ckF M1) v.toNat 0)
theorem csQ_check {v : Int} (i0 : in32 v) (G : GdA M) : CA FF sc YF 59 m_X11_check [vr 0, vi v] M (fun r M1 => ∃ x, r = vi x ∧ MdQ_check v x M1) := by
  have g11 := rO_1_1 G.1.1.1
  have w := G.2.2.1.2.1.1
  refine ((csA_check i0 G).and fun n => (PC.of (n := n) (cf_check i0 G.1.1)).and (f_checkC (t := tpY M) (Q := fun r M1 => (¬ (0 ≤ v ∧ v ≤ 10 ∧ 4 * v ≤ M 1 1) → r = vi (-2)) ∧ ((0 ≤ v ∧ v ≤ 10 ∧ 4 * v ≤ M 1 1) → r = vi (ckV (tnV (tpY M)) (M 48) v.toNat 0))) g11 (fun i => ?_) (fun h => ⟨fun _ => rfl, fun z => absurd z h⟩) (fun h x hx => ⟨fun z => absurd h z, fun _ => by rw [hx]⟩))).mono fun r M1 q => ?_
  · rw [G.1.t.c]
    have := tpY_r M i
    rw [bAnd255 ⟨by omega, by omega⟩]
    omega
  · obtain ⟨⟨x, hx, p⟩, ⟨-, -, u, -⟩, q1, q2⟩ := q
    have e10 : M 1 1 = M1 81 10 := G.1.2.1.1.trans (u 81 (by decide) 10).symm
    rw [e10] at q1 q2
    refine ⟨x, hx, p, fun z => ?_, fun z => ?_⟩
    · have := q1 z
      rw [hx] at this
      exact Sum.inl.inj this
    · have h := q2 z
      rw [hx] at h
      rw [Sum.inl.inj h, tpY_up u]
      obtain ⟨z1, z2, -⟩ := z
      refine ckV_F _ _ fun i _ hi => ?_
      have hi : i < 10 := by omega
      obtain ⟨w1, w2⟩ := w i hi
      unfold ckF
      rw [u 82 (by decide) 30, u 82 (by decide) (10 + i)]
      by_cases b : bit (M 82 30) i = true
      · rw [if_pos b]
        exact (w1 b).2.1
      · rw [if_neg b]
        exact (w2 (Bool.eq_false_iff.mpr b)).2
theorem msQ_check {v x : Int} (i0 : in32 v) (G : MdQ_check v x M) : CA FF sc YF 59 m_X12_check [vr 81, vi v] M (fun r M1 => ∃ y, r = vi y ∧ GdA M1 ∧ y = x) := by
  have ax : axG M := G.1.2.2.2.1
  have g10 := rO_81_10 ax.1
  refine ((msA_check i0 G.1).and fun n => f_checkM (t := tpY M) (Q := fun r M1 => r = vi x) g10 (tpY_m ax.1) (fun h => by rw [G.2.1 h]) (fun h y hy => by rw [hy, G.2.2 h])).mono fun r M1 q => ?_
  obtain ⟨⟨y, hy, p⟩, e⟩ := q
  exact ⟨x, e, p, rfl⟩
end CKQ
