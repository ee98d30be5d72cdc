/-! PART 7g: LAW of both sides leaves THE LAW alike -/
section RLS
variable {sc : List Int} {M M1 : MM}
theorem lwR.eq {L : Nat} {cl : CL} {C : Nat → Int} {c : Nat} (R : lwR M L cl C c) (h0 : M1 L 0 = M L 0) (h6 : M1 L 6 = M L 6) (hc : ∀ k, L + 1 ≤ k → k ≤ L + 5 → ∀ j, (j < 320) → M1 k j = M k j) : lwR M1 L cl C c := by
  obtain ⟨⟨l0, l6⟩, lc, lT, l16, l240⟩ := R
  exact ⟨⟨h0.trans l0, h6.trans l6⟩, lc.eq lT (fun k hk => ⟨hc _ (by omega) (by omega) k (by omega), hc _ (by omega) (by omega) k (by omega), hc _ (by omega) (by omega) k (by omega)⟩) (fun i hi => ⟨hc _ (by omega) (by omega) i (by omega), hc _ (by omega) (by omega) i (by omega)⟩) (fun _ _ => rfl), lT, l16, l240⟩
/-- between the two calls of LAW -/
def MdL_law (v : Int) (M1 : MM) : Prop := (¬ (1 ≤ v ∧ v ≤ 240 ∧ v ≤ M1 81 10) → rL M1) ∧ ((1 ≤ v ∧ v ≤ 240 ∧ v ≤ M1 81 10) → (∀ f, outL (tpY M1) v.toNat 0 (zsK q0L cl0L) = .inl f → rL M1) ∧ ∀ q cl, outL (tpY M1) v.toNat 0 (zsK q0L cl0L) = .inr (zsD q cl) → ∃ L : Nat, (L = 65 ∨ L = 73) ∧ M1 0 12 = (L : Int) + 1 ∧ lwR M1 L cl q.2 q.1)
theorem zsD_inj {q q' : LC} {cl cl' : CL} (h : (Sum.inr (zsD q cl) : LRs) = .inr (zsD q' cl')) : q = q' ∧ cl = cl' := by
  have h := Sum.inr.inj h
  exact ⟨congrArg (fun S : LSt => S.2.2.2.1) h, congrArg (fun S : LSt => S.2.2.2.2) h⟩
theorem csL_law {v : Int} (i0 : in32 v) (G : GdT M) (V : rL M) : CA FF sc YF 59 m_X11_law [vr 0, vi v] M (fun r M1 => (∃ x, r = vi x) ∧ MdL_law v M1) := by
  have go : ∀ L L2 : Nat, ((L = 65 ∧ L2 = 73) ∨ (L = 73 ∧ L2 = 65)) → M 0 12 = (L2 : Int) + 1 → M 0 13 = (L : Int) + 1 → CA FF sc YF 59 m_X11_law [vr 0, vi v] M (fun r M1 => (∃ x, r = vi x) ∧ MdL_law v M1) := fun L L2 hL e12 e13 => by
    refine ((cf_law i0 G.1).and fun n => f_lawC (Q := fun r M1 => (¬ (1 ≤ v ∧ v ≤ 240 ∧ v ≤ M 1 1) → M1 = M) ∧ ((1 ≤ v ∧ v ≤ 240 ∧ v ≤ M 1 1) → (∀ f, outL (tpY M) v.toNat 0 (zsK q0L cl0L) = .inl f → ∀ c, c ≠ 1 → c ≠ 22 → c ≠ 23 → (c < L ∨ L + 5 < c) → M1 c = M c) ∧ ∀ q cl, outL (tpY M) v.toNat 0 (zsK q0L cl0L) = .inr (zsD q cl) → ∃ L : Nat, (L = 65 ∨ L = 73) ∧ M1 0 12 = (L : Int) + 1 ∧ lwR M1 L cl q.2 q.1)) (t := tpY M) hL e12 e13 G.c (fun i => (tpY_r M i).1) (fun h => ⟨fun _ => rfl, fun z => absurd z h⟩) (fun h f M1 ho hf e1 => ⟨fun z => absurd h z, fun _ => ⟨fun _ _ => hf, fun q cl e => ?_⟩⟩) (fun h q cl M1 ho hf e1 e2 e3 => ⟨fun z => absurd h z, fun _ => ⟨fun f e => ?_, fun q' cl' e => ?_⟩⟩)).mono fun r M1 q => ?_
    · rw [ho] at e
      cases e
    · rw [ho] at e
      cases e
    · rw [ho] at e
      obtain ⟨a, b⟩ := zsD_inj e
      subst a b
      exact ⟨L, by omega, e2.1, e3⟩
    · obtain ⟨⟨hx, -, u, -⟩, q1, q2⟩ := q
      have e10 : M 1 1 = M1 81 10 := G.2.1.trans (u 81 (by decide) 10).symm
      rw [e10] at q1 q2
      refine ⟨hx, fun z => by rw [q1 z]; exact V, fun z => ?_⟩
      rw [tpY_up u]
      refine ⟨fun f e => ?_, (q2 z).2⟩
      have hf := (q2 z).1 f e
      obtain ⟨L3, q, cl, hL3, h12, R⟩ := id V
      have e3 : L3 = L2 := by omega
      subst e3
      exact ⟨L3, q, cl, hL3, by rw [hf 0 (by decide) (by decide) (by decide) (.inl (by omega))]; exact h12, R.eq (congrFun (hf L3 (by omega) (by omega) (by omega) (by omega)) 0) (congrFun (hf L3 (by omega) (by omega) (by omega) (by omega)) 6) (fun k k1 k2 j _ => congrFun (hf k (by omega) (by omega) (by omega) (by omega)) j) (u 81 (by decide) 19) fun k k1 _ j => u k (by omega) j⟩
  rcases id G.1.2.2.2 with ⟨e12, e13⟩ | ⟨e12, e13⟩
  · exact go 73 65 (.inr ⟨rfl, rfl⟩) e12 e13
  · exact go 65 73 (.inl ⟨rfl, rfl⟩) e12 e13
theorem msL_law {v : Int} (i0 : in32 v) (g : axG M) (G : MdL_law v M) : CA FF sc YF 59 m_X12_law [vr 81, vi v] M (fun r M1 => (∃ y, r = vi y) ∧ rL M1) := by
  obtain ⟨G1, G2⟩ := G
  refine ((mf_law i0 g).and fun n => f_lawM (Q := fun r M1 => LoX M M1 → rL M1) (t := tpY M) (tpY_m g.1) (fun h _ => G1 h) (fun h f M1 ho hf _ l => ?_) (fun h q cl M1 ho hf _ hm l => ?_)).mono fun r M1 q => ⟨q.1.1, q.2 q.1.2.2.1⟩
  · obtain ⟨L, q, cl, hL, h12, R⟩ := (G2 h).1 f ho
    exact ⟨L, q, cl, hL, (l 0 (by decide) 12 (.inr (by decide))).trans h12, R.eq (l L (by omega) 0 (.inr (by decide))) (l L (by omega) 6 (.inr (by decide))) (fun c c1 c2 j _ => l c (by omega) j (.inl (t65 c (by omega)).2)) (hf.2 19 (by decide)) fun c c1 c2 j => congrFun (hf.1 c (by omega) (by omega)) j⟩
  · obtain ⟨L, hL, h12, R⟩ := (G2 h).2 q cl ho
    exact ⟨L, q, cl, hL, (l 0 (by decide) 12 (.inr (by decide))).trans h12, R.eq (l L (by omega) 0 (.inr (by decide))) (l L (by omega) 6 (.inr (by decide))) (fun c c1 c2 j _ => l c (by omega) j (.inl (t65 c (by omega)).2)), hm, law_typed (by omega) ho⟩
end RLS
