/-! PART 7t1: the answers of tells, keep, goes -/
section SIQ
variable {sc : List Int} {M M1 : MM}
theorem csQ_tells {a0 : Int} (i0 : in32 a0) (G : GdA M) : CA FF sc YF 59 m_X11_tells [vr 0, vi a0] M (fun r M1 => ∃ x, r = vi x ∧ MdA_tells a0 x M1) := csA_tells i0 G
theorem msQ_tells {a0 x : Int} (i0 : in32 a0) (G : MdA_tells a0 x M) : CA FF sc YF 59 m_X12_tells [vr 81, vi a0] M (fun r M1 => ∃ y, r = vi y ∧ GdA M1 ∧ y = x) := ((mdS (w := mw_tells) G.1 (by decide +kernel) (mf_tells i0 G.1.1)).and fun n => (PC.of (n := n) (msN_tells i0 G.1.1 G.2.2.1)).and (PC.of (n := n) (mf_tells i0 G.1.1))).mono fun r M1 q => by
  obtain ⟨⟨y1, hy1, p⟩, ⟨y, hy, p3, e⟩, -, g, l, kp⟩ := q
  exact ⟨y, hy, ⟨p, G.2.1.lo l kp (by decide +kernel), p3, G.2.2.2.lo g l kp (by decide +kernel)⟩, e⟩
theorem csQ_keep (G : GdA M) : CA FF sc YF 59 m_X11_keep [vr 0] M (fun r M1 => ∃ x, r = vi x ∧ MdA_keep x M1) := csA_keep G
theorem msQ_keep {x : Int} (G : MdA_keep x M) : CA FF sc YF 59 m_X12_keep [vr 81] M (fun r M1 => ∃ y, r = vi y ∧ GdA M1 ∧ y = x) := ((mdS (w := mw_keep) G.1 (by decide +kernel) (mf_keep G.1.1)).and fun n => (PC.of (n := n) (msN_keep G.1.1 G.2.2.1)).and (PC.of (n := n) (mf_keep G.1.1))).mono fun r M1 q => by
  obtain ⟨⟨y1, hy1, p⟩, ⟨y, hy, p3, e⟩, -, g, l, kp⟩ := q
  exact ⟨y, hy, ⟨p, G.2.1.lo l kp (by decide +kernel), p3, G.2.2.2.lo g l kp (by decide +kernel)⟩, e⟩
theorem csQ_goes {a0 a1 : Int} (i0 : in32 a0) (i1 : in32 a1) (G : GdA M) : CA FF sc YF 59 m_X11_goes [vr 0, vi a0, vi a1] M (fun r M1 => ∃ x, r = vi x ∧ MdA_goes a0 a1 x M1) := csA_goes i0 i1 G
theorem msQ_goes {a0 a1 x : Int} (i0 : in32 a0) (i1 : in32 a1) (G : MdA_goes a0 a1 x M) : CA FF sc YF 59 m_X12_goes [vr 81, vi a0, vi a1] M (fun r M1 => ∃ y, r = vi y ∧ GdA M1 ∧ y = x) := ((mdS (w := mw_goes) G.1 (by decide +kernel) (mf_goes i0 i1 G.1.1)).and fun n => (PC.of (n := n) (msN_goes i0 i1 G.1.1 G.2.2.1)).and (PC.of (n := n) (mf_goes i0 i1 G.1.1))).mono fun r M1 q => by
  obtain ⟨⟨y1, hy1, p⟩, ⟨y, hy, p3, e⟩, -, g, l, kp⟩ := q
  exact ⟨y, hy, ⟨p, G.2.1.lo l kp (by decide +kernel), p3, G.2.2.2.lo g l kp (by decide +kernel)⟩, e⟩
end SIQ
