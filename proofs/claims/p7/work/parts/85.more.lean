/-! PART 85: a ledger and a watch on the fresh objects -/
theorem fit_lp (mk bl hs : Int) : ∀ (n : Nat) (v w : Int), v = 10 - n → 0 ≤ v → ∃ f : Int, (∀ {sc : List Int} {d : Nat} {Q : Vv → MM → Prop} (M : MM), FrC M → Q (vi f) M → WP FF sc YF (d + 2) m_X11_housesThatFit 4 [] [some (vr 0), some (vi mk), some (vi bl), some (vi hs), some (vi w), some (vi v)] M Q) ∧ (∀ {sc : List Int} {d : Nat} {Q : Vv → MM → Prop} (M : MM) (what : Int), FrM M → brA (decide (what ≠ 0)) (brA (decide (f ≠ 0)) (WP FF sc YF (d + 2) m_X12_ledger 66 [] [some (vr 81), some (vi mk), some (vi bl), some (vi hs), some (vi what), some (vi f), some (vi 0), some (vi 1)] M Q) (Q (vi (-2)) M)) (Q (vi f) M) → WP FF sc YF (d + 2) m_X12_ledger 26 [] [some (vr 81), some (vi mk), some (vi bl), some (vi hs), some (vi what), some (vi w), some (vi v), none] M Q) := by
  intro n
  induction n with
  | zero =>
    intro v w hv h0
    exact ⟨w, fun M hC k => rg_X11_housesThatFit_4 mk bl hs w v M (brT (by omega) k), fun M what hM k => rg_X12_ledger_26 mk bl hs what w v none M (brT (by omega) k)⟩
  | succ n ih =>
    intro v w hv h0
    have e := w32_n (a := v) (b := 1) (by omega) (by omega)
    by_cases hb : bAnd (bShr hs v) 1 = 1
    · by_cases hz : bAnd (bAnd (bXor 0 mk) (bXor bl (-1))) 255 ≠ 0
      · obtain ⟨f, h1, h2⟩ := ih (v + 1) w (by omega) (by omega)
        rw [← e] at h1 h2
        refine ⟨f, fun M hC k => rg_X11_housesThatFit_4 mk bl hs w v M (brF (by omega) (s_hasBit hs v M (brI0 (fun q => (q hb).elim) fun _ => gI h0 (by omega) (brT ?_ (h1 M hC k))))), fun M what hM k => rg_X12_ledger_26 mk bl hs what w v none M (brF (by omega) (s_has hs v M (brI0 (fun q => (q hb).elim) fun _ => gI h0 (by omega) (brT ?_ (h2 M what hM k)))))⟩
        · rw [hC.at 56 _ 0 (by decide) rfl]
          exact hz
        · rw [hM.at 87 _ 0 (by decide) rfl]
          exact hz
      · obtain ⟨f, h1, h2⟩ := ih (v + 1) (bOr w (bShl 1 v)) (by omega) (by omega)
        rw [← e] at h1 h2
        refine ⟨f, fun M hC k => rg_X11_housesThatFit_4 mk bl hs w v M (brF (by omega) (s_hasBit hs v M (brI0 (fun q => (q hb).elim) fun _ => gI h0 (by omega) (brF ?_ (h1 M hC k))))), fun M what hM k => rg_X12_ledger_26 mk bl hs what w v none M (brF (by omega) (s_has hs v M (brI0 (fun q => (q hb).elim) fun _ => gI h0 (by omega) (brF ?_ (h2 M what hM k)))))⟩
        · rw [hC.at 56 _ 0 (by decide) rfl]
          exact hz
        · rw [hM.at 87 _ 0 (by decide) rfl]
          exact hz
    · obtain ⟨f, h1, h2⟩ := ih (v + 1) w (by omega) (by omega)
      rw [← e] at h1 h2
      exact ⟨f, fun M hC k => rg_X11_housesThatFit_4 mk bl hs w v M (brF (by omega) (s_hasBit hs v M (brI0 (fun _ => h1 M hC k) fun q => (hb q).elim))), fun M what hM k => rg_X12_ledger_26 mk bl hs what w v none M (brF (by omega) (s_has hs v M (brI0 (fun _ => h2 M what hM k) fun q => (hb q).elim)))⟩
section MKS
variable {sc : List Int} {d : Nat} {Q : Vv → MM → Prop}
theorem lp_mark {M : MM} (hC : FrC M) (f c : Int) (k : Q (vi 0) M) : ∀ (n : Nat) (v u : Int) (o6 o7 : Option Vv), v = 8 - n → 0 ≤ v → (0 < v → u ≤ mMax 0 (w32 (c - 0))) → WP FF sc YF (d + 2) m_X11_markThatTells 9 [] [some (vr 0), some (vi f), some (vi c), some (vi 0), some (vi u), some (vi v), o6, o7] M Q := by
  intro n
  induction n with
  | zero =>
    intro v u o6 o7 hv h0 hu
    exact rg_X11_markThatTells_9 f c 0 u v o6 o7 M (brT (by omega) k)
  | succ n ih =>
    intro v u o6 o7 hv h0 hu
    refine rg_X11_markThatTells_9 f c 0 u v o6 o7 M (brF (by omega) ?_)
    have lp : ∀ (m : Nat) (w : Int), w = 10 - m → 0 ≤ w → WP FF sc YF (d + 2) m_X11_markThatTells 16 [] [some (vr 0), some (vi f), some (vi c), some (vi 0), some (vi u), some (vi v), some (vi 0), some (vi w)] M Q := by
      intro m
      induction m with
      | zero =>
        intro w hw g0
        refine rg_X11_markThatTells_16 f c 0 u v 0 w M (brT (by omega) (brP (fun hle => ?_) fun hle => ?_))
        · rw [w32_n (a := v) (b := 1) (by omega) (by omega)]
          exact ih (v + 1) _ _ _ (by omega) (by omega) fun _ => hle
        · obtain rfl : v = 0 := by
            rcases Int.lt_or_le 0 v with q | q
            · exact (hle (hu q)).elim
            · omega
          rw [w32_n (a := 0) (b := 1) (by omega) (by omega)]
          exact ih (0 + 1) _ _ _ (by omega) (by omega) fun _ => Int.le_refl _
      | succ m im =>
        intro w hw g0
        have h := im (w + 1) (by omega) (by omega)
        rw [← w32_n (a := w) (b := 1) (by omega) (by omega)] at h
        exact rg_X11_markThatTells_16 f c 0 u v 0 w M (brF (by omega) (s_hasBit f w M (brI0 (fun _ => h) fun _ => gI g0 (by omega) (s_hasBit0 v M (hC.at 56 _ 0 (by decide) rfl) h))))
    exact lp 10 0 (by omega) (by omega)
theorem s_mark {M : MM} (hC : FrC M) (f : Int) (k : Q (vi 0) M) : CA FF sc YF (d + 2) m_X11_markThatTells [vr 0, vi f] M Q := ca_X11_markThatTells f M (ca_J6_bitCount_0f7a4 f M (lp_mark hC f _ k 8 0 11 none none (by omega) (by omega) fun q => by omega))
theorem s_max {F : Nat → Nat → Nat} {Y : YY} (a b : Int) (M : MM) (k : Q (vi (if a ≤ b then b else a)) M) : CA F sc Y (d + 1) m_X12_max [vi a, vi b] M Q := by
  refine ca_X12_max a b M (brP (fun h => ?_) fun h => ?_)
  · rw [if_pos h] at k
    exact k
  · rw [if_neg h] at k
    exact k
end MKS
theorem s_greater (f : Int) : ∃ g : Int, ∀ {sc : List Int} {d : Nat} {Q : Vv → MM → Prop} (M : MM) (mark : Int), FrM M → Q (vi g) M → CA FF sc YF (d + 2) m_X12_greaterBy [vr 81, vi f, vi mark] M Q := by
  obtain ⟨b, hb⟩ := s_bits f
  refine ⟨if 0 ≤ w32 (b - 0) then w32 (b - 0) else 0, fun {sc d Q} M mark hM k => ca_X12_greaterBy f mark M ?_⟩
  have lp : ∀ (n : Nat) (v : Int), v = 10 - n → 0 ≤ v → WP FF sc YF (d + 2) m_X12_greaterBy 4 [] [some (vr 81), some (vi f), some (vi mark), some (vi 0), some (vi v)] M Q := by
    intro n
    induction n with
    | zero =>
      intro v hv h0
      exact rg_X12_greaterBy_4 f mark 0 v M (brT (by omega) (hb M (s_max 0 _ M k)))
    | succ n ih =>
      intro v hv h0
      have h := ih (v + 1) (by omega) (by omega)
      rw [← w32_n (a := v) (b := 1) (by omega) (by omega)] at h
      exact rg_X12_greaterBy_4 f mark 0 v M (brF (by omega) (s_has f v M (brI0 (fun _ => h) fun _ => gI h0 (by omega) (s_has0 mark M (hM.at 87 _ 0 (by decide) rfl) h))))
  exact lp 10 0 (by omega) (by omega)
section LDS
variable {sc : List Int} {d : Nat} {Q : Vv → MM → Prop}
theorem lp_ledger {M : MM} (hM : FrM M) (mk bl hs what f : Int) (k : Q (vi 0) M) : ∀ (n : Nat) (v : Int), v = 8 - n → 0 ≤ v → WP FF sc YF (d + 3) m_X12_ledger 66 [] [some (vr 81), some (vi mk), some (vi bl), some (vi hs), some (vi what), some (vi f), some (vi 0), some (vi v)] M Q := by
  obtain ⟨g, hg⟩ := s_greater f
  intro n
  induction n with
  | zero =>
    intro v hv h0
    exact rg_X12_ledger_66 mk bl hs what f 0 v M (brT (by omega) k)
  | succ n ih =>
    intro v hv h0
    have h := ih (v + 1) (by omega) (by omega)
    rw [← w32_n (a := v) (b := 1) (by omega) (by omega)] at h
    exact rg_X12_ledger_66 mk bl hs what f 0 v M (brF (by omega) (hg M v hM (hg M 0 hM (brT (Int.le_refl g) h))))
theorem p_ledger (a0 a1 a2 a3 : Int) : in32 a0 → in32 a1 → in32 a2 → in32 a3 → PrI sc m_X11_ledger m_X12_ledger [vi a0, vi a1, vi a2, vi a3] := fun _ _ _ _ M hC _ _ => by
  by_cases h : (0 ≤ a0 ∧ a0 ≤ 255) ∧ (0 ≤ a1 ∧ a1 ≤ 255) ∧ (0 ≤ a2 ∧ a2 ≤ 1023) ∧ (0 ≤ a3 ∧ a3 ≤ 1)
  · obtain ⟨f, h1, h2⟩ := fit_lp a0 a1 a2 10 0 0 (by omega) (by omega)
    have hx : ∀ {q : Prop} (x : Int), (∀ M : MM, FrC M → brA (decide (a3 ≠ 0)) (brA (decide (f ≠ 0)) (CA FF sc YF 58 m_X11_markThatTells [vr 0, vi f] M (cI fun r12 M11 => vi r12 = vi x ∧ Up M M11)) (vi (-2) = vi x ∧ Up M M)) (vi f = vi x ∧ Up M M)) → (∀ M1 : MM, FrM M1 → brA (decide (a3 ≠ 0)) (brA (decide (f ≠ 0)) (WP FF sc YF 59 m_X12_ledger 66 [] [some (vr 81), some (vi a0), some (vi a1), some (vi a2), some (vi a3), some (vi f), some (vi 0), some (vi 1)] M1 (fun r _ => r = vi x)) (vi (-2) = vi x)) (vi f = vi x)) → ∃ x : Int, CA FF sc YF 59 m_X11_ledger (vr 0 :: [vi a0, vi a1, vi a2, vi a3]) M (fun r M1 => r = vi x ∧ Up M M1) ∧ ∀ M1, FrM M1 → CA FF sc YF 59 m_X12_ledger (vr 81 :: [vi a0, vi a1, vi a2, vi a3]) M1 (fun r _ => r = vi x) := fun x k1 k2 => ⟨x, ca_X11_ledger a0 a1 a2 a3 M (s_isIn a0 0 255 M (brI0 (fun q => (q h.1).elim) fun _ => s_isIn a1 0 255 M (brI1 (fun _ => s_isIn a2 0 1023 M (brI0 (fun q => (q h.2.2.1).elim) fun _ => s_isIn a3 0 1 M (brI1 (fun _ => ca_X11_housesThatFit a0 a1 a2 M (h1 M hC (k1 M hC))) fun q => (q h.2.2.2).elim))) fun q => (q h.2.1).elim))), fun M1 hM => ca_X12_ledger a0 a1 a2 a3 M1 (s_in a0 0 255 M1 (brI0 (fun q => (q h.1).elim) fun _ => s_in a1 0 255 M1 (brI0 (fun q => (q h.2.1).elim) fun _ => s_in a2 0 1023 M1 (brI0 (fun q => (q h.2.2.1).elim) fun _ => s_in a3 0 1 M1 (brI1 (fun _ => h2 M1 a3 hM (k2 M1 hM)) fun q => (q h.2.2.2).elim)))))⟩
    by_cases h3 : a3 = 0
    · exact hx (q := True) f (fun M hC => brF (fun q => q h3) ⟨rfl, up0⟩) fun M1 hM => brF (fun q => q h3) rfl
    · by_cases hf : f = 0
      · exact hx (q := True) (-2) (fun M hC => brT h3 (brF (fun q => q hf) ⟨rfl, up0⟩)) fun M1 hM => brT h3 (brF (fun q => q hf) rfl)
      · exact hx (q := True) 0 (fun M hC => brT h3 (brT hf (s_mark hC f (And.intro rfl up0)))) fun M1 hM => brT h3 (brT hf (lp_ledger hM a0 a1 a2 a3 f rfl 7 1 (by omega) (by omega)))
  · refine ⟨-1, ca_X11_ledger a0 a1 a2 a3 M (s_isIn a0 0 255 M (brI0 (fun _ => ⟨rfl, up0⟩) fun q0 => s_isIn a1 0 255 M (brI1 (fun q1 => s_isIn a2 0 1023 M (brI0 (fun _ => ⟨rfl, up0⟩) fun q2 => s_isIn a3 0 1 M (brI1 (fun q3 => (h ⟨q0, q1, q2, q3⟩).elim) fun _ => ⟨rfl, up0⟩))) fun _ => ⟨rfl, up0⟩))), fun M1 hM => ca_X12_ledger a0 a1 a2 a3 M1 (s_in a0 0 255 M1 (brI0 (fun _ => rfl) fun q0 => s_in a1 0 255 M1 (brI0 (fun _ => rfl) fun q1 => s_in a2 0 1023 M1 (brI0 (fun _ => rfl) fun q2 => s_in a3 0 1 M1 (brI1 (fun q3 => (h ⟨q0, q1, q2, q3⟩).elim) fun _ => rfl)))))⟩
/-- what a watch may write -/
def Wz (M M' : MM) : Prop := (∀ k j, k ≠ 34 → k ≠ 35 → M' k j = M k j) ∧ (∀ j, M' 34 j = 0) ∧ ∀ j, M' 35 j = 0
theorem Wz.up {M M' : MM} (h : Wz M M') : Up M M' := fun k hk j => h.1 k j (by omega) (by omega)
theorem s_sees (a b : Int) (M : MM) (k0 : Q (vi 0) M) (k1 : Q (vi 1) M) : CA FF sc YF (d + 1) m_X9_sees [vr 57, vi a, vi b] M Q := ca_X9_sees a b M (brP (fun _ => k0) fun h1 => brP (fun _ => k0) fun h2 => brP (fun _ => k0) fun h3 => brP (fun h4 => gI (by omega) (by omega) (brP (fun _ => k0) fun _ => k1)) fun _ => k0)
theorem lp_visits14 {M M' : MM} (hC : FrC M) (hw : Wz M M') (k : Q (vi 0) M') : ∀ (n : Nat) (v : Int), v = 10 - n → 0 ≤ v → WP FF sc YF (d + 1) m_X3_countVisits 14 [] [some (vr 32), some (vr 57), some (vr 3), some (vi v), none, none] M' Q := by
  intro n
  induction n with
  | zero =>
    intro v hv h0
    exact rg_X3_countVisits_14 v none none M' (brT (by omega) k)
  | succ n ih =>
    intro v hv h0
    have h := ih (v + 1) (by omega) (by omega)
    rw [← w32_n (a := v) (b := 1) (by omega) (by omega)] at h
    exact rg_X3_countVisits_14 v none none M' (brF (by omega) (gI h0 (by omega) (brT ((hw.1 59 _ (by decide) (by decide)).trans (f_59 hC ⟨h0, by omega⟩)) h)))
theorem lp_visits2 {M : MM} (hC : FrC M) (k : ∀ M', Wz M M' → Q (vi 0) M') : ∀ (n : Nat) (v : Int) (M' : MM), v = 64 - n → 0 ≤ v → Wz M M' → WP FF sc YF (d + 1) m_X3_countVisits 2 [] [some (vr 32), some (vr 57), some (vr 3), some (vi v), none, none] M' Q := by
  intro n
  induction n with
  | zero =>
    intro v M' hv h0 hw
    exact rg_X3_countVisits_2 v none none M' (brT (by omega) (lp_visits14 hC hw (k M' hw) 10 0 (by omega) (by omega)))
  | succ n ih =>
    intro v M' hv h0 hw
    refine rg_X3_countVisits_2 v none none M' (brF (by omega) (gI h0 (by omega) ?_))
    rw [w32_n (a := v) (b := 1) (by omega) (by omega)]
    refine ih (v + 1) _ (by omega) (by omega) ⟨fun k j h1 h2 => (stN h2).trans (hw.1 k j h1 h2), fun j => (stN (by decide)).trans (hw.2.1 j), fun j => ?_⟩
    rw [stM_at]
    split
    · rfl
    · exact hw.2.2 j
theorem lp_look25 {M : MM} (v : Int) (hv : 0 ≤ v ∧ v < 64) (k : ∀ M', Wz M M' → WP FF sc YF (d + 2) m_X3_lookOut 6 [] [some (vr 32), some (vr 57), some (vr 3), some (vi (v + 1)), some (vi 64)] M' Q) : ∀ (n : Nat) (w : Int) (M' : MM), w = 64 - n → 0 ≤ w → Wz M M' → WP FF sc YF (d + 2) m_X3_lookOut 25 [] [some (vr 32), some (vr 57), some (vr 3), some (vi v), some (vi w)] M' Q := by
  intro n
  induction n with
  | zero =>
    intro w M' hw h0 hz
    refine rg_X3_lookOut_25 v w M' (brT (by omega) ?_)
    rw [w32_n (a := v) (b := 1) (by omega) (by omega), show w = 64 by omega]
    exact k M' hz
  | succ n ih =>
    intro w M' hw h0 hz
    have e := w32_n (a := w) (b := 1) (by omega) (by omega)
    have h := ih (w + 1) M' (by omega) (by omega) hz
    have h2 := ih (w + 1) (stM M' 34 v.toNat (w32 (M' 34 v.toNat + M' 35 w.toNat))) (by omega) (by omega) ⟨fun k j h1 h2 => (stN h1).trans (hz.1 k j h1 h2), fun j => (by
      rw [stM_at, hz.2.1, hz.2.2]
      split
      · rfl
      · exact hz.2.1 j), fun j => (stN (by decide)).trans (hz.2.2 j)⟩
    rw [← e] at h h2
    exact rg_X3_lookOut_25 v w M' (brF (by omega) (s_sees v w M' h (gI hv.1 hv.2 (gI h0 (by omega) (gI hv.1 hv.2 h2)))))
theorem lp_most {M : MM} (k : ∀ M', Up M M' → M' 32 1 = 0 → M' 32 2 = 0 → Q (vi 0) M') : ∀ (n : Nat) (v : Int) (M' : MM), v = 64 - n → 0 ≤ v → Up M M' → (∀ j, M' 34 j = 0) → (v = 0 → M' 32 1 = -1) → (0 < v → M' 32 1 = 0 ∧ M' 32 2 = 0) → WP FF sc YF (d + 1) m_X3_chooseMost 8 [] [some (vr 32), some (vi v)] M' Q := by
  intro n
  induction n with
  | zero =>
    intro v M' hv h0 hu hz h1 h2
    exact rg_X3_chooseMost_8 v M' (brT (by omega) (k M' hu (h2 (by omega)).1 (h2 (by omega)).2))
  | succ n ih =>
    intro v M' hv h0 hu hz h1 h2
    refine rg_X3_chooseMost_8 v M' (brF (by omega) (gI h0 (by omega) ?_))
    rw [hz, w32_n (a := v) (b := 1) (by omega) (by omega)]
    by_cases hv0 : v = 0
    · refine brF (by rw [h1 hv0]; decide) (gI h0 (by omega) (ih (v + 1) _ (by omega) (by omega) (hu.tr (up_st (by decide) (up_st (by decide) up0))) (fun j => ?_) (fun q => by omega) fun _ => ⟨?_, ?_⟩))
      · rw [stN (by decide), stN (by decide)]
        exact hz j
      · rw [stM_at, if_neg (by decide), stM_at, if_pos ⟨rfl, rfl⟩]
      · rw [stM_at, if_pos ⟨rfl, rfl⟩]
        exact hv0
    · obtain ⟨g1, g2⟩ := h2 (by omega)
      exact brT (by omega) (ih (v + 1) M' (by omega) (by omega) hu hz (fun q => by omega) fun _ => ⟨g1, g2⟩)
theorem lp_look6 {M : MM} (hC : FrC M) (k : ∀ M', Up M M' → M' 32 1 = 0 → M' 32 2 = 0 → Q (vi 0) M') : ∀ (n : Nat) (v : Int) (M' : MM) (o : Option Vv), v = 64 - n → 0 ≤ v → Wz M M' → WP FF sc YF (d + 2) m_X3_lookOut 6 [] [some (vr 32), some (vr 57), some (vr 3), some (vi v), o] M' Q := by
  intro n
  induction n with
  | zero =>
    intro v M' o hv h0 hw
    refine rg_X3_lookOut_6 v o M' (brT (by omega) (ca_X3_chooseMost M' (lp_most (Q := fun _ M1 => Q (vi 0) M1) (M := M) k 64 0 _ (by omega) (by omega) (hw.up.tr (up_st (k := 32) (by decide) (up_st (k := 32) (by decide) up0))) (fun j => ?_) (fun _ => ?_) fun q => by omega)))
    · rw [stN (by decide), stN (by decide)]
      exact hw.2.1 j
    · rw [stM_at, if_neg (by decide), stM_at, if_pos ⟨rfl, rfl⟩]
  | succ n ih =>
    intro v M' o hv h0 hw
    refine rg_X3_lookOut_6 v o M' (brF (by omega) (gI h0 (by omega) (ca_X9_at v _ (brF (by omega) (brF (by omega) (gI h0 (by omega) ?_))))))
    rw [show stM M' 34 v.toNat (-1) 58 v.toNat = 0 from (stN (by decide)).trans ((hw.1 58 _ (by decide) (by decide)).trans (hC.at 58 _ 0 (by decide) rfl))]
    have h : WP FF sc YF (d + 2) m_X3_lookOut 25 [] [some (vr 32), some (vr 57), some (vr 3), some (vi v), some (vi 0)] (stM (stM M' 34 v.toNat (-1)) 34 v.toNat 0) Q := lp_look25 v ⟨h0, by omega⟩ (fun M2 hz => ih (v + 1) M2 _ (by omega) (by omega) hz) 64 0 _ (by omega) (by omega) ⟨fun k j h1 h2 => (stN h1).trans ((stN h1).trans (hw.1 k j h1 h2)), fun j => (by
      rw [stM_at]
      split
      · rfl
      · rename_i q
        rw [stM_at, if_neg (fun g => q g)]
        exact hw.2.1 j), fun j => (stN (by decide)).trans ((stN (by decide)).trans (hw.2.2 j))⟩
    exact gI h0 (show v < 64 by omega) h
theorem lp_from {M : MM} (hM : FrM M) (a : Int) (k : Q (vi 0) M) : ∀ (n : Nat) (v : Int), v = 10 - n → 0 ≤ v → WP FF sc YF (d + 3) m_X12_watchedFrom 4 [] [some (vr 81), some (vi a), some (vi 0), some (vi v), none, none] M Q := by
  intro n
  induction n with
  | zero =>
    intro v hv h0
    exact rg_X12_watchedFrom_4 a 0 v none none M (brT (by omega) k)
  | succ n ih =>
    intro v hv h0
    have h := ih (v + 1) (by omega) (by omega)
    rw [← w32_n (a := v) (b := 1) (by omega) (by omega)] at h
    exact rg_X12_watchedFrom_4 a 0 v none none M (brF (by omega) (s_hasSpot_m hM v h))
theorem lp_watch {M : MM} (hM : FrM M) (a : Int) (k : Q (vi 0) M) : ∀ (n : Nat) (v x y : Int) (o : Option Vv), v = 64 - n → 0 ≤ v → (v = 0 → y = -1) → (0 < v → x = 0 ∧ y = 0) → WP FF sc YF (d + 4) m_X12_watch 13 [] [some (vr 81), some (vi a), some (vi x), some (vi y), some (vi v), o] M Q := by
  intro n
  induction n with
  | zero =>
    intro v x y o hv h0 h1 h2
    obtain ⟨rfl, rfl⟩ := h2 (by omega)
    exact rg_X12_watch_13 a 0 0 v o M (brT (by omega) (brP (fun _ => k) fun _ => brT (by decide) k))
  | succ n ih =>
    intro v x y o hv h0 h1 h2
    refine rg_X12_watch_13 a x y v o M (brF (by omega) (gI h0 (by omega) (brT (hM.at 85 _ 0 (by decide) rfl) (ca_X12_watchedFrom v M (lp_from hM v ?_ 10 0 (by omega) (by omega))))))
    have e := w32_n (a := v) (b := 1) (by omega) (by omega)
    by_cases hv0 : v = 0
    · have h := ih (v + 1) v 0 (some (vi 0)) (by omega) (by omega) (fun q => by omega) fun _ => ⟨hv0, rfl⟩
      rw [← e] at h
      exact brT (p := y < 0) (by rw [h1 hv0]; decide) h
    · have h := ih (v + 1) x y (some (vi 0)) (by omega) (by omega) (fun q => by omega) fun _ => h2 (by omega)
      rw [← e] at h
      exact brF (p := y < 0) (by rw [(h2 (by omega)).2]; decide) h
theorem p_watch (a0 : Int) : in32 a0 → PrI sc m_X11_watch m_X12_watch [vi a0] := fun _ M hC _ _ => by
  by_cases h : 0 ≤ a0 ∧ a0 ≤ 1
  · refine ⟨0, ca_X11_watch a0 M (s_isIn a0 0 1 M (brI1 (fun _ => ?_) fun q => (q h).elim)), fun M1 hM => ca_X12_watch a0 M1 (s_in a0 0 1 M1 (brI1 (fun _ => lp_watch hM a0 rfl 64 0 _ _ _ (by omega) (by omega) (fun _ => rfl) fun q => by omega) fun q => (q h).elim))⟩
    rw [f_10 hC]
    have z : Wz M M := ⟨fun _ _ _ _ => rfl, fun j => hC.at 34 j 0 (by decide) rfl, fun j => hC.at 35 j 0 (by decide) rfl⟩
    exact gA (by decide) (ca_X3_lookOut M (ca_X3_countVisits M (lp_visits2 hC (fun M' hw => lp_look6 hC (fun M2 u e1 e2 => (brT (by rw [e2]; decide) (brP (fun _ => ⟨congrArg vi e1, u⟩) fun _ => ⟨congrArg vi e2, u⟩))) 64 0 M' none (by omega) (by omega) hw) 64 0 M (by omega) (by omega) z)))
  · exact ⟨-1, ca_X11_watch a0 M (s_isIn a0 0 1 M (brI1 (fun q => (h q).elim) fun _ => ⟨rfl, up0⟩)), fun M1 hM => ca_X12_watch a0 M1 (s_in a0 0 1 M1 (brI1 (fun q => (h q).elim) fun _ => rfl))⟩
end LDS
