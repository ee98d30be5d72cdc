/-! PART 45: by hand: feels, mayHaunt, byLaw; what stands fast about the codes -/
theorem ax_slA {T : ai_T} {k j : Nat} (h : ai_un T k = true) : ai_sl T k j = 64 * k := by
  unfold ai_sl
  rw [h]
def axJ (M : MM) : Prop := ∀ q : Nat, (q : Int) < M 81 19 → (∃ a b : Nat, M 100 q = a ∧ M 101 q = b ∧ cvG (M 97) a b) ∧ (M 98 q ≠ 109 → ∃ a b : Nat, M 99 q = a ∧ M 100 q = b ∧ cvG (M 97) a b)
theorem wJ_bit {w s : Nat} (h : w &&& ax_wJ = 0) (hs : ax_wJ.testBit s = true) : w.testBit s = false := by
  have h1 : (w &&& ax_wJ).testBit s = false := by rw [h]; exact Nat.zero_testBit s
  rw [Nat.testBit_and, hs, Bool.and_true] at h1
  exact h1
theorem wJ_same {w : Nat} {M M' : MM} (h : w &&& ax_wJ = 0) (f : ai_Fr ax_T w M M') : M' 81 19 = M 81 19 ∧ M' 97 = M 97 ∧ M' 98 = M 98 ∧ M' 99 = M 99 ∧ M' 100 = M 100 ∧ M' 101 = M 101 := by
  refine ⟨ax_frO f rfl (wJ_bit h (by decide +kernel)), ?_, ?_, ?_, ?_, ?_⟩
  · exact funext fun j => ax_frA f rfl (wJ_bit h (by decide +kernel)) j
  · exact funext fun j => ax_frA f rfl (wJ_bit h (by decide +kernel)) j
  · exact funext fun j => ax_frA f rfl (wJ_bit h (by decide +kernel)) j
  · exact funext fun j => ax_frA f rfl (wJ_bit h (by decide +kernel)) j
  · exact funext fun j => ax_frA f rfl (wJ_bit h (by decide +kernel)) j
theorem axJ_eq {M M' : MM} (h : M' 81 19 = M 81 19 ∧ M' 97 = M 97 ∧ M' 98 = M 98 ∧ M' 99 = M 99 ∧ M' 100 = M 100 ∧ M' 101 = M 101) (j : axJ M) : axJ M' := by
  obtain ⟨e1, e2, e3, e4, e5, e6⟩ := h
  intro q hq
  rw [e1] at hq
  rw [e2, e3, e4, e5, e6]
  exact j q hq
theorem axJ_fr : ∀ w M M', w &&& ax_wJ = 0 → ai_Fr ax_T w M M' → axJ M → axJ M' := fun w M M' h f j => axJ_eq (wJ_same h f) j
def Fh (h night : Int) (j : Nat) : Int := if j = 8 then night.tmod 7 else if j = 7 then night else if j = 0 then h else 0
def mhv (cl : Int) (L C H T Fc : Nat → Int) (n q : Nat) (any : Int) : Int := match n with
  | 0 => 0
  | n + 1 => if cl ≤ (q : Int) then (if any ≠ 0 then 0 else 1) else if L q = 109 then (if ev C Fc 261 (H q).toNat (T q).toNat [] ≠ 1 then mhv cl L C H T Fc n (q + 1) 1 else 1) else mhv cl L C H T Fc n (q + 1) any
theorem mhv_succ (cl : Int) (L C H T Fc : Nat → Int) (n q : Nat) (any : Int) : mhv cl L C H T Fc (n + 1) q any = (if cl ≤ (q : Int) then (if any ≠ 0 then 0 else 1) else if L q = 109 then (if ev C Fc 261 (H q).toNat (T q).toNat [] ≠ 1 then mhv cl L C H T Fc n (q + 1) 1 else 1) else mhv cl L C H T Fc n (q + 1) any) := rfl
/-- may a house haunt: by the codes alone -/
def mh (M : MM) (h night : Int) : Int := mhv (M 81 19) (M 98) (M 97) (M 100) (M 101) (Fh h night) 17 0 0
def clipv (hi v : Int) : Int := if 0 ≤ v then (if v ≤ hi then v else hi) else 0
def blv (cl : Int) (L C F H T Fc : Nat → Int) (le hi : Int) (n q : Nat) : Int := match n with
  | 0 => 0
  | n + 1 => if cl ≤ (q : Int) then 0 else if L q ≠ le then blv cl L C F H T Fc le hi n (q + 1) else if ev C Fc 261 (H q).toNat (T q).toNat [] = 1 then clipv hi (ev C Fc 261 (F q).toNat (H q).toNat []) else blv cl L C F H T Fc le hi n (q + 1)
theorem blv_succ (cl : Int) (L C F H T Fc : Nat → Int) (le hi : Int) (n q : Nat) : blv cl L C F H T Fc le hi (n + 1) q = (if cl ≤ (q : Int) then 0 else if L q ≠ le then blv cl L C F H T Fc le hi n (q + 1) else if ev C Fc 261 (H q).toNat (T q).toNat [] = 1 then clipv hi (ev C Fc 261 (F q).toNat (H q).toNat []) else blv cl L C F H T Fc le hi n (q + 1)) := rfl
def bl (M : MM) (Fc : Nat → Int) (le hi : Int) : Int := blv (M 81 19) (M 98) (M 97) (M 99) (M 100) (M 101) Fc le hi 17 0
section LWS
variable {sc : List Int} {d : Nat} {Q : Vv → MM → Prop}
theorem feels_wp (h night : Int) (hh : in32 h) (hn : in32 night) (M0 : MM) (k : ∀ M1, ai_GI ax_T M1 → (∀ c, c ≠ 109 → ∀ j, M1 c j = M0 c j) → (∀ j, j < 10 → M1 109 j = Fh h night j) → Q (vi 0) M1) : ∀ (n i : Nat) (M : MM), 10 - i < n → i ≤ 10 → ai_GI ax_T M → (∀ c, c ≠ 109 → ∀ j, M c j = M0 c j) → (∀ j, j < i → M 109 j = 0) → WP FF sc YF (d + 1) m_X12_feels 2 [] [some (vr 81), some (vi h), some (vi night), some (vi (i : Int))] M Q := by
  intro n
  induction n with
  | zero => intro i M h1; omega
  | succ n ih =>
    intro i M h1 h2 G hM hz
    have e1 : ∀ _ : Unit, w32 ((i : Int) + 1) = ((i + 1 : Nat) : Int) := fun _ => by rw [ew32 (by omega) (by omega)]; rfl
    have e2 : ((i : Int)).toNat = i := by omega
    refine rg_X12_feels_2 h night _ M (brP (fun g => ?_) fun g => gI (by omega) (by omega) ?_)
    · refine k _ (sA_109 (sA_109 (sA_109 G hh.1 (by have := hh.2; omega)) hn.1 (by have := hn.2; omega)) ?_ ?_) (fun c hc j => by rw [stN hc, stN hc, stN hc]; exact hM c hc j) fun j hj => ?_
      · exact (in32_tmod 7 hn).1
      · have := (in32_tmod 7 hn).2
        omega
      · unfold Fh
        rw [stM_at, stM_at, stM_at]
        have hz' := hz j (by omega)
        by_cases q8 : j = 8
        · rw [if_pos ⟨rfl, q8⟩, if_pos q8]
        · rw [if_neg (fun q => q8 q.2), if_neg q8]
          by_cases q7 : j = 7
          · rw [if_pos ⟨rfl, q7⟩, if_pos q7]
          · rw [if_neg (fun q => q7 q.2), if_neg q7]
            by_cases q0 : j = 0
            · rw [if_pos ⟨rfl, q0⟩, if_pos q0]
            · rw [if_neg (fun q => q0 q.2), if_neg q0]
              exact hz'
    · rw [e1 (), e2]
      refine ih (i + 1) _ (by omega) (by omega) (sA_109 G (by decide) (by decide)) (fun c hc j => by rw [stN hc]; exact hM c hc j) fun j hj => ?_
      rw [stM_at]
      split
      · rfl
      · rename_i hne
        exact hz j (by
          rcases Nat.lt_or_ge j i with q | q
          · exact q
          · exact absurd ⟨rfl, by omega⟩ hne)
theorem s_feels {h night : Int} (hh : in32 h) (hn : in32 night) {M : MM} (G : ai_GI ax_T M) (k : ∀ M1, ai_GI ax_T M1 → (∀ c, c ≠ 109 → ∀ j, M1 c j = M c j) → (∀ j, j < 10 → M1 109 j = Fh h night j) → Q (vi 0) M1) : CA FF sc YF (d + 1) m_X12_feels [vr 81, vi h, vi night] M Q := ca_X12_feels h night M (feels_wp h night hh hn M k 11 0 M (by omega) (by omega) G (fun _ _ _ => rfl) (fun j hj => by omega))
theorem mh_wp (h night : Int) {M0 : MM} (J : axJ M0) (hF : ∀ j, j < 10 → M0 109 j = Fh h night j) : ∀ (n q : Nat) (any : Int) (M : MM), q + n = 17 → q ≤ 16 → ai_GI ax_T M → (∀ c, c ≠ 108 → ∀ j, M c j = M0 c j) → (∀ M1, ai_GI ax_T M1 → (∀ c, c ≠ 108 → ∀ j, M1 c j = M0 c j) → (mhv (M0 81 19) (M0 98) (M0 97) (M0 100) (M0 101) (Fh h night) n q any = 0 ∨ mhv (M0 81 19) (M0 98) (M0 97) (M0 100) (M0 101) (Fh h night) n q any = 1) → Q (vi (mhv (M0 81 19) (M0 98) (M0 97) (M0 100) (M0 101) (Fh h night) n q any)) M1) → WP FF sc YF (d + 3) m_X12_mayHaunt 8 [] [some (vr 81), some (vi h), some (vi night), some (vi any), some (vi (q : Int))] M Q := by
  intro n
  induction n with
  | zero => intro q any M h1 h2; omega
  | succ n ih =>
    intro q any M hn hq G hM k
    have g := rO_81_19 G
    have e := hM 81 (by decide) 19
    have e1 : ∀ _ : Unit, w32 ((q : Int) + 1) = ((q + 1 : Nat) : Int) := fun _ => by rw [ew32 (by omega) (by omega)]; rfl
    have e2 : ((q : Int)).toNat = q := by omega
    have eu := mhv_succ (M0 81 19) (M0 98) (M0 97) (M0 100) (M0 101) (Fh h night) n q any
    refine rg_X12_mayHaunt_8 h night any _ M (brP (fun hc => ?_) fun hc => gI (by omega) (by omega) ?_)
    · rw [if_pos (by omega)] at eu
      refine brP (fun ha => ?_) fun ha => ?_
      · rw [if_pos ha] at eu
        rw [eu] at k
        exact k M G hM (.inl rfl)
      · rw [if_neg ha] at eu
        rw [eu] at k
        exact k M G hM (.inr rfl)
    · rw [if_neg (by omega)] at eu
      rw [e1 (), e2, hM 98 (by decide), hM 100 (by decide), hM 101 (by decide)]
      refine brP (fun hl => ?_) fun hl => ?_
      · rw [if_pos hl] at eu
        refine gI (by omega) (by omega) (gI (by omega) (by omega) ?_)
        obtain ⟨a, b, ea, eb, hG⟩ := (J q (by omega)).1
        rw [ea, eb] at eu ⊢
        have h97 : M 97 = M0 97 := funext fun j => hM 97 (by decide) j
        have hG2 : cvG (M 97) a b := by rw [h97]; exact hG
        have ta : ((a : Int)).toNat = a := by omega
        have tb : ((b : Int)).toNat = b := by omega
        rw [ta, tb] at eu
        refine s_comesTo hG2 (Fc := Fh h night) (fun j hj => by rw [hM 109 (by decide)]; exact hF j hj) G fun M1 G1 h1 _ => ?_
        rw [h97]
        have hM1 : ∀ c, c ≠ 108 → ∀ j, M1 c j = M0 c j := fun c hc j => (h1 c hc j).trans (hM c hc j)
        refine brP (fun hne => ?_) fun hne => ?_
        · rw [if_pos hne] at eu
          exact ih (q + 1) 1 M1 (by omega) (by omega) G1 hM1 (by rw [← eu]; exact k)
        · rw [if_neg hne] at eu
          rw [eu] at k
          exact k M1 G1 hM1 (.inr rfl)
      · rw [if_neg hl] at eu
        exact ih (q + 1) any M (by omega) (by omega) G hM (by rw [← eu]; exact k)
theorem s_mayHaunt {h night : Int} (hh : in32 h) (hn : in32 night) {M : MM} (G : ai_GI ax_T M) (J : axJ M) (k : ∀ M1, ai_GI ax_T M1 → (∀ c, c ≠ 108 → c ≠ 109 → ∀ j, M1 c j = M c j) → (mh M h night = 0 ∨ mh M h night = 1) → Q (vi (mh M h night)) M1) : CA FF sc YF (d + 4) m_X12_mayHaunt [vr 81, vi h, vi night] M Q := by
  refine ca_X12_mayHaunt h night M (s_feels hh hn G fun M1 G1 h1 hF => ?_)
  have J1 : axJ M1 := axJ_eq ⟨h1 81 (by decide) 19, funext (h1 97 (by decide)), funext (h1 98 (by decide)), funext (h1 99 (by decide)), funext (h1 100 (by decide)), funext (h1 101 (by decide))⟩ J
  refine mh_wp h night J1 hF 17 0 0 M1 (by omega) (by omega) G1 (fun _ _ _ => rfl) fun M2 G2 h2 hx => ?_
  have em : mhv (M1 81 19) (M1 98) (M1 97) (M1 100) (M1 101) (Fh h night) 17 0 0 = mh M h night := by
    unfold mh
    rw [h1 81 (by decide) 19, funext (h1 97 (by decide)), funext (h1 98 (by decide)), funext (h1 100 (by decide)), funext (h1 101 (by decide))]
  rw [em] at hx ⊢
  exact k M2 G2 (fun c c8 c9 j => (h2 c c8 j).trans (h1 c c9 j)) hx
theorem bl_wp (le hi : Int) (hm : le ≠ 109) {M0 : MM} (J : axJ M0) : ∀ (n q : Nat) (o4 : Option Vv) (M : MM), q + n = 17 → q ≤ 16 → ai_GI ax_T M → (∀ c, c ≠ 108 → ∀ j, M c j = M0 c j) → (∀ M1, ai_GI ax_T M1 → (∀ c, c ≠ 108 → ∀ j, M1 c j = M0 c j) → Q (vi (blv (M0 81 19) (M0 98) (M0 97) (M0 99) (M0 100) (M0 101) (M0 109) le hi n q)) M1) → WP FF sc YF (d + 3) m_X12_byLaw 2 [] [some (vr 81), some (vi le), some (vi hi), some (vi (q : Int)), o4] M Q := by
  intro n
  induction n with
  | zero => intro q o4 M h1 h2; omega
  | succ n ih =>
    intro q o4 M hn hq G hM k
    have g := rO_81_19 G
    have e := hM 81 (by decide) 19
    have e1 : ∀ _ : Unit, w32 ((q : Int) + 1) = ((q + 1 : Nat) : Int) := fun _ => by rw [ew32 (by omega) (by omega)]; rfl
    have e2 : ((q : Int)).toNat = q := by omega
    have eu := blv_succ (M0 81 19) (M0 98) (M0 97) (M0 99) (M0 100) (M0 101) (M0 109) le hi n q
    refine rg_X12_byLaw_2 le hi _ o4 M (brP (fun hc => ?_) fun hc => gI (by omega) (by omega) ?_)
    · rw [if_pos (by omega)] at eu
      rw [eu] at k
      exact k M G hM
    · rw [if_neg (by omega)] at eu
      rw [e1 (), e2, hM 98 (by decide), hM 100 (by decide), hM 101 (by decide)]
      refine brP (fun hl => ?_) fun hl => ?_
      · rw [if_pos hl] at eu
        exact ih (q + 1) o4 M (by omega) (by omega) G hM (by rw [← eu]; exact k)
      · rw [if_neg hl] at eu
        have hl := Classical.not_not.mp hl
        refine gI (by omega) (by omega) (gI (by omega) (by omega) ?_)
        have hJ := J q (by omega)
        obtain ⟨a, b, ea, eb, hG⟩ := hJ.1
        obtain ⟨a2, b2, ea2, eb2, hG2⟩ := hJ.2 (by rw [hl]; exact hm)
        have ta : ((a : Int)).toNat = a := by omega
        have tb : ((b : Int)).toNat = b := by omega
        have ta2 : ((a2 : Int)).toNat = a2 := by omega
        have tb2 : ((b2 : Int)).toNat = b2 := by omega
        have h97 : M 97 = M0 97 := funext fun j => hM 97 (by decide) j
        have h109 : M 109 = M0 109 := funext fun j => hM 109 (by decide) j
        have eq1 : ev (M0 97) (M0 109) 261 (M0 100 q).toNat (M0 101 q).toNat [] = ev (M 97) (M 109) 261 a b [] := by rw [ea, eb, ta, tb, h97, h109]
        rw [eq1] at eu
        rw [ea, eb]
        refine s_comesTo (by rw [h97]; exact hG) (Fc := M 109) (fun j hj => rfl) G fun M1 G1 h1 _ => ?_
        have hM1 : ∀ c, c ≠ 108 → ∀ j, M1 c j = M0 c j := fun c hc j => (h1 c hc j).trans (hM c hc j)
        refine brP (fun hev => ?_) fun hev => ?_
        · rw [if_pos hev] at eu
          have h97' : M1 97 = M0 97 := funext fun j => hM1 97 (by decide) j
          have h109' : M1 109 = M0 109 := funext fun j => hM1 109 (by decide) j
          have eq2 : ev (M0 97) (M0 109) 261 (M0 99 q).toNat (M0 100 q).toNat [] = ev (M1 97) (M1 109) 261 a2 b2 [] := by rw [ea2, eb2, ta2, tb2, h97', h109']
          rw [eq2] at eu
          rw [hM1 99 (by decide), hM1 100 (by decide), ea2, eb2]
          refine gI (by omega) (by omega) (gI (by omega) (by omega) (s_comesTo (by rw [h97']; exact hG2) (Fc := M1 109) (fun j hj => rfl) G1 fun M2 G2 h2 _ => ?_))
          have hM2 : ∀ c, c ≠ 108 → ∀ j, M2 c j = M0 c j := fun c hc j => (h2 c hc j).trans (hM1 c hc j)
          unfold clipv at eu
          refine brP (fun g0 => brP (fun g1 => ?_) fun g1 => ?_) fun g0 => ?_
          · rw [if_pos g0, if_pos g1] at eu
            rw [eu] at k
            exact k M2 G2 hM2
          · rw [if_pos g0, if_neg g1] at eu
            rw [eu] at k
            exact k M2 G2 hM2
          · rw [if_neg g0] at eu
            rw [eu] at k
            exact k M2 G2 hM2
        · rw [if_neg hev] at eu
          exact ih (q + 1) o4 M1 (by omega) (by omega) G1 hM1 (by rw [← eu]; exact k)
theorem s_byLaw {le hi : Int} (hm : le ≠ 109) {M : MM} (G : ai_GI ax_T M) (J : axJ M) (k : ∀ M1, ai_GI ax_T M1 → (∀ c, c ≠ 108 → ∀ j, M1 c j = M c j) → Q (vi (bl M (M 109) le hi)) M1) : CA FF sc YF (d + 4) m_X12_byLaw [vr 81, vi le, vi hi] M Q := ca_X12_byLaw le hi M (bl_wp le hi hm J 17 0 none M (by omega) (by omega) G (fun _ _ _ => rfl) k)
end LWS
theorem blv_r (cl : Int) (L C F H T Fc : Nat → Int) (le hi : Int) (hh : 0 ≤ hi) : ∀ n q, 0 ≤ blv cl L C F H T Fc le hi n q ∧ blv cl L C F H T Fc le hi n q ≤ hi := by
  intro n
  induction n with
  | zero => intro q; exact ⟨Int.le_refl _, hh⟩
  | succ n ih =>
    intro q
    unfold blv
    split
    · exact ⟨Int.le_refl _, hh⟩
    · split
      · exact ih _
      · split
        · unfold clipv
          split
          · split
            · exact ⟨by assumption, by assumption⟩
            · exact ⟨hh, Int.le_refl _⟩
          · exact ⟨Int.le_refl _, hh⟩
        · exact ih _
theorem hd_X12_mayHaunt : ai_SP ax_T axJ ap_X12_mayHaunt := ax_hand rfl (fun sc d ρ M Q hK hG hJ hQ => by
  show CA FF sc YF (d + 4) m_X12_mayHaunt [vr 81, vi (ρ 0), vi (ρ 1)] M Q
  have e0 := (hK.1 _ List.mem_cons_self).2
  have e1 := (hK.1 _ (List.mem_cons_of_mem _ List.mem_cons_self)).2
  have e0 : 0 ≤ ρ 0 ∧ ρ 0 ≤ 9 := e0
  have e1 : -2147483648 ≤ ρ 1 ∧ ρ 1 ≤ 2147483647 := e1
  refine s_mayHaunt ⟨by omega, by omega⟩ ⟨by omega, by omega⟩ hG hJ fun M1 G1 h1 hx => hQ _ _ G1 (fun k j hs => ?_) (ax_poI (lo := 0) (hi := 1) (by omega) (by omega))
  refine h1 k (fun q => ?_) (fun q => ?_) j
  · subst q
    rw [ax_slA rfl] at hs
    exact absurd hs (by decide +kernel)
  · subst q
    rw [ax_slA rfl] at hs
    exact absurd hs (by decide +kernel))
theorem hd_X12_byLaw : ai_SP ax_T axJ ap_X12_byLaw := ax_hand rfl (fun sc d ρ M Q hK hG hJ hQ => by
  show CA FF sc YF (d + 4) m_X12_byLaw [vr 81, vi (ρ 0), vi (ρ 1)] M Q
  have e1 := (hK.1 _ (List.mem_cons_of_mem _ List.mem_cons_self)).2
  have e1 : 10 ≤ ρ 1 ∧ ρ 1 ≤ 999 := e1
  have e2 := (hK.2.2.2 _ List.mem_cons_self).2
  have e2 : 1 * ρ 0 + 0 + (-109) ≠ 0 := e2
  refine s_byLaw (by omega) hG hJ fun M1 G1 h1 => hQ _ _ G1 (fun k j hs => ?_) ?_
  · refine h1 k (fun q => ?_) j
    subst q
    rw [ax_slA rfl] at hs
    exact absurd hs (by decide +kernel)
  · have hb := blv_r (M 81 19) (M 98) (M 97) (M 99) (M 100) (M 101) (M 109) (ρ 0) (ρ 1) (by omega) 17 0
    exact ax_poI (lo := 0) (hi := 999) hb.1 (by have := hb.2; unfold bl; omega))
