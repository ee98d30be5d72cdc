/-! PART 84: pairs of calls on the fresh objects with loops in them -/
section LPS
variable {sc : List Int} {d : Nat} {Q : Vv → MM → Prop}
theorem lp_hws {M : MM} (hC : FrC M) (k : Q (vi 0) M) : ∀ (n : Nat) (v : Int), v = 10 - n → 0 ≤ v → WP FF sc YF (d + 1) m_X9_housesWithSpots 4 [] [some (vr 57), some (vi 0), some (vi v)] M Q := by
  intro n
  induction n with
  | zero =>
    intro v hv h0
    exact rg_X9_housesWithSpots_4 0 v M (brT (by omega) k)
  | succ n ih =>
    intro v hv h0
    have h := ih (v + 1) (by omega) (by omega)
    rw [← w32_n (a := v) (b := 1) (by omega) (by omega)] at h
    exact rg_X9_housesWithSpots_4 0 v M (brF (by omega) (gI h0 (by omega) (brT (f_59 hC ⟨h0, by omega⟩) h)))
theorem s_hws {M : MM} (hC : FrC M) (k : Q (vi 0) M) : CA FF sc YF (d + 1) m_X9_housesWithSpots [vr 57] M Q := ca_X9_housesWithSpots M (lp_hws hC k 10 0 (by omega) (by omega))
theorem lp_spotsSet {M : MM} (hM : FrM M) (k : Q (vi 0) M) : ∀ (n : Nat) (v : Int), v = 10 - n → 0 ≤ v → WP FF sc YF (d + 3) m_X12_spotsSet 4 [] [some (vr 81), some (vi 0), some (vi v)] M Q := by
  intro n
  induction n with
  | zero =>
    intro v hv h0
    exact rg_X12_spotsSet_4 0 v M (brT (by omega) k)
  | succ n ih =>
    intro v hv h0
    have h : WP FF sc YF (d + 3) m_X12_spotsSet 4 [] [some (vr 81), some (vi (bOr 0 0)), some (vi (w32 (v + 1)))] M Q := by
      rw [w32_n (a := v) (b := 1) (by omega) (by omega), show bOr 0 0 = 0 by decide]
      exact ih (v + 1) (by omega) (by omega)
    exact rg_X12_spotsSet_4 0 v M (brF (by omega) (s_hasSpot_m hM v h))
theorem s_spotsSet {M : MM} (hM : FrM M) (k : Q (vi 0) M) : CA FF sc YF (d + 3) m_X12_spotsSet [vr 81] M Q := ca_X12_spotsSet M (lp_spotsSet hM k 10 0 (by omega) (by omega))
theorem lp_add (a : Int) : ∀ (n : Nat) (v p : Int) (M : MM), v = 8 * n - 8 → n ≤ 4 → M 1 1 = p → 0 ≤ p → p + n ≤ 260 → (∀ M' : MM, M' 1 1 = p + n → Up M M' → Q (vi 0) M') → WP FF sc YF (d + 1) m_X7_add 2 [] [some (vr 1), some (vi a), some (vi v)] M Q := by
  intro n
  induction n with
  | zero =>
    intro v p M hv hn hp h0 h1 k
    exact rg_X7_add_2 a v M (brT (by omega) (k M (by omega) up0))
  | succ n ih =>
    intro v p M hv hn hp h0 h1 k
    refine rg_X7_add_2 a v M (brF (by omega) (brF (by omega) (gI (by omega) (by omega) ?_)))
    rw [w32_n (a := v) (b := -8) (by omega) (by omega)]
    refine ih (v + -8) (p + 1) _ (by omega) (by omega) ?_ (by omega) (by omega) fun M' e u => k M' (by omega) (Up.tr (up_st (by decide) (up_st (by decide) up0)) u)
    rw [stM_at, if_pos ⟨rfl, rfl⟩, stM_at, if_neg (by omega), hp]
    exact w32_n (by omega) (by omega)
theorem s_add (a : Int) {p : Int} (M : MM) (hp : M 1 1 = p) (h0 : 0 ≤ p) (h1 : p + 4 ≤ 260) (k : ∀ M' : MM, M' 1 1 = p + 4 → Up M M' → Q (vi 0) M') : CA FF sc YF (d + 1) m_X7_add [vr 1, vi a] M Q := ca_X7_add a M (lp_add a 4 24 p M (by omega) (by omega) hp h0 h1 k)
theorem lp_types (a : Int) : ∀ (n : Nat) (v p : Int) (M : MM), v = n - 1 → n ≤ 4 → M 81 10 = p → 0 ≤ p → p + n ≤ 260 → (∀ M' : MM, M' 81 10 = p + n → Q (vi 0) M') → WP FF sc YF (d + 1) m_X12_types 2 [] [some (vr 81), some (vi a), some (vi v)] M Q := by
  intro n
  induction n with
  | zero =>
    intro v p M hv hn hp h0 h1 k
    exact rg_X12_types_2 a v M (brT (by omega) (k M (by omega)))
  | succ n ih =>
    intro v p M hv hn hp h0 h1 k
    refine rg_X12_types_2 a v M (brF (by omega) (gI (by omega) (by omega) ?_))
    rw [w32_n (a := v) (b := -1) (by omega) (by omega)]
    refine ih (v + -1) (p + 1) _ (by omega) (by omega) ?_ (by omega) (by omega) fun M' e => k M' (by omega)
    rw [stM_at, if_pos ⟨rfl, rfl⟩, stM_at, if_neg (by omega), hp]
    exact w32_n (by omega) (by omega)
theorem s_types (a : Int) {p : Int} (M : MM) (hp : M 81 10 = p) (h0 : 0 ≤ p) (h1 : p + 4 ≤ 260) (k : ∀ M' : MM, M' 81 10 = p + 4 → Q (vi 0) M') : CA FF sc YF (d + 1) m_X12_types [vr 81, vi a] M Q := ca_X12_types a M (lp_types a 4 3 p M (by omega) (by omega) hp h0 h1 k)
theorem p_feed (a0 a1 a2 a3 a4 : Int) : in32 a0 → in32 a1 → in32 a2 → in32 a3 → in32 a4 → PrI sc m_X11_feed m_X12_feed [vi a0, vi a1, vi a2, vi a3, vi a4] := fun _ _ _ _ _ M hC _ _ => ⟨20, by
  have e : M 1 1 = 0 := hC.at 1 1 0 (by decide) rfl
  refine ca_X11_feed a0 a1 a2 a3 a4 M (brT (by rw [e]; decide) (s_add a0 M e (by omega) (by omega) fun M1 e1 u1 => s_add a1 M1 e1 (by omega) (by omega) fun M2 e2 u2 => s_add a2 M2 e2 (by omega) (by omega) fun M3 e3 u3 => s_add a3 M3 e3 (by omega) (by omega) fun M4 e4 u4 => s_add a4 M4 e4 (by omega) (by omega) fun M5 e5 u5 => And.intro (congrArg vi (by omega)) ((((u1.tr u2).tr u3).tr u4).tr u5))), fun M1 hM => by
  have e : M1 81 10 = 0 := hM.at 81 10 0 (by decide) rfl
  refine ca_X12_feed a0 a1 a2 a3 a4 M1 (brT (by rw [e]; decide) (s_types a0 M1 e (by omega) (by omega) fun M1 e1 => s_types a1 M1 e1 (by omega) (by omega) fun M2 e2 => s_types a2 M2 e2 (by omega) (by omega) fun M3 e3 => s_types a3 M3 e3 (by omega) (by omega) fun M4 e4 => s_types a4 M4 e4 (by omega) (by omega) fun M5 e5 => congrArg vi (by omega)))⟩
theorem lp_told {M : MM} (hC : FrC M) (k : Q (vi 0) M) : ∀ (n : Nat) (v : Int), v = 10 - n → 0 ≤ v → WP FF sc YF (d + 2) m_X8_toldStrangers 4 [] [some (vr 46), some (vi 0), some (vi v)] M Q := by
  intro n
  induction n with
  | zero =>
    intro v hv h0
    exact rg_X8_toldStrangers_4 0 v M (brT (by omega) k)
  | succ n ih =>
    intro v hv h0
    have h := ih (v + 1) (by omega) (by omega)
    rw [← w32_n (a := v) (b := 1) (by omega) (by omega)] at h
    exact rg_X8_toldStrangers_4 0 v M (brF (by omega) (s_isTold_f hC ⟨h0, by omega⟩ h))
theorem lp_paid {M : MM} (hC : FrC M) (k : Q (vi 0) M) : ∀ (n : Nat) (v : Int), v = 10 - n → 0 ≤ v → WP FF sc YF (d + 1) m_X8_paidStrangers 4 [] [some (vr 46), some (vi 0), some (vi v)] M Q := by
  intro n
  induction n with
  | zero =>
    intro v hv h0
    exact rg_X8_paidStrangers_4 0 v M (brT (by omega) k)
  | succ n ih =>
    intro v hv h0
    refine rg_X8_paidStrangers_4 0 v M (brF (by omega) (gI h0 (by omega) ?_))
    rw [w32_n (a := v) (b := 1) (by omega) (by omega), hC.at 50 _ 0 (by decide) rfl, zshl, show bOr 0 0 = 0 by decide]
    exact ih (v + 1) (by omega) (by omega)
def cvI (w : Int) : Int := if w = 7 then 1 else if (0 ≤ w ∧ w ≤ 6) ∨ (100 ≤ w ∧ w ≤ 163) then 0 else -1
theorem cv0 {w : Int} (h : (0 ≤ w ∧ w ≤ 6) ∨ (100 ≤ w ∧ w ≤ 163)) : vi 0 = vi (cvI w) := congrArg vi (by unfold cvI; rw [if_neg (by omega), if_pos h])
theorem cvN {w : Int} (h : ¬ ((0 ≤ w ∧ w ≤ 7) ∨ (100 ≤ w ∧ w ≤ 163))) : vi (-1) = vi (cvI w) := congrArg vi (by unfold cvI; rw [if_neg (by omega), if_neg (by omega)])
theorem p_count (a0 : Int) : in32 a0 → PrI sc m_X11_count m_X12_count [vi a0] := fun _ M hC _ _ => by
  refine ⟨cvI a0, ca_X11_count a0 M (s_isIn a0 100 163 M (brI0 (fun h => ?_) fun h => ?_)), fun M1 hM => ca_X12_count a0 M1 ?_⟩
  · rw [f_10 hC, f_12 hC]
    refine ⟨fun e => ?_, fun n0 => ⟨fun e => ?_, fun n1 => ⟨fun e => ?_, fun n2 => ⟨fun e => ?_, fun n3 => ⟨fun e => ?_, fun n4 => ⟨fun e => ?_, fun n5 => ⟨fun e => ?_, fun n6 => ⟨fun e => ?_, fun n7 => ⟨cvN (by omega), up0⟩⟩⟩⟩⟩⟩⟩⟩⟩
    · exact ⟨(congrArg vi (hC.at 46 6 0 (by decide) rfl)).trans (cv0 (by omega)), up0⟩
    · exact ⟨(congrArg vi (hC.at 46 5 0 (by decide) rfl)).trans (cv0 (by omega)), up0⟩
    · exact ca_X8_toldStrangers M (lp_told hC (And.intro (cv0 (by omega)) up0) 10 0 (by omega) (by omega))
    · exact ca_X8_paidStrangers M (lp_paid hC (And.intro (cv0 (by omega)) up0) 10 0 (by omega) (by omega))
    · exact gA (by decide) (gB rfl (s_hws hC (And.intro (cv0 (by omega)) up0)))
    · exact gA (by decide) (gB rfl ⟨(congrArg vi (hC.at 65 0 0 (by decide) rfl)).trans (cv0 (by omega)), up0⟩)
    · exact ⟨(congrArg vi (hC.at 1 1 0 (by decide) rfl)).trans (cv0 (by omega)), up0⟩
    · subst e
      exact ⟨congrArg vi (hC.at 46 7 1 (by decide) rfl), up0⟩
  · rw [f_10 hC, w32_of ⟨by omega, by omega⟩]
    refine gA (by decide) (gB rfl (ca_X9_at (a0 - 100) M (brF (by omega) (brF (by omega) (gI (by omega) (by omega) ?_)))))
    rw [hC.at 58 _ 0 (by decide) rfl]
    exact And.intro (cv0 (by omega)) up0
  · refine ⟨fun e => ?_, fun n0 => ⟨fun e => ?_, fun n1 => ⟨fun e => ?_, fun n2 => ⟨fun e => ?_, fun n3 => ⟨fun e => ?_, fun n4 => ⟨fun e => ?_, fun n5 => ⟨fun e => ?_, fun n6 => ⟨fun e => ?_, fun n7 => ?_⟩⟩⟩⟩⟩⟩⟩⟩
    · exact (congrArg vi (hM.at 82 34 0 (by decide) rfl)).trans (cv0 (by omega))
    · exact (congrArg vi (hM.at 82 33 0 (by decide) rfl)).trans (cv0 (by omega))
    · exact (congrArg vi (hM.at 82 30 0 (by decide) rfl)).trans (cv0 (by omega))
    · rw [hM.at 82 31 0 (by decide) rfl, zand]
      exact cv0 (by omega)
    · exact s_spotsSet hM (cv0 (by omega))
    · exact (congrArg vi (hM.at 81 19 0 (by decide) rfl)).trans (cv0 (by omega))
    · exact (congrArg vi (hM.at 81 10 0 (by decide) rfl)).trans (cv0 (by omega))
    · subst e
      exact congrArg vi (hM.at 82 35 1 (by decide) rfl)
    · refine s_in a0 100 163 M1 (brI0 (fun h => ?_) fun h => ?_)
      · by_cases g : 0 ≤ a0 ∧ a0 ≤ 7
        · omega
        · exact cvN (by omega)
      · rw [w32_of (z := a0 - 100) ⟨by omega, by omega⟩]
        exact gI (by omega) (by omega) ((congrArg vi (hM.at 85 _ 0 (by decide) rfl)).trans (cv0 (by omega)))
theorem lp_copy : ∀ (n : Nat) (v : Int) (M : MM), v = 10 - n → 0 ≤ v → (∀ M' : MM, Up M M' → (∀ j, M' 46 j = M 46 j) → Q (vi 0) M') → WP FF sc YF (d + 1) m_X8_copy 2 [] [some (vr 51), some (vr 46), some (vi v)] M Q := by
  intro n
  induction n with
  | zero =>
    intro v M hv h0 k
    refine rg_X8_copy_2 v M (brT (by omega) (k _ (up_st (by decide) (up_st (by decide) (up_st (by decide) (up_st (by decide) up0)))) fun j => ?_))
    rw [stN (by decide), stN (by decide), stN (by decide), stN (by decide)]
  | succ n ih =>
    intro v M hv h0 k
    refine rg_X8_copy_2 v M (brF (by omega) (gI h0 (by omega) (gI h0 (by omega) (gI h0 (by omega) (gI h0 (by omega) (gI h0 (by omega) (gI h0 (by omega) (gI h0 (by omega) (gI h0 (by omega) ?_)))))))))
    rw [w32_n (a := v) (b := 1) (by omega) (by omega)]
    refine ih (v + 1) _ (by omega) (by omega) fun M' u e => k M' (Up.tr (up_st (by decide) (up_st (by decide) (up_st (by decide) (up_st (by decide) up0)))) u) fun j => ?_
    rw [e j, stN (by decide), stN (by decide), stN (by decide), stN (by decide)]
theorem lp_copies : ∀ (n : Nat) (v : Int) (M : MM), v = 36 - n → 0 ≤ v → (∀ M' : MM, (∀ j, M' 82 j = M 82 j) → Q (vi 0) M') → WP FF sc YF (d + 1) m_X12_copies 2 [] [some (vr 82), some (vr 84), some (vi v)] M Q := by
  intro n
  induction n with
  | zero =>
    intro v M hv h0 k
    exact rg_X12_copies_2 82 84 v M (brT (by omega) (k M fun _ => rfl))
  | succ n ih =>
    intro v M hv h0 k
    refine rg_X12_copies_2 82 84 v M (brF (by omega) (gK rfl h0 (show v < 36 by omega) (gK rfl h0 (show v < 36 by omega) ?_)))
    rw [w32_n (a := v) (b := 1) (by omega) (by omega)]
    refine ih (v + 1) _ (by omega) (by omega) fun M' e => k M' fun j => ?_
    rw [e j, stN (by decide)]
theorem p_keep : PrI sc m_X11_keep m_X12_keep [] := fun M hC _ _ => ⟨0, ca_X11_keep M (ca_X8_copy M (lp_copy 10 0 M (by omega) (by omega) fun M1 u e => ⟨congrArg vi (by rw [stN (by decide), e 6]; exact hC.at 46 6 0 (by decide) rfl), up_st (by decide) u⟩)), fun M1 hM => ca_X12_keep M1 (ca_X12_copies 82 84 _ (lp_copies 36 0 _ (by omega) (by omega) fun M2 e => congrArg vi (by rw [e 34, stN (by decide)]; exact hM.at 82 34 0 (by decide) rfl)))⟩
theorem s_bits (a : Int) : ∃ b : Int, ∀ {F : Nat → Nat → Nat} {Y : YY} {sc : List Int} {d : Nat} {Q : Vv → MM → Prop} (M : MM), Q (vi b) M → CA F sc Y (d + 1) m_X12_bits [vi a] M Q := by
  have lp : ∀ (n : Nat) (v w : Int), v = 10 - n → 0 ≤ v → ∃ b : Int, ∀ {F : Nat → Nat → Nat} {Y : YY} {sc : List Int} {d : Nat} {Q : Vv → MM → Prop} (M : MM), Q (vi b) M → WP F sc Y (d + 1) m_X12_bits 4 [] [some (vi a), some (vi w), some (vi v)] M Q := by
    intro n
    induction n with
    | zero =>
      intro v w hv h0
      exact ⟨w, fun M k => rg_X12_bits_4 a w v M (brT (by omega) k)⟩
    | succ n ih =>
      intro v w hv h0
      obtain ⟨b, hb⟩ := ih (v + 1) (w32 (w + bAnd (bShr a v) 1)) (by omega) (by omega)
      refine ⟨b, fun M k => rg_X12_bits_4 a w v M (brF (by omega) ?_)⟩
      rw [w32_n (a := v) (b := 1) (by omega) (by omega)]
      exact hb M k
  obtain ⟨b, hb⟩ := lp 10 0 0 (by omega) (by omega)
  exact ⟨b, fun M k => ca_X12_bits a M (hb M k)⟩
theorem some_bit : ∀ x : Nat, x < 1024 → x ≠ 0 → ∃ h : Nat, h < 10 ∧ bAnd (bShr x h) 1 = 1 := by
  have h : ∀ x : Nat, x < 1024 → x = 0 ∨ (List.range 10).any (fun h => decide (bAnd (bShr x h) 1 = 1)) = true := by decide +kernel
  intro x hx h0
  rcases h x hx with q | q
  · exact (h0 q).elim
  · obtain ⟨i, hi, e⟩ := List.any_eq_true.mp q
    exact ⟨i, List.mem_range.mp hi, of_decide_eq_true e⟩
theorem s_hasSpot_h {M : MM} (h : ∀ v : Int, 0 ≤ v ∧ v ≤ 9 → M 86 v.toNat = -2) (v : Int) (k : Q (vi 0) M) : CA FF sc YF (d + 2) m_X12_hasSpot [vr 81, vi v] M Q := by
  refine ca_X12_hasSpot v M (s_isTen v M (brI0 (fun _ => k) fun hp => gI hp.1 (by omega) (brT ?_ k)))
  rw [h v hp]
  decide
theorem lp_rotas {M : MM} (h86 : ∀ v : Int, 0 ≤ v ∧ v ≤ 9 → M 86 v.toNat = -2) (a0 a1 a2 a3 : Int) (h1 : 1 ≤ a1 ∧ a1 ≤ 1023) (k : Q (vi (-1)) M) : ∀ (n : Nat) (v : Int), v = 10 - n → 0 ≤ v → (∀ h : Nat, (h : Int) < v → ¬ bAnd (bShr a1 h) 1 = 1) → WP FF sc YF (d + 3) m_X12_rotas 49 [] [some (vr 81), some (vi a0), some (vi a1), some (vi a2), some (vi a3), some (vi v)] M Q := by
  intro n
  induction n with
  | zero =>
    intro v hv h0 hb
    obtain ⟨i, hi, e⟩ := some_bit a1.toNat (by omega) (by omega)
    rw [Int.toNat_of_nonneg (by omega)] at e
    exact (hb i (by omega) e).elim
  | succ n ih =>
    intro v hv h0 hb
    refine rg_X12_rotas_49 a0 a1 a2 a3 v M (brF (by omega) (s_has a1 v M (brI1 (fun _ => s_hasSpot_h h86 v k) fun hn => ?_)))
    rw [w32_n (a := v) (b := 1) (by omega) (by omega)]
    refine ih (v + 1) (by omega) (by omega) fun h hh => ?_
    by_cases q : (h : Int) < v
    · exact hb h q
    · rw [show (h : Int) = v by omega]
      exact hn
theorem p_rotas (a0 a1 a2 a3 : Int) : in32 a0 → in32 a1 → in32 a2 → in32 a3 → PrI sc m_X11_rotas m_X12_rotas [vi a0, vi a1, vi a2, vi a3] := fun _ i1 _ _ M hC _ _ => by
  refine ⟨-1, ca_X11_rotas a0 a1 a2 a3 M (s_isIn a0 1 14 M (brI0 (fun _ => ⟨rfl, up0⟩) fun _ => s_isIn a2 1 3 M (brI0 (fun _ => ⟨rfl, up0⟩) fun _ => ca_X11_canShare a1 M (s_isIn a1 1 1023 M (brI0 (fun _ => And.intro rfl up0) fun h => ?_))))), fun M1 hM => ?_⟩
  · rw [f_10 hC]
    refine gA (by decide) (gB rfl (s_hws hC (brF ?_ (And.intro rfl up0))))
    rw [show bXor 0 (-1) = -1 by decide, and_m1 i1]
    omega
  · obtain ⟨b, hb⟩ := s_bits a1
    have h86 : ∀ v : Int, 0 ≤ v ∧ v ≤ 9 → (stM (stM M1 81 57 0) 81 58 a2) 86 v.toNat = -2 := fun v hv => by
      rw [stN (by decide), stN (by decide)]
      exact f_86 hM hv
    have hr : ∀ {d : Nat} {Q : Vv → MM → Prop}, (1 ≤ a0 ∧ a0 ≤ 14) → (1 ≤ a1 ∧ a1 ≤ 1023) → (∀ M, Q (vi (-1)) M) → WP FF sc YF (d + 3) m_X12_rotas 31 [] [some (vr 81), some (vi a0), some (vi a1), some (vi a2), some (vi a3), none] M1 Q := fun g0 g1 k => rg_X12_rotas_31 a0 a1 a2 a3 none M1 (brT (by rw [hM.at 82 34 0 (by decide) rfl, w32_of ⟨by omega, by omega⟩]; omega) (lp_rotas h86 a0 a1 a2 a3 g1 (k _) 10 0 (by omega) (by omega) fun h hh => by omega))
    exact ca_X12_rotas a0 a1 a2 a3 M1 (s_in a0 1 14 M1 (brI0 (fun _ => rfl) fun g0 => s_in a1 1 1023 M1 (brI0 (fun _ => rfl) fun g1 => hb M1 (brP (fun _ => rfl) fun _ => s_in a2 1 3 M1 (brI0 (fun _ => rfl) fun _ => s_in a3 100 101 M1 (brI1 (fun _ => hr g0 g1 fun _ => rfl) fun _ => s_in a3 0 _ M1 (brI0 (fun _ => rfl) fun _ => hr g0 g1 fun _ => rfl)))))))
theorem lp_pass {M : MM} (k : Q (vi 0) M) : ∀ (n : Nat) (v : Int) (o : Option Vv), v = 10 - n → 0 ≤ v → WP FF sc YF (d + 2) m_X5_pass 11 [] [some (vr 57), some (vr 65), some (vr 46), some (vi 0), some (vi 0), some (vi 0), some (vi v), o] M Q := by
  intro n
  induction n with
  | zero =>
    intro v o hv h0
    exact rg_X5_pass_11 0 0 0 v o M (brT (by omega) k)
  | succ n ih =>
    intro v o hv h0
    refine rg_X5_pass_11 0 0 0 v o M (brF (by omega) ?_)
    have lp : ∀ (n : Nat) (w : Int), w = 10 - n → 0 ≤ w → WP FF sc YF (d + 2) m_X5_pass 16 [] [some (vr 57), some (vr 65), some (vr 46), some (vi 0), some (vi 0), some (vi 0), some (vi v), some (vi w)] M Q := by
      intro m
      induction m with
      | zero =>
        intro w hw g0
        refine rg_X5_pass_16 0 0 0 v w M (brT (by omega) ?_)
        rw [w32_n (a := v) (b := 1) (by omega) (by omega)]
        exact ih (v + 1) _ (by omega) (by omega)
      | succ m im =>
        intro w hw g0
        have h := im (w + 1) (by omega) (by omega)
        rw [← w32_n (a := w) (b := 1) (by omega) (by omega)] at h
        exact rg_X5_pass_16 0 0 0 v w M (brF (by omega) (s_hasBit0 v M rfl h))
    exact lp 10 0 (by omega) (by omega)
theorem s_pass {M : MM} (hC : FrC M) (k : Q (vi 0) M) : CA FF sc YF (d + 2) m_X5_pass [vr 57, vr 65, vr 46, vi 0] M Q := by
  have h : WP FF sc YF (d + 2) m_X5_pass 11 [] [some (vr 57), some (vr 65), some (vr 46), some (vi 0), some (vi 0), some (vi (bAnd 0 (bXor 0 (-1)))), some (vi 0), none] M Q := by
    rw [show bAnd 0 (bXor 0 (-1)) = 0 by decide]
    exact lp_pass k 10 0 none (by omega) (by omega)
  exact ca_X5_pass 0 M (s_hws hC h)
theorem lp_goes {M : MM} (hC : FrC M) (a0 a1 : Int) (h1 : a1 ≤ 20) (k : Q (vi 0) M) : ∀ (n : Nat) (v : Int), v = a1 - n → 0 ≤ v → WP FF sc YF (d + 3) m_X11_goes 20 [] [some (vr 0), some (vi a0), some (vi a1), some (vi 0), some (vi v)] M Q := by
  intro n
  induction n with
  | zero =>
    intro v hv h0
    exact rg_X11_goes_20 a0 a1 0 v M (brT (by omega) k)
  | succ n ih =>
    intro v hv h0
    refine rg_X11_goes_20 a0 a1 0 v M (brF (by omega) ?_)
    rw [f_10 hC, f_12 hC]
    have h := ih (v + 1) (by omega) (by omega)
    rw [← w32_n (a := v) (b := 1) (by omega) (by omega)] at h
    exact gA (by decide) (gA (by decide) (s_pass hC h))
theorem lp_goes_m {M : MM} (a0 a1 : Int) (h1 : a1 ≤ 20) (k : Q (vi 0) M) : ∀ (n : Nat) (v : Int) (o5 o6 o7 : Option Vv), v = a1 - n → 0 ≤ v → WP FF sc YF (d + 3) m_X12_goes 19 [] [some (vr 81), some (vi a0), some (vi a1), some (vi 0), some (vi v), o5, o6, o7] M Q := by
  intro n
  induction n with
  | zero =>
    intro v o5 o6 o7 hv h0
    exact rg_X12_goes_19 a0 a1 0 v o5 o6 o7 M (brT (by omega) k)
  | succ n ih =>
    intro v o5 o6 o7 hv h0
    refine rg_X12_goes_19 a0 a1 0 v o5 o6 o7 M (brF (by omega) ?_)
    have lp : ∀ (n : Nat) (w : Int) (o7 : Option Vv), w = 10 - n → 0 ≤ w → WP FF sc YF (d + 3) m_X12_goes 26 [] [some (vr 81), some (vi a0), some (vi a1), some (vi 0), some (vi v), some (vi 0), some (vi w), o7] M Q := by
      intro m
      induction m with
      | zero =>
        intro w o7 hw g0
        refine rg_X12_goes_26 a0 a1 0 v 0 w o7 M (brT (by omega) ?_)
        rw [w32_n (a := v) (b := 1) (by omega) (by omega)]
        exact ih (v + 1) _ _ _ (by omega) (by omega)
      | succ m im =>
        intro w o7 hw g0
        have h := im (w + 1) o7 (by omega) (by omega)
        rw [← w32_n (a := w) (b := 1) (by omega) (by omega)] at h
        exact rg_X12_goes_26 a0 a1 0 v 0 w o7 M (brF (by omega) (s_has0 w M rfl h))
    exact lp 10 0 _ (by omega) (by omega)
theorem p_goes (a0 a1 : Int) : in32 a0 → in32 a1 → PrI sc m_X11_goes m_X12_goes [vi a0, vi a1] := fun _ _ M hC _ _ => by
  by_cases h : (0 ≤ a0 ∧ a0 ≤ 1023) ∧ (1 ≤ a1 ∧ a1 ≤ 20)
  · refine ⟨0, ca_X11_goes a0 a1 M (s_isIn a0 0 1023 M (brI0 (fun q => (q h.1).elim) fun _ => s_isIn a1 1 20 M (brI1 (fun _ => ?_) fun q => (q h.2).elim))), fun M1 hM => ca_X12_goes a0 a1 M1 (s_in a0 0 1023 M1 (brI0 (fun q => (q h.1).elim) fun _ => s_in a1 1 20 M1 (brI1 (fun _ => ?_) fun q => (q h.2).elim)))⟩
    · rw [f_10 hC]
      refine gA (by decide) (gB rfl (s_hws hC ?_))
      have g : WP FF sc YF 59 m_X11_goes 20 [] [some (vr 0), some (vi a0), some (vi a1), some (vi (bAnd a0 0)), some (vi 0)] M (fun r M1 => r = vi 0 ∧ Up M M1) := by
        rw [andz]
        exact lp_goes hC a0 a1 h.2.2 ⟨rfl, up0⟩ a1.toNat 0 (by omega) (by omega)
      exact g
    · have g : WP FF sc YF 59 m_X12_goes 19 [] [some (vr 81), some (vi a0), some (vi a1), some (vi (bAnd a0 0)), some (vi 0), none, none, none] M1 (fun r _ => r = vi 0) := by
        rw [andz]
        exact lp_goes_m a0 a1 h.2.2 rfl a1.toNat 0 _ _ _ (by omega) (by omega)
      exact s_spotsSet hM g
  · exact ⟨-1, ca_X11_goes a0 a1 M (s_isIn a0 0 1023 M (brI0 (fun _ => ⟨rfl, up0⟩) fun q0 => s_isIn a1 1 20 M (brI1 (fun q1 => (h ⟨q0, q1⟩).elim) fun _ => ⟨rfl, up0⟩))), fun M1 hM => ca_X12_goes a0 a1 M1 (s_in a0 0 1023 M1 (brI0 (fun _ => rfl) fun q0 => s_in a1 1 20 M1 (brI1 (fun q1 => (h ⟨q0, q1⟩).elim) fun _ => rfl)))⟩
theorem lp_watered {M : MM} (a0 w : Int) (k : Q (vi (-2)) M) : ∀ (n : Nat) (v : Int), v = 10 - n → 0 ≤ v → WP FF sc YF (d + 2) m_X11_watered 17 [] [some (vr 0), some (vi a0), some (vi 0), some (vi (-2)), some (vl w), none, some (vi v), none, none] M Q := by
  intro n
  induction n with
  | zero =>
    intro v hv h0
    exact rg_X11_watered_17 a0 0 (-2) w v none none M (brT (by omega) k)
  | succ n ih =>
    intro v hv h0
    have h := ih (v + 1) (by omega) (by omega)
    rw [← w32_n (a := v) (b := 1) (by omega) (by omega)] at h
    exact rg_X11_watered_17 a0 0 (-2) w v none none M (brF (by omega) (s_hasBit0 v M (zand _) h))
theorem lp_watered_m {M : MM} (hM : FrM M) (a0 a1 w : Int) (k : Q (vi (-2)) M) : ∀ (n : Nat) (v : Int), v = 10 - n → 0 ≤ v → WP FF sc YF (d + 3) m_X12_watered 18 [] [some (vr 81), some (vi a0), some (vi a1), some (vi (-2)), some (vl w), none, some (vi v), none, none, none, none] M Q := by
  intro n
  induction n with
  | zero =>
    intro v hv h0
    exact rg_X12_watered_18 a0 a1 (-2) w v none none none none M (brT (by omega) k)
  | succ n ih =>
    intro v hv h0
    have h := ih (v + 1) (by omega) (by omega)
    rw [← w32_n (a := v) (b := 1) (by omega) (by omega)] at h
    exact rg_X12_watered_18 a0 a1 (-2) w v none none none none M (brF (by omega) (s_hasSpot_m hM v h))
theorem p_watered (a0 : Int) : in32 a0 → PrI sc m_X11_watered m_X12_watered [vi a0] := fun _ M hC _ _ => by
  by_cases h : 0 ≤ a0 ∧ a0 ≤ 1023
  · refine ⟨-2, ca_X11_watered a0 M (s_isIn a0 0 1023 M (brI1 (fun _ => ?_) fun q => (q h).elim)), fun M1 hM => ca_X12_watered a0 M1 (s_in a0 0 1023 M1 (brI1 (fun _ => s_spotsSet hM (lp_watered_m hM a0 _ _ rfl 10 0 (by omega) (by omega))) fun q => (q h).elim))⟩
    rw [f_10 hC]
    exact gA (by decide) (gB rfl (s_hws hC (lp_watered a0 _ (And.intro rfl up0) 10 0 (by omega) (by omega))))
  · exact ⟨-1, ca_X11_watered a0 M (s_isIn a0 0 1023 M (brI1 (fun q => (h q).elim) fun _ => ⟨rfl, up0⟩)), fun M1 hM => ca_X12_watered a0 M1 (s_in a0 0 1023 M1 (brI1 (fun q => (h q).elim) fun _ => rfl))⟩
end LPS
