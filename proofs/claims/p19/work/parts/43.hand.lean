/-! PART 43: by hand: gcd, beside, isSeen -/
section HDA
variable {F : Nat → Nat → Nat} {Y : YY} {sc : List Int} {d : Nat} {Q : Vv → MM → Prop}
theorem ind01 {p : Prop} [Decidable p] : (decide (ind p = 0) || decide (ind p = 1)) = true := by
  by_cases h : p
  · rw [show ind p = 1 from if_pos h]
    rfl
  · rw [show ind p = 0 from if_neg h]
    rfl
theorem ind_r (p : Prop) [Decidable p] : 0 ≤ ind p ∧ ind p ≤ 1 := by
  unfold ind
  split <;> omega
theorem s_in (a l h : Int) (M : MM) (k : Q (vi (ind (l ≤ a ∧ a ≤ h))) M) : CA F sc Y (d + 1) m_X12_in [vi a, vi l, vi h] M Q := by
  refine ca_X12_in a l h M (brP (fun h1 => ?_) (fun h1 => brP (fun h2 => ?_) (fun h2 => ?_)))
  · rw [show ind (l ≤ a ∧ a ≤ h) = 0 from if_neg (by omega)] at k
    exact k
  · rw [show ind (l ≤ a ∧ a ≤ h) = 0 from if_neg (by omega)] at k
    exact k
  · rw [show ind (l ≤ a ∧ a ≤ h) = 1 from if_pos (by omega)] at k
    exact k
theorem s_isHouse (a : Int) (M : MM) (k : Q (vi (ind (0 ≤ a ∧ a ≤ 9))) M) : CA F sc Y (d + 2) m_X11_isHouse [vi a] M Q := ca_X11_isHouse a M (s_isIn a 0 9 M (gB ind01 k))
theorem s_isTen (a : Int) (M : MM) (k : Q (vi (ind (0 ≤ a ∧ a ≤ 9))) M) : CA F sc Y (d + 1) m_X12_isTen [vi a] M Q := by
  refine ca_X12_isTen a M (brP (fun h1 => ?_) (fun h1 => brP (fun h2 => ?_) (fun h2 => ?_)))
  · rw [show ind (0 ≤ a ∧ a ≤ 9) = 0 from if_neg (by omega)] at k
    exact k
  · rw [show ind (0 ≤ a ∧ a ≤ 9) = 0 from if_neg (by omega)] at k
    exact k
  · rw [show ind (0 ≤ a ∧ a ≤ 9) = 1 from if_pos (by omega)] at k
    exact k
theorem gcd_wp (v0 v2 : Int) (M : MM) (hQ : ∀ r, in64 r → r ≠ 0 → Q (vl r) M) : ∀ (n : Nat) (x y : Int) (o8 o9 : Option Vv), y.natAbs ≤ n → (x ≠ 0 ∨ y ≠ 0) → in64 x → in64 y → WP F sc Y (d + 1) m_X12_gcd 4 [] [some (vl v0), none, some (vl v2), none, some (vl x), none, some (vl y), none, o8, o9] M Q := by
  intro n
  induction n with
  | zero =>
    intro x y o8 o9 hn hxy hx hy
    have hy0 : y = 0 := by omega
    subst hy0
    exact rg_X12_gcd_4 v0 v2 x 0 o8 o9 M (brT (by have := flcm3 0 0; omega) (hQ x hx (by omega)))
  | succ n ih =>
    intro x y o8 o9 hn hxy hx hy
    have hf := flcm3 y 0
    refine rg_X12_gcd_4 v0 v2 x y o8 o9 M (brP (fun h => hQ x hx (by omega)) fun h => ?_)
    have hy0 : y ≠ 0 := by omega
    refine gA hy0 (ih y (Int.tmod x y) _ _ ?_ (.inl hy0) hy (in64_tmod y hx))
    have h1 : (Int.tmod x y).natAbs = x.natAbs % y.natAbs := Int.natAbs_tmod x y
    have h2 : x.natAbs % y.natAbs < y.natAbs := Nat.mod_lt _ (by omega)
    omega
/-- the spot beside, or -1 -/
def besX (v w : Int) : Int := v % 8 + (if w = 1 then 1 else if w = 3 then -1 else 0)
def besY (v w : Int) : Int := v / 8 + (if w = 0 then 1 else if w = 2 then -1 else 0)
def bes (v w : Int) : Int := if (0 ≤ besX v w ∧ besX v w ≤ 7) ∧ (0 ≤ besY v w ∧ besY v w ≤ 7) then 8 * besY v w + besX v w else -1
theorem bes_wp (v w a b : Int) (o3 : Option Vv) (M : MM) (hv : 0 ≤ v ∧ v ≤ 63) (ha : a = besX v w) (hb : b = (if w = 0 then 1 else if w = 2 then -1 else 0)) (hd : -1 ≤ b ∧ b ≤ 1) (k : Q (vi (bes v w)) M) : WP F sc Y (d + 2) m_X12_beside 29 [vi b, vi (w32 (Int.tdiv v 8))] [some (vi v), some (vi w), some (vi a), o3] M Q := by
  have e1 : w32 (Int.tdiv v 8) = v / 8 := etdiv hv.1 (by omega) (by decide)
  rw [e1]
  have e2 : w32 (v / 8 + b) = besY v w := by
    rw [ew32 (by omega) (by omega), hb]
    rfl
  refine rg_X12_beside_29 v w a o3 _ _ M ?_
  rw [e2]
  have hY : -1 ≤ besY v w ∧ besY v w ≤ 8 := by
    have : besY v w = v / 8 + b := by rw [hb]; rfl
    omega
  refine s_in a 0 7 M (brI0 (fun h => ?_) fun h => s_in _ 0 7 M (brI0 (fun h2 => ?_) fun h2 => ?_))
  · rw [show bes v w = -1 from if_neg (fun q => h (by rw [ha]; exact q.1))] at k
    exact k
  · rw [show bes v w = -1 from if_neg (fun q => h2 q.2)] at k
    exact k
  · rw [ew32 (z := 8 * besY v w) (by omega) (by omega), ew32 (by omega) (by omega), ha]
    rw [show bes v w = 8 * besY v w + besX v w from if_pos ⟨by rw [← ha]; exact h, h2⟩] at k
    exact k
theorem s_beside (v w : Int) (M : MM) (hv : 0 ≤ v ∧ v ≤ 63) (k : Q (vi (bes v w)) M) : CA F sc Y (d + 2) m_X12_beside [vi v, vi w] M Q := by
  have e1 : Int.tmod v 8 = v % 8 := etmod hv.1
  have hx : ∀ a, a = (if w = 1 then 1 else if w = 3 then -1 else 0) → -1 ≤ a → a ≤ 1 → WP F sc Y (d + 2) m_X12_beside 14 [vi a, vi (Int.tmod v 8)] [some (vi v), some (vi w), none, none] M Q := by
    intro a ha h1 h2
    have e2 : w32 (Int.tmod v 8 + a) = besX v w := by
      rw [e1, ew32 (by omega) (by omega), ha]
      rfl
    refine rg_X12_beside_14 v w none none _ _ M ?_
    refine brP (fun q0 => brP (fun q2 => ?_) fun q2 => ?_) fun q0 => ?_
    · exact bes_wp v w _ 0 none M hv e2 (by rw [if_neg q0, if_neg q2]) (by omega) k
    · exact bes_wp v w _ (-1) none M hv e2 (by rw [if_neg q0, if_pos (Classical.not_not.mp q2)]) (by omega) k
    · exact bes_wp v w _ 1 none M hv e2 (by rw [if_pos (Classical.not_not.mp q0)]) (by omega) k
  refine ca_X12_beside v w M (brP (fun q1 => brP (fun q3 => ?_) fun q3 => ?_) fun q1 => ?_)
  · exact hx 0 (by rw [if_neg q1, if_neg q3]) (by omega) (by omega)
  · exact hx (-1) (by rw [if_neg q1, if_pos (Classical.not_not.mp q3)]) (by omega) (by omega)
  · exact hx 1 (by rw [if_pos (Classical.not_not.mp q1)]) (by omega) (by omega)
theorem bes_0 {v : Int} (hv : 0 ≤ v ∧ v ≤ 63) : bes v 0 = if v < 56 then v + 8 else -1 := by
  have hx : besX v 0 = v % 8 := by
    unfold besX
    simp
  have hy : besY v 0 = v / 8 + 1 := rfl
  unfold bes
  rw [hx, hy]
  split <;> split <;> omega
theorem bes_2 {v : Int} (hv : 0 ≤ v ∧ v ≤ 63) : bes v 2 = if 8 ≤ v then v - 8 else -1 := by
  have hx : besX v 2 = v % 8 := by
    unfold besX
    simp
  have hy : besY v 2 = v / 8 + -1 := rfl
  unfold bes
  rw [hx, hy]
  split <;> split <;> omega
theorem bes_1 {v : Int} (hv : 0 ≤ v ∧ v ≤ 63) : bes v 1 = if v % 8 < 7 then v + 1 else -1 := by
  have hx : besX v 1 = v % 8 + 1 := rfl
  have hy : besY v 1 = v / 8 := by
    unfold besY
    simp
  unfold bes
  rw [hx, hy]
  split <;> split <;> omega
theorem bes_3 {v : Int} (hv : 0 ≤ v ∧ v ≤ 63) : bes v 3 = if 0 < v % 8 then v - 1 else -1 := by
  have hx : besX v 3 = v % 8 + -1 := rfl
  have hy : besY v 3 = v / 8 := by
    unfold besY
    simp
  unfold bes
  rw [hx, hy]
  split <;> split <;> omega
/-- where a walk along a line still is ahead of its end -/
def lineOk (w at' to : Int) : Prop := (0 ≤ at' ∧ at' ≤ 63) ∧ ((w = 0 ∧ at' % 8 = to % 8 ∧ at' ≤ to) ∨ (w = 2 ∧ at' % 8 = to % 8 ∧ to ≤ at') ∨ (w = 1 ∧ at' / 8 = to / 8 ∧ at' ≤ to) ∨ (w = 3 ∧ at' / 8 = to / 8 ∧ to ≤ at'))
theorem line_next {w a to : Int} (h : lineOk w a to) (ht : 0 ≤ to ∧ to ≤ 63) (hn : a ≠ to) : lineOk w (bes a w) to ∧ (to - bes a w).natAbs < (to - a).natAbs := by
  obtain ⟨h0, ⟨rfl, h1, h2⟩ | ⟨rfl, h1, h2⟩ | ⟨rfl, h1, h2⟩ | ⟨rfl, h1, h2⟩⟩ := h
  · rw [bes_0 h0, if_pos (by omega)]
    exact ⟨⟨by omega, .inl ⟨rfl, by omega, by omega⟩⟩, by omega⟩
  · rw [bes_2 h0, if_pos (by omega)]
    exact ⟨⟨by omega, .inr (.inl ⟨rfl, by omega, by omega⟩)⟩, by omega⟩
  · rw [bes_1 h0, if_pos (by omega)]
    exact ⟨⟨by omega, .inr (.inr (.inl ⟨rfl, by omega, by omega⟩))⟩, by omega⟩
  · rw [bes_3 h0, if_pos (by omega)]
    exact ⟨⟨by omega, .inr (.inr (.inr ⟨rfl, by omega, by omega⟩))⟩, by omega⟩
end HDA
section HDB
variable {sc : List Int} {d : Nat} {Q : Vv → MM → Prop}
theorem seen_wp (v1 v2 w : Int) (M : MM) (h2 : 0 ≤ v2 ∧ v2 ≤ 63) (k0 : Q (vi 0) M) (k1 : Q (vi 1) M) : ∀ (n : Nat) (a : Int), (v2 - a).natAbs ≤ n → lineOk w a v2 → WP FF sc YF (d + 3) m_X12_isSeen 46 [] [some (vr 81), some (vi v1), some (vi v2), some (vi w), some (vi a)] M Q := by
  intro n
  induction n with
  | zero =>
    intro a hn hl
    exact rg_X12_isSeen_46 v1 v2 w a M (brT (by omega) k1)
  | succ n ih =>
    intro a hn hl
    refine rg_X12_isSeen_46 v1 v2 w a M (brP (fun _ => k1) fun hne => gI hl.1.1 (by have := hl.1.2; omega) (brP (fun _ => ?_) fun _ => k0))
    have hx := line_next hl h2 hne
    exact s_beside a w M hl.1 (ih _ (by omega) hx.1)
theorem s_isSeen (v1 v2 : Int) (M : MM) (h1 : 0 ≤ v1 ∧ v1 ≤ 63) (h2 : 0 ≤ v2 ∧ v2 ≤ 63) (k0 : Q (vi 0) M) (k1 : Q (vi 1) M) : CA FF sc YF (d + 3) m_X12_isSeen [vr 81, vi v1, vi v2] M Q := by
  have em : ∀ {v : Int}, 0 ≤ v ∧ v ≤ 63 → Int.tmod v 8 = v % 8 := fun h => etmod h.1
  have ed : ∀ {v : Int}, 0 ≤ v ∧ v ≤ 63 → w32 (Int.tdiv v 8) = v / 8 := fun h => etdiv h.1 (by omega) (by decide)
  refine ca_X12_isSeen v1 v2 M (brP (fun hne => ?_) fun _ => k1)
  rw [em h1, em h2, ed h1, ed h2]
  have h21 : (v1 % 8 = v2 % 8 ∨ v1 / 8 = v2 / 8) → WP FF sc YF (d + 3) m_X12_isSeen 21 [] [some (vr 81), some (vi v1), some (vi v2), none, none] M Q := by
    intro hl
    refine rg_X12_isSeen_21 v1 v2 none none M ?_
    rw [em h1, em h2]
    refine brP (fun q => ?_) fun q => ?_
    · have hr : v1 / 8 = v2 / 8 := by omega
      refine brP (fun g => ?_) fun g => ?_
      · have hl : lineOk 3 v1 v2 := ⟨h1, .inr (.inr (.inr ⟨rfl, hr, g⟩))⟩
        exact s_beside v1 3 M h1 (seen_wp v1 v2 3 M h2 k0 k1 _ _ (Nat.le_refl _) (line_next hl h2 hne).1)
      · have hl : lineOk 1 v1 v2 := ⟨h1, .inr (.inr (.inl ⟨rfl, hr, by omega⟩))⟩
        exact s_beside v1 1 M h1 (seen_wp v1 v2 1 M h2 k0 k1 _ _ (Nat.le_refl _) (line_next hl h2 hne).1)
    · have hr : v1 % 8 = v2 % 8 := Classical.not_not.mp q
      refine brP (fun g => ?_) fun g => ?_
      · have hl : lineOk 2 v1 v2 := ⟨h1, .inr (.inl ⟨rfl, hr, g⟩)⟩
        exact s_beside v1 2 M h1 (seen_wp v1 v2 2 M h2 k0 k1 _ _ (Nat.le_refl _) (line_next hl h2 hne).1)
      · have hl : lineOk 0 v1 v2 := ⟨h1, .inl ⟨rfl, hr, by omega⟩⟩
        exact s_beside v1 0 M h1 (seen_wp v1 v2 0 M h2 k0 k1 _ _ (Nat.le_refl _) (line_next hl h2 hne).1)
  refine brP (fun g => h21 (.inl g)) fun g => brP (fun g => h21 (.inr g)) fun g => k0
end HDB
theorem hd_X12_isSeen {J : MM → Prop} : ai_SP ax_T J ap_X12_isSeen := ax_hand rfl (fun sc d ρ M Q hK hG hJ hQ => by
  show CA FF sc YF (d + 3) m_X12_isSeen [vr 81, vi (ρ 0), vi (ρ 1)] M Q
  have e0 := (hK.1 _ List.mem_cons_self).2
  have e1 := (hK.1 _ (List.mem_cons_of_mem _ List.mem_cons_self)).2
  have e0 : 0 ≤ ρ 0 ∧ ρ 0 ≤ 63 := e0
  have e1 : 0 ≤ ρ 1 ∧ ρ 1 ≤ 63 := e1
  exact s_isSeen _ _ M e0 e1 (hQ _ _ hG ax_fr0 (ax_poI (by decide) (by decide))) (hQ _ _ hG ax_fr0 (ax_poI (by decide) (by decide))))
theorem hd_X12_gcd {J : MM → Prop} : ai_SP ax_T J ap_X12_gcd := ax_hand rfl (fun sc d ρ M Q hK hG hJ hQ => by
  show CA FF sc YF (d + 1) m_X12_gcd [vl (ρ 0), vl (ρ 1)] M Q
  have e0 := (hK.1 _ List.mem_cons_self).2
  have e1 := (hK.1 _ (List.mem_cons_of_mem _ List.mem_cons_self)).2
  have e0 : -9223372036854775808 ≤ ρ 0 ∧ ρ 0 ≤ 9223372036854775807 := e0
  have e1 : 1 ≤ ρ 1 ∧ ρ 1 ≤ 10000000000 := e1
  refine ca_X12_gcd _ _ M (gcd_wp _ _ M (fun r hr hn => hQ _ _ hG ax_fr0 ?_) _ _ _ _ _ (Nat.le_refl _) (.inr (by omega)) ⟨by omega, by omega⟩ ⟨by omega, by omega⟩)
  refine ⟨_, List.mem_cons_self, rfl, ai_up ρ 2 r, fun s hs => if_neg (by have : s < 2 := hs; omega), ?_, ?_, ?_, ?_, ?_⟩
  · show vl r = vl (ai_up ρ 2 r 2)
    rw [ai_up_at]
  · refine ax_e1 (by decide) ?_ ?_ ax_e0
    · show -9223372036854775808 ≤ ai_up ρ 2 r 2
      rw [ai_up_at]
      exact hr.1
    · show ai_up ρ 2 r 2 ≤ 9223372036854775807
      rw [ai_up_at]
      have := hr.2
      omega
  · exact ax_f0
  · exact ax_c0
  · refine ax_m1 rfl ?_ ax_m0
    show 1 * ai_up ρ 2 r 2 + 0 + 0 ≠ 0
    rw [ai_up_at]
    omega)
