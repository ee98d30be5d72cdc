/-! PART 83: pairs of calls on the fresh objects that do little -/
section PRS
variable {sc : List Int}
theorem p_quarter (a0 : Int) : in32 a0 → PrI sc m_X11_quarter m_X12_quarter [vi a0] := fun _ M hC _ _ => ⟨-1, ca_X11_quarter a0 M (s_hasText_f hC a0 120 ((And.intro rfl up0))), fun M1 hM => by
  have e : M1 81 10 = 0 := hM.at 81 10 0 (by decide) rfl
  exact ca_X12_quarter a0 M1 (s_in a0 1 120 M1 (brI0 (fun _ => rfl) fun hp => brF (by omega) rfl))⟩
theorem p_walk (a0 a1 : Int) : in32 a0 → in32 a1 → PrI sc m_X11_walk m_X12_walk [vi a0, vi a1] := fun _ _ M hC _ _ => ⟨-1, ca_X11_walk a0 a1 M (s_isHouse a0 M (brI0 (fun _ => (And.intro rfl up0)) fun _ => s_hasText_f hC a1 80 ((And.intro rfl up0)))), fun M1 hM => by
  have e : M1 81 10 = 0 := hM.at 81 10 0 (by decide) rfl
  exact ca_X12_walk a0 a1 M1 (s_isTen a0 M1 (brI0 (fun _ => rfl) fun _ => s_in a1 1 80 M1 (brI0 (fun _ => rfl) fun hp => brF (by omega) rfl)))⟩
theorem p_law (a0 : Int) : in32 a0 → PrI sc m_X11_law m_X12_law [vi a0] := fun _ M hC _ _ => ⟨-1, ca_X11_law a0 M (s_hasText_f hC a0 240 ((And.intro rfl up0))), fun M1 hM => by
  have e : M1 81 10 = 0 := hM.at 81 10 0 (by decide) rfl
  exact ca_X12_law a0 M1 (s_in a0 1 240 M1 (brI0 (fun _ => rfl) fun hp => brF (by omega) rfl))⟩
theorem M0_58 (j : Nat) : M0 58 j = 0 := rfl
theorem spot_in {x y : Int} (hx : 0 ≤ x ∧ x ≤ 7) (hy : 0 ≤ y ∧ y ≤ 7) : w32 (w32 (8 * y) + x) = 8 * y + x := by
  rw [w32_of (z := 8 * y) ⟨by omega, by omega⟩, w32_of ⟨by omega, by omega⟩]
theorem p_stranger (a0 a1 a2 a3 : Int) : in32 a0 → in32 a1 → in32 a2 → in32 a3 → PrI sc m_X11_stranger m_X12_stranger [vi a0, vi a1, vi a2, vi a3] := fun _ _ _ _ M hC _ _ => by
  refine ⟨ind ((0 ≤ a0 ∧ a0 ≤ 9) ∧ (0 ≤ a1 ∧ a1 ≤ 7) ∧ (0 ≤ a2 ∧ a2 ≤ 7) ∧ (1 ≤ a3 ∧ a3 ≤ 999)), ?_, fun M1 hM => ?_⟩
  · refine ca_X11_stranger a0 a1 a2 a3 M (s_isStranger a0 M (brI0 (fun _ => ⟨iv0 (by omega), up0⟩) fun h0 => s_isIn a1 0 7 M (brI0 (fun _ => ⟨iv0 (by omega), up0⟩) fun h1 => s_isIn a2 0 7 M (brI1 (fun h2 => s_isIn a3 1 999 M (brI0 (fun _ => ⟨iv0 (by omega), up0⟩) fun h3 => ?_)) (fun _ => ⟨iv0 (by omega), up0⟩)))))
    have e := f_10 hC
    rw [e, spot_in h1 h2]
    refine gA (by decide) (gB rfl (ca_X9_isWall (8 * a2 + a1) M (ca_X9_at (8 * a2 + a1) M (brF (by omega) (brF (by omega) (gI (by omega) (by omega) ?_))))))
    rw [hC.at 58 (8 * a2 + a1).toNat 0 (by decide) rfl]
    refine ((ca_X8_putStranger a0 _ a3 M (gI h0.1 (by omega) (gI h0.1 (by omega) (gI h0.1 (by omega) (gI h0.1 (by omega) ⟨iv1 ⟨h0, h1, h2, h3⟩, ?_⟩))))))
    exact up_st (by decide) (up_st (by decide) (up_st (by decide) (up_st (by decide) up0)))
  · refine ca_X12_stranger a0 a1 a2 a3 M1 (s_isTen a0 M1 (brI0 (fun _ => iv0 (by omega)) fun h0 => s_in a1 0 7 M1 (brI0 (fun _ => iv0 (by omega)) fun h1 => s_in a2 0 7 M1 (brI0 (fun _ => iv0 (by omega)) fun h2 => s_in a3 1 999 M1 (brI0 (fun _ => iv0 (by omega)) fun h3 => ?_)))))
    rw [spot_in h1 h2, hM.at 85 (8 * a2 + a1).toNat 0 (by decide) rfl, w32_of (z := 0 + a0) ⟨by omega, by omega⟩, w32_of (z := 10 + a0) ⟨by omega, by omega⟩, w32_of (z := 20 + a0) ⟨by omega, by omega⟩]
    exact gI (by omega) (by omega) ((gI (by omega) (by omega) (gI (by omega) (by omega) (gI (by omega) (by omega) (iv1 ⟨h0, h1, h2, h3⟩)))))
theorem p_dog (a b : Int) : in32 a → (b = 0 ∨ b = 1) → PrI sc m_X11_dog m_X12_dog [vi a, vi b] := fun _ _ M hC _ _ => ⟨ind (0 ≤ a ∧ a ≤ 9), ca_X11_dog a b M (s_isHouse a M (brI1 (fun h => brP (fun _ => ⟨iv1 h, up_st (by decide) (up_st (by decide) up0)⟩) (fun _ => ⟨iv1 h, up_st (by decide) (up_st (by decide) up0)⟩)) fun h => ⟨iv0 h, up0⟩)), fun M1 hM => ca_X12_dog a b M1 (s_isTen a M1 (brI1 (fun h => brP (fun _ => iv1 h) (fun _ => iv1 h)) fun h => iv0 h))⟩
theorem p_tells (a0 : Int) : in32 a0 → PrI sc m_X11_tells m_X12_tells [vi a0] := fun _ M hC _ _ => ⟨0, ca_X11_tells a0 M (s_isHouse a0 M (brI0 (fun _ => (And.intro rfl up0)) fun _ => s_hasBit0 a0 M (hC.at 0 15 0 (by decide) rfl) ((And.intro rfl up0)))), fun M1 hM => ca_X12_tells a0 M1 (s_isTen a0 M1 (brI0 (fun _ => rfl) fun _ => s_has0 a0 M1 (hM.at 81 8 0 (by decide) rfl) (rfl)))⟩
theorem p_haunts (a0 : Int) : in32 a0 → PrI sc m_X11_haunts m_X12_haunts [vi a0] := fun _ M hC _ _ => ⟨-1, ca_X11_haunts a0 M (s_hasSpot_f hC a0 ((And.intro rfl up0))), fun M1 hM => ca_X12_haunts a0 M1 (s_hasSpot_m hM a0 (rfl))⟩
theorem p_tried (a0 a1 : Int) : in32 a0 → in32 a1 → PrI sc m_X11_tried m_X12_tried [vi a0, vi a1] := fun _ _ M hC _ _ => ⟨-1, ca_X11_tried a0 a1 M (s_hasSpot_f hC a0 ((And.intro rfl up0))), fun M1 hM => ca_X12_tried a0 a1 M1 (s_hasSpot_m hM a0 (rfl))⟩
theorem p_strangerIs (a0 a1 : Int) : in32 a0 → in32 a1 → PrI sc m_X11_strangerIs m_X12_strangerIs [vi a0, vi a1] := fun _ _ M hC _ _ => ⟨-1, ca_X11_strangerIs a0 a1 M (s_isStranger a0 M (brI0 (fun _ => (And.intro rfl up0)) fun h => s_isTold_f hC h ((And.intro rfl up0)))), fun M1 hM => ca_X12_strangerIs a0 a1 M1 (s_isTold_m hM a0 (rfl))⟩
def hvI (w : Int) : Int := if w = 0 then -2 else if w = 1 then 0 else if w = 2 then 0 else if w = 3 then 0 else if w = 4 then 0 else -1
theorem s_dogOf {M : MM} (hC : FrC M) (v : Int) {d : Nat} {Q : Vv → MM → Prop} (k : Q (vi 0) M) : CA FF sc YF (d + 2) m_X11_dogOf [vr 0, vi v] M Q := ca_X11_dogOf v M (s_hasBit0 v M (hC.at 0 15 0 (by decide) rfl) (k))
theorem p_houseIs (a0 a1 : Int) : in32 a0 → in32 a1 → PrI sc m_X11_houseIs m_X12_houseIs [vi a0, vi a1] := fun _ _ M hC _ _ => by
  by_cases h : 0 ≤ a0 ∧ a0 ≤ 9
  · refine ⟨hvI a1, ca_X11_houseIs a0 a1 M (s_isHouse a0 M (brI1 (fun _ => ?_) fun q => (q h).elim)), fun M1 hM => ca_X12_houseIs a0 a1 M1 (s_isTen a0 M1 (brI1 (fun _ => ?_) fun q => (q h).elim))⟩
    · rw [f_10 hC]
      refine ⟨fun e => ?_, fun e0 => ⟨fun e => ?_, fun e1 => ⟨fun e => ?_, fun e2 => ⟨fun e => ?_, fun e3 => ⟨fun e => ?_, fun e4 => ⟨?_, up0⟩⟩⟩⟩⟩⟩
      · subst e
        exact gA (by decide) (gB rfl (gK rfl h.1 (show a0 < 10 by omega) (brF (fun q => q (f_59 hC h)) (And.intro rfl up0))))
      · subst e
        exact gI h.1 (by omega) ⟨congrArg vi (hC.at 4 _ 0 (by decide) rfl), up0⟩
      · subst e
        exact s_dogOf hC a0 (And.intro rfl up0)
      · subst e
        exact ca_X11_canHaunt a0 M (s_hasSpot_f hC a0 (((And.intro rfl up0))))
      · subst e
        exact gI h.1 (by omega) ⟨congrArg vi (hC.at 56 _ 0 (by decide) rfl), up0⟩
      · refine congrArg vi ?_
        unfold hvI
        rw [if_neg e0, if_neg e1, if_neg e2, if_neg e3, if_neg e4]
    · refine ⟨fun e => ?_, fun e0 => ⟨fun e => ?_, fun e1 => ⟨fun e => ?_, fun e2 => ⟨fun e => ?_, fun e3 => ⟨fun e => ?_, fun e4 => ?_⟩⟩⟩⟩⟩
      · subst e
        exact gI h.1 (by omega) (congrArg vi (f_86 hM h))
      · subst e
        exact gI h.1 (by omega) (congrArg vi (hM.at 88 _ 0 (by decide) rfl))
      · subst e
        exact s_has0 a0 M1 (hM.at 81 8 0 (by decide) rfl) (rfl)
      · subst e
        exact s_hasSpot_m hM a0 (rfl)
      · subst e
        exact gI h.1 (by omega) (congrArg vi (hM.at 87 _ 0 (by decide) rfl))
      · refine congrArg vi ?_
        unfold hvI
        rw [if_neg e0, if_neg e1, if_neg e2, if_neg e3, if_neg e4]
  · exact ⟨-1, ca_X11_houseIs a0 a1 M (s_isHouse a0 M (brI1 (fun q => (h q).elim) fun _ => (And.intro rfl up0))), fun M1 hM => ca_X12_houseIs a0 a1 M1 (s_isTen a0 M1 (brI1 (fun q => (h q).elim) fun _ => rfl))⟩
theorem p_meet (a0 a1 a2 : Int) : in32 a0 → in32 a1 → in32 a2 → PrI sc m_X11_meet m_X12_meet [vi a0, vi a1, vi a2] := fun _ _ _ M hC _ _ => ⟨-1, ca_X11_meet a0 a1 a2 M (s_hasSpot_f hC a0 ((And.intro rfl up0))), fun M1 hM => ca_X12_meet a0 a1 a2 M1 (s_hasSpot_m hM a0 (rfl))⟩
theorem p_dread (a0 a1 a2 : Int) : in32 a0 → in32 a1 → in32 a2 → PrI sc m_X11_dread m_X12_dread [vi a0, vi a1, vi a2] := fun _ _ _ M hC _ _ => ⟨-1, ca_X11_dread a0 a1 a2 M (s_hasSpot_f hC a0 ((And.intro rfl up0))), fun M1 hM => ca_X12_dread a0 a1 a2 M1 (s_hasSpot_m hM a0 (rfl))⟩
theorem p_unseen (a0 a1 a2 : Int) : in32 a0 → in32 a1 → in32 a2 → PrI sc m_X11_unseen m_X12_unseen [vi a0, vi a1, vi a2] := fun _ _ _ M hC _ _ => ⟨-1, ca_X11_unseen a0 a1 a2 M (s_hasSpot_f hC a0 ((And.intro rfl up0))), fun M1 hM => ca_X12_unseen a0 a1 a2 M1 (s_hasSpot_m hM a0 (rfl))⟩
theorem p_feared (a0 a1 : Int) : in32 a0 → in32 a1 → PrI sc m_X11_feared m_X12_feared [vi a0, vi a1] := fun _ _ M hC _ _ => ⟨-1, ca_X11_feared a0 a1 M (s_isStranger a0 M (brI0 (fun _ => (And.intro rfl up0)) fun h => s_isTold_f hC h ((And.intro rfl up0)))), fun M1 hM => ca_X12_feared a0 a1 M1 (s_isTold_m hM a0 (rfl))⟩
theorem p_sightings (a0 a1 : Int) : in32 a0 → in32 a1 → PrI sc m_X11_sightings m_X12_sightings [vi a0, vi a1] := fun _ _ M hC _ _ => ⟨-1, by
  have e : M 1 1 = 0 := hC.at 1 1 0 (by decide) rfl
  exact ca_X11_sightings a0 a1 M (s_isIn a0 1 10 M (brI0 (fun _ => (And.intro rfl up0)) fun h => s_isIn a1 0 1 M (brI0 (fun _ => (And.intro rfl up0)) fun _ => brF (by rw [w32_of ⟨by omega, by omega⟩]; omega) (And.intro rfl up0)))), fun M1 hM => by
  have e : M1 81 10 = 0 := hM.at 81 10 0 (by decide) rfl
  exact ca_X12_sightings a0 a1 M1 (s_in a0 1 10 M1 (brI0 (fun _ => rfl) fun h => s_in a1 0 1 M1 (brI0 (fun _ => rfl) fun _ => brF (by rw [w32_of ⟨by omega, by omega⟩]; omega) rfl)))⟩
theorem p_odds (a0 a1 a2 : Int) : in32 a0 → in32 a1 → in32 a2 → PrJ sc m_X11_odds m_X12_odds [vi a0, vi a1, vi a2] := fun _ _ _ M hC _ _ => ⟨-1, ca_X11_odds a0 a1 a2 M (s_isIn a0 0 1023 M (brI0 (fun _ => (And.intro rfl up0)) fun _ => s_hasSpot_f hC a1 ((And.intro rfl up0)))), fun M1 hM => ca_X12_odds a0 a1 a2 M1 (s_in a0 0 1023 M1 (brI0 (fun _ => rfl) fun _ => s_hasSpot_m hM a1 (rfl)))⟩
theorem p_tax (a0 : Int) : in32 a0 → PrI sc m_X11_tax m_X12_tax [vi a0] := fun _ M hC _ _ => ⟨-1, ca_X11_tax a0 M (s_isHouse a0 M (brI0 (fun _ => (And.intro rfl up0)) fun _ => brF (by rw [hC.at 1 1 0 (by decide) rfl]; decide) (And.intro rfl up0))), fun M1 hM => ca_X12_tax a0 M1 (s_isTen a0 M1 (brI0 (fun _ => rfl) fun _ => brF (by rw [hM.at 81 10 0 (by decide) rfl]; decide) rfl))⟩
theorem p_hand (a0 a1 : Int) : in32 a0 → in32 a1 → PrI sc m_X11_hand m_X12_hand [vi a0, vi a1] := fun _ _ M hC _ _ => ⟨ind ((0 ≤ a0 ∧ a0 ≤ 9) ∧ (0 ≤ a1 ∧ a1 ≤ 255)), ca_X11_hand a0 a1 M (s_isHouse a0 M (brI0 (fun h => ⟨iv0 (fun q => h q.1), up0⟩) fun h => s_isIn a1 0 255 M (brI1 (fun g => gI h.1 (by omega) ⟨iv1 ⟨h, g⟩, up_st (by decide) up0⟩) fun g => ⟨iv0 (fun q => g q.2), up0⟩))), fun M1 hM => ca_X12_hand a0 a1 M1 (s_isTen a0 M1 (brI0 (fun h => iv0 (fun q => h q.1)) fun h => s_in a1 0 255 M1 (brI1 (fun g => gI h.1 (by omega) (iv1 ⟨h, g⟩)) fun g => iv0 (fun q => g q.2))))⟩
theorem p_seed (a0 : Int) : in32 a0 → PrI sc m_X11_seed m_X12_seed [vi a0] := fun _ M hC _ _ => ⟨ind (0 ≤ a0 ∧ a0 ≤ 65535), ca_X11_seed a0 M (s_isIn a0 0 65535 M (brI1 (fun h => ⟨iv1 h, up_st (by decide) up0⟩) fun h => ⟨iv0 h, up0⟩)), fun M1 hM => ca_X12_seed a0 M1 (s_in a0 0 65535 M1 (brI1 (fun h => iv1 h) fun h => iv0 h))⟩
theorem p_undo : PrI sc m_X11_undo m_X12_undo [] := fun M hC _ _ => ⟨0, ca_X11_undo M (by
  rw [hC.at 0 14 0 (by decide) rfl]
  exact (gB rfl (And.intro rfl up0))), fun M1 hM => ca_X12_undo M1 (by
  rw [hM.at 81 61 0 (by decide) rfl]
  exact rfl)⟩
theorem p_check (a0 : Int) : in32 a0 → PrI sc m_X11_check m_X12_check [vi a0] := fun _ M hC _ _ => by
  have e : M 1 1 = 0 := hC.at 1 1 0 (by decide) rfl
  by_cases h0 : a0 = 0
  · refine ⟨-1, ca_X11_check a0 M (s_isIn a0 0 10 M (brI0 (fun q => (q ⟨by omega, by omega⟩).elim) fun _ => brT (by rw [e, w32_of ⟨by omega, by omega⟩]; omega) (rg_X11_check_20 a0 (-1) _ M (brT (by rw [w32_of ⟨by omega, by omega⟩]; omega) (ca_X7_empty M ⟨rfl, up_st (by decide) up0⟩))))), fun M1 hM => ca_X12_check a0 M1 (s_in a0 0 10 M1 (brI0 (fun q => (q ⟨by omega, by omega⟩).elim) fun _ => brT (by rw [hM.at 81 10 0 (by decide) rfl, show w32 (Int.tdiv 0 4) = 0 from rfl]; omega) (rg_X12_check_18 a0 0 _ (brT (by omega) rfl))))⟩
  · refine ⟨-2, ca_X11_check a0 M (s_isIn a0 0 10 M (brI0 (fun _ => (And.intro rfl up0)) fun h => brF (by rw [e, w32_of ⟨by omega, by omega⟩]; omega) (And.intro rfl up0))), fun M1 hM => ca_X12_check a0 M1 (s_in a0 0 10 M1 (brI0 (fun _ => rfl) fun h => brF (by rw [hM.at 81 10 0 (by decide) rfl, show w32 (Int.tdiv 0 4) = 0 from rfl]; omega) rfl))⟩
end PRS
