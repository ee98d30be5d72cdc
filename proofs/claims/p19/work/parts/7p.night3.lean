/-! PART 7p: the reference's NIGHT, whole; haunts -/
theorem pc_X11_haunts {sc : List Int} {n : Nat} {Q : Vv → MM → Prop} (v1 : Int) (M : MM) (h : ∀ n1, n1 < n → PC sc n1 m_X11_hasSpot [vr 0, vi v1] M (cI fun r2 M1 =>
  brA (decide (r2 = 0))
   (Q (vi ((-1))) M1)
   (brA (decide ((M1 46 6) < 9999))
    (gIm (decide (0 < M1 0 12)) (gIm (kd YF ((M1 0 12).toNat - 1) == 10) (PC sc n1 m_X0_mayHaunt [vr ((M1 0 12).toNat - 1), vi v1, vi (M1 46 6)] M1 (cI fun r4 M3 =>
     brA (decide (r4 ≠ 0))
      (gIm (decide (0 < M3 0 10)) (gIm (decide (0 < M3 0 12)) (PC sc n1 m_X11_dogsAgainst [vr 0, vi v1] M3 (cI fun r6 M5 =>
       PC sc n1 m_X2_pass [vr 24, vr ((M3 0 10).toNat - 1), vr 3, vr ((M3 0 12).toNat - 1), vr 46, vi v1, vi r6] M5 (fun _ M7 =>
        PC sc n1 m_X8_copy [vr 46, vr 25] M7 (fun _ M8 =>
         Q (vi (M8 24 4)) (stM M8 46 6 (w32 ((M8 46 6) + 1)))))))))
      (Q (vi ((-2))) M3)))))
    (Q (vi ((-1))) M1)))) : PC sc n m_X11_haunts [vr 0, vi v1] M Q := pc_go rfl (fun j => false) 58 h
theorem pc_X11_dogsAgainst {sc : List Int} {n : Nat} {Q : Vv → MM → Prop} (v1 : Int) (M : MM) (h : ∀ n1, n1 < n → Q (vi (bAnd (bAnd (M 0 15) (bXor (M 46 4) ((-1)))) (bXor (bShl 1 v1) ((-1))))) M) : PC sc n m_X11_dogsAgainst [vr 0, vi v1] M Q := pc_go rfl (fun j => false) 20 h
theorem pc_X12_haunts {sc : List Int} {n : Nat} {Q : Vv → MM → Prop} (v1 : Int) (M : MM) (h : ∀ n1, n1 < n → PC sc n1 m_X12_hasSpot [vr 81, vi v1] M (cI fun r2 M1 =>
  brA (decide (r2 = 0))
   (Q (vi ((-1))) M1)
   (brA (decide ((M1 82 34) ≠ 9999))
    (PC sc n1 m_X12_mayHaunt [vr 81, vi v1, vi (M1 82 34)] M1 (cI fun r4 M3 =>
     brA (decide (r4 ≠ 0))
      (PC sc n1 m_X12_nightOf [vr 81, vi v1] M3 (fun _ M5 =>
       Q (vi (M5 81 45)) M5))
      (Q (vi ((-2))) M3)))
    (Q (vi ((-1))) M1)))) : PC sc n m_X12_haunts [vr 81, vi v1] M Q := pc_go rfl (fun j => false) 33 h
section NGN
variable {sc : List Int} {Q : Vv → MM → Prop}
set_option maxRecDepth 20000 in
theorem f_nightM {M0 : MM} {R : Nat → Int} (eR : ∀ j, j < 36 → M0 82 j = R j) (J : lwJ M0) (hR : ∀ g, g < 10 → 0 ≤ R g ∧ R g ≤ 63) (hr : ngR (ngB R)) {h : Nat} (hh : h < 10) {sz : Nat} {a : Int} (ha : 0 ≤ a ∧ a ≤ 63) (e86 : M0 86 h = a) (e88 : M0 88 h = (sz : Int)) (hsz : sz ≤ 60) {n : Nat} (k : ∀ M1, rgF M0 M1 → (∀ g, g < 10 → M1 82 (10 + g) = (ngT R (M0 85) (fwV M0 R h) (posV (M0 85) (fun i => M0 89 (60 * h + i)) sz a) (sz + 1) (ngB R)).1 g ∧ bit (M1 82 31) g = (ngT R (M0 85) (fwV M0 R h) (posV (M0 85) (fun i => M0 89 (60 * h + i)) sz a) (sz + 1) (ngB R)).2 g) → (∀ j, j < 36 → (j < 10 ∨ 20 ≤ j) → j ≠ 31 → j ≠ 33 → j ≠ 34 → M1 82 j = R j) → M1 82 34 = w32 (R 34 + 1) → Q (vi 0) M1) : PC sc n m_X12_nightOf [vr 81, vi (h : Int)] M0 Q := by
  obtain ⟨P, hP⟩ : ∃ P, P = posV (M0 85) (fun i => M0 89 (60 * h + i)) sz a := ⟨_, rfl⟩
  rw [← hP] at k
  have hw : ∀ g s b t, 0 ≤ fwV M0 R h g s b t := fun g s b t => (fwV_r M0 R h g s b t).1
  have hPr : ∀ i, 0 ≤ P i ∧ P i ≤ 63 := fun i => by
    rw [hP]
    exact posV_r ha i
  have h0 : rgI R (ngB R) M0 := ⟨fun g hg => ⟨eR _ (by omega), by rw [eR 31 (by decide)]; rfl⟩, fun j hj _ _ _ => eR j hj⟩
  have lt : ∀ (m t n : Nat) (s : Int) (M1 : MM), t + m = sz + 1 → (t = 0 → s = P 0) → (∀ t', t = t' + 1 → s = P t') → rgF M0 M1 → rgI R (ngT R (M0 85) (fwV M0 R h) P t (ngB R)) M1 → PW sc n m_X12_nightOf 34 [] [some (vr 81), some (vi (h : Int)), some (vi s), some (vi (t : Int))] M1 Q := by
    intro m
    induction m with
    | zero =>
      intro t n s M1 hi s0 s1 F I
      have hi : t = sz + 1 := hi
      subst hi
      refine pw_X12_nightOf_34 _ _ _ M1 fun n1 _ => gMB ?_
      rw [show ((h : Int)).toNat = h by omega, F.1 88 (by decide) (by decide) (by decide), e88]
      refine brT (by omega) (k _ (F.st (.inl rfl)) (fun g hg => ?_) (fun j j1 j2 j3 j4 j5 => ?_) ?_)
      · rw [stO (by omega), stO (by decide)]
        exact I.1 g hg
      · rw [stO j5]
        exact I.2 j j1 j2 j3 j4
      · rw [stE, I.2 34 (by decide) (by decide) (by decide) (by decide)]
    | succ m ih =>
      intro t n s M1 hi s0 s1 F I
      have h56 : ∀ (n : Nat), PW sc n m_X12_nightOf 56 [] [some (vr 81), some (vi (h : Int)), some (vi (P t)), some (vi (t : Int))] M1 Q := fun n => by
        refine pw_X12_nightOf_56 _ _ _ M1 fun n1 _ => gMB ?_
        rw [show ((t : Int)).toNat = t by omega, show w32 ((t : Int) + 1) = ((t + 1 : Nat) : Int) from ew32 (by omega) (by omega)]
        refine f_minuteM J (fun g hg _ => by have := hR g hg; omega) (hPr t) (ngT_r hw hr t) (F.st (.inr (.inl (by decide)))) (I.eq (stK (by decide))) fun M2 F2 I2 => ih (t + 1) n1 _ M2 (by omega) (fun z => by omega) (fun t' z => ?_) F2 ?_
        · rw [show t = t' by omega]
        · rw [ngT_s]
          exact I2
      refine pw_X12_nightOf_34 _ _ _ M1 fun n1 _ => gMB ?_
      rw [show ((h : Int)).toNat = h by omega, F.1 88 (by decide) (by decide) (by decide), e88, show w32 (60 * (h : Int)) = 60 * (h : Int) from ew32 (by omega) (by omega), show w32 (60 * (h : Int) + (t : Int)) = 60 * (h : Int) + (t : Int) from ew32 (by omega) (by omega), show w32 (60 * (h : Int) + (t : Int) - 1) = 60 * (h : Int) + (t : Int) - 1 from ew32 (by omega) (by omega)]
      refine brF (by omega) (brP (fun ht => ?_) fun ht => gMB ?_)
      · have ht : t = 0 := by omega
        subst ht
        rw [s0 rfl]
        exact h56 n1
      · obtain ⟨t', ht'⟩ : ∃ t', t = t' + 1 := ⟨t - 1, by omega⟩
        rw [s1 t' ht', show (60 * (h : Int) + (t : Int) - 1).toNat = 60 * h + t' by omega, F.1 89 (by decide) (by decide) (by decide)]
        refine p_stepTo (hPr t') (cI_i ?_)
        have e : stpV (M1 85) (P t') (M0 89 (60 * h + t')) = P t := by
          rw [F.1 85 (by decide) (by decide) (by decide), ht', hP, posV_s, if_pos (by omega)]
        rw [e]
        exact h56 n1
  have lz : ∀ (m i n : Nat) (o3 : Option Vv) (M1 : MM), i + m = 10 → rgF M0 M1 → rgI R (ngB R) M1 → PW sc n m_X12_nightOf 17 [] [some (vr 81), some (vi (h : Int)), some (vi (i : Int)), o3] M1 Q := by
    intro m
    induction m with
    | zero =>
      intro i n o3 M1 hi F I
      have hi : i = 10 := hi
      subst hi
      refine pw_X12_nightOf_17 _ _ _ M1 fun n1 _ => brT (by decide) (gMB ?_)
      rw [show ((h : Int)).toNat = h by omega, F.1 86 (by decide) (by decide) (by decide), e86]
      exact lt (sz + 1) 0 n1 a M1 (Nat.zero_add _) (fun _ => by rw [hP]; rfl) (fun t' z => by omega) F I
    | succ m ih =>
      intro i n o3 M1 hi F I
      refine pw_X12_nightOf_17 _ _ _ M1 fun n1 _ => ?_
      rw [show w32 ((i : Int) + 1) = ((i + 1 : Nat) : Int) from ew32 (by omega) (by omega)]
      exact brF (by omega) (gMB (ih (i + 1) n1 _ _ (by omega) (F.st (.inr (.inl (by decide)))) (I.eq (stK (by decide)))))
  refine pc_X12_nightOf _ M0 fun n1 _ => lz 10 0 n1 none _ rfl (((((((show rgF M0 M0 from ⟨fun _ _ _ _ => rfl, fun _ _ => rfl⟩).st (.inr (.inr (by decide)))).st (.inr (.inr (by decide)))).st (.inr (.inr (by decide)))).st (.inr (.inr (by decide)))).st (.inr (.inr (by decide))))) ?_
  exact h0.eq (by rw [stK (by decide), stK (by decide), stK (by decide), stK (by decide), stK (by decide)])
end NGN
/- THE QUARTER as both sides hold it -/
theorem GdS.tw {M : MM} (G : GdS M) : ∃ T : Nat, (T = 57 ∨ T = 61) ∧ M 0 10 = (T : Int) + 1 ∧ (∀ j, j < 64 → M (T + 1) j = M 85 j) ∧ (∀ i, -1 ≤ M (T + 2) i ∧ M (T + 2) i ≤ 63) ∧ (∀ g, g < 10 → (0 ≤ M 86 g ↔ M (T + 2) g ≠ -1) ∧ (M (T + 2) g ≠ -1 → M (T + 2) g = M 86 g)) ∧ ((∃ h, h < 10 ∧ 0 ≤ M 86 h) → ∀ f t : Nat, f < 64 → t < 64 → bil (M (T + 3) f) t = seeB (M 85) f t) := by
  obtain ⟨T, hT, v0, v1, v2⟩ := id G.2.2.1
  have hr : ∀ i, -1 ≤ M (T + 2) i ∧ M (T + 2) i ≤ 63 := fun i => by
    rcases hT with e | e
    · subst e
      exact rA_59 G.1.1 i
    · subst e
      exact rA_63 G.1.1 i
  refine ⟨T, hT, v0, v1, hr, fun g hg => ?_, fun hx => ?_⟩
  · have e := v2 g hg
    have r := hr g
    unfold hm at e
    by_cases c : M (T + 2) g = -1
    · rw [if_pos c] at e
      exact ⟨⟨fun z => by omega, fun z => absurd c z⟩, fun z => absurd c z⟩
    · rw [if_neg c] at e
      exact ⟨⟨fun _ => c, fun _ => by omega⟩, fun _ => e⟩
  · rcases G.2.2.2.2 with s | ⟨T2, hT2, s0, s1⟩
    · obtain ⟨h, h1, h2⟩ := hx
      have := s h h1
      omega
    · have e : T2 = T := by omega
      subst e
      intro f t hf ht
      rw [s1 f t hf ht]
      exact seeB_K v1 _ _
section NGH
variable {sc : List Int} {M M1 : MM}
theorem r82s (G : ai_GI ax_T M) : ∀ g, g < 10 → 0 ≤ M 82 g ∧ M 82 g ≤ 63
  | 0, _ => rO_82_0 G
  | 1, _ => rO_82_1 G
  | 2, _ => rO_82_2 G
  | 3, _ => rO_82_3 G
  | 4, _ => rO_82_4 G
  | 5, _ => rO_82_5 G
  | 6, _ => rO_82_6 G
  | 7, _ => rO_82_7 G
  | 8, _ => rO_82_8 G
  | 9, _ => rO_82_9 G
  | n + 10, h => by omega
theorem r82f (G : ai_GI ax_T M) : ngR (ngB (M 82))
  | 0, _ => rO_82_10 G
  | 1, _ => rO_82_11 G
  | 2, _ => rO_82_12 G
  | 3, _ => rO_82_13 G
  | 4, _ => rO_82_14 G
  | 5, _ => rO_82_15 G
  | 6, _ => rO_82_16 G
  | 7, _ => rO_82_17 G
  | 8, _ => rO_82_18 G
  | 9, _ => rO_82_19 G
  | n + 10, h => by omega
theorem lwJ.of (g : axG M) : lwJ M := ⟨g.2.1, fun k _ => by have := rA_97 g.1 k; omega, by have := rO_81_19 g.1; omega⟩
def hnOk (M : MM) (h : Int) : Prop := ((0 ≤ h ∧ h ≤ 9) ∧ 0 ≤ M 86 h.toNat) ∧ M 82 34 < 9999 ∧ mh M h (M 82 34) ≠ 0
/- a NIGHT of a house, by what the reference holds -/
def hnS (M : MM) (h : Nat) : NS := ngT (M 82) (M 85) (fwV M (M 82) h) (posV (M 85) (fun i => M 89 (60 * h + i)) (M 88 h).toNat (M 86 h)) ((M 88 h).toNat + 1) (ngB (M 82))
def hnR (M : MM) (h : Nat) (R : Nat → Int) : Prop := (∀ g, g < 10 → R (10 + g) = (hnS M h).1 g ∧ bit (R 31) g = (hnS M h).2 g) ∧ (∀ j, j < 36 → (j < 10 ∨ 20 ≤ j) → j ≠ 31 → j ≠ 33 → j ≠ 34 → R j = M 82 j) ∧ R 34 = M 82 34 + 1
theorem hnS_eq {h : Nat} (e : ∀ c, 81 ≤ c → c < 108 → M1 c = M c) : hnS M1 h = hnS M h := by
  unfold hnS
  rw [fwV_eq (congrFun (e 81 (by decide) (by decide)) 19) (fun c c1 _ => e c (by omega) (by omega)), e 82 (by decide) (by decide), e 85 (by decide) (by decide), e 86 (by decide) (by decide), e 88 (by decide) (by decide), e 89 (by decide) (by decide)]
theorem hnOk_eq {h : Int} (e : ∀ c, 81 ≤ c → M1 c = M c) : hnOk M1 h ↔ hnOk M h := by
  unfold hnOk
  rw [mh_eq ⟨congrFun (e 81 (by decide)) 19, e 97 (by decide), e 98 (by decide), e 99 (by decide), e 100 (by decide), e 101 (by decide)⟩, e 82 (by decide), e 86 (by decide)]
theorem hnR_eq {h : Nat} {R : Nat → Int} (e : ∀ c, 81 ≤ c → M1 c = M c) : hnR M1 h R ↔ hnR M h R := by
  unfold hnR
  rw [hnS_eq fun c c1 _ => e c c1, e 82 (by decide)]
def MdN_haunts (h : Int) (M1 : MM) : Prop := (¬ hnOk M1 h → rN M1) ∧ (hnOk M1 h → ∀ R : Nat → Int, hnR M1 h.toNat R → nwP M1 (M1 81 8) R (M1 81 61) (M1 84))
theorem UpX.f (u : UpX M M1) : ∀ c, 81 ≤ c → M1 c = M c := fun c hc => funext (u c hc)
theorem csN_haunts {h : Int} (i0 : in32 h) (G : GdS M) (W : rL M) (V : rN M) : CA FF sc YF 59 m_X11_haunts [vr 0, vi h] M (fun r M1 => (∃ x, r = vi x) ∧ MdN_haunts h M1) := by
  obtain ⟨T, hT, v0, v1, hr, hh, hS⟩ := G.tw
  obtain ⟨L, q, cl, hL, h12, R0⟩ := W
  obtain ⟨⟨a1, a2⟩, w, k⟩ := id V
  have w6 : M 46 6 = M 82 34 := w.2.1.2.1
  have no : ∀ M1 : MM, ¬ hnOk M h → nwS M M1 → UpX M M1 → MdN_haunts h M1 := fun M1 z s u => ⟨fun _ => V.eq s (.up u), fun y => absurd ((hnOk_eq u.f).mp y) z⟩
  have rf : nwS M M := ⟨⟨rfl, rfl⟩, fun _ _ => ⟨fun _ _ _ _ _ => rfl, rfl, rfl, rfl⟩⟩
  refine ((cf_haunts i0 G.1).and fun n => pc_X11_haunts (Q := fun _ M1 => UpX M M1 → MdN_haunts h M1) _ M fun n1 _ => f_hasSpotC hT v0 (fun hn x hx => cI_i (brT hx fun u => no _ (fun z => hn ⟨z.1.1, (hh _ (by have := z.1.1; omega)).1.mp z.1.2⟩) rf u)) fun hk x hx => cI_i (brF (by omega) (brP (fun hlt => ?_) fun hge u => no _ (fun z => hge (by rw [w6]; exact z.2.1)) rf u))).mono fun r M1 q => ⟨q.1.1, q.2 q.1.2.2.1⟩
  rw [h12, show ((L : Int) + 1).toNat - 1 = L by omega, w6]
  have h10 : h.toNat < 10 := by have := hk.1; omega
  have h86 : 0 ≤ M 86 h.toNat := (hh _ h10).1.mpr hk.2
  refine gMB (gMB (f_mayHauntC hL R0 fun M3 f3 => cI_i (brP (fun hm => ?_) fun hm u => no _ (fun z => hm z.2.2) (.cells ⟨by rw [f3.1 0 (by omega) (by omega) (by omega)], by rw [f3.1 0 (by omega) (by omega) (by omega)]⟩ fun c c1 c2 => f3.1 c (by omega) (by omega) (by omega)) u)))
  have ok : hnOk M h := ⟨⟨hk.1, h86⟩, by rw [← w6]; exact hlt, hm⟩
  refine gMB (gMB (pc_X11_dogsAgainst _ M3 fun n2 _ => cI_i ?_))
  have o : ∀ c, c ≠ L → c ≠ L + 6 → c ≠ L + 7 → M3 c = M c := f3.1
  rw [o 0 (by omega) (by omega) (by omega), v0, h12, show ((L : Int) + 1).toNat - 1 = L by omega, show ((T : Int) + 1).toNat - 1 = T by omega]
  have l88 := rA_88 G.1.1 h.toNat
  have rK := G.2.2.2.1.1 h.toNat h10
  have R3 : rL1 M3 L q cl := R0.eq (f3.2 0 (by decide) (by decide)) (f3.2 6 (by decide) (by decide)) (fun c c1 c2 j _ => by rw [o c (by omega) (by omega) (by omega)]) (by rw [o 81 (by omega) (by omega) (by omega)]) fun c c1 c2 j => by rw [o c (by omega) (by omega) (by omega)]
  have ef : fwV M3 (M 82) h = fwV M (M 82) h := fwV_eq (by rw [o 81 (by omega) (by omega) (by omega)]) (fun c c1 c2 => o c (by omega) (by omega) (by omega)) _ _
  have eh : h = ((h.toNat : Nat) : Int) := by omega
  have hrP : ∀ P : Int → Prop, P ((h.toNat : Nat) : Int) → P h := fun P p => by rw [eh]; exact p
  refine hrP (fun v => PC sc n1 m_X2_pass [vr 24, vr T, vr 3, vr L, vr 46, vi v, _] M3 _) ?_
  refine f_pass hL hT (R := M 82) (P := posV (M 85) (fun i => M 89 (60 * h.toNat + i)) (M 88 h.toNat).toNat (M 86 h.toNat)) (K := M 85) R3 (w.eq (fun i i1 i2 j _ => by rw [o (46 + i) (by omega) (by omega) (by omega)]) (by rw [o 46 (by omega) (by omega) (by omega)]) (by rw [o 46 (by omega) (by omega) (by omega)]) (by rw [o 46 (by omega) (by omega) (by omega)]) .rf) (r82f G.1.1) h10 (sz := (M 88 h.toNat).toNat) (a := M 86 h.toNat) ⟨h86, (rA_86 G.1.1 _).2⟩ (by rw [o (T + 2) (by omega) (by omega) (by omega)]; exact (hh _ h10).2 hk.2) (by rw [o 4 (by omega) (by omega) (by omega), rK.1]; omega) (by omega) (by rw [o (6 + h.toNat) (by omega) (by omega) (by omega)]; exact rA_6h G.1.1 _ h10) (fun i _ => ?_) (by rw [o (T + 3) (by omega) (by omega) (by omega)]; exact hS ⟨_, h10, h86⟩) fun M7 F7 I7 => p_copyC (.inr (.inl rfl)) (.inl rfl) (by decide) fun M8 g1 g2 g3 u => ⟨fun z => absurd ((hnOk_eq u.f).mpr ok) z, fun _ R hR => ?_⟩
  · rw [o (T + 1) (by omega) (by omega) (by omega), o (6 + h.toNat) (by omega) (by omega) (by omega)]
    exact (posV_K v1 (fun i hi => rK.2 i (by omega)) _ i).symm
  rw [← eh, ef] at I7
  have hR := (hnR_eq u.f).mp hR
  obtain ⟨r1, r2, r3⟩ := hR
  have c8 : ∀ c, (c < 24 ∨ 50 < c) → c ≠ L → c ≠ L + 6 → c ≠ L + 7 → M8 c = M c := fun c c1 c2 c3 c4 => (g1 c (by omega)).trans ((F7.1 c (by omega) c2 c3 c4).trans (o c c2 c3 c4))
  obtain ⟨i1, ⟨i4, i6, i7⟩, -⟩ := I7
  have est : hnS M h.toNat = ngT (M 82) (M 85) (fwV M (M 82) h) (posV (M 85) (fun i => M 89 (60 * h.toNat + i)) (M 88 h.toNat).toNat (M 86 h.toNat)) ((M 88 h.toNat).toNat + 1) (ngB (M 82)) := by
    unfold hnS
    rw [← eh]
  rw [← est] at i1
  have e9 : ∀ c, c ≠ 46 → stM M8 46 6 (w32 (M8 46 6 + 1)) c = M8 c := fun c hc => stK hc
  have hn := w.2.2
  rw [e9 81 (by decide), e9 84 (by decide), c8 81 (by omega) (by omega) (by omega) (by omega), c8 84 (by omega) (by omega) (by omega) (by omega)]
  refine ⟨⟨?_, ?_⟩, ⟨fun g hg => ?_, ⟨?_, ?_, ?_⟩, ?_⟩, fun z => (k z).eq (fun i i1 i2 j _ => by rw [e9 _ (by omega), c8 _ (by omega) (by omega) (by omega) (by omega)]) (by rw [e9 51 (by decide), c8 51 (by omega) (by omega) (by omega) (by omega)]) (by rw [e9 51 (by decide), c8 51 (by omega) (by omega) (by omega) (by omega)]) (by rw [e9 51 (by decide), c8 51 (by omega) (by omega) (by omega) (by omega)]) .rf⟩
  · rw [e9 0 (by decide), c8 0 (by omega) (by omega) (by omega) (by omega)]
    exact a1
  · rw [e9 0 (by decide), c8 0 (by omega) (by omega) (by omega) (by omega)]
    exact a2
  · rw [e9 (46 + 1) (by decide), e9 (46 + 2) (by decide), e9 (46 + 3) (by decide), e9 (46 + 4) (by decide)]
    have z := i1 g hg
    unfold ngG at z
    unfold nwG
    rw [g2 1 (by decide) (by decide) g hg, g2 2 (by decide) (by decide) g hg, g2 3 (by decide) (by decide) g hg, g2 4 (by decide) (by decide) g hg, (r1 g hg).1, (r1 g hg).2, r2 30 (by decide) (by decide) (by decide) (by decide) (by decide), r2 g (by omega) (by omega) (by omega) (by omega) (by omega), r2 (20 + g) (by omega) (by omega) (by omega) (by omega) (by omega)]
    exact z
  · rw [stO (by decide), r2 32 (by decide) (by decide) (by decide) (by decide) (by decide)]
    exact g3.1.trans i4
  · rw [stE, r3, g3.2.1, i6]
    exact ew32 (by omega) (by have := ok.2.1; omega)
  · rw [stO (by decide), r2 35 (by decide) (by decide) (by decide) (by decide) (by decide)]
    exact g3.2.2.trans i7
  · rw [r3]
    have := ok.2.1
    omega
theorem msN_haunts {h : Int} (i0 : in32 h) (g : axG M) (V : MdN_haunts h M) : CA FF sc YF 59 m_X12_haunts [vr 81, vi h] M (fun r M1 => (∃ x, r = vi x) ∧ rN M1) := by
  have no : ∀ M1 : MM, ¬ hnOk M h → nwT M M1 → LoX M M1 → rN M1 := fun M1 z t l => (V.1 z).eq (.lo l) t
  have rf : nwT M M := ⟨⟨rfl, rfl⟩, .rf, .rf⟩
  have g34 := rO_82_34 g.1
  refine ((mf_haunts i0 g).and fun n => pc_X12_haunts (Q := fun _ M1 => LoX M M1 → rN M1) _ M fun n1 _ => f_hasSpotM (fun hn x hx => cI_i (brT hx (no _ (fun z => hn z.1) rf))) fun hk x hx => cI_i (brF (by omega) (brP (fun hne => ?_) fun hge => no _ (fun z => by have := z.2.1; omega) rf))).mono fun r M1 q => ⟨q.1.1, q.2 q.1.2.2.1⟩
  have h10 : h.toNat < 10 := by have := hk.1; omega
  refine PC.of (s_mayHaunt (d := 20) i0 ⟨g34.1, by omega⟩ g.1 g.2.1 fun M3 G3 f3 hx => cI_i ?_)
  have e : ∀ c, c ≠ 108 → c ≠ 109 → M3 c = M c := fun c c1 c2 => funext (f3 c c1 c2)
  have l88 := rA_88 g.1 h.toNat
  refine brP (fun hm => ?_) fun hm => no _ (fun z => hm z.2.2) (.cells ⟨f3 81 (by decide) (by decide) 8, f3 81 (by decide) (by decide) 61⟩ (e 82 (by decide) (by decide)) (e 84 (by decide) (by decide)))
  have ok : hnOk M h := by
    refine Classical.byContradiction fun z => ?_
    have r := (V.1 z).2.1.2.2
    exact z ⟨hk, by omega, hm⟩
  have eh : h = ((h.toNat : Nat) : Int) := by omega
  have hrP : ∀ P : Int → Prop, P ((h.toNat : Nat) : Int) → P h := fun P p => by rw [eh]; exact p
  refine hrP (fun v => PC sc n1 m_X12_nightOf [vr 81, vi v] M3 _) ?_
  refine f_nightM (R := M 82) (fun j _ => by rw [e 82 (by decide) (by decide)]) ((lwJ.of g).eq (f3 81 (by decide) (by decide) 19) fun c c1 c2 => e c (by omega) (by omega)) (r82s g.1) (r82f g.1) h10 (sz := (M 88 h.toNat).toNat) (a := M 86 h.toNat) ⟨hk.2, (rA_86 g.1 _).2⟩ (by rw [e 86 (by decide) (by decide)]) (by rw [e 88 (by decide) (by decide)]; omega) (by omega) fun M1 F A B C l => ?_
  have est : hnS M h.toNat = ngT (M 82) (M3 85) (fwV M3 (M 82) (h.toNat : Int)) (posV (M3 85) (fun i => M3 89 (60 * h.toNat + i)) (M 88 h.toNat).toNat (M 86 h.toNat)) ((M 88 h.toNat).toNat + 1) (ngB (M 82)) := by
    unfold hnS
    rw [fwV_eq (f3 81 (by decide) (by decide) 19) fun c c1 c2 => e c (by omega) (by omega), e 85 (by decide) (by decide), e 89 (by decide) (by decide)]
  rw [← est] at A
  unfold rN
  rw [F.2 8 (by decide), F.2 61 (by decide), f3 81 (by decide) (by decide), f3 81 (by decide) (by decide), F.1 84 (by decide) (by decide) (by decide), e 84 (by decide) (by decide)]
  refine nwP.eq (V.2 ok (M1 82) ⟨A, B, ?_⟩) (.lo l) .rf .rf
  rw [C]
  exact ew32 (by omega) (by have := ok.2.1; omega)
end NGH
