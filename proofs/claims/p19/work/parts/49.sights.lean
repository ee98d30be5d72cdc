/-! PART 49: by hand: sightings of the class -/
def sgw : Nat := 433300210274926779324724974461055604358335430371498437146221127209209846560029073779128943273169776413846825496778274408813742154369251223579203842559578878014855301868027277907966183174118947883899705905550736193853746435182778042730520391862132194060496395219650290574510140118095711409375752453195988448779895641126209498877475306013891871640079334423530343896176795705046125618859151620310740695976344514600501487398866209197111624027218907543886502898533418669830440742262384972905306665842405234512057916215859226067032109023570545294658033740150201234908961535579391523664317923323462522473601604493763920875082245422143205061938687361048387545616428280131216771146238611167997282841860867963730634938873279810501423345657658382403388232010614656628102535281901568
def sgI (M0 M : MM) : Prop := ai_GI ax_T M ∧ ai_Fr ax_T sgw M0 M
theorem sgI.st {M0 M : MM} (I : sgI M0 M) {k j : Nat} {v : Int} (G : ai_GI ax_T (stM M k j v)) (hb : sgw.testBit (ai_sl ax_T k j) = true) : sgI M0 (stM M k j v) := ⟨G, ax_frS I.2 hb⟩
theorem bor_r {a b : Int} (ha : 0 ≤ a ∧ a ≤ 1023) (hb : 0 ≤ b ∧ b ≤ 9) : 0 ≤ bOr a (bShl 1 b) ∧ bOr a (bShl 1 b) ≤ 1023 := by
  have h1 := fbShl1 10 1024 (by decide) (v := b) hb.1 (by omega) (by decide)
  have h2 := fbOr 10 1024 (by decide) (a := a) (b := bShl 1 b) ⟨ha.1, by omega⟩ ⟨by omega, h1.2⟩ (by decide)
  omega
theorem s_hasBit {sc : List Int} {d : Nat} {Q : Vv → MM → Prop} {a b : Int} {M : MM} (k : ∀ r : Int, (r = 0 ∨ r = 1) → Q (vi r) M) : CA FF sc YF (d + 1) m_X11_hasBit [vi a, vi b] M Q := ca_X11_hasBit a b M (brP (fun _ => k 0 (.inl rfl)) fun _ => k 1 (.inr rfl))
theorem u_X6_fewestGhosts_37 {J : MM → Prop} (S : ai_SP ax_T J ap_X6_fewestGhosts_37) {sc : List Int} {d : Nat} {M : MM} {Q : Vv → MM → Prop}  (G : ai_GI ax_T M) (j : J M) (k0 : ∀ (r : Int) (M1 : MM), 0 ≤ r → r ≤ 63 → ai_GI ax_T M1 → ai_Fr ax_T ap_X6_fewestGhosts_37.2.2.2.1 M M1 → Q (vi r) M1) : CA FF sc YF (d + 3) m_X6_fewestGhosts [vr 37] M Q := by
  refine S sc d (ax_rh []) M _ Q rfl rfl (And.intro (ax_r) (And.intro (ax_o) (And.intro (ax_o) (And.intro (ax_o) trivial)))) ⟨ax_e0, ax_f0, ax_c0, ax_m0⟩ G j (fun r M1 g f hq => ?_)
  replace hq := ax_q1 hq
  obtain ⟨-, ρ1, e0, hr, kE, kF, kC, kN⟩ := hq
  have hr : r = vi (ρ1 0) := hr
  have b0 := kE _ (List.mem_cons_self)
  have b0 : 0 ≤ ρ1 0 ∧ ρ1 0 ≤ 63 := b0.2
  rw [hr]
  exact k0 _ _ (by omega) (by omega) g f
theorem u_X3_measure_32_57 {J : MM → Prop} (S : ai_SP ax_T J ap_X3_measure_32_57) {sc : List Int} {d : Nat} {M : MM} {Q : Vv → MM → Prop} {v2 : Int} (h0 : 0 ≤ v2 ∧ v2 ≤ 63) (G : ai_GI ax_T M) (j : J M) (k0 : ∀ (r : Int) (M1 : MM), 0 ≤ r → r ≤ 0 → ai_GI ax_T M1 → ai_Fr ax_T ap_X3_measure_32_57.2.2.2.1 M M1 → Q (vi r) M1) : CA FF sc YF (d + 4) m_X3_measure [vr 32, vr 57, vi v2] M Q := by
  refine S sc d (ax_rh [v2]) M _ Q rfl rfl (And.intro (ax_r) (And.intro (ax_r) (And.intro (ax_i (by decide) rfl) (And.intro (ax_o) (And.intro (ax_o) (And.intro (ax_o) (And.intro (ax_o) trivial))))))) ⟨(ax_e1 (by decide) h0.1 h0.2 ax_e0), ax_f0, ax_c0, ax_m0⟩ G j (fun r M1 g f hq => ?_)
  replace hq := ax_q1 hq
  obtain ⟨-, ρ1, e0, hr, kE, kF, kC, kN⟩ := hq
  have hr : r = vi (ρ1 1) := hr
  have e1 : ρ1 0 = v2 := e0 0 (by decide)
  have b0 := kE _ (List.mem_cons_self)
  have b0 : 0 ≤ ρ1 1 ∧ ρ1 1 ≤ 0 := b0.2
  rw [hr]
  exact k0 _ _ (by omega) (by omega) g f
theorem ca_X6_read_57 {sc : List Int} {d : Nat} {Q : Vv → MM → Prop} (v2 : Int) (M : MM) (h : WP FF sc YF (d + 1) m_X6_read 5 [] [some (vr 37), some (vr 1), some (vi v2), some (vr 57), some (vi 0)] (stM M 37 3 v2) Q) : CA FF sc YF (d + 1) m_X6_read [vr 37, vr 1, vi v2, vr 57] M Q := ca_go rfl rfl (fun j => Nat.beq j 5) 64 h
theorem rg_X6_read_5_57 {sc : List Int} {d : Nat} {Q : Vv → MM → Prop} (v2 : Int) (v4 : Int) (M : MM) (h : brA (decide (v2 ≤ v4))
  (Q (vi 1) M)
  (CA FF sc YF d m_X7_at [vr 1, vi (w32 (2 * v4))] M (cI fun r2 M1 =>
   gAnd (decide (0 ≤ v4) && decide (v4 < 10)) (CA FF sc YF d m_X7_at [vr 1, vi (w32 ((w32 (2 * v4)) + 1))] (stM M1 38 (v4.toNat) r2) (cI fun r4 M3 =>
    gAnd (decide (0 ≤ v4) && decide (v4 < 10)) (gAnd (decide (0 ≤ v4) && decide (v4 < 10)) (gAnd (decide (0 ≤ v4) && decide (v4 < 10)) (CA FF sc YF d m_X9_isWall [vr 57, vi ((stM (stM M3 39 (v4.toNat) r4) 40 (v4.toNat) 0) 39 v4.toNat)] (stM (stM M3 39 (v4.toNat) r4) 40 (v4.toNat) 0) (cI fun r6 M5 =>
     brA (decide (r6 ≠ 0))
      (Q (vi 0) M5)
      (brA (decide (v4 ≤ 0))
       (WP FF sc YF (d + 1) m_X6_read 5 [] [some (vr 37), some (vr 1), some (vi v2), some (vr 57), some (vi (w32 (v4 + 1)))] M5 Q)
       (gAnd (decide (0 ≤ v4) && decide (v4 < 10)) (gAnd (decide (0 ≤ (w32 (v4 - 1))) && decide ((w32 (v4 - 1)) < 10)) (brA (decide ((M5 38 (w32 (v4 - 1)).toNat) ≤ (M5 38 v4.toNat)))
        (WP FF sc YF (d + 1) m_X6_read 5 [] [some (vr 37), some (vr 1), some (vi v2), some (vr 57), some (vi (w32 (v4 + 1)))] M5 Q)
        (Q (vi 0) M5)))))))))))))) : WP FF sc YF (d + 1) m_X6_read 5 [] [some (vr 37), some (vr 1), some (vi v2), some (vr 57), some (vi v4)] M Q := wp_go rfl (fun j => Nat.beq j 5) 64 h
theorem ca_X6_link_57 {sc : List Int} {d : Nat} {Q : Vv → MM → Prop}  (M : MM) (h : WP FF sc YF (d + 1) m_X6_link 2 [] [some (vr 37), some (vr 57), some (vr 32), some (vi 0), none, none] M Q) : CA FF sc YF (d + 1) m_X6_link [vr 37, vr 57, vr 32] M Q := ca_go rfl rfl (fun j => Nat.beq j 2 || Nat.beq j 17) 73 h
theorem rg_X6_link_2_57 {sc : List Int} {d : Nat} {Q : Vv → MM → Prop} (v3 : Int) (o4 : Option Vv) (o5 : Option Vv) (M : MM) (h : brA (decide ((M 37 3) ≤ v3))
  (Q (vi 0) M)
  (gAnd (decide (0 ≤ v3) && decide (v3 < 10)) (CA FF sc YF d m_X3_measure [vr 32, vr 57, vi (M 39 v3.toNat)] M (fun _ M1 =>
   WP FF sc YF (d + 1) m_X6_link 17 [] [some (vr 37), some (vr 57), some (vr 32), some (vi v3), some (vi (w32 (v3 + 1))), o5] M1 Q)))) : WP FF sc YF (d + 1) m_X6_link 2 [] [some (vr 37), some (vr 57), some (vr 32), some (vi v3), o4, o5] M Q := wp_go rfl (fun j => Nat.beq j 2 || Nat.beq j 17) 73 h
theorem rg_X6_link_17_57 {sc : List Int} {d : Nat} {Q : Vv → MM → Prop} (v3 : Int) (v4 : Int) (o5 : Option Vv) (M : MM) (h : brA (decide ((M 37 3) ≤ v4))
  (WP FF sc YF (d + 1) m_X6_link 2 [] [some (vr 37), some (vr 57), some (vr 32), some (vi (w32 (v3 + 1))), some (vi v4), o5] M Q)
  (gAnd (decide (0 ≤ v4) && decide (v4 < 10)) (gAnd (decide (0 ≤ (M 39 v4.toNat)) && decide ((M 39 v4.toNat) < 64)) (brA (decide ((M 33 (M 39 v4.toNat).toNat) = ((-1))))
   (WP FF sc YF (d + 1) m_X6_link 17 [] [some (vr 37), some (vr 57), some (vr 32), some (vi v3), some (vi (w32 (v4 + 1))), some (vi (M 33 (M 39 v4.toNat).toNat))] M Q)
   (gAnd (decide (0 ≤ v4) && decide (v4 < 10)) (gAnd (decide (0 ≤ v3) && decide (v3 < 10)) (brA (decide ((w32 ((M 38 v4.toNat) - (M 38 v3.toNat))) < (M 33 (M 39 v4.toNat).toNat)))
    (WP FF sc YF (d + 1) m_X6_link 17 [] [some (vr 37), some (vr 57), some (vr 32), some (vi v3), some (vi (w32 (v4 + 1))), some (vi (M 33 (M 39 v4.toNat).toNat))] M Q)
    (gAnd (decide (0 ≤ v3) && decide (v3 < 10)) (gAnd (decide (0 ≤ v3) && decide (v3 < 10)) (gAnd (decide (0 ≤ v4) && decide (v4 < 10)) (gAnd (decide (0 ≤ v4) && decide (v4 < 10)) (WP FF sc YF (d + 1) m_X6_link 17 [] [some (vr 37), some (vr 57), some (vr 32), some (vi v3), some (vi (w32 (v4 + 1))), some (vi (M 33 (M 39 v4.toNat).toNat))] (stM (stM M 40 (v3.toNat) (bOr (M 40 v3.toNat) (bShl 1 v4))) 40 (v4.toNat) (bOr ((stM M 40 (v3.toNat) (bOr (M 40 v3.toNat) (bShl 1 v4))) 40 v4.toNat) (bShl 1 v3))) Q)))))))))))) : WP FF sc YF (d + 1) m_X6_link 17 [] [some (vr 37), some (vr 57), some (vr 32), some (vi v3), some (vi v4), o5] M Q := wp_go rfl (fun j => Nat.beq j 2 || Nat.beq j 17) 73 h
theorem ca_X6_fromWhere_57 {sc : List Int} {d : Nat} {Q : Vv → MM → Prop}  (M : MM) (h : WP FF sc YF (d + 1) m_X6_fromWhere 2 [] [some (vr 37), some (vr 57), some (vr 32), some (vi 1), none, none] M Q) : CA FF sc YF (d + 1) m_X6_fromWhere [vr 37, vr 57, vr 32] M Q := ca_go rfl rfl (fun j => Nat.beq j 2 || Nat.beq j 30 || Nat.beq j 48) 73 h
theorem rg_X6_fromWhere_2_57 {sc : List Int} {d : Nat} {Q : Vv → MM → Prop} (v3 : Int) (o4 : Option Vv) (o5 : Option Vv) (M : MM) (h : brA (decide ((M 37 3) ≤ v3))
  (CA FF sc YF d m_X3_measure [vr 32, vr 57, vi (M 39 0)] M (fun _ M1 =>
   WP FF sc YF (d + 1) m_X6_fromWhere 30 [] [some (vr 37), some (vr 57), some (vr 32), some (vi 0), some (vi 0), o5] M1 Q))
  (gAnd (decide (0 ≤ v3) && decide (v3 < 10)) (CA FF sc YF d m_X11_hasBit [vi (M 40 v3.toNat), vi (w32 (v3 - 1))] M (cI fun r3 M2 =>
   brA (decide (r3 ≠ 0))
    (WP FF sc YF (d + 1) m_X6_fromWhere 2 [] [some (vr 37), some (vr 57), some (vr 32), some (vi (w32 (v3 + 1))), o4, o5] M2 Q)
    (Q (vi 0) M2))))) : WP FF sc YF (d + 1) m_X6_fromWhere 2 [] [some (vr 37), some (vr 57), some (vr 32), some (vi v3), o4, o5] M Q := wp_go rfl (fun j => Nat.beq j 2 || Nat.beq j 30 || Nat.beq j 48) 73 h
theorem rg_X6_fromWhere_30_57 {sc : List Int} {d : Nat} {Q : Vv → MM → Prop} (v3 : Int) (v4 : Int) (o5 : Option Vv) (M : MM) (h : brA (decide (10 ≤ v4))
  (Q (vi v3) M)
  (gAnd (decide (0 ≤ v4) && decide (v4 < 10)) (brA (decide ((M 59 v4.toNat) ≠ ((-1))))
   (gAnd (decide (0 ≤ v4) && decide (v4 < 10)) (gAnd (decide (0 ≤ (M 59 v4.toNat)) && decide ((M 59 v4.toNat) < 64)) (WP FF sc YF (d + 1) m_X6_fromWhere 48 [vi (M 33 (M 59 v4.toNat).toNat)] [some (vr 37), some (vr 57), some (vr 32), some (vi v3), some (vi v4), o5] M Q)))
   (WP FF sc YF (d + 1) m_X6_fromWhere 48 [vi ((-1))] [some (vr 37), some (vr 57), some (vr 32), some (vi v3), some (vi v4), o5] M Q)))) : WP FF sc YF (d + 1) m_X6_fromWhere 30 [] [some (vr 37), some (vr 57), some (vr 32), some (vi v3), some (vi v4), o5] M Q := wp_go rfl (fun j => Nat.beq j 2 || Nat.beq j 30 || Nat.beq j 48) 73 h
theorem rg_X6_fromWhere_48_57 {sc : List Int} {d : Nat} {Q : Vv → MM → Prop} (v3 : Int) (v4 : Int) (o5 : Option Vv) (s0 : Int) (M : MM) (h : brA (decide (s0 = ((-1))))
  (WP FF sc YF (d + 1) m_X6_fromWhere 30 [] [some (vr 37), some (vr 57), some (vr 32), some (vi v3), some (vi (w32 (v4 + 1))), some (vi s0)] M Q)
  (brA (decide ((M 38 0) < s0))
   (WP FF sc YF (d + 1) m_X6_fromWhere 30 [] [some (vr 37), some (vr 57), some (vr 32), some (vi v3), some (vi (w32 (v4 + 1))), some (vi s0)] M Q)
   (WP FF sc YF (d + 1) m_X6_fromWhere 30 [] [some (vr 37), some (vr 57), some (vr 32), some (vi (bOr v3 (bShl 1 v4))), some (vi (w32 (v4 + 1))), some (vi s0)] M Q))) : WP FF sc YF (d + 1) m_X6_fromWhere 48 [vi s0] [some (vr 37), some (vr 57), some (vr 32), some (vi v3), some (vi v4), o5] M Q := wp_go rfl (fun j => Nat.beq j 2 || Nat.beq j 30 || Nat.beq j 48) 73 h
theorem ca_X9_isWall_57 {sc : List Int} {d : Nat} {Q : Vv → MM → Prop} (v1 : Int) (M : MM) (h : CA FF sc YF d m_X9_at [vr 57, vi v1] M (cI fun r2 M1 =>
  brA (decide (r2 ≠ 1))
   (Q (vi 0) M1)
   (Q (vi 1) M1))) : CA FF sc YF (d + 1) m_X9_isWall [vr 57, vi v1] M Q := ca_go rfl rfl (fun j => false) 14 h
theorem ca_X9_at_57 {sc : List Int} {d : Nat} {Q : Vv → MM → Prop} (v1 : Int) (M : MM) (h : brA (decide (v1 < 0))
  (Q (vi 1) M)
  (brA (decide (64 ≤ v1))
   (Q (vi 1) M)
   (gAnd (decide (0 ≤ v1) && decide (v1 < 64)) (Q (vi (M 58 v1.toNat)) M)))) : CA FF sc YF (d + 1) m_X9_at [vr 57, vi v1] M Q := ca_go rfl rfl (fun j => false) 17 h
section SG57
variable {sc : List Int} {d : Nat} {Q : Vv → MM → Prop} {M0 : MM}
theorem s_isWall_57 {M : MM} {v : Int} (k0 : 0 ≤ v ∧ v ≤ 63 → ∀ x : Int, x = 0 → Q (vi x) M) (k1 : ∀ x : Int, x = 1 → Q (vi x) M) : CA FF sc YF (d + 2) m_X9_isWall [vr 57, vi v] M Q := by
  have h1 : ∀ x : Int, x = 1 → Q (vi 1) M := fun _ _ => k1 1 rfl
  exact ca_X9_isWall_57 v M (ca_X9_at_57 v M (brP (fun _ => k1 1 rfl) fun _ => brP (fun _ => k1 1 rfl) fun _ => gI (by omega) (by omega) (brP (fun _ => k0 (by omega) 0 rfl) fun _ => k1 1 rfl)))
theorem sgr_57 {n : Int} (hn : 1 ≤ n ∧ n ≤ 10) (k0 : ∀ M1, sgI M0 M1 → ∀ x : Int, x = 0 → Q (vi x) M1) (k1 : ∀ M1, sgI M0 M1 → M1 37 3 = n → (∀ i : Nat, (i : Int) < n → 0 ≤ M1 39 i ∧ M1 39 i ≤ 63) → ∀ x : Int, x = 1 → Q (vi x) M1) : ∀ (m : Nat) (i : Int) (M : MM), (n - i).toNat ≤ m → 0 ≤ i → sgI M0 M → M 37 3 = n → (∀ j : Nat, (j : Int) < i → 0 ≤ M 39 j ∧ M 39 j ≤ 63) → WP FF sc YF (d + 3) m_X6_read 5 [] [some (vr 37), some (vr 1), some (vi n), some (vr 57), some (vi i)] M Q := by
  intro m
  induction m with
  | zero =>
    intro i M hm hi I h3 hs
    exact rg_X6_read_5_57 n i M (brT (by omega) (k1 M I h3 (fun j hj => hs j (by omega)) 1 rfl))
  | succ m ih =>
    intro i M hm hi I h3 hs
    refine rg_X6_read_5_57 n i M (brP (fun h => k1 M I h3 (fun j hj => hs j (by omega)) 1 rfl) fun h => ?_)
    rw [ew32 (z := 2 * i) (by omega) (by omega), ew32 (z := 2 * i + 1) (by omega) (by omega)]
    refine s_at (fun r2 a1 a2 _ _ => gI hi (by omega) ?_) I.1
    have I1 : sgI M0 (stM M 38 i.toNat r2) := I.st (sA_38 I.1 a1 a2) (by rw [ax_slA rfl]; decide +kernel)
    refine s_at (fun r4 b1 b2 _ _ => gI hi (by omega) (gI hi (by omega) (gI hi (by omega) ?_))) I1.1
    have I2 : sgI M0 (stM (stM M 38 i.toNat r2) 39 i.toNat r4) := I1.st (sA_39 I1.1 b1 b2) (by rw [ax_slA rfl]; decide +kernel)
    have I3 : sgI M0 (stM (stM (stM M 38 i.toNat r2) 39 i.toNat r4) 40 i.toNat 0) := I2.st (sA_40 I2.1 (by decide) (by decide)) (by rw [ax_slA rfl]; decide +kernel)
    have e39 : ∀ j, stM (stM (stM M 38 i.toNat r2) 39 i.toNat r4) 40 i.toNat 0 39 j = if j = i.toNat then r4 else M 39 j := fun j => by
      rw [stN (by decide), stM_at]
      by_cases hj : j = i.toNat
      · rw [if_pos ⟨rfl, hj⟩, if_pos hj]
      · rw [if_neg (fun q => hj q.2), if_neg hj, stN (by decide)]
    rw [e39, if_pos rfl]
    have e3 : stM (stM (stM M 38 i.toNat r2) 39 i.toNat r4) 40 i.toNat 0 37 3 = n := by rw [stN (by decide), stN (by decide), stN (by decide)]; exact h3
    generalize stM (stM (stM M 38 i.toNat r2) 39 i.toNat r4) 40 i.toNat 0 = M3 at I3 e39 e3
    refine s_isWall_57 (fun hr x hx => ?_) (fun x hx => brT (by omega) (k0 _ I3 0 rfl))
    have hnx : WP FF sc YF (d + 3) m_X6_read 5 [] [some (vr 37), some (vr 1), some (vi n), some (vr 57), some (vi (w32 (i + 1)))] M3 Q := by
      rw [ew32 (z := i + 1) (by omega) (by omega)]
      refine ih (i + 1) M3 (by omega) (by omega) I3 e3 fun j hj => ?_
      rw [e39]
      split
      · exact hr
      · exact hs j (by omega)
    refine brF (by omega) (brP (fun _ => hnx) fun hi0 => gI hi (by omega) ?_)
    rw [ew32 (z := i - 1) (by omega) (by omega)]
    exact gI (by omega) (by omega) (brP (fun _ => hnx) fun _ => k0 _ I3 0 rfl)
theorem s_sgr_57 {n : Int} {M : MM} (hn : 1 ≤ n ∧ n ≤ 10) (I : sgI M0 M) (k0 : ∀ M1, sgI M0 M1 → ∀ x : Int, x = 0 → Q (vi x) M1) (k1 : ∀ M1, sgI M0 M1 → M1 37 3 = n → (∀ i : Nat, (i : Int) < n → 0 ≤ M1 39 i ∧ M1 39 i ≤ 63) → ∀ x : Int, x = 1 → Q (vi x) M1) : CA FF sc YF (d + 3) m_X6_read [vr 37, vr 1, vi n, vr 57] M Q := ca_X6_read_57 n M (sgr_57 hn k0 k1 n.toNat 0 _ (by omega) (by omega) (I.st (sO_37_3 I.1 (by omega) (by omega)) (by decide +kernel)) stE (fun j hj => by omega))
theorem sgl2_57 {n : Int} {i : Int} (hi : 0 ≤ i ∧ i < n) (hn : n ≤ 10) (S : Nat → Int) (hS : ∀ j : Nat, (j : Int) < n → 0 ≤ S j ∧ S j ≤ 63) (K : ∀ (j : Int) (o5 : Option Vv) (M : MM), sgI M0 M → M 37 3 = n → (∀ j, M 39 j = S j) → WP FF sc YF (d + 5) m_X6_link 2 [] [some (vr 37), some (vr 57), some (vr 32), some (vi (i + 1)), some (vi j), o5] M Q) : ∀ (m : Nat) (j : Int) (o5 : Option Vv) (M : MM), (n - j).toNat ≤ m → 0 ≤ j → sgI M0 M → M 37 3 = n → (∀ j, M 39 j = S j) → WP FF sc YF (d + 5) m_X6_link 17 [] [some (vr 37), some (vr 57), some (vr 32), some (vi i), some (vi j), o5] M Q := by
  intro m
  induction m with
  | zero =>
    intro j o5 M hm hj I h3 h9
    refine rg_X6_link_17_57 i j o5 M (brT (by omega) ?_)
    rw [ew32 (z := i + 1) (by omega) (by omega)]
    exact K j o5 M I h3 h9
  | succ m ih =>
    intro j o5 M hm hj I h3 h9
    refine rg_X6_link_17_57 i j o5 M (brP (fun h => ?_) fun h => ?_)
    · rw [ew32 (z := i + 1) (by omega) (by omega)]
      exact K j o5 M I h3 h9
    · have hs := hS j.toNat (by omega)
      rw [h9 j.toNat, ew32 (z := j + 1) (by omega) (by omega)]
      have hnx : ∀ (o5 : Option Vv) (M : MM), sgI M0 M → M 37 3 = n → (∀ j, M 39 j = S j) → WP FF sc YF (d + 5) m_X6_link 17 [] [some (vr 37), some (vr 57), some (vr 32), some (vi i), some (vi (j + 1)), o5] M Q := fun o5 M I h3 h9 => ih (j + 1) o5 M (by omega) (by omega) I h3 h9
      have g1 := rA_40 I.1 i.toNat
      have b1 := bor_r g1 (b := j) (by omega)
      have I1 : sgI M0 (stM M 40 i.toNat (bOr (M 40 i.toNat) (bShl 1 j))) := I.st (sA_40 I.1 b1.1 b1.2) (by rw [ax_slA rfl]; decide +kernel)
      have g2 := rA_40 I1.1 j.toNat
      have b2 := bor_r g2 (b := i) (by omega)
      have I2 := I1.st (sA_40 I1.1 b2.1 b2.2) (j := j.toNat) (by rw [ax_slA rfl]; decide +kernel)
      exact gI hj (by omega) (gI hs.1 (by omega) (brP (fun _ => hnx _ M I h3 h9) fun _ => gI hj (by omega) (gI hi.1 (by omega) (brP (fun _ => hnx _ M I h3 h9) fun _ => gI hi.1 (by omega) (gI hi.1 (by omega) (gI hj (by omega) (gI hj (by omega) (hnx _ _ I2 (by rw [stN (by decide), stN (by decide)]; exact h3) fun x => by rw [stN (by decide), stN (by decide)]; exact h9 x))))))))
theorem sgl_57 {n : Int} (J : axJ M0) (hn : n ≤ 10) (S : Nat → Int) (hS : ∀ j : Nat, (j : Int) < n → 0 ≤ S j ∧ S j ≤ 63) (k : ∀ M, sgI M0 M → M 37 3 = n → (∀ j, M 39 j = S j) → Q (vi 0) M) : ∀ (m : Nat) (i : Int) (o4 o5 : Option Vv) (M : MM), (n - i).toNat ≤ m → 0 ≤ i → sgI M0 M → M 37 3 = n → (∀ j, M 39 j = S j) → WP FF sc YF (d + 5) m_X6_link 2 [] [some (vr 37), some (vr 57), some (vr 32), some (vi i), o4, o5] M Q := by
  intro m
  induction m with
  | zero =>
    intro i o4 o5 M hm hi I h3 h9
    exact rg_X6_link_2_57 i o4 o5 M (brT (by omega) (k M I h3 h9))
  | succ m ih =>
    intro i o4 o5 M hm hi I h3 h9
    refine rg_X6_link_2_57 i o4 o5 M (brP (fun h => k M I h3 h9) fun h => gI hi (by omega) ?_)
    rw [h9]
    refine u_X3_measure_32_57 (ah_X3_measure_32_57 axH) (hS i.toNat (by omega)) I.1 (ax_j axH I.2 (by decide +kernel) J) fun r M1 _ _ g f => ?_
    have I1 : sgI M0 M1 := ⟨g, ax_frT I.2 (ax_frW f (by decide +kernel))⟩
    have h3' : M1 37 3 = n := (ax_frO f rfl (by decide +kernel)).trans h3
    have h9' : ∀ j, M1 39 j = S j := fun j => (ax_frA f rfl (by decide +kernel) j).trans (h9 j)
    show WP _ _ _ _ _ _ _ [_, _, _, _, some (vi (w32 (i + 1))), _] _ _
    rw [ew32 (z := i + 1) (by omega) (by omega)]
    exact sgl2_57 ⟨hi, by omega⟩ hn S hS (fun j o5 M I h3 h9 => ih (i + 1) _ o5 M (by omega) (by omega) I h3 h9) (n - (i + 1)).toNat (i + 1) o5 M1 (by omega) (by omega) I1 h3' h9'
theorem sgf2_57 (k : ∀ r M, sgI M0 M → Q (vi r) M) : ∀ (m : Nat) (v3 h : Int) (o5 : Option Vv) (M : MM), (10 - h).toNat ≤ m → 0 ≤ h → sgI M0 M → WP FF sc YF (d + 1) m_X6_fromWhere 30 [] [some (vr 37), some (vr 57), some (vr 32), some (vi v3), some (vi h), o5] M Q := by
  intro m
  induction m with
  | zero =>
    intro v3 h o5 M hm hh I
    exact rg_X6_fromWhere_30_57 v3 h o5 M (brT (by omega) (k v3 M I))
  | succ m ih =>
    intro v3 h o5 M hm hh I
    have h48 : ¬ (10 ≤ h) → ∀ s0 : Int, WP FF sc YF (d + 1) m_X6_fromWhere 48 [vi s0] [some (vr 37), some (vr 57), some (vr 32), some (vi v3), some (vi h), o5] M Q := fun hlt s0 => by
      refine rg_X6_fromWhere_48_57 v3 h o5 s0 M ?_
      rw [ew32 (z := h + 1) (by omega) (by omega)]
      exact brP (fun _ => ih _ _ _ M (by omega) (by omega) I) fun _ => brP (fun _ => ih _ _ _ M (by omega) (by omega) I) fun _ => ih _ _ _ M (by omega) (by omega) I
    have g := rA_59 I.1 h.toNat
    exact rg_X6_fromWhere_30_57 v3 h o5 M (brP (fun _ => k v3 M I) fun hlt => gI hh (by omega) (brP (fun hne => gI hh (by omega) (gI (by omega) (by omega) (h48 hlt _))) fun _ => h48 hlt _))
theorem sgf_57 {n : Int} (J : axJ M0) (hn : 1 ≤ n ∧ n ≤ 10) (S : Nat → Int) (hS : ∀ j : Nat, (j : Int) < n → 0 ≤ S j ∧ S j ≤ 63) (k : ∀ r M, sgI M0 M → Q (vi r) M) : ∀ (m : Nat) (i : Int) (o4 o5 : Option Vv) (M : MM), (n - i).toNat ≤ m → 0 ≤ i → sgI M0 M → M 37 3 = n → (∀ j, M 39 j = S j) → WP FF sc YF (d + 5) m_X6_fromWhere 2 [] [some (vr 37), some (vr 57), some (vr 32), some (vi i), o4, o5] M Q := by
  have hend : ∀ (i : Int) (o4 o5 : Option Vv) (M : MM), sgI M0 M → (∀ j, M 39 j = S j) → CA FF sc YF (d + 4) m_X3_measure [vr 32, vr 57, vi (M 39 0)] M (fun _ M1 => WP FF sc YF (d + 5) m_X6_fromWhere 30 [] [some (vr 37), some (vr 57), some (vr 32), some (vi 0), some (vi 0), o5] M1 Q) := fun i o4 o5 M I h9 => by
    rw [h9]
    exact u_X3_measure_32_57 (ah_X3_measure_32_57 axH) (hS 0 (by omega)) I.1 (ax_j axH I.2 (by decide +kernel) J) fun r M1 _ _ g f => sgf2_57 k 10 0 0 o5 M1 (by omega) (by omega) ⟨g, ax_frT I.2 (ax_frW f (by decide +kernel))⟩
  intro m
  induction m with
  | zero =>
    intro i o4 o5 M hm hi I h3 h9
    exact rg_X6_fromWhere_2_57 i o4 o5 M (brT (by omega) (hend i o4 o5 M I h9))
  | succ m ih =>
    intro i o4 o5 M hm hi I h3 h9
    refine rg_X6_fromWhere_2_57 i o4 o5 M (brP (fun _ => hend i o4 o5 M I h9) fun hlt => gI hi (by omega) (s_hasBit fun r _ => brP (fun _ => ?_) fun _ => k _ M I))
    rw [ew32 (z := i + 1) (by omega) (by omega)]
    exact ih (i + 1) o4 o5 M (by omega) (by omega) I h3 h9
theorem sx_sightings_57 {n what : Int} {M : MM} (G : axG M) (e10 : M 0 10 = 58) (k : ∀ (r : Int) (M1 : MM), axG M1 → UpX M M1 → M1 0 14 = M 0 14 → szX ((1 ≤ n ∧ n ≤ 10) ∧ (0 ≤ what ∧ what ≤ 1) ∧ 2 * n ≤ M 1 1) M M1 → Keep kpS M M1 → Q (vi r) M1) : CA FF sc YF (d + 6) m_X11_sightings [vr 0, vi n, vi what] M Q := by
  obtain ⟨g, j, w⟩ := G
  refine ca_X11_sightings n what M (s_isIn n 1 10 M (brI0 (fun h => k _ M ⟨g, j, w⟩ UpX.rf rfl (.inl ⟨fun q => h q.1, rfl⟩) Keep.rf) fun h1 => s_isIn what 0 1 M (brI0 (fun h => k _ M ⟨g, j, w⟩ UpX.rf rfl (.inl ⟨fun q => h q.2.1, rfl⟩) Keep.rf) fun h2 => ?_)))
  rw [ew32 (z := 2 * n) (by omega) (by omega)]
  refine brP (fun h3 => ?_) fun h3 => k _ M ⟨g, j, w⟩ UpX.rf rfl (.inl ⟨fun q => h3 q.2.2, rfl⟩) Keep.rf
  rw [e10]
  have fin : ∀ (M1 : MM), sgI M M1 → ∀ (r : Int) (M8 : MM), sgI (stM M1 1 1 0) M8 → Q (vi r) M8 := fun M1 I r M8 I8 => by
    have u : UpX M M8 := UpX.tr ((upX_fr I.2 (by decide +kernel)).st (by decide)) (upX_fr I8.2 (by decide +kernel))
    have b10 : M8 0 10 = M 0 10 := (ax_frO I8.2 rfl (by decide +kernel)).trans ((stN (by decide)).trans (ax_frO I.2 rfl (by decide +kernel)))
    have b11 : M8 0 11 = M 0 11 := (ax_frO I8.2 rfl (by decide +kernel)).trans ((stN (by decide)).trans (ax_frO I.2 rfl (by decide +kernel)))
    have b12 : M8 0 12 = M 0 12 := (ax_frO I8.2 rfl (by decide +kernel)).trans ((stN (by decide)).trans (ax_frO I.2 rfl (by decide +kernel)))
    have b13 : M8 0 13 = M 0 13 := (ax_frO I8.2 rfl (by decide +kernel)).trans ((stN (by decide)).trans (ax_frO I.2 rfl (by decide +kernel)))
    have b14 : M8 0 14 = M 0 14 := (ax_frO I8.2 rfl (by decide +kernel)).trans ((stN (by decide)).trans (ax_frO I.2 rfl (by decide +kernel)))
    have c1 : M8 1 1 = 0 := (ax_frO I8.2 rfl (by decide +kernel)).trans stE
    exact k r M8 ⟨I8.1, u.j j, axW_eq b10 b11 b12 b13 w⟩ u b14 (.inr ⟨⟨h1, h2, h3⟩, c1⟩) (((Keep.of_fr I.2 (by decide +kernel)).st (by decide +kernel)).tr (Keep.of_fr I8.2 (by decide +kernel)))
  have emp : ∀ M1, sgI M M1 → sgI (stM M1 1 1 0) (stM M1 1 1 0) := fun M1 I => ⟨sO_1_1 I.1 (by decide) (by decide), ax_fr0⟩
  refine gA (by decide) (s_sgr_57 h1 ⟨g, ax_fr0⟩ (fun M1 I x hx => ca_X7_empty M1 (brF (by omega) (fin M1 I _ _ (emp M1 I)))) fun M1 I e3 hS x hx => ca_X7_empty M1 (brT (by omega) ?_))
  have e7 : stM M1 1 1 0 0 10 = 58 := (stN (by decide)).trans ((ax_frO I.2 rfl (by decide +kernel)).trans e10)
  rw [e7]
  have J2 : axJ (stM M1 1 1 0) := UpX.j ((upX_fr I.2 (by decide +kernel)).st (by decide)) j
  refine gA (by decide) (ca_X6_link_57 _ (sgl_57 (M0 := stM M1 1 1 0) J2 h1.2 (M1 39) hS (fun M8 I8 h3' h9' => ?_) n.toNat 0 none none _ (by omega) (by omega) (emp M1 I) ((stN (by decide)).trans e3) (fun _ => stN (by decide))))
  refine brP (fun _ => ?_) fun _ => ?_
  · have e8 : M8 0 10 = 58 := (ax_frO I8.2 rfl (by decide +kernel)).trans e7
    rw [e8]
    exact gA (by decide) (ca_X6_fromWhere_57 _ (sgf_57 (Q := cI fun r10 M9 => Q (vi r10) M9) (M0 := stM M1 1 1 0) J2 h1 (M1 39) hS (fun r M9 I9 => fin M1 I r M9 I9) n.toNat 1 none none M8 (by omega) (by omega) I8 h3' h9'))
  · exact u_X6_fewestGhosts_37 (ah_X6_fewestGhosts_37 axH) I8.1 (ax_j axH I8.2 (by decide +kernel) J2) fun r M9 _ _ g9 f9 => fin M1 I r M9 ⟨g9, ax_frT I8.2 (ax_frW f9 (by decide +kernel))⟩
end SG57
theorem u_X3_measure_32_61 {J : MM → Prop} (S : ai_SP ax_T J ap_X3_measure_32_61) {sc : List Int} {d : Nat} {M : MM} {Q : Vv → MM → Prop} {v2 : Int} (h0 : 0 ≤ v2 ∧ v2 ≤ 63) (G : ai_GI ax_T M) (j : J M) (k0 : ∀ (r : Int) (M1 : MM), 0 ≤ r → r ≤ 0 → ai_GI ax_T M1 → ai_Fr ax_T ap_X3_measure_32_61.2.2.2.1 M M1 → Q (vi r) M1) : CA FF sc YF (d + 4) m_X3_measure [vr 32, vr 61, vi v2] M Q := by
  refine S sc d (ax_rh [v2]) M _ Q rfl rfl (And.intro (ax_r) (And.intro (ax_r) (And.intro (ax_i (by decide) rfl) (And.intro (ax_o) (And.intro (ax_o) (And.intro (ax_o) (And.intro (ax_o) trivial))))))) ⟨(ax_e1 (by decide) h0.1 h0.2 ax_e0), ax_f0, ax_c0, ax_m0⟩ G j (fun r M1 g f hq => ?_)
  replace hq := ax_q1 hq
  obtain ⟨-, ρ1, e0, hr, kE, kF, kC, kN⟩ := hq
  have hr : r = vi (ρ1 1) := hr
  have e1 : ρ1 0 = v2 := e0 0 (by decide)
  have b0 := kE _ (List.mem_cons_self)
  have b0 : 0 ≤ ρ1 1 ∧ ρ1 1 ≤ 0 := b0.2
  rw [hr]
  exact k0 _ _ (by omega) (by omega) g f
theorem ca_X6_read_61 {sc : List Int} {d : Nat} {Q : Vv → MM → Prop} (v2 : Int) (M : MM) (h : WP FF sc YF (d + 1) m_X6_read 5 [] [some (vr 37), some (vr 1), some (vi v2), some (vr 61), some (vi 0)] (stM M 37 3 v2) Q) : CA FF sc YF (d + 1) m_X6_read [vr 37, vr 1, vi v2, vr 61] M Q := ca_go rfl rfl (fun j => Nat.beq j 5) 64 h
theorem rg_X6_read_5_61 {sc : List Int} {d : Nat} {Q : Vv → MM → Prop} (v2 : Int) (v4 : Int) (M : MM) (h : brA (decide (v2 ≤ v4))
  (Q (vi 1) M)
  (CA FF sc YF d m_X7_at [vr 1, vi (w32 (2 * v4))] M (cI fun r2 M1 =>
   gAnd (decide (0 ≤ v4) && decide (v4 < 10)) (CA FF sc YF d m_X7_at [vr 1, vi (w32 ((w32 (2 * v4)) + 1))] (stM M1 38 (v4.toNat) r2) (cI fun r4 M3 =>
    gAnd (decide (0 ≤ v4) && decide (v4 < 10)) (gAnd (decide (0 ≤ v4) && decide (v4 < 10)) (gAnd (decide (0 ≤ v4) && decide (v4 < 10)) (CA FF sc YF d m_X9_isWall [vr 61, vi ((stM (stM M3 39 (v4.toNat) r4) 40 (v4.toNat) 0) 39 v4.toNat)] (stM (stM M3 39 (v4.toNat) r4) 40 (v4.toNat) 0) (cI fun r6 M5 =>
     brA (decide (r6 ≠ 0))
      (Q (vi 0) M5)
      (brA (decide (v4 ≤ 0))
       (WP FF sc YF (d + 1) m_X6_read 5 [] [some (vr 37), some (vr 1), some (vi v2), some (vr 61), some (vi (w32 (v4 + 1)))] M5 Q)
       (gAnd (decide (0 ≤ v4) && decide (v4 < 10)) (gAnd (decide (0 ≤ (w32 (v4 - 1))) && decide ((w32 (v4 - 1)) < 10)) (brA (decide ((M5 38 (w32 (v4 - 1)).toNat) ≤ (M5 38 v4.toNat)))
        (WP FF sc YF (d + 1) m_X6_read 5 [] [some (vr 37), some (vr 1), some (vi v2), some (vr 61), some (vi (w32 (v4 + 1)))] M5 Q)
        (Q (vi 0) M5)))))))))))))) : WP FF sc YF (d + 1) m_X6_read 5 [] [some (vr 37), some (vr 1), some (vi v2), some (vr 61), some (vi v4)] M Q := wp_go rfl (fun j => Nat.beq j 5) 64 h
theorem ca_X6_link_61 {sc : List Int} {d : Nat} {Q : Vv → MM → Prop}  (M : MM) (h : WP FF sc YF (d + 1) m_X6_link 2 [] [some (vr 37), some (vr 61), some (vr 32), some (vi 0), none, none] M Q) : CA FF sc YF (d + 1) m_X6_link [vr 37, vr 61, vr 32] M Q := ca_go rfl rfl (fun j => Nat.beq j 2 || Nat.beq j 17) 73 h
theorem rg_X6_link_2_61 {sc : List Int} {d : Nat} {Q : Vv → MM → Prop} (v3 : Int) (o4 : Option Vv) (o5 : Option Vv) (M : MM) (h : brA (decide ((M 37 3) ≤ v3))
  (Q (vi 0) M)
  (gAnd (decide (0 ≤ v3) && decide (v3 < 10)) (CA FF sc YF d m_X3_measure [vr 32, vr 61, vi (M 39 v3.toNat)] M (fun _ M1 =>
   WP FF sc YF (d + 1) m_X6_link 17 [] [some (vr 37), some (vr 61), some (vr 32), some (vi v3), some (vi (w32 (v3 + 1))), o5] M1 Q)))) : WP FF sc YF (d + 1) m_X6_link 2 [] [some (vr 37), some (vr 61), some (vr 32), some (vi v3), o4, o5] M Q := wp_go rfl (fun j => Nat.beq j 2 || Nat.beq j 17) 73 h
theorem rg_X6_link_17_61 {sc : List Int} {d : Nat} {Q : Vv → MM → Prop} (v3 : Int) (v4 : Int) (o5 : Option Vv) (M : MM) (h : brA (decide ((M 37 3) ≤ v4))
  (WP FF sc YF (d + 1) m_X6_link 2 [] [some (vr 37), some (vr 61), some (vr 32), some (vi (w32 (v3 + 1))), some (vi v4), o5] M Q)
  (gAnd (decide (0 ≤ v4) && decide (v4 < 10)) (gAnd (decide (0 ≤ (M 39 v4.toNat)) && decide ((M 39 v4.toNat) < 64)) (brA (decide ((M 33 (M 39 v4.toNat).toNat) = ((-1))))
   (WP FF sc YF (d + 1) m_X6_link 17 [] [some (vr 37), some (vr 61), some (vr 32), some (vi v3), some (vi (w32 (v4 + 1))), some (vi (M 33 (M 39 v4.toNat).toNat))] M Q)
   (gAnd (decide (0 ≤ v4) && decide (v4 < 10)) (gAnd (decide (0 ≤ v3) && decide (v3 < 10)) (brA (decide ((w32 ((M 38 v4.toNat) - (M 38 v3.toNat))) < (M 33 (M 39 v4.toNat).toNat)))
    (WP FF sc YF (d + 1) m_X6_link 17 [] [some (vr 37), some (vr 61), some (vr 32), some (vi v3), some (vi (w32 (v4 + 1))), some (vi (M 33 (M 39 v4.toNat).toNat))] M Q)
    (gAnd (decide (0 ≤ v3) && decide (v3 < 10)) (gAnd (decide (0 ≤ v3) && decide (v3 < 10)) (gAnd (decide (0 ≤ v4) && decide (v4 < 10)) (gAnd (decide (0 ≤ v4) && decide (v4 < 10)) (WP FF sc YF (d + 1) m_X6_link 17 [] [some (vr 37), some (vr 61), some (vr 32), some (vi v3), some (vi (w32 (v4 + 1))), some (vi (M 33 (M 39 v4.toNat).toNat))] (stM (stM M 40 (v3.toNat) (bOr (M 40 v3.toNat) (bShl 1 v4))) 40 (v4.toNat) (bOr ((stM M 40 (v3.toNat) (bOr (M 40 v3.toNat) (bShl 1 v4))) 40 v4.toNat) (bShl 1 v3))) Q)))))))))))) : WP FF sc YF (d + 1) m_X6_link 17 [] [some (vr 37), some (vr 61), some (vr 32), some (vi v3), some (vi v4), o5] M Q := wp_go rfl (fun j => Nat.beq j 2 || Nat.beq j 17) 73 h
theorem ca_X6_fromWhere_61 {sc : List Int} {d : Nat} {Q : Vv → MM → Prop}  (M : MM) (h : WP FF sc YF (d + 1) m_X6_fromWhere 2 [] [some (vr 37), some (vr 61), some (vr 32), some (vi 1), none, none] M Q) : CA FF sc YF (d + 1) m_X6_fromWhere [vr 37, vr 61, vr 32] M Q := ca_go rfl rfl (fun j => Nat.beq j 2 || Nat.beq j 30 || Nat.beq j 48) 73 h
theorem rg_X6_fromWhere_2_61 {sc : List Int} {d : Nat} {Q : Vv → MM → Prop} (v3 : Int) (o4 : Option Vv) (o5 : Option Vv) (M : MM) (h : brA (decide ((M 37 3) ≤ v3))
  (CA FF sc YF d m_X3_measure [vr 32, vr 61, vi (M 39 0)] M (fun _ M1 =>
   WP FF sc YF (d + 1) m_X6_fromWhere 30 [] [some (vr 37), some (vr 61), some (vr 32), some (vi 0), some (vi 0), o5] M1 Q))
  (gAnd (decide (0 ≤ v3) && decide (v3 < 10)) (CA FF sc YF d m_X11_hasBit [vi (M 40 v3.toNat), vi (w32 (v3 - 1))] M (cI fun r3 M2 =>
   brA (decide (r3 ≠ 0))
    (WP FF sc YF (d + 1) m_X6_fromWhere 2 [] [some (vr 37), some (vr 61), some (vr 32), some (vi (w32 (v3 + 1))), o4, o5] M2 Q)
    (Q (vi 0) M2))))) : WP FF sc YF (d + 1) m_X6_fromWhere 2 [] [some (vr 37), some (vr 61), some (vr 32), some (vi v3), o4, o5] M Q := wp_go rfl (fun j => Nat.beq j 2 || Nat.beq j 30 || Nat.beq j 48) 73 h
theorem rg_X6_fromWhere_30_61 {sc : List Int} {d : Nat} {Q : Vv → MM → Prop} (v3 : Int) (v4 : Int) (o5 : Option Vv) (M : MM) (h : brA (decide (10 ≤ v4))
  (Q (vi v3) M)
  (gAnd (decide (0 ≤ v4) && decide (v4 < 10)) (brA (decide ((M 63 v4.toNat) ≠ ((-1))))
   (gAnd (decide (0 ≤ v4) && decide (v4 < 10)) (gAnd (decide (0 ≤ (M 63 v4.toNat)) && decide ((M 63 v4.toNat) < 64)) (WP FF sc YF (d + 1) m_X6_fromWhere 48 [vi (M 33 (M 63 v4.toNat).toNat)] [some (vr 37), some (vr 61), some (vr 32), some (vi v3), some (vi v4), o5] M Q)))
   (WP FF sc YF (d + 1) m_X6_fromWhere 48 [vi ((-1))] [some (vr 37), some (vr 61), some (vr 32), some (vi v3), some (vi v4), o5] M Q)))) : WP FF sc YF (d + 1) m_X6_fromWhere 30 [] [some (vr 37), some (vr 61), some (vr 32), some (vi v3), some (vi v4), o5] M Q := wp_go rfl (fun j => Nat.beq j 2 || Nat.beq j 30 || Nat.beq j 48) 73 h
theorem rg_X6_fromWhere_48_61 {sc : List Int} {d : Nat} {Q : Vv → MM → Prop} (v3 : Int) (v4 : Int) (o5 : Option Vv) (s0 : Int) (M : MM) (h : brA (decide (s0 = ((-1))))
  (WP FF sc YF (d + 1) m_X6_fromWhere 30 [] [some (vr 37), some (vr 61), some (vr 32), some (vi v3), some (vi (w32 (v4 + 1))), some (vi s0)] M Q)
  (brA (decide ((M 38 0) < s0))
   (WP FF sc YF (d + 1) m_X6_fromWhere 30 [] [some (vr 37), some (vr 61), some (vr 32), some (vi v3), some (vi (w32 (v4 + 1))), some (vi s0)] M Q)
   (WP FF sc YF (d + 1) m_X6_fromWhere 30 [] [some (vr 37), some (vr 61), some (vr 32), some (vi (bOr v3 (bShl 1 v4))), some (vi (w32 (v4 + 1))), some (vi s0)] M Q))) : WP FF sc YF (d + 1) m_X6_fromWhere 48 [vi s0] [some (vr 37), some (vr 61), some (vr 32), some (vi v3), some (vi v4), o5] M Q := wp_go rfl (fun j => Nat.beq j 2 || Nat.beq j 30 || Nat.beq j 48) 73 h
theorem ca_X9_isWall_61 {sc : List Int} {d : Nat} {Q : Vv → MM → Prop} (v1 : Int) (M : MM) (h : CA FF sc YF d m_X9_at [vr 61, vi v1] M (cI fun r2 M1 =>
  brA (decide (r2 ≠ 1))
   (Q (vi 0) M1)
   (Q (vi 1) M1))) : CA FF sc YF (d + 1) m_X9_isWall [vr 61, vi v1] M Q := ca_go rfl rfl (fun j => false) 14 h
theorem ca_X9_at_61 {sc : List Int} {d : Nat} {Q : Vv → MM → Prop} (v1 : Int) (M : MM) (h : brA (decide (v1 < 0))
  (Q (vi 1) M)
  (brA (decide (64 ≤ v1))
   (Q (vi 1) M)
   (gAnd (decide (0 ≤ v1) && decide (v1 < 64)) (Q (vi (M 62 v1.toNat)) M)))) : CA FF sc YF (d + 1) m_X9_at [vr 61, vi v1] M Q := ca_go rfl rfl (fun j => false) 17 h
section SG61
variable {sc : List Int} {d : Nat} {Q : Vv → MM → Prop} {M0 : MM}
theorem s_isWall_61 {M : MM} {v : Int} (k0 : 0 ≤ v ∧ v ≤ 63 → ∀ x : Int, x = 0 → Q (vi x) M) (k1 : ∀ x : Int, x = 1 → Q (vi x) M) : CA FF sc YF (d + 2) m_X9_isWall [vr 61, vi v] M Q := by
  have h1 : ∀ x : Int, x = 1 → Q (vi 1) M := fun _ _ => k1 1 rfl
  exact ca_X9_isWall_61 v M (ca_X9_at_61 v M (brP (fun _ => k1 1 rfl) fun _ => brP (fun _ => k1 1 rfl) fun _ => gI (by omega) (by omega) (brP (fun _ => k0 (by omega) 0 rfl) fun _ => k1 1 rfl)))
theorem sgr_61 {n : Int} (hn : 1 ≤ n ∧ n ≤ 10) (k0 : ∀ M1, sgI M0 M1 → ∀ x : Int, x = 0 → Q (vi x) M1) (k1 : ∀ M1, sgI M0 M1 → M1 37 3 = n → (∀ i : Nat, (i : Int) < n → 0 ≤ M1 39 i ∧ M1 39 i ≤ 63) → ∀ x : Int, x = 1 → Q (vi x) M1) : ∀ (m : Nat) (i : Int) (M : MM), (n - i).toNat ≤ m → 0 ≤ i → sgI M0 M → M 37 3 = n → (∀ j : Nat, (j : Int) < i → 0 ≤ M 39 j ∧ M 39 j ≤ 63) → WP FF sc YF (d + 3) m_X6_read 5 [] [some (vr 37), some (vr 1), some (vi n), some (vr 61), some (vi i)] M Q := by
  intro m
  induction m with
  | zero =>
    intro i M hm hi I h3 hs
    exact rg_X6_read_5_61 n i M (brT (by omega) (k1 M I h3 (fun j hj => hs j (by omega)) 1 rfl))
  | succ m ih =>
    intro i M hm hi I h3 hs
    refine rg_X6_read_5_61 n i M (brP (fun h => k1 M I h3 (fun j hj => hs j (by omega)) 1 rfl) fun h => ?_)
    rw [ew32 (z := 2 * i) (by omega) (by omega), ew32 (z := 2 * i + 1) (by omega) (by omega)]
    refine s_at (fun r2 a1 a2 _ _ => gI hi (by omega) ?_) I.1
    have I1 : sgI M0 (stM M 38 i.toNat r2) := I.st (sA_38 I.1 a1 a2) (by rw [ax_slA rfl]; decide +kernel)
    refine s_at (fun r4 b1 b2 _ _ => gI hi (by omega) (gI hi (by omega) (gI hi (by omega) ?_))) I1.1
    have I2 : sgI M0 (stM (stM M 38 i.toNat r2) 39 i.toNat r4) := I1.st (sA_39 I1.1 b1 b2) (by rw [ax_slA rfl]; decide +kernel)
    have I3 : sgI M0 (stM (stM (stM M 38 i.toNat r2) 39 i.toNat r4) 40 i.toNat 0) := I2.st (sA_40 I2.1 (by decide) (by decide)) (by rw [ax_slA rfl]; decide +kernel)
    have e39 : ∀ j, stM (stM (stM M 38 i.toNat r2) 39 i.toNat r4) 40 i.toNat 0 39 j = if j = i.toNat then r4 else M 39 j := fun j => by
      rw [stN (by decide), stM_at]
      by_cases hj : j = i.toNat
      · rw [if_pos ⟨rfl, hj⟩, if_pos hj]
      · rw [if_neg (fun q => hj q.2), if_neg hj, stN (by decide)]
    rw [e39, if_pos rfl]
    have e3 : stM (stM (stM M 38 i.toNat r2) 39 i.toNat r4) 40 i.toNat 0 37 3 = n := by rw [stN (by decide), stN (by decide), stN (by decide)]; exact h3
    generalize stM (stM (stM M 38 i.toNat r2) 39 i.toNat r4) 40 i.toNat 0 = M3 at I3 e39 e3
    refine s_isWall_61 (fun hr x hx => ?_) (fun x hx => brT (by omega) (k0 _ I3 0 rfl))
    have hnx : WP FF sc YF (d + 3) m_X6_read 5 [] [some (vr 37), some (vr 1), some (vi n), some (vr 61), some (vi (w32 (i + 1)))] M3 Q := by
      rw [ew32 (z := i + 1) (by omega) (by omega)]
      refine ih (i + 1) M3 (by omega) (by omega) I3 e3 fun j hj => ?_
      rw [e39]
      split
      · exact hr
      · exact hs j (by omega)
    refine brF (by omega) (brP (fun _ => hnx) fun hi0 => gI hi (by omega) ?_)
    rw [ew32 (z := i - 1) (by omega) (by omega)]
    exact gI (by omega) (by omega) (brP (fun _ => hnx) fun _ => k0 _ I3 0 rfl)
theorem s_sgr_61 {n : Int} {M : MM} (hn : 1 ≤ n ∧ n ≤ 10) (I : sgI M0 M) (k0 : ∀ M1, sgI M0 M1 → ∀ x : Int, x = 0 → Q (vi x) M1) (k1 : ∀ M1, sgI M0 M1 → M1 37 3 = n → (∀ i : Nat, (i : Int) < n → 0 ≤ M1 39 i ∧ M1 39 i ≤ 63) → ∀ x : Int, x = 1 → Q (vi x) M1) : CA FF sc YF (d + 3) m_X6_read [vr 37, vr 1, vi n, vr 61] M Q := ca_X6_read_61 n M (sgr_61 hn k0 k1 n.toNat 0 _ (by omega) (by omega) (I.st (sO_37_3 I.1 (by omega) (by omega)) (by decide +kernel)) stE (fun j hj => by omega))
theorem sgl2_61 {n : Int} {i : Int} (hi : 0 ≤ i ∧ i < n) (hn : n ≤ 10) (S : Nat → Int) (hS : ∀ j : Nat, (j : Int) < n → 0 ≤ S j ∧ S j ≤ 63) (K : ∀ (j : Int) (o5 : Option Vv) (M : MM), sgI M0 M → M 37 3 = n → (∀ j, M 39 j = S j) → WP FF sc YF (d + 5) m_X6_link 2 [] [some (vr 37), some (vr 61), some (vr 32), some (vi (i + 1)), some (vi j), o5] M Q) : ∀ (m : Nat) (j : Int) (o5 : Option Vv) (M : MM), (n - j).toNat ≤ m → 0 ≤ j → sgI M0 M → M 37 3 = n → (∀ j, M 39 j = S j) → WP FF sc YF (d + 5) m_X6_link 17 [] [some (vr 37), some (vr 61), some (vr 32), some (vi i), some (vi j), o5] M Q := by
  intro m
  induction m with
  | zero =>
    intro j o5 M hm hj I h3 h9
    refine rg_X6_link_17_61 i j o5 M (brT (by omega) ?_)
    rw [ew32 (z := i + 1) (by omega) (by omega)]
    exact K j o5 M I h3 h9
  | succ m ih =>
    intro j o5 M hm hj I h3 h9
    refine rg_X6_link_17_61 i j o5 M (brP (fun h => ?_) fun h => ?_)
    · rw [ew32 (z := i + 1) (by omega) (by omega)]
      exact K j o5 M I h3 h9
    · have hs := hS j.toNat (by omega)
      rw [h9 j.toNat, ew32 (z := j + 1) (by omega) (by omega)]
      have hnx : ∀ (o5 : Option Vv) (M : MM), sgI M0 M → M 37 3 = n → (∀ j, M 39 j = S j) → WP FF sc YF (d + 5) m_X6_link 17 [] [some (vr 37), some (vr 61), some (vr 32), some (vi i), some (vi (j + 1)), o5] M Q := fun o5 M I h3 h9 => ih (j + 1) o5 M (by omega) (by omega) I h3 h9
      have g1 := rA_40 I.1 i.toNat
      have b1 := bor_r g1 (b := j) (by omega)
      have I1 : sgI M0 (stM M 40 i.toNat (bOr (M 40 i.toNat) (bShl 1 j))) := I.st (sA_40 I.1 b1.1 b1.2) (by rw [ax_slA rfl]; decide +kernel)
      have g2 := rA_40 I1.1 j.toNat
      have b2 := bor_r g2 (b := i) (by omega)
      have I2 := I1.st (sA_40 I1.1 b2.1 b2.2) (j := j.toNat) (by rw [ax_slA rfl]; decide +kernel)
      exact gI hj (by omega) (gI hs.1 (by omega) (brP (fun _ => hnx _ M I h3 h9) fun _ => gI hj (by omega) (gI hi.1 (by omega) (brP (fun _ => hnx _ M I h3 h9) fun _ => gI hi.1 (by omega) (gI hi.1 (by omega) (gI hj (by omega) (gI hj (by omega) (hnx _ _ I2 (by rw [stN (by decide), stN (by decide)]; exact h3) fun x => by rw [stN (by decide), stN (by decide)]; exact h9 x))))))))
theorem sgl_61 {n : Int} (J : axJ M0) (hn : n ≤ 10) (S : Nat → Int) (hS : ∀ j : Nat, (j : Int) < n → 0 ≤ S j ∧ S j ≤ 63) (k : ∀ M, sgI M0 M → M 37 3 = n → (∀ j, M 39 j = S j) → Q (vi 0) M) : ∀ (m : Nat) (i : Int) (o4 o5 : Option Vv) (M : MM), (n - i).toNat ≤ m → 0 ≤ i → sgI M0 M → M 37 3 = n → (∀ j, M 39 j = S j) → WP FF sc YF (d + 5) m_X6_link 2 [] [some (vr 37), some (vr 61), some (vr 32), some (vi i), o4, o5] M Q := by
  intro m
  induction m with
  | zero =>
    intro i o4 o5 M hm hi I h3 h9
    exact rg_X6_link_2_61 i o4 o5 M (brT (by omega) (k M I h3 h9))
  | succ m ih =>
    intro i o4 o5 M hm hi I h3 h9
    refine rg_X6_link_2_61 i o4 o5 M (brP (fun h => k M I h3 h9) fun h => gI hi (by omega) ?_)
    rw [h9]
    refine u_X3_measure_32_61 (ah_X3_measure_32_61 axH) (hS i.toNat (by omega)) I.1 (ax_j axH I.2 (by decide +kernel) J) fun r M1 _ _ g f => ?_
    have I1 : sgI M0 M1 := ⟨g, ax_frT I.2 (ax_frW f (by decide +kernel))⟩
    have h3' : M1 37 3 = n := (ax_frO f rfl (by decide +kernel)).trans h3
    have h9' : ∀ j, M1 39 j = S j := fun j => (ax_frA f rfl (by decide +kernel) j).trans (h9 j)
    show WP _ _ _ _ _ _ _ [_, _, _, _, some (vi (w32 (i + 1))), _] _ _
    rw [ew32 (z := i + 1) (by omega) (by omega)]
    exact sgl2_61 ⟨hi, by omega⟩ hn S hS (fun j o5 M I h3 h9 => ih (i + 1) _ o5 M (by omega) (by omega) I h3 h9) (n - (i + 1)).toNat (i + 1) o5 M1 (by omega) (by omega) I1 h3' h9'
theorem sgf2_61 (k : ∀ r M, sgI M0 M → Q (vi r) M) : ∀ (m : Nat) (v3 h : Int) (o5 : Option Vv) (M : MM), (10 - h).toNat ≤ m → 0 ≤ h → sgI M0 M → WP FF sc YF (d + 1) m_X6_fromWhere 30 [] [some (vr 37), some (vr 61), some (vr 32), some (vi v3), some (vi h), o5] M Q := by
  intro m
  induction m with
  | zero =>
    intro v3 h o5 M hm hh I
    exact rg_X6_fromWhere_30_61 v3 h o5 M (brT (by omega) (k v3 M I))
  | succ m ih =>
    intro v3 h o5 M hm hh I
    have h48 : ¬ (10 ≤ h) → ∀ s0 : Int, WP FF sc YF (d + 1) m_X6_fromWhere 48 [vi s0] [some (vr 37), some (vr 61), some (vr 32), some (vi v3), some (vi h), o5] M Q := fun hlt s0 => by
      refine rg_X6_fromWhere_48_61 v3 h o5 s0 M ?_
      rw [ew32 (z := h + 1) (by omega) (by omega)]
      exact brP (fun _ => ih _ _ _ M (by omega) (by omega) I) fun _ => brP (fun _ => ih _ _ _ M (by omega) (by omega) I) fun _ => ih _ _ _ M (by omega) (by omega) I
    have g := rA_63 I.1 h.toNat
    exact rg_X6_fromWhere_30_61 v3 h o5 M (brP (fun _ => k v3 M I) fun hlt => gI hh (by omega) (brP (fun hne => gI hh (by omega) (gI (by omega) (by omega) (h48 hlt _))) fun _ => h48 hlt _))
theorem sgf_61 {n : Int} (J : axJ M0) (hn : 1 ≤ n ∧ n ≤ 10) (S : Nat → Int) (hS : ∀ j : Nat, (j : Int) < n → 0 ≤ S j ∧ S j ≤ 63) (k : ∀ r M, sgI M0 M → Q (vi r) M) : ∀ (m : Nat) (i : Int) (o4 o5 : Option Vv) (M : MM), (n - i).toNat ≤ m → 0 ≤ i → sgI M0 M → M 37 3 = n → (∀ j, M 39 j = S j) → WP FF sc YF (d + 5) m_X6_fromWhere 2 [] [some (vr 37), some (vr 61), some (vr 32), some (vi i), o4, o5] M Q := by
  have hend : ∀ (i : Int) (o4 o5 : Option Vv) (M : MM), sgI M0 M → (∀ j, M 39 j = S j) → CA FF sc YF (d + 4) m_X3_measure [vr 32, vr 61, vi (M 39 0)] M (fun _ M1 => WP FF sc YF (d + 5) m_X6_fromWhere 30 [] [some (vr 37), some (vr 61), some (vr 32), some (vi 0), some (vi 0), o5] M1 Q) := fun i o4 o5 M I h9 => by
    rw [h9]
    exact u_X3_measure_32_61 (ah_X3_measure_32_61 axH) (hS 0 (by omega)) I.1 (ax_j axH I.2 (by decide +kernel) J) fun r M1 _ _ g f => sgf2_61 k 10 0 0 o5 M1 (by omega) (by omega) ⟨g, ax_frT I.2 (ax_frW f (by decide +kernel))⟩
  intro m
  induction m with
  | zero =>
    intro i o4 o5 M hm hi I h3 h9
    exact rg_X6_fromWhere_2_61 i o4 o5 M (brT (by omega) (hend i o4 o5 M I h9))
  | succ m ih =>
    intro i o4 o5 M hm hi I h3 h9
    refine rg_X6_fromWhere_2_61 i o4 o5 M (brP (fun _ => hend i o4 o5 M I h9) fun hlt => gI hi (by omega) (s_hasBit fun r _ => brP (fun _ => ?_) fun _ => k _ M I))
    rw [ew32 (z := i + 1) (by omega) (by omega)]
    exact ih (i + 1) o4 o5 M (by omega) (by omega) I h3 h9
theorem sx_sightings_61 {n what : Int} {M : MM} (G : axG M) (e10 : M 0 10 = 62) (k : ∀ (r : Int) (M1 : MM), axG M1 → UpX M M1 → M1 0 14 = M 0 14 → szX ((1 ≤ n ∧ n ≤ 10) ∧ (0 ≤ what ∧ what ≤ 1) ∧ 2 * n ≤ M 1 1) M M1 → Keep kpS M M1 → Q (vi r) M1) : CA FF sc YF (d + 6) m_X11_sightings [vr 0, vi n, vi what] M Q := by
  obtain ⟨g, j, w⟩ := G
  refine ca_X11_sightings n what M (s_isIn n 1 10 M (brI0 (fun h => k _ M ⟨g, j, w⟩ UpX.rf rfl (.inl ⟨fun q => h q.1, rfl⟩) Keep.rf) fun h1 => s_isIn what 0 1 M (brI0 (fun h => k _ M ⟨g, j, w⟩ UpX.rf rfl (.inl ⟨fun q => h q.2.1, rfl⟩) Keep.rf) fun h2 => ?_)))
  rw [ew32 (z := 2 * n) (by omega) (by omega)]
  refine brP (fun h3 => ?_) fun h3 => k _ M ⟨g, j, w⟩ UpX.rf rfl (.inl ⟨fun q => h3 q.2.2, rfl⟩) Keep.rf
  rw [e10]
  have fin : ∀ (M1 : MM), sgI M M1 → ∀ (r : Int) (M8 : MM), sgI (stM M1 1 1 0) M8 → Q (vi r) M8 := fun M1 I r M8 I8 => by
    have u : UpX M M8 := UpX.tr ((upX_fr I.2 (by decide +kernel)).st (by decide)) (upX_fr I8.2 (by decide +kernel))
    have b10 : M8 0 10 = M 0 10 := (ax_frO I8.2 rfl (by decide +kernel)).trans ((stN (by decide)).trans (ax_frO I.2 rfl (by decide +kernel)))
    have b11 : M8 0 11 = M 0 11 := (ax_frO I8.2 rfl (by decide +kernel)).trans ((stN (by decide)).trans (ax_frO I.2 rfl (by decide +kernel)))
    have b12 : M8 0 12 = M 0 12 := (ax_frO I8.2 rfl (by decide +kernel)).trans ((stN (by decide)).trans (ax_frO I.2 rfl (by decide +kernel)))
    have b13 : M8 0 13 = M 0 13 := (ax_frO I8.2 rfl (by decide +kernel)).trans ((stN (by decide)).trans (ax_frO I.2 rfl (by decide +kernel)))
    have b14 : M8 0 14 = M 0 14 := (ax_frO I8.2 rfl (by decide +kernel)).trans ((stN (by decide)).trans (ax_frO I.2 rfl (by decide +kernel)))
    have c1 : M8 1 1 = 0 := (ax_frO I8.2 rfl (by decide +kernel)).trans stE
    exact k r M8 ⟨I8.1, u.j j, axW_eq b10 b11 b12 b13 w⟩ u b14 (.inr ⟨⟨h1, h2, h3⟩, c1⟩) (((Keep.of_fr I.2 (by decide +kernel)).st (by decide +kernel)).tr (Keep.of_fr I8.2 (by decide +kernel)))
  have emp : ∀ M1, sgI M M1 → sgI (stM M1 1 1 0) (stM M1 1 1 0) := fun M1 I => ⟨sO_1_1 I.1 (by decide) (by decide), ax_fr0⟩
  refine gA (by decide) (s_sgr_61 h1 ⟨g, ax_fr0⟩ (fun M1 I x hx => ca_X7_empty M1 (brF (by omega) (fin M1 I _ _ (emp M1 I)))) fun M1 I e3 hS x hx => ca_X7_empty M1 (brT (by omega) ?_))
  have e7 : stM M1 1 1 0 0 10 = 62 := (stN (by decide)).trans ((ax_frO I.2 rfl (by decide +kernel)).trans e10)
  rw [e7]
  have J2 : axJ (stM M1 1 1 0) := UpX.j ((upX_fr I.2 (by decide +kernel)).st (by decide)) j
  refine gA (by decide) (ca_X6_link_61 _ (sgl_61 (M0 := stM M1 1 1 0) J2 h1.2 (M1 39) hS (fun M8 I8 h3' h9' => ?_) n.toNat 0 none none _ (by omega) (by omega) (emp M1 I) ((stN (by decide)).trans e3) (fun _ => stN (by decide))))
  refine brP (fun _ => ?_) fun _ => ?_
  · have e8 : M8 0 10 = 62 := (ax_frO I8.2 rfl (by decide +kernel)).trans e7
    rw [e8]
    exact gA (by decide) (ca_X6_fromWhere_61 _ (sgf_61 (Q := cI fun r10 M9 => Q (vi r10) M9) (M0 := stM M1 1 1 0) J2 h1 (M1 39) hS (fun r M9 I9 => fin M1 I r M9 I9) n.toNat 1 none none M8 (by omega) (by omega) I8 h3' h9'))
  · exact u_X6_fewestGhosts_37 (ah_X6_fewestGhosts_37 axH) I8.1 (ax_j axH I8.2 (by decide +kernel) J2) fun r M9 _ _ g9 f9 => fin M1 I r M9 ⟨g9, ax_frT I8.2 (ax_frW f9 (by decide +kernel))⟩
end SG61
