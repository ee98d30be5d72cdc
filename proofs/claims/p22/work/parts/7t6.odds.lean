/-! PART 7t6: the answers of odds -/
theorem pc_X11_odds {sc : List Int} {n : Nat} {Q : Vv → MM → Prop} (v1 : Int) (v2 : Int) (v3 : Int) (M : MM) (h : ∀ n1, n1 < n → PC sc n1 m_X11_isIn [vi v1, vi 0, vi 1023] M (cI fun r2 M1 =>
  brA (decide (r2 = 0))
   (Q (vl ((-1))) M1)
   (PC sc n1 m_X11_hasSpot [vr 0, vi v2] M1 (cI fun r4 M3 =>
    brA (decide (r4 = 0))
     (Q (vl ((-1))) M3)
     (PC sc n1 m_X11_hasBit [vi v1, vi v2] M3 (cI fun r6 M5 =>
      brA (decide (r6 ≠ 0))
       (Q (vl ((-1))) M5)
       (PC sc n1 m_X11_isIn [vi v3, vi 0, vi 1] M5 (cI fun r8 M7 =>
        brA (decide (r8 ≠ 0))
         (gIm (decide (0 < M7 0 10)) (gIm (kd YF ((M7 0 10).toNat - 1) == 18) (PC sc n1 m_X9_housesWithSpots [vr ((M7 0 10).toNat - 1)] M7 (cI fun r10 M9 =>
          PC sc n1 m_X5_allDraws [vi (bAnd v1 r10)] M9 (cJ fun r12 M11 =>
           gIm (decide (0 < M11 0 10)) (gIm (decide (0 < M11 0 12)) (PC sc n1 m_X5_drawsThatTell [vr ((M11 0 10).toNat - 1), vr ((M11 0 12).toNat - 1), vi (M11 46 6), vi (bAnd v1 r10), vi v2] M11 (cJ fun r14 M13 =>
            PC sc n1 m_X5_commonDivisor [vl r12, vl r14] M13 (cJ fun r16 M15 =>
             brA (decide ((lcm3 r16 0) ≠ 0))
              (brA (decide (v3 ≠ 0))
               (gIm (decide (r16 ≠ 0)) (Q (vl (w64 (Int.tdiv r12 r16))) M15))
               (gIm (decide (r16 ≠ 0)) (Q (vl (w64 (Int.tdiv r14 r16))) M15)))
              (Q (vl ((-1))) M15))))))))))
         (Q (vl ((-1))) M7))))))))) : PC sc n m_X11_odds [vr 0, vi v1, vi v2, vi v3] M Q := pc_go rfl (fun j => false) 65 h
theorem pc_X5_allDraws {sc : List Int} {n : Nat} {Q : Vv → MM → Prop} (v0 : Int) (M : MM) (h : ∀ n1, n1 < n → PW sc n1 m_X5_allDraws 4 [] [some (vi v0), some (vl 1), none, some (vi 0)] M Q) : PC sc n m_X5_allDraws [vi v0] M Q := pc_go rfl (fun j => Nat.beq j 4) 24 h
theorem pw_X5_allDraws_4 {sc : List Int} {n : Nat} {Q : Vv → MM → Prop} (v0 : Int) (v1 : Int) (v3 : Int) (M : MM) (h : ∀ n1, n1 < n → brA (decide (10 ≤ v3))
  (Q (vl v1) M)
  (PC sc n1 m_X11_hasBit [vi v0, vi v3] M (cI fun r2 M1 =>
   brA (decide (r2 = 0))
    (PW sc n1 m_X5_allDraws 4 [] [some (vi v0), some (vl v1), none, some (vi (w32 (v3 + 1)))] M1 Q)
    (PW sc n1 m_X5_allDraws 4 [] [some (vi v0), some (vl (w64 (v1 * 10))), none, some (vi (w32 (v3 + 1)))] M1 Q)))) : PW sc n m_X5_allDraws 4 [] [some (vi v0), some (vl v1), none, some (vi v3)] M Q := pw_go rfl (fun j => Nat.beq j 4) 24 h
theorem pc_X5_drawsThatTell {sc : List Int} {n : Nat} {T : Nat} (hT : T = 57 ∨ T = 61) {L : Nat} (hL : L = 65 ∨ L = 73) {Q : Vv → MM → Prop} (v2 : Int) (v3 : Int) (v4 : Int) (M : MM) (h : ∀ n1, n1 < n → PW sc n1 m_X5_drawsThatTell 4 [] [some (vr T), some (vr L), some (vi v2), some (vi v3), some (vi v4), some (vl 1), none, some (vi 0)] M Q) : PC sc n m_X5_drawsThatTell [vr T, vr L, vi v2, vi v3, vi v4] M Q := by
  rcases hT with rfl | rfl <;> rcases hL with rfl | rfl <;> exact pc_go rfl (fun j => Nat.beq j 4) 35 h
theorem pw_X5_drawsThatTell_4 {sc : List Int} {n : Nat} {T : Nat} (hT : T = 57 ∨ T = 61) {L : Nat} (hL : L = 65 ∨ L = 73) {Q : Vv → MM → Prop} (v2 : Int) (v3 : Int) (v4 : Int) (v5 : Int) (v7 : Int) (M : MM) (h : ∀ n1, n1 < n → brA (decide (10 ≤ v7))
  (PC sc n1 m_X5_allDraws [vi v3] M (cJ fun r2 M1 =>
   Q (vl (w64 (r2 - v5))) M1))
  (PC sc n1 m_X11_hasBit [vi v3, vi v7] M (cI fun r4 M3 =>
   brA (decide (r4 = 0))
    (PW sc n1 m_X5_drawsThatTell 4 [] [some (vr T), some (vr L), some (vi v2), some (vi v3), some (vi v4), some (vl v5), none, some (vi (w32 (v7 + 1)))] M3 Q)
    (PC sc n1 m_X0_tenths [vr L, vr T, vi v2, vi v7, vi v4] M3 (cI fun r6 M5 =>
     PW sc n1 m_X5_drawsThatTell 4 [] [some (vr T), some (vr L), some (vi v2), some (vi v3), some (vi v4), some (vl (w64 (v5 * (w32 (10 - r6))))), none, some (vi (w32 (v7 + 1)))] M5 Q))))) : PW sc n m_X5_drawsThatTell 4 [] [some (vr T), some (vr L), some (vi v2), some (vi v3), some (vi v4), some (vl v5), none, some (vi v7)] M Q := by
  rcases hT with rfl | rfl <;> rcases hL with rfl | rfl <;> exact pw_go rfl (fun j => Nat.beq j 4) 35 h
theorem pc_X5_commonDivisor {sc : List Int} {n : Nat} {Q : Vv → MM → Prop} (v0 : Int) (v2 : Int) (M : MM) (h : ∀ n1, n1 < n → PW sc n1 m_X5_commonDivisor 2 [] [some (vl v0), none, some (vl v2), none, some (vi 0), none, none] M Q) : PC sc n m_X5_commonDivisor [vl v0, vl v2] M Q := pc_go rfl (fun j => Nat.beq j 2) 26 h
theorem pw_X5_commonDivisor_2 {sc : List Int} {n : Nat} {Q : Vv → MM → Prop} (v0 : Int) (v2 : Int) (v4 : Int) (o5 : Option Vv) (o6 : Option Vv) (M : MM) (h : ∀ n1, n1 < n → brA (decide (200 ≤ v4))
  (Q (vl v0) M)
  (brA (decide ((lcm3 v2 0) = 0))
   (Q (vl v0) M)
   (gIm (decide (v2 ≠ 0)) (PW sc n1 m_X5_commonDivisor 2 [] [some (vl v2), none, some (vl (Int.tmod v0 v2)), none, some (vi (w32 (v4 + 1))), some (vl (Int.tmod v0 v2)), none] M Q)))) : PW sc n m_X5_commonDivisor 2 [] [some (vl v0), none, some (vl v2), none, some (vi v4), o5, o6] M Q := pw_go rfl (fun j => Nat.beq j 2) 26 h
theorem pc_X12_odds {sc : List Int} {n : Nat} {Q : Vv → MM → Prop} (v1 : Int) (v2 : Int) (v3 : Int) (M : MM) (h : ∀ n1, n1 < n → PC sc n1 m_X12_in [vi v1, vi 0, vi 1023] M (cI fun r2 M1 =>
  brA (decide (r2 = 0))
   (Q (vl ((-1))) M1)
   (PC sc n1 m_X12_hasSpot [vr 81, vi v2] M1 (cI fun r4 M3 =>
    brA (decide (r4 = 0))
     (Q (vl ((-1))) M3)
     (PC sc n1 m_X12_has [vi v1, vi v2] M3 (cI fun r6 M5 =>
      brA (decide (r6 ≠ 0))
       (Q (vl ((-1))) M5)
       (PC sc n1 m_X12_in [vi v3, vi 0, vi 1] M5 (cI fun r8 M7 =>
        brA (decide (r8 ≠ 0))
         (PC sc n1 m_X12_spotsSet [vr 81] M7 (cI fun r10 M9 =>
          PC sc n1 m_X12_bits [vi (bAnd v1 r10)] M9 (cI fun r12 M11 =>
           PC sc n1 m_X12_tens [vi r12] M11 (cJ fun r14 M13 =>
            PC sc n1 m_X12_without [vr 81, vi (bAnd v1 r10), vi v2] M13 (cJ fun r16 M15 =>
             PC sc n1 m_X12_gcd [vl (w64 (r14 - r16)), vl r14] M15 (cJ fun r18 M17 =>
              brA (decide (v3 ≠ 0))
               (gIm (decide (r18 ≠ 0)) (Q (vl (w64 (Int.tdiv r14 r18))) M17))
               (gIm (decide (r18 ≠ 0)) (Q (vl (w64 (Int.tdiv (w64 (r14 - r16)) r18))) M17))))))))
         (Q (vl ((-1))) M7))))))))) : PC sc n m_X12_odds [vr 81, vi v1, vi v2, vi v3] M Q := pc_go rfl (fun j => false) 55 h
theorem pc_X12_without {sc : List Int} {n : Nat} {Q : Vv → MM → Prop} (v1 : Int) (v2 : Int) (M : MM) (h : ∀ n1, n1 < n → PW sc n1 m_X12_without 4 [] [some (vr 81), some (vi v1), some (vi v2), some (vl 1), none, some (vi 0)] M Q) : PC sc n m_X12_without [vr 81, vi v1, vi v2] M Q := pc_go rfl (fun j => Nat.beq j 4) 30 h
theorem pw_X12_without_4 {sc : List Int} {n : Nat} {Q : Vv → MM → Prop} (v1 : Int) (v2 : Int) (v3 : Int) (v5 : Int) (M : MM) (h : ∀ n1, n1 < n → brA (decide (10 ≤ v5))
  (Q (vl v3) M)
  (PC sc n1 m_X12_has [vi v1, vi v5] M (cI fun r2 M1 =>
   brA (decide (r2 = 0))
    (PW sc n1 m_X12_without 4 [] [some (vr 81), some (vi v1), some (vi v2), some (vl v3), none, some (vi (w32 (v5 + 1)))] M1 Q)
    (PC sc n1 m_X12_rumourOf [vr 81, vi v5, vi v2] M1 (cI fun r4 M3 =>
     PW sc n1 m_X12_without 4 [] [some (vr 81), some (vi v1), some (vi v2), some (vl (w64 (v3 * (w32 (10 - r4))))), none, some (vi (w32 (v5 + 1)))] M3 Q))))) : PW sc n m_X12_without 4 [] [some (vr 81), some (vi v1), some (vi v2), some (vl v3), none, some (vi v5)] M Q := pw_go rfl (fun j => Nat.beq j 4) 30 h
theorem pc_X12_tens {sc : List Int} {n : Nat} {Q : Vv → MM → Prop} (v0 : Int) (M : MM) (h : ∀ n1, n1 < n → PW sc n1 m_X12_tens 4 [] [some (vi v0), some (vl 1), none, some (vi 0)] M Q) : PC sc n m_X12_tens [vi v0] M Q := pc_go rfl (fun j => Nat.beq j 4) 20 h
theorem pw_X12_tens_4 {sc : List Int} {n : Nat} {Q : Vv → MM → Prop} (v0 : Int) (v1 : Int) (v3 : Int) (M : MM) (h : ∀ n1, n1 < n → brA (decide (v0 ≤ v3))
  (Q (vl v1) M)
  (PW sc n1 m_X12_tens 4 [] [some (vi v0), some (vl (w64 (v1 * 10))), none, some (vi (w32 (v3 + 1)))] M Q)) : PW sc n m_X12_tens 4 [] [some (vi v0), some (vl v1), none, some (vi v3)] M Q := pw_go rfl (fun j => Nat.beq j 4) 20 h
theorem pc_X12_gcd {sc : List Int} {n : Nat} {Q : Vv → MM → Prop} (v0 : Int) (v2 : Int) (M : MM) (h : ∀ n1, n1 < n → PW sc n1 m_X12_gcd 4 [] [some (vl v0), none, some (vl v2), none, some (vl v0), none, some (vl v2), none, none, none] M Q) : PC sc n m_X12_gcd [vl v0, vl v2] M Q := pc_go rfl (fun j => Nat.beq j 4) 24 h
theorem pw_X12_gcd_4 {sc : List Int} {n : Nat} {Q : Vv → MM → Prop} (v0 : Int) (v2 : Int) (v4 : Int) (v6 : Int) (o8 : Option Vv) (o9 : Option Vv) (M : MM) (h : ∀ n1, n1 < n → brA (decide ((lcm3 v6 0) = 0))
  (Q (vl v4) M)
  (gIm (decide (v6 ≠ 0)) (PW sc n1 m_X12_gcd 4 [] [some (vl v0), none, some (vl v2), none, some (vl v6), none, some (vl (Int.tmod v4 v6)), none, some (vl (Int.tmod v4 v6)), none] M Q))) : PW sc n m_X12_gcd 4 [] [some (vl v0), none, some (vl v2), none, some (vl v4), none, some (vl v6), none, o8, o9] M Q := pw_go rfl (fun j => Nat.beq j 4) 24 h
theorem p10 (m : Nat) : (1 : Int) ≤ 10 ^ m := by
  induction m with
  | zero => decide
  | succ m ih =>
    rw [Int.pow_succ]
    omega
theorem le_p10 {a : Int} (h : 0 ≤ a) (m : Nat) : a ≤ a * 10 ^ m := by
  have := Int.mul_le_mul_of_nonneg_left (p10 m) h
  rw [Int.mul_one] at this
  exact this
theorem lcm0 {x : Int} : lcm3 x 0 = 0 ↔ x = 0 := by
  unfold lcm3
  split
  · omega
  · split <;> omega
theorem cJ_l {k : Int → MM → Prop} {x : Int} {M : MM} (h : k x M) : cJ k (vl x) M := h
/- a product over the houses of a set -/
def wiV (f : Nat → Int) (kn : Int) (n i : Nat) (acc : Int) : Int := match n with
  | 0 => acc
  | n + 1 => if bit kn i = true then wiV f kn n (i + 1) (acc * f i) else wiV f kn n (i + 1) acc
theorem wiV_s (f : Nat → Int) (kn : Int) (n i : Nat) (acc : Int) : wiV f kn (n + 1) i acc = if bit kn i = true then wiV f kn n (i + 1) (acc * f i) else wiV f kn n (i + 1) acc := rfl
theorem wiV_r {f : Nat → Int} (hf : ∀ i, 0 ≤ f i ∧ f i ≤ 10) (kn : Int) : ∀ (n i : Nat) (acc b : Int), 0 ≤ acc → acc ≤ b → 0 ≤ wiV f kn n i acc ∧ wiV f kn n i acc ≤ wiV (fun _ => 10) kn n i b := by
  intro n
  induction n with
  | zero => intro i acc b h1 h2; exact ⟨h1, h2⟩
  | succ n ih =>
    intro i acc b h1 h2
    rw [wiV_s, wiV_s]
    by_cases e : bit kn i = true
    · rw [if_pos e, if_pos e]
      exact ih _ _ _ (Int.mul_nonneg h1 (hf i).1) (Int.mul_le_mul h2 (hf i).2 (hf i).1 (by omega))
    · rw [if_neg e, if_neg e]
      exact ih _ _ _ h1 h2
theorem wiV_10 (kn : Int) : ∀ (n i : Nat) (acc : Int), 0 ≤ acc → acc ≤ wiV (fun _ => 10) kn n i acc ∧ wiV (fun _ => 10) kn n i acc ≤ acc * 10 ^ n := by
  intro n
  induction n with
  | zero => intro i acc h; exact ⟨Int.le_refl _, by rw [Int.pow_zero, Int.mul_one]; exact Int.le_refl _⟩
  | succ n ih =>
    intro i acc h
    rw [wiV_s, Int.pow_succ]
    have hp := p10 n
    by_cases e : bit kn i = true
    · rw [if_pos e]
      have z := ih (i + 1) (acc * 10) (by omega)
      refine ⟨by omega, ?_⟩
      rw [Int.mul_comm (10 ^ n) 10, ← Int.mul_assoc]
      exact z.2
    · rw [if_neg e]
      have z := ih (i + 1) acc h
      refine ⟨z.1, Int.le_trans z.2 ?_⟩
      exact Int.mul_le_mul_of_nonneg_left (by omega) h
theorem wiV_sum (kn : Int) : ∀ (n i : Nat), i + n ≤ 32 → wiV (fun _ => 10) kn n i (10 ^ (bsum kn i).toNat) = 10 ^ (bsum kn (i + n)).toNat := by
  intro n
  induction n with
  | zero => intro i h; rfl
  | succ n ih =>
    intro i h
    have r := bsum_r kn i
    have e : bsum kn (i + 1) = bsum kn i + btv kn (i : Int) := rfl
    have b := btv_iff kn (k := i) (by omega)
    have bb : btv kn (i : Int) = 0 ∨ btv kn (i : Int) = 1 := by
      have m1 := btv_r kn i
      omega
    rw [wiV_s, show i + (n + 1) = i + 1 + n by omega, ← ih (i + 1) (by omega)]
    by_cases c : bit kn i = true
    · rw [if_pos c, e, b.mpr c, show (bsum kn i + 1).toNat = (bsum kn i).toNat + 1 by omega, Int.pow_succ]
    · rw [if_neg c, e, show btv kn (i : Int) = 0 from bb.resolve_right fun z => c (b.mp z), Int.add_zero]
def odA (kn : Int) : Int := wiV (fun _ => 10) kn 10 0 1
theorem odA_r (kn : Int) : 1 ≤ odA kn ∧ odA kn ≤ 10000000000 := by
  have z := wiV_10 kn 10 0 1 (by decide)
  have e : (1 : Int) * 10 ^ 10 = 10000000000 := by decide
  rw [e] at z
  exact z
def odW (M : MM) (kn : Int) (j : Nat) : Int := wiV (fun h => 10 - rmV M h j) kn 10 0 1
theorem rmV_r (M : MM) (h j : Nat) : 0 ≤ rmV M h j ∧ rmV M h j ≤ 10 := blv_r _ _ _ _ _ _ _ _ _ (by decide) _ _
theorem odW_r (M : MM) (kn : Int) (j : Nat) : 0 ≤ odW M kn j ∧ odW M kn j ≤ odA kn := wiV_r (fun i => by have := rmV_r M i j; omega) kn 10 0 1 1 (by decide) (by decide)
section ODQ
variable {sc : List Int} {Q : Vv → MM → Prop}
set_option maxRecDepth 20000 in
theorem f_allDraws {kn : Int} {M : MM} {n : Nat} (k : Q (vl (odA kn)) M) : PC sc n m_X5_allDraws [vi kn] M Q := by
  have lp : ∀ (m i n : Nat) (acc : Int), i + m = 10 → 0 ≤ acc → acc * 10 ^ m ≤ 10000000000 → Q (vl (wiV (fun _ => 10) kn m i acc)) M → PW sc n m_X5_allDraws 4 [] [some (vi kn), some (vl acc), none, some (vi (i : Int))] M Q := by
    intro m
    induction m with
    | zero =>
      intro i n acc hi _ _ k
      have hi : i = 10 := hi
      subst hi
      exact pw_X5_allDraws_4 _ _ _ M fun n1 _ => brT (by decide) k
    | succ m ih =>
      intro i n acc hi h0 hb k
      rw [wiV_s] at k
      have hb2 : acc * 10 * 10 ^ m ≤ 10000000000 := by
        rw [Int.pow_succ, Int.mul_comm (10 ^ m) 10, ← Int.mul_assoc] at hb
        exact hb
      have hb3 := le_p10 (a := acc * 10) (by omega) m
      refine pw_X5_allDraws_4 _ _ _ M fun n1 _ => brF (by omega) ?_
      rw [show w32 ((i : Int) + 1) = ((i + 1 : Nat) : Int) from ew32 (by omega) (by omega), show w64 (acc * 10) = acc * 10 from ew64 (by omega) (by omega)]
      refine p_hasC (by omega) (fun b x hx => cI_i (brT hx (ih (i + 1) n1 acc (by omega) h0 ?_ ?_))) fun b x hx => cI_i (brF (by omega) (ih (i + 1) n1 _ (by omega) (by omega) hb2 ?_))
      · have := le_p10 (a := acc) h0 m
        have h10 : acc * 10 ^ m ≤ acc * 10 * 10 ^ m := by
          have z : 0 ≤ acc * 10 ^ m := by omega
          rw [Int.mul_assoc, Int.mul_comm 10, ← Int.mul_assoc]
          omega
        omega
      · rw [b, if_neg (by decide)] at k
        exact k
      · rw [if_pos b] at k
        exact k
  exact pc_X5_allDraws _ M fun n1 _ => lp 10 0 n1 1 rfl (by decide) (by decide) k
set_option maxRecDepth 20000 in
theorem f_tens {b : Nat} (hb : b ≤ 10) {M : MM} {n : Nat} (k : Q (vl (10 ^ b)) M) : PC sc n m_X12_tens [vi (b : Int)] M Q := by
  have lp : ∀ (m i n : Nat) (acc : Int), i + m = b → 0 ≤ acc → acc * 10 ^ m ≤ 10000000000 → Q (vl (acc * 10 ^ m)) M → PW sc n m_X12_tens 4 [] [some (vi (b : Int)), some (vl acc), none, some (vi (i : Int))] M Q := by
    intro m
    induction m with
    | zero =>
      intro i n acc hi _ _ k'
      have hi : i = b := hi
      subst hi
      rw [Int.pow_zero, Int.mul_one] at k'
      exact pw_X12_tens_4 _ _ _ M fun n1 _ => brT (Int.le_refl _) k'
    | succ m ih =>
      intro i n acc hi h0 h k
      rw [Int.pow_succ, Int.mul_comm (10 ^ m) 10, ← Int.mul_assoc] at h k
      have h3 := le_p10 (a := acc * 10) (by omega) m
      refine pw_X12_tens_4 _ _ _ M fun n1 _ => brF (by omega) ?_
      rw [show w32 ((i : Int) + 1) = ((i + 1 : Nat) : Int) from ew32 (by omega) (by omega), show w64 (acc * 10) = acc * 10 from ew64 (by omega) (by omega)]
      exact ih (i + 1) n1 _ (by omega) (by omega) h k
  have e : (1 : Int) * 10 ^ b ≤ 10000000000 := by
    have h1 : (10 : Int) ^ b * 10 ^ (10 - b) = 10 ^ 10 := by rw [← Int.pow_add, show b + (10 - b) = 10 by omega]
    have h2 := le_p10 (a := (10 : Int) ^ b) (by have := p10 b; omega) (10 - b)
    have h3 : (10 : Int) ^ 10 = 10000000000 := by decide
    omega
  exact pc_X12_tens _ M fun n1 _ => lp b 0 n1 1 (Nat.zero_add _) (by decide) e (by rw [Int.one_mul]; exact k)
set_option maxRecDepth 20000 in
theorem f_tensOf {kn : Int} {M : MM} {n : Nat} (k : Q (vl (odA kn)) M) : PC sc n m_X12_tens [vi (bsum kn 10)] M Q := by
  have r := bsum_r kn 10
  have e := wiV_sum kn 10 0 (by decide)
  have e1 : bsum kn (0 + 10) = bsum kn 10 := rfl
  have e0 : (10 : Int) ^ (bsum kn 0).toNat = 1 := rfl
  rw [e0, e1] at e
  unfold odA at k
  rw [e] at k
  rw [show bsum kn 10 = (((bsum kn 10).toNat : Nat) : Int) by omega]
  refine f_tens (by omega) ?_
  exact k
/- the product of the odds that none tells it, class: the draws that tell -/
set_option maxRecDepth 20000 in
theorem f_dtC {L T : Nat} (hL : L = 65 ∨ L = 73) (hT : T = 57 ∨ T = 61) {q : LC} {cl : CL} {M0 : MM} (A : ruA L T q cl M0) {kn : Int} (ho : ruO (spV M0) kn) {j : Nat} (hj : j < 10) (hsj : spV M0 j = true) {nt : Int} (ent : nt = M0 82 34) {M : MM} (F : lqF L M0 M) {n : Nat} (k : ∀ M1, lqF L M0 M1 → Q (vl (odA kn - odW M0 kn j)) M1) : PC sc n m_X5_drawsThatTell [vr T, vr L, vi nt, vi kn, vi (j : Int)] M Q := by
  obtain ⟨R0, e34, eh⟩ := A
  have rA := odA_r kn
  have rW := odW_r M0 kn j
  have lp : ∀ (m i n : Nat) (acc : Int) (M1 : MM), i + m = 10 → lqF L M0 M1 → 0 ≤ acc → acc * 10 ^ m ≤ 10000000000 → odW M0 kn j = wiV (fun h => 10 - rmV M0 h j) kn m i acc → PW sc n m_X5_drawsThatTell 4 [] [some (vr T), some (vr L), some (vi nt), some (vi kn), some (vi (j : Int)), some (vl acc), none, some (vi (i : Int))] M1 Q := by
    intro m
    induction m with
    | zero =>
      intro i n acc M1 hi F1 _ _ e
      have hi : i = 10 := hi
      subst hi
      have e : odW M0 kn j = acc := e
      refine pw_X5_drawsThatTell_4 hT hL _ _ _ _ _ M1 fun n1 _ => brT (by decide) (f_allDraws (cJ_l ?_))
      rw [← e, show w64 (odA kn - odW M0 kn j) = odA kn - odW M0 kn j from ew64 (by omega) (by omega)]
      exact k M1 F1
    | succ m ih =>
      intro i n acc M1 hi F1 h0 hb e
      rw [wiV_s] at e
      have hb2 : acc * 10 * 10 ^ m ≤ 10000000000 := by
        rw [Int.pow_succ, Int.mul_comm (10 ^ m) 10, ← Int.mul_assoc] at hb
        exact hb
      have hb3 := le_p10 (a := acc * 10) (by omega) m
      have hpm := p10 m
      refine pw_X5_drawsThatTell_4 hT hL _ _ _ _ _ M1 fun n1 _ => brF (by omega) ?_
      rw [show w32 ((i : Int) + 1) = ((i + 1 : Nat) : Int) from ew32 (by omega) (by omega)]
      refine p_hasC (by omega) (fun b x hx => cI_i (brT hx (ih (i + 1) n1 acc M1 (by omega) F1 h0 ?_ ?_))) fun b x hx => cI_i (brF (by omega) (f_tenthsC hL hT R0 F1 (by omega) hj fun M2 F2 => cI_i ?_))
      · exact Int.le_trans (Int.mul_le_mul_of_nonneg_right (by omega) (by omega)) hb2
      · rw [b, if_neg (by decide)] at e
        exact e
      · rw [if_pos b] at e
        have hi10 : i < 10 := by omega
        have hk := ho i hi10 b
        have eT : M1 (T + 2) = M0 (T + 2) := F1.1 _ (by omega) (by omega) (by omega)
        have ev : bl M0 (Frm i nt j (faO (M1 (T + 2) i) (M1 (T + 2) j))) 114 10 = rmV M0 i j := by
          rw [eT, ent, (eh i hi10).2 ((eh i hi10).1.mp (of_decide_eq_true hk)), (eh j hj).2 ((eh j hj).1.mp (of_decide_eq_true hsj))]
          rfl
        rw [ev]
        have r := rmV_r M0 i j
        have m1 : 0 ≤ acc * (10 - rmV M0 i j) := Int.mul_nonneg h0 (by omega)
        have m2 : acc * (10 - rmV M0 i j) ≤ acc * 10 := Int.mul_le_mul_of_nonneg_left (by omega) h0
        rw [show w32 (10 - rmV M0 i j) = 10 - rmV M0 i j from ew32 (by omega) (by omega), show w64 (acc * (10 - rmV M0 i j)) = acc * (10 - rmV M0 i j) from ew64 (by omega) (by omega)]
        exact ih (i + 1) n1 _ M2 (by omega) F2 m1 (Int.le_trans (Int.mul_le_mul_of_nonneg_right m2 (by omega)) hb2) e
  exact pc_X5_drawsThatTell hT hL _ _ _ M fun n1 _ => lp 10 0 n1 1 M rfl F (by decide) (by decide) rfl
/- the same, reference -/
set_option maxRecDepth 20000 in
theorem f_woM {M0 : MM} (J : lwJ M0) {kn : Int} {j : Nat} (hj : j < 10) {M : MM} (F : ∀ c, c ≠ 108 → c ≠ 109 → M c = M0 c) {n : Nat} (k : ∀ M1, (∀ c, c ≠ 108 → c ≠ 109 → M1 c = M0 c) → Q (vl (odW M0 kn j)) M1) : PC sc n m_X12_without [vr 81, vi kn, vi (j : Int)] M Q := by
  have lp : ∀ (m i n : Nat) (acc : Int) (M1 : MM), i + m = 10 → (∀ c, c ≠ 108 → c ≠ 109 → M1 c = M0 c) → 0 ≤ acc → acc * 10 ^ m ≤ 10000000000 → odW M0 kn j = wiV (fun h => 10 - rmV M0 h j) kn m i acc → PW sc n m_X12_without 4 [] [some (vr 81), some (vi kn), some (vi (j : Int)), some (vl acc), none, some (vi (i : Int))] M1 Q := by
    intro m
    induction m with
    | zero =>
      intro i n acc M1 hi F1 _ _ e
      have hi : i = 10 := hi
      subst hi
      have e : odW M0 kn j = acc := e
      refine pw_X12_without_4 _ _ _ _ M1 fun n1 _ => brT (by decide) ?_
      rw [← e]
      exact k M1 F1
    | succ m ih =>
      intro i n acc M1 hi F1 h0 hb e
      rw [wiV_s] at e
      have hb2 : acc * 10 * 10 ^ m ≤ 10000000000 := by
        rw [Int.pow_succ, Int.mul_comm (10 ^ m) 10, ← Int.mul_assoc] at hb
        exact hb
      have hb3 := le_p10 (a := acc * 10) (by omega) m
      have hpm := p10 m
      refine pw_X12_without_4 _ _ _ _ M1 fun n1 _ => brF (by omega) ?_
      rw [show w32 ((i : Int) + 1) = ((i + 1 : Nat) : Int) from ew32 (by omega) (by omega)]
      refine p_has (by omega) (fun b x hx => cI_i (brT hx (ih (i + 1) n1 acc M1 (by omega) F1 h0 ?_ ?_))) fun b x hx => cI_i (brF (by omega) (f_rumourOfM (by omega) hj (J.eq (by rw [F1 81 (by decide) (by decide)]) fun c c1 c2 => F1 c (by omega) (by omega)) fun M2 f2 => cI_i ?_))
      · exact Int.le_trans (Int.mul_le_mul_of_nonneg_right (by omega) (by omega)) hb2
      · rw [b, if_neg (by decide)] at e
        exact e
      · rw [if_pos b] at e
        have ev : bl M1 (Frm i (M1 82 34) j (faO (M1 86 i) (M1 86 j))) 114 10 = rmV M0 i j := by
          rw [bl_eq (M := M0) (by rw [F1 81 (by decide) (by decide)]) (fun c c1 c2 => F1 c (by omega) (by omega)), F1 82 (by decide) (by decide), F1 86 (by decide) (by decide)]
          rfl
        rw [ev]
        have r := rmV_r M0 i j
        have m1 : 0 ≤ acc * (10 - rmV M0 i j) := Int.mul_nonneg h0 (by omega)
        have m2 : acc * (10 - rmV M0 i j) ≤ acc * 10 := Int.mul_le_mul_of_nonneg_left (by omega) h0
        rw [show w32 (10 - rmV M0 i j) = 10 - rmV M0 i j from ew32 (by omega) (by omega), show w64 (acc * (10 - rmV M0 i j)) = acc * (10 - rmV M0 i j) from ew64 (by omega) (by omega)]
        exact ih (i + 1) n1 _ M2 (by omega) (fun c c1 c2 => (f2 c c1 c2).trans (F1 c c1 c2)) m1 (Int.le_trans (Int.mul_le_mul_of_nonneg_right m2 (by omega)) hb2) e
  exact pc_X12_without _ _ M fun n1 _ => lp 10 0 n1 1 M rfl F (by decide) (by decide) rfl
/- the greatest common divisor, class -/
set_option maxRecDepth 20000 in
theorem f_cdC {M : MM} : ∀ (k a b c n : Nat) (o5 o6 : Option Vv), b ≤ a → a < 2 ^ k → c + 2 * k ≤ 200 → Q (vl ((Nat.gcd a b : Nat) : Int)) M → PW sc n m_X5_commonDivisor 2 [] [some (vl (a : Int)), none, some (vl (b : Int)), none, some (vi (c : Int)), o5, o6] M Q := by
  intro k
  induction k with
  | zero =>
    intro a b c n o5 o6 hba ha hc k
    have ha0 : a = 0 := by
      have : (2 : Nat) ^ 0 = 1 := rfl
      omega
    have hb0 : b = 0 := by omega
    subst ha0 hb0
    exact pw_X5_commonDivisor_2 _ _ _ _ _ M fun n1 _ => brP (fun _ => k) fun _ => brT (lcm0.mpr rfl) k
  | succ k ih =>
    intro a b c n o5 o6 hba ha hc kq
    have h2 : (2 : Nat) ^ (k + 1) = 2 * 2 ^ k := by rw [Nat.pow_succ, Nat.mul_comm]
    refine pw_X5_commonDivisor_2 _ _ _ _ _ M fun n1 _ => brF (by omega) (brP (fun hb => ?_) fun hb => gMB ?_)
    · have hb : b = 0 := by have := lcm0.mp hb; omega
      subst hb
      rw [Nat.gcd_zero_right] at kq
      exact kq
    · have hb : 0 < b := by
        rcases Nat.eq_zero_or_pos b with z | z
        · exact absurd (lcm0.mpr (by omega)) hb
        · exact z
      have e1 : Int.tmod (a : Int) (b : Int) = ((a % b : Nat) : Int) := rfl
      rw [e1, show w32 ((c : Int) + 1) = ((c + 1 : Nat) : Int) from ew32 (by omega) (by omega)]
      have hm := Nat.mod_lt a hb
      have hd := Nat.div_add_mod a b
      have hq : 1 ≤ a / b := (Nat.one_le_div_iff hb).mpr hba
      have hq2 : b * 1 ≤ b * (a / b) := Nat.mul_le_mul_left b hq
      have eg : Nat.gcd a b = Nat.gcd b (a % b) := by rw [Nat.gcd_comm a b, Nat.gcd_rec b a, Nat.gcd_comm]
      refine pw_X5_commonDivisor_2 _ _ _ _ _ M fun n2 _ => brF (by omega) (brP (fun h0 => ?_) fun h0 => gMB ?_)
      · have h0 : a % b = 0 := by have := lcm0.mp h0; omega
        rw [eg, h0, Nat.gcd_zero_right] at kq
        exact kq
      · have e2 : Int.tmod (b : Int) ((a % b : Nat) : Int) = ((b % (a % b) : Nat) : Int) := rfl
        rw [e2, show w32 (((c + 1 : Nat) : Int) + 1) = ((c + 2 : Nat) : Int) from ew32 (by omega) (by omega)]
        have h0 : 0 < a % b := by
          rcases Nat.eq_zero_or_pos (a % b) with z | z
          · exact absurd (lcm0.mpr (by omega)) h0
          · exact z
        refine ih (a % b) (b % (a % b)) (c + 2) n2 _ _ (Nat.le_of_lt (Nat.mod_lt b h0)) (by omega) (by omega) ?_
        rw [eg, Nat.gcd_comm b, Nat.gcd_rec (a % b) b, Nat.gcd_comm] at kq
        exact kq
theorem lt34 {a : Nat} (h : a ≤ 10000000000) : a < 2 ^ 34 := by
  have : (2 : Nat) ^ 34 = 17179869184 := by decide
  omega
set_option maxRecDepth 20000 in
theorem f_gcM {M : MM} {v0 v2 : Int} : ∀ (n a b : Nat) (o8 o9 : Option Vv), Q (vl ((Nat.gcd a b : Nat) : Int)) M → PW sc n m_X12_gcd 4 [] [some (vl v0), none, some (vl v2), none, some (vl (a : Int)), none, some (vl (b : Int)), none, o8, o9] M Q := by
  intro n
  induction n using Nat.strongRecOn with
  | ind n ih =>
    intro a b o8 o9 kq
    refine pw_X12_gcd_4 _ _ _ _ _ _ M fun n1 h1 => brP (fun hb => ?_) fun hb => gMB ?_
    · have hb : b = 0 := by have := lcm0.mp hb; omega
      subst hb
      rw [Nat.gcd_zero_right] at kq
      exact kq
    · have e1 : Int.tmod (a : Int) (b : Int) = ((a % b : Nat) : Int) := rfl
      rw [e1]
      refine ih n1 h1 b (a % b) _ _ ?_
      rw [Nat.gcd_comm a b, Nat.gcd_rec b a, Nat.gcd_comm] at kq
      exact kq
abbrev odOk (M : MM) (hs h w : Int) : Prop := (0 ≤ hs ∧ hs ≤ 1023) ∧ ((0 ≤ h ∧ h ≤ 9) ∧ 0 ≤ M 86 h.toNat) ∧ bit hs h.toNat = false ∧ (0 ≤ w ∧ w ≤ 1)
def odG (M : MM) (kn : Int) (j : Nat) : Int := ((Nat.gcd (odA kn).toNat (odA kn - odW M kn j).toNat : Nat) : Int)
/- what odds tells, by what the reference holds -/
def odV (M : MM) (hs h w : Int) : Int := if odOk M hs h w then (if w = 0 then w64 (Int.tdiv (odA (bAnd hs (spB M)) - odW M (bAnd hs (spB M)) h.toNat) (odG M (bAnd hs (spB M)) h.toNat)) else w64 (Int.tdiv (odA (bAnd hs (spB M))) (odG M (bAnd hs (spB M)) h.toNat))) else -1
theorem odV_up {M M1 : MM} (u : UpX M M1) (hs h w : Int) : odV M1 hs h w = odV M hs h w := by
  have e : rmV M1 = rmV M := rmV_eq (u 81 (by decide) 19) (fun c _ _ => u.f c (by omega)) (u 82 (by decide) 34) (u.f 86 (by decide))
  have es : spV M1 = spV M := spV_eq (u.f 86 (by decide))
  unfold odV odG odW spB odOk
  rw [e, es, u.f 86 (by decide)]
theorem odG_ne (M : MM) (kn : Int) (j : Nat) : odG M kn j ≠ 0 := by
  have r := odA_r kn
  unfold odG
  have := Nat.gcd_pos_of_pos_left (odA kn - odW M kn j).toNat (show 0 < (odA kn).toNat by omega)
  omega
theorem ru_and {M : MM} (hs : Int) : ruO (spV M) (bAnd hs (spB M)) := fun i hi hb => by
  rw [bit_and, Bool.and_eq_true] at hb
  rw [← (sbV_set (p := spV M)).2 i hi]
  exact hb.2
set_option maxRecDepth 20000 in
theorem f_oddsC {M : MM} (G : GdA M) {hs h w : Int} {n : Nat} : PC sc n m_X11_odds [vr 0, vi hs, vi h, vi w] M (fun r _ => r = vl (odV M hs h w)) := by
  obtain ⟨T, hT, v0, v1, hr, hh, hS⟩ := G.1.tw
  obtain ⟨L, q, cl, hL, h12, R0⟩ := G.2.1
  obtain ⟨-, W, -⟩ := id G.2.2.1
  have A : ruA L T q cl M := ⟨R0, W.2.1.2.1, hh⟩
  have no : ¬ odOk M hs h w → vl (-1) = vl (odV M hs h w) := fun z => by
    unfold odV
    rw [if_neg z]
  refine pc_X11_odds _ _ _ M fun n1 _ => p_isIn (fun z x hx => cI_i (brT hx (no fun y => z y.1))) fun h1 x hx => cI_i (brF (by omega) (f_hasSpotC hT v0 (fun z x hx => cI_i (brT hx (no fun y => z ⟨y.2.1.1, (hh _ (by have := y.2.1.1; omega)).1.mp y.2.1.2⟩))) fun h2 x hx => cI_i (brF (by omega) ?_)))
  obtain ⟨i, hi⟩ : ∃ i : Nat, h = (i : Int) := ⟨h.toNat, by omega⟩
  subst hi
  have hi : i < 10 := by omega
  have et : ((i : Int)).toNat = i := by omega
  have h86 : 0 ≤ M 86 i := (hh i hi).1.mpr (by have := h2.2; rw [et] at this; exact this)
  refine p_hasC (by omega) (fun b x hx => cI_i (brF (by omega) (p_isIn (fun z x hx => cI_i (brF (by omega) (no fun y => z y.2.2.2))) fun h4 x hx => cI_i (brT (by omega) ?_)))) fun b x hx => cI_i (brT (by omega) (no fun y => absurd (show true = false from b.symm.trans (by have := y.2.2.1; rw [et] at this; exact this)) (by decide)))
  have ok : odOk M hs (i : Int) w := ⟨h1, ⟨by omega, by rw [et]; exact h86⟩, by rw [et]; exact b, h4⟩
  rw [v0, show ((T : Int) + 1).toNat - 1 = T by omega]
  refine gMB (gMB (f_hws hT rfl fun v hv => cI_i (f_allDraws (cJ_l ?_))))
  rw [v0, h12, show ((T : Int) + 1).toNat - 1 = T by omega, show ((L : Int) + 1).toNat - 1 = L by omega]
  refine gMB (gMB ?_)
  have hv : v = spB M := spB_eq (setB_p hv fun j hj => by
    unfold stands spV
    exact decide_eq_decide.mpr (hh j hj).1)
  subst hv
  refine f_dtC hL hT A (ru_and hs) hi (decide_eq_true h86) W.2.1.2.1 ⟨fun _ _ _ _ => rfl, fun _ _ _ => rfl⟩ fun M2 F2 => cJ_l ?_
  have rA := odA_r (bAnd hs (spB M))
  have rW := odW_r M (bAnd hs (spB M)) i
  have eV : odV M hs (i : Int) w = (if w = 0 then w64 (Int.tdiv (odA (bAnd hs (spB M)) - odW M (bAnd hs (spB M)) i) (odG M (bAnd hs (spB M)) i)) else w64 (Int.tdiv (odA (bAnd hs (spB M))) (odG M (bAnd hs (spB M)) i))) := by
    unfold odV
    rw [if_pos ok, et]
  have eG : odG M (bAnd hs (spB M)) i = ((Nat.gcd (odA (bAnd hs (spB M))).toNat (odA (bAnd hs (spB M)) - odW M (bAnd hs (spB M)) i).toNat : Nat) : Int) := rfl
  have hne := odG_ne M (bAnd hs (spB M)) i
  rw [eV]
  clear eV
  generalize odG M (bAnd hs (spB M)) i = g at eG hne ⊢
  generalize odW M (bAnd hs (spB M)) i = y at eG rW ⊢
  generalize odA (bAnd hs (spB M)) = a at eG rW rA ⊢
  obtain ⟨a', ha⟩ : ∃ a' : Nat, a = (a' : Int) := ⟨a.toNat, by omega⟩
  obtain ⟨b', hb⟩ : ∃ b' : Nat, a - y = (b' : Int) := ⟨(a - y).toNat, by omega⟩
  rw [hb] at eG ⊢
  rw [ha] at eG ⊢
  rw [show ((a' : Int)).toNat = a' by omega, show ((b' : Int)).toNat = b' by omega] at eG
  refine pc_X5_commonDivisor _ _ M2 fun n2 _ => f_cdC 34 a' b' 0 n2 none none (by omega) (lt34 (by omega)) (by decide) (cJ_l ?_)
  rw [← eG]
  refine brT (fun z => hne (lcm0.mp z)) (brP (fun q => gMB ?_) fun q => gMB ?_)
  · rw [if_neg q]
  · rw [if_pos (Classical.not_not.mp q)]
set_option maxRecDepth 20000 in
theorem f_oddsM {M : MM} (G : axG M) {hs h w : Int} {n : Nat} : PC sc n m_X12_odds [vr 81, vi hs, vi h, vi w] M (fun r _ => r = vl (odV M hs h w)) := by
  have no : ¬ odOk M hs h w → vl (-1) = vl (odV M hs h w) := fun z => by
    unfold odV
    rw [if_neg z]
  refine pc_X12_odds _ _ _ M fun n1 _ => p_in (fun z x hx => cI_i (brT hx (no fun y => z y.1))) fun h1 x hx => cI_i (brF (by omega) (f_hasSpotM (fun z x hx => cI_i (brT hx (no fun y => z y.2.1))) fun h2 x hx => cI_i (brF (by omega) ?_)))
  obtain ⟨i, hi⟩ : ∃ i : Nat, h = (i : Int) := ⟨h.toNat, by omega⟩
  subst hi
  have hi : i < 10 := by omega
  have et : ((i : Int)).toNat = i := by omega
  refine p_has (by omega) (fun b x hx => cI_i (brF (by omega) (p_in (fun z x hx => cI_i (brF (by omega) (no fun y => z y.2.2.2))) fun h4 x hx => cI_i (brT (by omega) ?_)))) fun b x hx => cI_i (brT (by omega) (no fun y => absurd (show true = false from b.symm.trans (by have := y.2.2.1; rw [et] at this; exact this)) (by decide)))
  have ok : odOk M hs (i : Int) w := ⟨h1, h2, by rw [et]; exact b, h4⟩
  refine f_spotsM fun v hv => cI_i ?_
  have hv : v = spB M := spB_eq hv
  subst hv
  refine PC.of (s_bits (d := 1) (cI_i (f_tensOf (cJ_l (f_woM (lwJ.of G) hi (fun _ _ _ => rfl) fun M2 _ => cJ_l ?_)))))
  have rA := odA_r (bAnd hs (spB M))
  have rW := odW_r M (bAnd hs (spB M)) i
  have eV : odV M hs (i : Int) w = (if w = 0 then w64 (Int.tdiv (odA (bAnd hs (spB M)) - odW M (bAnd hs (spB M)) i) (odG M (bAnd hs (spB M)) i)) else w64 (Int.tdiv (odA (bAnd hs (spB M))) (odG M (bAnd hs (spB M)) i))) := by
    unfold odV
    rw [if_pos ok, et]
  have eG : odG M (bAnd hs (spB M)) i = ((Nat.gcd (odA (bAnd hs (spB M))).toNat (odA (bAnd hs (spB M)) - odW M (bAnd hs (spB M)) i).toNat : Nat) : Int) := rfl
  rw [eV]
  clear eV
  generalize odG M (bAnd hs (spB M)) i = g at eG ⊢
  generalize odW M (bAnd hs (spB M)) i = y at eG rW ⊢
  generalize odA (bAnd hs (spB M)) = a at eG rW rA ⊢
  rw [show w64 (a - y) = a - y from ew64 (by omega) (by omega)]
  obtain ⟨a', ha⟩ : ∃ a' : Nat, a = (a' : Int) := ⟨a.toNat, by omega⟩
  obtain ⟨b', hb⟩ : ∃ b' : Nat, a - y = (b' : Int) := ⟨(a - y).toNat, by omega⟩
  rw [hb] at eG ⊢
  rw [ha] at eG ⊢
  rw [show ((a' : Int)).toNat = a' by omega, show ((b' : Int)).toNat = b' by omega, Nat.gcd_comm] at eG
  refine pc_X12_gcd _ _ M2 fun n2 _ => f_gcM n2 b' a' none none (cJ_l ?_)
  rw [← eG]
  refine brP (fun q => gMB ?_) fun q => gMB ?_
  · rw [if_neg q]
  · rw [if_pos (Classical.not_not.mp q)]
theorem csQ_odds {M : MM} {hs h w : Int} (i0 : in32 hs) (i1 : in32 h) (i2 : in32 w) (G : GdA M) : CA FF sc YF 59 m_X11_odds [vr 0, vi hs, vi h, vi w] M (fun r M1 => ∃ x, r = vl x ∧ GdA M1 ∧ x = odV M1 hs h w) := csVL G (by decide +kernel) (cf_odds i0 i1 i2 G.1.1) (V := fun M => odV M hs h w) (fun n => f_oddsC G) fun M1 u => odV_up u hs h w
theorem msQ_odds {M : MM} {hs h w x : Int} (i0 : in32 hs) (i1 : in32 h) (i2 : in32 w) (G : GdA M ∧ x = odV M hs h w) : CA FF sc YF 59 m_X12_odds [vr 81, vi hs, vi h, vi w] M (fun r M1 => ∃ y, r = vl y ∧ GdA M1 ∧ y = x) := msVL (V := fun M => odV M hs h w) G (by decide +kernel) (mf_odds i0 i1 i2 G.1.1.1) fun n => f_oddsM G.1.1.1
end ODQ
