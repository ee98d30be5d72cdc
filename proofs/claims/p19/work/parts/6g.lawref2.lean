/-! PART 6g: factors and sums of THE LAW (reference) -/
section LRT
variable {sc : List Int} {Q : Vv → MM → Prop} {t : Nat → Int} {N : Nat} {M0 : MM}
def okT (S : List Int) : Prop := ∀ w, w ∈ S → (2 ≤ cop w ∧ cop w ≤ 6) ∨ cop w = 14
theorem okT.c {w : Int} {S : List Int} (h : okT S) (hw : (2 ≤ cop w ∧ cop w ≤ 6) ∨ cop w = 14) : okT (w :: S) := fun x hx => by
  cases hx with
  | head => exact hw
  | tail _ hx => exact h x hx
theorem okT.tl {w : Int} {S : List Int} (h : okT (w :: S)) : okT S := fun x hx => h x (.tail _ hx)
theorem okT.app {S T : List Int} (h : okT S) (g : okT T) : okT (S ++ T) := fun x hx => by
  rcases List.mem_append.mp hx with q | q
  · exact h x q
  · exact g x q
theorem hasO_app : ∀ (S W : List Int), hasO (S ++ W) = (hasO S || hasO W)
  | [], W => rfl
  | w :: S, W => by
    show (decide (cop w = 14) || hasO (S ++ W)) = ((decide (cop w = 14) || hasO S) || hasO W)
    rw [hasO_app S W, Bool.or_assoc]
theorem popS_app {W : List Int} (hW : topS W) (all : Bool) : ∀ {S : List Int} (q : LC), okT S → ∃ S' q', popS all (S ++ W) q = (S' ++ W, q') ∧ okT S' ∧ hasO S' = hasO S ∧ (all = true → (S' = [] ∨ ∃ w S'', S' = w :: S'' ∧ cop w = 14))
  | [], q, h => ⟨[], q, popS_top hW q all, h, rfl, fun _ => .inl rfl⟩
  | w :: S, q, h => by
    show ∃ S' q', popS all (w :: (S ++ W)) q = (S' ++ W, q') ∧ okT S' ∧ hasO S' = hasO (w :: S) ∧ (all = true → (S' = [] ∨ ∃ w S'', S' = w :: S'' ∧ cop w = 14))
    rw [popS_c]
    by_cases c : (4 ≤ cop w ∧ cop w ≤ 6) ∨ (all = true ∧ (cop w = 2 ∨ cop w = 3))
    · rw [if_pos c]
      obtain ⟨S', q', e1, e2, e3, e4⟩ := popS_app hW all (S := S) (emC q (1048576 * cop w)) h.tl
      refine ⟨S', q', e1, e2, ?_, e4⟩
      show hasO S' = (decide (cop w = 14) || hasO S)
      rw [e3, decide_eq_false (by
        rcases c with c | c
        · omega
        · have := c.2
          omega)]
      rfl
    · rw [if_neg c]
      refine ⟨w :: S, q, rfl, h, rfl, fun ha => .inr ⟨w, S, rfl, ?_⟩⟩
      rcases h w (.head _) with z | z
      · exact absurd (show (4 ≤ cop w ∧ cop w ≤ 6) ∨ (all = true ∧ (cop w = 2 ∨ cop w = 3)) by
          rcases (show (4 ≤ cop w ∧ cop w ≤ 6) ∨ (cop w = 2 ∨ cop w = 3) by omega) with y | y
          · exact .inl y
          · exact .inr ⟨ha, y⟩) c
      · exact z
theorem opn_popS (all : Bool) : ∀ (W : List Int) (q : LC), opn (popS all W q).1 = opn W
  | [], _ => rfl
  | w :: W, q => by
    rw [popS_c]
    by_cases c : (4 ≤ cop w ∧ cop w ≤ 6) ∨ (all = true ∧ (cop w = 2 ∨ cop w = 3))
    · rw [if_pos c, opn_popS all W _, opn_c, if_neg (by
        rcases c with c | c
        · omega
        · have := c.2
          omega)]
      rfl
    · rw [if_neg c]
/- a number -/
set_option maxRecDepth 20000 in
theorem f_numM (h12 : M0 81 12 = (N : Int)) (ht : ∀ i, bAnd (M0 90 i) 255 = t i) {x : Nat × Int} {W : List Int} {q : LC} {cl : CL} {p n : Nat} {M : MM} (I : xlI N p W q M0 M) (hd : 48 ≤ chL t N p ∧ chL t N p ≤ 57) (k0 : ∀ f M1, outL t N p (zsA x W q cl) = .inl f → xlX f M0 M1 → ∀ z : Int, z = 0 → Q (vi z) M1) (k1 : ∀ v p1 M1, outL t N p (zsA x W q cl) = outL t N p1 (zsB x W (emC q v) cl) → p < p1 → xlI N p1 W q M0 M1 → M1 81 14 = v → (0 ≤ v ∧ v ≤ 99999) → ∀ z : Int, z = 1 → Q (vi z) M1) : PC sc n m_X12_readsNumber [vr 81] M Q := by
  have hb := I.2.2.2.2
  have hp : p < N := chL_lt (t := t) (by omega)
  have h0 : outL t N p (zsA x W q cl) = outL t N p (zsN x 0 0 W q cl) := outL_eq (by show (0 : Nat) ≠ 6; decide) (by show (1 : Nat) ≠ 6; decide) fun _ => by
    rw [chL_at hp] at hd
    show ztA x W q cl (t p) p = ztN x 0 0 W q cl (t p) p
    unfold ztA ztN
    rw [if_neg (by omega), if_pos hd, if_pos hd, if_neg (by omega)]
    rw [show 10 * (0 : Int) + t p - 48 = t p - 48 by omega]
  have lp : ∀ (m i n : Nat) (v : Int) (M1 : MM), i + m = 5 → (1 ≤ i ∨ p + i = p) → (0 ≤ v ∧ v ≤ pwT i) → outL t N p (zsA x W q cl) = outL t N (p + i) (zsN x i v W q cl) → xlI N (p + i) W q M0 M1 → M1 81 14 = v → PW sc n m_X12_readsNumber 6 [] [some (vr 81), some (vi (p : Int))] M1 Q := by
    intro m
    induction m with
    | zero =>
      intro i n v M1 hi h1 hv ho I1 e14
      have hi : i = 5 := hi
      subst hi
      have hv2 := pwT_5 5 (Nat.le_refl _)
      refine pw_X12_readsNumber_6 _ M1 fun n1 _ => p_isDigM h12 ht I1 (fun g y hy => cI_i (brT hy ?_)) fun g y hy => cI_i (brF (by omega) ?_)
      · refine k1 v (p + 5) M1 (ho.trans (outL_eq (by show (1 : Nat) ≠ 6; decide) (by show (2 : Nat) ≠ 6; decide) fun hl => ?_)) (by omega) I1 e14 (by omega) 1 rfl
        rw [chL_at hl] at g
        show ztN x 5 v W q cl (t (p + 5)) (p + 5) = ztB x W (emC q v) cl (t (p + 5)) (p + 5)
        unfold ztN
        rw [if_neg g]
      · rw [I1.2.1.1, show w32 ((p : Int) + 5) = ((p + 5 : Nat) : Int) from ew32 (by omega) (by omega)]
        refine brF (fun z => z rfl) ?_
        rw [← I1.2.1.1]
        refine p_wrongM I1 (by decide) fun M2 X z hz => cI_i (gMB (k0 _ M2 (ho.trans ?_) X z hz))
        have hl : p + 5 < N := chL_lt (t := t) (by omega)
        rw [chL_at hl] at g
        refine outL_no hl ?_
        show ztN x 5 v W q cl (t (p + 5)) (p + 5) = _
        unfold ztN
        rw [if_pos g, if_pos (Nat.le_refl _)]
        rfl
    | succ m ih =>
      intro i n v M1 hi h1 hv ho I1 e14
      have hpw := pwT_5 (i + 1) (by omega)
      have hpw2 : pwT (i + 1) = 10 * pwT i + 9 := rfl
      refine pw_X12_readsNumber_6 _ M1 fun n1 _ => p_isDigM h12 ht I1 (fun g y hy => cI_i (brT hy ?_)) fun g y hy => cI_i (brF (by omega) ?_)
      · rcases h1 with h1 | h1
        · refine k1 v (p + i) M1 (ho.trans (outL_eq (by show (1 : Nat) ≠ 6; decide) (by show (2 : Nat) ≠ 6; decide) fun hl => ?_)) (by omega) I1 e14 (by omega) 1 rfl
          rw [chL_at hl] at g
          show ztN x i v W q cl (t (p + i)) (p + i) = ztB x W (emC q v) cl (t (p + i)) (p + i)
          unfold ztN
          rw [if_neg g]
        · rw [h1] at g
          exact absurd hd g
      · have hl : p + i < N := chL_lt (t := t) (by omega)
        rw [I1.2.1.1, show w32 ((p : Int) + 5) = ((p + 5 : Nat) : Int) from ew32 (by omega) (by omega)]
        refine brT (by omega) (p_hereM h12 ht I1 fun c hc => cI_i ?_)
        rw [chL_at hl] at g hc
        subst hc
        rw [e14, I1.2.1.1, show w32 (10 * v) = 10 * v from ew32 (by omega) (by omega), show w32 (10 * v + t (p + i)) = 10 * v + t (p + i) from ew32 (by omega) (by omega), show w32 (10 * v + t (p + i) - 48) = 10 * v + t (p + i) - 48 from ew32 (by omega) (by omega), show w32 (((p + i : Nat) : Int) + 1) = ((p + (i + 1) : Nat) : Int) from (ew32 (by omega) (by omega)).trans (by omega)]
        refine ih (i + 1) n1 _ _ (by omega) (.inl (by omega)) (by omega) (ho.trans (outL_go hl ?_)) ((I1.n14 _).pl (by omega) rfl) ((stO (by decide)).trans stE)
        show ztN x i v W q cl (t (p + i)) (p + i) = _
        unfold ztN
        rw [if_pos g, if_neg (by omega)]
  exact pc_X12_readsNumber M fun n1 _ => by
    rw [I.2.1.1]
    exact lp 5 0 n1 0 _ rfl (.inr rfl) ⟨Int.le_refl _, Int.le_refl _⟩ h0 (I.n14 0) stE
/- a factor, behind what [ it opens -/
set_option maxRecDepth 20000 in
theorem f_factM (h12 : M0 81 12 = (N : Int)) (ht : ∀ i, bAnd (M0 90 i) 255 = t i) {x : Nat × Int} {cl : CL} {q : LC} : ∀ (n : Nat) (W : List Int) (p : Nat) (M : MM), xlI N p W q M0 M → (∀ f M1, outL t N p (zsA x W q cl) = .inl f → xlX f M0 M1 → ∀ z : Int, z = 0 → Q (vi z) M1) → (∀ S q1 p1 M1, outL t N p (zsA x W q cl) = outL t N p1 (zsB x (S ++ W) q1 cl) → okT S → p < p1 → xlI N p1 (S ++ W) q1 M0 M1 → ∀ z : Int, z = 1 → Q (vi z) M1) → PW sc n m_X12_readsFactor 0 [] [some (vr 81), none] M Q := by
  intro n
  induction n using Nat.strongRecOn with
  | ind n ih =>
    intro W p M I k0 k1
    have hb := I.2.2.2.2
    have e1 : ∀ p : Nat, flt 1 p = .inl (-1000 * 1 - (p : Int)) := fun _ => rfl
    refine pw_X12_readsFactor_0 M fun n1 h1 => p_hereM h12 ht I fun c hc => cI_i (brP (fun h91 => p_isDigM h12 ht I (fun hd y hy => cI_i (brT hy ?_)) fun hd y hy => cI_i (brF (by omega) ?_)) fun h91 => ?_)
    · refine p_hereM h12 ht I fun c2 hc2 => cI_i (p_factOfM fun v hv => cI_i ?_)
      rw [hc] at h91
      rw [hc2] at hv
      refine brP (fun hne => ?_) fun hne => ?_
      · have hr := lfV_r (chL t N p)
        have hl : p < N := chL_lt (t := t) (fun z => by
          rw [z] at hv
          exact hne (hv.trans rfl))
        refine f_note I (x := 1048576 + v) (by decide) (by omega) (by omega) fun M1 I1 => ?_
        rw [I1.2.1.1, show w32 ((p : Int) + 1) = ((p + 1 : Nat) : Int) from ew32 (by omega) (by omega)]
        refine k1 [] _ (p + 1) _ (outL_go hl ?_) (fun x hx => by cases hx) (Nat.lt_succ_self _) (I1.pl hl rfl) 1 rfl
        rw [chL_at hl] at hd h91 hv
        show ztA x W q cl (t p) p = _
        unfold ztA
        rw [if_neg h91, if_neg hd, if_pos (by rw [← hv]; exact hne), hv]
        rfl
      · refine p_wrongM I (by decide) fun M1 X z hz => cI_i (gMB (k0 _ M1 ?_ X z hz))
        by_cases hl : p < N
        · refine outL_no hl ?_
          rw [chL_at hl] at hd h91 hv
          show ztA x W q cl (t p) p = _
          unfold ztA
          rw [if_neg h91, if_neg hd, if_neg (by rw [← hv]; exact hne)]
          rfl
        · exact outL_end (by omega) (by show (0 : Nat) ≠ 6; decide)
    · refine f_numM h12 ht I hd (fun f M1 g X z hz => cI_i (brF (by omega) (k0 f M1 g X 0 rfl))) fun v p1 M1 g hp I1 e14 hv z hz => cI_i (brT (by omega) ?_)
      rw [e14]
      exact f_note I1 (x := v) (by decide) (by omega) (by omega) fun M2 I2 => k1 [] _ p1 M2 g (fun x hx => by cases hx) hp I2 1 rfl
    · have h91 := Classical.not_not.mp h91
      have hl : p < N := chL_lt (t := t) (by omega)
      rw [chL_at hl] at hc
      refine f_opens I (a := 14) (w := 1048576 * 14) (.inr (.inr rfl)) rfl hl (fun h6 M1 X z hz => cI_i (brF (by omega) (k0 _ M1 (outL_no hl ?_) X 0 rfl))) fun h6 M1 I1 z hz => cI_i (brT (by omega) ?_)
      · show ztA x W q cl (t p) p = _
        unfold ztA
        rw [if_pos (by omega), if_pos h6]
        rfl
      · have hgo : outL t N p (zsA x W q cl) = outL t N (p + 1) (zsA x (1048576 * 14 :: W) q cl) := outL_go hl (by
          show ztA x W q cl (t p) p = _
          unfold ztA
          rw [if_pos (by omega), if_neg h6])
        refine ih n1 h1 _ (p + 1) M1 I1 (fun f M2 g X z hz => k0 f M2 (hgo.trans g) X z hz) fun S q1 p1 M2 g hS hp I2 z hz => ?_
        have e : S ++ 1048576 * 14 :: W = (S ++ [1048576 * 14]) ++ W := by rw [List.append_assoc]; rfl
        rw [e] at g I2
        exact k1 _ q1 p1 M2 (hgo.trans g) (hS.app fun x hx => by
          cases hx with
          | head => exact .inr (cop_u 14)
          | tail _ hx => cases hx) (by omega) I2 z hz
theorem PC_factM {n : Nat} {M : MM} (h : PW sc n m_X12_readsFactor 0 [] [some (vr 81), none] M Q) : PC sc n m_X12_readsFactor [vr 81] M Q := h
theorem PC_closes {n : Nat} {M : MM} {v : Int} (h : PW sc n m_X12_closesSums 0 [] [some (vr 81), some (vi v)] M Q) : PC sc n m_X12_closesSums [vr 81, vi v] M Q := h
/- a sum over what waits: nothing of a sum, no [ -/
set_option maxRecDepth 20000 in
theorem f_sumM (h12 : M0 81 12 = (N : Int)) (ht : ∀ i, bAnd (M0 90 i) 255 = t i) {x : Nat × Int} {cl : CL} {q : LC} {n p : Nat} {W : List Int} {M : MM} (I : xlI N p W q M0 M) (hT : topS W) (hO : hasO W = false) (k0 : ∀ f M1, outL t N p (zsA x W q cl) = .inl f → xlX f M0 M1 → ∀ z : Int, z = 0 → Q (vi z) M1) (k1 : ∀ q1 p1 M1, outL t N p (zsA x W q cl) = outL t N p1 (zsB x W q1 cl) → p < p1 → xlI N p1 W q1 M0 M1 → ssV (chL t N p1) = -1 → ∀ z : Int, z = 1 → Q (vi z) M1) : PC sc n m_X12_readsSum [vr 81] M Q := by
  have lp : ∀ (n : Nat) (S : List Int) (q1 : LC) (p1 : Nat) (o2 : Option Vv) (M1 : MM), outL t N p (zsA x W q cl) = outL t N p1 (zsB x (S ++ W) q1 cl) → okT S → p < p1 → xlI N p1 (S ++ W) q1 M0 M1 → PW sc n m_X12_readsSum 8 [] [some (vr 81), some (vi (W.length : Int)), o2] M1 Q := by
    intro n
    induction n using Nat.strongRecOn with
    | ind n ih =>
      intro S q1 p1 o2 M1 ho hS hp I1
      have hb := I1.2.2.2.2
      refine pw_X12_readsSum_8 _ o2 M1 fun n1 h1 => p_hereM h12 ht I1 fun c hc => cI_i (p_sumSign fun sg hsg => cI_i ?_)
      have hr := ssV_r c
      have hOW : ∀ S, hasO (S ++ W) = hasO S := fun S => by rw [hasO_app, hO, Bool.or_false]
      have e78 : ∀ (n : Nat) (v : Int), ssV c = -1 → (hasO S = true → c ≠ 93) → PW sc n m_X12_readsSum 78 [] [some (vr 81), some (vi (W.length : Int)), some (vi v)] M1 Q := fun n v h3 h93 => by
        refine pw_X12_readsSum_78 _ v M1 fun n2 _ => f_hasOpen I1 (fun e y hy => cI_i (brT hy ?_)) fun e y hy => cI_i (brF (by omega) ?_)
        · obtain ⟨S', q', e1, e2, e3, e4⟩ := popS_app hT true (S := S) q1 hS
          have hS' : S' = [] := by
            rcases e4 rfl with z | ⟨w, S'', z1, z2⟩
            · exact z
            · rw [z1, e] at e3
              have e3 : (decide (cop w = 14) || hasO S'') = false := e3
              rw [decide_eq_true z2] at e3
              cases e3
          subst hS'
          refine PC_closes (f_closes true (by decide) (S ++ W) q1 M1 n2 I1 fun M2 I2 => ?_)
          rw [e1] at I2
          refine k1 q' p1 M2 (ho.trans (outL_eq (by show (2 : Nat) ≠ 6; decide) (by show (2 : Nat) ≠ 6; decide) fun hl => ?_)) hp I2 (by rw [← hc]; exact h3) 1 rfl
          rw [chL_at hl] at hc
          subst hc
          show ztB x (S ++ W) q1 cl (t p1) p1 = ztB x W q' cl (t p1) p1
          rw [ztB_no hT (by show ¬ hasO W = true; rw [hO]; decide) _ _ _ _ h3]
          unfold ztB
          rw [if_neg (by omega), if_neg (by omega), hOW, e, e1]
          rfl
        · refine p_wrongM I1 (by decide) fun M2 X z hz => cI_i (gMB (k0 _ M2 (ho.trans ?_) X z hz))
          by_cases hl : p1 < N
          · refine outL_no hl ?_
            rw [chL_at hl] at hc
            have h93 := h93 e
            subst hc
            show ztB x (S ++ W) q1 cl (t p1) p1 = _
            unfold ztB
            rw [if_neg (by omega), if_neg (by omega), hOW, e]
            show (if t p1 = 93 then _ else _) = _
            rw [if_neg h93]
            rfl
          · exact outL_end (by omega) (by show (2 : Nat) ≠ 6; decide)
      have e22 : ∀ (n' : Nat) (all : Bool) (s1 : Int), n' < n → (if all then s1 ≠ 0 else s1 = 0) → (all = true ↔ (sg = 2 ∨ sg = 3)) → (2 ≤ sg ∧ sg ≤ 6) → PW sc n' m_X12_readsSum 22 [vi s1, vr 81] [some (vr 81), some (vi (W.length : Int)), some (vi sg)] M1 Q := fun n' all s1 hn hs1 hall h26 => by
        have hlt : p1 < N := chL_lt (t := t) (fun z => by
          rw [z] at hc
          subst hc
          have : ssV (-1) = -1 := rfl
          omega)
        rw [chL_at hlt] at hc
        subst hc
        obtain ⟨S', q', e1, e2, e3, -⟩ := popS_app hT all (S := S) q1 hS
        refine pw_X12_readsSum_22 _ _ _ _ M1 fun n2 h2 => gMB (PC_closes (f_closes all hs1 (S ++ W) q1 M1 n2 I1 fun M2 I2 => ?_))
        rw [e1] at I2
        have I2 : xlI N p1 (S' ++ W) q' M0 M2 := I2
        have hb2 := I2.2.2.2.2
        rw [I2.2.1.2.2, I2.2.1.1]
        refine gMI fun _ hl => ?_
        rw [show (((S' ++ W).length : Int)).toNat = (S' ++ W).length by omega, show w32 (1048576 * sg) = 1048576 * sg from ew32 (by omega) (by omega), show w32 (((S' ++ W).length : Int) + 1) = (((S' ++ W).length + 1 : Nat) : Int) from ew32 (by omega) (by omega), show w32 ((p1 : Int) + 1) = ((p1 + 1 : Nat) : Int) from ew32 (by omega) (by omega)]
        have hcw := cop_u sg
        have hgo : outL t N p1 (zsB x (S ++ W) q1 cl) = outL t N (p1 + 1) (zsA x ((1048576 * sg :: S') ++ W) q' cl) := outL_go hlt (by
          show ztB x (S ++ W) q1 cl (t p1) p1 = _
          unfold ztB
          by_cases z : ssV (t p1) = 2 ∨ ssV (t p1) = 3
          · have ha : all = true := hall.mpr (by omega)
            subst ha
            rw [if_pos z, e1, ← hsg]
            rfl
          · have ha : all = false := by
              cases all
              · rfl
              · exact absurd (hall.mp rfl) (by omega)
            subst ha
            rw [if_neg z, if_pos (by omega), e1, ← hsg]
            rfl)
        refine PC_factM (f_factM h12 ht (x := x) (cl := cl) n2 ((1048576 * sg :: S') ++ W) (p1 + 1) _ ((I2.push (by omega) (by omega) (by omega) rfl rfl).pl hlt rfl) (fun f M3 g X z hz => cI_i (brF (by omega) (k0 f M3 ((ho.trans hgo).trans g) X 0 rfl))) fun S2 q2 p2 M3 g hS2 hp2 I3 z hz => cI_i (brT (by omega) ?_))
        rw [← List.append_assoc] at g I3
        exact ih n2 (by omega) _ q2 p2 _ M3 ((ho.trans hgo).trans g) (hS2.app (e2.c (.inl (by omega)))) (by omega) I3
      refine brP (fun h => ?_) fun h => brP (fun h4 => e22 n1 false 0 h1 rfl ⟨fun z => (by cases z), fun z => by omega⟩ (by omega)) fun h4 => e22 n1 true 1 h1 (by decide) ⟨fun _ => by omega, fun _ => rfl⟩ (by omega)
      rw [hsg] at h
      refine p_hereM h12 ht I1 fun c2 hc2 => cI_i ?_
      have hcc : c2 = c := hc2.trans hc.symm
      subst hcc
      refine brP (fun h93 => e78 n1 sg h fun _ => h93) fun h93 => f_hasOpen I1 (fun e y hy => cI_i (brT hy (e78 n1 sg h fun z => by rw [e] at z; cases z))) fun e y hy => cI_i (brF (by omega) ?_)
      have h93 := Classical.not_not.mp h93
      have hlt : p1 < N := chL_lt (t := t) (by omega)
      obtain ⟨S', q', e1, e2, e3, e4⟩ := popS_app hT true (S := S) q1 hS
      rcases e4 rfl with z | ⟨w, S'', z1, z2⟩
      · rw [z, e] at e3
        cases e3
      · subst z1
        refine PC_closes (f_closes true (by decide) (S ++ W) q1 M1 n1 I1 fun M2 I2 => ?_)
        rw [e1] at I2
        have I2 : xlI N p1 ((w :: S'') ++ W) q' M0 M2 := I2
        have hb2 := I2.2.2.2.2
        have hl2 : ((w :: S'') ++ W).length = (S'' ++ W).length + 1 := rfl
        have ho2 : opn ((w :: S'') ++ W) = opn (S'' ++ W) + 1 := by
          show opn (S'' ++ W) + _ = _
          rw [if_pos (.inr (.inr z2))]
        have i1 := I2.2.1
        rw [i1.2.1, i1.2.2, i1.1, hl2, ho2, show w32 (((S'' ++ W).length + 1 : Nat) - 1) = ((S'' ++ W).length : Int) from (ew32 (by omega) (by omega)).trans (by omega), show w32 ((opn (S'' ++ W) + 1 : Nat) - 1) = (opn (S'' ++ W) : Int) from (ew32 (by omega) (by omega)).trans (by omega), show w32 ((p1 : Int) + 1) = ((p1 + 1 : Nat) : Int) from ew32 (by omega) (by omega)]
        refine ih n1 h1 S'' q' (p1 + 1) _ _ (ho.trans (outL_go hlt ?_)) e2.tl (by omega) ((xlI.popo (W := S'' ++ W) I2 (.inr (.inr z2)) rfl rfl).pl hlt rfl)
        rw [chL_at hlt] at hc
        subst hc
        show ztB x (S ++ W) q1 cl (t p1) p1 = _
        unfold ztB
        rw [if_neg (by omega), if_neg (by omega), hOW, e, e1]
        show (if t p1 = 93 then _ else _) = _
        rw [if_pos h93]
        rfl
  refine pc_X12_readsSum M fun n1 h1 => PC_factM (f_factM h12 ht (x := x) (cl := cl) n1 W p M I (fun f M1 g X z hz => cI_i (brF (by omega) (k0 f M1 g X 0 rfl))) fun S q1 p1 M1 g hS hp I1 z hz => cI_i (brT (by omega) ?_))
  rw [I.2.1.2.2]
  exact lp n1 S q1 p1 _ M1 g hS hp I1
end LRT
