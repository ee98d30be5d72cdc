/-! PART 44: by hand: the codes of THE LAW (reference): what they come to -/
def cvR (op x y : Int) : Int := if op = 2 then w32 (x + y) else if op = 3 then w32 (x - y) else if op = 4 then w32 (x * y) else if op = 5 then w32 (x.tdiv y) else if op = 6 then x.tmod y else if op = 7 then ind (x < y) else if op = 8 then ind (y < x) else ind (x = y)
def cvB (st : List Int) : Int := match st with
  | [] => 0
  | x :: r => match r with
    | [] => x
    | y :: t => cvB (y :: t)
def ev (C Fc : Nat → Int) (n k b : Nat) (st : List Int) : Int := match n with
  | 0 => 0
  | n + 1 => if b ≤ k then cvB st
    else if C k / 1048576 = 0 then ev C Fc n (k + 1) b (C k % 1048576 :: st)
    else if C k / 1048576 = 1 then ev C Fc n (k + 1) b (Fc (C k % 1048576).toNat :: st)
    else if C k / 1048576 = 10 then (match st with
      | x :: r => ev C Fc n (k + 1) b (w32 (1 - x) :: r)
      | [] => 0)
    else if C k / 1048576 = 11 ∨ C k / 1048576 = 12 then (match st with
      | x :: r => if x = (if C k / 1048576 = 12 then 1 else 0) then ev C Fc n (C k % 1048576).toNat b (x :: r) else ev C Fc n (k + 1) b r
      | [] => 0)
    else (match st with
      | y :: x :: r => if (C k / 1048576 = 5 ∨ C k / 1048576 = 6) ∧ y = 0 then 0 else ev C Fc n (k + 1) b (cvR (C k / 1048576) x y :: r)
      | _ => 0)
theorem ev_succ (C Fc : Nat → Int) (n k b : Nat) (st : List Int) : ev C Fc (n + 1) k b st = (if b ≤ k then cvB st
    else if C k / 1048576 = 0 then ev C Fc n (k + 1) b (C k % 1048576 :: st)
    else if C k / 1048576 = 1 then ev C Fc n (k + 1) b (Fc (C k % 1048576).toNat :: st)
    else if C k / 1048576 = 10 then (match st with
      | x :: r => ev C Fc n (k + 1) b (w32 (1 - x) :: r)
      | [] => 0)
    else if C k / 1048576 = 11 ∨ C k / 1048576 = 12 then (match st with
      | x :: r => if x = (if C k / 1048576 = 12 then 1 else 0) then ev C Fc n (C k % 1048576).toNat b (x :: r) else ev C Fc n (k + 1) b r
      | [] => 0)
    else (match st with
      | y :: x :: r => if (C k / 1048576 = 5 ∨ C k / 1048576 = 6) ∧ y = 0 then 0 else ev C Fc n (k + 1) b (cvR (C k / 1048576) x y :: r)
      | _ => 0)) := rfl
def cvS (M : MM) (st : List Int) : Prop := match st with
  | [] => True
  | x :: r => M 108 r.length = x ∧ cvS M r
theorem cvS_st {M : MM} {n : Nat} {v : Int} : ∀ {st : List Int}, cvS M st → st.length ≤ n → cvS (stM M 108 n v) st := by
  intro st
  induction st with
  | nil => intro _ _; trivial
  | cons x r ih =>
    intro h hl
    have hl2 : r.length + 1 ≤ n := hl
    refine ⟨?_, ih h.2 (by omega)⟩
    rw [stM_at, if_neg (by omega)]
    exact h.1
theorem cvS_push {M : MM} {v : Int} {st : List Int} (h : cvS M st) : cvS (stM M 108 st.length v) (v :: st) := ⟨by rw [stM_at, if_pos ⟨rfl, rfl⟩], cvS_st h (Nat.le_refl _)⟩
theorem cvS_bot {M : MM} : ∀ {st : List Int}, cvS M st → st.length ≠ 0 → M 108 0 = cvB st := by
  intro st
  induction st with
  | nil => intro _ h; exact absurd rfl h
  | cons x r ih =>
    intro h _
    cases r with
    | nil => exact h.1
    | cons y t => exact ih h.2 (by simp)
/-- a code in its place: how deep the stack is ahead of it and behind it -/
def cvK (C : Nat → Int) (dp : Nat → Nat) (b k : Nat) : Prop := 0 ≤ C k ∧ ((C k / 1048576 = 0 ∧ dp (k + 1) = dp k + 1) ∨ (C k / 1048576 = 1 ∧ C k % 1048576 < 10 ∧ dp (k + 1) = dp k + 1) ∨ (C k / 1048576 = 10 ∧ 1 ≤ dp k ∧ dp (k + 1) = dp k) ∨ ((C k / 1048576 = 11 ∨ C k / 1048576 = 12) ∧ 1 ≤ dp k ∧ dp (k + 1) + 1 = dp k ∧ (k : Int) < C k % 1048576 ∧ C k % 1048576 ≤ b ∧ dp (C k % 1048576).toNat = dp k) ∨ ((2 ≤ C k / 1048576 ∧ C k / 1048576 ≤ 9) ∧ 2 ≤ dp k ∧ dp (k + 1) + 1 = dp k))
def cvG (C : Nat → Int) (a b : Nat) : Prop := a < b ∧ b ≤ 260 ∧ ∃ dp : Nat → Nat, dp a = 0 ∧ dp b = 1 ∧ ∀ k, a ≤ k → k < b → cvK C dp b k
theorem cvK_le {C : Nat → Int} {dp : Nat → Nat} {a b : Nat} (h0 : dp a = 0) (h : ∀ k, a ≤ k → k < b → cvK C dp b k) : ∀ n, a + n ≤ b → dp (a + n) ≤ n := by
  intro n
  induction n with
  | zero => intro _; rw [Nat.add_zero, h0]; omega
  | succ n ih =>
    intro hn
    have h1 := ih (by omega)
    obtain ⟨-, h2⟩ := h (a + n) (by omega) (by omega)
    have e : a + (n + 1) = a + n + 1 := rfl
    rw [e]
    omega
theorem ind_in (p : Prop) [Decidable p] : in32 (ind p) := by
  have := ind_r p
  exact ⟨by omega, by omega⟩
theorem cvR_in {op x y : Int} (hx : in32 x) : in32 (cvR op x y) := by
  unfold cvR
  split
  · exact in_w32 _
  · split
    · exact in_w32 _
    · split
      · exact in_w32 _
      · split
        · exact in_w32 _
        · split
          · exact in32_tmod _ hx
          · split
            · exact ind_in _
            · split
              · exact ind_in _
              · exact ind_in _
section CVS
variable {sc : List Int} {d : Nat} {Q : Vv → MM → Prop}
theorem s_reckon (op x y : Int) (M : MM) (h : (op = 5 ∨ op = 6) → y ≠ 0) (k : Q (vi (cvR op x y)) M) : CA FF sc YF (d + 1) m_X12_reckon [vi op, vi x, vi y] M Q := by
  unfold cvR at k
  refine ca_X12_reckon op x y M ⟨fun q => ?_, fun q2 => ⟨fun q => ?_, fun q3 => ⟨fun q => ?_, fun q4 => ⟨fun q => ?_, fun q5 => ⟨fun q => ?_, fun q6 => ⟨fun q => ?_, fun q7 => ⟨fun q => ?_, fun q8 => ?_⟩⟩⟩⟩⟩⟩⟩
  · rw [if_pos q] at k
    exact k
  · rw [if_neg q2, if_pos q] at k
    exact k
  · rw [if_neg q2, if_neg q3, if_pos q] at k
    exact k
  · rw [if_neg q2, if_neg q3, if_neg q4, if_pos q] at k
    exact gA (h (.inl q)) k
  · rw [if_neg q2, if_neg q3, if_neg q4, if_neg q5, if_pos q] at k
    exact gA (h (.inr q)) k
  · rw [if_neg q2, if_neg q3, if_neg q4, if_neg q5, if_neg q6, if_pos q] at k
    refine brP (fun g => ?_) fun g => ?_
    · rw [show ind (x < y) = 0 from if_neg (by omega)] at k
      exact k
    · rw [show ind (x < y) = 1 from if_pos (by omega)] at k
      exact k
  · rw [if_neg q2, if_neg q3, if_neg q4, if_neg q5, if_neg q6, if_neg q7, if_pos q] at k
    refine brP (fun g => ?_) fun g => ?_
    · rw [show ind (y < x) = 0 from if_neg (by omega)] at k
      exact k
    · rw [show ind (y < x) = 1 from if_pos (by omega)] at k
      exact k
  · rw [if_neg q2, if_neg q3, if_neg q4, if_neg q5, if_neg q6, if_neg q7, if_neg q8] at k
    refine brP (fun g => ?_) fun g => ?_
    · rw [show ind (x = y) = 0 from if_neg g] at k
      exact k
    · rw [show ind (x = y) = 1 from if_pos (Classical.not_not.mp g)] at k
      exact k
set_option maxRecDepth 20000 in
theorem cv_wp {C Fc : Nat → Int} {dp : Nat → Nat} {a b : Nat} {M0 : MM} (v1 : Int) (hb : b ≤ 260) (hd : dp b = 1) (hk : ∀ k, a ≤ k → k < b → cvK C dp b k) (hle : ∀ n, a + n ≤ b → dp (a + n) ≤ n) (hC : ∀ j, M0 97 j = C j) (hF : ∀ j, j < 10 → M0 109 j = Fc j) : ∀ (n k : Nat) (st : List Int) (o6 o7 : Option Vv) (M : MM), b - k < n → a ≤ k → k ≤ b → st.length = dp k → cvS M st → (∀ x ∈ st, in32 x) → ai_GI ax_T M → (∀ c, c ≠ 108 → ∀ j, M c j = M0 c j) → (∀ M1, ai_GI ax_T M1 → (∀ c, c ≠ 108 → ∀ j, M1 c j = M0 c j) → in32 (ev C Fc n k b st) → Q (vi (ev C Fc n k b st)) M1) → WP FF sc YF (d + 2) m_X12_comesTo 10 [] [some (vr 81), some (vi v1), some (vi (b : Int)), some (vi (st.length : Int)), some (vi 0), some (vi (k : Int)), o6, o7] M Q := by
  intro n
  induction n with
  | zero => intro k st o6 o7 M h; omega
  | succ n ih =>
    intro k st o6 o7 M hn hak hkb hlen hS hin G hM kq
    refine rg_X12_comesTo_10 v1 _ _ 0 _ o6 o7 M (brP (fun hbk => ?_) fun hbk => ?_)
    · have hbk2 : b ≤ k := by omega
      have hkb2 : k = b := by omega
      have e : ev C Fc (n + 1) k b st = cvB st := by
        unfold ev
        rw [if_pos hbk2]
      rw [e] at kq
      have hl1 : st.length = 1 := by rw [hlen, hkb2, hd]
      have hb0 := cvS_bot hS (by omega)
      rw [hb0]
      refine kq M G hM ?_
      cases st with
      | nil => cases hl1
      | cons x r =>
        cases r with
        | nil => exact hin x List.mem_cons_self
        | cons y t => simp at hl1
    · have hbk2 : k < b := by omega
      have hkk := hk k hak hbk2
      unfold cvK at hkk
      have c0 := hkk.1
      have hc := hkk.2
      clear hkk
      have hdk := hle (k - a) (by omega)
      rw [show a + (k - a) = k by omega] at hdk
      have v0 : 0 ≤ C k % 1048576 ∧ C k % 1048576 < 1048576 := ⟨Int.emod_nonneg _ (by decide), Int.emod_lt_of_pos _ (by decide)⟩
      have kt : ((k : Int)).toNat = k := by omega
      have eC : M 97 ((k : Int)).toNat = C k := by rw [kt, hM 97 (by decide), hC]
      rw [eC]
      have eo : w32 (Int.tdiv (C k) 1048576) = C k / 1048576 := by
        have g := rA_97 G k
        have e2 : M 97 k = C k := by rw [hM 97 (by decide), hC]
        rw [e2] at g
        exact etdiv c0 (Int.le_trans g.2 (by decide)) (by decide)
      have em : Int.tmod (C k) 1048576 = C k % 1048576 := etmod c0
      rw [eo, em]
      clear eo em eC c0
      have eu := ev_succ C Fc n k b st
      rw [if_neg (by omega)] at eu
      generalize C k / 1048576 = op at eu hc ⊢
      generalize C k % 1048576 = v at eu hc v0 ⊢
      have ek : w32 ((k : Int) + 1) = ((k + 1 : Nat) : Int) := by rw [ew32 (by omega) (by omega)]; rfl
      rw [ek]
      clear ek
      have hpush : ∀ v, in32 v → ∀ M1 : MM, ai_GI ax_T M1 → cvS M1 st → (∀ c, c ≠ 108 → ∀ j, M1 c j = M0 c j) → dp (k + 1) = dp k + 1 → (ev C Fc (n + 1) k b st = ev C Fc n (k + 1) b (v :: st)) → ∀ w6 w7 : Vv, WP FF sc YF (d + 2) m_X12_comesTo 10 [] [some (vr 81), some (vi v1), some (vi (b : Int)), some (vi (w32 ((st.length : Int) + 1))), some (vi 0), some (vi ((k + 1 : Nat) : Int)), some w6, some w7] (stM M1 108 ((st.length : Int)).toNat v) Q := by
        intro v hv M1 G1 S1 hM1 hdp he w6 w7
        have slt : ((st.length : Int)).toNat = st.length := by omega
        have el : w32 ((st.length : Int) + 1) = ((st.length + 1 : Nat) : Int) := by rw [ew32 (by omega) (by omega)]; rfl
        rw [el, slt]
        clear el
        refine ih (k + 1) (v :: st) _ _ _ (by omega) (by omega) (by omega) (by rw [hdp, ← hlen]; rfl) (cvS_push S1) (fun x hx => ?_) (sA_108 G1 hv.1 (by have := hv.2; omega)) (fun c hc j => by rw [stN hc]; exact hM1 c hc j) (by rw [← he]; exact kq)
        rcases List.mem_cons.mp hx with rfl | hx
        · exact hv
        · exact hin x hx
      refine gI (by omega) (by omega) (gI (by omega) (by omega) ?_)
      rcases hc with ⟨q0, q1⟩ | ⟨q0, q1, q2⟩ | ⟨q0, q1, q2⟩ | ⟨q0, q1, q2, q3, q4, q5⟩ | ⟨q0, q1, q2⟩
      · rw [if_pos q0] at eu
        refine brT q0 (rg_X12_comesTo_36 v1 _ _ 0 _ _ _ M (brF (by omega) (gI (by omega) (by omega) ?_)))
        exact hpush _ ⟨by omega, by omega⟩ M G hS hM q1 eu _ _
      · rw [if_neg (by omega), if_pos q0] at eu
        refine brF (by omega) (brF (by omega) (rg_X12_comesTo_36 v1 _ _ 0 _ _ _ M (brT (by omega) (gI (by omega) (by omega) (gI (by omega) (by omega) ?_)))))
        have ef : M 109 (v).toNat = Fc (v).toNat := by rw [hM 109 (by decide), hF _ (by omega)]
        have gf := rA_109 G (v).toNat
        rw [ef] at gf ⊢
        exact hpush _ ⟨gf.1, by omega⟩ M G hS hM q2 eu _ _
      · rw [if_neg (by omega), if_neg (by omega), if_pos q0] at eu
        refine brF (by omega) (brT (by omega) (brF (by omega) ?_))
        cases st with
        | nil => rw [← hlen] at q1; exact absurd q1 (by decide)
        | cons x r =>
          have e1 : w32 (((x :: r).length : Int) - 1) = (r.length : Int) := by
            have : (x :: r).length = r.length + 1 := rfl
            rw [this, ew32 (by omega) (by omega)]
            omega
          have hl1 : (x :: r).length = r.length + 1 := rfl
          rw [e1]
          clear e1
          have rt : ((r.length : Int)).toNat = r.length := by omega
          refine gI (by omega) (by omega) (gI (by omega) (by omega) ?_)
          rw [rt, hS.1]
          have eu2 : ev C Fc (n + 1) k b (x :: r) = ev C Fc n (k + 1) b (w32 (1 - x) :: r) := eu
          rw [eu2] at kq
          clear eu2
          refine ih (k + 1) (w32 (1 - x) :: r) _ _ _ (by omega) (by omega) (by omega) (by rw [q2, ← hlen]; rfl) (cvS_push hS.2) (fun y hy => ?_) (sA_108 G (in_w32 _).1 (by have := (in_w32 (1 - x)).2; omega)) (fun c hc j => by rw [stN hc]; exact hM c hc j) kq
          rcases List.mem_cons.mp hy with rfl | hy
          · exact in_w32 _
          · exact hin y (List.mem_cons_of_mem _ hy)
      · rw [if_neg (by omega), if_neg (by omega), if_neg (by omega), if_pos q0] at eu
        cases st with
        | nil => rw [← hlen] at q1; exact absurd q1 (by decide)
        | cons x r =>
          have hl1 : (x :: r).length = r.length + 1 := rfl
          have e1 : ∀ _ : Unit, w32 (((x :: r).length : Int) - 1) = (r.length : Int) := fun _ => by
            rw [hl1, ew32 (by omega) (by omega)]
            omega
          have rt : ((r.length : Int)).toNat = r.length := by omega
          have h77 : WP FF sc YF (d + 2) m_X12_comesTo 77 [] [some (vr 81), some (vi v1), some (vi (b : Int)), some (vi ((x :: r).length : Int)), some (vi 0), some (vi ((k + 1 : Nat) : Int)), some (vi op), some (vi v)] M Q := by
            have h89 : ∀ t : Int, t = (if op = 12 then 1 else 0) → WP FF sc YF (d + 2) m_X12_comesTo 89 [vi t, vi x] [some (vr 81), some (vi v1), some (vi (b : Int)), some (vi ((x :: r).length : Int)), some (vi 0), some (vi ((k + 1 : Nat) : Int)), some (vi (op)), some (vi (v))] M Q := by
              intro t ht
              refine rg_X12_comesTo_89 v1 _ _ 0 _ _ _ x t M (brP (fun g => ?_) fun g => ?_)
              · rw [e1 ()]
                have eu2 : ev C Fc (n + 1) k b (x :: r) = ev C Fc n (k + 1) b r := by
                  rw [eu]
                  show (if x = (if op = 12 then 1 else 0) then _ else _) = _
                  rw [if_neg (by rw [← ht]; exact g)]
                exact ih (k + 1) r _ _ _ (by omega) (by omega) (by omega) (by omega) hS.2 (fun y hy => hin y (List.mem_cons_of_mem _ hy)) G hM (by rw [← eu2]; exact kq)
              · have g := Classical.not_not.mp g
                have eu2 : ev C Fc (n + 1) k b (x :: r) = ev C Fc n (v).toNat b (x :: r) := by
                  rw [eu]
                  show (if x = (if op = 12 then 1 else 0) then _ else _) = _
                  rw [if_pos (by rw [← ht]; exact g)]
                have e5 : w32 (0 + v) = (((v).toNat : Nat) : Int) := by
                  rw [ew32 (by omega) (by omega)]
                  omega
                rw [e5]
                exact ih (v).toNat (x :: r) _ _ _ (by omega) (by omega) (by omega) (by rw [q5, ← hlen]) hS hin G hM (by rw [← eu2]; exact kq)
            refine rg_X12_comesTo_77 v1 _ _ 0 _ _ _ M ?_
            rw [e1 ()]
            refine gI (by omega) (by omega) ?_
            rw [rt, hS.1]
            refine brP (fun g => h89 0 (by rw [if_neg g])) fun g => h89 1 (by rw [if_pos (Classical.not_not.mp g)])
          refine brF (by omega) (brT (by omega) (brT (by omega) (brP (fun _ => h77) fun g11 => brF (by omega) h77)))
      · rw [if_neg (by omega), if_neg (by omega), if_neg (by omega), if_neg (by omega)] at eu
        match st, hlen, hS, hin, kq, eu with
        | [], hlen, _, _, _, _ => rw [← hlen] at q1; exact absurd q1 (by decide)
        | [x], hlen, _, _, _, _ =>
          have h1 : ([x] : List Int).length = 1 := rfl
          omega
        | y :: x :: r, hlen, hS, hin, kq, eu =>
          have hl1 : (y :: x :: r).length = r.length + 2 := rfl
          have e1 : w32 (((y :: x :: r).length : Int) - 1) = ((r.length + 1 : Nat) : Int) := by
            rw [hl1, ew32 (by omega) (by omega)]
            omega
          rw [e1]
          clear e1
          have e2 : ∀ _ : Unit, w32 (((r.length + 1 : Nat) : Int) - 1) = (r.length : Int) := fun _ => by
            rw [ew32 (by omega) (by omega)]
            omega
          have rt : (((r.length + 1 : Nat) : Int)).toNat = r.length + 1 := by omega
          have rt2 : ((r.length : Int)).toNat = r.length := by omega
          have ey : M 108 (r.length + 1) = y := hS.1
          have ex : M 108 r.length = x := hS.2.1
          have h117 : ((op = 5 ∨ op = 6) → y ≠ 0) → WP FF sc YF (d + 2) m_X12_comesTo 117 [] [some (vr 81), some (vi v1), some (vi (b : Int)), some (vi ((r.length + 1 : Nat) : Int)), some (vi 0), some (vi ((k + 1 : Nat) : Int)), some (vi (op)), some (vi (v))] M Q := by
            intro hy
            refine rg_X12_comesTo_117 v1 _ _ 0 _ _ _ M ?_
            rw [e2 (), rt, rt2, ex, ey]
            refine gI (by omega) (by omega) (gI (by omega) (by omega) (s_reckon _ x y M hy (gI (by omega) (by omega) ?_)))
            have eu2 : ev C Fc (n + 1) k b (y :: x :: r) = ev C Fc n (k + 1) b (cvR (op) x y :: r) := by
              rw [eu]
              show (if (op = 5 ∨ op = 6) ∧ y = 0 then _ else _) = _
              rw [if_neg (fun q => hy q.1 q.2)]
            have hcv : in32 (cvR (op) x y) := cvR_in (hin x (List.mem_cons_of_mem _ List.mem_cons_self))
            refine ih (k + 1) (cvR (op) x y :: r) _ _ _ (by omega) (by omega) (by omega) ?_ (cvS_push hS.2.2) (fun z hz => ?_) (sA_108 G hcv.1 (by have := hcv.2; omega)) (fun c hc j => by rw [stN hc]; exact hM c hc j) (by rw [← eu2]; exact kq)
            · show r.length + 1 = dp (k + 1)
              omega
            · rcases List.mem_cons.mp hz with rfl | hz
              · exact hcv
              · exact hin z (List.mem_cons_of_mem _ (List.mem_cons_of_mem _ hz))
          have hq0 : y = 0 → (op = 5 ∨ op = 6) → Q (vi 0) M := by
            intro hy ho
            have eu2 : ev C Fc (n + 1) k b (y :: x :: r) = 0 := by
              rw [eu]
              show (if (op = 5 ∨ op = 6) ∧ y = 0 then _ else _) = _
              rw [if_pos ⟨ho, hy⟩]
            rw [eu2] at kq
            exact kq M G hM ⟨by decide, by decide⟩
          refine brF (by omega) (brT (by omega) (brT (by omega) (brF (by omega) (brT (by omega) (brP (fun g5 => ?_) fun g5 => brP (fun g6 => h117 (fun q => by omega)) fun g6 => ?_)))))
          · rw [rt, ey]
            exact gI (by omega) (by omega) (brP (fun g => h117 (fun _ => g)) fun g => hq0 (Classical.not_not.mp g) (.inl g5))
          · rw [rt, ey]
            exact gI (by omega) (by omega) (brP (fun g => h117 (fun _ => g)) fun g => hq0 (Classical.not_not.mp g) (.inr (by omega)))
/-- what a piece of THE LAW comes to -/
theorem s_comesTo {M : MM} {a b : Nat} {Fc : Nat → Int} (hG : cvG (M 97) a b) (hF : ∀ j, j < 10 → M 109 j = Fc j) (G : ai_GI ax_T M) (k : ∀ M1, ai_GI ax_T M1 → (∀ c, c ≠ 108 → ∀ j, M1 c j = M c j) → in32 (ev (M 97) Fc 261 a b []) → Q (vi (ev (M 97) Fc 261 a b [])) M1) : CA FF sc YF (d + 2) m_X12_comesTo [vr 81, vi (a : Int), vi (b : Int)] M Q := by
  obtain ⟨hab, hb, dp, h0, h1, hk⟩ := hG
  refine ca_X12_comesTo _ _ M ?_
  have e0 : w32 (Int.tdiv (a : Int) 260) = 0 := by
    rw [etdiv (by omega) (by omega) (by decide)]
    omega
  rw [e0]
  have e1 : w32 (260 * 0) = 0 := by decide
  rw [e1]
  exact cv_wp (a : Int) hb h1 hk (cvK_le h0 hk) (fun _ => rfl) hF 261 a [] none none M (by omega) (Nat.le_refl _) (by omega) h0.symm trivial (fun x hx => by cases hx) G (fun _ _ _ => rfl) k
end CVS
