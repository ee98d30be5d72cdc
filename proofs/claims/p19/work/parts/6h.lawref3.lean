/-! PART 6h: conditions of THE LAW (reference) -/
theorem pc_X12_lands {sc : List Int} {n : Nat} {Q : Vv → MM → Prop} (v1 : Int) (M : MM) (h : ∀ n1, n1 < n → PC sc n1 m_X12_waitTop [vr 81] M (cI fun r2 M1 =>
  brA (decide (r2 = 11))
   (PW sc n1 m_X12_lands 10 [] [some (vr 81), some (vi v1), none] M1 Q)
   (brA (decide (v1 = 0))
    (Q (vi 0) M1)
    (PC sc n1 m_X12_waitTop [vr 81] M1 (cI fun r4 M3 =>
     brA (decide (r4 ≠ 12))
      (Q (vi 0) M3)
      (PW sc n1 m_X12_lands 10 [] [some (vr 81), some (vi v1), none] M3 Q)))))) : PC sc n m_X12_lands [vr 81, vi v1] M Q := pc_go rfl (fun j => Nat.beq j 0 || Nat.beq j 10) 48 h
theorem pw_X12_lands_0 {sc : List Int} {n : Nat} {Q : Vv → MM → Prop} (v1 : Int) (M : MM) (h : ∀ n1, n1 < n → PC sc n1 m_X12_waitTop [vr 81] M (cI fun r2 M1 =>
  brA (decide (r2 = 11))
   (PW sc n1 m_X12_lands 10 [] [some (vr 81), some (vi v1), none] M1 Q)
   (brA (decide (v1 = 0))
    (Q (vi 0) M1)
    (PC sc n1 m_X12_waitTop [vr 81] M1 (cI fun r4 M3 =>
     brA (decide (r4 ≠ 12))
      (Q (vi 0) M3)
      (PW sc n1 m_X12_lands 10 [] [some (vr 81), some (vi v1), none] M3 Q)))))) : PW sc n m_X12_lands 0 [] [some (vr 81), some (vi v1), none] M Q := pw_go rfl (fun j => Nat.beq j 0 || Nat.beq j 10) 48 h
theorem pw_X12_lands_10 {sc : List Int} {n : Nat} {Q : Vv → MM → Prop} (v1 : Int) (o2 : Option Vv) (M : MM) (h : ∀ n1, n1 < n → gIm (decide (0 ≤ (w32 ((M 81 17) - 1))) && decide ((w32 ((M 81 17) - 1)) < 260)) (gIm (decide (0 ≤ (Int.tmod (M 92 (w32 ((M 81 17) - 1)).toNat) 1048576)) && decide ((Int.tmod (M 92 (w32 ((M 81 17) - 1)).toNat) 1048576) < 260)) (gIm (decide (0 ≤ (Int.tmod (M 92 (w32 ((M 81 17) - 1)).toNat) 1048576)) && decide ((Int.tmod (M 92 (w32 ((M 81 17) - 1)).toNat) 1048576) < 260)) (PW sc n1 m_X12_lands 0 [] [some (vr 81), some (vi v1), some (vi (Int.tmod (M 92 (w32 ((M 81 17) - 1)).toNat) 1048576))] (stM (stM M 91 ((Int.tmod (M 92 (w32 ((M 81 17) - 1)).toNat) 1048576).toNat) (w32 ((w32 (1048576 * (w32 (Int.tdiv (M 91 (Int.tmod (M 92 (w32 ((M 81 17) - 1)).toNat) 1048576).toNat) 1048576)))) + (M 81 16)))) 81 17 (w32 ((M 81 17) - 1))) Q)))) : PW sc n m_X12_lands 10 [] [some (vr 81), some (vi v1), o2] M Q := pw_go rfl (fun j => Nat.beq j 0 || Nat.beq j 10) 48 h
theorem pc_X12_jumps {sc : List Int} {n : Nat} {Q : Vv → MM → Prop} (v1 : Int) (M : MM) (h : ∀ n1, n1 < n → gIm (decide (0 ≤ (M 81 17)) && decide ((M 81 17) < 260)) (PC sc n1 m_X12_notes [vr 81, vi v1, vi 0] (stM (stM M 92 ((M 81 17).toNat) (w32 ((w32 (1048576 * v1)) + (M 81 16)))) 81 17 (w32 ((M 81 17) + 1))) (fun _ M1 =>
  Q (vi 0) (stM M1 81 11 (w32 ((M1 81 11) + 1)))))) : PC sc n m_X12_jumps [vr 81, vi v1] M Q := pc_go rfl (fun j => false) 33 h
theorem pc_X12_endsPiece {sc : List Int} {n : Nat} {Q : Vv → MM → Prop}  (M : MM) (h : ∀ n1, n1 < n → PC sc n1 m_X12_waitTop [vr 81] M (cI fun r2 M1 =>
  brA (decide (r2 ≠ 10))
   (Q (vi 0) M1)
   (PC sc n1 m_X12_notes [vr 81, vi 10, vi 0] M1 (fun _ M3 =>
    PW sc n1 m_X12_endsPiece 0 [] [some (vr 81)] (stM (stM M3 81 17 (w32 ((M3 81 17) - 1))) 81 15 (w32 ((M3 81 15) - 1))) Q)))) : PC sc n m_X12_endsPiece [vr 81] M Q := pc_go rfl (fun j => Nat.beq j 0) 27 h
theorem pw_X12_endsPiece_0 {sc : List Int} {n : Nat} {Q : Vv → MM → Prop}  (M : MM) (h : ∀ n1, n1 < n → PC sc n1 m_X12_waitTop [vr 81] M (cI fun r2 M1 =>
  brA (decide (r2 ≠ 10))
   (Q (vi 0) M1)
   (PC sc n1 m_X12_notes [vr 81, vi 10, vi 0] M1 (fun _ M3 =>
    PW sc n1 m_X12_endsPiece 0 [] [some (vr 81)] (stM (stM M3 81 17 (w32 ((M3 81 17) - 1))) 81 15 (w32 ((M3 81 15) - 1))) Q)))) : PW sc n m_X12_endsPiece 0 [] [some (vr 81)] M Q := pw_go rfl (fun j => Nat.beq j 0) 27 h
theorem pc_X12_readsCompared {sc : List Int} {n : Nat} {Q : Vv → MM → Prop}  (M : MM) (h : ∀ n1, n1 < n → PC sc n1 m_X12_readsSum [vr 81] M (cI fun r2 M1 =>
  brA (decide (r2 ≠ 0))
   (PC sc n1 m_X12_here [vr 81] M1 (cI fun r4 M3 =>
    brA (decide (r4 ≠ 60))
     (PC sc n1 m_X12_here [vr 81] M3 (cI fun r6 M5 =>
      brA (decide (r6 ≠ 62))
       (PC sc n1 m_X12_here [vr 81] M5 (cI fun r8 M7 =>
        brA (decide (r8 ≠ 61))
         (PW sc n1 m_X12_readsCompared 24 [vi ((-1))] [some (vr 81), none] M7 Q)
         (PW sc n1 m_X12_readsCompared 24 [vi 9] [some (vr 81), none] M7 Q)))
       (PW sc n1 m_X12_readsCompared 24 [vi 8] [some (vr 81), none] M5 Q)))
     (PW sc n1 m_X12_readsCompared 24 [vi 7] [some (vr 81), none] M3 Q)))
   (Q (vi 0) M1))) : PC sc n m_X12_readsCompared [vr 81] M Q := pc_go rfl (fun j => Nat.beq j 24) 58 h
theorem pw_X12_readsCompared_24 {sc : List Int} {n : Nat} {Q : Vv → MM → Prop} (o1 : Option Vv) (s0 : Int) (M : MM) (h : ∀ n1, n1 < n → brA (decide (s0 ≠ ((-1))))
  (PC sc n1 m_X12_readsSum [vr 81] (stM M 81 11 (w32 ((M 81 11) + 1))) (cI fun r2 M1 =>
   brA (decide (r2 ≠ 0))
    (PC sc n1 m_X12_notes [vr 81, vi s0, vi 0] M1 (fun _ M3 =>
     PC sc n1 m_X12_endsPiece [vr 81] M3 (fun _ M4 =>
      Q (vi 1) M4)))
    (Q (vi 0) M1)))
  (PC sc n1 m_X12_wrongAt [vr 81, vi 1, vi (M 81 11)] M (cI fun r6 M5 =>
   gIm (decide (r6 = 0) || decide (r6 = 1)) (Q (vi r6) M5)))) : PW sc n m_X12_readsCompared 24 [vi s0] [some (vr 81), o1] M Q := pw_go rfl (fun j => Nat.beq j 24) 58 h
theorem pc_X12_readsCondition {sc : List Int} {n : Nat} {Q : Vv → MM → Prop}  (M : MM) (h : ∀ n1, n1 < n → PC sc n1 m_X12_here [vr 81] M (cI fun r2 M1 =>
  brA (decide (r2 = 40))
   (PC sc n1 m_X12_opens [vr 81, vi 13] (stM (stM M1 81 15 0) 81 17 0) (cI fun r4 M3 =>
    brA (decide (r4 ≠ 0))
     (PW sc n1 m_X12_readsCondition 22 [] [some (vr 81)] M3 Q)
     (Q (vi 0) M3)))
   (PC sc n1 m_X12_wrongAt [vr 81, vi 1, vi (M1 81 11)] M1 (cI fun r6 M5 =>
    gIm (decide (r6 = 0) || decide (r6 = 1)) (Q (vi r6) M5))))) : PC sc n m_X12_readsCondition [vr 81] M Q := pc_go rfl (fun j => Nat.beq j 22 || Nat.beq j 30 || Nat.beq j 47 || Nat.beq j 102) 118 h
theorem pw_X12_readsCondition_22 {sc : List Int} {n : Nat} {Q : Vv → MM → Prop}  (M : MM) (h : ∀ n1, n1 < n → PC sc n1 m_X12_here [vr 81] M (cI fun r2 M1 =>
  brA (decide (r2 = 33))
   (PW sc n1 m_X12_readsCondition 30 [] [some (vr 81)] M1 Q)
   (PC sc n1 m_X12_here [vr 81] M1 (cI fun r4 M3 =>
    brA (decide (r4 ≠ 40))
     (PC sc n1 m_X12_readsCompared [vr 81] M3 (cI fun r6 M5 =>
      brA (decide (r6 ≠ 0))
       (PW sc n1 m_X12_readsCondition 47 [] [some (vr 81)] M5 Q)
       (Q (vi 0) M5)))
     (PW sc n1 m_X12_readsCondition 30 [] [some (vr 81)] M3 Q))))) : PW sc n m_X12_readsCondition 22 [] [some (vr 81)] M Q := pw_go rfl (fun j => Nat.beq j 22 || Nat.beq j 30 || Nat.beq j 47 || Nat.beq j 102) 118 h
theorem pw_X12_readsCondition_30 {sc : List Int} {n : Nat} {Q : Vv → MM → Prop}  (M : MM) (h : ∀ n1, n1 < n → PC sc n1 m_X12_here [vr 81] M (cI fun r2 M1 =>
  brA (decide (r2 ≠ 33))
   (PC sc n1 m_X12_opens [vr 81, vi 13] M1 (cI fun r4 M3 =>
    brA (decide (r4 ≠ 0))
     (PW sc n1 m_X12_readsCondition 22 [] [some (vr 81)] M3 Q)
     (Q (vi 0) M3)))
   (PC sc n1 m_X12_opens [vr 81, vi 10] M1 (cI fun r6 M5 =>
    brA (decide (r6 ≠ 0))
     (PW sc n1 m_X12_readsCondition 22 [] [some (vr 81)] M5 Q)
     (Q (vi 0) M5))))) : PW sc n m_X12_readsCondition 30 [] [some (vr 81)] M Q := pw_go rfl (fun j => Nat.beq j 22 || Nat.beq j 30 || Nat.beq j 47 || Nat.beq j 102) 118 h
theorem pw_X12_readsCondition_47 {sc : List Int} {n : Nat} {Q : Vv → MM → Prop}  (M : MM) (h : ∀ n1, n1 < n → PC sc n1 m_X12_here [vr 81] M (cI fun r2 M1 =>
  brA (decide (r2 ≠ 41))
   (PC sc n1 m_X12_here [vr 81] M1 (cI fun r4 M3 =>
    brA (decide (r4 = 38))
     (PC sc n1 m_X12_here [vr 81] M3 (cI fun r6 M5 =>
      brA (decide (r6 ≠ 124))
       (PW sc n1 m_X12_readsCondition 102 [vi 0, vr 81] [some (vr 81)] M5 Q)
       (PW sc n1 m_X12_readsCondition 102 [vi 1, vr 81] [some (vr 81)] M5 Q)))
     (PC sc n1 m_X12_here [vr 81] M3 (cI fun r8 M7 =>
      brA (decide (r8 = 124))
       (PC sc n1 m_X12_here [vr 81] M7 (cI fun r10 M9 =>
        brA (decide (r10 ≠ 124))
         (PW sc n1 m_X12_readsCondition 102 [vi 0, vr 81] [some (vr 81)] M9 Q)
         (PW sc n1 m_X12_readsCondition 102 [vi 1, vr 81] [some (vr 81)] M9 Q)))
       (PC sc n1 m_X12_wrongAt [vr 81, vi 1, vi (M7 81 11)] M7 (cI fun r12 M11 =>
        gIm (decide (r12 = 0) || decide (r12 = 1)) (Q (vi r12) M11)))))))
   (PC sc n1 m_X12_lands [vr 81, vi 1] M1 (fun _ M13 =>
    brA (decide ((w32 ((M13 81 17) - 1)) ≠ 0))
     (PC sc n1 m_X12_endsPiece [vr 81] (stM (stM (stM M13 81 17 (w32 ((M13 81 17) - 1))) 81 15 (w32 ((M13 81 15) - 1))) 81 11 (w32 ((M13 81 11) + 1))) (fun _ M14 =>
      PW sc n1 m_X12_readsCondition 47 [] [some (vr 81)] M14 Q))
     (Q (vi 1) (stM (stM (stM M13 81 17 (w32 ((M13 81 17) - 1))) 81 15 (w32 ((M13 81 15) - 1))) 81 11 (w32 ((M13 81 11) + 1)))))))) : PW sc n m_X12_readsCondition 47 [] [some (vr 81)] M Q := pw_go rfl (fun j => Nat.beq j 22 || Nat.beq j 30 || Nat.beq j 47 || Nat.beq j 102) 118 h
theorem pw_X12_readsCondition_102 {sc : List Int} {n : Nat} {Q : Vv → MM → Prop} (s0 : Nat) (s1 : Int) (M : MM) (h : ∀ n1, n1 < n → gIm (kd YF s0 == 21) (PC sc n1 m_X12_lands [vr s0, vi s1] M (fun _ M1 =>
  PC sc n1 m_X12_here [vr 81] M1 (cI fun r3 M2 =>
   brA (decide (r3 ≠ 38))
    (PC sc n1 m_X12_jumps [vr 81, vi 12] M2 (fun _ M4 =>
     PW sc n1 m_X12_readsCondition 22 [] [some (vr 81)] M4 Q))
    (PC sc n1 m_X12_jumps [vr 81, vi 11] M2 (fun _ M5 =>
     PW sc n1 m_X12_readsCondition 22 [] [some (vr 81)] M5 Q)))))) : PW sc n m_X12_readsCondition 102 [vi s1, vr s0] [some (vr 81)] M Q := pw_go rfl (fun j => Nat.beq j 22 || Nat.beq j 30 || Nat.beq j 47 || Nat.beq j 102) 118 h
/- what waits in a condition -/
def cndW (W : List Int) : Prop := ∀ w, w ∈ W → 10 ≤ cop w ∧ cop w ≤ 13
theorem cndW.tl {w : Int} {W : List Int} (h : cndW (w :: W)) : cndW W := fun x hx => h x (.tail _ hx)
theorem cndW.cn {w : Int} {W : List Int} (h : cndW W) (hw : 10 ≤ cop w ∧ cop w ≤ 13) : cndW (w :: W) := fun x hx => by
  cases hx with
  | head => exact hw
  | tail _ hx => exact h x hx
theorem cndW.ts : ∀ {W : List Int}, cndW W → topS W
  | [], _ => trivial
  | w :: W, h => by
    have := h w (.head _)
    show ¬ (2 ≤ cop w ∧ cop w ≤ 6)
    omega
theorem cndW.os : ∀ {W : List Int}, cndW W → hasO W = false
  | [], _ => rfl
  | w :: W, h => by
    have := h w (.head _)
    show (decide (cop w = 14) || hasO W) = false
    rw [decide_eq_false (by omega), cndW.os h.tl]
    rfl
/- at the bottom waits the ( of the condition -/
def bot (W : List Int) : Prop := match W with
  | [] => False
  | w :: W => (W = [] ∧ cop w = 13) ∨ bot W
theorem popN_k (P : List Int → Prop) (hP : ∀ w W, P (w :: W) → cop w = 10 → P W) : ∀ (W : List Int) (q : LC), P W → P (popN W q).1
  | [], _, h => h
  | w :: W, q, h => by
    rw [popN_c]
    by_cases c : cop w = 10
    · rw [if_pos c]
      exact popN_k P hP W _ (hP w W h c)
    · rw [if_neg c]
      exact h
theorem landI_k (P : List Int → Prop) (all : Bool) (hP : ∀ w W, P (w :: W) → cop w = 11 ∨ cop w = 12 → P W) : ∀ (W : List Int) (q : LC), P W → P (landI all W q).1
  | [], _, h => h
  | w :: W, q, h => by
    rw [landI_c]
    by_cases c : cop w = 11 ∨ (all = true ∧ cop w = 12)
    · rw [if_pos c]
      refine landI_k P all hP W _ (hP w W h ?_)
      rcases c with c | c
      · exact .inl c
      · exact .inr c.2
    · rw [if_neg c]
      exact h
theorem bot_d {w : Int} {W : List Int} (h : bot (w :: W)) (c : cop w ≠ 13) : bot W := by
  rcases h with h | h
  · exact absurd h.2 c
  · exact h
theorem bot_n {w w2 : Int} {W : List Int} (h : bot (w :: w2 :: W)) : bot (w2 :: W) := by
  rcases h with h | h
  · cases h.1
  · exact h
/- no ! on top -/
def topN (W : List Int) : Prop := match W with
  | [] => True
  | w :: _ => cop w ≠ 10
theorem popN_top : ∀ (W : List Int) (q : LC), topN (popN W q).1
  | [], _ => trivial
  | w :: W, q => by
    rw [popN_c]
    by_cases c : cop w = 10
    · rw [if_pos c]
      exact popN_top W _
    · rw [if_neg c]
      exact c
theorem popN_id {W : List Int} (h : topN W) (q : LC) : popN W q = (W, q) := by
  cases W with
  | nil => rfl
  | cons w W =>
    rw [popN_c, if_neg h]
theorem ztR_popN (W : List Int) (q : LC) (cl : CL) (ch : Int) (p : Nat) : ztR W q cl ch p = ztR (popN W q).1 (popN W q).2 cl ch p := by
  unfold ztR
  rw [popN_id (popN_top W q)]
theorem landI_top : ∀ (W : List Int) (q : LC), match (landI true W q).1 with
    | [] => True
    | w :: _ => cop w ≠ 11 ∧ cop w ≠ 12
  | [], _ => trivial
  | w :: W, q => by
    rw [landI_c]
    by_cases c : cop w = 11 ∨ (true = true ∧ cop w = 12)
    · rw [if_pos c]
      exact landI_top W _
    · rw [if_neg c]
      exact ⟨fun z => c (.inl z), fun z => c (.inr ⟨rfl, z⟩)⟩
section LRU
variable {sc : List Int} {Q : Vv → MM → Prop} {t : Nat → Int} {N p : Nat} {M0 : MM}
set_option maxRecDepth 20000 in
theorem f_endsL : ∀ (W : List Int) (q : LC) (M : MM) (n : Nat), xlI N p W q M0 M → (∀ M1, xlI N p (popN W q).1 (popN W q).2 M0 M1 → Q (vi 0) M1) → PW sc n m_X12_endsPiece 0 [] [some (vr 81)] M Q := by
  intro W
  induction W with
  | nil =>
    intro q M n I K
    have K : Q (vi 0) M := K M I
    exact pw_X12_endsPiece_0 M fun n1 _ => f_waitTop I fun x hx => cI_i (brT (by rw [hx]; decide) K)
  | cons w W ih =>
    intro q M n I K
    rw [popN_c] at K
    have b := I.2.2.2.2
    have hl : (w :: W).length = W.length + 1 := rfl
    refine pw_X12_endsPiece_0 M fun n1 _ => f_waitTop I fun x hx => cI_i (brP (fun h => ?_) fun h => ?_)
    · have hx : x = cop w := hx
      rw [if_neg (by omega)] at K
      exact K M I
    · have hx : x = cop w := hx
      have h10 : cop w = 10 := by omega
      rw [if_pos h10] at K
      refine f_note I (x := 1048576 * 10) (by decide) (by decide) (by decide) fun M3 I3 => ?_
      have ho : opn (w :: W) = opn W + 1 := by rw [opn_c, if_pos (.inl h10)]
      rw [I3.2.1.2.2, I3.2.1.2.1, hl, ho]
      exact ih _ _ n1 (I3.popo (.inl h10) ((ew32 (by omega) (by omega)).trans (by omega)) ((ew32 (by omega) (by omega)).trans (by omega))) K
theorem PC_ends {n : Nat} {M : MM} (h : PW sc n m_X12_endsPiece 0 [] [some (vr 81)] M Q) : PC sc n m_X12_endsPiece [vr 81] M Q := h
theorem xlI.land {w : Int} {W : List Int} {q : LC} {M : MM} (I : xlI N p (w :: W) q M0 M) (hw : cop w ≠ 10 ∧ cop w ≠ 13 ∧ cop w ≠ 14) {k : Nat} {y v : Int} (hy : k < q.1 → y = 1048576 * cop (q.2 k) + (q.1 : Int)) (hv : v = (W.length : Int)) : xlI N p W (ptC q k) M0 (stM (stM M 91 k y) 81 17 v) := by
  obtain ⟨f, ⟨a1, a2, a3⟩, s, ⟨c1, c2, c3⟩, b⟩ := I
  subst hv
  rw [opn_c, if_neg (by omega)] at a2 b
  have hl : (w :: W).length = W.length + 1 := rfl
  refine ⟨(f.st (.inl rfl)).st (.inr (.inr ⟨rfl, .inr (.inr (.inr (.inr (.inr rfl))))⟩)), ⟨(stO (by decide)).trans ((stN (by decide)).trans a1), (stO (by decide)).trans ((stN (by decide)).trans a2), stE⟩, s.2.eq fun _ _ => (stN (by decide)).trans (stN (by decide)), ⟨(stO (by decide)).trans ((stN (by decide)).trans c1), c2, fun i hi => ?_⟩, by omega⟩
  have hi : i < q.1 := hi
  rw [stN (by decide)]
  have h3 := c3 i hi
  have hr := cop_r h3.2
  show stM M 91 k y 91 i = (if i = k then 1048576 * cop (q.2 i) + (q.1 : Int) else q.2 i) ∧ 0 ≤ (if i = k then 1048576 * cop (q.2 i) + (q.1 : Int) else q.2 i) ∧ (if i = k then 1048576 * cop (q.2 i) + (q.1 : Int) else q.2 i) < 16777216
  by_cases e : i = k
  · subst e
    rw [if_pos rfl, stE]
    exact ⟨hy hi, by omega, by omega⟩
  · rw [if_neg e, stO e]
    exact h3
theorem pw_X12_lands_0o {n : Nat} (v1 : Int) (o2 : Option Vv) (M : MM) (h : ∀ n1, n1 < n → PC sc n1 m_X12_waitTop [vr 81] M (cI fun r2 M1 =>
  brA (decide (r2 = 11))
   (PW sc n1 m_X12_lands 10 [] [some (vr 81), some (vi v1), o2] M1 Q)
   (brA (decide (v1 = 0))
    (Q (vi 0) M1)
    (PC sc n1 m_X12_waitTop [vr 81] M1 (cI fun r4 M3 =>
     brA (decide (r4 ≠ 12))
      (Q (vi 0) M3)
      (PW sc n1 m_X12_lands 10 [] [some (vr 81), some (vi v1), o2] M3 Q)))))) : PW sc n m_X12_lands 0 [] [some (vr 81), some (vi v1), o2] M Q := pw_go rfl (fun j => Nat.beq j 0 || Nat.beq j 10) 48 h
set_option maxRecDepth 20000 in
theorem f_lands (all : Bool) {v : Int} (hv : if all then v ≠ 0 else v = 0) : ∀ (W : List Int) (q : LC) (M : MM) (n : Nat) (o2 : Option Vv), xlI N p W q M0 M → (∀ M1, xlI N p (landI all W q).1 (landI all W q).2 M0 M1 → Q (vi 0) M1) → PW sc n m_X12_lands 0 [] [some (vr 81), some (vi v), o2] M Q := by
  intro W
  induction W with
  | nil =>
    intro q M n o2 I K
    have K : Q (vi 0) M := K M I
    exact pw_X12_lands_0o v o2 M fun n1 _ => f_waitTop I fun x hx => cI_i (brF (by rw [hx]; decide) (brP (fun _ => K) fun _ => f_waitTop I fun x hx => cI_i (brT (by rw [hx]; decide) K)))
  | cons w W ih =>
    intro q M n o2 I K
    rw [landI_c] at K
    have b := I.2.2.2.2
    have hl : (w :: W).length = W.length + 1 := rfl
    have e10 : ∀ n, (cop w = 11 ∨ (all = true ∧ cop w = 12)) → PW sc n m_X12_lands 10 [] [some (vr 81), some (vi v), o2] M Q := fun n c => by
      rw [if_pos c] at K
      have hw := I.2.2.1.1
      have hc : 11 ≤ cop w ∧ cop w ≤ 12 := by
        rcases c with c | c
        · omega
        · have := c.2
          omega
      refine pw_X12_lands_10 v _ M fun n2 _ => ?_
      rw [I.2.1.2.2, I.2.2.2.1.1, show w32 (((w :: W).length : Int) - 1) = (W.length : Int) from (ew32 (by omega) (by omega)).trans (by omega), show ((W.length : Int)).toNat = W.length by omega, hw.1, etmod (by omega)]
      refine gMB (gMB (gMB ?_))
      refine ih _ _ n2 _ (I.land (k := (carg w).toNat) (by omega) (fun hk => ?_) rfl) K
      have h3 := I.2.2.2.1.2.2 _ hk
      have h2 := I.2.2.2.1.2.1
      have hr := cop_r h3.2
      show w32 (w32 (1048576 * w32 (Int.tdiv (M 91 (carg w).toNat) 1048576)) + (q.1 : Int)) = _
      rw [h3.1, etdiv (by omega) (by omega) (by decide)]
      show w32 (w32 (1048576 * cop (q.2 (carg w).toNat)) + (q.1 : Int)) = _
      rw [show w32 (1048576 * cop (q.2 (carg w).toNat)) = 1048576 * cop (q.2 (carg w).toNat) from ew32 (by omega) (by omega)]
      exact ew32 (by omega) (by omega)
    have no : ¬ (cop w = 11 ∨ (all = true ∧ cop w = 12)) → Q (vi 0) M := fun c => by
      rw [if_neg c] at K
      exact K M I
    refine pw_X12_lands_0o v o2 M fun n1 _ => f_waitTop I fun x hx => cI_i (brP (fun h => e10 _ (.inl (hx.symm.trans h))) fun h => brP (fun h0 => no ?_) fun h0 => f_waitTop I fun y hy => cI_i (brP (fun h2 => no ?_) fun h2 => e10 _ (.inr ⟨?_, hy.symm.trans (Classical.not_not.mp h2)⟩)))
    · have hx : x = cop w := hx
      intro z
      rcases z with z | z
      · exact h (hx.trans z)
      · rw [z.1] at hv
        exact hv h0
    · have hx : x = cop w := hx
      have hy : y = cop w := hy
      intro z
      rcases z with z | z
      · exact h (hx.trans z)
      · exact h2 (hy.trans z.2)
    · cases all
      · exact absurd hv h0
      · rfl
theorem PC_lands {n : Nat} {M : MM} {v : Int} (h : PW sc n m_X12_lands 0 [] [some (vr 81), some (vi v), none] M Q) : PC sc n m_X12_lands [vr 81, vi v] M Q := h
set_option maxRecDepth 20000 in
theorem f_jumps {W : List Int} {q : LC} {n : Nat} {M : MM} (I : xlI N p W q M0 M) {a : Int} (ha : a = 11 ∨ a = 12) (hp : p < N) (k : ∀ M1, xlI N (p + 1) ((1048576 * a + (q.1 : Int)) :: W) (emC q (1048576 * a)) M0 M1 → Q (vi 0) M1) : PC sc n m_X12_jumps [vr 81, vi a] M Q := by
  have b := I.2.2.2.2
  have hc := I.2.2.2.1
  refine pc_X12_jumps _ M fun n1 _ => ?_
  rw [I.2.1.2.2, hc.1]
  refine gMI fun _ hl => ?_
  have hcop : cop (1048576 * a + (q.1 : Int)) = a := cop_mk (by have := hc.2.1; omega)
  have h2 := hc.2.1
  rw [show ((W.length : Int)).toNat = W.length by omega, show w32 (1048576 * a) = 1048576 * a from ew32 (by omega) (by omega), show w32 (1048576 * a + (q.1 : Int)) = 1048576 * a + (q.1 : Int) from ew32 (by omega) (by omega), show w32 ((W.length : Int) + 1) = ((W.length + 1 : Nat) : Int) from ew32 (by omega) (by omega)]
  refine f_note (I.push (by omega) (by omega) (by omega) rfl rfl) (x := 1048576 * a) (by omega) (by decide) (by omega) fun M1 I1 => ?_
  rw [I1.2.1.1, show w32 ((p : Int) + 1) = ((p + 1 : Nat) : Int) from ew32 (by omega) (by omega)]
  exact k _ (I1.pl hp rfl)
theorem xlI.z {q : LC} {M : MM} (f : xlF M0 M) (a : M 81 11 = (p : Int)) (c : cdL M q) (b : p ≤ N ∧ N ≤ 240) : xlI N p [] q M0 (stM (stM M 81 15 0) 81 17 0) := ⟨(f.st (.inr (.inr ⟨rfl, .inr (.inr (.inr (.inl rfl)))⟩))).st (.inr (.inr ⟨rfl, .inr (.inr (.inr (.inr (.inr rfl))))⟩)), ⟨(stO (by decide)).trans ((stO (by decide)).trans a), (stO (by decide)).trans stE, stE⟩, trivial, ⟨(stO (by decide)).trans ((stO (by decide)).trans c.1), c.2.1, fun i hi => by rw [stN (by decide), stN (by decide)]; exact c.2.2 i hi⟩, b.1, b.2, Nat.zero_le _, Nat.zero_le _⟩
/- a condition -/
set_option maxRecDepth 20000 in
theorem f_condM (h12 : M0 81 12 = (N : Int)) (ht : ∀ i, bAnd (M0 90 i) 255 = t i) {cl : CL} {q : LC} {n : Nat} {M : MM} (f : xlF M0 M) (a : M 81 11 = (p : Int)) (c : cdL M q) (b : p ≤ N ∧ N ≤ 240) (k0 : ∀ f M1, outL t N p (zsO q cl) = .inl f → xlX f M0 M1 → ∀ z : Int, z = 0 → Q (vi z) M1) (k1 : ∀ q1 p1 M1, outL t N p (zsO q cl) = outL t N p1 (zsD q1 (cl.1 + 1, cl.2.1, cl.2.2.1, upF cl.2.2.2.1 cl.1 q.1, upF cl.2.2.2.2 cl.1 q1.1)) → p < p1 → xlI N p1 [] q1 M0 M1 → ∀ z : Int, z = 1 → Q (vi z) M1) : PC sc n m_X12_readsCondition [vr 81] M Q := by
  have lp : ∀ (n : Nat) (W : List Int) (q1 : LC) (p1 : Nat) (M1 : MM), cndW W → bot W → p < p1 → xlI N p1 W q1 M0 M1 → (outL t N p (zsO q cl) = outL t N p1 (zsP W q1 (cl.1, cl.2.1, cl.2.2.1, upF cl.2.2.2.1 cl.1 q.1, cl.2.2.2.2)) → PW sc n m_X12_readsCondition 22 [] [some (vr 81)] M1 Q) ∧ (topN W → outL t N p (zsO q cl) = outL t N p1 (zsR W q1 (cl.1, cl.2.1, cl.2.2.1, upF cl.2.2.2.1 cl.1 q.1, cl.2.2.2.2)) → PW sc n m_X12_readsCondition 47 [] [some (vr 81)] M1 Q) := by
    obtain ⟨cl2, hcl2⟩ : ∃ cl2 : CL, cl2 = (cl.1, cl.2.1, cl.2.2.1, upF cl.2.2.2.1 cl.1 q.1, cl.2.2.2.2) := ⟨_, rfl⟩
    rw [← hcl2]
    intro n
    induction n using Nat.strongRecOn with
    | ind n ih =>
      intro W q1 p1 M1 hW hB hp I1
      have hb := I1.2.2.2.2
      refine ⟨fun ho => ?_, fun hN ho => ?_⟩
      · refine pw_X12_readsCondition_22 M1 fun n1 h1 => p_hereM h12 ht I1 fun c hc => cI_i ?_
        have e30 : c = 33 ∨ c = 40 → PW sc n1 m_X12_readsCondition 30 [] [some (vr 81)] M1 Q := fun h => by
          have hl : p1 < N := chL_lt (t := t) (by omega)
          have hc' := hc
          rw [chL_at hl] at hc'
          have op : ∀ (n' : Nat) (a w : Int), n' < n → (a = 10 ∧ c = 33 ∨ a = 13 ∧ c = 40) → w = 1048576 * a → PC sc n' m_X12_opens [vr 81, vi a] M1 (cI fun r4 M3 => brA (decide (r4 ≠ 0)) (PW sc n' m_X12_readsCondition 22 [] [some (vr 81)] M3 Q) (Q (vi 0) M3)) := fun n' a w hn ha hw => by
            have hcw : cop w = a := by rw [hw, cop_u]
            refine f_opens I1 (by omega) hw hl (fun h6 M2 X z hz => cI_i (brF (by omega) (k0 _ M2 (ho.trans (outL_no hl ?_)) X 0 rfl))) fun h6 M2 I2 z hz => cI_i (brT (by omega) ((ih n' hn (w :: W) q1 (p1 + 1) M2 (hW.cn (by omega)) (.inr hB) (by omega) I2).1 (ho.trans (outL_go hl ?_))))
            · show ztP W q1 cl2 (t p1) p1 = _
              unfold ztP
              rcases ha with ha | ha
              · rw [if_pos (by omega), if_pos h6]
                rfl
              · rw [if_neg (by omega), if_pos (by omega), if_pos h6]
                rfl
            · show ztP W q1 cl2 (t p1) p1 = _
              unfold ztP
              rcases ha with ha | ha
              · rw [if_pos (by omega), if_neg h6, hw, ha.1]
              · rw [if_neg (by omega), if_pos (by omega), if_neg h6, hw, ha.1]
          refine pw_X12_readsCondition_30 M1 fun n2 h2 => p_hereM h12 ht I1 fun c2 hc2 => cI_i ?_
          have hcc : c2 = c := hc2.trans hc.symm
          subst hcc
          exact brP (fun h3 => op n2 13 _ (by omega) (.inr ⟨rfl, by omega⟩) rfl) fun h3 => op n2 10 _ (by omega) (.inl ⟨rfl, by omega⟩) rfl
        refine brP (fun h => e30 (.inl h)) fun h33 => p_hereM h12 ht I1 fun c2 hc2 => cI_i ?_
        have hcc : c2 = c := hc2.trans hc.symm
        subst hcc
        refine brP (fun h40 => ?_) fun h => e30 (.inr (Classical.not_not.mp h))
        have hgo : outL t N p1 (zsP W q1 cl2) = outL t N p1 (zsA (1, 0) W q1 cl2) := outL_eq (by show (3 : Nat) ≠ 6; decide) (by show (0 : Nat) ≠ 6; decide) fun hl => by
          rw [chL_at hl] at hc
          show ztP W q1 cl2 (t p1) p1 = ztA (1, 0) W q1 cl2 (t p1) p1
          unfold ztP
          rw [if_neg (by omega), if_neg (by omega)]
        have ho := ho.trans hgo
        clear hgo
        refine pc_X12_readsCompared M1 fun n2 h2 => f_sumM h12 ht (x := (1, 0)) (cl := cl2) I1 hW.ts hW.os (fun f M2 g X z hz => cI_i (brF (by omega) (cI_i (brF (by omega) (k0 f M2 (ho.trans g) X 0 rfl))))) fun q2 p2 M2 g hp2 I2 hs z hz => cI_i (brT (by omega) ?_)
        have ho := ho.trans g
        clear g
        have e24 : ∀ (n' : Nat) (s0 c : Int), n' < n → c = chL t N p2 → s0 = cmV c → PW sc n' m_X12_readsCompared 24 [vi s0] [some (vr 81), none] M2 (cI fun r6 M5 => brA (decide (r6 ≠ 0)) (PW sc n1 m_X12_readsCondition 47 [] [some (vr 81)] M5 Q) (Q (vi 0) M5)) := fun n' s0 c hn hc hs0 => by
          have hr := cmV_r c
          have hb2 := I2.2.2.2.2
          refine pw_X12_readsCompared_24 _ s0 M2 fun n3 h3 => brP (fun hne => ?_) fun heq => ?_
          · have hl : p2 < N := chL_lt (t := t) (fun z => by
              rw [z] at hc
              subst hc
              exact hne (hs0.trans rfl))
            rw [chL_at hl] at hc hs
            subst hc
            have hgo : outL t N p2 (zsB (1, 0) W q2 cl2) = outL t N (p2 + 1) (zsA (2, cmV (t p2)) W q2 cl2) := outL_go hl (by
              show ztB (1, 0) W q2 cl2 (t p2) p2 = _
              rw [ztB_no hW.ts (by show ¬ hasO W = true; rw [hW.os]; decide) _ _ _ _ hs]
              show (if cmV (t p2) ≠ -1 then _ else _) = _
              rw [if_pos (by omega)])
            rw [I2.2.1.1, show w32 ((p2 : Int) + 1) = ((p2 + 1 : Nat) : Int) from ew32 (by omega) (by omega)]
            refine f_sumM h12 ht (x := (2, cmV (t p2))) (cl := cl2) (I2.pl hl rfl) hW.ts hW.os (fun f M3 g X z hz => cI_i (brF (by omega) (cI_i (brF (by omega) (k0 f M3 ((ho.trans hgo).trans g) X 0 rfl))))) fun q3 p3 M3 g hp3 I3 hs3 z hz => cI_i (brT (by omega) (f_note I3 (x := 1048576 * s0) (by omega) (by decide) (by omega) fun M4 I4 => PC_ends (f_endsL _ _ M4 n3 I4 fun M5 I5 => cI_i (brT (by decide) ?_))))
            refine (ih n1 h1 _ _ p3 M5 (popN_k cndW (fun w W z _ => z.tl) _ _ hW) (popN_k bot (fun w W z hz => bot_d z (by omega)) _ _ hB) (by omega) I5).2 (popN_top _ _) (((ho.trans hgo).trans g).trans (outL_eq (by show (2 : Nat) ≠ 6; decide) (by show (4 : Nat) ≠ 6; decide) fun hl3 => ?_))
            rw [chL_at hl3] at hs3
            show ztB (2, cmV (t p2)) W q3 cl2 (t p3) p3 = ztR (popN W (emC q3 (1048576 * s0))).1 (popN W (emC q3 (1048576 * s0))).2 cl2 (t p3) p3
            rw [ztB_no hW.ts (by show ¬ hasO W = true; rw [hW.os]; decide) _ _ _ _ hs3, ← ztR_popN, hs0]
            rfl
          · refine p_wrongM I2 (by decide) fun M3 X z hz => cI_i (gMB (cI_i (brF (by omega) (k0 _ M3 (ho.trans ?_) X 0 rfl))))
            by_cases hl : p2 < N
            · refine outL_no hl ?_
              rw [chL_at hl] at hc hs
              subst hc
              show ztB (1, 0) W q2 cl2 (t p2) p2 = _
              rw [ztB_no hW.ts (by show ¬ hasO W = true; rw [hW.os]; decide) _ _ _ _ hs]
              show (if cmV (t p2) ≠ -1 then _ else _) = _
              rw [if_neg (by omega)]
              rfl
            · exact outL_end (by omega) (by show (2 : Nat) ≠ 6; decide)
        refine p_hereM h12 ht I2 fun c4 hc4 => cI_i (brP (fun h60 => p_hereM h12 ht I2 fun c5 hc5 => cI_i (brP (fun h62 => p_hereM h12 ht I2 fun c6 hc6 => cI_i (brP (fun h61 => e24 n2 _ c4 (by omega) hc4 ?_) fun h61 => e24 n2 _ c4 (by omega) hc4 ?_)) fun h62 => e24 n2 _ c4 (by omega) hc4 ?_)) fun h60 => e24 n2 _ c4 (by omega) hc4 ?_)
        · unfold cmV
          rw [if_neg h60, if_neg (by omega), if_neg (by omega)]
        · unfold cmV
          rw [if_neg h60, if_neg (by omega), if_pos (by omega)]
        · unfold cmV
          rw [if_neg h60, if_pos (by omega)]
        · unfold cmV
          rw [if_pos (by omega)]
      · refine pw_X12_readsCondition_47 M1 fun n1 h1 => p_hereM h12 ht I1 fun c hc => cI_i ?_
        have hid := popN_id hN q1
        have e102 : ∀ (n' : Nat) (s1 : Int) (all : Bool), n' < n → (if all then s1 ≠ 0 else s1 = 0) → (all = false ∧ c = 38 ∨ all = true ∧ c = 124) → PW sc n' m_X12_readsCondition 102 [vi s1, vr 81] [some (vr 81)] M1 Q := fun n' s1 all hn hs1 hca => by
          have hl : p1 < N := chL_lt (t := t) (by omega)
          rw [chL_at hl] at hc
          refine pw_X12_readsCondition_102 _ s1 M1 fun n2 h2 => gMB (PC_lands (f_lands all hs1 W q1 M1 n2 _ I1 fun M2 I2 => p_hereM h12 ht I2 fun c2 hc2 => cI_i ?_))
          rw [chL_at hl] at hc2
          have hcW := landI_k cndW all (fun w W z _ => z.tl) W q1 hW
          have hcB := landI_k bot all (fun w W z hz => bot_d z (by omega)) W q1 hB
          have hq := I2.2.2.2.1.2.1
          have jm : ∀ a : Int, a = 11 ∧ all = false ∨ a = 12 ∧ all = true → PC sc n2 m_X12_jumps [vr 81, vi a] M2 (fun _ M4 => PW sc n2 m_X12_readsCondition 22 [] [some (vr 81)] M4 Q) := fun a ha => f_jumps I2 (by omega) hl fun M3 I3 => by
            have hcop : cop (1048576 * a + ((landI all W q1).2.1 : Int)) = a := cop_mk (by omega)
            refine (ih n2 (by omega) _ _ (p1 + 1) M3 (hcW.cn (by omega)) (.inr hcB) (by omega) I3).1 (ho.trans (outL_go hl ?_))
            show ztR W q1 cl2 (t p1) p1 = _
            unfold ztR
            rw [hid]
            rcases ha with ⟨ha, hal⟩ | ⟨ha, hal⟩
            · subst hal ha
              rw [if_neg (by omega), if_pos (by
                rcases hca with z | z
                · omega
                · cases z.1)]
            · subst hal ha
              rw [if_neg (by
                rcases hca with z | z
                · cases z.1
                · omega), if_neg (by
                rcases hca with z | z
                · cases z.1
                · omega), if_pos (by
                rcases hca with z | z
                · cases z.1
                · omega)]
          refine brP (fun h => jm 12 (.inr ⟨rfl, ?_⟩)) fun h => jm 11 (.inl ⟨rfl, ?_⟩)
          · rcases hca with z | z
            · omega
            · exact z.1
          · rcases hca with z | z
            · exact z.1
            · omega
        refine brP (fun h41 => p_hereM h12 ht I1 fun c2 hc2 => cI_i ?_) fun h41 => ?_
        · have hcc : c2 = c := hc2.trans hc.symm
          subst hcc
          refine brP (fun h38 => p_hereM h12 ht I1 fun c3 hc3 => cI_i (brT (by omega) (e102 n1 0 false h1 rfl (.inl ⟨rfl, h38⟩)))) fun h38 => p_hereM h12 ht I1 fun c3 hc3 => cI_i (brP (fun h124 => p_hereM h12 ht I1 fun c4 hc4 => cI_i (brF (by omega) (e102 n1 1 true h1 (by decide) (.inr ⟨rfl, by omega⟩)))) fun h124 => ?_)
          refine p_wrongM I1 (by decide) fun M3 X z hz => cI_i (gMB (k0 _ M3 (ho.trans ?_) X z hz))
          by_cases hl : p1 < N
          · refine outL_no hl ?_
            rw [chL_at hl] at hc
            exact ztR_bad _ _ _ _ (by omega) (by omega) (by omega)
          · exact outL_end (by omega) (by show (4 : Nat) ≠ 6; decide)
        · have h41 := Classical.not_not.mp h41
          have hl : p1 < N := chL_lt (t := t) (by omega)
          rw [chL_at hl] at hc
          refine PC_lands (f_lands true (by decide) W q1 M1 n1 _ I1 fun M2 I2 => ?_)
          have hcW := landI_k cndW true (fun w W z _ => z.tl) W q1 hW
          have hcB := landI_k bot true (fun w W z hz => bot_d z (by omega)) W q1 hB
          have hct := landI_top W q1
          have hstep : ∀ S2, stepL (zsR W q1 cl2) (t p1) p1 = S2 ↔ (match (landI true W q1).1 with
            | [] => flt 1 p1
            | w :: W2 => match W2 with
              | [] => .inr (zsD (landI true W q1).2 (cl2.1 + 1, cl2.2.1, cl2.2.2.1, cl2.2.2.2.1, upF cl2.2.2.2.2 cl2.1 (landI true W q1).2.1))
              | w2 :: W3 => .inr (zsR (w2 :: W3) (landI true W q1).2 cl2)) = S2 := fun S2 => by
            show ztR W q1 cl2 (t p1) p1 = S2 ↔ _
            unfold ztR
            rw [hid, if_pos (by omega)]
            exact Iff.rfl
          generalize landI true W q1 = LI at *
          obtain ⟨LW, Lq⟩ := LI
          cases LW with
          | nil => exact hcB.elim
          | cons w W2 =>
            have hcw : cop w ≠ 11 ∧ cop w ≠ 12 := hct
            have hcw2 := hcW w (.head _)
            have I2 : xlI N p1 (w :: W2) Lq M0 M2 := I2
            have hb2 := I2.2.2.2.2
            have hl2 : (w :: W2).length = W2.length + 1 := rfl
            have ho2 : opn (w :: W2) = opn W2 + 1 := by rw [opn_c, if_pos (by omega)]
            rw [I2.2.1.2.2, I2.2.1.2.1, I2.2.1.1, hl2, ho2, show w32 ((W2.length + 1 : Nat) - 1) = (W2.length : Int) from (ew32 (by omega) (by omega)).trans (by omega), show w32 ((opn W2 + 1 : Nat) - 1) = (opn W2 : Int) from (ew32 (by omega) (by omega)).trans (by omega), show w32 ((p1 : Int) + 1) = ((p1 + 1 : Nat) : Int) from ew32 (by omega) (by omega)]
            have I3 := (I2.popo (by omega) rfl rfl).pl hl rfl
            cases W2 with
            | nil =>
              refine brF (fun z => z rfl) (k1 Lq (p1 + 1) _ (ho.trans (outL_go hl ((hstep _).mpr ?_))) (by omega) I3 1 rfl)
              rw [hcl2]
            | cons w2 W3 =>
              have hB3 : bot (w2 :: W3) := bot_n hcB
              have hW3 : cndW (w2 :: W3) := hcW.tl
              refine brT (by show ((W3.length + 1 : Nat) : Int) ≠ 0; omega) (PC_ends (f_endsL _ _ _ n1 I3 fun M5 I5 => ?_))
              refine (ih n1 h1 _ _ (p1 + 1) M5 (popN_k cndW (fun w W z _ => z.tl) _ _ hW3) (popN_k bot (fun w W z hz => bot_d z (by omega)) _ _ hB3) (by omega) I5).2 (popN_top _ _) ((ho.trans (outL_go hl ((hstep _).mpr rfl))).trans (outL_eq (by show (4 : Nat) ≠ 6; decide) (by show (4 : Nat) ≠ 6; decide) fun hl3 => ?_))
              exact ztR_popN _ _ _ _ _
  refine pc_X12_readsCondition M fun n1 h1 => p_here (t := t) a ((f.2 12 (by decide) (by decide) (by decide) (by decide) (by decide) (by decide)).trans h12) (fun i => by
    rw [f.1 90 (by decide) (by decide) (by decide)]
    exact ht i) (fun h x hx => cI_i (brF (by omega) ?_)) fun h x hx => cI_i ?_
  · rw [a]
    refine p_wrong (by decide) (by omega) fun x hx => cI_i (gMB (k0 _ _ (outL_end h (by show (5 : Nat) ≠ 6; decide)) ⟨f.st (.inr (.inr ⟨rfl, .inr (.inl rfl)⟩)), ?_⟩ x hx))
    rw [stE]
  · have I0 : xlI N p [] q M0 (stM (stM M 81 15 0) 81 17 0) := xlI.z f a c b
    refine brP (fun h40 => ?_) fun h40 => ?_
    · refine f_opens I0 (a := 13) (w := 1048576 * 13) (.inr (.inl rfl)) rfl h (fun h6 => absurd h6 (by decide)) fun _ M1 I1 z hz => cI_i (brT (by omega) ((lp n1 _ q (p + 1) M1 (fun w hw => ?_) ?_ (by omega) I1).1 (outL_go h ?_)))
      · cases hw with
        | head => rw [cop_u]; decide
        | tail _ hw => cases hw
      · exact .inl ⟨rfl, cop_u 13⟩
      · show ztO q cl (t p) p = _
        unfold ztO
        rw [if_pos (by omega)]
    · rw [a]
      refine p_wrong (by decide) (by omega) fun y hy => cI_i (gMB (k0 (-1000 * 1 - (p : Int)) _ (outL_no h ?_) ⟨f.st (.inr (.inr ⟨rfl, .inr (.inl rfl)⟩)), stE⟩ y hy))
      show ztO q cl (t p) p = _
      unfold ztO
      rw [if_neg (by omega)]
      rfl
end LRU
