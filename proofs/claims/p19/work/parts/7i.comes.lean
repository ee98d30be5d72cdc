/-! PART 7i: the reference's codes, runs that end: comesTo, byLaw, feels -/
theorem pc_X12_comesTo {sc : List Int} {n : Nat} {Q : Vv → MM → Prop} (v1 : Int) (v2 : Int) (M : MM) (h : ∀ n1, n1 < n → PW sc n1 m_X12_comesTo 10 [] [some (vr 81), some (vi v1), some (vi v2), some (vi 0), some (vi (w32 (260 * (w32 (Int.tdiv v1 260))))), some (vi v1), none, none] M Q) : PC sc n m_X12_comesTo [vr 81, vi v1, vi v2] M Q := pc_go rfl (fun j => Nat.beq j 10 || Nat.beq j 36 || Nat.beq j 77 || Nat.beq j 89 || Nat.beq j 117) 146 h
theorem pw_X12_comesTo_10 {sc : List Int} {n : Nat} {Q : Vv → MM → Prop} (v1 : Int) (v2 : Int) (v3 : Int) (v4 : Int) (v5 : Int) (o6 : Option Vv) (o7 : Option Vv) (M : MM) (h : ∀ n1, n1 < n → brA (decide (v2 ≤ v5))
  (Q (vi (M 108 0)) M)
  (gIm (decide (0 ≤ v5) && decide (v5 < 260)) (gIm (decide (0 ≤ v5) && decide (v5 < 260)) (brA (decide ((w32 (Int.tdiv (M 97 v5.toNat) 1048576)) = 0))
   (PW sc n1 m_X12_comesTo 36 [] [some (vr 81), some (vi v1), some (vi v2), some (vi v3), some (vi v4), some (vi (w32 (v5 + 1))), some (vi (w32 (Int.tdiv (M 97 v5.toNat) 1048576))), some (vi (Int.tmod (M 97 v5.toNat) 1048576))] M Q)
   (brA (decide ((w32 (Int.tdiv (M 97 v5.toNat) 1048576)) ≠ 1))
    (brA (decide ((w32 (Int.tdiv (M 97 v5.toNat) 1048576)) ≠ 10))
     (brA (decide ((w32 (Int.tdiv (M 97 v5.toNat) 1048576)) = 11))
      (PW sc n1 m_X12_comesTo 77 [] [some (vr 81), some (vi v1), some (vi v2), some (vi v3), some (vi v4), some (vi (w32 (v5 + 1))), some (vi (w32 (Int.tdiv (M 97 v5.toNat) 1048576))), some (vi (Int.tmod (M 97 v5.toNat) 1048576))] M Q)
      (brA (decide ((w32 (Int.tdiv (M 97 v5.toNat) 1048576)) ≠ 12))
       (brA (decide ((w32 (Int.tdiv (M 97 v5.toNat) 1048576)) = 5))
        (gIm (decide (0 ≤ (w32 (v3 - 1))) && decide ((w32 (v3 - 1)) < 260)) (brA (decide ((M 108 (w32 (v3 - 1)).toNat) ≠ 0))
         (PW sc n1 m_X12_comesTo 117 [] [some (vr 81), some (vi v1), some (vi v2), some (vi (w32 (v3 - 1))), some (vi v4), some (vi (w32 (v5 + 1))), some (vi (w32 (Int.tdiv (M 97 v5.toNat) 1048576))), some (vi (Int.tmod (M 97 v5.toNat) 1048576))] M Q)
         (Q (vi 0) M)))
        (brA (decide ((w32 (Int.tdiv (M 97 v5.toNat) 1048576)) ≠ 6))
         (PW sc n1 m_X12_comesTo 117 [] [some (vr 81), some (vi v1), some (vi v2), some (vi (w32 (v3 - 1))), some (vi v4), some (vi (w32 (v5 + 1))), some (vi (w32 (Int.tdiv (M 97 v5.toNat) 1048576))), some (vi (Int.tmod (M 97 v5.toNat) 1048576))] M Q)
         (gIm (decide (0 ≤ (w32 (v3 - 1))) && decide ((w32 (v3 - 1)) < 260)) (brA (decide ((M 108 (w32 (v3 - 1)).toNat) ≠ 0))
          (PW sc n1 m_X12_comesTo 117 [] [some (vr 81), some (vi v1), some (vi v2), some (vi (w32 (v3 - 1))), some (vi v4), some (vi (w32 (v5 + 1))), some (vi (w32 (Int.tdiv (M 97 v5.toNat) 1048576))), some (vi (Int.tmod (M 97 v5.toNat) 1048576))] M Q)
          (Q (vi 0) M)))))
       (PW sc n1 m_X12_comesTo 77 [] [some (vr 81), some (vi v1), some (vi v2), some (vi v3), some (vi v4), some (vi (w32 (v5 + 1))), some (vi (w32 (Int.tdiv (M 97 v5.toNat) 1048576))), some (vi (Int.tmod (M 97 v5.toNat) 1048576))] M Q)))
     (gIm (decide (0 ≤ (w32 (v3 - 1))) && decide ((w32 (v3 - 1)) < 260)) (gIm (decide (0 ≤ (w32 (v3 - 1))) && decide ((w32 (v3 - 1)) < 260)) (PW sc n1 m_X12_comesTo 10 [] [some (vr 81), some (vi v1), some (vi v2), some (vi v3), some (vi v4), some (vi (w32 (v5 + 1))), some (vi (w32 (Int.tdiv (M 97 v5.toNat) 1048576))), some (vi (Int.tmod (M 97 v5.toNat) 1048576))] (stM M 108 ((w32 (v3 - 1)).toNat) (w32 (1 - (M 108 (w32 (v3 - 1)).toNat)))) Q))))
    (PW sc n1 m_X12_comesTo 36 [] [some (vr 81), some (vi v1), some (vi v2), some (vi v3), some (vi v4), some (vi (w32 (v5 + 1))), some (vi (w32 (Int.tdiv (M 97 v5.toNat) 1048576))), some (vi (Int.tmod (M 97 v5.toNat) 1048576))] M Q)))))) : PW sc n m_X12_comesTo 10 [] [some (vr 81), some (vi v1), some (vi v2), some (vi v3), some (vi v4), some (vi v5), o6, o7] M Q := pw_go rfl (fun j => Nat.beq j 10 || Nat.beq j 36 || Nat.beq j 77 || Nat.beq j 89 || Nat.beq j 117) 146 h
theorem pw_X12_comesTo_36 {sc : List Int} {n : Nat} {Q : Vv → MM → Prop} (v1 : Int) (v2 : Int) (v3 : Int) (v4 : Int) (v5 : Int) (v6 : Int) (v7 : Int) (M : MM) (h : ∀ n1, n1 < n → brA (decide (v6 ≠ 0))
  (gIm (decide (0 ≤ v7) && decide (v7 < 10)) (gIm (decide (0 ≤ v3) && decide (v3 < 260)) (PW sc n1 m_X12_comesTo 10 [] [some (vr 81), some (vi v1), some (vi v2), some (vi (w32 (v3 + 1))), some (vi v4), some (vi v5), some (vi v6), some (vi v7)] (stM M 108 (v3.toNat) (M 109 v7.toNat)) Q)))
  (gIm (decide (0 ≤ v3) && decide (v3 < 260)) (PW sc n1 m_X12_comesTo 10 [] [some (vr 81), some (vi v1), some (vi v2), some (vi (w32 (v3 + 1))), some (vi v4), some (vi v5), some (vi v6), some (vi v7)] (stM M 108 (v3.toNat) v7) Q))) : PW sc n m_X12_comesTo 36 [] [some (vr 81), some (vi v1), some (vi v2), some (vi v3), some (vi v4), some (vi v5), some (vi v6), some (vi v7)] M Q := pw_go rfl (fun j => Nat.beq j 10 || Nat.beq j 36 || Nat.beq j 77 || Nat.beq j 89 || Nat.beq j 117) 146 h
theorem pw_X12_comesTo_77 {sc : List Int} {n : Nat} {Q : Vv → MM → Prop} (v1 : Int) (v2 : Int) (v3 : Int) (v4 : Int) (v5 : Int) (v6 : Int) (v7 : Int) (M : MM) (h : ∀ n1, n1 < n → gIm (decide (0 ≤ (w32 (v3 - 1))) && decide ((w32 (v3 - 1)) < 260)) (brA (decide (v6 ≠ 12))
  (PW sc n1 m_X12_comesTo 89 [vi 0, vi (M 108 (w32 (v3 - 1)).toNat)] [some (vr 81), some (vi v1), some (vi v2), some (vi v3), some (vi v4), some (vi v5), some (vi v6), some (vi v7)] M Q)
  (PW sc n1 m_X12_comesTo 89 [vi 1, vi (M 108 (w32 (v3 - 1)).toNat)] [some (vr 81), some (vi v1), some (vi v2), some (vi v3), some (vi v4), some (vi v5), some (vi v6), some (vi v7)] M Q))) : PW sc n m_X12_comesTo 77 [] [some (vr 81), some (vi v1), some (vi v2), some (vi v3), some (vi v4), some (vi v5), some (vi v6), some (vi v7)] M Q := pw_go rfl (fun j => Nat.beq j 10 || Nat.beq j 36 || Nat.beq j 77 || Nat.beq j 89 || Nat.beq j 117) 146 h
theorem pw_X12_comesTo_89 {sc : List Int} {n : Nat} {Q : Vv → MM → Prop} (v1 : Int) (v2 : Int) (v3 : Int) (v4 : Int) (v5 : Int) (v6 : Int) (v7 : Int) (s0 : Int) (s1 : Int) (M : MM) (h : ∀ n1, n1 < n → brA (decide (s0 ≠ s1))
  (PW sc n1 m_X12_comesTo 10 [] [some (vr 81), some (vi v1), some (vi v2), some (vi (w32 (v3 - 1))), some (vi v4), some (vi v5), some (vi v6), some (vi v7)] M Q)
  (PW sc n1 m_X12_comesTo 10 [] [some (vr 81), some (vi v1), some (vi v2), some (vi v3), some (vi v4), some (vi (w32 (v4 + v7))), some (vi v6), some (vi v7)] M Q)) : PW sc n m_X12_comesTo 89 [vi s1, vi s0] [some (vr 81), some (vi v1), some (vi v2), some (vi v3), some (vi v4), some (vi v5), some (vi v6), some (vi v7)] M Q := pw_go rfl (fun j => Nat.beq j 10 || Nat.beq j 36 || Nat.beq j 77 || Nat.beq j 89 || Nat.beq j 117) 146 h
theorem pw_X12_comesTo_117 {sc : List Int} {n : Nat} {Q : Vv → MM → Prop} (v1 : Int) (v2 : Int) (v3 : Int) (v4 : Int) (v5 : Int) (v6 : Int) (v7 : Int) (M : MM) (h : ∀ n1, n1 < n → gIm (decide (0 ≤ (w32 (v3 - 1))) && decide ((w32 (v3 - 1)) < 260)) (gIm (decide (0 ≤ v3) && decide (v3 < 260)) (PC sc n1 m_X12_reckon [vi v6, vi (M 108 (w32 (v3 - 1)).toNat), vi (M 108 v3.toNat)] M (cI fun r2 M1 =>
  gIm (decide (0 ≤ (w32 (v3 - 1))) && decide ((w32 (v3 - 1)) < 260)) (PW sc n1 m_X12_comesTo 10 [] [some (vr 81), some (vi v1), some (vi v2), some (vi v3), some (vi v4), some (vi v5), some (vi v6), some (vi v7)] (stM M1 108 ((w32 (v3 - 1)).toNat) r2) Q))))) : PW sc n m_X12_comesTo 117 [] [some (vr 81), some (vi v1), some (vi v2), some (vi v3), some (vi v4), some (vi v5), some (vi v6), some (vi v7)] M Q := pw_go rfl (fun j => Nat.beq j 10 || Nat.beq j 36 || Nat.beq j 77 || Nat.beq j 89 || Nat.beq j 117) 146 h
theorem pc_X12_reckon {sc : List Int} {n : Nat} {Q : Vv → MM → Prop} (v0 : Int) (v1 : Int) (v2 : Int) (M : MM) (h : ∀ n1, n1 < n → (v0 = 2 → Q (vi (w32 (v1 + v2))) M) ∧
  (v0 ≠ 2 → (v0 = 3 → Q (vi (w32 (v1 - v2))) M) ∧
  (v0 ≠ 3 → (v0 = 4 → Q (vi (w32 (v1 * v2))) M) ∧
  (v0 ≠ 4 → (v0 = 5 → gIm (decide (v2 ≠ 0)) (Q (vi (w32 (Int.tdiv v1 v2))) M)) ∧
  (v0 ≠ 5 → (v0 = 6 → gIm (decide (v2 ≠ 0)) (Q (vi (Int.tmod v1 v2)) M)) ∧
  (v0 ≠ 6 → (v0 = 7 → brA (decide (v2 ≤ v1))
   (Q (vi 0) M)
   (Q (vi 1) M)) ∧
  (v0 ≠ 7 → (v0 = 8 → brA (decide (v1 ≤ v2))
   (Q (vi 0) M)
   (Q (vi 1) M)) ∧
  (v0 ≠ 8 → brA (decide (v1 ≠ v2))
   (Q (vi 0) M)
   (Q (vi 1) M))))))))) : PC sc n m_X12_reckon [vi v0, vi v1, vi v2] M Q := pc_go rfl (fun j => false) 48 h
theorem pc_X12_byLaw {sc : List Int} {n : Nat} {Q : Vv → MM → Prop} (v1 : Int) (v2 : Int) (M : MM) (h : ∀ n1, n1 < n → PW sc n1 m_X12_byLaw 2 [] [some (vr 81), some (vi v1), some (vi v2), some (vi 0), none] M Q) : PC sc n m_X12_byLaw [vr 81, vi v1, vi v2] M Q := pc_go rfl (fun j => Nat.beq j 2) 56 h
theorem pw_X12_byLaw_2 {sc : List Int} {n : Nat} {Q : Vv → MM → Prop} (v1 : Int) (v2 : Int) (v3 : Int) (o4 : Option Vv) (M : MM) (h : ∀ n1, n1 < n → brA (decide ((M 81 19) ≤ v3))
  (Q (vi 0) M)
  (gIm (decide (0 ≤ v3) && decide (v3 < 16)) (brA (decide ((M 98 v3.toNat) ≠ v1))
   (PW sc n1 m_X12_byLaw 2 [] [some (vr 81), some (vi v1), some (vi v2), some (vi (w32 (v3 + 1))), o4] M Q)
   (gIm (decide (0 ≤ v3) && decide (v3 < 16)) (gIm (decide (0 ≤ v3) && decide (v3 < 16)) (PC sc n1 m_X12_comesTo [vr 81, vi (M 100 v3.toNat), vi (M 101 v3.toNat)] M (cI fun r2 M1 =>
    brA (decide (r2 = 1))
     (gIm (decide (0 ≤ v3) && decide (v3 < 16)) (gIm (decide (0 ≤ v3) && decide (v3 < 16)) (PC sc n1 m_X12_comesTo [vr 81, vi (M1 99 v3.toNat), vi (M1 100 v3.toNat)] M1 (cI fun r4 M3 =>
      brA (decide (0 ≤ r4))
       (brA (decide (r4 ≤ v2))
        (Q (vi r4) M3)
        (Q (vi v2) M3))
       (Q (vi 0) M3)))))
     (PW sc n1 m_X12_byLaw 2 [] [some (vr 81), some (vi v1), some (vi v2), some (vi (w32 (v3 + 1))), o4] M1 Q)))))))) : PW sc n m_X12_byLaw 2 [] [some (vr 81), some (vi v1), some (vi v2), some (vi v3), o4] M Q := pw_go rfl (fun j => Nat.beq j 2) 56 h
theorem pc_X12_feels {sc : List Int} {n : Nat} {Q : Vv → MM → Prop} (v1 : Int) (v2 : Int) (M : MM) (h : ∀ n1, n1 < n → PW sc n1 m_X12_feels 2 [] [some (vr 81), some (vi v1), some (vi v2), some (vi 0)] M Q) : PC sc n m_X12_feels [vr 81, vi v1, vi v2] M Q := pc_go rfl (fun j => Nat.beq j 2) 35 h
theorem pw_X12_feels_2 {sc : List Int} {n : Nat} {Q : Vv → MM → Prop} (v1 : Int) (v2 : Int) (v3 : Int) (M : MM) (h : ∀ n1, n1 < n → brA (decide (10 ≤ v3))
  (Q (vi 0) (stM (stM (stM M 109 0 v1) 109 7 v2) 109 8 (Int.tmod v2 7)))
  (gIm (decide (0 ≤ v3) && decide (v3 < 10)) (PW sc n1 m_X12_feels 2 [] [some (vr 81), some (vi v1), some (vi v2), some (vi (w32 (v3 + 1)))] (stM M 109 (v3.toNat) 0) Q))) : PW sc n m_X12_feels 2 [] [some (vr 81), some (vi v1), some (vi v2), some (vi v3)] M Q := pw_go rfl (fun j => Nat.beq j 2) 35 h
section CVM
variable {sc : List Int} {Q : Vv → MM → Prop}
set_option maxRecDepth 20000 in
theorem p_reckonM {op x y : Int} {n : Nat} {M : MM} (h : (op = 5 ∨ op = 6) → y ≠ 0) (k : Q (vi (cvR op x y)) M) : PC sc n m_X12_reckon [vi op, vi x, vi y] M Q := PC.of (s_reckon (d := 1) op x y M h k)
set_option maxRecDepth 20000 in
theorem cv_pw {C Fc : Nat → Int} {dp : Nat → Nat} {a b : Nat} {M0 : MM} (v1 : Int) (hb : b ≤ 260) (hd : dp b = 1) (hk : ∀ k, a ≤ k → k < b → cvK C dp b k) (hle : ∀ n, a + n ≤ b → dp (a + n) ≤ n) (hC : ∀ j, M0 97 j = C j) (hCr : ∀ k, a ≤ k → k < b → C k ≤ 2147483647) (hF : ∀ j, j < 10 → M0 109 j = Fc j) : ∀ (n k : Nat) (st : List Int) (o6 o7 : Option Vv) (M : MM) (nf : Nat), b - k < n → a ≤ k → k ≤ b → st.length = dp k → cvS M st → (∀ c, c ≠ 108 → M c = M0 c) → (∀ M1, (∀ c, c ≠ 108 → M1 c = M0 c) → Q (vi (ev C Fc n k b st)) M1) → PW sc nf m_X12_comesTo 10 [] [some (vr 81), some (vi v1), some (vi (b : Int)), some (vi (st.length : Int)), some (vi 0), some (vi (k : Int)), o6, o7] M Q := by
  intro n
  induction n with
  | zero => intro k st o6 o7 M nf h; omega
  | succ n ih =>
    intro k st o6 o7 M nf hn hak hkb hlen hS hM kq
    refine pw_X12_comesTo_10 v1 _ _ 0 _ o6 o7 M fun n1 _ => brP (fun hbk => ?_) fun hbk => ?_
    · have hbk2 : b ≤ k := by omega
      have hkb2 : k = b := by omega
      have e : ev C Fc (n + 1) k b st = cvB st := by
        unfold ev
        rw [if_pos hbk2]
      rw [e] at kq
      have hl1 : st.length = 1 := by rw [hlen, hkb2, hd]
      have hb0 := cvS_bot hS (by omega)
      rw [hb0]
      exact kq M hM
    · have hbk2 : k < b := by omega
      have hkk := hk k hak hbk2
      unfold cvK at hkk
      have c0 := hkk.1
      have hc := hkk.2
      clear hkk
      have hdk := hle (k - a) (by omega)
      rw [show a + (k - a) = k by omega] at hdk
      have v0 : 0 ≤ C k % 1048576 ∧ C k % 1048576 < 1048576 := ⟨Int.emod_nonneg _ (by decide), Int.emod_lt_of_pos _ (by decide)⟩
      have kt : ((k : Int)).toNat = k := by omega
      have eC : M 97 ((k : Int)).toNat = C k := by rw [kt, hM 97 (by decide), hC]
      rw [eC]
      have eo : w32 (Int.tdiv (C k) 1048576) = C k / 1048576 := etdiv c0 (hCr k hak hbk2) (by decide)
      have em : Int.tmod (C k) 1048576 = C k % 1048576 := etmod c0
      rw [eo, em]
      clear eo em eC c0
      have eu := ev_succ C Fc n k b st
      rw [if_neg (by omega)] at eu
      generalize C k / 1048576 = op at eu hc ⊢
      generalize C k % 1048576 = v at eu hc v0 ⊢
      have ek : w32 ((k : Int) + 1) = ((k + 1 : Nat) : Int) := by rw [ew32 (by omega) (by omega)]; rfl
      rw [ek]
      clear ek
      have hpush : ∀ v, ∀ M1 : MM, cvS M1 st → (∀ c, c ≠ 108 → M1 c = M0 c) → dp (k + 1) = dp k + 1 → (ev C Fc (n + 1) k b st = ev C Fc n (k + 1) b (v :: st)) → ∀ (w6 w7 : Vv) (nf : Nat), PW sc nf m_X12_comesTo 10 [] [some (vr 81), some (vi v1), some (vi (b : Int)), some (vi (w32 ((st.length : Int) + 1))), some (vi 0), some (vi ((k + 1 : Nat) : Int)), some w6, some w7] (stM M1 108 ((st.length : Int)).toNat v) Q := by
        intro v M1 S1 hM1 hdp he w6 w7 nf
        have slt : ((st.length : Int)).toNat = st.length := by omega
        have el : w32 ((st.length : Int) + 1) = ((st.length + 1 : Nat) : Int) := by rw [ew32 (by omega) (by omega)]; rfl
        rw [el, slt]
        clear el
        exact ih (k + 1) (v :: st) _ _ _ nf (by omega) (by omega) (by omega) (by rw [hdp, ← hlen]; rfl) (cvS_push S1) (fun c hc => (stK hc).trans (hM1 c hc)) (by rw [← he]; exact kq)
      refine gMB (gMB ?_)
      rcases hc with ⟨q0, q1⟩ | ⟨q0, q1, q2⟩ | ⟨q0, q1, q2⟩ | ⟨q0, q1, q2, q3, q4, q5⟩ | ⟨q0, q1, q2⟩
      · rw [if_pos q0] at eu
        refine brT q0 (pw_X12_comesTo_36 v1 _ _ 0 _ _ _ M fun n2 _ => brF (by omega) (gMB ?_))
        exact hpush _ M hS hM q1 eu _ _ _
      · rw [if_neg (by omega), if_pos q0] at eu
        refine brF (by omega) (brF (by omega) (pw_X12_comesTo_36 v1 _ _ 0 _ _ _ M fun n2 _ => brT (by omega) (gMB (gMB ?_))))
        have ef : M 109 (v).toNat = Fc (v).toNat := by rw [hM 109 (by decide), hF _ (by omega)]
        rw [ef]
        exact hpush _ M hS hM q2 eu _ _ _
      · rw [if_neg (by omega), if_neg (by omega), if_pos q0] at eu
        refine brF (by omega) (brT (by omega) (brF (by omega) ?_))
        cases st with
        | nil => rw [← hlen] at q1; exact absurd q1 (by decide)
        | cons x r =>
          have e1 : w32 (((x :: r).length : Int) - 1) = (r.length : Int) := by
            have : (x :: r).length = r.length + 1 := rfl
            rw [this, ew32 (by omega) (by omega)]
            omega
          have hl1 : (x :: r).length = r.length + 1 := rfl
          rw [e1]
          clear e1
          have rt : ((r.length : Int)).toNat = r.length := by omega
          refine gMB (gMB ?_)
          rw [rt, hS.1]
          have eu2 : ev C Fc (n + 1) k b (x :: r) = ev C Fc n (k + 1) b (w32 (1 - x) :: r) := eu
          rw [eu2] at kq
          clear eu2
          exact ih (k + 1) (w32 (1 - x) :: r) _ _ _ _ (by omega) (by omega) (by omega) (by rw [q2, ← hlen]; rfl) (cvS_push hS.2) (fun c hc => (stK hc).trans (hM c hc)) kq
      · rw [if_neg (by omega), if_neg (by omega), if_neg (by omega), if_pos q0] at eu
        cases st with
        | nil => rw [← hlen] at q1; exact absurd q1 (by decide)
        | cons x r =>
          have hl1 : (x :: r).length = r.length + 1 := rfl
          have e1 : ∀ _ : Unit, w32 (((x :: r).length : Int) - 1) = (r.length : Int) := fun _ => by
            rw [hl1, ew32 (by omega) (by omega)]
            omega
          have rt : ((r.length : Int)).toNat = r.length := by omega
          have h77 : ∀ nf : Nat, PW sc nf m_X12_comesTo 77 [] [some (vr 81), some (vi v1), some (vi (b : Int)), some (vi ((x :: r).length : Int)), some (vi 0), some (vi ((k + 1 : Nat) : Int)), some (vi op), some (vi v)] M Q := by
            intro nf
            have h89 : ∀ (t : Int) (nf : Nat), t = (if op = 12 then 1 else 0) → PW sc nf m_X12_comesTo 89 [vi t, vi x] [some (vr 81), some (vi v1), some (vi (b : Int)), some (vi ((x :: r).length : Int)), some (vi 0), some (vi ((k + 1 : Nat) : Int)), some (vi (op)), some (vi (v))] M Q := by
              intro t nf ht
              refine pw_X12_comesTo_89 v1 _ _ 0 _ _ _ x t M fun n2 _ => brP (fun g => ?_) fun g => ?_
              · rw [e1 ()]
                have eu2 : ev C Fc (n + 1) k b (x :: r) = ev C Fc n (k + 1) b r := by
                  rw [eu]
                  show (if x = (if op = 12 then 1 else 0) then _ else _) = _
                  rw [if_neg (by rw [← ht]; omega)]
                exact ih (k + 1) r _ _ _ _ (by omega) (by omega) (by omega) (by omega) hS.2 hM (by rw [← eu2]; exact kq)
              · have g := Classical.not_not.mp g
                have eu2 : ev C Fc (n + 1) k b (x :: r) = ev C Fc n (v).toNat b (x :: r) := by
                  rw [eu]
                  show (if x = (if op = 12 then 1 else 0) then _ else _) = _
                  rw [if_pos (by rw [← ht]; omega)]
                have e5 : w32 (0 + v) = (((v).toNat : Nat) : Int) := by
                  rw [ew32 (by omega) (by omega)]
                  omega
                rw [e5]
                exact ih (v).toNat (x :: r) _ _ _ _ (by omega) (by omega) (by omega) (by rw [q5, ← hlen]) hS hM (by rw [← eu2]; exact kq)
            refine pw_X12_comesTo_77 v1 _ _ 0 _ _ _ M fun n2 _ => ?_
            rw [e1 ()]
            refine gMB ?_
            rw [rt, hS.1]
            refine brP (fun g => h89 0 _ (by rw [if_neg g])) fun g => h89 1 _ (by rw [if_pos (Classical.not_not.mp g)])
          refine brF (by omega) (brT (by omega) (brT (by omega) (brP (fun _ => h77 _) fun g11 => brF (by omega) (h77 _))))
      · rw [if_neg (by omega), if_neg (by omega), if_neg (by omega), if_neg (by omega)] at eu
        match st, hlen, hS, kq, eu with
        | [], hlen, _, _, _ => rw [← hlen] at q1; exact absurd q1 (by decide)
        | [x], hlen, _, _, _ =>
          have h1 : ([x] : List Int).length = 1 := rfl
          omega
        | y :: x :: r, hlen, hS, kq, eu =>
          have hl1 : (y :: x :: r).length = r.length + 2 := rfl
          have e1 : w32 (((y :: x :: r).length : Int) - 1) = ((r.length + 1 : Nat) : Int) := by
            rw [hl1, ew32 (by omega) (by omega)]
            omega
          rw [e1]
          clear e1
          have e2 : ∀ _ : Unit, w32 (((r.length + 1 : Nat) : Int) - 1) = (r.length : Int) := fun _ => by
            rw [ew32 (by omega) (by omega)]
            omega
          have rt : (((r.length + 1 : Nat) : Int)).toNat = r.length + 1 := by omega
          have rt2 : ((r.length : Int)).toNat = r.length := by omega
          have ey : M 108 (r.length + 1) = y := hS.1
          have ex : M 108 r.length = x := hS.2.1
          have h117 : ∀ nf : Nat, ((op = 5 ∨ op = 6) → y ≠ 0) → PW sc nf m_X12_comesTo 117 [] [some (vr 81), some (vi v1), some (vi (b : Int)), some (vi ((r.length + 1 : Nat) : Int)), some (vi 0), some (vi ((k + 1 : Nat) : Int)), some (vi (op)), some (vi (v))] M Q := by
            intro nf hy
            refine pw_X12_comesTo_117 v1 _ _ 0 _ _ _ M fun n2 _ => ?_
            rw [e2 (), rt, rt2, ex, ey]
            refine gMB (gMB (p_reckonM hy (gMB ?_)))
            have eu2 : ev C Fc (n + 1) k b (y :: x :: r) = ev C Fc n (k + 1) b (cvR (op) x y :: r) := by
              rw [eu]
              show (if (op = 5 ∨ op = 6) ∧ y = 0 then _ else _) = _
              rw [if_neg (fun q => hy q.1 q.2)]
            refine ih (k + 1) (cvR (op) x y :: r) _ _ _ _ (by omega) (by omega) (by omega) ?_ (cvS_push hS.2.2) (fun c hc => (stK hc).trans (hM c hc)) (by rw [← eu2]; exact kq)
            show r.length + 1 = dp (k + 1)
            omega
          have hq0 : y = 0 → (op = 5 ∨ op = 6) → Q (vi 0) M := by
            intro hy ho
            have eu2 : ev C Fc (n + 1) k b (y :: x :: r) = 0 := by
              rw [eu]
              show (if (op = 5 ∨ op = 6) ∧ y = 0 then _ else _) = _
              rw [if_pos ⟨ho, hy⟩]
            rw [eu2] at kq
            exact kq M hM
          refine brF (by omega) (brT (by omega) (brT (by omega) (brF (by omega) (brT (by omega) (brP (fun g5 => ?_) fun g5 => brP (fun g6 => h117 _ (fun q => by omega)) fun g6 => ?_)))))
          · rw [rt, ey]
            exact gMB (brP (fun g => h117 _ (fun _ => g)) fun g => hq0 (Classical.not_not.mp g) (.inl g5))
          · rw [rt, ey]
            exact gMB (brP (fun g => h117 _ (fun _ => g)) fun g => hq0 (Classical.not_not.mp g) (.inr (by omega)))
/- what a piece of THE LAW comes to -/
set_option maxRecDepth 20000 in
theorem f_comesToM {M : MM} {a b n : Nat} {Fc : Nat → Int} (hG : cvG (M 97) a b) (hr : ∀ k, k < b → M 97 k ≤ 2147483647) (hF : ∀ j, j < 10 → M 109 j = Fc j) (k : ∀ M1, (∀ c, c ≠ 108 → M1 c = M c) → Q (vi (ev (M 97) Fc 261 a b [])) M1) : PC sc n m_X12_comesTo [vr 81, vi (a : Int), vi (b : Int)] M Q := by
  obtain ⟨hab, hb, dp, h0, h1, hk⟩ := hG
  refine pc_X12_comesTo _ _ M fun n1 _ => ?_
  have e0 : w32 (Int.tdiv (a : Int) 260) = 0 := by
    rw [etdiv (by omega) (by omega) (by decide)]
    omega
  rw [e0]
  have e1 : w32 (260 * 0) = 0 := by decide
  rw [e1]
  exact cv_pw (a : Int) hb h1 hk (cvK_le h0 hk) (fun _ => rfl) (fun k _ k2 => hr k k2) hF 261 a [] none none M n1 (by omega) (Nat.le_refl _) (by omega) h0.symm trivial (fun _ _ => rfl) k
/- codes in range -/
def cdR (M : MM) : Prop := ∀ k, k < 260 → M 97 k ≤ 2147483647
theorem bl_pw (le hi : Int) (hm : le ≠ 109) {M0 : MM} (J : axJ M0) (hr : cdR M0) (h16 : M0 81 19 ≤ 16) {Fc : Nat → Int} (hF : ∀ j, j < 10 → M0 109 j = Fc j) : ∀ (n q : Nat) (o4 : Option Vv) (M : MM) (nf : Nat), q + n = 17 → q ≤ 16 → (∀ c, c ≠ 108 → M c = M0 c) → (∀ M1, (∀ c, c ≠ 108 → M1 c = M0 c) → Q (vi (blv (M0 81 19) (M0 98) (M0 97) (M0 99) (M0 100) (M0 101) Fc le hi n q)) M1) → PW sc nf m_X12_byLaw 2 [] [some (vr 81), some (vi le), some (vi hi), some (vi (q : Int)), o4] M Q := by
  intro n
  induction n with
  | zero => intro q o4 M nf h1 h2; omega
  | succ n ih =>
    intro q o4 M nf hn hq hM k
    have e1 : ∀ _ : Unit, w32 ((q : Int) + 1) = ((q + 1 : Nat) : Int) := fun _ => by rw [ew32 (by omega) (by omega)]; rfl
    have e2 : ((q : Int)).toNat = q := by omega
    have eu := blv_succ (M0 81 19) (M0 98) (M0 97) (M0 99) (M0 100) (M0 101) Fc le hi n q
    refine pw_X12_byLaw_2 le hi _ o4 M fun n1 _ => ?_
    rw [e1 (), e2, hM 81 (by decide), hM 98 (by decide), hM 100 (by decide), hM 101 (by decide)]
    refine brP (fun hc => ?_) fun hc => gMB ?_
    · rw [if_pos (by omega)] at eu
      rw [eu] at k
      exact k M hM
    · rw [if_neg (by omega)] at eu
      refine brP (fun hl => ?_) fun hl => ?_
      · rw [if_pos hl] at eu
        exact ih (q + 1) o4 M n1 (by omega) (by omega) hM (by rw [← eu]; exact k)
      · rw [if_neg hl] at eu
        have hl := Classical.not_not.mp hl
        refine gMB (gMB ?_)
        have hJ := J q (by omega)
        obtain ⟨a, b, ea, eb, hG⟩ := hJ.1
        obtain ⟨a2, b2, ea2, eb2, hG2⟩ := hJ.2 (by rw [hl]; exact hm)
        have ta : ((a : Int)).toNat = a := by omega
        have tb : ((b : Int)).toNat = b := by omega
        have ta2 : ((a2 : Int)).toNat = a2 := by omega
        have tb2 : ((b2 : Int)).toNat = b2 := by omega
        have h97 : M 97 = M0 97 := hM 97 (by decide)
        have h109 : M 109 = M0 109 := hM 109 (by decide)
        have eq1 : ev (M0 97) Fc 261 (M0 100 q).toNat (M0 101 q).toNat [] = ev (M 97) Fc 261 a b [] := by rw [ea, eb, ta, tb, h97]
        rw [eq1] at eu
        rw [ea, eb]
        refine f_comesToM (by rw [h97]; exact hG) (by rw [h97]; exact fun k h => hr k (by have := hG.2.1; omega)) (Fc := Fc) (fun j hj => by rw [h109]; exact hF j hj) fun M1 h1 => cI_i ?_
        have hM1 : ∀ c, c ≠ 108 → M1 c = M0 c := fun c hc => (h1 c hc).trans (hM c hc)
        refine brP (fun hev => ?_) fun hev => ?_
        · rw [if_pos hev] at eu
          have h97' : M1 97 = M0 97 := hM1 97 (by decide)
          have h109' : M1 109 = M0 109 := hM1 109 (by decide)
          have eq2 : ev (M0 97) Fc 261 (M0 99 q).toNat (M0 100 q).toNat [] = ev (M1 97) Fc 261 a2 b2 [] := by rw [ea2, eb2, ta2, tb2, h97']
          rw [eq2] at eu
          rw [hM1 99 (by decide), hM1 100 (by decide), ea2, eb2]
          refine gMB (gMB (f_comesToM (by rw [h97']; exact hG2) (by rw [h97']; exact fun k h => hr k (by have := hG2.2.1; omega)) (Fc := Fc) (fun j hj => by rw [h109']; exact hF j hj) fun M2 h2 => cI_i ?_))
          have hM2 : ∀ c, c ≠ 108 → M2 c = M0 c := fun c hc => (h2 c hc).trans (hM1 c hc)
          unfold clipv at eu
          refine brP (fun g0 => brP (fun g1 => ?_) fun g1 => ?_) fun g0 => ?_
          · rw [if_pos g0, if_pos g1] at eu
            rw [eu] at k
            exact k M2 hM2
          · rw [if_pos g0, if_neg g1] at eu
            rw [eu] at k
            exact k M2 hM2
          · rw [if_neg g0] at eu
            rw [eu] at k
            exact k M2 hM2
        · rw [if_neg hev] at eu
          exact ih (q + 1) o4 M1 n1 (by omega) (by omega) hM1 (by rw [← eu]; exact k)
set_option maxRecDepth 20000 in
theorem f_byLawM {le hi : Int} (hm : le ≠ 109) {M : MM} {n : Nat} (J : axJ M) (hr : cdR M) (h16 : M 81 19 ≤ 16) {Fc : Nat → Int} (hF : ∀ j, j < 10 → M 109 j = Fc j) (k : ∀ M1, (∀ c, c ≠ 108 → M1 c = M c) → Q (vi (bl M Fc le hi)) M1) : PC sc n m_X12_byLaw [vr 81, vi le, vi hi] M Q := pc_X12_byLaw le hi M fun n1 _ => bl_pw le hi hm J hr h16 hF 17 0 none M n1 (by omega) (by omega) (fun _ _ => rfl) k
set_option maxRecDepth 20000 in
theorem f_feelsM {h night : Int} {M : MM} {n : Nat} (k : ∀ M1, (∀ c, c ≠ 109 → M1 c = M c) → (∀ j, j < 10 → M1 109 j = Fh h night j) → Q (vi 0) M1) : PC sc n m_X12_feels [vr 81, vi h, vi night] M Q := by
  have lp : ∀ (m i n : Nat) (M1 : MM), i + m = 10 → (∀ c, c ≠ 109 → M1 c = M c) → (∀ j, j < i → M1 109 j = 0) → PW sc n m_X12_feels 2 [] [some (vr 81), some (vi h), some (vi night), some (vi (i : Int))] M1 Q := by
    intro m
    induction m with
    | zero =>
      intro i n M1 hi a1 a2
      have hi : i = 10 := hi
      subst hi
      refine pw_X12_feels_2 _ _ _ M1 fun n1 _ => brT (by decide) (k _ (fun c hc => (stK hc).trans ((stK hc).trans ((stK hc).trans (a1 c hc)))) fun j hj => ?_)
      unfold Fh
      by_cases e8 : j = 8
      · subst e8
        exact stE
      · rw [stO e8, if_neg e8]
        by_cases e7 : j = 7
        · subst e7
          exact stE
        · rw [stO e7, if_neg e7]
          by_cases e0 : j = 0
          · subst e0
            exact stE
          · rw [stO e0, if_neg e0]
            exact a2 j hj
    | succ m ih =>
      intro i n M1 hi a1 a2
      refine pw_X12_feels_2 _ _ _ M1 fun n1 _ => ?_
      rw [show ((i : Int)).toNat = i by omega, show w32 ((i : Int) + 1) = ((i + 1 : Nat) : Int) from ew32 (by omega) (by omega)]
      refine brF (by omega) (gMB (ih (i + 1) n1 _ (by omega) (fun c hc => (stK hc).trans (a1 c hc)) fun j hj => ?_))
      by_cases e : j = i
      · subst e
        exact stE
      · exact (stO e).trans (a2 j (by omega))
  exact pc_X12_feels _ _ M fun n1 _ => lp 10 0 n1 M rfl (fun _ _ => rfl) fun j hj => absurd hj (Nat.not_lt_zero j)
end CVM
