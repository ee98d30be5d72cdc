/-! PART 74h: by hand: hand and ledger, both sides -/
theorem ca_X11_hand {sc : List Int} {d : Nat} {Q : Vv → MM → Prop} (v1 : Int) (v2 : Int) (M : MM) (h : CA FF sc YF d m_X11_isHouse [vi v1] M (cI fun r2 M1 =>
  brA (decide (r2 = 0))
   (Q (vi 0) M1)
   (CA FF sc YF d m_X11_isIn [vi v2, vi 0, vi 255] M1 (cI fun r4 M3 =>
    brA (decide (r4 ≠ 0))
     (gAnd (decide (0 ≤ v1) && decide (v1 < 10)) (Q (vi 1) (stM M3 56 (v1.toNat) v2)))
     (Q (vi 0) M3))))) : CA FF sc YF (d + 1) m_X11_hand [vr 0, vi v1, vi v2] M Q := ca_go rfl rfl (fun j => false) 22 h
theorem ca_X11_ledger {sc : List Int} {d : Nat} {Q : Vv → MM → Prop} (v1 : Int) (v2 : Int) (v3 : Int) (v4 : Int) (M : MM) (h : CA FF sc YF d m_X11_isIn [vi v1, vi 0, vi 255] M (cI fun r2 M1 =>
  brA (decide (r2 = 0))
   (Q (vi ((-1))) M1)
   (CA FF sc YF d m_X11_isIn [vi v2, vi 0, vi 255] M1 (cI fun r4 M3 =>
    brA (decide (r4 ≠ 0))
     (CA FF sc YF d m_X11_isIn [vi v3, vi 0, vi 1023] M3 (cI fun r6 M5 =>
      brA (decide (r6 = 0))
       (Q (vi ((-1))) M5)
       (CA FF sc YF d m_X11_isIn [vi v4, vi 0, vi 1] M5 (cI fun r8 M7 =>
        brA (decide (r8 ≠ 0))
         (CA FF sc YF d m_X11_housesThatFit [vr 0, vi v1, vi v2, vi v3] M7 (cI fun r10 M9 =>
          brA (decide (v4 ≠ 0))
           (brA (decide (r10 ≠ 0))
            (CA FF sc YF d m_X11_markThatTells [vr 0, vi r10] M9 (cI fun r12 M11 =>
             Q (vi r12) M11))
            (Q (vi ((-2))) M9))
           (Q (vi r10) M9)))
         (Q (vi ((-1))) M7)))))
     (Q (vi ((-1))) M3))))) : CA FF sc YF (d + 1) m_X11_ledger [vr 0, vi v1, vi v2, vi v3, vi v4] M Q := ca_go rfl rfl (fun j => false) 47 h
theorem ca_X11_housesThatFit {sc : List Int} {d : Nat} {Q : Vv → MM → Prop} (v1 : Int) (v2 : Int) (v3 : Int) (M : MM) (h : WP FF sc YF (d + 1) m_X11_housesThatFit 4 [] [some (vr 0), some (vi v1), some (vi v2), some (vi v3), some (vi 0), some (vi 0)] M Q) : CA FF sc YF (d + 1) m_X11_housesThatFit [vr 0, vi v1, vi v2, vi v3] M Q := ca_go rfl rfl (fun j => Nat.beq j 4) 39 h
theorem rg_X11_housesThatFit_4 {sc : List Int} {d : Nat} {Q : Vv → MM → Prop} (v1 : Int) (v2 : Int) (v3 : Int) (v4 : Int) (v5 : Int) (M : MM) (h : brA (decide (10 ≤ v5))
  (Q (vi v4) M)
  (CA FF sc YF d m_X11_hasBit [vi v3, vi v5] M (cI fun r2 M1 =>
   brA (decide (r2 = 0))
    (WP FF sc YF (d + 1) m_X11_housesThatFit 4 [] [some (vr 0), some (vi v1), some (vi v2), some (vi v3), some (vi v4), some (vi (w32 (v5 + 1)))] M1 Q)
    (gAnd (decide (0 ≤ v5) && decide (v5 < 10)) (brA (decide ((bAnd (bAnd (bXor (M1 56 v5.toNat) v1) (bXor v2 ((-1)))) 255) ≠ 0))
     (WP FF sc YF (d + 1) m_X11_housesThatFit 4 [] [some (vr 0), some (vi v1), some (vi v2), some (vi v3), some (vi v4), some (vi (w32 (v5 + 1)))] M1 Q)
     (WP FF sc YF (d + 1) m_X11_housesThatFit 4 [] [some (vr 0), some (vi v1), some (vi v2), some (vi v3), some (vi (bOr v4 (bShl 1 v5))), some (vi (w32 (v5 + 1)))] M1 Q)))))) : WP FF sc YF (d + 1) m_X11_housesThatFit 4 [] [some (vr 0), some (vi v1), some (vi v2), some (vi v3), some (vi v4), some (vi v5)] M Q := wp_go rfl (fun j => Nat.beq j 4) 39 h
theorem ca_X11_markThatTells {sc : List Int} {d : Nat} {Q : Vv → MM → Prop} (v1 : Int) (M : MM) (h : CA FF sc YF d m_J6_bitCount_0f7a4 [vi v1] M (cI fun r2 M1 =>
  WP FF sc YF (d + 1) m_X11_markThatTells 9 [] [some (vr 0), some (vi v1), some (vi r2), some (vi 0), some (vi 11), some (vi 0), none, none] M1 Q)) : CA FF sc YF (d + 1) m_X11_markThatTells [vr 0, vi v1] M Q := ca_go rfl rfl (fun j => Nat.beq j 9 || Nat.beq j 16) 55 h
theorem rg_X11_markThatTells_9 {sc : List Int} {d : Nat} {Q : Vv → MM → Prop} (v1 : Int) (v2 : Int) (v3 : Int) (v4 : Int) (v5 : Int) (o6 : Option Vv) (o7 : Option Vv) (M : MM) (h : brA (decide (8 ≤ v5))
  (Q (vi v3) M)
  (WP FF sc YF (d + 1) m_X11_markThatTells 16 [] [some (vr 0), some (vi v1), some (vi v2), some (vi v3), some (vi v4), some (vi v5), some (vi 0), some (vi 0)] M Q)) : WP FF sc YF (d + 1) m_X11_markThatTells 9 [] [some (vr 0), some (vi v1), some (vi v2), some (vi v3), some (vi v4), some (vi v5), o6, o7] M Q := wp_go rfl (fun j => Nat.beq j 9 || Nat.beq j 16) 55 h
theorem rg_X11_markThatTells_16 {sc : List Int} {d : Nat} {Q : Vv → MM → Prop} (v1 : Int) (v2 : Int) (v3 : Int) (v4 : Int) (v5 : Int) (v6 : Int) (v7 : Int) (M : MM) (h : brA (decide (10 ≤ v7))
  (brA (decide (v4 ≤ (mMax v6 (w32 (v2 - v6)))))
   (WP FF sc YF (d + 1) m_X11_markThatTells 9 [] [some (vr 0), some (vi v1), some (vi v2), some (vi v3), some (vi v4), some (vi (w32 (v5 + 1))), some (vi v6), some (vi (mMax v6 (w32 (v2 - v6))))] M Q)
   (WP FF sc YF (d + 1) m_X11_markThatTells 9 [] [some (vr 0), some (vi v1), some (vi v2), some (vi v5), some (vi (mMax v6 (w32 (v2 - v6)))), some (vi (w32 (v5 + 1))), some (vi v6), some (vi (mMax v6 (w32 (v2 - v6))))] M Q))
  (CA FF sc YF d m_X11_hasBit [vi v1, vi v7] M (cI fun r2 M1 =>
   brA (decide (r2 = 0))
    (WP FF sc YF (d + 1) m_X11_markThatTells 16 [] [some (vr 0), some (vi v1), some (vi v2), some (vi v3), some (vi v4), some (vi v5), some (vi v6), some (vi (w32 (v7 + 1)))] M1 Q)
    (gAnd (decide (0 ≤ v7) && decide (v7 < 10)) (CA FF sc YF d m_X11_hasBit [vi (M1 56 v7.toNat), vi v5] M1 (cI fun r4 M3 =>
     brA (decide (r4 = 0))
      (WP FF sc YF (d + 1) m_X11_markThatTells 16 [] [some (vr 0), some (vi v1), some (vi v2), some (vi v3), some (vi v4), some (vi v5), some (vi v6), some (vi (w32 (v7 + 1)))] M3 Q)
      (WP FF sc YF (d + 1) m_X11_markThatTells 16 [] [some (vr 0), some (vi v1), some (vi v2), some (vi v3), some (vi v4), some (vi v5), some (vi (w32 (v6 + 1))), some (vi (w32 (v7 + 1)))] M3 Q))))))) : WP FF sc YF (d + 1) m_X11_markThatTells 16 [] [some (vr 0), some (vi v1), some (vi v2), some (vi v3), some (vi v4), some (vi v5), some (vi v6), some (vi v7)] M Q := wp_go rfl (fun j => Nat.beq j 9 || Nat.beq j 16) 55 h
theorem ca_J6_bitCount_0f7a4 {sc : List Int} {d : Nat} {Q : Vv → MM → Prop} (v0 : Int) (M : MM) (h : Q (vi (bAnd (w32 ((w32 ((bAnd (w32 ((w32 ((bAnd (w32 (v0 - (bAnd (bUsh v0 1) 1431655765))) 858993459) + (bAnd (bUsh (w32 (v0 - (bAnd (bUsh v0 1) 1431655765))) 2) 858993459))) + (bUsh (w32 ((bAnd (w32 (v0 - (bAnd (bUsh v0 1) 1431655765))) 858993459) + (bAnd (bUsh (w32 (v0 - (bAnd (bUsh v0 1) 1431655765))) 2) 858993459))) 4))) 252645135) + (bUsh (bAnd (w32 ((w32 ((bAnd (w32 (v0 - (bAnd (bUsh v0 1) 1431655765))) 858993459) + (bAnd (bUsh (w32 (v0 - (bAnd (bUsh v0 1) 1431655765))) 2) 858993459))) + (bUsh (w32 ((bAnd (w32 (v0 - (bAnd (bUsh v0 1) 1431655765))) 858993459) + (bAnd (bUsh (w32 (v0 - (bAnd (bUsh v0 1) 1431655765))) 2) 858993459))) 4))) 252645135) 8))) + (bUsh (w32 ((bAnd (w32 ((w32 ((bAnd (w32 (v0 - (bAnd (bUsh v0 1) 1431655765))) 858993459) + (bAnd (bUsh (w32 (v0 - (bAnd (bUsh v0 1) 1431655765))) 2) 858993459))) + (bUsh (w32 ((bAnd (w32 (v0 - (bAnd (bUsh v0 1) 1431655765))) 858993459) + (bAnd (bUsh (w32 (v0 - (bAnd (bUsh v0 1) 1431655765))) 2) 858993459))) 4))) 252645135) + (bUsh (bAnd (w32 ((w32 ((bAnd (w32 (v0 - (bAnd (bUsh v0 1) 1431655765))) 858993459) + (bAnd (bUsh (w32 (v0 - (bAnd (bUsh v0 1) 1431655765))) 2) 858993459))) + (bUsh (w32 ((bAnd (w32 (v0 - (bAnd (bUsh v0 1) 1431655765))) 858993459) + (bAnd (bUsh (w32 (v0 - (bAnd (bUsh v0 1) 1431655765))) 2) 858993459))) 4))) 252645135) 8))) 16))) 63)) M) : CA FF sc YF (d + 1) m_J6_bitCount_0f7a4 [vi v0] M Q := ca_go rfl rfl (fun j => false) 47 h
theorem ca_X12_hand {sc : List Int} {d : Nat} {Q : Vv → MM → Prop} (v1 : Int) (v2 : Int) (M : MM) (h : CA FF sc YF d m_X12_isTen [vi v1] M (cI fun r2 M1 =>
  brA (decide (r2 = 0))
   (Q (vi 0) M1)
   (CA FF sc YF d m_X12_in [vi v2, vi 0, vi 255] M1 (cI fun r4 M3 =>
    brA (decide (r4 ≠ 0))
     (gAnd (decide (0 ≤ v1) && decide (v1 < 10)) (Q (vi 1) (stM M3 87 (v1.toNat) v2)))
     (Q (vi 0) M3))))) : CA FF sc YF (d + 1) m_X12_hand [vr 81, vi v1, vi v2] M Q := ca_go rfl rfl (fun j => false) 22 h
theorem ca_X12_ledger {sc : List Int} {d : Nat} {Q : Vv → MM → Prop} (v1 : Int) (v2 : Int) (v3 : Int) (v4 : Int) (M : MM) (h : CA FF sc YF d m_X12_in [vi v1, vi 0, vi 255] M (cI fun r2 M1 =>
  brA (decide (r2 = 0))
   (Q (vi ((-1))) M1)
   (CA FF sc YF d m_X12_in [vi v2, vi 0, vi 255] M1 (cI fun r4 M3 =>
    brA (decide (r4 = 0))
     (Q (vi ((-1))) M3)
     (CA FF sc YF d m_X12_in [vi v3, vi 0, vi 1023] M3 (cI fun r6 M5 =>
      brA (decide (r6 = 0))
       (Q (vi ((-1))) M5)
       (CA FF sc YF d m_X12_in [vi v4, vi 0, vi 1] M5 (cI fun r8 M7 =>
        brA (decide (r8 ≠ 0))
         (WP FF sc YF (d + 1) m_X12_ledger 26 [] [some (vr 81), some (vi v1), some (vi v2), some (vi v3), some (vi v4), some (vi 0), some (vi 0), none] M7 Q)
         (Q (vi ((-1))) M7))))))))) : CA FF sc YF (d + 1) m_X12_ledger [vr 81, vi v1, vi v2, vi v3, vi v4] M Q := ca_go rfl rfl (fun j => Nat.beq j 26 || Nat.beq j 66) 89 h
theorem rg_X12_ledger_26 {sc : List Int} {d : Nat} {Q : Vv → MM → Prop} (v1 : Int) (v2 : Int) (v3 : Int) (v4 : Int) (v5 : Int) (v6 : Int) (o7 : Option Vv) (M : MM) (h : brA (decide (10 ≤ v6))
  (brA (decide (v4 ≠ 0))
   (brA (decide (v5 ≠ 0))
    (WP FF sc YF (d + 1) m_X12_ledger 66 [] [some (vr 81), some (vi v1), some (vi v2), some (vi v3), some (vi v4), some (vi v5), some (vi 0), some (vi 1)] M Q)
    (Q (vi ((-2))) M))
   (Q (vi v5) M))
  (CA FF sc YF d m_X12_has [vi v3, vi v6] M (cI fun r2 M1 =>
   brA (decide (r2 = 0))
    (WP FF sc YF (d + 1) m_X12_ledger 26 [] [some (vr 81), some (vi v1), some (vi v2), some (vi v3), some (vi v4), some (vi v5), some (vi (w32 (v6 + 1))), o7] M1 Q)
    (gAnd (decide (0 ≤ v6) && decide (v6 < 10)) (brA (decide ((bAnd (bAnd (bXor (M1 87 v6.toNat) v1) (bXor v2 ((-1)))) 255) ≠ 0))
     (WP FF sc YF (d + 1) m_X12_ledger 26 [] [some (vr 81), some (vi v1), some (vi v2), some (vi v3), some (vi v4), some (vi v5), some (vi (w32 (v6 + 1))), o7] M1 Q)
     (WP FF sc YF (d + 1) m_X12_ledger 26 [] [some (vr 81), some (vi v1), some (vi v2), some (vi v3), some (vi v4), some (vi (bOr v5 (bShl 1 v6))), some (vi (w32 (v6 + 1))), o7] M1 Q)))))) : WP FF sc YF (d + 1) m_X12_ledger 26 [] [some (vr 81), some (vi v1), some (vi v2), some (vi v3), some (vi v4), some (vi v5), some (vi v6), o7] M Q := wp_go rfl (fun j => Nat.beq j 26 || Nat.beq j 66) 89 h
theorem rg_X12_ledger_66 {sc : List Int} {d : Nat} {Q : Vv → MM → Prop} (v1 : Int) (v2 : Int) (v3 : Int) (v4 : Int) (v5 : Int) (v6 : Int) (v7 : Int) (M : MM) (h : brA (decide (8 ≤ v7))
  (Q (vi v6) M)
  (CA FF sc YF d m_X12_greaterBy [vr 81, vi v5, vi v7] M (cI fun r2 M1 =>
   CA FF sc YF d m_X12_greaterBy [vr 81, vi v5, vi v6] M1 (cI fun r4 M3 =>
    brA (decide (r4 ≤ r2))
     (WP FF sc YF (d + 1) m_X12_ledger 66 [] [some (vr 81), some (vi v1), some (vi v2), some (vi v3), some (vi v4), some (vi v5), some (vi v6), some (vi (w32 (v7 + 1)))] M3 Q)
     (WP FF sc YF (d + 1) m_X12_ledger 66 [] [some (vr 81), some (vi v1), some (vi v2), some (vi v3), some (vi v4), some (vi v5), some (vi v7), some (vi (w32 (v7 + 1)))] M3 Q))))) : WP FF sc YF (d + 1) m_X12_ledger 66 [] [some (vr 81), some (vi v1), some (vi v2), some (vi v3), some (vi v4), some (vi v5), some (vi v6), some (vi v7)] M Q := wp_go rfl (fun j => Nat.beq j 26 || Nat.beq j 66) 89 h
theorem ca_X12_greaterBy {sc : List Int} {d : Nat} {Q : Vv → MM → Prop} (v1 : Int) (v2 : Int) (M : MM) (h : WP FF sc YF (d + 1) m_X12_greaterBy 4 [] [some (vr 81), some (vi v1), some (vi v2), some (vi 0), some (vi 0)] M Q) : CA FF sc YF (d + 1) m_X12_greaterBy [vr 81, vi v1, vi v2] M Q := ca_go rfl rfl (fun j => Nat.beq j 4) 36 h
theorem rg_X12_greaterBy_4 {sc : List Int} {d : Nat} {Q : Vv → MM → Prop} (v1 : Int) (v2 : Int) (v3 : Int) (v4 : Int) (M : MM) (h : brA (decide (10 ≤ v4))
  (CA FF sc YF d m_X12_bits [vi v1] M (cI fun r2 M1 =>
   CA FF sc YF d m_X12_max [vi v3, vi (w32 (r2 - v3))] M1 (cI fun r4 M3 =>
    Q (vi r4) M3)))
  (CA FF sc YF d m_X12_has [vi v1, vi v4] M (cI fun r6 M5 =>
   brA (decide (r6 = 0))
    (WP FF sc YF (d + 1) m_X12_greaterBy 4 [] [some (vr 81), some (vi v1), some (vi v2), some (vi v3), some (vi (w32 (v4 + 1)))] M5 Q)
    (gAnd (decide (0 ≤ v4) && decide (v4 < 10)) (CA FF sc YF d m_X12_has [vi (M5 87 v4.toNat), vi v2] M5 (cI fun r8 M7 =>
     brA (decide (r8 = 0))
      (WP FF sc YF (d + 1) m_X12_greaterBy 4 [] [some (vr 81), some (vi v1), some (vi v2), some (vi v3), some (vi (w32 (v4 + 1)))] M7 Q)
      (WP FF sc YF (d + 1) m_X12_greaterBy 4 [] [some (vr 81), some (vi v1), some (vi v2), some (vi (w32 (v3 + 1))), some (vi (w32 (v4 + 1)))] M7 Q))))))) : WP FF sc YF (d + 1) m_X12_greaterBy 4 [] [some (vr 81), some (vi v1), some (vi v2), some (vi v3), some (vi v4)] M Q := wp_go rfl (fun j => Nat.beq j 4) 36 h
def fitV (H : Nat → Int) (m b hs : Int) (n i : Nat) (acc : Int) : Int := match n with
  | 0 => acc
  | n + 1 => fitV H m b hs n (i + 1) (if btv hs i = 1 ∧ bAnd (bAnd (bXor (H i) m) (bXor b (-1))) 255 = 0 then bOr acc (bShl 1 i) else acc)
theorem shl_r : ∀ i : Nat, i < 10 → 0 ≤ bShl 1 (i : Int) ∧ bShl 1 (i : Int) < 1024 := by decide +kernel
theorem fitV_r (H : Nat → Int) (m b hs : Int) : ∀ (n i : Nat) (acc : Int), i + n = 10 → (0 ≤ acc ∧ acc < 1024) → 0 ≤ fitV H m b hs n i acc ∧ fitV H m b hs n i acc < 1024 := by
  intro n
  induction n with
  | zero => intro i acc _ h; exact h
  | succ n ih =>
    intro i acc hi h
    refine ih (i + 1) _ (by omega) ?_
    split
    · exact fbOr 10 1024 (by decide) h (shl_r i (by omega)) (by decide)
    · exact h
def withV (H : Nat → Int) (set mk : Int) (n i : Nat) (acc : Int) : Int := match n with
  | 0 => acc
  | n + 1 => withV H set mk n (i + 1) (if btv set i = 1 ∧ btv (H i) mk = 1 then acc + 1 else acc)
theorem withV_r (H : Nat → Int) (set mk : Int) : ∀ (n i : Nat) (acc : Int), acc ≤ withV H set mk n i acc ∧ withV H set mk n i acc ≤ acc + n := by
  intro n
  induction n with
  | zero => intro i acc; exact ⟨Int.le_refl _, by show acc ≤ acc + ((0 : Nat) : Int); omega⟩
  | succ n ih =>
    intro i acc
    have h := ih (i + 1) (if btv set i = 1 ∧ btv (H i) mk = 1 then acc + 1 else acc)
    have e : withV H set mk (n + 1) i acc = withV H set mk n (i + 1) (if btv set i = 1 ∧ btv (H i) mk = 1 then acc + 1 else acc) := rfl
    rw [e]
    have hn : ((n + 1 : Nat) : Int) = (n : Int) + 1 := rfl
    split at h <;> (split <;> first | omega | (rename_i a b; exact absurd ‹_› ‹_›))
def grV (H : Nat → Int) (set : Int) (k : Nat) : Int := mMax (withV H set k 10 0 0) (bsum set 10 - withV H set k 10 0 0)
theorem grV_r (H : Nat → Int) (set : Int) (k : Nat) : grV H set k ≤ 10 := by
  have h1 := withV_r H set k 10 0 0
  have h2 := bsum_r set 10
  unfold grV mMax
  split <;> omega
def aminV (H : Nat → Int) (set : Int) (n k best : Nat) : Nat := match n with
  | 0 => best
  | n + 1 => aminV H set n (k + 1) (if grV H set k < grV H set best then k else best)
def ledV (H : Nat → Int) (m b hs what : Int) : Int := if (0 ≤ m ∧ m ≤ 255) ∧ (0 ≤ b ∧ b ≤ 255) ∧ (0 ≤ hs ∧ hs ≤ 1023) ∧ (0 ≤ what ∧ what ≤ 1) then (if what = 0 then fitV H m b hs 10 0 0 else if fitV H m b hs 10 0 0 = 0 then -2 else (aminV H (fitV H m b hs 10 0 0) 7 1 0 : Int)) else -1
def hndV (H : Nat → Int) (h m : Int) : Nat → Int := fun j => if (0 ≤ h ∧ h ≤ 9) ∧ (0 ≤ m ∧ m ≤ 255) then (if j = h.toNat then m else H j) else H j
section HND
variable {sc : List Int} {d : Nat} {Q : Vv → MM → Prop}
theorem s_btX {a b : Int} {M : MM} (k0 : btv a b ≠ 1 → ∀ x : Int, x = 0 → Q (vi x) M) (k1 : btv a b = 1 → ∀ x : Int, x = 1 → Q (vi x) M) : CA FF sc YF (d + 1) m_X11_hasBit [vi a, vi b] M Q := ca_X11_hasBit a b M (brP (fun h => k0 h 0 rfl) fun h => k1 (Classical.not_not.mp h) 1 rfl)
theorem s_btM {a b : Int} {M : MM} (k0 : btv a b ≠ 1 → ∀ x : Int, x = 0 → Q (vi x) M) (k1 : btv a b = 1 → ∀ x : Int, x = 1 → Q (vi x) M) : CA FF sc YF (d + 1) m_X12_has [vi a, vi b] M Q := ca_X12_has a b M (brP (fun h => k0 h 0 rfl) fun h => k1 (Classical.not_not.mp h) 1 rfl)
theorem fitX_wp {m b hs : Int} {M : MM} : ∀ (n i : Nat) (acc : Int), i + n = 10 → Q (vi (fitV (M 56) m b hs n i acc)) M → WP FF sc YF (d + 2) m_X11_housesThatFit 4 [] [some (vr 0), some (vi m), some (vi b), some (vi hs), some (vi acc), some (vi (i : Int))] M Q := by
  intro n
  induction n with
  | zero => intro i acc hi k; exact rg_X11_housesThatFit_4 _ _ _ _ _ M (brT (by omega) k)
  | succ n ih =>
    intro i acc hi k
    have e1 : w32 ((i : Int) + 1) = ((i + 1 : Nat) : Int) := by rw [ew32 (by omega) (by omega)]; rfl
    have e2 : ((i : Int)).toNat = i := by omega
    have k' : Q (vi (fitV (M 56) m b hs n (i + 1) (if btv hs i = 1 ∧ bAnd (bAnd (bXor (M 56 i) m) (bXor b (-1))) 255 = 0 then bOr acc (bShl 1 i) else acc))) M := k
    refine rg_X11_housesThatFit_4 _ _ _ _ _ M ?_
    rw [e1, e2]
    clear e1
    refine brF (by omega) (s_btX (fun h x hx => brT hx ?_) fun h x hx => brF (by omega) (gI (by omega) (by omega) (brP (fun q => ?_) fun q => ?_)))
    · rw [if_neg (fun z => h z.1)] at k'
      exact ih (i + 1) acc (by omega) k'
    · rw [if_neg (fun z => q z.2)] at k'
      exact ih (i + 1) acc (by omega) k'
    · rw [if_pos ⟨h, Classical.not_not.mp q⟩] at k'
      exact ih (i + 1) _ (by omega) k'
theorem mi_wp {set all best sm : Int} {mk : Nat} {M : MM} : ∀ (n i : Nat) (acc : Int), i + n = 10 → (0 ≤ acc ∧ acc ≤ i) → brA (decide (sm ≤ mMax (withV (M 56) set mk n i acc) (w32 (all - withV (M 56) set mk n i acc)))) (WP FF sc YF (d + 2) m_X11_markThatTells 9 [] [some (vr 0), some (vi set), some (vi all), some (vi best), some (vi sm), some (vi (w32 ((mk : Int) + 1))), some (vi (withV (M 56) set mk n i acc)), some (vi (mMax (withV (M 56) set mk n i acc) (w32 (all - withV (M 56) set mk n i acc))))] M Q) (WP FF sc YF (d + 2) m_X11_markThatTells 9 [] [some (vr 0), some (vi set), some (vi all), some (vi (mk : Int)), some (vi (mMax (withV (M 56) set mk n i acc) (w32 (all - withV (M 56) set mk n i acc)))), some (vi (w32 ((mk : Int) + 1))), some (vi (withV (M 56) set mk n i acc)), some (vi (mMax (withV (M 56) set mk n i acc) (w32 (all - withV (M 56) set mk n i acc))))] M Q) → WP FF sc YF (d + 2) m_X11_markThatTells 16 [] [some (vr 0), some (vi set), some (vi all), some (vi best), some (vi sm), some (vi (mk : Int)), some (vi acc), some (vi (i : Int))] M Q := by
  intro n
  induction n with
  | zero => intro i acc hi ha k; exact rg_X11_markThatTells_16 _ _ _ _ _ _ _ M (brT (by omega) k)
  | succ n ih =>
    intro i acc hi ha k
    have e1 : w32 ((i : Int) + 1) = ((i + 1 : Nat) : Int) := by rw [ew32 (by omega) (by omega)]; rfl
    have e2 : ((i : Int)).toNat = i := by omega
    have e3 : w32 (acc + 1) = acc + 1 := ew32 (by omega) (by omega)
    have e : withV (M 56) set mk (n + 1) i acc = withV (M 56) set mk n (i + 1) (if btv set i = 1 ∧ btv (M 56 i) mk = 1 then acc + 1 else acc) := rfl
    rw [e] at k
    refine rg_X11_markThatTells_16 _ _ _ _ _ _ _ M ?_
    rw [e1, e2, e3]
    clear e1 e3 e
    refine brF (by omega) (s_btX (fun h x hx => brT hx ?_) fun h x hx => brF (by omega) (gI (by omega) (by omega) (s_btX (fun q y hy => brT hy ?_) fun q y hy => brF (by omega) ?_)))
    · rw [if_neg (fun z => h z.1)] at k
      exact ih (i + 1) acc (by omega) (by omega) k
    · rw [if_neg (fun z => q z.2)] at k
      exact ih (i + 1) acc (by omega) (by omega) k
    · rw [if_pos ⟨h, q⟩] at k
      exact ih (i + 1) (acc + 1) (by omega) (by omega) k
theorem grV_w (H : Nat → Int) (set : Int) (k : Nat) : mMax (withV H set k 10 0 0) (w32 (bsum set 10 - withV H set k 10 0 0)) = grV H set k := by
  have h1 := withV_r H set k 10 0 0
  have h2 := bsum_r set 10
  rw [ew32 (by omega) (by omega)]
  rfl
theorem mt_wp {set : Int} {M : MM} : ∀ (n k best : Nat) (o6 o7 : Option Vv), k + n = 8 → Q (vi (aminV (M 56) set n k best : Int)) M → WP FF sc YF (d + 2) m_X11_markThatTells 9 [] [some (vr 0), some (vi set), some (vi (bsum set 10)), some (vi (best : Int)), some (vi (grV (M 56) set best)), some (vi (k : Int)), o6, o7] M Q := by
  intro n
  induction n with
  | zero => intro k best o6 o7 hk hQ; exact rg_X11_markThatTells_9 _ _ _ _ _ _ _ M (brT (by omega) hQ)
  | succ n ih =>
    intro k best o6 o7 hk hQ
    have e1 : w32 ((k : Int) + 1) = ((k + 1 : Nat) : Int) := by rw [ew32 (by omega) (by omega)]; rfl
    refine rg_X11_markThatTells_9 _ _ _ _ _ _ _ M (brF (by omega) (mi_wp 10 0 0 rfl (by decide) ?_))
    rw [grV_w, e1]
    clear e1
    have hQ' : Q (vi (aminV (M 56) set n (k + 1) (if grV (M 56) set k < grV (M 56) set best then k else best) : Int)) M := hQ
    refine brP (fun h => ?_) fun h => ?_
    · rw [if_neg (by omega)] at hQ'
      exact ih (k + 1) best _ _ (by omega) hQ'
    · rw [if_pos (by omega)] at hQ'
      exact ih (k + 1) k _ _ (by omega) hQ'
theorem s_markX {set : Int} {M : MM} (hs : 0 ≤ set ∧ set < 1024) (hQ : Q (vi (aminV (M 56) set 7 1 0 : Int)) M) : CA FF sc YF (d + 2) m_X11_markThatTells [vr 0, vi set] M Q := by
  have e1 : w32 (((0 : Nat) : Int) + 1) = ((1 : Nat) : Int) := by decide +kernel
  have hg := grV_r (M 56) set 0
  refine ca_X11_markThatTells set M (ca_J6_bitCount_0f7a4 set M ?_)
  show WP _ _ _ _ _ _ _ [some (vr 0), some (vi set), some (vi (bcV set)), some (vi 0), some (vi 11), some (vi 0), none, none] M Q
  rw [bcV_eq hs]
  refine rg_X11_markThatTells_9 _ _ _ _ _ _ _ M (brF (by decide) (mi_wp (mk := 0) 10 0 0 rfl (by decide) ?_))
  rw [grV_w, e1]
  clear e1
  exact brF (by omega) (mt_wp 7 1 0 _ _ rfl hQ)
theorem s_ledX {m b hs what : Int} {M : MM} (hQ : Q (vi (ledV (M 56) m b hs what)) M) : CA FF sc YF (d + 3) m_X11_ledger [vr 0, vi m, vi b, vi hs, vi what] M Q := by
  have no : ¬ ((0 ≤ m ∧ m ≤ 255) ∧ (0 ≤ b ∧ b ≤ 255) ∧ (0 ≤ hs ∧ hs ≤ 1023) ∧ (0 ≤ what ∧ what ≤ 1)) → Q (vi (-1)) M := fun h => by
    unfold ledV at hQ
    rw [if_neg h] at hQ
    exact hQ
  refine ca_X11_ledger m b hs what M (s_isIn m 0 255 M (brI0 (fun h => no fun z => h z.1) fun h1 => s_isIn b 0 255 M (brI1 (fun h2 => s_isIn hs 0 1023 M (brI0 (fun h => no fun z => h z.2.2.1) fun h3 => s_isIn what 0 1 M (brI1 (fun h4 => ?_) fun h => no fun z => h z.2.2.2))) fun h => no fun z => h z.2.1)))
  unfold ledV at hQ
  rw [if_pos ⟨h1, h2, h3, h4⟩] at hQ
  have hr := fitV_r (M 56) m b hs 10 0 0 rfl (by decide)
  refine ca_X11_housesThatFit m b hs M (fitX_wp (Q := cI fun r10 M9 => brA (decide (what ≠ 0)) (brA (decide (r10 ≠ 0)) (CA FF sc YF (d + 2) m_X11_markThatTells [vr 0, vi r10] M9 (cI fun r12 M11 => Q (vi r12) M11)) (Q (vi ((-2))) M9)) (Q (vi r10) M9)) 10 0 0 rfl ?_)
  refine brP (fun h => ?_) fun h => ?_
  · rw [if_neg h] at hQ
    refine brP (fun q => ?_) fun q => ?_
    · rw [if_neg q] at hQ
      exact s_markX hr hQ
    · rw [if_pos (Classical.not_not.mp q)] at hQ
      exact hQ
  · rw [if_pos (Classical.not_not.mp h)] at hQ
    exact hQ
theorem gb_wp {set : Int} {mk : Nat} {M : MM} : ∀ (n i : Nat) (acc : Int), i + n = 10 → (0 ≤ acc ∧ acc ≤ i) → Q (vi (mMax (withV (M 87) set mk n i acc) (w32 (bsum set 10 - withV (M 87) set mk n i acc)))) M → WP FF sc YF (d + 2) m_X12_greaterBy 4 [] [some (vr 81), some (vi set), some (vi (mk : Int)), some (vi acc), some (vi (i : Int))] M Q := by
  intro n
  induction n with
  | zero =>
    intro i acc hi ha k
    have k' : Q (vi (mMax acc (w32 (bsum set 10 - acc)))) M := k
    refine rg_X12_greaterBy_4 _ _ _ _ M (brT (by omega) (s_bits (ca_X12_max _ _ M (brP (fun h => ?_) fun h => ?_))))
    · unfold mMax at k'
      by_cases q : acc < w32 (bsum set 10 - acc)
      · rw [if_pos q] at k'
        exact k'
      · rw [if_neg q] at k'
        have e : w32 (bsum set 10 - acc) = acc := by omega
        rw [e]
        exact k'
    · unfold mMax at k'
      rw [if_neg (by omega)] at k'
      exact k'
  | succ n ih =>
    intro i acc hi ha k
    have e1 : w32 ((i : Int) + 1) = ((i + 1 : Nat) : Int) := by rw [ew32 (by omega) (by omega)]; rfl
    have e2 : ((i : Int)).toNat = i := by omega
    have e3 : w32 (acc + 1) = acc + 1 := ew32 (by omega) (by omega)
    have e : withV (M 87) set mk (n + 1) i acc = withV (M 87) set mk n (i + 1) (if btv set i = 1 ∧ btv (M 87 i) mk = 1 then acc + 1 else acc) := rfl
    rw [e] at k
    refine rg_X12_greaterBy_4 _ _ _ _ M ?_
    rw [e1, e2, e3]
    clear e1 e3 e
    refine brF (by omega) (s_btM (fun h x hx => brT hx ?_) fun h x hx => brF (by omega) (gI (by omega) (by omega) (s_btM (fun q y hy => brT hy ?_) fun q y hy => brF (by omega) ?_)))
    · rw [if_neg (fun z => h z.1)] at k
      exact ih (i + 1) acc (by omega) (by omega) k
    · rw [if_neg (fun z => q z.2)] at k
      exact ih (i + 1) acc (by omega) (by omega) k
    · rw [if_pos ⟨h, q⟩] at k
      exact ih (i + 1) (acc + 1) (by omega) (by omega) k
theorem s_greaterBy {set : Int} {mk : Nat} {M : MM} (hQ : Q (vi (grV (M 87) set mk)) M) : CA FF sc YF (d + 2) m_X12_greaterBy [vr 81, vi set, vi (mk : Int)] M Q := ca_X12_greaterBy set _ M (gb_wp 10 0 0 rfl (by decide) (by rw [grV_w]; exact hQ))
theorem ml_wp {m b hs what set : Int} {M : MM} : ∀ (n k best : Nat), k + n = 8 → Q (vi (aminV (M 87) set n k best : Int)) M → WP FF sc YF (d + 3) m_X12_ledger 66 [] [some (vr 81), some (vi m), some (vi b), some (vi hs), some (vi what), some (vi set), some (vi (best : Int)), some (vi (k : Int))] M Q := by
  intro n
  induction n with
  | zero => intro k best hk hQ; exact rg_X12_ledger_66 _ _ _ _ _ _ _ M (brT (by omega) hQ)
  | succ n ih =>
    intro k best hk hQ
    have e1 : w32 ((k : Int) + 1) = ((k + 1 : Nat) : Int) := by rw [ew32 (by omega) (by omega)]; rfl
    have hQ' : Q (vi (aminV (M 87) set n (k + 1) (if grV (M 87) set k < grV (M 87) set best then k else best) : Int)) M := hQ
    refine rg_X12_ledger_66 _ _ _ _ _ _ _ M ?_
    rw [e1]
    clear e1
    refine brF (by omega) (s_greaterBy (s_greaterBy (brP (fun h => ?_) fun h => ?_)))
    · rw [if_neg (by omega)] at hQ'
      exact ih (k + 1) best (by omega) hQ'
    · rw [if_pos (by omega)] at hQ'
      exact ih (k + 1) k (by omega) hQ'
theorem fitM_wp {m b hs what : Int} {M : MM} : ∀ (n i : Nat) (acc : Int) (o7 : Option Vv), i + n = 10 → Q (vi (if what = 0 then fitV (M 87) m b hs n i acc else if fitV (M 87) m b hs n i acc = 0 then -2 else (aminV (M 87) (fitV (M 87) m b hs n i acc) 7 1 0 : Int))) M → WP FF sc YF (d + 3) m_X12_ledger 26 [] [some (vr 81), some (vi m), some (vi b), some (vi hs), some (vi what), some (vi acc), some (vi (i : Int)), o7] M Q := by
  intro n
  induction n with
  | zero =>
    intro i acc o7 hi k
    have k' : Q (vi (if what = 0 then acc else if acc = 0 then -2 else (aminV (M 87) acc 7 1 0 : Int))) M := k
    refine rg_X12_ledger_26 _ _ _ _ _ _ _ M (brT (by omega) (brP (fun h => ?_) fun h => ?_))
    · rw [if_neg h] at k'
      refine brP (fun q => ?_) fun q => ?_
      · rw [if_neg q] at k'
        exact ml_wp 7 1 0 rfl k'
      · rw [if_pos (Classical.not_not.mp q)] at k'
        exact k'
    · rw [if_pos (Classical.not_not.mp h)] at k'
      exact k'
  | succ n ih =>
    intro i acc o7 hi k
    have e1 : w32 ((i : Int) + 1) = ((i + 1 : Nat) : Int) := by rw [ew32 (by omega) (by omega)]; rfl
    have e2 : ((i : Int)).toNat = i := by omega
    have e : fitV (M 87) m b hs (n + 1) i acc = fitV (M 87) m b hs n (i + 1) (if btv hs i = 1 ∧ bAnd (bAnd (bXor (M 87 i) m) (bXor b (-1))) 255 = 0 then bOr acc (bShl 1 i) else acc) := rfl
    rw [e] at k
    refine rg_X12_ledger_26 _ _ _ _ _ _ _ M ?_
    rw [e1, e2]
    clear e1 e
    refine brF (by omega) (s_btM (fun h x hx => brT hx ?_) fun h x hx => brF (by omega) (gI (by omega) (by omega) (brP (fun q => ?_) fun q => ?_)))
    · rw [if_neg (c := btv hs i = 1 ∧ _) (fun z => h z.1)] at k
      exact ih (i + 1) acc _ (by omega) k
    · rw [if_neg (c := btv hs i = 1 ∧ _) (fun z => q z.2)] at k
      exact ih (i + 1) acc _ (by omega) k
    · rw [if_pos (c := btv hs i = 1 ∧ _) ⟨h, Classical.not_not.mp q⟩] at k
      exact ih (i + 1) _ _ (by omega) k
theorem s_ledM {m b hs what : Int} {M : MM} (hQ : Q (vi (ledV (M 87) m b hs what)) M) : CA FF sc YF (d + 3) m_X12_ledger [vr 81, vi m, vi b, vi hs, vi what] M Q := by
  have no : ¬ ((0 ≤ m ∧ m ≤ 255) ∧ (0 ≤ b ∧ b ≤ 255) ∧ (0 ≤ hs ∧ hs ≤ 1023) ∧ (0 ≤ what ∧ what ≤ 1)) → Q (vi (-1)) M := fun h => by
    unfold ledV at hQ
    rw [if_neg h] at hQ
    exact hQ
  refine ca_X12_ledger m b hs what M (s_in m 0 255 M (brI0 (fun h => no fun z => h z.1) fun h1 => s_in b 0 255 M (brI0 (fun h => no fun z => h z.2.1) fun h2 => s_in hs 0 1023 M (brI0 (fun h => no fun z => h z.2.2.1) fun h3 => s_in what 0 1 M (brI1 (fun h4 => ?_) fun h => no fun z => h z.2.2.2)))))
  unfold ledV at hQ
  rw [if_pos ⟨h1, h2, h3, h4⟩] at hQ
  exact fitM_wp 10 0 0 none rfl hQ
theorem s_hndX {h m : Int} {M : MM} (G : axG M) (k : ∀ (r : Int) (M1 : MM), axG M1 → UpX M M1 → M1 56 = hndV (M 56) h m → Q (vi r) M1) : CA FF sc YF (d + 3) m_X11_hand [vr 0, vi h, vi m] M Q := by
  have no : ¬ ((0 ≤ h ∧ h ≤ 9) ∧ (0 ≤ m ∧ m ≤ 255)) → Q (vi 0) M := fun q => k 0 M G UpX.rf (funext fun j => by unfold hndV; rw [if_neg q])
  obtain ⟨g, jj, w⟩ := G
  refine ca_X11_hand h m M (s_isHouse h M (brI0 (fun q => no fun z => q z.1) fun h1 => s_isIn m 0 255 M (brI1 (fun h2 => gI (by omega) (by omega) ?_) fun q => no fun z => q z.2)))
  refine k 1 _ ⟨sA_56 g h2.1 h2.2, (UpX.rf.st (by decide) : UpX M _).j jj, axW_eq (stN (by decide)) (stN (by decide)) (stN (by decide)) (stN (by decide)) w⟩ (UpX.rf.st (by decide)) (funext fun j => ?_)
  unfold hndV
  rw [if_pos ⟨h1, h2⟩, stM_at]
  by_cases q : j = h.toNat
  · rw [if_pos ⟨rfl, q⟩, if_pos q]
  · rw [if_neg (fun z => q z.2), if_neg q]
theorem s_hndM {h m : Int} {M : MM} (G : axG M) (k : ∀ (r : Int) (M1 : MM), axG M1 → LoX M M1 → M1 87 = hndV (M 87) h m → Q (vi r) M1) : CA FF sc YF (d + 2) m_X12_hand [vr 81, vi h, vi m] M Q := by
  have no : ¬ ((0 ≤ h ∧ h ≤ 9) ∧ (0 ≤ m ∧ m ≤ 255)) → Q (vi 0) M := fun q => k 0 M G LoX.rf (funext fun j => by unfold hndV; rw [if_neg q])
  obtain ⟨g, jj, w⟩ := G
  refine ca_X12_hand h m M (s_isTen h M (brI0 (fun q => no fun z => q z.1) fun h1 => s_in m 0 255 M (brI1 (fun h2 => gI (by omega) (by omega) ?_) fun q => no fun z => q z.2)))
  have l : LoX M (stM M 87 h.toNat m) := LoX.rf.st (by decide)
  refine k 1 _ ⟨sA_87 g h2.1 h2.2, axJ_eq ⟨stN (by decide), rfl, rfl, rfl, rfl, rfl⟩ jj, l.w w⟩ l (funext fun j => ?_)
  unfold hndV
  rw [if_pos ⟨h1, h2⟩, stM_at]
  by_cases q : j = h.toNat
  · rw [if_pos ⟨rfl, q⟩, if_pos q]
  · rw [if_neg (fun z => q z.2), if_neg q]
end HND
