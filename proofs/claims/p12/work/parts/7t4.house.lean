/-! PART 7t4: the answers of houseIs -/
theorem pc_X11_houseIs {sc : List Int} {n : Nat} {Q : Vv → MM → Prop} (v1 : Int) (v2 : Int) (M : MM) (h : ∀ n1, n1 < n → PC sc n1 m_X11_isHouse [vi v1] M (cI fun r2 M1 =>
  brA (decide (r2 ≠ 0))
   ((v2 = 0 → gIm (decide (0 < M1 0 10)) (gIm ((kd YF ((M1 0 10).toNat - 1) == 18) && rfK (FF ((M1 0 10).toNat - 1) 1) (M1 ((M1 0 10).toNat - 1) 1)) (gIm ((kd YF (rfO (FF ((M1 0 10).toNat - 1) 1) (M1 ((M1 0 10).toNat - 1) 1)) == 0) && (decide (0 ≤ v1) && decide (v1 < ln YF (rfO (FF ((M1 0 10).toNat - 1) 1) (M1 ((M1 0 10).toNat - 1) 1))))) (brA (decide ((M1 (rfO (FF ((M1 0 10).toNat - 1) 1) (M1 ((M1 0 10).toNat - 1) 1)) v1.toNat) ≠ ((-1))))
     (gIm (decide (0 < M1 0 10)) (gIm ((kd YF ((M1 0 10).toNat - 1) == 18) && rfK (FF ((M1 0 10).toNat - 1) 1) (M1 ((M1 0 10).toNat - 1) 1)) (gIm ((kd YF (rfO (FF ((M1 0 10).toNat - 1) 1) (M1 ((M1 0 10).toNat - 1) 1)) == 0) && (decide (0 ≤ v1) && decide (v1 < ln YF (rfO (FF ((M1 0 10).toNat - 1) 1) (M1 ((M1 0 10).toNat - 1) 1))))) (Q (vi (M1 (rfO (FF ((M1 0 10).toNat - 1) 1) (M1 ((M1 0 10).toNat - 1) 1)) v1.toNat)) M1))))
     (Q (vi ((-2))) M1))))) ∧
    (v2 ≠ 0 → (v2 = 1 → gIm (decide (0 ≤ v1) && decide (v1 < 10)) (Q (vi (M1 4 v1.toNat)) M1)) ∧
    (v2 ≠ 1 → (v2 = 2 → PC sc n1 m_X11_dogOf [vr 0, vi v1] M1 (cI fun r6 M5 =>
     Q (vi r6) M5)) ∧
    (v2 ≠ 2 → (v2 = 3 → PC sc n1 m_X11_canHaunt [vr 0, vi v1] M1 (cI fun r4 M3 =>
     brA (decide (r4 = 0))
      (Q (vi 0) M3)
      (Q (vi 1) M3))) ∧
    (v2 ≠ 3 → (v2 = 4 → gIm (decide (0 ≤ v1) && decide (v1 < 10)) (Q (vi (M1 56 v1.toNat)) M1)) ∧
    (v2 ≠ 4 → Q (vi ((-1))) M1))))))
   (Q (vi ((-1))) M1))) : PC sc n m_X11_houseIs [vr 0, vi v1, vi v2] M Q := pc_go rfl (fun j => false) 52 h
theorem pc_X11_dogOf {sc : List Int} {n : Nat} {Q : Vv → MM → Prop} (v1 : Int) (M : MM) (h : ∀ n1, n1 < n → PC sc n1 m_X11_hasBit [vi (M 0 15), vi v1] M (cI fun r2 M1 =>
  brA (decide (r2 ≠ 0))
   (PC sc n1 m_X11_hasBit [vi (M1 46 4), vi v1] M1 (cI fun r4 M3 =>
    brA (decide (r4 = 0))
     (Q (vi 1) M3)
     (Q (vi 2) M3)))
   (Q (vi 0) M1))) : PC sc n m_X11_dogOf [vr 0, vi v1] M Q := pc_go rfl (fun j => false) 22 h
theorem pc_X11_canHaunt {sc : List Int} {n : Nat} {Q : Vv → MM → Prop} (v1 : Int) (M : MM) (h : ∀ n1, n1 < n → PC sc n1 m_X11_hasSpot [vr 0, vi v1] M (cI fun r2 M1 =>
  brA (decide (r2 = 0))
   (Q (vi 0) M1)
   (brA (decide (9999 ≤ (M1 46 6)))
    (Q (vi 0) M1)
    (gIm (decide (0 < M1 0 12)) (gIm (kd YF ((M1 0 12).toNat - 1) == 10) (PC sc n1 m_X0_mayHaunt [vr ((M1 0 12).toNat - 1), vi v1, vi (M1 46 6)] M1 (cI fun r4 M3 =>
     brA (decide (r4 = 0))
      (Q (vi 0) M3)
      (Q (vi 1) M3)))))))) : PC sc n m_X11_canHaunt [vr 0, vi v1] M Q := pc_go rfl (fun j => false) 26 h
theorem pc_X12_houseIs {sc : List Int} {n : Nat} {Q : Vv → MM → Prop} (v1 : Int) (v2 : Int) (M : MM) (h : ∀ n1, n1 < n → PC sc n1 m_X12_isTen [vi v1] M (cI fun r2 M1 =>
  brA (decide (r2 ≠ 0))
   ((v2 = 0 → gIm (decide (0 ≤ v1) && decide (v1 < 10)) (Q (vi (M1 86 v1.toNat)) M1)) ∧
    (v2 ≠ 0 → (v2 = 1 → gIm (decide (0 ≤ v1) && decide (v1 < 10)) (Q (vi (M1 88 v1.toNat)) M1)) ∧
    (v2 ≠ 1 → (v2 = 2 → PC sc n1 m_X12_has [vi (M1 81 8), vi v1] M1 (cI fun r8 M7 =>
     brA (decide (r8 ≠ 0))
      (PC sc n1 m_X12_has [vi (M7 82 32), vi v1] M7 (cI fun r10 M9 =>
       brA (decide (r10 = 0))
        (Q (vi 1) M9)
        (Q (vi 2) M9)))
      (Q (vi 0) M7))) ∧
    (v2 ≠ 2 → (v2 = 3 → PC sc n1 m_X12_hasSpot [vr 81, vi v1] M1 (cI fun r4 M3 =>
     brA (decide (r4 = 0))
      (Q (vi 0) M3)
      (brA (decide (9999 ≤ (M3 82 34)))
       (Q (vi 0) M3)
       (PC sc n1 m_X12_mayHaunt [vr 81, vi v1, vi (M3 82 34)] M3 (cI fun r6 M5 =>
        brA (decide (r6 = 0))
         (Q (vi 0) M5)
         (Q (vi 1) M5)))))) ∧
    (v2 ≠ 3 → (v2 = 4 → gIm (decide (0 ≤ v1) && decide (v1 < 10)) (Q (vi (M1 87 v1.toNat)) M1)) ∧
    (v2 ≠ 4 → Q (vi ((-1))) M1))))))
   (Q (vi ((-1))) M1))) : PC sc n m_X12_houseIs [vr 81, vi v1, vi v2] M Q := pc_go rfl (fun j => false) 69 h
section HOI
variable {sc : List Int} {Q : Vv → MM → Prop}
def hiH (M : MM) (h : Int) : Int := if 0 ≤ M 86 h.toNat ∧ M 82 34 < 9999 ∧ mh M h (M 82 34) ≠ 0 then 1 else 0
def hiD (M : MM) (h : Int) : Int := if bit (M 81 8) h.toNat = true then (if bit (M 82 32) h.toNat = true then 2 else 1) else 0
/- what houseIs tells, by what the reference holds -/
def hiV (M : MM) (h w : Int) : Int := if 0 ≤ h ∧ h ≤ 9 then (if w = 0 then M 86 h.toNat else if w = 1 then M 88 h.toNat else if w = 2 then hiD M h else if w = 3 then hiH M h else if w = 4 then M 87 h.toNat else -1) else -1
theorem hiV_up {M M1 : MM} (u : UpX M M1) (h w : Int) : hiV M1 h w = hiV M h w := by
  unfold hiV hiH hiD
  rw [mh_eq ⟨u 81 (by decide) 19, u.f 97 (by decide), u.f 98 (by decide), u.f 99 (by decide), u.f 100 (by decide), u.f 101 (by decide)⟩, u.f 82 (by decide), u.f 86 (by decide), u.f 88 (by decide), u.f 87 (by decide), u.f 81 (by decide)]
set_option maxRecDepth 20000 in
theorem f_dogOf {M : MM} {h : Nat} (hh : h < 10) {n : Nat} (k : Q (vi (if bit (M 0 15) h = true then (if bit (M 46 4) h = true then 2 else 1) else 0)) M) : PC sc n m_X11_dogOf [vr 0, vi (h : Int)] M Q := pc_X11_dogOf _ M fun n1 _ => p_hasC (by omega) (fun b x hx => cI_i (brF (by omega) (by rw [b, if_neg (by decide)] at k; exact k))) fun b x hx => cI_i (brT (by omega) (p_hasC (by omega) (fun b2 y hy => cI_i (brT hy (by rw [b, if_pos rfl, b2, if_neg (by decide)] at k; exact k))) fun b2 y hy => cI_i (brF (by omega) (by rw [b, if_pos rfl, b2, if_pos rfl] at k; exact k))))
set_option maxRecDepth 20000 in
theorem f_hIsC {M : MM} (G : GdA M) {h w : Int} {n : Nat} : PC sc n m_X11_houseIs [vr 0, vi h, vi w] M (fun r _ => r = vi (hiV M h w)) := by
  obtain ⟨T, hT, v0, v1, hr, hh, hS⟩ := G.1.tw
  obtain ⟨L, q, cl, hL, h12, R0⟩ := G.2.1
  obtain ⟨⟨a1, a2⟩, w1, -⟩ := G.2.2.1
  obtain ⟨T2, hT2, t0, -, t2⟩ := G.1.2.2.1
  have eT : T2 = T := by omega
  subst eT
  have hr2 : ∀ x, rfO (FF T2 1) x = T2 + 2 := fun x => by rcases hT with e | e <;> (subst e; rfl)
  refine pc_X11_houseIs _ _ M fun n1 _ => p_isHouse (fun hn x hx => cI_i (brF (by omega) ?_)) fun hk x hx => cI_i (brT (by omega) ?_)
  · unfold hiV
    rw [if_neg hn]
  obtain ⟨i, hi⟩ : ∃ i : Nat, h = (i : Int) := ⟨h.toNat, by omega⟩
  subst hi
  have hi : i < 10 := by omega
  have eV : hiV M (i : Int) w = (if w = 0 then M 86 i else if w = 1 then M 88 i else if w = 2 then hiD M (i : Int) else if w = 3 then hiH M (i : Int) else if w = 4 then M 87 i else -1) := by
    unfold hiV
    rw [show ((i : Int)).toNat = i by omega, if_pos hk]
  rw [eV, v0, show ((T2 : Int) + 1).toNat - 1 = T2 by omega, hr2, show ((i : Int)).toNat = i by omega]
  have e0 := t2 i hi
  unfold hm at e0
  refine ⟨fun e => gMB (gMB (gMB (brP (fun c => gMB (gMB (gMB ?_))) fun c => ?_))), fun e0 => ⟨fun e => gMB ?_, fun e1 => ⟨fun e => ?_, fun e2 => ⟨fun e => ?_, fun e3 => ⟨fun e => gMB ?_, fun e4 => by rw [if_neg e0, if_neg e1, if_neg e2, if_neg e3, if_neg e4]⟩⟩⟩⟩⟩
  · rw [if_pos e, ← e0, if_neg c]
  · rw [if_pos e, ← e0, if_pos (Classical.not_not.mp c)]
  · rw [if_neg e0, if_pos e, (G.1.2.2.2.1.1 i hi).1]
  · rw [if_neg e0, if_neg e1, if_pos e]
    refine f_dogOf hi (cI_i ?_)
    unfold hiD
    rw [a1, w1.2.1.1, show ((i : Int)).toNat = i by omega]
  · rw [if_neg e0, if_neg e1, if_neg e2, if_pos e]
    have eq : hiH M (i : Int) = (if 0 ≤ M 86 i ∧ M 82 34 < 9999 ∧ mh M (i : Int) (M 82 34) ≠ 0 then 1 else 0) := by
      unfold hiH
      rw [show ((i : Int)).toNat = i by omega]
    rw [eq]
    obtain ⟨s1, s2⟩ := hh i hi
    have e6 : M 46 6 = M 82 34 := w1.2.1.2.1
    have no : ∀ M1 : MM, ¬ (0 ≤ M 86 i ∧ M 82 34 < 9999 ∧ mh M (i : Int) (M 82 34) ≠ 0) → (cI fun r4 M3 => brA (decide (r4 = 0)) (vi 0 = vi (if 0 ≤ M 86 i ∧ M 82 34 < 9999 ∧ mh M (i : Int) (M 82 34) ≠ 0 then 1 else 0)) (vi 1 = vi (if 0 ≤ M 86 i ∧ M 82 34 < 9999 ∧ mh M (i : Int) (M 82 34) ≠ 0 then 1 else 0))) (vi 0) M1 := fun M1 z => cI_i (brT rfl (by rw [if_neg z]))
    refine pc_X11_canHaunt _ M fun n2 _ => f_hasSpotC hT v0 (fun hn x hx => cI_i (brT hx (no M fun z => hn ⟨hk, by rw [show ((i : Int)).toNat = i by omega]; exact s1.mp z.1⟩))) fun hs x hx => cI_i (brF (by omega) (brP (fun c => no M fun z => by omega) fun c => ?_))
    rw [h12, show ((L : Int) + 1).toNat - 1 = L by omega, e6]
    refine gMB (gMB (f_mayHauntC hL R0 fun M3 _ => cI_i (brP (fun c2 => no M3 fun z => z.2.2 c2) fun c2 => cI_i (brF (by decide) ?_))))
    rw [if_pos ⟨s1.mpr (by have := hs.2; rw [show ((i : Int)).toNat = i by omega] at this; exact this), by omega, c2⟩]
  · rw [if_neg e0, if_neg e1, if_neg e2, if_neg e3, if_pos e, G.2.2.2.2 i]
set_option maxRecDepth 20000 in
theorem f_hIsM {M : MM} (G : axG M) {h w : Int} {n : Nat} : PC sc n m_X12_houseIs [vr 81, vi h, vi w] M (fun r _ => r = vi (hiV M h w)) := by
  have g34 := rO_82_34 G.1
  refine pc_X12_houseIs _ _ M fun n1 _ => p_isTen (fun hn x hx => cI_i (brF (by omega) ?_)) fun hk x hx => cI_i (brT (by omega) ?_)
  · unfold hiV
    rw [if_neg hn]
  obtain ⟨i, hi⟩ : ∃ i : Nat, h = (i : Int) := ⟨h.toNat, by omega⟩
  subst hi
  have hi : i < 10 := by omega
  have eV : hiV M (i : Int) w = (if w = 0 then M 86 i else if w = 1 then M 88 i else if w = 2 then hiD M (i : Int) else if w = 3 then hiH M (i : Int) else if w = 4 then M 87 i else -1) := by
    unfold hiV
    rw [show ((i : Int)).toNat = i by omega, if_pos hk]
  rw [eV, show ((i : Int)).toNat = i by omega]
  refine ⟨fun e => gMB (by rw [if_pos e]), fun e0 => ⟨fun e => gMB (by rw [if_neg e0, if_pos e]), fun e1 => ⟨fun e => ?_, fun e2 => ⟨fun e => ?_, fun e3 => ⟨fun e => gMB (by rw [if_neg e0, if_neg e1, if_neg e2, if_neg e3, if_pos e]), fun e4 => by rw [if_neg e0, if_neg e1, if_neg e2, if_neg e3, if_neg e4]⟩⟩⟩⟩⟩
  · rw [if_neg e0, if_neg e1, if_pos e]
    unfold hiD
    rw [show ((i : Int)).toNat = i by omega]
    exact p_has (by omega) (fun b x hx => cI_i (brF (by omega) (by rw [b, if_neg (by decide)]))) fun b x hx => cI_i (brT (by omega) (p_has (by omega) (fun b2 y hy => cI_i (brT hy (by rw [b, if_pos rfl, b2, if_neg (by decide)]))) fun b2 y hy => cI_i (brF (by omega) (by rw [b, if_pos rfl, b2, if_pos rfl]))))
  · rw [if_neg e0, if_neg e1, if_neg e2, if_pos e]
    unfold hiH
    rw [show ((i : Int)).toNat = i by omega]
    refine f_hasSpotM (fun hn x hx => cI_i (brT hx ?_)) fun hs x hx => cI_i (brF (by omega) (brP (fun c => ?_) fun c => ?_))
    · rw [if_neg fun z => hn ⟨hk, by rw [show ((i : Int)).toNat = i by omega]; exact z.1⟩]
    · rw [if_neg fun z => by omega]
    · have hs := hs.2
      rw [show ((i : Int)).toNat = i by omega] at hs
      refine PC.of (s_mayHaunt (d := 20) (h := (i : Int)) ⟨by omega, by omega⟩ ⟨by omega, by omega⟩ G.1 G.2.1 fun M3 _ _ _ => cI_i (brP (fun c2 => ?_) fun c2 => ?_))
      · rw [if_neg fun z => z.2.2 c2]
      · rw [if_pos ⟨hs, by omega, c2⟩]
theorem csQ_houseIs {M : MM} {h w : Int} (i0 : in32 h) (i1 : in32 w) (G : GdA M) : CA FF sc YF 59 m_X11_houseIs [vr 0, vi h, vi w] M (fun r M1 => ∃ x, r = vi x ∧ GdA M1 ∧ x = hiV M1 h w) := csV G (by decide +kernel) (cf_houseIs i0 i1 G.1.1) (V := fun M => hiV M h w) (fun n => f_hIsC G) fun M1 u => hiV_up u h w
theorem msQ_houseIs {M : MM} {h w x : Int} (i0 : in32 h) (i1 : in32 w) (G : GdA M ∧ x = hiV M h w) : CA FF sc YF 59 m_X12_houseIs [vr 81, vi h, vi w] M (fun r M1 => ∃ y, r = vi y ∧ GdA M1 ∧ y = x) := msV (V := fun M => hiV M h w) G (by decide +kernel) (mf_houseIs i0 i1 G.1.1.1) fun n => f_hIsM G.1.1.1
end HOI
