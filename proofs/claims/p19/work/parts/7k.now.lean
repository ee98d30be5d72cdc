/-! PART 7k: now, what was kept and the dogs are alike on both sides between calls -/
theorem pc_X8_copy {sc : List Int} {n : Nat} {N : Nat} (hN : N = 25 ∨ N = 46 ∨ N = 51) {N2 : Nat} (hN2 : N2 = 25 ∨ N2 = 46 ∨ N2 = 51) {Q : Vv → MM → Prop}  (M : MM) (h : ∀ n1, n1 < n → PW sc n1 m_X8_copy 2 [] [some (vr N), some (vr N2), some (vi 0)] M Q) : PC sc n m_X8_copy [vr N, vr N2] M Q := by
  rcases hN with rfl | rfl | rfl <;> rcases hN2 with rfl | rfl | rfl <;> exact pc_go rfl (fun j => Nat.beq j 2) 61 h
theorem pw_X8_copy_2 {sc : List Int} {n : Nat} {N : Nat} (hN : N = 25 ∨ N = 46 ∨ N = 51) {N2 : Nat} (hN2 : N2 = 25 ∨ N2 = 46 ∨ N2 = 51) {Q : Vv → MM → Prop} (v2 : Int) (M : MM) (h : ∀ n1, n1 < n → brA (decide (10 ≤ v2))
  (Q (vi 0) (stM (stM (stM (stM M N 4 (M N2 4)) N 5 (M N2 5)) N 6 (M N2 6)) N 7 (M N2 7)))
  (gIm (decide (0 ≤ v2) && decide (v2 < 10)) (gIm (decide (0 ≤ v2) && decide (v2 < 10)) (gIm (decide (0 ≤ v2) && decide (v2 < 10)) (gIm (decide (0 ≤ v2) && decide (v2 < 10)) (gIm (decide (0 ≤ v2) && decide (v2 < 10)) (gIm (decide (0 ≤ v2) && decide (v2 < 10)) (gIm (decide (0 ≤ v2) && decide (v2 < 10)) (gIm (decide (0 ≤ v2) && decide (v2 < 10)) (PW sc n1 m_X8_copy 2 [] [some (vr N), some (vr N2), some (vi (w32 (v2 + 1)))] (stM (stM (stM (stM M ((N + 1)) (v2.toNat) (M ((N2 + 1)) v2.toNat)) ((N + 2)) (v2.toNat) (M ((N2 + 2)) v2.toNat)) ((N + 3)) (v2.toNat) (M ((N2 + 3)) v2.toNat)) ((N + 4)) (v2.toNat) (M ((N2 + 4)) v2.toNat)) Q)))))))))) : PW sc n m_X8_copy 2 [] [some (vr N), some (vr N2), some (vi v2)] M Q := by
  rcases hN with rfl | rfl | rfl <;> rcases hN2 with rfl | rfl | rfl <;> exact pw_go rfl (fun j => Nat.beq j 2) 61 h
theorem pc_X12_copies {sc : List Int} {n : Nat} {Q : Vv → MM → Prop} (v0 : Nat) (v1 : Nat) (M : MM) (h : ∀ n1, n1 < n → PW sc n1 m_X12_copies 2 [] [some (vr v0), some (vr v1), some (vi 0)] M Q) : PC sc n m_X12_copies [vr v0, vr v1] M Q := pc_go rfl (fun j => Nat.beq j 2) 19 h
theorem pw_X12_copies_2 {sc : List Int} {n : Nat} {Q : Vv → MM → Prop} (v0 : Nat) (v1 : Nat) (v2 : Int) (M : MM) (h : ∀ n1, n1 < n → brA (decide (36 ≤ v2))
  (Q (vi 0) M)
  (gIm ((kd YF v0 == 0) && (decide (0 ≤ v2) && decide (v2 < ln YF v0))) (gIm ((kd YF v1 == 0) && (decide (0 ≤ v2) && decide (v2 < ln YF v1))) (PW sc n1 m_X12_copies 2 [] [some (vr v0), some (vr v1), some (vi (w32 (v2 + 1)))] (stM M v1 (v2.toNat) (M v0 v2.toNat)) Q)))) : PW sc n m_X12_copies 2 [] [some (vr v0), some (vr v1), some (vi v2)] M Q := pw_go rfl (fun j => Nat.beq j 2) 19 h
theorem pc_X11_tells {sc : List Int} {n : Nat} {Q : Vv → MM → Prop} (v1 : Int) (M : MM) (h : ∀ n1, n1 < n → PC sc n1 m_X11_isHouse [vi v1] M (cI fun r2 M1 =>
  brA (decide (r2 = 0))
   (Q (vi 0) M1)
   (PC sc n1 m_X11_hasBit [vi (M1 0 15), vi v1] M1 (cI fun r4 M3 =>
    brA (decide (r4 = 0))
     (Q (vi 0) M3)
     (PC sc n1 m_X11_hasBit [vi (M3 46 4), vi v1] M3 (cI fun r6 M5 =>
      brA (decide (r6 = 0))
       (Q (vi 1) (stM M5 46 4 (bOr (M5 46 4) (bShl 1 v1))))
       (Q (vi 0) M5))))))) : PC sc n m_X11_tells [vr 0, vi v1] M Q := pc_go rfl (fun j => false) 32 h
theorem pc_X12_tells {sc : List Int} {n : Nat} {Q : Vv → MM → Prop} (v1 : Int) (M : MM) (h : ∀ n1, n1 < n → PC sc n1 m_X12_isTen [vi v1] M (cI fun r2 M1 =>
  brA (decide (r2 = 0))
   (Q (vi 0) M1)
   (PC sc n1 m_X12_has [vi (M1 81 8), vi v1] M1 (cI fun r4 M3 =>
    brA (decide (r4 = 0))
     (Q (vi 0) M3)
     (PC sc n1 m_X12_has [vi (M3 82 32), vi v1] M3 (cI fun r6 M5 =>
      brA (decide (r6 = 0))
       (Q (vi 1) (stM M5 82 32 (bOr (M5 82 32) (bShl 1 v1))))
       (Q (vi 0) M5))))))) : PC sc n m_X12_tells [vr 81, vi v1] M Q := pc_go rfl (fun j => false) 36 h
theorem pc_X11_seed {sc : List Int} {n : Nat} {Q : Vv → MM → Prop} (v1 : Int) (M : MM) (h : ∀ n1, n1 < n → PC sc n1 m_X11_isIn [vi v1, vi 0, vi 65535] M (cI fun r2 M1 =>
  brA (decide (r2 ≠ 0))
   (Q (vi 1) (stM M1 46 7 v1))
   (Q (vi 0) M1))) : PC sc n m_X11_seed [vr 0, vi v1] M Q := pc_go rfl (fun j => false) 18 h
theorem pc_X12_seed {sc : List Int} {n : Nat} {Q : Vv → MM → Prop} (v1 : Int) (M : MM) (h : ∀ n1, n1 < n → PC sc n1 m_X12_in [vi v1, vi 0, vi 65535] M (cI fun r2 M1 =>
  brA (decide (r2 ≠ 0))
   (Q (vi 1) (stM M1 82 35 v1))
   (Q (vi 0) M1))) : PC sc n m_X12_seed [vr 81, vi v1] M Q := pc_go rfl (fun j => false) 19 h
theorem pc_X11_keep {sc : List Int} {n : Nat} {Q : Vv → MM → Prop}  (M : MM) (h : ∀ n1, n1 < n → PC sc n1 m_X8_copy [vr 51, vr 46] M (fun _ M1 =>
  Q (vi (M1 46 6)) (stM M1 0 14 1))) : PC sc n m_X11_keep [vr 0] M Q := pc_go rfl (fun j => false) 17 h
theorem pc_X12_keep {sc : List Int} {n : Nat} {Q : Vv → MM → Prop}  (M : MM) (h : ∀ n1, n1 < n → PC sc n1 m_X12_copies [vr 82, vr 84] (stM M 81 61 1) (fun _ M1 =>
  Q (vi (M1 82 34)) M1)) : PC sc n m_X12_keep [vr 81] M Q := pc_go rfl (fun j => false) 18 h
theorem pc_X11_undo {sc : List Int} {n : Nat} {Q : Vv → MM → Prop}  (M : MM) (h : ∀ n1, n1 < n → brA (decide ((M 0 14) = 0))
  (gIm (decide ((M 0 14) = 0) || decide ((M 0 14) = 1)) (Q (vi (M 0 14)) M))
  (PC sc n1 m_X8_copy [vr 46, vr 51] M (fun _ M1 =>
   gIm (decide ((M1 0 14) = 0) || decide ((M1 0 14) = 1)) (Q (vi (M1 0 14)) M1)))) : PC sc n m_X11_undo [vr 0] M Q := pc_go rfl (fun j => false) 16 h
theorem pc_X12_undo {sc : List Int} {n : Nat} {Q : Vv → MM → Prop}  (M : MM) (h : ∀ n1, n1 < n → brA (decide ((M 81 61) ≠ 0))
  (PC sc n1 m_X12_copies [vr 84, vr 82] M (fun _ M1 =>
   Q (vi 1) M1))
  (Q (vi 0) M)) : PC sc n m_X12_undo [vr 81] M Q := pc_go rfl (fun j => false) 17 h
theorem pc_X11_hasBit {sc : List Int} {n : Nat} {Q : Vv → MM → Prop} (v0 : Int) (v1 : Int) (M : MM) (h : ∀ n1, n1 < n → brA (decide ((bAnd (bShr v0 v1) 1) ≠ 1))
  (Q (vi 0) M)
  (Q (vi 1) M)) : PC sc n m_X11_hasBit [vi v0, vi v1] M Q := pc_go rfl (fun j => false) 16 h
theorem pc_X11_dog {sc : List Int} {n : Nat} {Q : Vv → MM → Prop} (v1 : Int) (v2 : Int) (M : MM) (h : ∀ n1, n1 < n → PC sc n1 m_X11_isHouse [vi v1] M (cI fun r2 M1 =>
  brA (decide (r2 ≠ 0))
   (brA (decide (v2 = 0))
    (PW sc n1 m_X11_dog 23 [vi (bAnd (M1 0 15) (bXor (bShl 1 v1) ((-1)))), vr 0] [some (vr 0), some (vi v1), some (vi v2), some (vi (bShl 1 v1))] M1 Q)
    (PW sc n1 m_X11_dog 23 [vi (bOr (M1 0 15) (bShl 1 v1)), vr 0] [some (vr 0), some (vi v1), some (vi v2), some (vi (bShl 1 v1))] M1 Q))
   (Q (vi 0) M1))) : PC sc n m_X11_dog [vr 0, vi v1, vi v2] M Q := pc_go rfl (fun j => Nat.beq j 23) 40 h
theorem pw_X11_dog_23 {sc : List Int} {n : Nat} {Q : Vv → MM → Prop} (v1 : Int) (v2 : Int) (v3 : Int) (s1 : Int) (M : MM) (h : ∀ n1, n1 < n → (Q (vi 1) (stM (stM M 0 15 s1) 46 4 (bAnd ((stM M 0 15 s1) 46 4) (bXor v3 ((-1))))))) : PW sc n m_X11_dog 23 [vi s1, vr 0] [some (vr 0), some (vi v1), some (vi v2), some (vi v3)] M Q := pw_go rfl (fun j => Nat.beq j 23) 40 h
theorem pc_X12_dog {sc : List Int} {n : Nat} {Q : Vv → MM → Prop} (v1 : Int) (v2 : Int) (M : MM) (h : ∀ n1, n1 < n → PC sc n1 m_X12_isTen [vi v1] M (cI fun r2 M1 =>
  brA (decide (r2 ≠ 0))
   (brA (decide (v2 = 0))
    (PW sc n1 m_X12_dog 23 [vi (bAnd (M1 81 8) (bXor (bShl 1 v1) ((-1)))), vr 81] [some (vr 81), some (vi v1), some (vi v2)] M1 Q)
    (PW sc n1 m_X12_dog 23 [vi (bOr (M1 81 8) (bShl 1 v1)), vr 81] [some (vr 81), some (vi v1), some (vi v2)] M1 Q))
   (Q (vi 0) M1))) : PC sc n m_X12_dog [vr 81, vi v1, vi v2] M Q := pc_go rfl (fun j => Nat.beq j 23) 45 h
theorem pw_X12_dog_23 {sc : List Int} {n : Nat} {Q : Vv → MM → Prop} (v1 : Int) (v2 : Int) (s1 : Int) (M : MM) (h : ∀ n1, n1 < n → (Q (vi 1) (stM (stM M 81 8 s1) 82 32 (bAnd ((stM M 81 8 s1) 82 32) (bXor (bShl 1 v1) ((-1))))))) : PW sc n m_X12_dog 23 [vi s1, vr 81] [some (vr 81), some (vi v1), some (vi v2)] M Q := pw_go rfl (fun j => Nat.beq j 23) 45 h
def kNc : Nat := 4222646610334809790179245334107970196701625316418222760942071047758764267206789537120218860257526219166788011427117844453805464942111471449573105699278021917611194760726225862432494020280125605792383901520727075933609371102460413722979719218029340558253828970142800626297924251345526427300568840971337559401679413869168020888924761818466944221066653545337773114794538938721190428101179681113796826565258748994243553645742075035644146099924058850993411767207863533745468022000874790754414545201668270890459438874054989756276157826943505110585491094608409025849719573139244687261131597185701162439508852730509789481627350590578527383265145886315877455054145407126251616438267464623901094640398874115447025851848500360487673763539398374259381360518018280931216234321594247366096645193695964387540940531936089993792743167793425748973719688685126132637471174151083695478831928205696114509782747297540419269353646463222923139359383864299298922233829048992494737328347522403084881255564260167635534294488651108903290156357270383582915815399040193609428975575927668736
def kNm : Nat := 1307207667219561818816617376236817307212743462029235131693664053725762991630215981838794845597320664420181268828436950634257976110968021672283548912765454360198444888431594895251888236545926756659046745884920940451658049035733174396551769519838833667742677318925566439059369177112407085451103164813658184187257184788471038935905428950491987099042850722871571285345170918729627038289834612602092833716196587340261806269556375786505114407781550859166921800467442607245703875793288149254709955467350826222159952635227235642962140615739127126436676329379799109189306422035891254637476596577522087595104551066158403007935922445860108209023832250916515701443530744691475807555932317198550092372441685126054938260666473300145188586169508974533891573906501160616649167802756977535411894614390678089955951915352062633390479875943201728985059507057108173930215469994650864667451881288388842864310188403915050719392408943176223537655825368987560931335569071892183738325138750975580223739626716408335540962393515074977503719136823456549460865571335886633639800238609281718146779663674343593644504722047798681586141111133222985543673345056989168570756157135160940002606297841578881381437057386490973733400093820161976883150757204098608485409007590610666706547025899480121007629073472259335974957884079638288773298633157099524238256007723973785965464098078030447439161481887835671941752670527305128329405326076431546980940831443764485128526101182387728712251087119105210972034936966875119629930337110374720505799827267992167000339775617504320785934686475023272818333225030577819467631157622832203972756458785413818504833684020178100491055529984
/- a STRANGER of the class is the reference's -/
def nwG (S F C D R : Nat → Int) (g : Nat) : Prop := (bit (R 30) g = true → (S g = R g ∧ 0 ≤ R g ∧ R g < 64) ∧ F g = R (10 + g) ∧ C g = R (20 + g) ∧ D g = (if bit (R 31) g then 1 else 0)) ∧ (bit (R 30) g = false → S g = -1 ∧ F g = 0)
/- the times of the class are a row of the reference's, but for the COINS -/
def nwO (M : MM) (N : Nat) (R : Nat → Int) : Prop := (∀ g, g < 10 → nwG (M (N + 1)) (M (N + 2)) (M (N + 3)) (M (N + 4)) R g) ∧ (M N 4 = R 32 ∧ M N 6 = R 34 ∧ M N 7 = R 35) ∧ 0 ≤ R 34 ∧ R 34 ≤ 9999
def nwP (M : MM) (d : Int) (S : Nat → Int) (fl : Int) (K : Nat → Int) : Prop := (M 0 15 = d ∧ M 0 14 = fl) ∧ nwO M 46 S ∧ (fl ≠ 0 → nwO M 51 K)
def rN (M : MM) : Prop := nwP M (M 81 8) (M 82) (M 81 61) (M 84)
section NWR
variable {sc : List Int} {M M1 : MM} {Q : Vv → MM → Prop}
theorem nwG.cg {S F C D R S' F' C' D' R' : Nat → Int} {g : Nat} (h : nwG S F C D R g) (h1 : S' g = S g) (h2 : F' g = F g) (h3 : C' g = C g) (h4 : D' g = D g) (e0 : R' g = R g) (e1 : R' (10 + g) = R (10 + g)) (e2 : R' (20 + g) = R (20 + g)) (e3 : R' 30 = R 30) (e4 : R' 31 = R 31) : nwG S' F' C' D' R' g := by
  unfold nwG at h ⊢
  rw [h1, h2, h3, h4, e0, e1, e2, e3, e4]
  exact h
def rwE (R R' : Nat → Int) : Prop := ∀ j, j < 36 → j ≠ 33 → R' j = R j
theorem nwO.eq {N N' : Nat} {R R' : Nat → Int} (h : nwO M N R) (hc : ∀ i, 1 ≤ i → i ≤ 4 → ∀ j, j < 10 → M1 (N' + i) j = M (N + i) j) (h4 : M1 N' 4 = M N 4) (h6 : M1 N' 6 = M N 6) (h7 : M1 N' 7 = M N 7) (e : rwE R R') : nwO M1 N' R' := by
  obtain ⟨a, ⟨b1, b2, b3⟩, c1, c2⟩ := h
  refine ⟨fun g hg => (a g hg).cg (hc 1 (by decide) (by decide) g hg) (hc 2 (by decide) (by decide) g hg) (hc 3 (by decide) (by decide) g hg) (hc 4 (by decide) (by decide) g hg) (e g (by omega) (by omega)) (e _ (by omega) (by omega)) (e _ (by omega) (by omega)) (e _ (by omega) (by omega)) (e _ (by omega) (by omega)), ⟨?_, ?_, ?_⟩, ?_, ?_⟩
  · rw [h4, e 32 (by decide) (by decide)]
    exact b1
  · rw [h6, e 34 (by decide) (by decide)]
    exact b2
  · rw [h7, e 35 (by decide) (by decide)]
    exact b3
  · rw [e 34 (by decide) (by decide)]
    exact c1
  · rw [e 34 (by decide) (by decide)]
    exact c2
theorem rwE.rf {R : Nat → Int} : rwE R R := fun _ _ _ => rfl
/- what the class holds of it stands as it was -/
def nwS (M M1 : MM) : Prop := (M1 0 15 = M 0 15 ∧ M1 0 14 = M 0 14) ∧ ∀ N, N = 46 ∨ N = 51 → (∀ i, 1 ≤ i → i ≤ 4 → ∀ j, j < 10 → M1 (N + i) j = M (N + i) j) ∧ M1 N 4 = M N 4 ∧ M1 N 6 = M N 6 ∧ M1 N 7 = M N 7
theorem nwP.eq {d fl : Int} {S K S' K' : Nat → Int} (h : nwP M d S fl K) (s : nwS M M1) (e1 : rwE S S') (e2 : rwE K K') : nwP M1 d S' fl K' := by
  obtain ⟨⟨a1, a2⟩, b, c⟩ := h
  obtain ⟨⟨s1, s2⟩, s3⟩ := s
  have t := s3 46 (.inl rfl)
  have t2 := s3 51 (.inr rfl)
  exact ⟨⟨s1.trans a1, s2.trans a2⟩, b.eq t.1 t.2.1 t.2.2.1 t.2.2.2 e1, fun z => (c z).eq t2.1 t2.2.1 t2.2.2.1 t2.2.2.2 e2⟩
theorem nwS.lo (l : LoX M M1) : nwS M M1 := ⟨⟨l 0 (by decide) 15 (.inr (by decide)), l 0 (by decide) 14 (.inr (by decide))⟩, fun N hN => ⟨fun i i1 i2 j hj => l (N + i) (by omega) j (.inr (by omega)), l N (by omega) 4 (.inr (by decide)), l N (by omega) 6 (.inr (by decide)), l N (by omega) 7 (.inr (by decide))⟩⟩
theorem tNc : ∀ N, N = 46 ∨ N = 51 → ∀ i, 1 ≤ i → i ≤ 4 → kNc.testBit (64 * (N + i)) = true ∧ ai_un ax_T (N + i) = true := by
  have h1 : ∀ i, i < 5 → 1 ≤ i → kNc.testBit (64 * (46 + i)) = true ∧ ai_un ax_T (46 + i) = true := by decide +kernel
  have h2 : ∀ i, i < 5 → 1 ≤ i → kNc.testBit (64 * (51 + i)) = true ∧ ai_un ax_T (51 + i) = true := by decide +kernel
  intro N hN i i1 i2
  rcases hN with e | e
  · subst e
    exact h1 i (by omega) i1
  · subst e
    exact h2 i (by omega) i1
theorem nwS.up {w : Nat} (kp : Keep w M M1) (e : kNc &&& w = kNc) : nwS M M1 := by
  have k := kp.w e
  refine ⟨⟨k.o rfl (by decide +kernel), k.o rfl (by decide +kernel)⟩, fun N hN => ⟨fun i i1 i2 j _ => congrFun (k.a (tNc N hN i i1 i2).2 (tNc N hN i i1 i2).1) j, ?_⟩⟩
  rcases hN with e | e
  · subst e
    exact ⟨k.o rfl (by decide +kernel), k.o rfl (by decide +kernel), k.o rfl (by decide +kernel)⟩
  · subst e
    exact ⟨k.o rfl (by decide +kernel), k.o rfl (by decide +kernel), k.o rfl (by decide +kernel)⟩
theorem nwS.cells (h0 : M1 0 15 = M 0 15 ∧ M1 0 14 = M 0 14) (h : ∀ c, 46 ≤ c → c ≤ 55 → M1 c = M c) : nwS M M1 := ⟨h0, fun N hN => ⟨fun i i1 i2 j _ => congrFun (h (N + i) (by omega) (by omega)) j, congrFun (h N (by omega) (by omega)) 4, congrFun (h N (by omega) (by omega)) 6, congrFun (h N (by omega) (by omega)) 7⟩⟩
/- what the reference holds of it stands as it was -/
def nwT (M M1 : MM) : Prop := (M1 81 8 = M 81 8 ∧ M1 81 61 = M 81 61) ∧ rwE (M 82) (M1 82) ∧ rwE (M 84) (M1 84)
theorem nwT.up (u : UpX M M1) : nwT M M1 := ⟨⟨u 81 (by decide) 8, u 81 (by decide) 61⟩, fun j _ _ => u 82 (by decide) j, fun j _ _ => u 84 (by decide) j⟩
theorem tNm : ∀ j, j < 36 → j ≠ 33 → kNm.testBit (64 * 82 + j) = true ∧ kNm.testBit (64 * 84 + j) = true := by decide +kernel
theorem nwT.lo {w : Nat} (kp : Keep w M M1) (e : kNm &&& w = kNm) : nwT M M1 := by
  have k := kp.w e
  exact ⟨⟨k.o rfl (by decide +kernel), k.o rfl (by decide +kernel)⟩, fun j h1 h2 => k.o rfl (tNm j h1 h2).1, fun j h1 h2 => k.o rfl (tNm j h1 h2).2⟩
theorem nwT.cells (h0 : M1 81 8 = M 81 8 ∧ M1 81 61 = M 81 61) (h2 : M1 82 = M 82) (h4 : M1 84 = M 84) : nwT M M1 := ⟨h0, fun j _ _ => by rw [h2], fun j _ _ => by rw [h4]⟩
theorem rN.eq (V : rN M) (s : nwS M M1) (t : nwT M M1) : rN M1 := by
  unfold rN
  rw [t.1.1, t.1.2]
  exact nwP.eq V s t.2.1 t.2.2
theorem rN.up {w : Nat} (V : rN M) (u : UpX M M1) (kp : Keep w M M1) (e : kNc &&& w = kNc) : rN M1 := V.eq (.up kp e) (.up u)
theorem rN.lo {w : Nat} (V : rN M) (l : LoX M M1) (kp : Keep w M M1) (e : kNm &&& w = kNm) : rN M1 := V.eq (.lo l) (.lo kp e)
/-! copies -/
set_option maxRecDepth 20000 in
theorem p_copyC {N N2 : Nat} (hN : N = 25 ∨ N = 46 ∨ N = 51) (hN2 : N2 = 25 ∨ N2 = 46 ∨ N2 = 51) (hne : N ≠ N2) {M : MM} {n : Nat} (k : ∀ M1, (∀ c, (c < N ∨ N + 4 < c) → M1 c = M c) → (∀ i, 1 ≤ i → i ≤ 4 → ∀ j, j < 10 → M1 (N + i) j = M (N2 + i) j) → (M1 N 4 = M N2 4 ∧ M1 N 6 = M N2 6 ∧ M1 N 7 = M N2 7) → Q (vi 0) M1) : PC sc n m_X8_copy [vr N, vr N2] M Q := by
  have lp : ∀ (m i n : Nat) (M1 : MM), i + m = 10 → (∀ c, (c < N + 1 ∨ N + 4 < c) → M1 c = M c) → (∀ q, 1 ≤ q → q ≤ 4 → ∀ j, j < i → M1 (N + q) j = M (N2 + q) j) → PW sc n m_X8_copy 2 [] [some (vr N), some (vr N2), some (vi (i : Int))] M1 Q := by
    intro m
    induction m with
    | zero =>
      intro i n M1 hi a1 a2
      have hi : i = 10 := hi
      subst hi
      refine pw_X8_copy_2 hN hN2 _ M1 fun n1 _ => brT (by decide) (k _ (fun c hc => (stK (by omega)).trans ((stK (by omega)).trans ((stK (by omega)).trans ((stK (by omega)).trans (a1 c (by omega)))))) (fun q q1 q2 j hj => ?_) ⟨?_, ?_, ?_⟩)
      · rw [stK (by omega), stK (by omega), stK (by omega), stK (by omega)]
        exact a2 q q1 q2 j hj
      · rw [stO (by decide), stO (by decide), stO (by decide)]
        exact stE.trans (congrFun (a1 N2 (by omega)) 4)
      · rw [stO (by decide)]
        exact stE.trans (congrFun (a1 N2 (by omega)) 6)
      · exact stE.trans (congrFun (a1 N2 (by omega)) 7)
    | succ m ih =>
      intro i n M1 hi a1 a2
      refine pw_X8_copy_2 hN hN2 _ M1 fun n1 _ => ?_
      rw [show ((i : Int)).toNat = i by omega, show w32 ((i : Int) + 1) = ((i + 1 : Nat) : Int) from ew32 (by omega) (by omega)]
      refine brF (by omega) (gMB (gMB (gMB (gMB (gMB (gMB (gMB (gMB (ih (i + 1) n1 _ (by omega) (fun c hc => (stK (by omega)).trans ((stK (by omega)).trans ((stK (by omega)).trans ((stK (by omega)).trans (a1 c (by omega)))))) fun q q1 q2 j hj => ?_)))))))))
      have o : ∀ q, 1 ≤ q → q ≤ 4 → M1 (N2 + q) = M (N2 + q) := fun q q1 q2 => a1 (N2 + q) (by omega)
      rw [o 1 (by decide) (by decide), o 2 (by decide) (by decide), o 3 (by decide) (by decide), o 4 (by decide) (by decide)]
      by_cases e : j = i
      · subst e
        have hq : q = 1 ∨ q = 2 ∨ q = 3 ∨ q = 4 := by omega
        rcases hq with h | h | h | h
        · subst h
          rw [stK (by omega), stK (by omega), stK (by omega)]
          exact stE
        · subst h
          rw [stK (by omega), stK (by omega)]
          exact stE
        · subst h
          rw [stK (by omega)]
          exact stE
        · subst h
          exact stE
      · rw [stM_at, stM_at, stM_at, stM_at, if_neg (by omega), if_neg (by omega), if_neg (by omega), if_neg (by omega)]
        exact a2 q q1 q2 j (by omega)
  exact pc_X8_copy hN hN2 M fun n1 _ => lp 10 0 n1 M rfl (fun _ _ => rfl) fun _ _ _ j hj => absurd hj (Nat.not_lt_zero j)
set_option maxRecDepth 20000 in
theorem p_copies {a b : Nat} (hne : a ≠ b) {M : MM} {n : Nat} (k : ∀ M1, (∀ c, c ≠ b → M1 c = M c) → (∀ j, j < 36 → M1 b j = M a j) → Q (vi 0) M1) : PC sc n m_X12_copies [vr a, vr b] M Q := by
  have lp : ∀ (m i n : Nat) (M1 : MM), i + m = 36 → (∀ c, c ≠ b → M1 c = M c) → (∀ j, j < i → M1 b j = M a j) → PW sc n m_X12_copies 2 [] [some (vr a), some (vr b), some (vi (i : Int))] M1 Q := by
    intro m
    induction m with
    | zero =>
      intro i n M1 hi a1 a2
      have hi : i = 36 := hi
      subst hi
      exact pw_X12_copies_2 _ _ _ M1 fun n1 _ => brT (by decide) (k _ a1 a2)
    | succ m ih =>
      intro i n M1 hi a1 a2
      refine pw_X12_copies_2 _ _ _ M1 fun n1 _ => ?_
      rw [show ((i : Int)).toNat = i by omega, show w32 ((i : Int) + 1) = ((i + 1 : Nat) : Int) from ew32 (by omega) (by omega)]
      refine brF (by omega) (gMB (gMB (ih (i + 1) n1 _ (by omega) (fun c hc => (stK hc).trans (a1 c hc)) fun j hj => ?_)))
      by_cases e : j = i
      · subst e
        exact stE.trans (congrFun (a1 a hne) j)
      · exact (stO e).trans (a2 j (by omega))
  exact pc_X12_copies _ _ M fun n1 _ => lp 36 0 n1 M rfl (fun _ _ => rfl) fun j hj => absurd hj (Nat.not_lt_zero j)
set_option maxRecDepth 20000 in
theorem p_hasC {v : Int} {k n : Nat} (hk : k < 32) {M : MM} (k0 : bit v k = false → ∀ x : Int, x = 0 → Q (vi x) M) (k1 : bit v k = true → ∀ x : Int, x = 1 → Q (vi x) M) : PC sc n m_X11_hasBit [vi v, vi (k : Int)] M Q := pc_X11_hasBit _ _ M fun n1 _ => by
  have h := btv_iff v hk
  unfold btv at h
  refine brP (fun q => k0 ?_ 0 rfl) fun q => k1 (h.mp (Classical.not_not.mp q)) 1 rfl
  cases z : bit v k
  · rfl
  · exact absurd (h.mpr z) q
/-! seed -/
def sdS (x : Int) (S : Nat → Int) (j : Nat) : Int := if j = 35 ∧ 0 ≤ x ∧ x ≤ 65535 then x else S j
def MdN_seed (x : Int) (M1 : MM) : Prop := nwP M1 (M1 81 8) (sdS x (M1 82)) (M1 81 61) (M1 84)
theorem nwO.st {N : Nat} {R R' : Nat → Int} (h : nwO M N R) (hc : ∀ i, 1 ≤ i → i ≤ 4 → ∀ j, j < 10 → M1 (N + i) j = M (N + i) j) (e : ∀ j, j < 32 → R' j = R j) (h4 : M1 N 4 = R' 32) (h6 : M1 N 6 = R' 34) (h7 : M1 N 7 = R' 35) (r : 0 ≤ R' 34 ∧ R' 34 ≤ 9999) : nwO M1 N R' := ⟨fun g hg => (h.1 g hg).cg (hc 1 (by decide) (by decide) g hg) (hc 2 (by decide) (by decide) g hg) (hc 3 (by decide) (by decide) g hg) (hc 4 (by decide) (by decide) g hg) (e g (by omega)) (e _ (by omega)) (e _ (by omega)) (e _ (by omega)) (e _ (by omega)), ⟨h4, h6, h7⟩, r⟩
theorem csN_seed {x : Int} (i0 : in32 x) (g : axG M) (V : rN M) : CA FF sc YF 59 m_X11_seed [vr 0, vi x] M (fun r M1 => (∃ y, r = vi y) ∧ MdN_seed x M1) := by
  obtain ⟨⟨a1, a2⟩, b, c⟩ := V
  refine ((cf_seed i0 g).and fun n => pc_X11_seed (Q := fun _ M1 => UpX M M1 → MdN_seed x M1) _ M fun n1 _ => p_isIn (fun h z hz => cI_i (brF (by omega) fun u => ?_)) fun h z hz => cI_i (brT (by omega) fun u => ?_)).mono fun r M1 q => ⟨q.1.1, q.2 q.1.2.2.1⟩
  · refine ⟨⟨a1, a2⟩, b.eq (fun _ _ _ _ _ => rfl) rfl rfl rfl fun j _ _ => ?_, c⟩
    unfold sdS
    rw [if_neg (by omega)]
  · refine ⟨⟨a1, a2⟩, b.st (fun i i1 i2 j _ => congrFun (stK (by omega)) j) (fun j hj => if_neg (by omega)) ((stO (by decide)).trans b.2.1.1) ((stO (by decide)).trans b.2.1.2.1) (stE.trans (if_pos ⟨rfl, h⟩).symm) b.2.2, fun z => (c z).eq (fun i i1 i2 j _ => congrFun (stK (by omega)) j) rfl rfl rfl .rf⟩
theorem msN_seed {x : Int} (i0 : in32 x) (g : axG M) (V : MdN_seed x M) : CA FF sc YF 59 m_X12_seed [vr 81, vi x] M (fun r M1 => (∃ y, r = vi y) ∧ rN M1) := by
  refine ((mf_seed i0 g).and fun n => pc_X12_seed (Q := fun _ M1 => LoX M M1 → rN M1) _ M fun n1 _ => p_in (fun h z hz => cI_i (brF (by omega) fun l => ?_)) fun h z hz => cI_i (brT (by omega) fun l => ?_)).mono fun r M1 q => ⟨q.1.1, q.2 q.1.2.2.1⟩
  · refine nwP.eq V (.lo l) (fun j _ _ => ?_) .rf
    unfold sdS
    rw [if_neg (by omega)]
  · refine nwP.eq V (.lo l) (fun j _ _ => ?_) .rf
    unfold sdS
    by_cases e : j = 35
    · subst e
      rw [if_pos ⟨rfl, h⟩]
      exact stE
    · rw [if_neg (fun z => e z.1)]
      exact stO e
/-! keep -/
def MdN_keep (x : Int) (M1 : MM) : Prop := x = M1 82 34 ∧ nwP M1 (M1 81 8) (M1 82) 1 (M1 82)
theorem csN_keep (g : axG M) (V : rN M) : CA FF sc YF 59 m_X11_keep [vr 0] M (fun r M1 => ∃ x, r = vi x ∧ MdN_keep x M1) := by
  obtain ⟨⟨a1, a2⟩, b, c⟩ := V
  refine ((cf_keep g).and fun n => pc_X11_keep (Q := fun r M1 => UpX M M1 → ∃ x, r = vi x ∧ MdN_keep x M1) M fun n1 _ => p_copyC (.inr (.inr rfl)) (.inr (.inl rfl)) (by decide) fun M1 f1 f2 f3 u => ⟨_, rfl, ?_, ⟨?_, stE⟩, ?_, fun _ => ?_⟩).mono fun r M1 q => q.2 q.1.2.2.1
  · rw [f1 46 (by decide), u 82 (by decide)]
    exact b.2.1.2.1
  · rw [stO (by decide), f1 0 (by decide), stK (by decide), f1 81 (by decide)]
    exact a1
  · exact b.eq (fun i i1 i2 j _ => by rw [stK (by omega), f1 _ (by omega)]) (by rw [stK (by decide), f1 46 (by decide)]) (by rw [stK (by decide), f1 46 (by decide)]) (by rw [stK (by decide), f1 46 (by decide)]) fun j _ _ => u 82 (by decide) j
  · exact b.eq (fun i i1 i2 j hj => by rw [stK (by omega)]; exact f2 i i1 i2 j hj) (by rw [stK (by decide)]; exact f3.1) (by rw [stK (by decide)]; exact f3.2.1) (by rw [stK (by decide)]; exact f3.2.2) fun j _ _ => u 82 (by decide) j
theorem msN_keep {x : Int} (g : axG M) (V : MdN_keep x M) : CA FF sc YF 59 m_X12_keep [vr 81] M (fun r M1 => ∃ y, r = vi y ∧ rN M1 ∧ y = x) := by
  refine ((mf_keep g).and fun n => pc_X12_keep (Q := fun r M1 => LoX M M1 → ∃ y, r = vi y ∧ rN M1 ∧ y = x) M fun n1 _ => p_copies (by decide) fun M1 f1 f2 l => ⟨_, rfl, ?_, ?_⟩).mono fun r M1 q => q.2 q.1.2.2.1
  · unfold rN
    rw [f1 81 (by decide), stE, stO (by decide), f1 82 (by decide), stK (by decide)]
    refine nwP.eq V.2 (.lo l) .rf fun j hj _ => ?_
    rw [f2 j hj, stK (by decide)]
  · rw [f1 82 (by decide), stK (by decide)]
    exact V.1.symm
/-! undo -/
def MdN_undo (M1 : MM) : Prop := (M1 81 61 = 0 → rN M1) ∧ (M1 81 61 ≠ 0 → nwP M1 (M1 81 8) (M1 84) (M1 81 61) (M1 84))
theorem csN_undo (g : axG M) (V : rN M) : CA FF sc YF 59 m_X11_undo [vr 0] M (fun r M1 => (∃ y, r = vi y) ∧ MdN_undo M1) := by
  obtain ⟨⟨a1, a2⟩, b, c⟩ := id V
  refine ((cf_undo g).and fun n => pc_X11_undo (Q := fun _ M1 => UpX M M1 → MdN_undo M1) M fun n1 _ => brP (fun h => gMB fun u => ⟨fun _ => V, fun z => absurd (a2.symm.trans h) z⟩) fun h => p_copyC (.inr (.inl rfl)) (.inr (.inr rfl)) (by decide) fun M1 f1 f2 f3 => gMB fun u => ?_).mono fun r M1 q => ⟨q.1.1, q.2 q.1.2.2.1⟩
  have h61 : M1 81 61 = M 81 61 := u 81 (by decide) 61
  have hf : M 81 61 ≠ 0 := by rw [← a2]; exact h
  refine ⟨fun z => absurd (h61.symm.trans z) hf, fun _ => ⟨⟨?_, ?_⟩, ?_, fun _ => ?_⟩⟩
  · rw [f1 0 (by decide), f1 81 (by decide)]
    exact a1
  · rw [f1 0 (by decide), f1 81 (by decide)]
    exact a2
  · exact (c hf).eq (fun i i1 i2 j hj => f2 i i1 i2 j hj) f3.1 f3.2.1 f3.2.2 fun j _ _ => u 84 (by decide) j
  · exact (c hf).eq (fun i i1 i2 j _ => by rw [f1 _ (by omega)]) (by rw [f1 51 (by decide)]) (by rw [f1 51 (by decide)]) (by rw [f1 51 (by decide)]) fun j _ _ => u 84 (by decide) j
theorem msN_undo (g : axG M) (V : MdN_undo M) : CA FF sc YF 59 m_X12_undo [vr 81] M (fun r M1 => (∃ y, r = vi y) ∧ rN M1) := by
  refine ((mf_undo g).and fun n => pc_X12_undo (Q := fun _ M1 => LoX M M1 → rN M1) M fun n1 _ => brP (fun h => p_copies (by decide) fun M1 f1 f2 l => ?_) fun h l => V.1 (Classical.not_not.mp h)).mono fun r M1 q => ⟨q.1.1, q.2 q.1.2.2.1⟩
  unfold rN
  rw [f1 81 (by decide), f1 84 (by decide)]
  exact nwP.eq (V.2 h) (.lo l) (fun j hj _ => f2 j hj) .rf
end NWR
