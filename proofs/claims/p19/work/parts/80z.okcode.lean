/-! PART 16: what is printed holds of the bytes and the tables -/
set_option maxRecDepth 100000 in
theorem okc_X12_gcd : okC RTL rc_X12_gcd = true := by decide +kernel
theorem okh_X12_gcd : okH rc_X12_gcd = true := by decide +kernel
set_option maxRecDepth 100000 in
theorem okc_X12_odds : okC RTL rc_X12_odds = true := by decide +kernel
theorem okh_X12_odds : okH rc_X12_odds = true := by decide +kernel
set_option maxRecDepth 100000 in
theorem okc_X12_watered : okC RTL rc_X12_watered = true := by decide +kernel
theorem okh_X12_watered : okH rc_X12_watered = true := by decide +kernel
set_option maxRecDepth 100000 in
theorem okc_X12_tax : okC RTL rc_X12_tax = true := by decide +kernel
theorem okh_X12_tax : okH rc_X12_tax = true := by decide +kernel
set_option maxRecDepth 100000 in
theorem okc_X12_ledger : okC RTL rc_X12_ledger = true := by decide +kernel
theorem okh_X12_ledger : okH rc_X12_ledger = true := by decide +kernel
set_option maxRecDepth 100000 in
theorem okc_X12_greaterBy : okC RTL rc_X12_greaterBy = true := by decide +kernel
theorem okh_X12_greaterBy : okH rc_X12_greaterBy = true := by decide +kernel
set_option maxRecDepth 100000 in
theorem okc_X12_seed : okC RTL rc_X12_seed = true := by decide +kernel
theorem okh_X12_seed : okH rc_X12_seed = true := by decide +kernel
set_option maxRecDepth 100000 in
theorem okc_X12_keep : okC RTL rc_X12_keep = true := by decide +kernel
theorem okh_X12_keep : okH rc_X12_keep = true := by decide +kernel
set_option maxRecDepth 100000 in
theorem okc_X12_undo : okC RTL rc_X12_undo = true := by decide +kernel
theorem okh_X12_undo : okH rc_X12_undo = true := by decide +kernel
set_option maxRecDepth 100000 in
theorem okc_X12_tapeNumber : okC RTL rc_X12_tapeNumber = true := by decide +kernel
theorem okh_X12_tapeNumber : okH rc_X12_tapeNumber = true := by decide +kernel
set_option maxRecDepth 100000 in
theorem okc_X12_check : okC RTL rc_X12_check = true := by decide +kernel
theorem okh_X12_check : okH rc_X12_check = true := by decide +kernel
set_option maxRecDepth 100000 in
theorem okc_X12_count : okC RTL rc_X12_count = true := by decide +kernel
theorem okh_X12_count : okH rc_X12_count = true := by decide +kernel
theorem all_cut {α : Type} {p : α → Bool} (n : Nat) {l : List α} (h1 : (l.take n).all p = true) (h2 : (l.drop n).all p = true) : l.all p = true := by
  rw [← List.take_append_drop n l, List.all_append, h1, h2]
  rfl
set_option maxRecDepth 100000 in
theorem okl_0 : (((rCode rc_L_law).zipIdx.drop 0).take 30).all (fun p => okI RTL rc_L_law p.2 p.1) = true := by decide +kernel
set_option maxRecDepth 100000 in
theorem okl_30 : (((rCode rc_L_law).zipIdx.drop 30).take 30).all (fun p => okI RTL rc_L_law p.2 p.1) = true := by decide +kernel
set_option maxRecDepth 100000 in
theorem okl_60 : (((rCode rc_L_law).zipIdx.drop 60).take 30).all (fun p => okI RTL rc_L_law p.2 p.1) = true := by decide +kernel
set_option maxRecDepth 100000 in
theorem okl_90 : (((rCode rc_L_law).zipIdx.drop 90).take 30).all (fun p => okI RTL rc_L_law p.2 p.1) = true := by decide +kernel
set_option maxRecDepth 100000 in
theorem okl_120 : (((rCode rc_L_law).zipIdx.drop 120).take 30).all (fun p => okI RTL rc_L_law p.2 p.1) = true := by decide +kernel
set_option maxRecDepth 100000 in
theorem okl_150 : (((rCode rc_L_law).zipIdx.drop 150).take 30).all (fun p => okI RTL rc_L_law p.2 p.1) = true := by decide +kernel
set_option maxRecDepth 100000 in
theorem okl_180 : (((rCode rc_L_law).zipIdx.drop 180).take 30).all (fun p => okI RTL rc_L_law p.2 p.1) = true := by decide +kernel
set_option maxRecDepth 100000 in
theorem okl_210 : (((rCode rc_L_law).zipIdx.drop 210).take 30).all (fun p => okI RTL rc_L_law p.2 p.1) = true := by decide +kernel
set_option maxRecDepth 100000 in
theorem okl_240 : (((rCode rc_L_law).zipIdx.drop 240).take 30).all (fun p => okI RTL rc_L_law p.2 p.1) = true := by decide +kernel
set_option maxRecDepth 100000 in
theorem okl_270 : (((rCode rc_L_law).zipIdx.drop 270).take 30).all (fun p => okI RTL rc_L_law p.2 p.1) = true := by decide +kernel
set_option maxRecDepth 100000 in
theorem okl_300 : (((rCode rc_L_law).zipIdx.drop 300).take 30).all (fun p => okI RTL rc_L_law p.2 p.1) = true := by decide +kernel
set_option maxRecDepth 100000 in
theorem okl_330 : (((rCode rc_L_law).zipIdx.drop 330).take 30).all (fun p => okI RTL rc_L_law p.2 p.1) = true := by decide +kernel
set_option maxRecDepth 100000 in
theorem okl_360 : (((rCode rc_L_law).zipIdx.drop 360).take 30).all (fun p => okI RTL rc_L_law p.2 p.1) = true := by decide +kernel
set_option maxRecDepth 100000 in
theorem okl_390 : (((rCode rc_L_law).zipIdx.drop 390).take 30).all (fun p => okI RTL rc_L_law p.2 p.1) = true := by decide +kernel
set_option maxRecDepth 100000 in
theorem okl_420 : (((rCode rc_L_law).zipIdx.drop 420).take 30).all (fun p => okI RTL rc_L_law p.2 p.1) = true := by decide +kernel
set_option maxRecDepth 100000 in
theorem okl_450 : (((rCode rc_L_law).zipIdx.drop 450).take 30).all (fun p => okI RTL rc_L_law p.2 p.1) = true := by decide +kernel
set_option maxRecDepth 100000 in
theorem okl_480 : (((rCode rc_L_law).zipIdx.drop 480).take 30).all (fun p => okI RTL rc_L_law p.2 p.1) = true := by decide +kernel
set_option maxRecDepth 100000 in
theorem okl_510 : (((rCode rc_L_law).zipIdx.drop 510).take 30).all (fun p => okI RTL rc_L_law p.2 p.1) = true := by decide +kernel
set_option maxRecDepth 100000 in
theorem okl_540 : (((rCode rc_L_law).zipIdx.drop 540).take 30).all (fun p => okI RTL rc_L_law p.2 p.1) = true := by decide +kernel
set_option maxRecDepth 100000 in
theorem okl_570 : (((rCode rc_L_law).zipIdx.drop 570).take 30).all (fun p => okI RTL rc_L_law p.2 p.1) = true := by decide +kernel
set_option maxRecDepth 100000 in
theorem okl_600 : (((rCode rc_L_law).zipIdx.drop 600).take 30).all (fun p => okI RTL rc_L_law p.2 p.1) = true := by decide +kernel
set_option maxRecDepth 100000 in
theorem okl_630 : (((rCode rc_L_law).zipIdx.drop 630).take 30).all (fun p => okI RTL rc_L_law p.2 p.1) = true := by decide +kernel
set_option maxRecDepth 100000 in
theorem okl_660 : (((rCode rc_L_law).zipIdx.drop 660).take 30).all (fun p => okI RTL rc_L_law p.2 p.1) = true := by decide +kernel
set_option maxRecDepth 100000 in
theorem okl_690 : (((rCode rc_L_law).zipIdx.drop 690).take 30).all (fun p => okI RTL rc_L_law p.2 p.1) = true := by decide +kernel
set_option maxRecDepth 100000 in
theorem okl_720 : (((rCode rc_L_law).zipIdx.drop 720).take 30).all (fun p => okI RTL rc_L_law p.2 p.1) = true := by decide +kernel
set_option maxRecDepth 100000 in
theorem okl_750 : (((rCode rc_L_law).zipIdx.drop 750).take 30).all (fun p => okI RTL rc_L_law p.2 p.1) = true := by decide +kernel
set_option maxRecDepth 100000 in
theorem okl_780 : (((rCode rc_L_law).zipIdx.drop 780).take 30).all (fun p => okI RTL rc_L_law p.2 p.1) = true := by decide +kernel
set_option maxRecDepth 100000 in
theorem okl_end : ((rCode rc_L_law).zipIdx.drop 810).all (fun p => okI RTL rc_L_law p.2 p.1) = true := by decide +kernel
theorem okt_810 : ((rCode rc_L_law).zipIdx.drop 810).all (fun p => okI RTL rc_L_law p.2 p.1) = true := okl_end
theorem okt_780 : ((rCode rc_L_law).zipIdx.drop 780).all (fun p => okI RTL rc_L_law p.2 p.1) = true := all_cut 30 okl_780 (by rw [List.drop_drop]; exact okt_810)
theorem okt_750 : ((rCode rc_L_law).zipIdx.drop 750).all (fun p => okI RTL rc_L_law p.2 p.1) = true := all_cut 30 okl_750 (by rw [List.drop_drop]; exact okt_780)
theorem okt_720 : ((rCode rc_L_law).zipIdx.drop 720).all (fun p => okI RTL rc_L_law p.2 p.1) = true := all_cut 30 okl_720 (by rw [List.drop_drop]; exact okt_750)
theorem okt_690 : ((rCode rc_L_law).zipIdx.drop 690).all (fun p => okI RTL rc_L_law p.2 p.1) = true := all_cut 30 okl_690 (by rw [List.drop_drop]; exact okt_720)
theorem okt_660 : ((rCode rc_L_law).zipIdx.drop 660).all (fun p => okI RTL rc_L_law p.2 p.1) = true := all_cut 30 okl_660 (by rw [List.drop_drop]; exact okt_690)
theorem okt_630 : ((rCode rc_L_law).zipIdx.drop 630).all (fun p => okI RTL rc_L_law p.2 p.1) = true := all_cut 30 okl_630 (by rw [List.drop_drop]; exact okt_660)
theorem okt_600 : ((rCode rc_L_law).zipIdx.drop 600).all (fun p => okI RTL rc_L_law p.2 p.1) = true := all_cut 30 okl_600 (by rw [List.drop_drop]; exact okt_630)
theorem okt_570 : ((rCode rc_L_law).zipIdx.drop 570).all (fun p => okI RTL rc_L_law p.2 p.1) = true := all_cut 30 okl_570 (by rw [List.drop_drop]; exact okt_600)
theorem okt_540 : ((rCode rc_L_law).zipIdx.drop 540).all (fun p => okI RTL rc_L_law p.2 p.1) = true := all_cut 30 okl_540 (by rw [List.drop_drop]; exact okt_570)
theorem okt_510 : ((rCode rc_L_law).zipIdx.drop 510).all (fun p => okI RTL rc_L_law p.2 p.1) = true := all_cut 30 okl_510 (by rw [List.drop_drop]; exact okt_540)
theorem okt_480 : ((rCode rc_L_law).zipIdx.drop 480).all (fun p => okI RTL rc_L_law p.2 p.1) = true := all_cut 30 okl_480 (by rw [List.drop_drop]; exact okt_510)
theorem okt_450 : ((rCode rc_L_law).zipIdx.drop 450).all (fun p => okI RTL rc_L_law p.2 p.1) = true := all_cut 30 okl_450 (by rw [List.drop_drop]; exact okt_480)
theorem okt_420 : ((rCode rc_L_law).zipIdx.drop 420).all (fun p => okI RTL rc_L_law p.2 p.1) = true := all_cut 30 okl_420 (by rw [List.drop_drop]; exact okt_450)
theorem okt_390 : ((rCode rc_L_law).zipIdx.drop 390).all (fun p => okI RTL rc_L_law p.2 p.1) = true := all_cut 30 okl_390 (by rw [List.drop_drop]; exact okt_420)
theorem okt_360 : ((rCode rc_L_law).zipIdx.drop 360).all (fun p => okI RTL rc_L_law p.2 p.1) = true := all_cut 30 okl_360 (by rw [List.drop_drop]; exact okt_390)
theorem okt_330 : ((rCode rc_L_law).zipIdx.drop 330).all (fun p => okI RTL rc_L_law p.2 p.1) = true := all_cut 30 okl_330 (by rw [List.drop_drop]; exact okt_360)
theorem okt_300 : ((rCode rc_L_law).zipIdx.drop 300).all (fun p => okI RTL rc_L_law p.2 p.1) = true := all_cut 30 okl_300 (by rw [List.drop_drop]; exact okt_330)
theorem okt_270 : ((rCode rc_L_law).zipIdx.drop 270).all (fun p => okI RTL rc_L_law p.2 p.1) = true := all_cut 30 okl_270 (by rw [List.drop_drop]; exact okt_300)
theorem okt_240 : ((rCode rc_L_law).zipIdx.drop 240).all (fun p => okI RTL rc_L_law p.2 p.1) = true := all_cut 30 okl_240 (by rw [List.drop_drop]; exact okt_270)
theorem okt_210 : ((rCode rc_L_law).zipIdx.drop 210).all (fun p => okI RTL rc_L_law p.2 p.1) = true := all_cut 30 okl_210 (by rw [List.drop_drop]; exact okt_240)
theorem okt_180 : ((rCode rc_L_law).zipIdx.drop 180).all (fun p => okI RTL rc_L_law p.2 p.1) = true := all_cut 30 okl_180 (by rw [List.drop_drop]; exact okt_210)
theorem okt_150 : ((rCode rc_L_law).zipIdx.drop 150).all (fun p => okI RTL rc_L_law p.2 p.1) = true := all_cut 30 okl_150 (by rw [List.drop_drop]; exact okt_180)
theorem okt_120 : ((rCode rc_L_law).zipIdx.drop 120).all (fun p => okI RTL rc_L_law p.2 p.1) = true := all_cut 30 okl_120 (by rw [List.drop_drop]; exact okt_150)
theorem okt_90 : ((rCode rc_L_law).zipIdx.drop 90).all (fun p => okI RTL rc_L_law p.2 p.1) = true := all_cut 30 okl_90 (by rw [List.drop_drop]; exact okt_120)
theorem okt_60 : ((rCode rc_L_law).zipIdx.drop 60).all (fun p => okI RTL rc_L_law p.2 p.1) = true := all_cut 30 okl_60 (by rw [List.drop_drop]; exact okt_90)
theorem okt_30 : ((rCode rc_L_law).zipIdx.drop 30).all (fun p => okI RTL rc_L_law p.2 p.1) = true := all_cut 30 okl_30 (by rw [List.drop_drop]; exact okt_60)
theorem okt_0 : ((rCode rc_L_law).zipIdx.drop 0).all (fun p => okI RTL rc_L_law p.2 p.1) = true := all_cut 30 okl_0 (by rw [List.drop_drop]; exact okt_30)
theorem okc_L_law : okC RTL rc_L_law = true := okt_0
def RTp_16 : List Rec := [rc_X12_gcd, rc_X12_odds, rc_X12_watered, rc_X12_tax, rc_X12_ledger, rc_X12_greaterBy, rc_X12_seed, rc_X12_keep, rc_X12_undo, rc_X12_tapeNumber, rc_X12_check, rc_X12_count, rc_L_law]
theorem okp_16 : ∀ R ∈ RTp_16, okC RTL R = true := List.forall_mem_cons.mpr ⟨okc_X12_gcd, List.forall_mem_cons.mpr ⟨okc_X12_odds, List.forall_mem_cons.mpr ⟨okc_X12_watered, List.forall_mem_cons.mpr ⟨okc_X12_tax, List.forall_mem_cons.mpr ⟨okc_X12_ledger, List.forall_mem_cons.mpr ⟨okc_X12_greaterBy, List.forall_mem_cons.mpr ⟨okc_X12_seed, List.forall_mem_cons.mpr ⟨okc_X12_keep, List.forall_mem_cons.mpr ⟨okc_X12_undo, List.forall_mem_cons.mpr ⟨okc_X12_tapeNumber, List.forall_mem_cons.mpr ⟨okc_X12_check, List.forall_mem_cons.mpr ⟨okc_X12_count, List.forall_mem_cons.mpr ⟨okc_L_law, fun _ h => absurd h List.not_mem_nil⟩⟩⟩⟩⟩⟩⟩⟩⟩⟩⟩⟩⟩
theorem ohp_16 : ∀ R ∈ RTp_16, rOwn R ≠ R_law0 → okH R = true := List.forall_mem_cons.mpr ⟨fun _ => okh_X12_gcd, List.forall_mem_cons.mpr ⟨fun _ => okh_X12_odds, List.forall_mem_cons.mpr ⟨fun _ => okh_X12_watered, List.forall_mem_cons.mpr ⟨fun _ => okh_X12_tax, List.forall_mem_cons.mpr ⟨fun _ => okh_X12_ledger, List.forall_mem_cons.mpr ⟨fun _ => okh_X12_greaterBy, List.forall_mem_cons.mpr ⟨fun _ => okh_X12_seed, List.forall_mem_cons.mpr ⟨fun _ => okh_X12_keep, List.forall_mem_cons.mpr ⟨fun _ => okh_X12_undo, List.forall_mem_cons.mpr ⟨fun _ => okh_X12_tapeNumber, List.forall_mem_cons.mpr ⟨fun _ => okh_X12_check, List.forall_mem_cons.mpr ⟨fun _ => okh_X12_count, List.forall_mem_cons.mpr ⟨fun h => absurd rfl h, fun _ h => absurd h List.not_mem_nil⟩⟩⟩⟩⟩⟩⟩⟩⟩⟩⟩⟩⟩
set_option maxRecDepth 100000 in
theorem RTL_eq : RTL = RTp_0 ++ (RTp_1 ++ (RTp_2 ++ (RTp_3 ++ (RTp_4 ++ (RTp_5 ++ (RTp_6 ++ (RTp_7 ++ (RTp_8 ++ (RTp_9 ++ (RTp_10 ++ (RTp_11 ++ (RTp_12 ++ (RTp_13 ++ (RTp_14 ++ (RTp_15 ++ (RTp_16)))))))))))))))) := rfl
set_option maxRecDepth 100000 in
theorem RTL_okC : ∀ (m : Nat) (R : Rec), RTL[m]? = some R → okC RTL R = true := by
  intro m R h
  have hm := List.mem_of_getElem? h
  revert R
  rw [RTL_eq]
  intro R _ hm
  exact (List.forall_mem_append.mpr ⟨okp_0, List.forall_mem_append.mpr ⟨okp_1, List.forall_mem_append.mpr ⟨okp_2, List.forall_mem_append.mpr ⟨okp_3, List.forall_mem_append.mpr ⟨okp_4, List.forall_mem_append.mpr ⟨okp_5, List.forall_mem_append.mpr ⟨okp_6, List.forall_mem_append.mpr ⟨okp_7, List.forall_mem_append.mpr ⟨okp_8, List.forall_mem_append.mpr ⟨okp_9, List.forall_mem_append.mpr ⟨okp_10, List.forall_mem_append.mpr ⟨okp_11, List.forall_mem_append.mpr ⟨okp_12, List.forall_mem_append.mpr ⟨okp_13, List.forall_mem_append.mpr ⟨okp_14, List.forall_mem_append.mpr ⟨okp_15, okp_16⟩⟩⟩⟩⟩⟩⟩⟩⟩⟩⟩⟩⟩⟩⟩⟩) R hm
set_option maxRecDepth 100000 in
theorem RTL_okH : ∀ (m : Nat) (R : Rec), RTL[m]? = some R → rOwn R ≠ R_law0 → okH R = true := by
  intro m R h
  have hm := List.mem_of_getElem? h
  revert R
  rw [RTL_eq]
  intro R _ hm
  exact (List.forall_mem_append.mpr ⟨ohp_0, List.forall_mem_append.mpr ⟨ohp_1, List.forall_mem_append.mpr ⟨ohp_2, List.forall_mem_append.mpr ⟨ohp_3, List.forall_mem_append.mpr ⟨ohp_4, List.forall_mem_append.mpr ⟨ohp_5, List.forall_mem_append.mpr ⟨ohp_6, List.forall_mem_append.mpr ⟨ohp_7, List.forall_mem_append.mpr ⟨ohp_8, List.forall_mem_append.mpr ⟨ohp_9, List.forall_mem_append.mpr ⟨ohp_10, List.forall_mem_append.mpr ⟨ohp_11, List.forall_mem_append.mpr ⟨ohp_12, List.forall_mem_append.mpr ⟨ohp_13, List.forall_mem_append.mpr ⟨ohp_14, List.forall_mem_append.mpr ⟨ohp_15, ohp_16⟩⟩⟩⟩⟩⟩⟩⟩⟩⟩⟩⟩⟩⟩⟩⟩) R hm
