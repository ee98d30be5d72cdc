/-! PART 16: what is printed holds of the bytes and the tables -/
set_option maxRecDepth 100000 in
theorem okc_X12_ghostsFor : okC RTL rc_X12_ghostsFor = true := by decide +kernel
theorem okh_X12_ghostsFor : okH rc_X12_ghostsFor = true := by decide +kernel
set_option maxRecDepth 100000 in
theorem okc_X12_fromWhere : okC RTL rc_X12_fromWhere = true := by decide +kernel
theorem okh_X12_fromWhere : okH rc_X12_fromWhere = true := by decide +kernel
set_option maxRecDepth 100000 in
theorem okc_X12_sightings : okC RTL rc_X12_sightings = true := by decide +kernel
theorem okh_X12_sightings : okH rc_X12_sightings = true := by decide +kernel
set_option maxRecDepth 100000 in
theorem okc_X12_rotaState : okC RTL rc_X12_rotaState = true := by decide +kernel
theorem okh_X12_rotaState : okH rc_X12_rotaState = true := by decide +kernel
set_option maxRecDepth 100000 in
theorem okc_X12_countIn : okC RTL rc_X12_countIn = true := by decide +kernel
theorem okh_X12_countIn : okH rc_X12_countIn = true := by decide +kernel
set_option maxRecDepth 100000 in
theorem okc_X12_differs : okC RTL rc_X12_differs = true := by decide +kernel
theorem okh_X12_differs : okH rc_X12_differs = true := by decide +kernel
set_option maxRecDepth 100000 in
theorem okc_X12_mayNext : okC RTL rc_X12_mayNext = true := by decide +kernel
theorem okh_X12_mayNext : okH rc_X12_mayNext = true := by decide +kernel
set_option maxRecDepth 100000 in
theorem okc_X12_laysRotas : okC RTL rc_X12_laysRotas = true := by decide +kernel
theorem okh_X12_laysRotas : okH rc_X12_laysRotas = true := by decide +kernel
set_option maxRecDepth 100000 in
theorem okc_X12_sumOf : okC RTL rc_X12_sumOf = true := by decide +kernel
theorem okh_X12_sumOf : okH rc_X12_sumOf = true := by decide +kernel
set_option maxRecDepth 100000 in
theorem okc_X12_firstIn : okC RTL rc_X12_firstIn = true := by decide +kernel
theorem okh_X12_firstIn : okH rc_X12_firstIn = true := by decide +kernel
set_option maxRecDepth 100000 in
theorem okc_X12_rotas : okC RTL rc_X12_rotas = true := by decide +kernel
theorem okh_X12_rotas : okH rc_X12_rotas = true := by decide +kernel
set_option maxRecDepth 100000 in
theorem okc_X12_spotsSet : okC RTL rc_X12_spotsSet = true := by decide +kernel
theorem okh_X12_spotsSet : okH rc_X12_spotsSet = true := by decide +kernel
set_option maxRecDepth 100000 in
theorem okc_X12_draws : okC RTL rc_X12_draws = true := by decide +kernel
theorem okh_X12_draws : okH rc_X12_draws = true := by decide +kernel
set_option maxRecDepth 100000 in
theorem okc_X12_goes : okC RTL rc_X12_goes = true := by decide +kernel
theorem okh_X12_goes : okH rc_X12_goes = true := by decide +kernel
set_option maxRecDepth 100000 in
theorem okc_X12_without : okC RTL rc_X12_without = true := by decide +kernel
theorem okh_X12_without : okH rc_X12_without = true := by decide +kernel
set_option maxRecDepth 100000 in
theorem okc_X12_tens : okC RTL rc_X12_tens = true := by decide +kernel
theorem okh_X12_tens : okH rc_X12_tens = true := by decide +kernel
def RTp_15 : List Rec := [rc_X12_ghostsFor, rc_X12_fromWhere, rc_X12_sightings, rc_X12_rotaState, rc_X12_countIn, rc_X12_differs, rc_X12_mayNext, rc_X12_laysRotas, rc_X12_sumOf, rc_X12_firstIn, rc_X12_rotas, rc_X12_spotsSet, rc_X12_draws, rc_X12_goes, rc_X12_without, rc_X12_tens]
theorem okp_15 : ∀ R ∈ RTp_15, okC RTL R = true := List.forall_mem_cons.mpr ⟨okc_X12_ghostsFor, List.forall_mem_cons.mpr ⟨okc_X12_fromWhere, List.forall_mem_cons.mpr ⟨okc_X12_sightings, List.forall_mem_cons.mpr ⟨okc_X12_rotaState, List.forall_mem_cons.mpr ⟨okc_X12_countIn, List.forall_mem_cons.mpr ⟨okc_X12_differs, List.forall_mem_cons.mpr ⟨okc_X12_mayNext, List.forall_mem_cons.mpr ⟨okc_X12_laysRotas, List.forall_mem_cons.mpr ⟨okc_X12_sumOf, List.forall_mem_cons.mpr ⟨okc_X12_firstIn, List.forall_mem_cons.mpr ⟨okc_X12_rotas, List.forall_mem_cons.mpr ⟨okc_X12_spotsSet, List.forall_mem_cons.mpr ⟨okc_X12_draws, List.forall_mem_cons.mpr ⟨okc_X12_goes, List.forall_mem_cons.mpr ⟨okc_X12_without, List.forall_mem_cons.mpr ⟨okc_X12_tens, fun _ h => absurd h List.not_mem_nil⟩⟩⟩⟩⟩⟩⟩⟩⟩⟩⟩⟩⟩⟩⟩⟩
theorem ohp_15 : ∀ R ∈ RTp_15, rOwn R ≠ R_law0 → okH R = true := List.forall_mem_cons.mpr ⟨fun _ => okh_X12_ghostsFor, List.forall_mem_cons.mpr ⟨fun _ => okh_X12_fromWhere, List.forall_mem_cons.mpr ⟨fun _ => okh_X12_sightings, List.forall_mem_cons.mpr ⟨fun _ => okh_X12_rotaState, List.forall_mem_cons.mpr ⟨fun _ => okh_X12_countIn, List.forall_mem_cons.mpr ⟨fun _ => okh_X12_differs, List.forall_mem_cons.mpr ⟨fun _ => okh_X12_mayNext, List.forall_mem_cons.mpr ⟨fun _ => okh_X12_laysRotas, List.forall_mem_cons.mpr ⟨fun _ => okh_X12_sumOf, List.forall_mem_cons.mpr ⟨fun _ => okh_X12_firstIn, List.forall_mem_cons.mpr ⟨fun _ => okh_X12_rotas, List.forall_mem_cons.mpr ⟨fun _ => okh_X12_spotsSet, List.forall_mem_cons.mpr ⟨fun _ => okh_X12_draws, List.forall_mem_cons.mpr ⟨fun _ => okh_X12_goes, List.forall_mem_cons.mpr ⟨fun _ => okh_X12_without, List.forall_mem_cons.mpr ⟨fun _ => okh_X12_tens, fun _ h => absurd h List.not_mem_nil⟩⟩⟩⟩⟩⟩⟩⟩⟩⟩⟩⟩⟩⟩⟩⟩
set_option maxRecDepth 100000 in
theorem okc_X12_gcd : okC RTL rc_X12_gcd = true := by decide +kernel
theorem okh_X12_gcd : okH rc_X12_gcd = true := by decide +kernel
set_option maxRecDepth 100000 in
theorem okc_X12_odds : okC RTL rc_X12_odds = true := by decide +kernel
theorem okh_X12_odds : okH rc_X12_odds = true := by decide +kernel
set_option maxRecDepth 100000 in
theorem okc_X12_watered : okC RTL rc_X12_watered = true := by decide +kernel
theorem okh_X12_watered : okH rc_X12_watered = true := by decide +kernel
set_option maxRecDepth 100000 in
theorem okc_X12_tax : okC RTL rc_X12_tax = true := by decide +kernel
theorem okh_X12_tax : okH rc_X12_tax = true := by decide +kernel
set_option maxRecDepth 100000 in
theorem okc_X12_ledger : okC RTL rc_X12_ledger = true := by decide +kernel
theorem okh_X12_ledger : okH rc_X12_ledger = true := by decide +kernel
set_option maxRecDepth 100000 in
theorem okc_X12_greaterBy : okC RTL rc_X12_greaterBy = true := by decide +kernel
theorem okh_X12_greaterBy : okH rc_X12_greaterBy = true := by decide +kernel
set_option maxRecDepth 100000 in
theorem okc_X12_seed : okC RTL rc_X12_seed = true := by decide +kernel
theorem okh_X12_seed : okH rc_X12_seed = true := by decide +kernel
set_option maxRecDepth 100000 in
theorem okc_X12_keep : okC RTL rc_X12_keep = true := by decide +kernel
theorem okh_X12_keep : okH rc_X12_keep = true := by decide +kernel
set_option maxRecDepth 100000 in
theorem okc_X12_undo : okC RTL rc_X12_undo = true := by decide +kernel
theorem okh_X12_undo : okH rc_X12_undo = true := by decide +kernel
set_option maxRecDepth 100000 in
theorem okc_X12_tapeNumber : okC RTL rc_X12_tapeNumber = true := by decide +kernel
theorem okh_X12_tapeNumber : okH rc_X12_tapeNumber = true := by decide +kernel
set_option maxRecDepth 100000 in
theorem okc_X12_check : okC RTL rc_X12_check = true := by decide +kernel
theorem okh_X12_check : okH rc_X12_check = true := by decide +kernel
set_option maxRecDepth 100000 in
theorem okc_X12_count : okC RTL rc_X12_count = true := by decide +kernel
theorem okh_X12_count : okH rc_X12_count = true := by decide +kernel
set_option maxRecDepth 100000 in
theorem okc_L_law : okC RTL rc_L_law = true := by decide +kernel
def RTp_16 : List Rec := [rc_X12_gcd, rc_X12_odds, rc_X12_watered, rc_X12_tax, rc_X12_ledger, rc_X12_greaterBy, rc_X12_seed, rc_X12_keep, rc_X12_undo, rc_X12_tapeNumber, rc_X12_check, rc_X12_count, rc_L_law]
theorem okp_16 : ∀ R ∈ RTp_16, okC RTL R = true := List.forall_mem_cons.mpr ⟨okc_X12_gcd, List.forall_mem_cons.mpr ⟨okc_X12_odds, List.forall_mem_cons.mpr ⟨okc_X12_watered, List.forall_mem_cons.mpr ⟨okc_X12_tax, List.forall_mem_cons.mpr ⟨okc_X12_ledger, List.forall_mem_cons.mpr ⟨okc_X12_greaterBy, List.forall_mem_cons.mpr ⟨okc_X12_seed, List.forall_mem_cons.mpr ⟨okc_X12_keep, List.forall_mem_cons.mpr ⟨okc_X12_undo, List.forall_mem_cons.mpr ⟨okc_X12_tapeNumber, List.forall_mem_cons.mpr ⟨okc_X12_check, List.forall_mem_cons.mpr ⟨okc_X12_count, List.forall_mem_cons.mpr ⟨okc_L_law, fun _ h => absurd h List.not_mem_nil⟩⟩⟩⟩⟩⟩⟩⟩⟩⟩⟩⟩⟩
theorem ohp_16 : ∀ R ∈ RTp_16, rOwn R ≠ R_law0 → okH R = true := List.forall_mem_cons.mpr ⟨fun _ => okh_X12_gcd, List.forall_mem_cons.mpr ⟨fun _ => okh_X12_odds, List.forall_mem_cons.mpr ⟨fun _ => okh_X12_watered, List.forall_mem_cons.mpr ⟨fun _ => okh_X12_tax, List.forall_mem_cons.mpr ⟨fun _ => okh_X12_ledger, List.forall_mem_cons.mpr ⟨fun _ => okh_X12_greaterBy, List.forall_mem_cons.mpr ⟨fun _ => okh_X12_seed, List.forall_mem_cons.mpr ⟨fun _ => okh_X12_keep, List.forall_mem_cons.mpr ⟨fun _ => okh_X12_undo, List.forall_mem_cons.mpr ⟨fun _ => okh_X12_tapeNumber, List.forall_mem_cons.mpr ⟨fun _ => okh_X12_check, List.forall_mem_cons.mpr ⟨fun _ => okh_X12_count, List.forall_mem_cons.mpr ⟨fun h => absurd rfl h, fun _ h => absurd h List.not_mem_nil⟩⟩⟩⟩⟩⟩⟩⟩⟩⟩⟩⟩⟩
theorem RTL_eq : RTL = RTp_0 ++ (RTp_1 ++ (RTp_2 ++ (RTp_3 ++ (RTp_4 ++ (RTp_5 ++ (RTp_6 ++ (RTp_7 ++ (RTp_8 ++ (RTp_9 ++ (RTp_10 ++ (RTp_11 ++ (RTp_12 ++ (RTp_13 ++ (RTp_14 ++ (RTp_15 ++ (RTp_16)))))))))))))))) := rfl
theorem RTL_okC : ∀ (m : Nat) (R : Rec), RTL[m]? = some R → okC RTL R = true := by
  intro m R h
  have hm := List.mem_of_getElem? h
  revert R
  rw [RTL_eq]
  intro R _ hm
  exact (List.forall_mem_append.mpr ⟨okp_0, List.forall_mem_append.mpr ⟨okp_1, List.forall_mem_append.mpr ⟨okp_2, List.forall_mem_append.mpr ⟨okp_3, List.forall_mem_append.mpr ⟨okp_4, List.forall_mem_append.mpr ⟨okp_5, List.forall_mem_append.mpr ⟨okp_6, List.forall_mem_append.mpr ⟨okp_7, List.forall_mem_append.mpr ⟨okp_8, List.forall_mem_append.mpr ⟨okp_9, List.forall_mem_append.mpr ⟨okp_10, List.forall_mem_append.mpr ⟨okp_11, List.forall_mem_append.mpr ⟨okp_12, List.forall_mem_append.mpr ⟨okp_13, List.forall_mem_append.mpr ⟨okp_14, List.forall_mem_append.mpr ⟨okp_15, okp_16⟩⟩⟩⟩⟩⟩⟩⟩⟩⟩⟩⟩⟩⟩⟩⟩) R hm
theorem RTL_okH : ∀ (m : Nat) (R : Rec), RTL[m]? = some R → rOwn R ≠ R_law0 → okH R = true := by
  intro m R h
  have hm := List.mem_of_getElem? h
  revert R
  rw [RTL_eq]
  intro R _ hm
  exact (List.forall_mem_append.mpr ⟨ohp_0, List.forall_mem_append.mpr ⟨ohp_1, List.forall_mem_append.mpr ⟨ohp_2, List.forall_mem_append.mpr ⟨ohp_3, List.forall_mem_append.mpr ⟨ohp_4, List.forall_mem_append.mpr ⟨ohp_5, List.forall_mem_append.mpr ⟨ohp_6, List.forall_mem_append.mpr ⟨ohp_7, List.forall_mem_append.mpr ⟨ohp_8, List.forall_mem_append.mpr ⟨ohp_9, List.forall_mem_append.mpr ⟨ohp_10, List.forall_mem_append.mpr ⟨ohp_11, List.forall_mem_append.mpr ⟨ohp_12, List.forall_mem_append.mpr ⟨ohp_13, List.forall_mem_append.mpr ⟨ohp_14, List.forall_mem_append.mpr ⟨ohp_15, ohp_16⟩⟩⟩⟩⟩⟩⟩⟩⟩⟩⟩⟩⟩⟩⟩⟩) R hm
