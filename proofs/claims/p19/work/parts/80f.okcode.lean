/-! PART 16: what is printed holds of the bytes and the tables -/
set_option maxRecDepth 100000 in
theorem okc_X12_ghostsFor : okC RTL rc_X12_ghostsFor = true := by decide +kernel
theorem okh_X12_ghostsFor : okH rc_X12_ghostsFor = true := by decide +kernel
set_option maxRecDepth 100000 in
theorem okc_X12_fromWhere : okC RTL rc_X12_fromWhere = true := by decide +kernel
theorem okh_X12_fromWhere : okH rc_X12_fromWhere = true := by decide +kernel
set_option maxRecDepth 100000 in
theorem okc_X12_sightings : okC RTL rc_X12_sightings = true := by decide +kernel
theorem okh_X12_sightings : okH rc_X12_sightings = true := by decide +kernel
set_option maxRecDepth 100000 in
theorem okc_X12_rotaState : okC RTL rc_X12_rotaState = true := by decide +kernel
theorem okh_X12_rotaState : okH rc_X12_rotaState = true := by decide +kernel
set_option maxRecDepth 100000 in
theorem okc_X12_countIn : okC RTL rc_X12_countIn = true := by decide +kernel
theorem okh_X12_countIn : okH rc_X12_countIn = true := by decide +kernel
set_option maxRecDepth 100000 in
theorem okc_X12_differs : okC RTL rc_X12_differs = true := by decide +kernel
theorem okh_X12_differs : okH rc_X12_differs = true := by decide +kernel
set_option maxRecDepth 100000 in
theorem okc_X12_mayNext : okC RTL rc_X12_mayNext = true := by decide +kernel
theorem okh_X12_mayNext : okH rc_X12_mayNext = true := by decide +kernel
set_option maxRecDepth 100000 in
theorem okc_X12_laysRotas : okC RTL rc_X12_laysRotas = true := by decide +kernel
theorem okh_X12_laysRotas : okH rc_X12_laysRotas = true := by decide +kernel
set_option maxRecDepth 100000 in
theorem okc_X12_sumOf : okC RTL rc_X12_sumOf = true := by decide +kernel
theorem okh_X12_sumOf : okH rc_X12_sumOf = true := by decide +kernel
set_option maxRecDepth 100000 in
theorem okc_X12_firstIn : okC RTL rc_X12_firstIn = true := by decide +kernel
theorem okh_X12_firstIn : okH rc_X12_firstIn = true := by decide +kernel
set_option maxRecDepth 100000 in
theorem okc_X12_rotas : okC RTL rc_X12_rotas = true := by decide +kernel
theorem okh_X12_rotas : okH rc_X12_rotas = true := by decide +kernel
set_option maxRecDepth 100000 in
theorem okc_X12_spotsSet : okC RTL rc_X12_spotsSet = true := by decide +kernel
theorem okh_X12_spotsSet : okH rc_X12_spotsSet = true := by decide +kernel
set_option maxRecDepth 100000 in
theorem okc_X12_draws : okC RTL rc_X12_draws = true := by decide +kernel
theorem okh_X12_draws : okH rc_X12_draws = true := by decide +kernel
set_option maxRecDepth 100000 in
theorem okc_X12_goes : okC RTL rc_X12_goes = true := by decide +kernel
theorem okh_X12_goes : okH rc_X12_goes = true := by decide +kernel
set_option maxRecDepth 100000 in
theorem okc_X12_without : okC RTL rc_X12_without = true := by decide +kernel
theorem okh_X12_without : okH rc_X12_without = true := by decide +kernel
set_option maxRecDepth 100000 in
theorem okc_X12_tens : okC RTL rc_X12_tens = true := by decide +kernel
theorem okh_X12_tens : okH rc_X12_tens = true := by decide +kernel
def RTp_15 : List Rec := [rc_X12_ghostsFor, rc_X12_fromWhere, rc_X12_sightings, rc_X12_rotaState, rc_X12_countIn, rc_X12_differs, rc_X12_mayNext, rc_X12_laysRotas, rc_X12_sumOf, rc_X12_firstIn, rc_X12_rotas, rc_X12_spotsSet, rc_X12_draws, rc_X12_goes, rc_X12_without, rc_X12_tens]
theorem okp_15 : ∀ R ∈ RTp_15, okC RTL R = true := List.forall_mem_cons.mpr ⟨okc_X12_ghostsFor, List.forall_mem_cons.mpr ⟨okc_X12_fromWhere, List.forall_mem_cons.mpr ⟨okc_X12_sightings, List.forall_mem_cons.mpr ⟨okc_X12_rotaState, List.forall_mem_cons.mpr ⟨okc_X12_countIn, List.forall_mem_cons.mpr ⟨okc_X12_differs, List.forall_mem_cons.mpr ⟨okc_X12_mayNext, List.forall_mem_cons.mpr ⟨okc_X12_laysRotas, List.forall_mem_cons.mpr ⟨okc_X12_sumOf, List.forall_mem_cons.mpr ⟨okc_X12_firstIn, List.forall_mem_cons.mpr ⟨okc_X12_rotas, List.forall_mem_cons.mpr ⟨okc_X12_spotsSet, List.forall_mem_cons.mpr ⟨okc_X12_draws, List.forall_mem_cons.mpr ⟨okc_X12_goes, List.forall_mem_cons.mpr ⟨okc_X12_without, List.forall_mem_cons.mpr ⟨okc_X12_tens, fun _ h => absurd h List.not_mem_nil⟩⟩⟩⟩⟩⟩⟩⟩⟩⟩⟩⟩⟩⟩⟩⟩
theorem ohp_15 : ∀ R ∈ RTp_15, rOwn R ≠ R_law0 → okH R = true := List.forall_mem_cons.mpr ⟨fun _ => okh_X12_ghostsFor, List.forall_mem_cons.mpr ⟨fun _ => okh_X12_fromWhere, List.forall_mem_cons.mpr ⟨fun _ => okh_X12_sightings, List.forall_mem_cons.mpr ⟨fun _ => okh_X12_rotaState, List.forall_mem_cons.mpr ⟨fun _ => okh_X12_countIn, List.forall_mem_cons.mpr ⟨fun _ => okh_X12_differs, List.forall_mem_cons.mpr ⟨fun _ => okh_X12_mayNext, List.forall_mem_cons.mpr ⟨fun _ => okh_X12_laysRotas, List.forall_mem_cons.mpr ⟨fun _ => okh_X12_sumOf, List.forall_mem_cons.mpr ⟨fun _ => okh_X12_firstIn, List.forall_mem_cons.mpr ⟨fun _ => okh_X12_rotas, List.forall_mem_cons.mpr ⟨fun _ => okh_X12_spotsSet, List.forall_mem_cons.mpr ⟨fun _ => okh_X12_draws, List.forall_mem_cons.mpr ⟨fun _ => okh_X12_goes, List.forall_mem_cons.mpr ⟨fun _ => okh_X12_without, List.forall_mem_cons.mpr ⟨fun _ => okh_X12_tens, fun _ h => absurd h List.not_mem_nil⟩⟩⟩⟩⟩⟩⟩⟩⟩⟩⟩⟩⟩⟩⟩⟩
