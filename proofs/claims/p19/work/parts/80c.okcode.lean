/-! PART 16: what is printed holds of the bytes and the tables -/
set_option maxRecDepth 100000 in
theorem okc_X9_read : okC RTL rc_X9_read = true := by decide +kernel
theorem okh_X9_read : okH rc_X9_read = true := by decide +kernel
set_option maxRecDepth 100000 in
theorem okc_X9_clear : okC RTL rc_X9_clear = true := by decide +kernel
theorem okh_X9_clear : okH rc_X9_clear = true := by decide +kernel
set_option maxRecDepth 100000 in
theorem okc_X9_endRow : okC RTL rc_X9_endRow = true := by decide +kernel
theorem okh_X9_endRow : okH rc_X9_endRow = true := by decide +kernel
set_option maxRecDepth 100000 in
theorem okc_X9_put : okC RTL rc_X9_put = true := by decide +kernel
theorem okh_X9_put : okH rc_X9_put = true := by decide +kernel
set_option maxRecDepth 100000 in
theorem okc_X9_putHouse : okC RTL rc_X9_putHouse = true := by decide +kernel
theorem okh_X9_putHouse : okH rc_X9_putHouse = true := by decide +kernel
set_option maxRecDepth 100000 in
theorem okc_X9_look : okC RTL rc_X9_look = true := by decide +kernel
theorem okh_X9_look : okH rc_X9_look = true := by decide +kernel
set_option maxRecDepth 100000 in
theorem okc_X9_lookAlong : okC RTL rc_X9_lookAlong = true := by decide +kernel
theorem okh_X9_lookAlong : okH rc_X9_lookAlong = true := by decide +kernel
set_option maxRecDepth 100000 in
theorem okc_X10_init : okC RTL rc_X10_init = true := by decide +kernel
theorem okh_X10_init : okH rc_X10_init = true := by decide +kernel
set_option maxRecDepth 100000 in
theorem okc_X10_read : okC RTL rc_X10_read = true := by decide +kernel
theorem okh_X10_read : okH rc_X10_read = true := by decide +kernel
set_option maxRecDepth 100000 in
theorem okc_X10_trace : okC RTL rc_X10_trace = true := by decide +kernel
theorem okh_X10_trace : okH rc_X10_trace = true := by decide +kernel
set_option maxRecDepth 100000 in
theorem okc_X10_meeting : okC RTL rc_X10_meeting = true := by decide +kernel
theorem okh_X10_meeting : okH rc_X10_meeting = true := by decide +kernel
set_option maxRecDepth 100000 in
theorem okc_X10_oneIn : okC RTL rc_X10_oneIn = true := by decide +kernel
theorem okh_X10_oneIn : okH rc_X10_oneIn = true := by decide +kernel
set_option maxRecDepth 100000 in
theorem okc_X10_otherIn : okC RTL rc_X10_otherIn = true := by decide +kernel
theorem okh_X10_otherIn : okH rc_X10_otherIn = true := by decide +kernel
set_option maxRecDepth 100000 in
theorem okc_X10_take : okC RTL rc_X10_take = true := by decide +kernel
theorem okh_X10_take : okH rc_X10_take = true := by decide +kernel
set_option maxRecDepth 100000 in
theorem okc_X10_addStep : okC RTL rc_X10_addStep = true := by decide +kernel
theorem okh_X10_addStep : okH rc_X10_addStep = true := by decide +kernel
set_option maxRecDepth 100000 in
theorem okc_X10_openGroup : okC RTL rc_X10_openGroup = true := by decide +kernel
theorem okh_X10_openGroup : okH rc_X10_openGroup = true := by decide +kernel
def RTp_6 : List Rec := [rc_X9_read, rc_X9_clear, rc_X9_endRow, rc_X9_put, rc_X9_putHouse, rc_X9_look, rc_X9_lookAlong, rc_X10_init, rc_X10_read, rc_X10_trace, rc_X10_meeting, rc_X10_oneIn, rc_X10_otherIn, rc_X10_take, rc_X10_addStep, rc_X10_openGroup]
theorem okp_6 : ∀ R ∈ RTp_6, okC RTL R = true := List.forall_mem_cons.mpr ⟨okc_X9_read, List.forall_mem_cons.mpr ⟨okc_X9_clear, List.forall_mem_cons.mpr ⟨okc_X9_endRow, List.forall_mem_cons.mpr ⟨okc_X9_put, List.forall_mem_cons.mpr ⟨okc_X9_putHouse, List.forall_mem_cons.mpr ⟨okc_X9_look, List.forall_mem_cons.mpr ⟨okc_X9_lookAlong, List.forall_mem_cons.mpr ⟨okc_X10_init, List.forall_mem_cons.mpr ⟨okc_X10_read, List.forall_mem_cons.mpr ⟨okc_X10_trace, List.forall_mem_cons.mpr ⟨okc_X10_meeting, List.forall_mem_cons.mpr ⟨okc_X10_oneIn, List.forall_mem_cons.mpr ⟨okc_X10_otherIn, List.forall_mem_cons.mpr ⟨okc_X10_take, List.forall_mem_cons.mpr ⟨okc_X10_addStep, List.forall_mem_cons.mpr ⟨okc_X10_openGroup, fun _ h => absurd h List.not_mem_nil⟩⟩⟩⟩⟩⟩⟩⟩⟩⟩⟩⟩⟩⟩⟩⟩
theorem ohp_6 : ∀ R ∈ RTp_6, rOwn R ≠ R_law0 → okH R = true := List.forall_mem_cons.mpr ⟨fun _ => okh_X9_read, List.forall_mem_cons.mpr ⟨fun _ => okh_X9_clear, List.forall_mem_cons.mpr ⟨fun _ => okh_X9_endRow, List.forall_mem_cons.mpr ⟨fun _ => okh_X9_put, List.forall_mem_cons.mpr ⟨fun _ => okh_X9_putHouse, List.forall_mem_cons.mpr ⟨fun _ => okh_X9_look, List.forall_mem_cons.mpr ⟨fun _ => okh_X9_lookAlong, List.forall_mem_cons.mpr ⟨fun _ => okh_X10_init, List.forall_mem_cons.mpr ⟨fun _ => okh_X10_read, List.forall_mem_cons.mpr ⟨fun _ => okh_X10_trace, List.forall_mem_cons.mpr ⟨fun _ => okh_X10_meeting, List.forall_mem_cons.mpr ⟨fun _ => okh_X10_oneIn, List.forall_mem_cons.mpr ⟨fun _ => okh_X10_otherIn, List.forall_mem_cons.mpr ⟨fun _ => okh_X10_take, List.forall_mem_cons.mpr ⟨fun _ => okh_X10_addStep, List.forall_mem_cons.mpr ⟨fun _ => okh_X10_openGroup, fun _ h => absurd h List.not_mem_nil⟩⟩⟩⟩⟩⟩⟩⟩⟩⟩⟩⟩⟩⟩⟩⟩
set_option maxRecDepth 100000 in
theorem okc_X10_closeGroup : okC RTL rc_X10_closeGroup = true := by decide +kernel
theorem okh_X10_closeGroup : okH rc_X10_closeGroup = true := by decide +kernel
set_option maxRecDepth 100000 in
theorem okc_X10_stepOf : okC RTL rc_X10_stepOf = true := by decide +kernel
theorem okh_X10_stepOf : okH rc_X10_stepOf = true := by decide +kernel
set_option maxRecDepth 100000 in
theorem okc_X11_init : okC RTL rc_X11_init = true := by decide +kernel
theorem okh_X11_init : okH rc_X11_init = true := by decide +kernel
set_option maxRecDepth 100000 in
theorem okc_X11_feed : okC RTL rc_X11_feed = true := by decide +kernel
theorem okh_X11_feed : okH rc_X11_feed = true := by decide +kernel
set_option maxRecDepth 100000 in
theorem okc_X11_quarter : okC RTL rc_X11_quarter = true := by decide +kernel
theorem okh_X11_quarter : okH rc_X11_quarter = true := by decide +kernel
set_option maxRecDepth 100000 in
theorem okc_X11_walk : okC RTL rc_X11_walk = true := by decide +kernel
theorem okh_X11_walk : okH rc_X11_walk = true := by decide +kernel
set_option maxRecDepth 100000 in
theorem okc_X11_law : okC RTL rc_X11_law = true := by decide +kernel
theorem okh_X11_law : okH rc_X11_law = true := by decide +kernel
set_option maxRecDepth 100000 in
theorem okc_X11_stranger : okC RTL rc_X11_stranger = true := by decide +kernel
theorem okh_X11_stranger : okH rc_X11_stranger = true := by decide +kernel
set_option maxRecDepth 100000 in
theorem okc_X11_dog : okC RTL rc_X11_dog = true := by decide +kernel
theorem okh_X11_dog : okH rc_X11_dog = true := by decide +kernel
set_option maxRecDepth 100000 in
theorem okc_X11_tells : okC RTL rc_X11_tells = true := by decide +kernel
theorem okh_X11_tells : okH rc_X11_tells = true := by decide +kernel
set_option maxRecDepth 100000 in
theorem okc_X11_haunts : okC RTL rc_X11_haunts = true := by decide +kernel
theorem okh_X11_haunts : okH rc_X11_haunts = true := by decide +kernel
set_option maxRecDepth 100000 in
theorem okc_X11_tried : okC RTL rc_X11_tried = true := by decide +kernel
theorem okh_X11_tried : okH rc_X11_tried = true := by decide +kernel
set_option maxRecDepth 100000 in
theorem okc_X11_strangerIs : okC RTL rc_X11_strangerIs = true := by decide +kernel
theorem okh_X11_strangerIs : okH rc_X11_strangerIs = true := by decide +kernel
set_option maxRecDepth 100000 in
theorem okc_X11_houseIs : okC RTL rc_X11_houseIs = true := by decide +kernel
theorem okh_X11_houseIs : okH rc_X11_houseIs = true := by decide +kernel
set_option maxRecDepth 100000 in
theorem okc_X11_meet : okC RTL rc_X11_meet = true := by decide +kernel
theorem okh_X11_meet : okH rc_X11_meet = true := by decide +kernel
set_option maxRecDepth 100000 in
theorem okc_X11_dread : okC RTL rc_X11_dread = true := by decide +kernel
theorem okh_X11_dread : okH rc_X11_dread = true := by decide +kernel
def RTp_7 : List Rec := [rc_X10_closeGroup, rc_X10_stepOf, rc_X11_init, rc_X11_feed, rc_X11_quarter, rc_X11_walk, rc_X11_law, rc_X11_stranger, rc_X11_dog, rc_X11_tells, rc_X11_haunts, rc_X11_tried, rc_X11_strangerIs, rc_X11_houseIs, rc_X11_meet, rc_X11_dread]
theorem okp_7 : ∀ R ∈ RTp_7, okC RTL R = true := List.forall_mem_cons.mpr ⟨okc_X10_closeGroup, List.forall_mem_cons.mpr ⟨okc_X10_stepOf, List.forall_mem_cons.mpr ⟨okc_X11_init, List.forall_mem_cons.mpr ⟨okc_X11_feed, List.forall_mem_cons.mpr ⟨okc_X11_quarter, List.forall_mem_cons.mpr ⟨okc_X11_walk, List.forall_mem_cons.mpr ⟨okc_X11_law, List.forall_mem_cons.mpr ⟨okc_X11_stranger, List.forall_mem_cons.mpr ⟨okc_X11_dog, List.forall_mem_cons.mpr ⟨okc_X11_tells, List.forall_mem_cons.mpr ⟨okc_X11_haunts, List.forall_mem_cons.mpr ⟨okc_X11_tried, List.forall_mem_cons.mpr ⟨okc_X11_strangerIs, List.forall_mem_cons.mpr ⟨okc_X11_houseIs, List.forall_mem_cons.mpr ⟨okc_X11_meet, List.forall_mem_cons.mpr ⟨okc_X11_dread, fun _ h => absurd h List.not_mem_nil⟩⟩⟩⟩⟩⟩⟩⟩⟩⟩⟩⟩⟩⟩⟩⟩
theorem ohp_7 : ∀ R ∈ RTp_7, rOwn R ≠ R_law0 → okH R = true := List.forall_mem_cons.mpr ⟨fun _ => okh_X10_closeGroup, List.forall_mem_cons.mpr ⟨fun _ => okh_X10_stepOf, List.forall_mem_cons.mpr ⟨fun _ => okh_X11_init, List.forall_mem_cons.mpr ⟨fun _ => okh_X11_feed, List.forall_mem_cons.mpr ⟨fun _ => okh_X11_quarter, List.forall_mem_cons.mpr ⟨fun _ => okh_X11_walk, List.forall_mem_cons.mpr ⟨fun _ => okh_X11_law, List.forall_mem_cons.mpr ⟨fun _ => okh_X11_stranger, List.forall_mem_cons.mpr ⟨fun _ => okh_X11_dog, List.forall_mem_cons.mpr ⟨fun _ => okh_X11_tells, List.forall_mem_cons.mpr ⟨fun _ => okh_X11_haunts, List.forall_mem_cons.mpr ⟨fun _ => okh_X11_tried, List.forall_mem_cons.mpr ⟨fun _ => okh_X11_strangerIs, List.forall_mem_cons.mpr ⟨fun _ => okh_X11_houseIs, List.forall_mem_cons.mpr ⟨fun _ => okh_X11_meet, List.forall_mem_cons.mpr ⟨fun _ => okh_X11_dread, fun _ h => absurd h List.not_mem_nil⟩⟩⟩⟩⟩⟩⟩⟩⟩⟩⟩⟩⟩⟩⟩⟩
set_option maxRecDepth 100000 in
theorem okc_X11_unseen : okC RTL rc_X11_unseen = true := by decide +kernel
theorem okh_X11_unseen : okH rc_X11_unseen = true := by decide +kernel
set_option maxRecDepth 100000 in
theorem okc_X11_watch : okC RTL rc_X11_watch = true := by decide +kernel
theorem okh_X11_watch : okH rc_X11_watch = true := by decide +kernel
set_option maxRecDepth 100000 in
theorem okc_X11_feared : okC RTL rc_X11_feared = true := by decide +kernel
theorem okh_X11_feared : okH rc_X11_feared = true := by decide +kernel
set_option maxRecDepth 100000 in
theorem okc_X11_sightings : okC RTL rc_X11_sightings = true := by decide +kernel
theorem okh_X11_sightings : okH rc_X11_sightings = true := by decide +kernel
set_option maxRecDepth 100000 in
theorem okc_X11_rotas : okC RTL rc_X11_rotas = true := by decide +kernel
theorem okh_X11_rotas : okH rc_X11_rotas = true := by decide +kernel
set_option maxRecDepth 100000 in
theorem okc_X11_goes : okC RTL rc_X11_goes = true := by decide +kernel
theorem okh_X11_goes : okH rc_X11_goes = true := by decide +kernel
set_option maxRecDepth 100000 in
theorem okc_X11_odds : okC RTL rc_X11_odds = true := by decide +kernel
theorem okh_X11_odds : okH rc_X11_odds = true := by decide +kernel
set_option maxRecDepth 100000 in
theorem okc_X11_watered : okC RTL rc_X11_watered = true := by decide +kernel
theorem okh_X11_watered : okH rc_X11_watered = true := by decide +kernel
set_option maxRecDepth 100000 in
theorem okc_X11_tax : okC RTL rc_X11_tax = true := by decide +kernel
theorem okh_X11_tax : okH rc_X11_tax = true := by decide +kernel
set_option maxRecDepth 100000 in
theorem okc_X11_hand : okC RTL rc_X11_hand = true := by decide +kernel
theorem okh_X11_hand : okH rc_X11_hand = true := by decide +kernel
set_option maxRecDepth 100000 in
theorem okc_X11_ledger : okC RTL rc_X11_ledger = true := by decide +kernel
theorem okh_X11_ledger : okH rc_X11_ledger = true := by decide +kernel
set_option maxRecDepth 100000 in
theorem okc_X11_seed : okC RTL rc_X11_seed = true := by decide +kernel
theorem okh_X11_seed : okH rc_X11_seed = true := by decide +kernel
set_option maxRecDepth 100000 in
theorem okc_X11_keep : okC RTL rc_X11_keep = true := by decide +kernel
theorem okh_X11_keep : okH rc_X11_keep = true := by decide +kernel
set_option maxRecDepth 100000 in
theorem okc_X11_undo : okC RTL rc_X11_undo = true := by decide +kernel
theorem okh_X11_undo : okH rc_X11_undo = true := by decide +kernel
set_option maxRecDepth 100000 in
theorem okc_X11_check : okC RTL rc_X11_check = true := by decide +kernel
theorem okh_X11_check : okH rc_X11_check = true := by decide +kernel
set_option maxRecDepth 100000 in
theorem okc_X11_count : okC RTL rc_X11_count = true := by decide +kernel
theorem okh_X11_count : okH rc_X11_count = true := by decide +kernel
def RTp_8 : List Rec := [rc_X11_unseen, rc_X11_watch, rc_X11_feared, rc_X11_sightings, rc_X11_rotas, rc_X11_goes, rc_X11_odds, rc_X11_watered, rc_X11_tax, rc_X11_hand, rc_X11_ledger, rc_X11_seed, rc_X11_keep, rc_X11_undo, rc_X11_check, rc_X11_count]
theorem okp_8 : ∀ R ∈ RTp_8, okC RTL R = true := List.forall_mem_cons.mpr ⟨okc_X11_unseen, List.forall_mem_cons.mpr ⟨okc_X11_watch, List.forall_mem_cons.mpr ⟨okc_X11_feared, List.forall_mem_cons.mpr ⟨okc_X11_sightings, List.forall_mem_cons.mpr ⟨okc_X11_rotas, List.forall_mem_cons.mpr ⟨okc_X11_goes, List.forall_mem_cons.mpr ⟨okc_X11_odds, List.forall_mem_cons.mpr ⟨okc_X11_watered, List.forall_mem_cons.mpr ⟨okc_X11_tax, List.forall_mem_cons.mpr ⟨okc_X11_hand, List.forall_mem_cons.mpr ⟨okc_X11_ledger, List.forall_mem_cons.mpr ⟨okc_X11_seed, List.forall_mem_cons.mpr ⟨okc_X11_keep, List.forall_mem_cons.mpr ⟨okc_X11_undo, List.forall_mem_cons.mpr ⟨okc_X11_check, List.forall_mem_cons.mpr ⟨okc_X11_count, fun _ h => absurd h List.not_mem_nil⟩⟩⟩⟩⟩⟩⟩⟩⟩⟩⟩⟩⟩⟩⟩⟩
theorem ohp_8 : ∀ R ∈ RTp_8, rOwn R ≠ R_law0 → okH R = true := List.forall_mem_cons.mpr ⟨fun _ => okh_X11_unseen, List.forall_mem_cons.mpr ⟨fun _ => okh_X11_watch, List.forall_mem_cons.mpr ⟨fun _ => okh_X11_feared, List.forall_mem_cons.mpr ⟨fun _ => okh_X11_sightings, List.forall_mem_cons.mpr ⟨fun _ => okh_X11_rotas, List.forall_mem_cons.mpr ⟨fun _ => okh_X11_goes, List.forall_mem_cons.mpr ⟨fun _ => okh_X11_odds, List.forall_mem_cons.mpr ⟨fun _ => okh_X11_watered, List.forall_mem_cons.mpr ⟨fun _ => okh_X11_tax, List.forall_mem_cons.mpr ⟨fun _ => okh_X11_hand, List.forall_mem_cons.mpr ⟨fun _ => okh_X11_ledger, List.forall_mem_cons.mpr ⟨fun _ => okh_X11_seed, List.forall_mem_cons.mpr ⟨fun _ => okh_X11_keep, List.forall_mem_cons.mpr ⟨fun _ => okh_X11_undo, List.forall_mem_cons.mpr ⟨fun _ => okh_X11_check, List.forall_mem_cons.mpr ⟨fun _ => okh_X11_count, fun _ h => absurd h List.not_mem_nil⟩⟩⟩⟩⟩⟩⟩⟩⟩⟩⟩⟩⟩⟩⟩⟩
