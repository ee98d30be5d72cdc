/-! PART 16: what is printed holds of the bytes and the tables -/
set_option maxRecDepth 100000 in
theorem okc_X12_jumps : okC RTL rc_X12_jumps = true := by decide +kernel
theorem okh_X12_jumps : okH rc_X12_jumps = true := by decide +kernel
set_option maxRecDepth 100000 in
theorem okc_X12_readsCompared : okC RTL rc_X12_readsCompared = true := by decide +kernel
theorem okh_X12_readsCompared : okH rc_X12_readsCompared = true := by decide +kernel
set_option maxRecDepth 100000 in
theorem okc_X12_readsCondition : okC RTL rc_X12_readsCondition = true := by decide +kernel
theorem okh_X12_readsCondition : okH rc_X12_readsCondition = true := by decide +kernel
set_option maxRecDepth 100000 in
theorem okc_X12_isSpotAt : okC RTL rc_X12_isSpotAt = true := by decide +kernel
theorem okh_X12_isSpotAt : okH rc_X12_isSpotAt = true := by decide +kernel
set_option maxRecDepth 100000 in
theorem okc_X12_readsRow : okC RTL rc_X12_readsRow = true := by decide +kernel
theorem okh_X12_readsRow : okH rc_X12_readsRow = true := by decide +kernel
set_option maxRecDepth 100000 in
theorem okc_X12_quarter : okC RTL rc_X12_quarter = true := by decide +kernel
theorem okh_X12_quarter : okH rc_X12_quarter = true := by decide +kernel
set_option maxRecDepth 100000 in
theorem okc_X12_wayOf : okC RTL rc_X12_wayOf = true := by decide +kernel
theorem okh_X12_wayOf : okH rc_X12_wayOf = true := by decide +kernel
set_option maxRecDepth 100000 in
theorem okc_X12_repeats : okC RTL rc_X12_repeats = true := by decide +kernel
theorem okh_X12_repeats : okH rc_X12_repeats = true := by decide +kernel
set_option maxRecDepth 100000 in
theorem okc_X12_readsTimes : okC RTL rc_X12_readsTimes = true := by decide +kernel
theorem okh_X12_readsTimes : okH rc_X12_readsTimes = true := by decide +kernel
set_option maxRecDepth 100000 in
theorem okc_X12_readsStep : okC RTL rc_X12_readsStep = true := by decide +kernel
theorem okh_X12_readsStep : okH rc_X12_readsStep = true := by decide +kernel
set_option maxRecDepth 100000 in
theorem okc_X12_endsRounds : okC RTL rc_X12_endsRounds = true := by decide +kernel
theorem okh_X12_endsRounds : okH rc_X12_endsRounds = true := by decide +kernel
set_option maxRecDepth 100000 in
theorem okc_X12_walk : okC RTL rc_X12_walk = true := by decide +kernel
theorem okh_X12_walk : okH rc_X12_walk = true := by decide +kernel
set_option maxRecDepth 100000 in
theorem okc_X12_isClause : okC RTL rc_X12_isClause = true := by decide +kernel
theorem okh_X12_isClause : okH rc_X12_isClause = true := by decide +kernel
set_option maxRecDepth 100000 in
theorem okc_X12_readsClause : okC RTL rc_X12_readsClause = true := by decide +kernel
theorem okh_X12_readsClause : okH rc_X12_readsClause = true := by decide +kernel
set_option maxRecDepth 100000 in
theorem okc_X12_law : okC RTL rc_X12_law = true := by decide +kernel
theorem okh_X12_law : okH rc_X12_law = true := by decide +kernel
set_option maxRecDepth 100000 in
theorem okc_X12_reckon : okC RTL rc_X12_reckon = true := by decide +kernel
theorem okh_X12_reckon : okH rc_X12_reckon = true := by decide +kernel
def RTp_12 : List Rec := [rc_X12_jumps, rc_X12_readsCompared, rc_X12_readsCondition, rc_X12_isSpotAt, rc_X12_readsRow, rc_X12_quarter, rc_X12_wayOf, rc_X12_repeats, rc_X12_readsTimes, rc_X12_readsStep, rc_X12_endsRounds, rc_X12_walk, rc_X12_isClause, rc_X12_readsClause, rc_X12_law, rc_X12_reckon]
theorem okp_12 : ∀ R ∈ RTp_12, okC RTL R = true := List.forall_mem_cons.mpr ⟨okc_X12_jumps, List.forall_mem_cons.mpr ⟨okc_X12_readsCompared, List.forall_mem_cons.mpr ⟨okc_X12_readsCondition, List.forall_mem_cons.mpr ⟨okc_X12_isSpotAt, List.forall_mem_cons.mpr ⟨okc_X12_readsRow, List.forall_mem_cons.mpr ⟨okc_X12_quarter, List.forall_mem_cons.mpr ⟨okc_X12_wayOf, List.forall_mem_cons.mpr ⟨okc_X12_repeats, List.forall_mem_cons.mpr ⟨okc_X12_readsTimes, List.forall_mem_cons.mpr ⟨okc_X12_readsStep, List.forall_mem_cons.mpr ⟨okc_X12_endsRounds, List.forall_mem_cons.mpr ⟨okc_X12_walk, List.forall_mem_cons.mpr ⟨okc_X12_isClause, List.forall_mem_cons.mpr ⟨okc_X12_readsClause, List.forall_mem_cons.mpr ⟨okc_X12_law, List.forall_mem_cons.mpr ⟨okc_X12_reckon, fun _ h => absurd h List.not_mem_nil⟩⟩⟩⟩⟩⟩⟩⟩⟩⟩⟩⟩⟩⟩⟩⟩
theorem ohp_12 : ∀ R ∈ RTp_12, rOwn R ≠ R_law0 → okH R = true := List.forall_mem_cons.mpr ⟨fun _ => okh_X12_jumps, List.forall_mem_cons.mpr ⟨fun _ => okh_X12_readsCompared, List.forall_mem_cons.mpr ⟨fun _ => okh_X12_readsCondition, List.forall_mem_cons.mpr ⟨fun _ => okh_X12_isSpotAt, List.forall_mem_cons.mpr ⟨fun _ => okh_X12_readsRow, List.forall_mem_cons.mpr ⟨fun _ => okh_X12_quarter, List.forall_mem_cons.mpr ⟨fun _ => okh_X12_wayOf, List.forall_mem_cons.mpr ⟨fun _ => okh_X12_repeats, List.forall_mem_cons.mpr ⟨fun _ => okh_X12_readsTimes, List.forall_mem_cons.mpr ⟨fun _ => okh_X12_readsStep, List.forall_mem_cons.mpr ⟨fun _ => okh_X12_endsRounds, List.forall_mem_cons.mpr ⟨fun _ => okh_X12_walk, List.forall_mem_cons.mpr ⟨fun _ => okh_X12_isClause, List.forall_mem_cons.mpr ⟨fun _ => okh_X12_readsClause, List.forall_mem_cons.mpr ⟨fun _ => okh_X12_law, List.forall_mem_cons.mpr ⟨fun _ => okh_X12_reckon, fun _ h => absurd h List.not_mem_nil⟩⟩⟩⟩⟩⟩⟩⟩⟩⟩⟩⟩⟩⟩⟩⟩
set_option maxRecDepth 100000 in
theorem okc_X12_comesTo : okC RTL rc_X12_comesTo = true := by decide +kernel
theorem okh_X12_comesTo : okH rc_X12_comesTo = true := by decide +kernel
set_option maxRecDepth 100000 in
theorem okc_X12_byLaw : okC RTL rc_X12_byLaw = true := by decide +kernel
theorem okh_X12_byLaw : okH rc_X12_byLaw = true := by decide +kernel
set_option maxRecDepth 100000 in
theorem okc_X12_feels : okC RTL rc_X12_feels = true := by decide +kernel
theorem okh_X12_feels : okH rc_X12_feels = true := by decide +kernel
set_option maxRecDepth 100000 in
theorem okc_X12_mayHaunt : okC RTL rc_X12_mayHaunt = true := by decide +kernel
theorem okh_X12_mayHaunt : okH rc_X12_mayHaunt = true := by decide +kernel
set_option maxRecDepth 100000 in
theorem okc_X12_feelsStranger : okC RTL rc_X12_feelsStranger = true := by decide +kernel
theorem okh_X12_feelsStranger : okH rc_X12_feelsStranger = true := by decide +kernel
set_option maxRecDepth 100000 in
theorem okc_X12_fearOf : okC RTL rc_X12_fearOf = true := by decide +kernel
theorem okh_X12_fearOf : okH rc_X12_fearOf = true := by decide +kernel
set_option maxRecDepth 100000 in
theorem okc_X12_rumourOf : okC RTL rc_X12_rumourOf = true := by decide +kernel
theorem okh_X12_rumourOf : okH rc_X12_rumourOf = true := by decide +kernel
set_option maxRecDepth 100000 in
theorem okc_X12_stranger : okC RTL rc_X12_stranger = true := by decide +kernel
theorem okh_X12_stranger : okH rc_X12_stranger = true := by decide +kernel
set_option maxRecDepth 100000 in
theorem okc_X12_dog : okC RTL rc_X12_dog = true := by decide +kernel
theorem okh_X12_dog : okH rc_X12_dog = true := by decide +kernel
set_option maxRecDepth 100000 in
theorem okc_X12_tells : okC RTL rc_X12_tells = true := by decide +kernel
theorem okh_X12_tells : okH rc_X12_tells = true := by decide +kernel
set_option maxRecDepth 100000 in
theorem okc_X12_hand : okC RTL rc_X12_hand = true := by decide +kernel
theorem okh_X12_hand : okH rc_X12_hand = true := by decide +kernel
set_option maxRecDepth 100000 in
theorem okc_X12_minuteOf : okC RTL rc_X12_minuteOf = true := by decide +kernel
theorem okh_X12_minuteOf : okH rc_X12_minuteOf = true := by decide +kernel
set_option maxRecDepth 100000 in
theorem okc_X12_nightOf : okC RTL rc_X12_nightOf = true := by decide +kernel
theorem okh_X12_nightOf : okH rc_X12_nightOf = true := by decide +kernel
set_option maxRecDepth 100000 in
theorem okc_X12_haunts : okC RTL rc_X12_haunts = true := by decide +kernel
theorem okh_X12_haunts : okH rc_X12_haunts = true := by decide +kernel
set_option maxRecDepth 100000 in
theorem okc_X12_copies : okC RTL rc_X12_copies = true := by decide +kernel
theorem okh_X12_copies : okH rc_X12_copies = true := by decide +kernel
set_option maxRecDepth 100000 in
theorem okc_X12_tried : okC RTL rc_X12_tried = true := by decide +kernel
theorem okh_X12_tried : okH rc_X12_tried = true := by decide +kernel
def RTp_13 : List Rec := [rc_X12_comesTo, rc_X12_byLaw, rc_X12_feels, rc_X12_mayHaunt, rc_X12_feelsStranger, rc_X12_fearOf, rc_X12_rumourOf, rc_X12_stranger, rc_X12_dog, rc_X12_tells, rc_X12_hand, rc_X12_minuteOf, rc_X12_nightOf, rc_X12_haunts, rc_X12_copies, rc_X12_tried]
theorem okp_13 : ∀ R ∈ RTp_13, okC RTL R = true := List.forall_mem_cons.mpr ⟨okc_X12_comesTo, List.forall_mem_cons.mpr ⟨okc_X12_byLaw, List.forall_mem_cons.mpr ⟨okc_X12_feels, List.forall_mem_cons.mpr ⟨okc_X12_mayHaunt, List.forall_mem_cons.mpr ⟨okc_X12_feelsStranger, List.forall_mem_cons.mpr ⟨okc_X12_fearOf, List.forall_mem_cons.mpr ⟨okc_X12_rumourOf, List.forall_mem_cons.mpr ⟨okc_X12_stranger, List.forall_mem_cons.mpr ⟨okc_X12_dog, List.forall_mem_cons.mpr ⟨okc_X12_tells, List.forall_mem_cons.mpr ⟨okc_X12_hand, List.forall_mem_cons.mpr ⟨okc_X12_minuteOf, List.forall_mem_cons.mpr ⟨okc_X12_nightOf, List.forall_mem_cons.mpr ⟨okc_X12_haunts, List.forall_mem_cons.mpr ⟨okc_X12_copies, List.forall_mem_cons.mpr ⟨okc_X12_tried, fun _ h => absurd h List.not_mem_nil⟩⟩⟩⟩⟩⟩⟩⟩⟩⟩⟩⟩⟩⟩⟩⟩
theorem ohp_13 : ∀ R ∈ RTp_13, rOwn R ≠ R_law0 → okH R = true := List.forall_mem_cons.mpr ⟨fun _ => okh_X12_comesTo, List.forall_mem_cons.mpr ⟨fun _ => okh_X12_byLaw, List.forall_mem_cons.mpr ⟨fun _ => okh_X12_feels, List.forall_mem_cons.mpr ⟨fun _ => okh_X12_mayHaunt, List.forall_mem_cons.mpr ⟨fun _ => okh_X12_feelsStranger, List.forall_mem_cons.mpr ⟨fun _ => okh_X12_fearOf, List.forall_mem_cons.mpr ⟨fun _ => okh_X12_rumourOf, List.forall_mem_cons.mpr ⟨fun _ => okh_X12_stranger, List.forall_mem_cons.mpr ⟨fun _ => okh_X12_dog, List.forall_mem_cons.mpr ⟨fun _ => okh_X12_tells, List.forall_mem_cons.mpr ⟨fun _ => okh_X12_hand, List.forall_mem_cons.mpr ⟨fun _ => okh_X12_minuteOf, List.forall_mem_cons.mpr ⟨fun _ => okh_X12_nightOf, List.forall_mem_cons.mpr ⟨fun _ => okh_X12_haunts, List.forall_mem_cons.mpr ⟨fun _ => okh_X12_copies, List.forall_mem_cons.mpr ⟨fun _ => okh_X12_tried, fun _ h => absurd h List.not_mem_nil⟩⟩⟩⟩⟩⟩⟩⟩⟩⟩⟩⟩⟩⟩⟩⟩
set_option maxRecDepth 100000 in
theorem okc_X12_housesSeen : okC RTL rc_X12_housesSeen = true := by decide +kernel
theorem okh_X12_housesSeen : okH rc_X12_housesSeen = true := by decide +kernel
set_option maxRecDepth 100000 in
theorem okc_X12_strangerIs : okC RTL rc_X12_strangerIs = true := by decide +kernel
theorem okh_X12_strangerIs : okH rc_X12_strangerIs = true := by decide +kernel
set_option maxRecDepth 100000 in
theorem okc_X12_houseIs : okC RTL rc_X12_houseIs = true := by decide +kernel
theorem okh_X12_houseIs : okH rc_X12_houseIs = true := by decide +kernel
set_option maxRecDepth 100000 in
theorem okc_X12_watchedFrom : okC RTL rc_X12_watchedFrom = true := by decide +kernel
theorem okh_X12_watchedFrom : okH rc_X12_watchedFrom = true := by decide +kernel
set_option maxRecDepth 100000 in
theorem okc_X12_watch : okC RTL rc_X12_watch = true := by decide +kernel
theorem okh_X12_watch : okH rc_X12_watch = true := by decide +kernel
set_option maxRecDepth 100000 in
theorem okc_X12_feared : okC RTL rc_X12_feared = true := by decide +kernel
theorem okh_X12_feared : okH rc_X12_feared = true := by decide +kernel
set_option maxRecDepth 100000 in
theorem okc_X12_goesOn : okC RTL rc_X12_goesOn = true := by decide +kernel
theorem okh_X12_goesOn : okH rc_X12_goesOn = true := by decide +kernel
set_option maxRecDepth 100000 in
theorem okc_X12_meet : okC RTL rc_X12_meet = true := by decide +kernel
theorem okh_X12_meet : okH rc_X12_meet = true := by decide +kernel
set_option maxRecDepth 100000 in
theorem okc_X12_fearAt : okC RTL rc_X12_fearAt = true := by decide +kernel
theorem okh_X12_fearAt : okH rc_X12_fearAt = true := by decide +kernel
set_option maxRecDepth 100000 in
theorem okc_X12_dread : okC RTL rc_X12_dread = true := by decide +kernel
theorem okh_X12_dread : okH rc_X12_dread = true := by decide +kernel
set_option maxRecDepth 100000 in
theorem okc_X12_seers : okC RTL rc_X12_seers = true := by decide +kernel
theorem okh_X12_seers : okH rc_X12_seers = true := by decide +kernel
set_option maxRecDepth 100000 in
theorem okc_X12_laysCosts : okC RTL rc_X12_laysCosts = true := by decide +kernel
theorem okh_X12_laysCosts : okH rc_X12_laysCosts = true := by decide +kernel
set_option maxRecDepth 100000 in
theorem okc_X12_unseen : okC RTL rc_X12_unseen = true := by decide +kernel
theorem okh_X12_unseen : okH rc_X12_unseen = true := by decide +kernel
set_option maxRecDepth 100000 in
theorem okc_X12_areSights : okC RTL rc_X12_areSights = true := by decide +kernel
theorem okh_X12_areSights : okH rc_X12_areSights = true := by decide +kernel
set_option maxRecDepth 100000 in
theorem okc_X12_laysBoth : okC RTL rc_X12_laysBoth = true := by decide +kernel
theorem okh_X12_laysBoth : okH rc_X12_laysBoth = true := by decide +kernel
set_option maxRecDepth 100000 in
theorem okc_X12_areApart : okC RTL rc_X12_areApart = true := by decide +kernel
theorem okh_X12_areApart : okH rc_X12_areApart = true := by decide +kernel
def RTp_14 : List Rec := [rc_X12_housesSeen, rc_X12_strangerIs, rc_X12_houseIs, rc_X12_watchedFrom, rc_X12_watch, rc_X12_feared, rc_X12_goesOn, rc_X12_meet, rc_X12_fearAt, rc_X12_dread, rc_X12_seers, rc_X12_laysCosts, rc_X12_unseen, rc_X12_areSights, rc_X12_laysBoth, rc_X12_areApart]
theorem okp_14 : ∀ R ∈ RTp_14, okC RTL R = true := List.forall_mem_cons.mpr ⟨okc_X12_housesSeen, List.forall_mem_cons.mpr ⟨okc_X12_strangerIs, List.forall_mem_cons.mpr ⟨okc_X12_houseIs, List.forall_mem_cons.mpr ⟨okc_X12_watchedFrom, List.forall_mem_cons.mpr ⟨okc_X12_watch, List.forall_mem_cons.mpr ⟨okc_X12_feared, List.forall_mem_cons.mpr ⟨okc_X12_goesOn, List.forall_mem_cons.mpr ⟨okc_X12_meet, List.forall_mem_cons.mpr ⟨okc_X12_fearAt, List.forall_mem_cons.mpr ⟨okc_X12_dread, List.forall_mem_cons.mpr ⟨okc_X12_seers, List.forall_mem_cons.mpr ⟨okc_X12_laysCosts, List.forall_mem_cons.mpr ⟨okc_X12_unseen, List.forall_mem_cons.mpr ⟨okc_X12_areSights, List.forall_mem_cons.mpr ⟨okc_X12_laysBoth, List.forall_mem_cons.mpr ⟨okc_X12_areApart, fun _ h => absurd h List.not_mem_nil⟩⟩⟩⟩⟩⟩⟩⟩⟩⟩⟩⟩⟩⟩⟩⟩
theorem ohp_14 : ∀ R ∈ RTp_14, rOwn R ≠ R_law0 → okH R = true := List.forall_mem_cons.mpr ⟨fun _ => okh_X12_housesSeen, List.forall_mem_cons.mpr ⟨fun _ => okh_X12_strangerIs, List.forall_mem_cons.mpr ⟨fun _ => okh_X12_houseIs, List.forall_mem_cons.mpr ⟨fun _ => okh_X12_watchedFrom, List.forall_mem_cons.mpr ⟨fun _ => okh_X12_watch, List.forall_mem_cons.mpr ⟨fun _ => okh_X12_feared, List.forall_mem_cons.mpr ⟨fun _ => okh_X12_goesOn, List.forall_mem_cons.mpr ⟨fun _ => okh_X12_meet, List.forall_mem_cons.mpr ⟨fun _ => okh_X12_fearAt, List.forall_mem_cons.mpr ⟨fun _ => okh_X12_dread, List.forall_mem_cons.mpr ⟨fun _ => okh_X12_seers, List.forall_mem_cons.mpr ⟨fun _ => okh_X12_laysCosts, List.forall_mem_cons.mpr ⟨fun _ => okh_X12_unseen, List.forall_mem_cons.mpr ⟨fun _ => okh_X12_areSights, List.forall_mem_cons.mpr ⟨fun _ => okh_X12_laysBoth, List.forall_mem_cons.mpr ⟨fun _ => okh_X12_areApart, fun _ h => absurd h List.not_mem_nil⟩⟩⟩⟩⟩⟩⟩⟩⟩⟩⟩⟩⟩⟩⟩⟩
