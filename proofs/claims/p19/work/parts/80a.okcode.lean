/-! PART 16: what is printed holds of the bytes and the tables -/
set_option maxRecDepth 100000 in
theorem okc_J6_bitCount_0f7a4 : okC RTL rc_J6_bitCount_0f7a4 = true := by decide +kernel
theorem okh_J6_bitCount_0f7a4 : okH rc_J6_bitCount_0f7a4 = true := by decide +kernel
set_option maxRecDepth 100000 in
theorem okc_X0_init : okC RTL rc_X0_init = true := by decide +kernel
theorem okh_X0_init : okH rc_X0_init = true := by decide +kernel
set_option maxRecDepth 100000 in
theorem okc_X0_factOf : okC RTL rc_X0_factOf = true := by decide +kernel
theorem okh_X0_factOf : okH rc_X0_factOf = true := by decide +kernel
set_option maxRecDepth 100000 in
theorem okc_X0_clear : okC RTL rc_X0_clear = true := by decide +kernel
theorem okh_X0_clear : okH rc_X0_clear = true := by decide +kernel
set_option maxRecDepth 100000 in
theorem okc_X0_openClause : okC RTL rc_X0_openClause = true := by decide +kernel
theorem okh_X0_openClause : okH rc_X0_openClause = true := by decide +kernel
set_option maxRecDepth 100000 in
theorem okc_X0_openCondition : okC RTL rc_X0_openCondition = true := by decide +kernel
theorem okh_X0_openCondition : okH rc_X0_openCondition = true := by decide +kernel
set_option maxRecDepth 100000 in
theorem okc_X0_add : okC RTL rc_X0_add = true := by decide +kernel
theorem okh_X0_add : okH rc_X0_add = true := by decide +kernel
set_option maxRecDepth 100000 in
theorem okc_X0_aim : okC RTL rc_X0_aim = true := by decide +kernel
theorem okh_X0_aim : okH rc_X0_aim = true := by decide +kernel
set_option maxRecDepth 100000 in
theorem okc_X0_fearOf : okC RTL rc_X0_fearOf = true := by decide +kernel
theorem okh_X0_fearOf : okH rc_X0_fearOf = true := by decide +kernel
set_option maxRecDepth 100000 in
theorem okc_X0_payOf : okC RTL rc_X0_payOf = true := by decide +kernel
theorem okh_X0_payOf : okH rc_X0_payOf = true := by decide +kernel
set_option maxRecDepth 100000 in
theorem okc_X0_tenths : okC RTL rc_X0_tenths = true := by decide +kernel
theorem okh_X0_tenths : okH rc_X0_tenths = true := by decide +kernel
set_option maxRecDepth 100000 in
theorem okc_X0_mayHaunt : okC RTL rc_X0_mayHaunt = true := by decide +kernel
theorem okh_X0_mayHaunt : okH rc_X0_mayHaunt = true := by decide +kernel
set_option maxRecDepth 100000 in
theorem okc_X0_tellNight : okC RTL rc_X0_tellNight = true := by decide +kernel
theorem okh_X0_tellNight : okH rc_X0_tellNight = true := by decide +kernel
set_option maxRecDepth 100000 in
theorem okc_X0_tellStranger : okC RTL rc_X0_tellStranger = true := by decide +kernel
theorem okh_X0_tellStranger : okH rc_X0_tellStranger = true := by decide +kernel
set_option maxRecDepth 100000 in
theorem okc_X0_worth : okC RTL rc_X0_worth = true := by decide +kernel
theorem okh_X0_worth : okH rc_X0_worth = true := by decide +kernel
set_option maxRecDepth 100000 in
theorem okc_X0_run : okC RTL rc_X0_run = true := by decide +kernel
theorem okh_X0_run : okH rc_X0_run = true := by decide +kernel
def RTp_0 : List Rec := [rc_J6_bitCount_0f7a4, rc_X0_init, rc_X0_factOf, rc_X0_clear, rc_X0_openClause, rc_X0_openCondition, rc_X0_add, rc_X0_aim, rc_X0_fearOf, rc_X0_payOf, rc_X0_tenths, rc_X0_mayHaunt, rc_X0_tellNight, rc_X0_tellStranger, rc_X0_worth, rc_X0_run]
theorem okp_0 : ∀ R ∈ RTp_0, okC RTL R = true := List.forall_mem_cons.mpr ⟨okc_J6_bitCount_0f7a4, List.forall_mem_cons.mpr ⟨okc_X0_init, List.forall_mem_cons.mpr ⟨okc_X0_factOf, List.forall_mem_cons.mpr ⟨okc_X0_clear, List.forall_mem_cons.mpr ⟨okc_X0_openClause, List.forall_mem_cons.mpr ⟨okc_X0_openCondition, List.forall_mem_cons.mpr ⟨okc_X0_add, List.forall_mem_cons.mpr ⟨okc_X0_aim, List.forall_mem_cons.mpr ⟨okc_X0_fearOf, List.forall_mem_cons.mpr ⟨okc_X0_payOf, List.forall_mem_cons.mpr ⟨okc_X0_tenths, List.forall_mem_cons.mpr ⟨okc_X0_mayHaunt, List.forall_mem_cons.mpr ⟨okc_X0_tellNight, List.forall_mem_cons.mpr ⟨okc_X0_tellStranger, List.forall_mem_cons.mpr ⟨okc_X0_worth, List.forall_mem_cons.mpr ⟨okc_X0_run, fun _ h => absurd h List.not_mem_nil⟩⟩⟩⟩⟩⟩⟩⟩⟩⟩⟩⟩⟩⟩⟩⟩
theorem ohp_0 : ∀ R ∈ RTp_0, rOwn R ≠ R_law0 → okH R = true := List.forall_mem_cons.mpr ⟨fun _ => okh_J6_bitCount_0f7a4, List.forall_mem_cons.mpr ⟨fun _ => okh_X0_init, List.forall_mem_cons.mpr ⟨fun _ => okh_X0_factOf, List.forall_mem_cons.mpr ⟨fun _ => okh_X0_clear, List.forall_mem_cons.mpr ⟨fun _ => okh_X0_openClause, List.forall_mem_cons.mpr ⟨fun _ => okh_X0_openCondition, List.forall_mem_cons.mpr ⟨fun _ => okh_X0_add, List.forall_mem_cons.mpr ⟨fun _ => okh_X0_aim, List.forall_mem_cons.mpr ⟨fun _ => okh_X0_fearOf, List.forall_mem_cons.mpr ⟨fun _ => okh_X0_payOf, List.forall_mem_cons.mpr ⟨fun _ => okh_X0_tenths, List.forall_mem_cons.mpr ⟨fun _ => okh_X0_mayHaunt, List.forall_mem_cons.mpr ⟨fun _ => okh_X0_tellNight, List.forall_mem_cons.mpr ⟨fun _ => okh_X0_tellStranger, List.forall_mem_cons.mpr ⟨fun _ => okh_X0_worth, List.forall_mem_cons.mpr ⟨fun _ => okh_X0_run, fun _ h => absurd h List.not_mem_nil⟩⟩⟩⟩⟩⟩⟩⟩⟩⟩⟩⟩⟩⟩⟩⟩
set_option maxRecDepth 100000 in
theorem okc_X0_work : okC RTL rc_X0_work = true := by decide +kernel
theorem okh_X0_work : okH rc_X0_work = true := by decide +kernel
set_option maxRecDepth 100000 in
theorem okc_X0_push : okC RTL rc_X0_push = true := by decide +kernel
theorem okh_X0_push : okH rc_X0_push = true := by decide +kernel
set_option maxRecDepth 100000 in
theorem okc_X0_pop : okC RTL rc_X0_pop = true := by decide +kernel
theorem okh_X0_pop : okH rc_X0_pop = true := by decide +kernel
set_option maxRecDepth 100000 in
theorem okc_X1_init : okC RTL rc_X1_init = true := by decide +kernel
theorem okh_X1_init : okH rc_X1_init = true := by decide +kernel
set_option maxRecDepth 100000 in
theorem okc_X1_read : okC RTL rc_X1_read = true := by decide +kernel
theorem okh_X1_read : okH rc_X1_read = true := by decide +kernel
set_option maxRecDepth 100000 in
theorem okc_X1_readClause : okC RTL rc_X1_readClause = true := by decide +kernel
theorem okh_X1_readClause : okH rc_X1_readClause = true := by decide +kernel
set_option maxRecDepth 100000 in
theorem okc_X1_readEither : okC RTL rc_X1_readEither = true := by decide +kernel
theorem okh_X1_readEither : okH rc_X1_readEither = true := by decide +kernel
set_option maxRecDepth 100000 in
theorem okc_X1_readBoth : okC RTL rc_X1_readBoth = true := by decide +kernel
theorem okh_X1_readBoth : okH rc_X1_readBoth = true := by decide +kernel
set_option maxRecDepth 100000 in
theorem okc_X1_readPiece : okC RTL rc_X1_readPiece = true := by decide +kernel
theorem okh_X1_readPiece : okH rc_X1_readPiece = true := by decide +kernel
set_option maxRecDepth 100000 in
theorem okc_X1_readOpen : okC RTL rc_X1_readOpen = true := by decide +kernel
theorem okh_X1_readOpen : okH rc_X1_readOpen = true := by decide +kernel
set_option maxRecDepth 100000 in
theorem okc_X1_readSum : okC RTL rc_X1_readSum = true := by decide +kernel
theorem okh_X1_readSum : okH rc_X1_readSum = true := by decide +kernel
set_option maxRecDepth 100000 in
theorem okc_X1_readTerm : okC RTL rc_X1_readTerm = true := by decide +kernel
theorem okh_X1_readTerm : okH rc_X1_readTerm = true := by decide +kernel
set_option maxRecDepth 100000 in
theorem okc_X1_readFactor : okC RTL rc_X1_readFactor = true := by decide +kernel
theorem okh_X1_readFactor : okH rc_X1_readFactor = true := by decide +kernel
set_option maxRecDepth 100000 in
theorem okc_X1_readNumber : okC RTL rc_X1_readNumber = true := by decide +kernel
theorem okh_X1_readNumber : okH rc_X1_readNumber = true := by decide +kernel
set_option maxRecDepth 100000 in
theorem okc_X1_next : okC RTL rc_X1_next = true := by decide +kernel
theorem okh_X1_next : okH rc_X1_next = true := by decide +kernel
set_option maxRecDepth 100000 in
theorem okc_X1_expect : okC RTL rc_X1_expect = true := by decide +kernel
theorem okh_X1_expect : okH rc_X1_expect = true := by decide +kernel
def RTp_1 : List Rec := [rc_X0_work, rc_X0_push, rc_X0_pop, rc_X1_init, rc_X1_read, rc_X1_readClause, rc_X1_readEither, rc_X1_readBoth, rc_X1_readPiece, rc_X1_readOpen, rc_X1_readSum, rc_X1_readTerm, rc_X1_readFactor, rc_X1_readNumber, rc_X1_next, rc_X1_expect]
theorem okp_1 : ∀ R ∈ RTp_1, okC RTL R = true := List.forall_mem_cons.mpr ⟨okc_X0_work, List.forall_mem_cons.mpr ⟨okc_X0_push, List.forall_mem_cons.mpr ⟨okc_X0_pop, List.forall_mem_cons.mpr ⟨okc_X1_init, List.forall_mem_cons.mpr ⟨okc_X1_read, List.forall_mem_cons.mpr ⟨okc_X1_readClause, List.forall_mem_cons.mpr ⟨okc_X1_readEither, List.forall_mem_cons.mpr ⟨okc_X1_readBoth, List.forall_mem_cons.mpr ⟨okc_X1_readPiece, List.forall_mem_cons.mpr ⟨okc_X1_readOpen, List.forall_mem_cons.mpr ⟨okc_X1_readSum, List.forall_mem_cons.mpr ⟨okc_X1_readTerm, List.forall_mem_cons.mpr ⟨okc_X1_readFactor, List.forall_mem_cons.mpr ⟨okc_X1_readNumber, List.forall_mem_cons.mpr ⟨okc_X1_next, List.forall_mem_cons.mpr ⟨okc_X1_expect, fun _ h => absurd h List.not_mem_nil⟩⟩⟩⟩⟩⟩⟩⟩⟩⟩⟩⟩⟩⟩⟩⟩
theorem ohp_1 : ∀ R ∈ RTp_1, rOwn R ≠ R_law0 → okH R = true := List.forall_mem_cons.mpr ⟨fun _ => okh_X0_work, List.forall_mem_cons.mpr ⟨fun _ => okh_X0_push, List.forall_mem_cons.mpr ⟨fun _ => okh_X0_pop, List.forall_mem_cons.mpr ⟨fun _ => okh_X1_init, List.forall_mem_cons.mpr ⟨fun _ => okh_X1_read, List.forall_mem_cons.mpr ⟨fun _ => okh_X1_readClause, List.forall_mem_cons.mpr ⟨fun _ => okh_X1_readEither, List.forall_mem_cons.mpr ⟨fun _ => okh_X1_readBoth, List.forall_mem_cons.mpr ⟨fun _ => okh_X1_readPiece, List.forall_mem_cons.mpr ⟨fun _ => okh_X1_readOpen, List.forall_mem_cons.mpr ⟨fun _ => okh_X1_readSum, List.forall_mem_cons.mpr ⟨fun _ => okh_X1_readTerm, List.forall_mem_cons.mpr ⟨fun _ => okh_X1_readFactor, List.forall_mem_cons.mpr ⟨fun _ => okh_X1_readNumber, List.forall_mem_cons.mpr ⟨fun _ => okh_X1_next, List.forall_mem_cons.mpr ⟨fun _ => okh_X1_expect, fun _ h => absurd h List.not_mem_nil⟩⟩⟩⟩⟩⟩⟩⟩⟩⟩⟩⟩⟩⟩⟩⟩
set_option maxRecDepth 100000 in
theorem okc_X1_fail : okC RTL rc_X1_fail = true := by decide +kernel
theorem okh_X1_fail : okH rc_X1_fail = true := by decide +kernel
set_option maxRecDepth 100000 in
theorem okc_X1_isDigit : okC RTL rc_X1_isDigit = true := by decide +kernel
theorem okh_X1_isDigit : okH rc_X1_isDigit = true := by decide +kernel
set_option maxRecDepth 100000 in
theorem okc_X2_init : okC RTL rc_X2_init = true := by decide +kernel
theorem okh_X2_init : okH rc_X2_init = true := by decide +kernel
set_option maxRecDepth 100000 in
theorem okc_X2_pass : okC RTL rc_X2_pass = true := by decide +kernel
theorem okh_X2_pass : okH rc_X2_pass = true := by decide +kernel
set_option maxRecDepth 100000 in
theorem okc_X2_start : okC RTL rc_X2_start = true := by decide +kernel
theorem okh_X2_start : okH rc_X2_start = true := by decide +kernel
set_option maxRecDepth 100000 in
theorem okc_X2_frighten : okC RTL rc_X2_frighten = true := by decide +kernel
theorem okh_X2_frighten : okH rc_X2_frighten = true := by decide +kernel
set_option maxRecDepth 100000 in
theorem okc_X2_barksAt : okC RTL rc_X2_barksAt = true := by decide +kernel
theorem okh_X2_barksAt : okH rc_X2_barksAt = true := by decide +kernel
set_option maxRecDepth 100000 in
theorem okc_X3_init : okC RTL rc_X3_init = true := by decide +kernel
theorem okh_X3_init : okH rc_X3_init = true := by decide +kernel
set_option maxRecDepth 100000 in
theorem okc_X3_measure : okC RTL rc_X3_measure = true := by decide +kernel
theorem okh_X3_measure : okH rc_X3_measure = true := by decide +kernel
set_option maxRecDepth 100000 in
theorem okc_X3_frighten : okC RTL rc_X3_frighten = true := by decide +kernel
theorem okh_X3_frighten : okH rc_X3_frighten = true := by decide +kernel
set_option maxRecDepth 100000 in
theorem okc_X3_stepOn : okC RTL rc_X3_stepOn = true := by decide +kernel
theorem okh_X3_stepOn : okH rc_X3_stepOn = true := by decide +kernel
set_option maxRecDepth 100000 in
theorem okc_X3_fearOn : okC RTL rc_X3_fearOn = true := by decide +kernel
theorem okh_X3_fearOn : okH rc_X3_fearOn = true := by decide +kernel
set_option maxRecDepth 100000 in
theorem okc_X3_chooseMost : okC RTL rc_X3_chooseMost = true := by decide +kernel
theorem okh_X3_chooseMost : okH rc_X3_chooseMost = true := by decide +kernel
set_option maxRecDepth 100000 in
theorem okc_X3_hide : okC RTL rc_X3_hide = true := by decide +kernel
theorem okh_X3_hide : okH rc_X3_hide = true := by decide +kernel
set_option maxRecDepth 100000 in
theorem okc_X3_cheapestOpen : okC RTL rc_X3_cheapestOpen = true := by decide +kernel
theorem okh_X3_cheapestOpen : okH rc_X3_cheapestOpen = true := by decide +kernel
set_option maxRecDepth 100000 in
theorem okc_X3_watchersOf : okC RTL rc_X3_watchersOf = true := by decide +kernel
theorem okh_X3_watchersOf : okH rc_X3_watchersOf = true := by decide +kernel
def RTp_2 : List Rec := [rc_X1_fail, rc_X1_isDigit, rc_X2_init, rc_X2_pass, rc_X2_start, rc_X2_frighten, rc_X2_barksAt, rc_X3_init, rc_X3_measure, rc_X3_frighten, rc_X3_stepOn, rc_X3_fearOn, rc_X3_chooseMost, rc_X3_hide, rc_X3_cheapestOpen, rc_X3_watchersOf]
theorem okp_2 : ∀ R ∈ RTp_2, okC RTL R = true := List.forall_mem_cons.mpr ⟨okc_X1_fail, List.forall_mem_cons.mpr ⟨okc_X1_isDigit, List.forall_mem_cons.mpr ⟨okc_X2_init, List.forall_mem_cons.mpr ⟨okc_X2_pass, List.forall_mem_cons.mpr ⟨okc_X2_start, List.forall_mem_cons.mpr ⟨okc_X2_frighten, List.forall_mem_cons.mpr ⟨okc_X2_barksAt, List.forall_mem_cons.mpr ⟨okc_X3_init, List.forall_mem_cons.mpr ⟨okc_X3_measure, List.forall_mem_cons.mpr ⟨okc_X3_frighten, List.forall_mem_cons.mpr ⟨okc_X3_stepOn, List.forall_mem_cons.mpr ⟨okc_X3_fearOn, List.forall_mem_cons.mpr ⟨okc_X3_chooseMost, List.forall_mem_cons.mpr ⟨okc_X3_hide, List.forall_mem_cons.mpr ⟨okc_X3_cheapestOpen, List.forall_mem_cons.mpr ⟨okc_X3_watchersOf, fun _ h => absurd h List.not_mem_nil⟩⟩⟩⟩⟩⟩⟩⟩⟩⟩⟩⟩⟩⟩⟩⟩
theorem ohp_2 : ∀ R ∈ RTp_2, rOwn R ≠ R_law0 → okH R = true := List.forall_mem_cons.mpr ⟨fun _ => okh_X1_fail, List.forall_mem_cons.mpr ⟨fun _ => okh_X1_isDigit, List.forall_mem_cons.mpr ⟨fun _ => okh_X2_init, List.forall_mem_cons.mpr ⟨fun _ => okh_X2_pass, List.forall_mem_cons.mpr ⟨fun _ => okh_X2_start, List.forall_mem_cons.mpr ⟨fun _ => okh_X2_frighten, List.forall_mem_cons.mpr ⟨fun _ => okh_X2_barksAt, List.forall_mem_cons.mpr ⟨fun _ => okh_X3_init, List.forall_mem_cons.mpr ⟨fun _ => okh_X3_measure, List.forall_mem_cons.mpr ⟨fun _ => okh_X3_frighten, List.forall_mem_cons.mpr ⟨fun _ => okh_X3_stepOn, List.forall_mem_cons.mpr ⟨fun _ => okh_X3_fearOn, List.forall_mem_cons.mpr ⟨fun _ => okh_X3_chooseMost, List.forall_mem_cons.mpr ⟨fun _ => okh_X3_hide, List.forall_mem_cons.mpr ⟨fun _ => okh_X3_cheapestOpen, List.forall_mem_cons.mpr ⟨fun _ => okh_X3_watchersOf, fun _ h => absurd h List.not_mem_nil⟩⟩⟩⟩⟩⟩⟩⟩⟩⟩⟩⟩⟩⟩⟩⟩
