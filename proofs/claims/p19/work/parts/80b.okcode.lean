/-! PART 16: what is printed holds of the bytes and the tables -/
set_option maxRecDepth 100000 in
theorem okc_X3_lookOut : okC RTL rc_X3_lookOut = true := by decide +kernel
theorem okh_X3_lookOut : okH rc_X3_lookOut = true := by decide +kernel
set_option maxRecDepth 100000 in
theorem okc_X3_countVisits : okC RTL rc_X3_countVisits = true := by decide +kernel
theorem okh_X3_countVisits : okH rc_X3_countVisits = true := by decide +kernel
set_option maxRecDepth 100000 in
theorem okc_X4_init : okC RTL rc_X4_init = true := by decide +kernel
theorem okh_X4_init : okH rc_X4_init = true := by decide +kernel
set_option maxRecDepth 100000 in
theorem okc_X4_plan : okC RTL rc_X4_plan = true := by decide +kernel
theorem okh_X4_plan : okH rc_X4_plan = true := by decide +kernel
set_option maxRecDepth 100000 in
theorem okc_X4_howMany : okC RTL rc_X4_howMany = true := by decide +kernel
theorem okh_X4_howMany : okH rc_X4_howMany = true := by decide +kernel
set_option maxRecDepth 100000 in
theorem okc_X4_howEven : okC RTL rc_X4_howEven = true := by decide +kernel
theorem okh_X4_howEven : okH rc_X4_howEven = true := by decide +kernel
set_option maxRecDepth 100000 in
theorem okc_X4_houseIn : okC RTL rc_X4_houseIn = true := by decide +kernel
theorem okh_X4_houseIn : okH rc_X4_houseIn = true := by decide +kernel
set_option maxRecDepth 100000 in
theorem okc_X4_firstMember : okC RTL rc_X4_firstMember = true := by decide +kernel
theorem okh_X4_firstMember : okH rc_X4_firstMember = true := by decide +kernel
set_option maxRecDepth 100000 in
theorem okc_X4_weigh : okC RTL rc_X4_weigh = true := by decide +kernel
theorem okh_X4_weigh : okH rc_X4_weigh = true := by decide +kernel
set_option maxRecDepth 100000 in
theorem okc_X4_canBe : okC RTL rc_X4_canBe = true := by decide +kernel
theorem okh_X4_canBe : okH rc_X4_canBe = true := by decide +kernel
set_option maxRecDepth 100000 in
theorem okc_X4_stateAfter : okC RTL rc_X4_stateAfter = true := by decide +kernel
theorem okh_X4_stateAfter : okH rc_X4_stateAfter = true := by decide +kernel
set_option maxRecDepth 100000 in
theorem okc_X4_stateOf : okC RTL rc_X4_stateOf = true := by decide +kernel
theorem okh_X4_stateOf : okH rc_X4_stateOf = true := by decide +kernel
set_option maxRecDepth 100000 in
theorem okc_X4_countOf : okC RTL rc_X4_countOf = true := by decide +kernel
theorem okh_X4_countOf : okH rc_X4_countOf = true := by decide +kernel
set_option maxRecDepth 100000 in
theorem okc_X4_nightsIn : okC RTL rc_X4_nightsIn = true := by decide +kernel
theorem okh_X4_nightsIn : okH rc_X4_nightsIn = true := by decide +kernel
set_option maxRecDepth 100000 in
theorem okc_X4_spreadOf : okC RTL rc_X4_spreadOf = true := by decide +kernel
theorem okh_X4_spreadOf : okH rc_X4_spreadOf = true := by decide +kernel
set_option maxRecDepth 100000 in
theorem okc_X5_pass : okC RTL rc_X5_pass = true := by decide +kernel
theorem okh_X5_pass : okH rc_X5_pass = true := by decide +kernel
def RTp_3 : List Rec := [rc_X3_lookOut, rc_X3_countVisits, rc_X4_init, rc_X4_plan, rc_X4_howMany, rc_X4_howEven, rc_X4_houseIn, rc_X4_firstMember, rc_X4_weigh, rc_X4_canBe, rc_X4_stateAfter, rc_X4_stateOf, rc_X4_countOf, rc_X4_nightsIn, rc_X4_spreadOf, rc_X5_pass]
theorem okp_3 : ∀ R ∈ RTp_3, okC RTL R = true := List.forall_mem_cons.mpr ⟨okc_X3_lookOut, List.forall_mem_cons.mpr ⟨okc_X3_countVisits, List.forall_mem_cons.mpr ⟨okc_X4_init, List.forall_mem_cons.mpr ⟨okc_X4_plan, List.forall_mem_cons.mpr ⟨okc_X4_howMany, List.forall_mem_cons.mpr ⟨okc_X4_howEven, List.forall_mem_cons.mpr ⟨okc_X4_houseIn, List.forall_mem_cons.mpr ⟨okc_X4_firstMember, List.forall_mem_cons.mpr ⟨okc_X4_weigh, List.forall_mem_cons.mpr ⟨okc_X4_canBe, List.forall_mem_cons.mpr ⟨okc_X4_stateAfter, List.forall_mem_cons.mpr ⟨okc_X4_stateOf, List.forall_mem_cons.mpr ⟨okc_X4_countOf, List.forall_mem_cons.mpr ⟨okc_X4_nightsIn, List.forall_mem_cons.mpr ⟨okc_X4_spreadOf, List.forall_mem_cons.mpr ⟨okc_X5_pass, fun _ h => absurd h List.not_mem_nil⟩⟩⟩⟩⟩⟩⟩⟩⟩⟩⟩⟩⟩⟩⟩⟩
theorem ohp_3 : ∀ R ∈ RTp_3, rOwn R ≠ R_law0 → okH R = true := List.forall_mem_cons.mpr ⟨fun _ => okh_X3_lookOut, List.forall_mem_cons.mpr ⟨fun _ => okh_X3_countVisits, List.forall_mem_cons.mpr ⟨fun _ => okh_X4_init, List.forall_mem_cons.mpr ⟨fun _ => okh_X4_plan, List.forall_mem_cons.mpr ⟨fun _ => okh_X4_howMany, List.forall_mem_cons.mpr ⟨fun _ => okh_X4_howEven, List.forall_mem_cons.mpr ⟨fun _ => okh_X4_houseIn, List.forall_mem_cons.mpr ⟨fun _ => okh_X4_firstMember, List.forall_mem_cons.mpr ⟨fun _ => okh_X4_weigh, List.forall_mem_cons.mpr ⟨fun _ => okh_X4_canBe, List.forall_mem_cons.mpr ⟨fun _ => okh_X4_stateAfter, List.forall_mem_cons.mpr ⟨fun _ => okh_X4_stateOf, List.forall_mem_cons.mpr ⟨fun _ => okh_X4_countOf, List.forall_mem_cons.mpr ⟨fun _ => okh_X4_nightsIn, List.forall_mem_cons.mpr ⟨fun _ => okh_X4_spreadOf, List.forall_mem_cons.mpr ⟨fun _ => okh_X5_pass, fun _ h => absurd h List.not_mem_nil⟩⟩⟩⟩⟩⟩⟩⟩⟩⟩⟩⟩⟩⟩⟩⟩
set_option maxRecDepth 100000 in
theorem okc_X5_allDraws : okC RTL rc_X5_allDraws = true := by decide +kernel
theorem okh_X5_allDraws : okH rc_X5_allDraws = true := by decide +kernel
set_option maxRecDepth 100000 in
theorem okc_X5_drawsThatTell : okC RTL rc_X5_drawsThatTell = true := by decide +kernel
theorem okh_X5_drawsThatTell : okH rc_X5_drawsThatTell = true := by decide +kernel
set_option maxRecDepth 100000 in
theorem okc_X5_drawsInAll : okC RTL rc_X5_drawsInAll = true := by decide +kernel
theorem okh_X5_drawsInAll : okH rc_X5_drawsInAll = true := by decide +kernel
set_option maxRecDepth 100000 in
theorem okc_X5_commonDivisor : okC RTL rc_X5_commonDivisor = true := by decide +kernel
theorem okh_X5_commonDivisor : okH rc_X5_commonDivisor = true := by decide +kernel
set_option maxRecDepth 100000 in
theorem okc_X6_init : okC RTL rc_X6_init = true := by decide +kernel
theorem okh_X6_init : okH rc_X6_init = true := by decide +kernel
set_option maxRecDepth 100000 in
theorem okc_X6_read : okC RTL rc_X6_read = true := by decide +kernel
theorem okh_X6_read : okH rc_X6_read = true := by decide +kernel
set_option maxRecDepth 100000 in
theorem okc_X6_link : okC RTL rc_X6_link = true := by decide +kernel
theorem okh_X6_link : okH rc_X6_link = true := by decide +kernel
set_option maxRecDepth 100000 in
theorem okc_X6_fewestGhosts : okC RTL rc_X6_fewestGhosts = true := by decide +kernel
theorem okh_X6_fewestGhosts : okH rc_X6_fewestGhosts = true := by decide +kernel
set_option maxRecDepth 100000 in
theorem okc_X6_areApart : okC RTL rc_X6_areApart = true := by decide +kernel
theorem okh_X6_areApart : okH rc_X6_areApart = true := by decide +kernel
set_option maxRecDepth 100000 in
theorem okc_X6_fromWhere : okC RTL rc_X6_fromWhere = true := by decide +kernel
theorem okh_X6_fromWhere : okH rc_X6_fromWhere = true := by decide +kernel
set_option maxRecDepth 100000 in
theorem okc_X7_init : okC RTL rc_X7_init = true := by decide +kernel
theorem okh_X7_init : okH rc_X7_init = true := by decide +kernel
set_option maxRecDepth 100000 in
theorem okc_X7_add : okC RTL rc_X7_add = true := by decide +kernel
theorem okh_X7_add : okH rc_X7_add = true := by decide +kernel
set_option maxRecDepth 100000 in
theorem okc_X7_empty : okC RTL rc_X7_empty = true := by decide +kernel
theorem okh_X7_empty : okH rc_X7_empty = true := by decide +kernel
set_option maxRecDepth 100000 in
theorem okc_X7_hasText : okC RTL rc_X7_hasText = true := by decide +kernel
theorem okh_X7_hasText : okH rc_X7_hasText = true := by decide +kernel
set_option maxRecDepth 100000 in
theorem okc_X7_at : okC RTL rc_X7_at = true := by decide +kernel
theorem okh_X7_at : okH rc_X7_at = true := by decide +kernel
set_option maxRecDepth 100000 in
theorem okc_X7_numberAt : okC RTL rc_X7_numberAt = true := by decide +kernel
theorem okh_X7_numberAt : okH rc_X7_numberAt = true := by decide +kernel
def RTp_4 : List Rec := [rc_X5_allDraws, rc_X5_drawsThatTell, rc_X5_drawsInAll, rc_X5_commonDivisor, rc_X6_init, rc_X6_read, rc_X6_link, rc_X6_fewestGhosts, rc_X6_areApart, rc_X6_fromWhere, rc_X7_init, rc_X7_add, rc_X7_empty, rc_X7_hasText, rc_X7_at, rc_X7_numberAt]
theorem okp_4 : ∀ R ∈ RTp_4, okC RTL R = true := List.forall_mem_cons.mpr ⟨okc_X5_allDraws, List.forall_mem_cons.mpr ⟨okc_X5_drawsThatTell, List.forall_mem_cons.mpr ⟨okc_X5_drawsInAll, List.forall_mem_cons.mpr ⟨okc_X5_commonDivisor, List.forall_mem_cons.mpr ⟨okc_X6_init, List.forall_mem_cons.mpr ⟨okc_X6_read, List.forall_mem_cons.mpr ⟨okc_X6_link, List.forall_mem_cons.mpr ⟨okc_X6_fewestGhosts, List.forall_mem_cons.mpr ⟨okc_X6_areApart, List.forall_mem_cons.mpr ⟨okc_X6_fromWhere, List.forall_mem_cons.mpr ⟨okc_X7_init, List.forall_mem_cons.mpr ⟨okc_X7_add, List.forall_mem_cons.mpr ⟨okc_X7_empty, List.forall_mem_cons.mpr ⟨okc_X7_hasText, List.forall_mem_cons.mpr ⟨okc_X7_at, List.forall_mem_cons.mpr ⟨okc_X7_numberAt, fun _ h => absurd h List.not_mem_nil⟩⟩⟩⟩⟩⟩⟩⟩⟩⟩⟩⟩⟩⟩⟩⟩
theorem ohp_4 : ∀ R ∈ RTp_4, rOwn R ≠ R_law0 → okH R = true := List.forall_mem_cons.mpr ⟨fun _ => okh_X5_allDraws, List.forall_mem_cons.mpr ⟨fun _ => okh_X5_drawsThatTell, List.forall_mem_cons.mpr ⟨fun _ => okh_X5_drawsInAll, List.forall_mem_cons.mpr ⟨fun _ => okh_X5_commonDivisor, List.forall_mem_cons.mpr ⟨fun _ => okh_X6_init, List.forall_mem_cons.mpr ⟨fun _ => okh_X6_read, List.forall_mem_cons.mpr ⟨fun _ => okh_X6_link, List.forall_mem_cons.mpr ⟨fun _ => okh_X6_fewestGhosts, List.forall_mem_cons.mpr ⟨fun _ => okh_X6_areApart, List.forall_mem_cons.mpr ⟨fun _ => okh_X6_fromWhere, List.forall_mem_cons.mpr ⟨fun _ => okh_X7_init, List.forall_mem_cons.mpr ⟨fun _ => okh_X7_add, List.forall_mem_cons.mpr ⟨fun _ => okh_X7_empty, List.forall_mem_cons.mpr ⟨fun _ => okh_X7_hasText, List.forall_mem_cons.mpr ⟨fun _ => okh_X7_at, List.forall_mem_cons.mpr ⟨fun _ => okh_X7_numberAt, fun _ h => absurd h List.not_mem_nil⟩⟩⟩⟩⟩⟩⟩⟩⟩⟩⟩⟩⟩⟩⟩⟩
set_option maxRecDepth 100000 in
theorem okc_X8_init : okC RTL rc_X8_init = true := by decide +kernel
theorem okh_X8_init : okH rc_X8_init = true := by decide +kernel
set_option maxRecDepth 100000 in
theorem okc_X8_copy : okC RTL rc_X8_copy = true := by decide +kernel
theorem okh_X8_copy : okH rc_X8_copy = true := by decide +kernel
set_option maxRecDepth 100000 in
theorem okc_X8_isTold : okC RTL rc_X8_isTold = true := by decide +kernel
theorem okh_X8_isTold : okH rc_X8_isTold = true := by decide +kernel
set_option maxRecDepth 100000 in
theorem okc_X8_putStranger : okC RTL rc_X8_putStranger = true := by decide +kernel
theorem okh_X8_putStranger : okH rc_X8_putStranger = true := by decide +kernel
set_option maxRecDepth 100000 in
theorem okc_X8_dropFromWalls : okC RTL rc_X8_dropFromWalls = true := by decide +kernel
theorem okh_X8_dropFromWalls : okH rc_X8_dropFromWalls = true := by decide +kernel
set_option maxRecDepth 100000 in
theorem okc_X8_sees : okC RTL rc_X8_sees = true := by decide +kernel
theorem okh_X8_sees : okH rc_X8_sees = true := by decide +kernel
set_option maxRecDepth 100000 in
theorem okc_X8_toldStrangers : okC RTL rc_X8_toldStrangers = true := by decide +kernel
theorem okh_X8_toldStrangers : okH rc_X8_toldStrangers = true := by decide +kernel
set_option maxRecDepth 100000 in
theorem okc_X8_paidStrangers : okC RTL rc_X8_paidStrangers = true := by decide +kernel
theorem okh_X8_paidStrangers : okH rc_X8_paidStrangers = true := by decide +kernel
set_option maxRecDepth 100000 in
theorem okc_X8_draw : okC RTL rc_X8_draw = true := by decide +kernel
theorem okh_X8_draw : okH rc_X8_draw = true := by decide +kernel
set_option maxRecDepth 100000 in
theorem okc_X9_init : okC RTL rc_X9_init = true := by decide +kernel
theorem okh_X9_init : okH rc_X9_init = true := by decide +kernel
set_option maxRecDepth 100000 in
theorem okc_X9_at : okC RTL rc_X9_at = true := by decide +kernel
theorem okh_X9_at : okH rc_X9_at = true := by decide +kernel
set_option maxRecDepth 100000 in
theorem okc_X9_isWall : okC RTL rc_X9_isWall = true := by decide +kernel
theorem okh_X9_isWall : okH rc_X9_isWall = true := by decide +kernel
set_option maxRecDepth 100000 in
theorem okc_X9_sees : okC RTL rc_X9_sees = true := by decide +kernel
theorem okh_X9_sees : okH rc_X9_sees = true := by decide +kernel
set_option maxRecDepth 100000 in
theorem okc_X9_after : okC RTL rc_X9_after = true := by decide +kernel
theorem okh_X9_after : okH rc_X9_after = true := by decide +kernel
set_option maxRecDepth 100000 in
theorem okc_X9_housesWithSpots : okC RTL rc_X9_housesWithSpots = true := by decide +kernel
theorem okh_X9_housesWithSpots : okH rc_X9_housesWithSpots = true := by decide +kernel
set_option maxRecDepth 100000 in
theorem okc_X9_housesSeenFrom : okC RTL rc_X9_housesSeenFrom = true := by decide +kernel
theorem okh_X9_housesSeenFrom : okH rc_X9_housesSeenFrom = true := by decide +kernel
def RTp_5 : List Rec := [rc_X8_init, rc_X8_copy, rc_X8_isTold, rc_X8_putStranger, rc_X8_dropFromWalls, rc_X8_sees, rc_X8_toldStrangers, rc_X8_paidStrangers, rc_X8_draw, rc_X9_init, rc_X9_at, rc_X9_isWall, rc_X9_sees, rc_X9_after, rc_X9_housesWithSpots, rc_X9_housesSeenFrom]
theorem okp_5 : ∀ R ∈ RTp_5, okC RTL R = true := List.forall_mem_cons.mpr ⟨okc_X8_init, List.forall_mem_cons.mpr ⟨okc_X8_copy, List.forall_mem_cons.mpr ⟨okc_X8_isTold, List.forall_mem_cons.mpr ⟨okc_X8_putStranger, List.forall_mem_cons.mpr ⟨okc_X8_dropFromWalls, List.forall_mem_cons.mpr ⟨okc_X8_sees, List.forall_mem_cons.mpr ⟨okc_X8_toldStrangers, List.forall_mem_cons.mpr ⟨okc_X8_paidStrangers, List.forall_mem_cons.mpr ⟨okc_X8_draw, List.forall_mem_cons.mpr ⟨okc_X9_init, List.forall_mem_cons.mpr ⟨okc_X9_at, List.forall_mem_cons.mpr ⟨okc_X9_isWall, List.forall_mem_cons.mpr ⟨okc_X9_sees, List.forall_mem_cons.mpr ⟨okc_X9_after, List.forall_mem_cons.mpr ⟨okc_X9_housesWithSpots, List.forall_mem_cons.mpr ⟨okc_X9_housesSeenFrom, fun _ h => absurd h List.not_mem_nil⟩⟩⟩⟩⟩⟩⟩⟩⟩⟩⟩⟩⟩⟩⟩⟩
theorem ohp_5 : ∀ R ∈ RTp_5, rOwn R ≠ R_law0 → okH R = true := List.forall_mem_cons.mpr ⟨fun _ => okh_X8_init, List.forall_mem_cons.mpr ⟨fun _ => okh_X8_copy, List.forall_mem_cons.mpr ⟨fun _ => okh_X8_isTold, List.forall_mem_cons.mpr ⟨fun _ => okh_X8_putStranger, List.forall_mem_cons.mpr ⟨fun _ => okh_X8_dropFromWalls, List.forall_mem_cons.mpr ⟨fun _ => okh_X8_sees, List.forall_mem_cons.mpr ⟨fun _ => okh_X8_toldStrangers, List.forall_mem_cons.mpr ⟨fun _ => okh_X8_paidStrangers, List.forall_mem_cons.mpr ⟨fun _ => okh_X8_draw, List.forall_mem_cons.mpr ⟨fun _ => okh_X9_init, List.forall_mem_cons.mpr ⟨fun _ => okh_X9_at, List.forall_mem_cons.mpr ⟨fun _ => okh_X9_isWall, List.forall_mem_cons.mpr ⟨fun _ => okh_X9_sees, List.forall_mem_cons.mpr ⟨fun _ => okh_X9_after, List.forall_mem_cons.mpr ⟨fun _ => okh_X9_housesWithSpots, List.forall_mem_cons.mpr ⟨fun _ => okh_X9_housesSeenFrom, fun _ h => absurd h List.not_mem_nil⟩⟩⟩⟩⟩⟩⟩⟩⟩⟩⟩⟩⟩⟩⟩⟩
