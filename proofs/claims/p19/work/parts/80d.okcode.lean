/-! PART 16: what is printed holds of the bytes and the tables -/
set_option maxRecDepth 100000 in
theorem okc_X11_isIn : okC RTL rc_X11_isIn = true := by decide +kernel
theorem okh_X11_isIn : okH rc_X11_isIn = true := by decide +kernel
set_option maxRecDepth 100000 in
theorem okc_X11_hasBit : okC RTL rc_X11_hasBit = true := by decide +kernel
theorem okh_X11_hasBit : okH rc_X11_hasBit = true := by decide +kernel
set_option maxRecDepth 100000 in
theorem okc_X11_isHouse : okC RTL rc_X11_isHouse = true := by decide +kernel
theorem okh_X11_isHouse : okH rc_X11_isHouse = true := by decide +kernel
set_option maxRecDepth 100000 in
theorem okc_X11_isStranger : okC RTL rc_X11_isStranger = true := by decide +kernel
theorem okh_X11_isStranger : okH rc_X11_isStranger = true := by decide +kernel
set_option maxRecDepth 100000 in
theorem okc_X11_faultAt : okC RTL rc_X11_faultAt = true := by decide +kernel
theorem okh_X11_faultAt : okH rc_X11_faultAt = true := by decide +kernel
set_option maxRecDepth 100000 in
theorem okc_X11_stepsBetween : okC RTL rc_X11_stepsBetween = true := by decide +kernel
theorem okh_X11_stepsBetween : okH rc_X11_stepsBetween = true := by decide +kernel
set_option maxRecDepth 100000 in
theorem okc_X11_hasSpot : okC RTL rc_X11_hasSpot = true := by decide +kernel
theorem okh_X11_hasSpot : okH rc_X11_hasSpot = true := by decide +kernel
set_option maxRecDepth 100000 in
theorem okc_X11_canHaunt : okC RTL rc_X11_canHaunt = true := by decide +kernel
theorem okh_X11_canHaunt : okH rc_X11_canHaunt = true := by decide +kernel
set_option maxRecDepth 100000 in
theorem okc_X11_dogOf : okC RTL rc_X11_dogOf = true := by decide +kernel
theorem okh_X11_dogOf : okH rc_X11_dogOf = true := by decide +kernel
set_option maxRecDepth 100000 in
theorem okc_X11_dogsAgainst : okC RTL rc_X11_dogsAgainst = true := by decide +kernel
theorem okh_X11_dogsAgainst : okH rc_X11_dogsAgainst = true := by decide +kernel
set_option maxRecDepth 100000 in
theorem okc_X11_triedFurther : okC RTL rc_X11_triedFurther = true := by decide +kernel
theorem okh_X11_triedFurther : okH rc_X11_triedFurther = true := by decide +kernel
set_option maxRecDepth 100000 in
theorem okc_X11_canShare : okC RTL rc_X11_canShare = true := by decide +kernel
theorem okh_X11_canShare : okH rc_X11_canShare = true := by decide +kernel
set_option maxRecDepth 100000 in
theorem okc_X11_taxShare : okC RTL rc_X11_taxShare = true := by decide +kernel
theorem okh_X11_taxShare : okH rc_X11_taxShare = true := by decide +kernel
set_option maxRecDepth 100000 in
theorem okc_X11_housesThatFit : okC RTL rc_X11_housesThatFit = true := by decide +kernel
theorem okh_X11_housesThatFit : okH rc_X11_housesThatFit = true := by decide +kernel
set_option maxRecDepth 100000 in
theorem okc_X11_markThatTells : okC RTL rc_X11_markThatTells = true := by decide +kernel
theorem okh_X11_markThatTells : okH rc_X11_markThatTells = true := by decide +kernel
set_option maxRecDepth 100000 in
theorem okc_X12_init : okC RTL rc_X12_init = true := by decide +kernel
theorem okh_X12_init : okH rc_X12_init = true := by decide +kernel
def RTp_9 : List Rec := [rc_X11_isIn, rc_X11_hasBit, rc_X11_isHouse, rc_X11_isStranger, rc_X11_faultAt, rc_X11_stepsBetween, rc_X11_hasSpot, rc_X11_canHaunt, rc_X11_dogOf, rc_X11_dogsAgainst, rc_X11_triedFurther, rc_X11_canShare, rc_X11_taxShare, rc_X11_housesThatFit, rc_X11_markThatTells, rc_X12_init]
theorem okp_9 : ∀ R ∈ RTp_9, okC RTL R = true := List.forall_mem_cons.mpr ⟨okc_X11_isIn, List.forall_mem_cons.mpr ⟨okc_X11_hasBit, List.forall_mem_cons.mpr ⟨okc_X11_isHouse, List.forall_mem_cons.mpr ⟨okc_X11_isStranger, List.forall_mem_cons.mpr ⟨okc_X11_faultAt, List.forall_mem_cons.mpr ⟨okc_X11_stepsBetween, List.forall_mem_cons.mpr ⟨okc_X11_hasSpot, List.forall_mem_cons.mpr ⟨okc_X11_canHaunt, List.forall_mem_cons.mpr ⟨okc_X11_dogOf, List.forall_mem_cons.mpr ⟨okc_X11_dogsAgainst, List.forall_mem_cons.mpr ⟨okc_X11_triedFurther, List.forall_mem_cons.mpr ⟨okc_X11_canShare, List.forall_mem_cons.mpr ⟨okc_X11_taxShare, List.forall_mem_cons.mpr ⟨okc_X11_housesThatFit, List.forall_mem_cons.mpr ⟨okc_X11_markThatTells, List.forall_mem_cons.mpr ⟨okc_X12_init, fun _ h => absurd h List.not_mem_nil⟩⟩⟩⟩⟩⟩⟩⟩⟩⟩⟩⟩⟩⟩⟩⟩
theorem ohp_9 : ∀ R ∈ RTp_9, rOwn R ≠ R_law0 → okH R = true := List.forall_mem_cons.mpr ⟨fun _ => okh_X11_isIn, List.forall_mem_cons.mpr ⟨fun _ => okh_X11_hasBit, List.forall_mem_cons.mpr ⟨fun _ => okh_X11_isHouse, List.forall_mem_cons.mpr ⟨fun _ => okh_X11_isStranger, List.forall_mem_cons.mpr ⟨fun _ => okh_X11_faultAt, List.forall_mem_cons.mpr ⟨fun _ => okh_X11_stepsBetween, List.forall_mem_cons.mpr ⟨fun _ => okh_X11_hasSpot, List.forall_mem_cons.mpr ⟨fun _ => okh_X11_canHaunt, List.forall_mem_cons.mpr ⟨fun _ => okh_X11_dogOf, List.forall_mem_cons.mpr ⟨fun _ => okh_X11_dogsAgainst, List.forall_mem_cons.mpr ⟨fun _ => okh_X11_triedFurther, List.forall_mem_cons.mpr ⟨fun _ => okh_X11_canShare, List.forall_mem_cons.mpr ⟨fun _ => okh_X11_taxShare, List.forall_mem_cons.mpr ⟨fun _ => okh_X11_housesThatFit, List.forall_mem_cons.mpr ⟨fun _ => okh_X11_markThatTells, List.forall_mem_cons.mpr ⟨fun _ => okh_X12_init, fun _ h => absurd h List.not_mem_nil⟩⟩⟩⟩⟩⟩⟩⟩⟩⟩⟩⟩⟩⟩⟩⟩
set_option maxRecDepth 100000 in
theorem okc_X12_in : okC RTL rc_X12_in = true := by decide +kernel
theorem okh_X12_in : okH rc_X12_in = true := by decide +kernel
set_option maxRecDepth 100000 in
theorem okc_X12_min : okC RTL rc_X12_min = true := by decide +kernel
theorem okh_X12_min : okH rc_X12_min = true := by decide +kernel
set_option maxRecDepth 100000 in
theorem okc_X12_max : okC RTL rc_X12_max = true := by decide +kernel
theorem okh_X12_max : okH rc_X12_max = true := by decide +kernel
set_option maxRecDepth 100000 in
theorem okc_X12_size : okC RTL rc_X12_size = true := by decide +kernel
theorem okh_X12_size : okH rc_X12_size = true := by decide +kernel
set_option maxRecDepth 100000 in
theorem okc_X12_has : okC RTL rc_X12_has = true := by decide +kernel
theorem okh_X12_has : okH rc_X12_has = true := by decide +kernel
set_option maxRecDepth 100000 in
theorem okc_X12_bits : okC RTL rc_X12_bits = true := by decide +kernel
theorem okh_X12_bits : okH rc_X12_bits = true := by decide +kernel
set_option maxRecDepth 100000 in
theorem okc_X12_isTen : okC RTL rc_X12_isTen = true := by decide +kernel
theorem okh_X12_isTen : okH rc_X12_isTen = true := by decide +kernel
set_option maxRecDepth 100000 in
theorem okc_X12_hasSpot : okC RTL rc_X12_hasSpot = true := by decide +kernel
theorem okh_X12_hasSpot : okH rc_X12_hasSpot = true := by decide +kernel
set_option maxRecDepth 100000 in
theorem okc_X12_isTold : okC RTL rc_X12_isTold = true := by decide +kernel
theorem okh_X12_isTold : okH rc_X12_isTold = true := by decide +kernel
set_option maxRecDepth 100000 in
theorem okc_X12_isThere : okC RTL rc_X12_isThere = true := by decide +kernel
theorem okh_X12_isThere : okH rc_X12_isThere = true := by decide +kernel
set_option maxRecDepth 100000 in
theorem okc_X12_farOf : okC RTL rc_X12_farOf = true := by decide +kernel
theorem okh_X12_farOf : okH rc_X12_farOf = true := by decide +kernel
set_option maxRecDepth 100000 in
theorem okc_X12_beside : okC RTL rc_X12_beside = true := by decide +kernel
theorem okh_X12_beside : okH rc_X12_beside = true := by decide +kernel
set_option maxRecDepth 100000 in
theorem okc_X12_stepTo : okC RTL rc_X12_stepTo = true := by decide +kernel
theorem okh_X12_stepTo : okH rc_X12_stepTo = true := by decide +kernel
set_option maxRecDepth 100000 in
theorem okc_X12_isSeen : okC RTL rc_X12_isSeen = true := by decide +kernel
theorem okh_X12_isSeen : okH rc_X12_isSeen = true := by decide +kernel
set_option maxRecDepth 100000 in
theorem okc_X12_types : okC RTL rc_X12_types = true := by decide +kernel
theorem okh_X12_types : okH rc_X12_types = true := by decide +kernel
set_option maxRecDepth 100000 in
theorem okc_X12_feed : okC RTL rc_X12_feed = true := by decide +kernel
theorem okh_X12_feed : okH rc_X12_feed = true := by decide +kernel
def RTp_10 : List Rec := [rc_X12_in, rc_X12_min, rc_X12_max, rc_X12_size, rc_X12_has, rc_X12_bits, rc_X12_isTen, rc_X12_hasSpot, rc_X12_isTold, rc_X12_isThere, rc_X12_farOf, rc_X12_beside, rc_X12_stepTo, rc_X12_isSeen, rc_X12_types, rc_X12_feed]
theorem okp_10 : ∀ R ∈ RTp_10, okC RTL R = true := List.forall_mem_cons.mpr ⟨okc_X12_in, List.forall_mem_cons.mpr ⟨okc_X12_min, List.forall_mem_cons.mpr ⟨okc_X12_max, List.forall_mem_cons.mpr ⟨okc_X12_size, List.forall_mem_cons.mpr ⟨okc_X12_has, List.forall_mem_cons.mpr ⟨okc_X12_bits, List.forall_mem_cons.mpr ⟨okc_X12_isTen, List.forall_mem_cons.mpr ⟨okc_X12_hasSpot, List.forall_mem_cons.mpr ⟨okc_X12_isTold, List.forall_mem_cons.mpr ⟨okc_X12_isThere, List.forall_mem_cons.mpr ⟨okc_X12_farOf, List.forall_mem_cons.mpr ⟨okc_X12_beside, List.forall_mem_cons.mpr ⟨okc_X12_stepTo, List.forall_mem_cons.mpr ⟨okc_X12_isSeen, List.forall_mem_cons.mpr ⟨okc_X12_types, List.forall_mem_cons.mpr ⟨okc_X12_feed, fun _ h => absurd h List.not_mem_nil⟩⟩⟩⟩⟩⟩⟩⟩⟩⟩⟩⟩⟩⟩⟩⟩
theorem ohp_10 : ∀ R ∈ RTp_10, rOwn R ≠ R_law0 → okH R = true := List.forall_mem_cons.mpr ⟨fun _ => okh_X12_in, List.forall_mem_cons.mpr ⟨fun _ => okh_X12_min, List.forall_mem_cons.mpr ⟨fun _ => okh_X12_max, List.forall_mem_cons.mpr ⟨fun _ => okh_X12_size, List.forall_mem_cons.mpr ⟨fun _ => okh_X12_has, List.forall_mem_cons.mpr ⟨fun _ => okh_X12_bits, List.forall_mem_cons.mpr ⟨fun _ => okh_X12_isTen, List.forall_mem_cons.mpr ⟨fun _ => okh_X12_hasSpot, List.forall_mem_cons.mpr ⟨fun _ => okh_X12_isTold, List.forall_mem_cons.mpr ⟨fun _ => okh_X12_isThere, List.forall_mem_cons.mpr ⟨fun _ => okh_X12_farOf, List.forall_mem_cons.mpr ⟨fun _ => okh_X12_beside, List.forall_mem_cons.mpr ⟨fun _ => okh_X12_stepTo, List.forall_mem_cons.mpr ⟨fun _ => okh_X12_isSeen, List.forall_mem_cons.mpr ⟨fun _ => okh_X12_types, List.forall_mem_cons.mpr ⟨fun _ => okh_X12_feed, fun _ h => absurd h List.not_mem_nil⟩⟩⟩⟩⟩⟩⟩⟩⟩⟩⟩⟩⟩⟩⟩⟩
set_option maxRecDepth 100000 in
theorem okc_X12_here : okC RTL rc_X12_here = true := by decide +kernel
theorem okh_X12_here : okH rc_X12_here = true := by decide +kernel
set_option maxRecDepth 100000 in
theorem okc_X12_isDigit : okC RTL rc_X12_isDigit = true := by decide +kernel
theorem okh_X12_isDigit : okH rc_X12_isDigit = true := by decide +kernel
set_option maxRecDepth 100000 in
theorem okc_X12_wrongAt : okC RTL rc_X12_wrongAt = true := by decide +kernel
theorem okh_X12_wrongAt : okH rc_X12_wrongAt = true := by decide +kernel
set_option maxRecDepth 100000 in
theorem okc_X12_takes : okC RTL rc_X12_takes = true := by decide +kernel
theorem okh_X12_takes : okH rc_X12_takes = true := by decide +kernel
set_option maxRecDepth 100000 in
theorem okc_X12_readsNumber : okC RTL rc_X12_readsNumber = true := by decide +kernel
theorem okh_X12_readsNumber : okH rc_X12_readsNumber = true := by decide +kernel
set_option maxRecDepth 100000 in
theorem okc_X12_notes : okC RTL rc_X12_notes = true := by decide +kernel
theorem okh_X12_notes : okH rc_X12_notes = true := by decide +kernel
set_option maxRecDepth 100000 in
theorem okc_X12_opens : okC RTL rc_X12_opens = true := by decide +kernel
theorem okh_X12_opens : okH rc_X12_opens = true := by decide +kernel
set_option maxRecDepth 100000 in
theorem okc_X12_waitTop : okC RTL rc_X12_waitTop = true := by decide +kernel
theorem okh_X12_waitTop : okH rc_X12_waitTop = true := by decide +kernel
set_option maxRecDepth 100000 in
theorem okc_X12_factOf : okC RTL rc_X12_factOf = true := by decide +kernel
theorem okh_X12_factOf : okH rc_X12_factOf = true := by decide +kernel
set_option maxRecDepth 100000 in
theorem okc_X12_sumSign : okC RTL rc_X12_sumSign = true := by decide +kernel
theorem okh_X12_sumSign : okH rc_X12_sumSign = true := by decide +kernel
set_option maxRecDepth 100000 in
theorem okc_X12_closesSums : okC RTL rc_X12_closesSums = true := by decide +kernel
theorem okh_X12_closesSums : okH rc_X12_closesSums = true := by decide +kernel
set_option maxRecDepth 100000 in
theorem okc_X12_readsFactor : okC RTL rc_X12_readsFactor = true := by decide +kernel
theorem okh_X12_readsFactor : okH rc_X12_readsFactor = true := by decide +kernel
set_option maxRecDepth 100000 in
theorem okc_X12_hasOpenSum : okC RTL rc_X12_hasOpenSum = true := by decide +kernel
theorem okh_X12_hasOpenSum : okH rc_X12_hasOpenSum = true := by decide +kernel
set_option maxRecDepth 100000 in
theorem okc_X12_readsSum : okC RTL rc_X12_readsSum = true := by decide +kernel
theorem okh_X12_readsSum : okH rc_X12_readsSum = true := by decide +kernel
set_option maxRecDepth 100000 in
theorem okc_X12_endsPiece : okC RTL rc_X12_endsPiece = true := by decide +kernel
theorem okh_X12_endsPiece : okH rc_X12_endsPiece = true := by decide +kernel
set_option maxRecDepth 100000 in
theorem okc_X12_lands : okC RTL rc_X12_lands = true := by decide +kernel
theorem okh_X12_lands : okH rc_X12_lands = true := by decide +kernel
def RTp_11 : List Rec := [rc_X12_here, rc_X12_isDigit, rc_X12_wrongAt, rc_X12_takes, rc_X12_readsNumber, rc_X12_notes, rc_X12_opens, rc_X12_waitTop, rc_X12_factOf, rc_X12_sumSign, rc_X12_closesSums, rc_X12_readsFactor, rc_X12_hasOpenSum, rc_X12_readsSum, rc_X12_endsPiece, rc_X12_lands]
theorem okp_11 : ∀ R ∈ RTp_11, okC RTL R = true := List.forall_mem_cons.mpr ⟨okc_X12_here, List.forall_mem_cons.mpr ⟨okc_X12_isDigit, List.forall_mem_cons.mpr ⟨okc_X12_wrongAt, List.forall_mem_cons.mpr ⟨okc_X12_takes, List.forall_mem_cons.mpr ⟨okc_X12_readsNumber, List.forall_mem_cons.mpr ⟨okc_X12_notes, List.forall_mem_cons.mpr ⟨okc_X12_opens, List.forall_mem_cons.mpr ⟨okc_X12_waitTop, List.forall_mem_cons.mpr ⟨okc_X12_factOf, List.forall_mem_cons.mpr ⟨okc_X12_sumSign, List.forall_mem_cons.mpr ⟨okc_X12_closesSums, List.forall_mem_cons.mpr ⟨okc_X12_readsFactor, List.forall_mem_cons.mpr ⟨okc_X12_hasOpenSum, List.forall_mem_cons.mpr ⟨okc_X12_readsSum, List.forall_mem_cons.mpr ⟨okc_X12_endsPiece, List.forall_mem_cons.mpr ⟨okc_X12_lands, fun _ h => absurd h List.not_mem_nil⟩⟩⟩⟩⟩⟩⟩⟩⟩⟩⟩⟩⟩⟩⟩⟩
theorem ohp_11 : ∀ R ∈ RTp_11, rOwn R ≠ R_law0 → okH R = true := List.forall_mem_cons.mpr ⟨fun _ => okh_X12_here, List.forall_mem_cons.mpr ⟨fun _ => okh_X12_isDigit, List.forall_mem_cons.mpr ⟨fun _ => okh_X12_wrongAt, List.forall_mem_cons.mpr ⟨fun _ => okh_X12_takes, List.forall_mem_cons.mpr ⟨fun _ => okh_X12_readsNumber, List.forall_mem_cons.mpr ⟨fun _ => okh_X12_notes, List.forall_mem_cons.mpr ⟨fun _ => okh_X12_opens, List.forall_mem_cons.mpr ⟨fun _ => okh_X12_waitTop, List.forall_mem_cons.mpr ⟨fun _ => okh_X12_factOf, List.forall_mem_cons.mpr ⟨fun _ => okh_X12_sumSign, List.forall_mem_cons.mpr ⟨fun _ => okh_X12_closesSums, List.forall_mem_cons.mpr ⟨fun _ => okh_X12_readsFactor, List.forall_mem_cons.mpr ⟨fun _ => okh_X12_hasOpenSum, List.forall_mem_cons.mpr ⟨fun _ => okh_X12_readsSum, List.forall_mem_cons.mpr ⟨fun _ => okh_X12_endsPiece, List.forall_mem_cons.mpr ⟨fun _ => okh_X12_lands, fun _ h => absurd h List.not_mem_nil⟩⟩⟩⟩⟩⟩⟩⟩⟩⟩⟩⟩⟩⟩⟩⟩
