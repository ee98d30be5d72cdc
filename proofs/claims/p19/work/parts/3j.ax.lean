/-! PART 3j -/
def ap_X12_seers : ai_P := (234, ([(3, 81, ([], .ofNat 0)), (1, 0, ([], .ofNat 0)), (0, 0, ([], .ofNat 0)), (0, 0, ([], .ofNat 0))], [], [(0, .ofNat 0, .ofNat 63)], [], []), 1, 0, 1, [([(.ofNat 0, .ofNat 10)], [], [], [])], 4)
def au_X12_seers : ai_C := [(4, ([(3, 81, ([], .ofNat 0)), (5, 0, ([(.ofNat 1, 0)], .ofNat 0)), (1, 0, ([], .ofNat 0)), (1, 0, ([], .ofNat 0))], [], [(0, .ofNat 0, .ofNat 63), (1, .ofNat 0, .ofNat 10), (2, .ofNat 0, .ofNat 10)], [([(.negSucc 0, 1), (.ofNat 1, 2)], .ofNat 0)], []), ([(.negSucc 0, 2)], .ofNat 10))]
theorem ak_X12_seers : ai_chk ax_T ax_wJ [ap_X12_isSeen] [164, 166, 169, 168] ap_X12_seers au_X12_seers 5000 = true := by decide +kernel
theorem ah_X12_seers {J : MM → Prop} (H : ax_H J) : ai_SP ax_T J ap_X12_seers := ai_chk_ok H.1 (ax_c (ah_X12_isSeen H) ax_n) ak_X12_seers
def ap_X12_differs : ai_P := (245, ([(3, 81, ([], .ofNat 0)), (1, 0, ([], .ofNat 0)), (0, 0, ([], .ofNat 0)), (0, 0, ([], .ofNat 0)), (0, 0, ([], .ofNat 0))], [], [(0, .ofNat 0, .ofNat 1023)], [], []), 1, 0, 1, [([(.negSucc 999999999, .ofNat 3)], [], [], [])], 2)
def au_X12_differs : ai_C := [(6, ([(3, 81, ([], .ofNat 0)), (5, 0, ([(.ofNat 1, 0)], .ofNat 0)), (1, 0, ([], .ofNat 0)), (1, 0, ([], .ofNat 0)), (1, 0, ([], .ofNat 0))], [], [(0, .ofNat 0, .ofNat 1023), (1, .ofNat 0, .ofNat 3), (2, .ofNat 0, .ofNat 1000000000), (3, .ofNat 0, .ofNat 5)], [], []), ([(.negSucc 0, 3)], .ofNat 5))]
theorem ak_X12_differs : ai_chk ax_T ax_wJ [] [244, 162, 161] ap_X12_differs au_X12_differs 5000 = true := by decide +kernel
theorem ah_X12_differs {J : MM → Prop} (H : ax_H J) : ai_SP ax_T J ap_X12_differs := ai_chk_ok H.1 ax_n ak_X12_differs
def ap_X12_sumOf : ai_P := (248, ([(3, 81, ([], .ofNat 0)), (1, 0, ([], .ofNat 0)), (0, 0, ([], .ofNat 0)), (0, 0, ([], .ofNat 0))], [], [(0, .ofNat 0, .ofNat 1023)], [], []), 1, 0, 1, [([(.ofNat 0, .ofNat 15)], [], [], [])], 2)
def au_X12_sumOf : ai_C := [(4, ([(3, 81, ([], .ofNat 0)), (5, 0, ([(.ofNat 1, 0)], .ofNat 0)), (1, 0, ([], .ofNat 0)), (1, 0, ([], .ofNat 0))], [], [(0, .ofNat 0, .ofNat 1023), (1, .ofNat 0, .ofNat 15), (2, .ofNat 0, .ofNat 5)], [([(.negSucc 0, 1), (.ofNat 3, 2)], .ofNat 0)], []), ([(.negSucc 0, 2)], .ofNat 5))]
theorem ak_X12_sumOf : ai_chk ax_T ax_wJ [] [244] ap_X12_sumOf au_X12_sumOf 5000 = true := by decide +kernel
theorem ah_X12_sumOf {J : MM → Prop} (H : ax_H J) : ai_SP ax_T J ap_X12_sumOf := ai_chk_ok H.1 ax_n ak_X12_sumOf
