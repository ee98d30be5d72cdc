/-! PART 90: the law, the table checked -/
theorem law_here {sc : List Int} (hsc : ∀ z ∈ sc, in32 z) (hl : sc.length ≤ 3072) : WY F0z sc 60 m_L_law 0 [] [none, none, none, none] [] (fun _ _ => 0) (fun r Y _ => r = vi 1 ∧ Y = YF) := law_all RTL_okC hsc hl
