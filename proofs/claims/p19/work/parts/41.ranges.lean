/-! PART 41: ranges of cells -/
theorem rO_0_10 {M : MM} (G : ai_GI ax_T M) : (-9223372036854775808) ≤ M 0 10 ∧ M 0 10 ≤ 9223372036854775807 := ax_giO (k := 0) (j := 10) rfl G
theorem sO_0_10 {M : MM} (G : ai_GI ax_T M) {v : Int} (h1 : (-9223372036854775808) ≤ v) (h2 : v ≤ 9223372036854775807) : ai_GI ax_T (stM M 0 10 v) := ax_giSO (k := 0) (j := 10) rfl G h1 h2
theorem rO_0_11 {M : MM} (G : ai_GI ax_T M) : (-9223372036854775808) ≤ M 0 11 ∧ M 0 11 ≤ 9223372036854775807 := ax_giO (k := 0) (j := 11) rfl G
theorem sO_0_11 {M : MM} (G : ai_GI ax_T M) {v : Int} (h1 : (-9223372036854775808) ≤ v) (h2 : v ≤ 9223372036854775807) : ai_GI ax_T (stM M 0 11 v) := ax_giSO (k := 0) (j := 11) rfl G h1 h2
theorem rO_0_12 {M : MM} (G : ai_GI ax_T M) : (-9223372036854775808) ≤ M 0 12 ∧ M 0 12 ≤ 9223372036854775807 := ax_giO (k := 0) (j := 12) rfl G
theorem sO_0_12 {M : MM} (G : ai_GI ax_T M) {v : Int} (h1 : (-9223372036854775808) ≤ v) (h2 : v ≤ 9223372036854775807) : ai_GI ax_T (stM M 0 12 v) := ax_giSO (k := 0) (j := 12) rfl G h1 h2
theorem rO_0_13 {M : MM} (G : ai_GI ax_T M) : (-9223372036854775808) ≤ M 0 13 ∧ M 0 13 ≤ 9223372036854775807 := ax_giO (k := 0) (j := 13) rfl G
theorem sO_0_13 {M : MM} (G : ai_GI ax_T M) {v : Int} (h1 : (-9223372036854775808) ≤ v) (h2 : v ≤ 9223372036854775807) : ai_GI ax_T (stM M 0 13 v) := ax_giSO (k := 0) (j := 13) rfl G h1 h2
theorem rO_0_14 {M : MM} (G : ai_GI ax_T M) : 0 ≤ M 0 14 ∧ M 0 14 ≤ 1 := ax_giO (k := 0) (j := 14) rfl G
theorem sO_0_14 {M : MM} (G : ai_GI ax_T M) {v : Int} (h1 : 0 ≤ v) (h2 : v ≤ 1) : ai_GI ax_T (stM M 0 14 v) := ax_giSO (k := 0) (j := 14) rfl G h1 h2
theorem rO_0_15 {M : MM} (G : ai_GI ax_T M) : 0 ≤ M 0 15 ∧ M 0 15 ≤ 1023 := ax_giO (k := 0) (j := 15) rfl G
theorem sO_0_15 {M : MM} (G : ai_GI ax_T M) {v : Int} (h1 : 0 ≤ v) (h2 : v ≤ 1023) : ai_GI ax_T (stM M 0 15 v) := ax_giSO (k := 0) (j := 15) rfl G h1 h2
theorem rO_1_1 {M : MM} (G : ai_GI ax_T M) : 0 ≤ M 1 1 ∧ M 1 1 ≤ 260 := ax_giO (k := 1) (j := 1) rfl G
theorem sO_1_1 {M : MM} (G : ai_GI ax_T M) {v : Int} (h1 : 0 ≤ v) (h2 : v ≤ 260) : ai_GI ax_T (stM M 1 1 v) := ax_giSO (k := 1) (j := 1) rfl G h1 h2
theorem rA_2 {M : MM} (G : ai_GI ax_T M) (j : Nat) : 0 ≤ M 2 j ∧ M 2 j ≤ 255 := ax_giA (k := 2) rfl G j
theorem sA_2 {M : MM} (G : ai_GI ax_T M) {j : Nat} {v : Int} (h1 : 0 ≤ v) (h2 : v ≤ 255) : ai_GI ax_T (stM M 2 j v) := ax_giSA (k := 2) rfl G h1 h2
theorem rO_3_8 {M : MM} (G : ai_GI ax_T M) : 0 ≤ M 3 8 ∧ M 3 8 ≤ 60 := ax_giO (k := 3) (j := 8) rfl G
theorem sO_3_8 {M : MM} (G : ai_GI ax_T M) {v : Int} (h1 : 0 ≤ v) (h2 : v ≤ 60) : ai_GI ax_T (stM M 3 8 v) := ax_giSO (k := 3) (j := 8) rfl G h1 h2
theorem rO_3_9 {M : MM} (G : ai_GI ax_T M) : 0 ≤ M 3 9 ∧ M 3 9 ≤ 3 := ax_giO (k := 3) (j := 9) rfl G
theorem sO_3_9 {M : MM} (G : ai_GI ax_T M) {v : Int} (h1 : 0 ≤ v) (h2 : v ≤ 3) : ai_GI ax_T (stM M 3 9 v) := ax_giSO (k := 3) (j := 9) rfl G h1 h2
theorem rO_3_10 {M : MM} (G : ai_GI ax_T M) : 0 ≤ M 3 10 ∧ M 3 10 ≤ 9 := ax_giO (k := 3) (j := 10) rfl G
theorem sO_3_10 {M : MM} (G : ai_GI ax_T M) {v : Int} (h1 : 0 ≤ v) (h2 : v ≤ 9) : ai_GI ax_T (stM M 3 10 v) := ax_giSO (k := 3) (j := 10) rfl G h1 h2
theorem rO_3_11 {M : MM} (G : ai_GI ax_T M) : 0 ≤ M 3 11 ∧ M 3 11 ≤ 80 := ax_giO (k := 3) (j := 11) rfl G
theorem sO_3_11 {M : MM} (G : ai_GI ax_T M) {v : Int} (h1 : 0 ≤ v) (h2 : v ≤ 80) : ai_GI ax_T (stM M 3 11 v) := ax_giSO (k := 3) (j := 11) rfl G h1 h2
theorem rO_3_12 {M : MM} (G : ai_GI ax_T M) : 0 ≤ M 3 12 ∧ M 3 12 ≤ 1 := ax_giO (k := 3) (j := 12) rfl G
theorem sO_3_12 {M : MM} (G : ai_GI ax_T M) {v : Int} (h1 : 0 ≤ v) (h2 : v ≤ 1) : ai_GI ax_T (stM M 3 12 v) := ax_giSO (k := 3) (j := 12) rfl G h1 h2
theorem rA_4 {M : MM} (G : ai_GI ax_T M) (j : Nat) : 0 ≤ M 4 j ∧ M 4 j ≤ 60 := ax_giA (k := 4) rfl G j
theorem sA_4 {M : MM} (G : ai_GI ax_T M) {j : Nat} {v : Int} (h1 : 0 ≤ v) (h2 : v ≤ 60) : ai_GI ax_T (stM M 4 j v) := ax_giSA (k := 4) rfl G h1 h2
theorem rA_6 {M : MM} (G : ai_GI ax_T M) (j : Nat) : 0 ≤ M 6 j ∧ M 6 j ≤ 4 := ax_giA (k := 6) rfl G j
theorem sA_6 {M : MM} (G : ai_GI ax_T M) {j : Nat} {v : Int} (h1 : 0 ≤ v) (h2 : v ≤ 4) : ai_GI ax_T (stM M 6 j v) := ax_giSA (k := 6) rfl G h1 h2
theorem rA_7 {M : MM} (G : ai_GI ax_T M) (j : Nat) : 0 ≤ M 7 j ∧ M 7 j ≤ 4 := ax_giA (k := 7) rfl G j
theorem sA_7 {M : MM} (G : ai_GI ax_T M) {j : Nat} {v : Int} (h1 : 0 ≤ v) (h2 : v ≤ 4) : ai_GI ax_T (stM M 7 j v) := ax_giSA (k := 7) rfl G h1 h2
theorem rA_8 {M : MM} (G : ai_GI ax_T M) (j : Nat) : 0 ≤ M 8 j ∧ M 8 j ≤ 4 := ax_giA (k := 8) rfl G j
theorem sA_8 {M : MM} (G : ai_GI ax_T M) {j : Nat} {v : Int} (h1 : 0 ≤ v) (h2 : v ≤ 4) : ai_GI ax_T (stM M 8 j v) := ax_giSA (k := 8) rfl G h1 h2
theorem rA_9 {M : MM} (G : ai_GI ax_T M) (j : Nat) : 0 ≤ M 9 j ∧ M 9 j ≤ 4 := ax_giA (k := 9) rfl G j
theorem sA_9 {M : MM} (G : ai_GI ax_T M) {j : Nat} {v : Int} (h1 : 0 ≤ v) (h2 : v ≤ 4) : ai_GI ax_T (stM M 9 j v) := ax_giSA (k := 9) rfl G h1 h2
theorem rA_10 {M : MM} (G : ai_GI ax_T M) (j : Nat) : 0 ≤ M 10 j ∧ M 10 j ≤ 4 := ax_giA (k := 10) rfl G j
theorem sA_10 {M : MM} (G : ai_GI ax_T M) {j : Nat} {v : Int} (h1 : 0 ≤ v) (h2 : v ≤ 4) : ai_GI ax_T (stM M 10 j v) := ax_giSA (k := 10) rfl G h1 h2
theorem rA_11 {M : MM} (G : ai_GI ax_T M) (j : Nat) : 0 ≤ M 11 j ∧ M 11 j ≤ 4 := ax_giA (k := 11) rfl G j
theorem sA_11 {M : MM} (G : ai_GI ax_T M) {j : Nat} {v : Int} (h1 : 0 ≤ v) (h2 : v ≤ 4) : ai_GI ax_T (stM M 11 j v) := ax_giSA (k := 11) rfl G h1 h2
theorem rA_12 {M : MM} (G : ai_GI ax_T M) (j : Nat) : 0 ≤ M 12 j ∧ M 12 j ≤ 4 := ax_giA (k := 12) rfl G j
theorem sA_12 {M : MM} (G : ai_GI ax_T M) {j : Nat} {v : Int} (h1 : 0 ≤ v) (h2 : v ≤ 4) : ai_GI ax_T (stM M 12 j v) := ax_giSA (k := 12) rfl G h1 h2
theorem rA_13 {M : MM} (G : ai_GI ax_T M) (j : Nat) : 0 ≤ M 13 j ∧ M 13 j ≤ 4 := ax_giA (k := 13) rfl G j
theorem sA_13 {M : MM} (G : ai_GI ax_T M) {j : Nat} {v : Int} (h1 : 0 ≤ v) (h2 : v ≤ 4) : ai_GI ax_T (stM M 13 j v) := ax_giSA (k := 13) rfl G h1 h2
theorem rA_14 {M : MM} (G : ai_GI ax_T M) (j : Nat) : 0 ≤ M 14 j ∧ M 14 j ≤ 4 := ax_giA (k := 14) rfl G j
theorem sA_14 {M : MM} (G : ai_GI ax_T M) {j : Nat} {v : Int} (h1 : 0 ≤ v) (h2 : v ≤ 4) : ai_GI ax_T (stM M 14 j v) := ax_giSA (k := 14) rfl G h1 h2
theorem rA_15 {M : MM} (G : ai_GI ax_T M) (j : Nat) : 0 ≤ M 15 j ∧ M 15 j ≤ 4 := ax_giA (k := 15) rfl G j
theorem sA_15 {M : MM} (G : ai_GI ax_T M) {j : Nat} {v : Int} (h1 : 0 ≤ v) (h2 : v ≤ 4) : ai_GI ax_T (stM M 15 j v) := ax_giSA (k := 15) rfl G h1 h2
theorem rA_16 {M : MM} (G : ai_GI ax_T M) (j : Nat) : 0 ≤ M 16 j ∧ M 16 j ≤ 63 := ax_giA (k := 16) rfl G j
theorem sA_16 {M : MM} (G : ai_GI ax_T M) {j : Nat} {v : Int} (h1 : 0 ≤ v) (h2 : v ≤ 63) : ai_GI ax_T (stM M 16 j v) := ax_giSA (k := 16) rfl G h1 h2
theorem rA_17 {M : MM} (G : ai_GI ax_T M) (j : Nat) : 0 ≤ M 17 j ∧ M 17 j ≤ 63 := ax_giA (k := 17) rfl G j
theorem sA_17 {M : MM} (G : ai_GI ax_T M) {j : Nat} {v : Int} (h1 : 0 ≤ v) (h2 : v ≤ 63) : ai_GI ax_T (stM M 17 j v) := ax_giSA (k := 17) rfl G h1 h2
theorem rA_18 {M : MM} (G : ai_GI ax_T M) (j : Nat) : 0 ≤ M 18 j ∧ M 18 j ≤ 4 := ax_giA (k := 18) rfl G j
theorem sA_18 {M : MM} (G : ai_GI ax_T M) {j : Nat} {v : Int} (h1 : 0 ≤ v) (h2 : v ≤ 4) : ai_GI ax_T (stM M 18 j v) := ax_giSA (k := 18) rfl G h1 h2
theorem rA_19 {M : MM} (G : ai_GI ax_T M) (j : Nat) : 0 ≤ M 19 j ∧ M 19 j ≤ 80 := ax_giA (k := 19) rfl G j
theorem sA_19 {M : MM} (G : ai_GI ax_T M) {j : Nat} {v : Int} (h1 : 0 ≤ v) (h2 : v ≤ 80) : ai_GI ax_T (stM M 19 j v) := ax_giSA (k := 19) rfl G h1 h2
theorem rA_20 {M : MM} (G : ai_GI ax_T M) (j : Nat) : 0 ≤ M 20 j ∧ M 20 j ≤ 9 := ax_giA (k := 20) rfl G j
theorem sA_20 {M : MM} (G : ai_GI ax_T M) {j : Nat} {v : Int} (h1 : 0 ≤ v) (h2 : v ≤ 9) : ai_GI ax_T (stM M 20 j v) := ax_giSA (k := 20) rfl G h1 h2
theorem rA_21 {M : MM} (G : ai_GI ax_T M) (j : Nat) : 0 ≤ M 21 j ∧ M 21 j ≤ 60 := ax_giA (k := 21) rfl G j
theorem sA_21 {M : MM} (G : ai_GI ax_T M) {j : Nat} {v : Int} (h1 : 0 ≤ v) (h2 : v ≤ 60) : ai_GI ax_T (stM M 21 j v) := ax_giSA (k := 21) rfl G h1 h2
theorem rO_22_1 {M : MM} (G : ai_GI ax_T M) : 0 ≤ M 22 1 ∧ M 22 1 ≤ 240 := ax_giO (k := 22) (j := 1) rfl G
theorem sO_22_1 {M : MM} (G : ai_GI ax_T M) {v : Int} (h1 : 0 ≤ v) (h2 : v ≤ 240) : ai_GI ax_T (stM M 22 1 v) := ax_giSO (k := 22) (j := 1) rfl G h1 h2
theorem rO_22_2 {M : MM} (G : ai_GI ax_T M) : (-2147483648) ≤ M 22 2 ∧ M 22 2 ≤ 2147483647 := ax_giO (k := 22) (j := 2) rfl G
theorem sO_22_2 {M : MM} (G : ai_GI ax_T M) {v : Int} (h1 : (-2147483648) ≤ v) (h2 : v ≤ 2147483647) : ai_GI ax_T (stM M 22 2 v) := ax_giSO (k := 22) (j := 2) rfl G h1 h2
theorem rO_22_3 {M : MM} (G : ai_GI ax_T M) : (-2147483648) ≤ M 22 3 ∧ M 22 3 ≤ 2147483647 := ax_giO (k := 22) (j := 3) rfl G
theorem sO_22_3 {M : MM} (G : ai_GI ax_T M) {v : Int} (h1 : (-2147483648) ≤ v) (h2 : v ≤ 2147483647) : ai_GI ax_T (stM M 22 3 v) := ax_giSO (k := 22) (j := 3) rfl G h1 h2
theorem rA_23 {M : MM} (G : ai_GI ax_T M) (j : Nat) : (-1) ≤ M 23 j ∧ M 23 j ≤ 255 := ax_giA (k := 23) rfl G j
theorem sA_23 {M : MM} (G : ai_GI ax_T M) {j : Nat} {v : Int} (h1 : (-1) ≤ v) (h2 : v ≤ 255) : ai_GI ax_T (stM M 23 j v) := ax_giSA (k := 23) rfl G h1 h2
theorem rO_24_3 {M : MM} (G : ai_GI ax_T M) : 0 ≤ M 24 3 ∧ M 24 3 ≤ 60 := ax_giO (k := 24) (j := 3) rfl G
theorem sO_24_3 {M : MM} (G : ai_GI ax_T M) {v : Int} (h1 : 0 ≤ v) (h2 : v ≤ 60) : ai_GI ax_T (stM M 24 3 v) := ax_giSO (k := 24) (j := 3) rfl G h1 h2
theorem rO_24_4 {M : MM} (G : ai_GI ax_T M) : (-2147483648) ≤ M 24 4 ∧ M 24 4 ≤ 2147483647 := ax_giO (k := 24) (j := 4) rfl G
theorem sO_24_4 {M : MM} (G : ai_GI ax_T M) {v : Int} (h1 : (-2147483648) ≤ v) (h2 : v ≤ 2147483647) : ai_GI ax_T (stM M 24 4 v) := ax_giSO (k := 24) (j := 4) rfl G h1 h2
theorem rO_24_5 {M : MM} (G : ai_GI ax_T M) : 0 ≤ M 24 5 ∧ M 24 5 ≤ 1023 := ax_giO (k := 24) (j := 5) rfl G
theorem sO_24_5 {M : MM} (G : ai_GI ax_T M) {v : Int} (h1 : 0 ≤ v) (h2 : v ≤ 1023) : ai_GI ax_T (stM M 24 5 v) := ax_giSO (k := 24) (j := 5) rfl G h1 h2
theorem rO_24_6 {M : MM} (G : ai_GI ax_T M) : (-2147483648) ≤ M 24 6 ∧ M 24 6 ≤ 2147483647 := ax_giO (k := 24) (j := 6) rfl G
theorem sO_24_6 {M : MM} (G : ai_GI ax_T M) {v : Int} (h1 : (-2147483648) ≤ v) (h2 : v ≤ 2147483647) : ai_GI ax_T (stM M 24 6 v) := ax_giSO (k := 24) (j := 6) rfl G h1 h2
theorem rO_24_7 {M : MM} (G : ai_GI ax_T M) : (-2147483648) ≤ M 24 7 ∧ M 24 7 ≤ 2147483647 := ax_giO (k := 24) (j := 7) rfl G
theorem sO_24_7 {M : MM} (G : ai_GI ax_T M) {v : Int} (h1 : (-2147483648) ≤ v) (h2 : v ≤ 2147483647) : ai_GI ax_T (stM M 24 7 v) := ax_giSO (k := 24) (j := 7) rfl G h1 h2
theorem rO_24_8 {M : MM} (G : ai_GI ax_T M) : (-2147483648) ≤ M 24 8 ∧ M 24 8 ≤ 2147483647 := ax_giO (k := 24) (j := 8) rfl G
theorem sO_24_8 {M : MM} (G : ai_GI ax_T M) {v : Int} (h1 : (-2147483648) ≤ v) (h2 : v ≤ 2147483647) : ai_GI ax_T (stM M 24 8 v) := ax_giSO (k := 24) (j := 8) rfl G h1 h2
theorem rO_25_4 {M : MM} (G : ai_GI ax_T M) : 0 ≤ M 25 4 ∧ M 25 4 ≤ 1023 := ax_giO (k := 25) (j := 4) rfl G
theorem sO_25_4 {M : MM} (G : ai_GI ax_T M) {v : Int} (h1 : 0 ≤ v) (h2 : v ≤ 1023) : ai_GI ax_T (stM M 25 4 v) := ax_giSO (k := 25) (j := 4) rfl G h1 h2
theorem rO_25_5 {M : MM} (G : ai_GI ax_T M) : (-2147483648) ≤ M 25 5 ∧ M 25 5 ≤ 2147483647 := ax_giO (k := 25) (j := 5) rfl G
theorem sO_25_5 {M : MM} (G : ai_GI ax_T M) {v : Int} (h1 : (-2147483648) ≤ v) (h2 : v ≤ 2147483647) : ai_GI ax_T (stM M 25 5 v) := ax_giSO (k := 25) (j := 5) rfl G h1 h2
theorem rO_25_6 {M : MM} (G : ai_GI ax_T M) : (-2147483648) ≤ M 25 6 ∧ M 25 6 ≤ 2147483647 := ax_giO (k := 25) (j := 6) rfl G
theorem sO_25_6 {M : MM} (G : ai_GI ax_T M) {v : Int} (h1 : (-2147483648) ≤ v) (h2 : v ≤ 2147483647) : ai_GI ax_T (stM M 25 6 v) := ax_giSO (k := 25) (j := 6) rfl G h1 h2
theorem rO_25_7 {M : MM} (G : ai_GI ax_T M) : 0 ≤ M 25 7 ∧ M 25 7 ≤ 65535 := ax_giO (k := 25) (j := 7) rfl G
theorem sO_25_7 {M : MM} (G : ai_GI ax_T M) {v : Int} (h1 : 0 ≤ v) (h2 : v ≤ 65535) : ai_GI ax_T (stM M 25 7 v) := ax_giSO (k := 25) (j := 7) rfl G h1 h2
theorem rA_26 {M : MM} (G : ai_GI ax_T M) (j : Nat) : (-1) ≤ M 26 j ∧ M 26 j ≤ 63 := ax_giA (k := 26) rfl G j
theorem sA_26 {M : MM} (G : ai_GI ax_T M) {j : Nat} {v : Int} (h1 : (-1) ≤ v) (h2 : v ≤ 63) : ai_GI ax_T (stM M 26 j v) := ax_giSA (k := 26) rfl G h1 h2
theorem rA_27 {M : MM} (G : ai_GI ax_T M) (j : Nat) : 0 ≤ M 27 j ∧ M 27 j ≤ 999 := ax_giA (k := 27) rfl G j
theorem sA_27 {M : MM} (G : ai_GI ax_T M) {j : Nat} {v : Int} (h1 : 0 ≤ v) (h2 : v ≤ 999) : ai_GI ax_T (stM M 27 j v) := ax_giSA (k := 27) rfl G h1 h2
theorem rA_28 {M : MM} (G : ai_GI ax_T M) (j : Nat) : 0 ≤ M 28 j ∧ M 28 j ≤ 999 := ax_giA (k := 28) rfl G j
theorem sA_28 {M : MM} (G : ai_GI ax_T M) {j : Nat} {v : Int} (h1 : 0 ≤ v) (h2 : v ≤ 999) : ai_GI ax_T (stM M 28 j v) := ax_giSA (k := 28) rfl G h1 h2
theorem rA_29 {M : MM} (G : ai_GI ax_T M) (j : Nat) : 0 ≤ M 29 j ∧ M 29 j ≤ 1 := ax_giA (k := 29) rfl G j
theorem sA_29 {M : MM} (G : ai_GI ax_T M) {j : Nat} {v : Int} (h1 : 0 ≤ v) (h2 : v ≤ 1) : ai_GI ax_T (stM M 29 j v) := ax_giSA (k := 29) rfl G h1 h2
theorem rA_30 {M : MM} (G : ai_GI ax_T M) (j : Nat) : 0 ≤ M 30 j ∧ M 30 j ≤ 63 := ax_giA (k := 30) rfl G j
theorem sA_30 {M : MM} (G : ai_GI ax_T M) {j : Nat} {v : Int} (h1 : 0 ≤ v) (h2 : v ≤ 63) : ai_GI ax_T (stM M 30 j v) := ax_giSA (k := 30) rfl G h1 h2
theorem rA_31 {M : MM} (G : ai_GI ax_T M) (j : Nat) : (-2) ≤ M 31 j ∧ M 31 j ≤ 60 := ax_giA (k := 31) rfl G j
theorem sA_31 {M : MM} (G : ai_GI ax_T M) {j : Nat} {v : Int} (h1 : (-2) ≤ v) (h2 : v ≤ 60) : ai_GI ax_T (stM M 31 j v) := ax_giSA (k := 31) rfl G h1 h2
theorem rO_32_1 {M : MM} (G : ai_GI ax_T M) : (-1) ≤ M 32 1 ∧ M 32 1 ≤ 2147483647 := ax_giO (k := 32) (j := 1) rfl G
theorem sO_32_1 {M : MM} (G : ai_GI ax_T M) {v : Int} (h1 : (-1) ≤ v) (h2 : v ≤ 2147483647) : ai_GI ax_T (stM M 32 1 v) := ax_giSO (k := 32) (j := 1) rfl G h1 h2
theorem rO_32_2 {M : MM} (G : ai_GI ax_T M) : (-1) ≤ M 32 2 ∧ M 32 2 ≤ 63 := ax_giO (k := 32) (j := 2) rfl G
theorem sO_32_2 {M : MM} (G : ai_GI ax_T M) {v : Int} (h1 : (-1) ≤ v) (h2 : v ≤ 63) : ai_GI ax_T (stM M 32 2 v) := ax_giSO (k := 32) (j := 2) rfl G h1 h2
theorem rA_33 {M : MM} (G : ai_GI ax_T M) (j : Nat) : (-2147483648) ≤ M 33 j ∧ M 33 j ≤ 2147483647 := ax_giA (k := 33) rfl G j
theorem sA_33 {M : MM} (G : ai_GI ax_T M) {j : Nat} {v : Int} (h1 : (-2147483648) ≤ v) (h2 : v ≤ 2147483647) : ai_GI ax_T (stM M 33 j v) := ax_giSA (k := 33) rfl G h1 h2
theorem rA_34 {M : MM} (G : ai_GI ax_T M) (j : Nat) : (-2147483648) ≤ M 34 j ∧ M 34 j ≤ 2147483647 := ax_giA (k := 34) rfl G j
theorem sA_34 {M : MM} (G : ai_GI ax_T M) {j : Nat} {v : Int} (h1 : (-2147483648) ≤ v) (h2 : v ≤ 2147483647) : ai_GI ax_T (stM M 34 j v) := ax_giSA (k := 34) rfl G h1 h2
theorem rA_35 {M : MM} (G : ai_GI ax_T M) (j : Nat) : (-2147483648) ≤ M 35 j ∧ M 35 j ≤ 2147483647 := ax_giA (k := 35) rfl G j
theorem sA_35 {M : MM} (G : ai_GI ax_T M) {j : Nat} {v : Int} (h1 : (-2147483648) ≤ v) (h2 : v ≤ 2147483647) : ai_GI ax_T (stM M 35 j v) := ax_giSA (k := 35) rfl G h1 h2
theorem rA_36 {M : MM} (G : ai_GI ax_T M) (j : Nat) : 0 ≤ M 36 j ∧ M 36 j ≤ 63 := ax_giA (k := 36) rfl G j
theorem sA_36 {M : MM} (G : ai_GI ax_T M) {j : Nat} {v : Int} (h1 : 0 ≤ v) (h2 : v ≤ 63) : ai_GI ax_T (stM M 36 j v) := ax_giSA (k := 36) rfl G h1 h2
theorem rO_37_3 {M : MM} (G : ai_GI ax_T M) : 0 ≤ M 37 3 ∧ M 37 3 ≤ 10 := ax_giO (k := 37) (j := 3) rfl G
theorem sO_37_3 {M : MM} (G : ai_GI ax_T M) {v : Int} (h1 : 0 ≤ v) (h2 : v ≤ 10) : ai_GI ax_T (stM M 37 3 v) := ax_giSO (k := 37) (j := 3) rfl G h1 h2
theorem rA_38 {M : MM} (G : ai_GI ax_T M) (j : Nat) : (-1) ≤ M 38 j ∧ M 38 j ≤ 255 := ax_giA (k := 38) rfl G j
theorem sA_38 {M : MM} (G : ai_GI ax_T M) {j : Nat} {v : Int} (h1 : (-1) ≤ v) (h2 : v ≤ 255) : ai_GI ax_T (stM M 38 j v) := ax_giSA (k := 38) rfl G h1 h2
theorem rA_39 {M : MM} (G : ai_GI ax_T M) (j : Nat) : (-1) ≤ M 39 j ∧ M 39 j ≤ 255 := ax_giA (k := 39) rfl G j
theorem sA_39 {M : MM} (G : ai_GI ax_T M) {j : Nat} {v : Int} (h1 : (-1) ≤ v) (h2 : v ≤ 255) : ai_GI ax_T (stM M 39 j v) := ax_giSA (k := 39) rfl G h1 h2
theorem rA_40 {M : MM} (G : ai_GI ax_T M) (j : Nat) : 0 ≤ M 40 j ∧ M 40 j ≤ 1023 := ax_giA (k := 40) rfl G j
theorem sA_40 {M : MM} (G : ai_GI ax_T M) {j : Nat} {v : Int} (h1 : 0 ≤ v) (h2 : v ≤ 1023) : ai_GI ax_T (stM M 40 j v) := ax_giSA (k := 40) rfl G h1 h2
theorem rO_41_4 {M : MM} (G : ai_GI ax_T M) : 0 ≤ M 41 4 ∧ M 41 4 ≤ 5 := ax_giO (k := 41) (j := 4) rfl G
theorem sO_41_4 {M : MM} (G : ai_GI ax_T M) {v : Int} (h1 : 0 ≤ v) (h2 : v ≤ 5) : ai_GI ax_T (stM M 41 4 v) := ax_giSO (k := 41) (j := 4) rfl G h1 h2
theorem rO_41_5 {M : MM} (G : ai_GI ax_T M) : 0 ≤ M 41 5 ∧ M 41 5 ≤ 14 := ax_giO (k := 41) (j := 5) rfl G
theorem sO_41_5 {M : MM} (G : ai_GI ax_T M) {v : Int} (h1 : 0 ≤ v) (h2 : v ≤ 14) : ai_GI ax_T (stM M 41 5 v) := ax_giSO (k := 41) (j := 5) rfl G h1 h2
theorem rO_41_6 {M : MM} (G : ai_GI ax_T M) : 0 ≤ M 41 6 ∧ M 41 6 ≤ 3 := ax_giO (k := 41) (j := 6) rfl G
theorem sO_41_6 {M : MM} (G : ai_GI ax_T M) {v : Int} (h1 : 0 ≤ v) (h2 : v ≤ 3) : ai_GI ax_T (stM M 41 6 v) := ax_giSO (k := 41) (j := 6) rfl G h1 h2
theorem rA_42 {M : MM} (G : ai_GI ax_T M) (j : Nat) : 0 ≤ M 42 j ∧ M 42 j ≤ 9 := ax_giA (k := 42) rfl G j
theorem sA_42 {M : MM} (G : ai_GI ax_T M) {j : Nat} {v : Int} (h1 : 0 ≤ v) (h2 : v ≤ 9) : ai_GI ax_T (stM M 42 j v) := ax_giSA (k := 42) rfl G h1 h2
theorem rA_43 {M : MM} (G : ai_GI ax_T M) (j : Nat) : 0 ≤ M 43 j ∧ M 43 j ≤ 31 := ax_giA (k := 43) rfl G j
theorem sA_43 {M : MM} (G : ai_GI ax_T M) {j : Nat} {v : Int} (h1 : 0 ≤ v) (h2 : v ≤ 31) : ai_GI ax_T (stM M 43 j v) := ax_giSA (k := 43) rfl G h1 h2
theorem rA_44 {M : MM} (G : ai_GI ax_T M) (j : Nat) : 0 ≤ M 44 j ∧ M 44 j ≤ 1000000000 := ax_giA (k := 44) rfl G j
theorem sA_44 {M : MM} (G : ai_GI ax_T M) {j : Nat} {v : Int} (h1 : 0 ≤ v) (h2 : v ≤ 1000000000) : ai_GI ax_T (stM M 44 j v) := ax_giSA (k := 44) rfl G h1 h2
theorem rA_45 {M : MM} (G : ai_GI ax_T M) (j : Nat) : (-128) ≤ M 45 j ∧ M 45 j ≤ 14 := ax_giA (k := 45) rfl G j
theorem sA_45 {M : MM} (G : ai_GI ax_T M) {j : Nat} {v : Int} (h1 : (-128) ≤ v) (h2 : v ≤ 14) : ai_GI ax_T (stM M 45 j v) := ax_giSA (k := 45) rfl G h1 h2
theorem rO_46_4 {M : MM} (G : ai_GI ax_T M) : 0 ≤ M 46 4 ∧ M 46 4 ≤ 1023 := ax_giO (k := 46) (j := 4) rfl G
theorem sO_46_4 {M : MM} (G : ai_GI ax_T M) {v : Int} (h1 : 0 ≤ v) (h2 : v ≤ 1023) : ai_GI ax_T (stM M 46 4 v) := ax_giSO (k := 46) (j := 4) rfl G h1 h2
theorem rO_46_5 {M : MM} (G : ai_GI ax_T M) : (-2147483648) ≤ M 46 5 ∧ M 46 5 ≤ 2147483647 := ax_giO (k := 46) (j := 5) rfl G
theorem sO_46_5 {M : MM} (G : ai_GI ax_T M) {v : Int} (h1 : (-2147483648) ≤ v) (h2 : v ≤ 2147483647) : ai_GI ax_T (stM M 46 5 v) := ax_giSO (k := 46) (j := 5) rfl G h1 h2
theorem rO_46_6 {M : MM} (G : ai_GI ax_T M) : (-2147483648) ≤ M 46 6 ∧ M 46 6 ≤ 2147483647 := ax_giO (k := 46) (j := 6) rfl G
theorem sO_46_6 {M : MM} (G : ai_GI ax_T M) {v : Int} (h1 : (-2147483648) ≤ v) (h2 : v ≤ 2147483647) : ai_GI ax_T (stM M 46 6 v) := ax_giSO (k := 46) (j := 6) rfl G h1 h2
theorem rO_46_7 {M : MM} (G : ai_GI ax_T M) : 0 ≤ M 46 7 ∧ M 46 7 ≤ 65535 := ax_giO (k := 46) (j := 7) rfl G
theorem sO_46_7 {M : MM} (G : ai_GI ax_T M) {v : Int} (h1 : 0 ≤ v) (h2 : v ≤ 65535) : ai_GI ax_T (stM M 46 7 v) := ax_giSO (k := 46) (j := 7) rfl G h1 h2
theorem rA_47 {M : MM} (G : ai_GI ax_T M) (j : Nat) : (-1) ≤ M 47 j ∧ M 47 j ≤ 63 := ax_giA (k := 47) rfl G j
theorem sA_47 {M : MM} (G : ai_GI ax_T M) {j : Nat} {v : Int} (h1 : (-1) ≤ v) (h2 : v ≤ 63) : ai_GI ax_T (stM M 47 j v) := ax_giSA (k := 47) rfl G h1 h2
theorem rA_48 {M : MM} (G : ai_GI ax_T M) (j : Nat) : 0 ≤ M 48 j ∧ M 48 j ≤ 999 := ax_giA (k := 48) rfl G j
theorem sA_48 {M : MM} (G : ai_GI ax_T M) {j : Nat} {v : Int} (h1 : 0 ≤ v) (h2 : v ≤ 999) : ai_GI ax_T (stM M 48 j v) := ax_giSA (k := 48) rfl G h1 h2
theorem rA_49 {M : MM} (G : ai_GI ax_T M) (j : Nat) : 0 ≤ M 49 j ∧ M 49 j ≤ 999 := ax_giA (k := 49) rfl G j
theorem sA_49 {M : MM} (G : ai_GI ax_T M) {j : Nat} {v : Int} (h1 : 0 ≤ v) (h2 : v ≤ 999) : ai_GI ax_T (stM M 49 j v) := ax_giSA (k := 49) rfl G h1 h2
theorem rA_50 {M : MM} (G : ai_GI ax_T M) (j : Nat) : 0 ≤ M 50 j ∧ M 50 j ≤ 1 := ax_giA (k := 50) rfl G j
theorem sA_50 {M : MM} (G : ai_GI ax_T M) {j : Nat} {v : Int} (h1 : 0 ≤ v) (h2 : v ≤ 1) : ai_GI ax_T (stM M 50 j v) := ax_giSA (k := 50) rfl G h1 h2
theorem rO_51_4 {M : MM} (G : ai_GI ax_T M) : 0 ≤ M 51 4 ∧ M 51 4 ≤ 1023 := ax_giO (k := 51) (j := 4) rfl G
theorem sO_51_4 {M : MM} (G : ai_GI ax_T M) {v : Int} (h1 : 0 ≤ v) (h2 : v ≤ 1023) : ai_GI ax_T (stM M 51 4 v) := ax_giSO (k := 51) (j := 4) rfl G h1 h2
theorem rO_51_5 {M : MM} (G : ai_GI ax_T M) : (-2147483648) ≤ M 51 5 ∧ M 51 5 ≤ 2147483647 := ax_giO (k := 51) (j := 5) rfl G
theorem sO_51_5 {M : MM} (G : ai_GI ax_T M) {v : Int} (h1 : (-2147483648) ≤ v) (h2 : v ≤ 2147483647) : ai_GI ax_T (stM M 51 5 v) := ax_giSO (k := 51) (j := 5) rfl G h1 h2
theorem rO_51_6 {M : MM} (G : ai_GI ax_T M) : (-2147483648) ≤ M 51 6 ∧ M 51 6 ≤ 2147483647 := ax_giO (k := 51) (j := 6) rfl G
theorem sO_51_6 {M : MM} (G : ai_GI ax_T M) {v : Int} (h1 : (-2147483648) ≤ v) (h2 : v ≤ 2147483647) : ai_GI ax_T (stM M 51 6 v) := ax_giSO (k := 51) (j := 6) rfl G h1 h2
theorem rO_51_7 {M : MM} (G : ai_GI ax_T M) : 0 ≤ M 51 7 ∧ M 51 7 ≤ 65535 := ax_giO (k := 51) (j := 7) rfl G
theorem sO_51_7 {M : MM} (G : ai_GI ax_T M) {v : Int} (h1 : 0 ≤ v) (h2 : v ≤ 65535) : ai_GI ax_T (stM M 51 7 v) := ax_giSO (k := 51) (j := 7) rfl G h1 h2
theorem rA_52 {M : MM} (G : ai_GI ax_T M) (j : Nat) : (-1) ≤ M 52 j ∧ M 52 j ≤ 63 := ax_giA (k := 52) rfl G j
theorem sA_52 {M : MM} (G : ai_GI ax_T M) {j : Nat} {v : Int} (h1 : (-1) ≤ v) (h2 : v ≤ 63) : ai_GI ax_T (stM M 52 j v) := ax_giSA (k := 52) rfl G h1 h2
theorem rA_53 {M : MM} (G : ai_GI ax_T M) (j : Nat) : 0 ≤ M 53 j ∧ M 53 j ≤ 999 := ax_giA (k := 53) rfl G j
theorem sA_53 {M : MM} (G : ai_GI ax_T M) {j : Nat} {v : Int} (h1 : 0 ≤ v) (h2 : v ≤ 999) : ai_GI ax_T (stM M 53 j v) := ax_giSA (k := 53) rfl G h1 h2
theorem rA_54 {M : MM} (G : ai_GI ax_T M) (j : Nat) : 0 ≤ M 54 j ∧ M 54 j ≤ 999 := ax_giA (k := 54) rfl G j
theorem sA_54 {M : MM} (G : ai_GI ax_T M) {j : Nat} {v : Int} (h1 : 0 ≤ v) (h2 : v ≤ 999) : ai_GI ax_T (stM M 54 j v) := ax_giSA (k := 54) rfl G h1 h2
theorem rA_55 {M : MM} (G : ai_GI ax_T M) (j : Nat) : 0 ≤ M 55 j ∧ M 55 j ≤ 1 := ax_giA (k := 55) rfl G j
theorem sA_55 {M : MM} (G : ai_GI ax_T M) {j : Nat} {v : Int} (h1 : 0 ≤ v) (h2 : v ≤ 1) : ai_GI ax_T (stM M 55 j v) := ax_giSA (k := 55) rfl G h1 h2
theorem rA_56 {M : MM} (G : ai_GI ax_T M) (j : Nat) : 0 ≤ M 56 j ∧ M 56 j ≤ 255 := ax_giA (k := 56) rfl G j
theorem sA_56 {M : MM} (G : ai_GI ax_T M) {j : Nat} {v : Int} (h1 : 0 ≤ v) (h2 : v ≤ 255) : ai_GI ax_T (stM M 56 j v) := ax_giSA (k := 56) rfl G h1 h2
theorem rO_57_3 {M : MM} (G : ai_GI ax_T M) : 0 ≤ M 57 3 ∧ M 57 3 ≤ 8 := ax_giO (k := 57) (j := 3) rfl G
theorem sO_57_3 {M : MM} (G : ai_GI ax_T M) {v : Int} (h1 : 0 ≤ v) (h2 : v ≤ 8) : ai_GI ax_T (stM M 57 3 v) := ax_giSO (k := 57) (j := 3) rfl G h1 h2
theorem rO_57_4 {M : MM} (G : ai_GI ax_T M) : 0 ≤ M 57 4 ∧ M 57 4 ≤ 7 := ax_giO (k := 57) (j := 4) rfl G
theorem sO_57_4 {M : MM} (G : ai_GI ax_T M) {v : Int} (h1 : 0 ≤ v) (h2 : v ≤ 7) : ai_GI ax_T (stM M 57 4 v) := ax_giSO (k := 57) (j := 4) rfl G h1 h2
theorem rA_58 {M : MM} (G : ai_GI ax_T M) (j : Nat) : 0 ≤ M 58 j ∧ M 58 j ≤ 11 := ax_giA (k := 58) rfl G j
theorem sA_58 {M : MM} (G : ai_GI ax_T M) {j : Nat} {v : Int} (h1 : 0 ≤ v) (h2 : v ≤ 11) : ai_GI ax_T (stM M 58 j v) := ax_giSA (k := 58) rfl G h1 h2
theorem rA_59 {M : MM} (G : ai_GI ax_T M) (j : Nat) : (-1) ≤ M 59 j ∧ M 59 j ≤ 63 := ax_giA (k := 59) rfl G j
theorem sA_59 {M : MM} (G : ai_GI ax_T M) {j : Nat} {v : Int} (h1 : (-1) ≤ v) (h2 : v ≤ 63) : ai_GI ax_T (stM M 59 j v) := ax_giSA (k := 59) rfl G h1 h2
theorem rA_60 {M : MM} (G : ai_GI ax_T M) (j : Nat) : (-9223372036854775808) ≤ M 60 j ∧ M 60 j ≤ 9223372036854775807 := ax_giA (k := 60) rfl G j
theorem sA_60 {M : MM} (G : ai_GI ax_T M) {j : Nat} {v : Int} (h1 : (-9223372036854775808) ≤ v) (h2 : v ≤ 9223372036854775807) : ai_GI ax_T (stM M 60 j v) := ax_giSA (k := 60) rfl G h1 h2
theorem rO_61_3 {M : MM} (G : ai_GI ax_T M) : 0 ≤ M 61 3 ∧ M 61 3 ≤ 8 := ax_giO (k := 61) (j := 3) rfl G
theorem sO_61_3 {M : MM} (G : ai_GI ax_T M) {v : Int} (h1 : 0 ≤ v) (h2 : v ≤ 8) : ai_GI ax_T (stM M 61 3 v) := ax_giSO (k := 61) (j := 3) rfl G h1 h2
theorem rO_61_4 {M : MM} (G : ai_GI ax_T M) : 0 ≤ M 61 4 ∧ M 61 4 ≤ 7 := ax_giO (k := 61) (j := 4) rfl G
theorem sO_61_4 {M : MM} (G : ai_GI ax_T M) {v : Int} (h1 : 0 ≤ v) (h2 : v ≤ 7) : ai_GI ax_T (stM M 61 4 v) := ax_giSO (k := 61) (j := 4) rfl G h1 h2
theorem rA_62 {M : MM} (G : ai_GI ax_T M) (j : Nat) : 0 ≤ M 62 j ∧ M 62 j ≤ 11 := ax_giA (k := 62) rfl G j
theorem sA_62 {M : MM} (G : ai_GI ax_T M) {j : Nat} {v : Int} (h1 : 0 ≤ v) (h2 : v ≤ 11) : ai_GI ax_T (stM M 62 j v) := ax_giSA (k := 62) rfl G h1 h2
theorem rA_63 {M : MM} (G : ai_GI ax_T M) (j : Nat) : (-1) ≤ M 63 j ∧ M 63 j ≤ 63 := ax_giA (k := 63) rfl G j
theorem sA_63 {M : MM} (G : ai_GI ax_T M) {j : Nat} {v : Int} (h1 : (-1) ≤ v) (h2 : v ≤ 63) : ai_GI ax_T (stM M 63 j v) := ax_giSA (k := 63) rfl G h1 h2
theorem rA_64 {M : MM} (G : ai_GI ax_T M) (j : Nat) : (-9223372036854775808) ≤ M 64 j ∧ M 64 j ≤ 9223372036854775807 := ax_giA (k := 64) rfl G j
theorem sA_64 {M : MM} (G : ai_GI ax_T M) {j : Nat} {v : Int} (h1 : (-9223372036854775808) ≤ v) (h2 : v ≤ 9223372036854775807) : ai_GI ax_T (stM M 64 j v) := ax_giSA (k := 64) rfl G h1 h2
theorem rO_65_0 {M : MM} (G : ai_GI ax_T M) : 0 ≤ M 65 0 ∧ M 65 0 ≤ 16 := ax_giO (k := 65) (j := 0) rfl G
theorem sO_65_0 {M : MM} (G : ai_GI ax_T M) {v : Int} (h1 : 0 ≤ v) (h2 : v ≤ 16) : ai_GI ax_T (stM M 65 0 v) := ax_giSO (k := 65) (j := 0) rfl G h1 h2
theorem rO_65_6 {M : MM} (G : ai_GI ax_T M) : 0 ≤ M 65 6 ∧ M 65 6 ≤ 320 := ax_giO (k := 65) (j := 6) rfl G
theorem sO_65_6 {M : MM} (G : ai_GI ax_T M) {v : Int} (h1 : 0 ≤ v) (h2 : v ≤ 320) : ai_GI ax_T (stM M 65 6 v) := ax_giSO (k := 65) (j := 6) rfl G h1 h2
theorem rO_65_9 {M : MM} (G : ai_GI ax_T M) : 0 ≤ M 65 9 ∧ M 65 9 ≤ 64 := ax_giO (k := 65) (j := 9) rfl G
theorem sO_65_9 {M : MM} (G : ai_GI ax_T M) {v : Int} (h1 : 0 ≤ v) (h2 : v ≤ 64) : ai_GI ax_T (stM M 65 9 v) := ax_giSO (k := 65) (j := 9) rfl G h1 h2
theorem rO_65_10 {M : MM} (G : ai_GI ax_T M) : 0 ≤ M 65 10 ∧ M 65 10 ≤ 1 := ax_giO (k := 65) (j := 10) rfl G
theorem sO_65_10 {M : MM} (G : ai_GI ax_T M) {v : Int} (h1 : 0 ≤ v) (h2 : v ≤ 1) : ai_GI ax_T (stM M 65 10 v) := ax_giSO (k := 65) (j := 10) rfl G h1 h2
theorem rA_66 {M : MM} (G : ai_GI ax_T M) (j : Nat) : 0 ≤ M 66 j ∧ M 66 j ≤ 119 := ax_giA (k := 66) rfl G j
theorem sA_66 {M : MM} (G : ai_GI ax_T M) {j : Nat} {v : Int} (h1 : 0 ≤ v) (h2 : v ≤ 119) : ai_GI ax_T (stM M 66 j v) := ax_giSA (k := 66) rfl G h1 h2
theorem rA_67 {M : MM} (G : ai_GI ax_T M) (j : Nat) : 0 ≤ M 67 j ∧ M 67 j ≤ 320 := ax_giA (k := 67) rfl G j
theorem sA_67 {M : MM} (G : ai_GI ax_T M) {j : Nat} {v : Int} (h1 : 0 ≤ v) (h2 : v ≤ 320) : ai_GI ax_T (stM M 67 j v) := ax_giSA (k := 67) rfl G h1 h2
theorem rA_68 {M : MM} (G : ai_GI ax_T M) (j : Nat) : 0 ≤ M 68 j ∧ M 68 j ≤ 320 := ax_giA (k := 68) rfl G j
theorem sA_68 {M : MM} (G : ai_GI ax_T M) {j : Nat} {v : Int} (h1 : 0 ≤ v) (h2 : v ≤ 320) : ai_GI ax_T (stM M 68 j v) := ax_giSA (k := 68) rfl G h1 h2
theorem rA_69 {M : MM} (G : ai_GI ax_T M) (j : Nat) : 0 ≤ M 69 j ∧ M 69 j ≤ 127 := ax_giA (k := 69) rfl G j
theorem sA_69 {M : MM} (G : ai_GI ax_T M) {j : Nat} {v : Int} (h1 : 0 ≤ v) (h2 : v ≤ 127) : ai_GI ax_T (stM M 69 j v) := ax_giSA (k := 69) rfl G h1 h2
theorem rA_70 {M : MM} (G : ai_GI ax_T M) (j : Nat) : (-2147483648) ≤ M 70 j ∧ M 70 j ≤ 2147483647 := ax_giA (k := 70) rfl G j
theorem sA_70 {M : MM} (G : ai_GI ax_T M) {j : Nat} {v : Int} (h1 : (-2147483648) ≤ v) (h2 : v ≤ 2147483647) : ai_GI ax_T (stM M 70 j v) := ax_giSA (k := 70) rfl G h1 h2
theorem rA_71 {M : MM} (G : ai_GI ax_T M) (j : Nat) : (-2147483648) ≤ M 71 j ∧ M 71 j ≤ 2147483647 := ax_giA (k := 71) rfl G j
theorem sA_71 {M : MM} (G : ai_GI ax_T M) {j : Nat} {v : Int} (h1 : (-2147483648) ≤ v) (h2 : v ≤ 2147483647) : ai_GI ax_T (stM M 71 j v) := ax_giSA (k := 71) rfl G h1 h2
theorem rA_72 {M : MM} (G : ai_GI ax_T M) (j : Nat) : (-2147483648) ≤ M 72 j ∧ M 72 j ≤ 2147483647 := ax_giA (k := 72) rfl G j
theorem sA_72 {M : MM} (G : ai_GI ax_T M) {j : Nat} {v : Int} (h1 : (-2147483648) ≤ v) (h2 : v ≤ 2147483647) : ai_GI ax_T (stM M 72 j v) := ax_giSA (k := 72) rfl G h1 h2
theorem rO_73_0 {M : MM} (G : ai_GI ax_T M) : 0 ≤ M 73 0 ∧ M 73 0 ≤ 16 := ax_giO (k := 73) (j := 0) rfl G
theorem sO_73_0 {M : MM} (G : ai_GI ax_T M) {v : Int} (h1 : 0 ≤ v) (h2 : v ≤ 16) : ai_GI ax_T (stM M 73 0 v) := ax_giSO (k := 73) (j := 0) rfl G h1 h2
theorem rO_73_6 {M : MM} (G : ai_GI ax_T M) : 0 ≤ M 73 6 ∧ M 73 6 ≤ 320 := ax_giO (k := 73) (j := 6) rfl G
theorem sO_73_6 {M : MM} (G : ai_GI ax_T M) {v : Int} (h1 : 0 ≤ v) (h2 : v ≤ 320) : ai_GI ax_T (stM M 73 6 v) := ax_giSO (k := 73) (j := 6) rfl G h1 h2
theorem rO_73_9 {M : MM} (G : ai_GI ax_T M) : 0 ≤ M 73 9 ∧ M 73 9 ≤ 64 := ax_giO (k := 73) (j := 9) rfl G
theorem sO_73_9 {M : MM} (G : ai_GI ax_T M) {v : Int} (h1 : 0 ≤ v) (h2 : v ≤ 64) : ai_GI ax_T (stM M 73 9 v) := ax_giSO (k := 73) (j := 9) rfl G h1 h2
theorem rO_73_10 {M : MM} (G : ai_GI ax_T M) : 0 ≤ M 73 10 ∧ M 73 10 ≤ 1 := ax_giO (k := 73) (j := 10) rfl G
theorem sO_73_10 {M : MM} (G : ai_GI ax_T M) {v : Int} (h1 : 0 ≤ v) (h2 : v ≤ 1) : ai_GI ax_T (stM M 73 10 v) := ax_giSO (k := 73) (j := 10) rfl G h1 h2
theorem rA_74 {M : MM} (G : ai_GI ax_T M) (j : Nat) : 0 ≤ M 74 j ∧ M 74 j ≤ 119 := ax_giA (k := 74) rfl G j
theorem sA_74 {M : MM} (G : ai_GI ax_T M) {j : Nat} {v : Int} (h1 : 0 ≤ v) (h2 : v ≤ 119) : ai_GI ax_T (stM M 74 j v) := ax_giSA (k := 74) rfl G h1 h2
theorem rA_75 {M : MM} (G : ai_GI ax_T M) (j : Nat) : 0 ≤ M 75 j ∧ M 75 j ≤ 320 := ax_giA (k := 75) rfl G j
theorem sA_75 {M : MM} (G : ai_GI ax_T M) {j : Nat} {v : Int} (h1 : 0 ≤ v) (h2 : v ≤ 320) : ai_GI ax_T (stM M 75 j v) := ax_giSA (k := 75) rfl G h1 h2
theorem rA_76 {M : MM} (G : ai_GI ax_T M) (j : Nat) : 0 ≤ M 76 j ∧ M 76 j ≤ 320 := ax_giA (k := 76) rfl G j
theorem sA_76 {M : MM} (G : ai_GI ax_T M) {j : Nat} {v : Int} (h1 : 0 ≤ v) (h2 : v ≤ 320) : ai_GI ax_T (stM M 76 j v) := ax_giSA (k := 76) rfl G h1 h2
theorem rA_77 {M : MM} (G : ai_GI ax_T M) (j : Nat) : 0 ≤ M 77 j ∧ M 77 j ≤ 127 := ax_giA (k := 77) rfl G j
theorem sA_77 {M : MM} (G : ai_GI ax_T M) {j : Nat} {v : Int} (h1 : 0 ≤ v) (h2 : v ≤ 127) : ai_GI ax_T (stM M 77 j v) := ax_giSA (k := 77) rfl G h1 h2
theorem rA_78 {M : MM} (G : ai_GI ax_T M) (j : Nat) : (-2147483648) ≤ M 78 j ∧ M 78 j ≤ 2147483647 := ax_giA (k := 78) rfl G j
theorem sA_78 {M : MM} (G : ai_GI ax_T M) {j : Nat} {v : Int} (h1 : (-2147483648) ≤ v) (h2 : v ≤ 2147483647) : ai_GI ax_T (stM M 78 j v) := ax_giSA (k := 78) rfl G h1 h2
theorem rA_79 {M : MM} (G : ai_GI ax_T M) (j : Nat) : (-2147483648) ≤ M 79 j ∧ M 79 j ≤ 2147483647 := ax_giA (k := 79) rfl G j
theorem sA_79 {M : MM} (G : ai_GI ax_T M) {j : Nat} {v : Int} (h1 : (-2147483648) ≤ v) (h2 : v ≤ 2147483647) : ai_GI ax_T (stM M 79 j v) := ax_giSA (k := 79) rfl G h1 h2
theorem rA_80 {M : MM} (G : ai_GI ax_T M) (j : Nat) : (-2147483648) ≤ M 80 j ∧ M 80 j ≤ 2147483647 := ax_giA (k := 80) rfl G j
theorem sA_80 {M : MM} (G : ai_GI ax_T M) {j : Nat} {v : Int} (h1 : (-2147483648) ≤ v) (h2 : v ≤ 2147483647) : ai_GI ax_T (stM M 80 j v) := ax_giSA (k := 80) rfl G h1 h2
theorem rO_81_8 {M : MM} (G : ai_GI ax_T M) : 0 ≤ M 81 8 ∧ M 81 8 ≤ 1023 := ax_giO (k := 81) (j := 8) rfl G
theorem sO_81_8 {M : MM} (G : ai_GI ax_T M) {v : Int} (h1 : 0 ≤ v) (h2 : v ≤ 1023) : ai_GI ax_T (stM M 81 8 v) := ax_giSO (k := 81) (j := 8) rfl G h1 h2
theorem rO_81_10 {M : MM} (G : ai_GI ax_T M) : 0 ≤ M 81 10 ∧ M 81 10 ≤ 260 := ax_giO (k := 81) (j := 10) rfl G
theorem sO_81_10 {M : MM} (G : ai_GI ax_T M) {v : Int} (h1 : 0 ≤ v) (h2 : v ≤ 260) : ai_GI ax_T (stM M 81 10 v) := ax_giSO (k := 81) (j := 10) rfl G h1 h2
theorem rO_81_11 {M : MM} (G : ai_GI ax_T M) : 0 ≤ M 81 11 ∧ M 81 11 ≤ 240 := ax_giO (k := 81) (j := 11) rfl G
theorem sO_81_11 {M : MM} (G : ai_GI ax_T M) {v : Int} (h1 : 0 ≤ v) (h2 : v ≤ 240) : ai_GI ax_T (stM M 81 11 v) := ax_giSO (k := 81) (j := 11) rfl G h1 h2
theorem rO_81_12 {M : MM} (G : ai_GI ax_T M) : 0 ≤ M 81 12 ∧ M 81 12 ≤ 240 := ax_giO (k := 81) (j := 12) rfl G
theorem sO_81_12 {M : MM} (G : ai_GI ax_T M) {v : Int} (h1 : 0 ≤ v) (h2 : v ≤ 240) : ai_GI ax_T (stM M 81 12 v) := ax_giSO (k := 81) (j := 12) rfl G h1 h2
theorem rO_81_13 {M : MM} (G : ai_GI ax_T M) : (-1000000000) ≤ M 81 13 ∧ M 81 13 ≤ 1000000000 := ax_giO (k := 81) (j := 13) rfl G
theorem sO_81_13 {M : MM} (G : ai_GI ax_T M) {v : Int} (h1 : (-1000000000) ≤ v) (h2 : v ≤ 1000000000) : ai_GI ax_T (stM M 81 13 v) := ax_giSO (k := 81) (j := 13) rfl G h1 h2
theorem rO_81_14 {M : MM} (G : ai_GI ax_T M) : 0 ≤ M 81 14 ∧ M 81 14 ≤ 99999 := ax_giO (k := 81) (j := 14) rfl G
theorem sO_81_14 {M : MM} (G : ai_GI ax_T M) {v : Int} (h1 : 0 ≤ v) (h2 : v ≤ 99999) : ai_GI ax_T (stM M 81 14 v) := ax_giSO (k := 81) (j := 14) rfl G h1 h2
theorem rO_81_15 {M : MM} (G : ai_GI ax_T M) : (-2147483648) ≤ M 81 15 ∧ M 81 15 ≤ 2147483647 := ax_giO (k := 81) (j := 15) rfl G
theorem sO_81_15 {M : MM} (G : ai_GI ax_T M) {v : Int} (h1 : (-2147483648) ≤ v) (h2 : v ≤ 2147483647) : ai_GI ax_T (stM M 81 15 v) := ax_giSO (k := 81) (j := 15) rfl G h1 h2
theorem rO_81_16 {M : MM} (G : ai_GI ax_T M) : 0 ≤ M 81 16 ∧ M 81 16 ≤ 260 := ax_giO (k := 81) (j := 16) rfl G
theorem sO_81_16 {M : MM} (G : ai_GI ax_T M) {v : Int} (h1 : 0 ≤ v) (h2 : v ≤ 260) : ai_GI ax_T (stM M 81 16 v) := ax_giSO (k := 81) (j := 16) rfl G h1 h2
theorem rO_81_17 {M : MM} (G : ai_GI ax_T M) : 0 ≤ M 81 17 ∧ M 81 17 ≤ 260 := ax_giO (k := 81) (j := 17) rfl G
theorem sO_81_17 {M : MM} (G : ai_GI ax_T M) {v : Int} (h1 : 0 ≤ v) (h2 : v ≤ 260) : ai_GI ax_T (stM M 81 17 v) := ax_giSO (k := 81) (j := 17) rfl G h1 h2
theorem rO_81_18 {M : MM} (G : ai_GI ax_T M) : 0 ≤ M 81 18 ∧ M 81 18 ≤ 16 := ax_giO (k := 81) (j := 18) rfl G
theorem sO_81_18 {M : MM} (G : ai_GI ax_T M) {v : Int} (h1 : 0 ≤ v) (h2 : v ≤ 16) : ai_GI ax_T (stM M 81 18 v) := ax_giSO (k := 81) (j := 18) rfl G h1 h2
theorem rO_81_19 {M : MM} (G : ai_GI ax_T M) : 0 ≤ M 81 19 ∧ M 81 19 ≤ 16 := ax_giO (k := 81) (j := 19) rfl G
theorem sO_81_19 {M : MM} (G : ai_GI ax_T M) {v : Int} (h1 : 0 ≤ v) (h2 : v ≤ 16) : ai_GI ax_T (stM M 81 19 v) := ax_giSO (k := 81) (j := 19) rfl G h1 h2
theorem rO_81_37 {M : MM} (G : ai_GI ax_T M) : 0 ≤ M 81 37 ∧ M 81 37 ≤ 60 := ax_giO (k := 81) (j := 37) rfl G
theorem sO_81_37 {M : MM} (G : ai_GI ax_T M) {v : Int} (h1 : 0 ≤ v) (h2 : v ≤ 60) : ai_GI ax_T (stM M 81 37 v) := ax_giSO (k := 81) (j := 37) rfl G h1 h2
theorem rO_81_38 {M : MM} (G : ai_GI ax_T M) : 0 ≤ M 81 38 ∧ M 81 38 ≤ 3 := ax_giO (k := 81) (j := 38) rfl G
theorem sO_81_38 {M : MM} (G : ai_GI ax_T M) {v : Int} (h1 : 0 ≤ v) (h2 : v ≤ 3) : ai_GI ax_T (stM M 81 38 v) := ax_giSO (k := 81) (j := 38) rfl G h1 h2
theorem rO_81_39 {M : MM} (G : ai_GI ax_T M) : 0 ≤ M 81 39 ∧ M 81 39 ≤ 240 := ax_giO (k := 81) (j := 39) rfl G
theorem sO_81_39 {M : MM} (G : ai_GI ax_T M) {v : Int} (h1 : 0 ≤ v) (h2 : v ≤ 240) : ai_GI ax_T (stM M 81 39 v) := ax_giSO (k := 81) (j := 39) rfl G h1 h2
theorem rO_81_40 {M : MM} (G : ai_GI ax_T M) : 0 ≤ M 81 40 ∧ M 81 40 ≤ 9 := ax_giO (k := 81) (j := 40) rfl G
theorem sO_81_40 {M : MM} (G : ai_GI ax_T M) {v : Int} (h1 : 0 ≤ v) (h2 : v ≤ 9) : ai_GI ax_T (stM M 81 40 v) := ax_giSO (k := 81) (j := 40) rfl G h1 h2
theorem rO_81_45 {M : MM} (G : ai_GI ax_T M) : (-2147483648) ≤ M 81 45 ∧ M 81 45 ≤ 2147483647 := ax_giO (k := 81) (j := 45) rfl G
theorem sO_81_45 {M : MM} (G : ai_GI ax_T M) {v : Int} (h1 : (-2147483648) ≤ v) (h2 : v ≤ 2147483647) : ai_GI ax_T (stM M 81 45 v) := ax_giSO (k := 81) (j := 45) rfl G h1 h2
theorem rO_81_46 {M : MM} (G : ai_GI ax_T M) : 0 ≤ M 81 46 ∧ M 81 46 ≤ 1023 := ax_giO (k := 81) (j := 46) rfl G
theorem sO_81_46 {M : MM} (G : ai_GI ax_T M) {v : Int} (h1 : 0 ≤ v) (h2 : v ≤ 1023) : ai_GI ax_T (stM M 81 46 v) := ax_giSO (k := 81) (j := 46) rfl G h1 h2
theorem rO_81_47 {M : MM} (G : ai_GI ax_T M) : (-2147483648) ≤ M 81 47 ∧ M 81 47 ≤ 2147483647 := ax_giO (k := 81) (j := 47) rfl G
theorem sO_81_47 {M : MM} (G : ai_GI ax_T M) {v : Int} (h1 : (-2147483648) ≤ v) (h2 : v ≤ 2147483647) : ai_GI ax_T (stM M 81 47 v) := ax_giSO (k := 81) (j := 47) rfl G h1 h2
theorem rO_81_48 {M : MM} (G : ai_GI ax_T M) : (-2147483648) ≤ M 81 48 ∧ M 81 48 ≤ 2147483647 := ax_giO (k := 81) (j := 48) rfl G
theorem sO_81_48 {M : MM} (G : ai_GI ax_T M) {v : Int} (h1 : (-2147483648) ≤ v) (h2 : v ≤ 2147483647) : ai_GI ax_T (stM M 81 48 v) := ax_giSO (k := 81) (j := 48) rfl G h1 h2
theorem rO_81_49 {M : MM} (G : ai_GI ax_T M) : (-2147483648) ≤ M 81 49 ∧ M 81 49 ≤ 2147483647 := ax_giO (k := 81) (j := 49) rfl G
theorem sO_81_49 {M : MM} (G : ai_GI ax_T M) {v : Int} (h1 : (-2147483648) ≤ v) (h2 : v ≤ 2147483647) : ai_GI ax_T (stM M 81 49 v) := ax_giSO (k := 81) (j := 49) rfl G h1 h2
theorem rO_81_57 {M : MM} (G : ai_GI ax_T M) : 0 ≤ M 81 57 ∧ M 81 57 ≤ 5 := ax_giO (k := 81) (j := 57) rfl G
theorem sO_81_57 {M : MM} (G : ai_GI ax_T M) {v : Int} (h1 : 0 ≤ v) (h2 : v ≤ 5) : ai_GI ax_T (stM M 81 57 v) := ax_giSO (k := 81) (j := 57) rfl G h1 h2
theorem rO_81_58 {M : MM} (G : ai_GI ax_T M) : 0 ≤ M 81 58 ∧ M 81 58 ≤ 3 := ax_giO (k := 81) (j := 58) rfl G
theorem sO_81_58 {M : MM} (G : ai_GI ax_T M) {v : Int} (h1 : 0 ≤ v) (h2 : v ≤ 3) : ai_GI ax_T (stM M 81 58 v) := ax_giSO (k := 81) (j := 58) rfl G h1 h2
theorem rO_81_61 {M : MM} (G : ai_GI ax_T M) : 0 ≤ M 81 61 ∧ M 81 61 ≤ 1 := ax_giO (k := 81) (j := 61) rfl G
theorem sO_81_61 {M : MM} (G : ai_GI ax_T M) {v : Int} (h1 : 0 ≤ v) (h2 : v ≤ 1) : ai_GI ax_T (stM M 81 61 v) := ax_giSO (k := 81) (j := 61) rfl G h1 h2
theorem rO_82_0 {M : MM} (G : ai_GI ax_T M) : 0 ≤ M 82 0 ∧ M 82 0 ≤ 63 := ax_giO (k := 82) (j := 0) rfl G
theorem sO_82_0 {M : MM} (G : ai_GI ax_T M) {v : Int} (h1 : 0 ≤ v) (h2 : v ≤ 63) : ai_GI ax_T (stM M 82 0 v) := ax_giSO (k := 82) (j := 0) rfl G h1 h2
theorem rO_82_1 {M : MM} (G : ai_GI ax_T M) : 0 ≤ M 82 1 ∧ M 82 1 ≤ 63 := ax_giO (k := 82) (j := 1) rfl G
theorem sO_82_1 {M : MM} (G : ai_GI ax_T M) {v : Int} (h1 : 0 ≤ v) (h2 : v ≤ 63) : ai_GI ax_T (stM M 82 1 v) := ax_giSO (k := 82) (j := 1) rfl G h1 h2
theorem rO_82_2 {M : MM} (G : ai_GI ax_T M) : 0 ≤ M 82 2 ∧ M 82 2 ≤ 63 := ax_giO (k := 82) (j := 2) rfl G
theorem sO_82_2 {M : MM} (G : ai_GI ax_T M) {v : Int} (h1 : 0 ≤ v) (h2 : v ≤ 63) : ai_GI ax_T (stM M 82 2 v) := ax_giSO (k := 82) (j := 2) rfl G h1 h2
theorem rO_82_3 {M : MM} (G : ai_GI ax_T M) : 0 ≤ M 82 3 ∧ M 82 3 ≤ 63 := ax_giO (k := 82) (j := 3) rfl G
theorem sO_82_3 {M : MM} (G : ai_GI ax_T M) {v : Int} (h1 : 0 ≤ v) (h2 : v ≤ 63) : ai_GI ax_T (stM M 82 3 v) := ax_giSO (k := 82) (j := 3) rfl G h1 h2
theorem rO_82_4 {M : MM} (G : ai_GI ax_T M) : 0 ≤ M 82 4 ∧ M 82 4 ≤ 63 := ax_giO (k := 82) (j := 4) rfl G
theorem sO_82_4 {M : MM} (G : ai_GI ax_T M) {v : Int} (h1 : 0 ≤ v) (h2 : v ≤ 63) : ai_GI ax_T (stM M 82 4 v) := ax_giSO (k := 82) (j := 4) rfl G h1 h2
theorem rO_82_5 {M : MM} (G : ai_GI ax_T M) : 0 ≤ M 82 5 ∧ M 82 5 ≤ 63 := ax_giO (k := 82) (j := 5) rfl G
theorem sO_82_5 {M : MM} (G : ai_GI ax_T M) {v : Int} (h1 : 0 ≤ v) (h2 : v ≤ 63) : ai_GI ax_T (stM M 82 5 v) := ax_giSO (k := 82) (j := 5) rfl G h1 h2
theorem rO_82_6 {M : MM} (G : ai_GI ax_T M) : 0 ≤ M 82 6 ∧ M 82 6 ≤ 63 := ax_giO (k := 82) (j := 6) rfl G
theorem sO_82_6 {M : MM} (G : ai_GI ax_T M) {v : Int} (h1 : 0 ≤ v) (h2 : v ≤ 63) : ai_GI ax_T (stM M 82 6 v) := ax_giSO (k := 82) (j := 6) rfl G h1 h2
theorem rO_82_7 {M : MM} (G : ai_GI ax_T M) : 0 ≤ M 82 7 ∧ M 82 7 ≤ 63 := ax_giO (k := 82) (j := 7) rfl G
theorem sO_82_7 {M : MM} (G : ai_GI ax_T M) {v : Int} (h1 : 0 ≤ v) (h2 : v ≤ 63) : ai_GI ax_T (stM M 82 7 v) := ax_giSO (k := 82) (j := 7) rfl G h1 h2
theorem rO_82_8 {M : MM} (G : ai_GI ax_T M) : 0 ≤ M 82 8 ∧ M 82 8 ≤ 63 := ax_giO (k := 82) (j := 8) rfl G
theorem sO_82_8 {M : MM} (G : ai_GI ax_T M) {v : Int} (h1 : 0 ≤ v) (h2 : v ≤ 63) : ai_GI ax_T (stM M 82 8 v) := ax_giSO (k := 82) (j := 8) rfl G h1 h2
theorem rO_82_9 {M : MM} (G : ai_GI ax_T M) : 0 ≤ M 82 9 ∧ M 82 9 ≤ 63 := ax_giO (k := 82) (j := 9) rfl G
theorem sO_82_9 {M : MM} (G : ai_GI ax_T M) {v : Int} (h1 : 0 ≤ v) (h2 : v ≤ 63) : ai_GI ax_T (stM M 82 9 v) := ax_giSO (k := 82) (j := 9) rfl G h1 h2
theorem rO_82_10 {M : MM} (G : ai_GI ax_T M) : 0 ≤ M 82 10 ∧ M 82 10 ≤ 999 := ax_giO (k := 82) (j := 10) rfl G
theorem sO_82_10 {M : MM} (G : ai_GI ax_T M) {v : Int} (h1 : 0 ≤ v) (h2 : v ≤ 999) : ai_GI ax_T (stM M 82 10 v) := ax_giSO (k := 82) (j := 10) rfl G h1 h2
theorem rO_82_11 {M : MM} (G : ai_GI ax_T M) : 0 ≤ M 82 11 ∧ M 82 11 ≤ 999 := ax_giO (k := 82) (j := 11) rfl G
theorem sO_82_11 {M : MM} (G : ai_GI ax_T M) {v : Int} (h1 : 0 ≤ v) (h2 : v ≤ 999) : ai_GI ax_T (stM M 82 11 v) := ax_giSO (k := 82) (j := 11) rfl G h1 h2
theorem rO_82_12 {M : MM} (G : ai_GI ax_T M) : 0 ≤ M 82 12 ∧ M 82 12 ≤ 999 := ax_giO (k := 82) (j := 12) rfl G
theorem sO_82_12 {M : MM} (G : ai_GI ax_T M) {v : Int} (h1 : 0 ≤ v) (h2 : v ≤ 999) : ai_GI ax_T (stM M 82 12 v) := ax_giSO (k := 82) (j := 12) rfl G h1 h2
theorem rO_82_13 {M : MM} (G : ai_GI ax_T M) : 0 ≤ M 82 13 ∧ M 82 13 ≤ 999 := ax_giO (k := 82) (j := 13) rfl G
theorem sO_82_13 {M : MM} (G : ai_GI ax_T M) {v : Int} (h1 : 0 ≤ v) (h2 : v ≤ 999) : ai_GI ax_T (stM M 82 13 v) := ax_giSO (k := 82) (j := 13) rfl G h1 h2
theorem rO_82_14 {M : MM} (G : ai_GI ax_T M) : 0 ≤ M 82 14 ∧ M 82 14 ≤ 999 := ax_giO (k := 82) (j := 14) rfl G
theorem sO_82_14 {M : MM} (G : ai_GI ax_T M) {v : Int} (h1 : 0 ≤ v) (h2 : v ≤ 999) : ai_GI ax_T (stM M 82 14 v) := ax_giSO (k := 82) (j := 14) rfl G h1 h2
theorem rO_82_15 {M : MM} (G : ai_GI ax_T M) : 0 ≤ M 82 15 ∧ M 82 15 ≤ 999 := ax_giO (k := 82) (j := 15) rfl G
theorem sO_82_15 {M : MM} (G : ai_GI ax_T M) {v : Int} (h1 : 0 ≤ v) (h2 : v ≤ 999) : ai_GI ax_T (stM M 82 15 v) := ax_giSO (k := 82) (j := 15) rfl G h1 h2
theorem rO_82_16 {M : MM} (G : ai_GI ax_T M) : 0 ≤ M 82 16 ∧ M 82 16 ≤ 999 := ax_giO (k := 82) (j := 16) rfl G
theorem sO_82_16 {M : MM} (G : ai_GI ax_T M) {v : Int} (h1 : 0 ≤ v) (h2 : v ≤ 999) : ai_GI ax_T (stM M 82 16 v) := ax_giSO (k := 82) (j := 16) rfl G h1 h2
theorem rO_82_17 {M : MM} (G : ai_GI ax_T M) : 0 ≤ M 82 17 ∧ M 82 17 ≤ 999 := ax_giO (k := 82) (j := 17) rfl G
theorem sO_82_17 {M : MM} (G : ai_GI ax_T M) {v : Int} (h1 : 0 ≤ v) (h2 : v ≤ 999) : ai_GI ax_T (stM M 82 17 v) := ax_giSO (k := 82) (j := 17) rfl G h1 h2
theorem rO_82_18 {M : MM} (G : ai_GI ax_T M) : 0 ≤ M 82 18 ∧ M 82 18 ≤ 999 := ax_giO (k := 82) (j := 18) rfl G
theorem sO_82_18 {M : MM} (G : ai_GI ax_T M) {v : Int} (h1 : 0 ≤ v) (h2 : v ≤ 999) : ai_GI ax_T (stM M 82 18 v) := ax_giSO (k := 82) (j := 18) rfl G h1 h2
theorem rO_82_19 {M : MM} (G : ai_GI ax_T M) : 0 ≤ M 82 19 ∧ M 82 19 ≤ 999 := ax_giO (k := 82) (j := 19) rfl G
theorem sO_82_19 {M : MM} (G : ai_GI ax_T M) {v : Int} (h1 : 0 ≤ v) (h2 : v ≤ 999) : ai_GI ax_T (stM M 82 19 v) := ax_giSO (k := 82) (j := 19) rfl G h1 h2
theorem rO_82_20 {M : MM} (G : ai_GI ax_T M) : 0 ≤ M 82 20 ∧ M 82 20 ≤ 999 := ax_giO (k := 82) (j := 20) rfl G
theorem sO_82_20 {M : MM} (G : ai_GI ax_T M) {v : Int} (h1 : 0 ≤ v) (h2 : v ≤ 999) : ai_GI ax_T (stM M 82 20 v) := ax_giSO (k := 82) (j := 20) rfl G h1 h2
theorem rO_82_21 {M : MM} (G : ai_GI ax_T M) : 0 ≤ M 82 21 ∧ M 82 21 ≤ 999 := ax_giO (k := 82) (j := 21) rfl G
theorem sO_82_21 {M : MM} (G : ai_GI ax_T M) {v : Int} (h1 : 0 ≤ v) (h2 : v ≤ 999) : ai_GI ax_T (stM M 82 21 v) := ax_giSO (k := 82) (j := 21) rfl G h1 h2
theorem rO_82_22 {M : MM} (G : ai_GI ax_T M) : 0 ≤ M 82 22 ∧ M 82 22 ≤ 999 := ax_giO (k := 82) (j := 22) rfl G
theorem sO_82_22 {M : MM} (G : ai_GI ax_T M) {v : Int} (h1 : 0 ≤ v) (h2 : v ≤ 999) : ai_GI ax_T (stM M 82 22 v) := ax_giSO (k := 82) (j := 22) rfl G h1 h2
theorem rO_82_23 {M : MM} (G : ai_GI ax_T M) : 0 ≤ M 82 23 ∧ M 82 23 ≤ 999 := ax_giO (k := 82) (j := 23) rfl G
theorem sO_82_23 {M : MM} (G : ai_GI ax_T M) {v : Int} (h1 : 0 ≤ v) (h2 : v ≤ 999) : ai_GI ax_T (stM M 82 23 v) := ax_giSO (k := 82) (j := 23) rfl G h1 h2
theorem rO_82_24 {M : MM} (G : ai_GI ax_T M) : 0 ≤ M 82 24 ∧ M 82 24 ≤ 999 := ax_giO (k := 82) (j := 24) rfl G
theorem sO_82_24 {M : MM} (G : ai_GI ax_T M) {v : Int} (h1 : 0 ≤ v) (h2 : v ≤ 999) : ai_GI ax_T (stM M 82 24 v) := ax_giSO (k := 82) (j := 24) rfl G h1 h2
theorem rO_82_25 {M : MM} (G : ai_GI ax_T M) : 0 ≤ M 82 25 ∧ M 82 25 ≤ 999 := ax_giO (k := 82) (j := 25) rfl G
theorem sO_82_25 {M : MM} (G : ai_GI ax_T M) {v : Int} (h1 : 0 ≤ v) (h2 : v ≤ 999) : ai_GI ax_T (stM M 82 25 v) := ax_giSO (k := 82) (j := 25) rfl G h1 h2
theorem rO_82_26 {M : MM} (G : ai_GI ax_T M) : 0 ≤ M 82 26 ∧ M 82 26 ≤ 999 := ax_giO (k := 82) (j := 26) rfl G
theorem sO_82_26 {M : MM} (G : ai_GI ax_T M) {v : Int} (h1 : 0 ≤ v) (h2 : v ≤ 999) : ai_GI ax_T (stM M 82 26 v) := ax_giSO (k := 82) (j := 26) rfl G h1 h2
theorem rO_82_27 {M : MM} (G : ai_GI ax_T M) : 0 ≤ M 82 27 ∧ M 82 27 ≤ 999 := ax_giO (k := 82) (j := 27) rfl G
theorem sO_82_27 {M : MM} (G : ai_GI ax_T M) {v : Int} (h1 : 0 ≤ v) (h2 : v ≤ 999) : ai_GI ax_T (stM M 82 27 v) := ax_giSO (k := 82) (j := 27) rfl G h1 h2
theorem rO_82_28 {M : MM} (G : ai_GI ax_T M) : 0 ≤ M 82 28 ∧ M 82 28 ≤ 999 := ax_giO (k := 82) (j := 28) rfl G
theorem sO_82_28 {M : MM} (G : ai_GI ax_T M) {v : Int} (h1 : 0 ≤ v) (h2 : v ≤ 999) : ai_GI ax_T (stM M 82 28 v) := ax_giSO (k := 82) (j := 28) rfl G h1 h2
theorem rO_82_29 {M : MM} (G : ai_GI ax_T M) : 0 ≤ M 82 29 ∧ M 82 29 ≤ 999 := ax_giO (k := 82) (j := 29) rfl G
theorem sO_82_29 {M : MM} (G : ai_GI ax_T M) {v : Int} (h1 : 0 ≤ v) (h2 : v ≤ 999) : ai_GI ax_T (stM M 82 29 v) := ax_giSO (k := 82) (j := 29) rfl G h1 h2
theorem rO_82_30 {M : MM} (G : ai_GI ax_T M) : 0 ≤ M 82 30 ∧ M 82 30 ≤ 1023 := ax_giO (k := 82) (j := 30) rfl G
theorem sO_82_30 {M : MM} (G : ai_GI ax_T M) {v : Int} (h1 : 0 ≤ v) (h2 : v ≤ 1023) : ai_GI ax_T (stM M 82 30 v) := ax_giSO (k := 82) (j := 30) rfl G h1 h2
theorem rO_82_31 {M : MM} (G : ai_GI ax_T M) : 0 ≤ M 82 31 ∧ M 82 31 ≤ 1023 := ax_giO (k := 82) (j := 31) rfl G
theorem sO_82_31 {M : MM} (G : ai_GI ax_T M) {v : Int} (h1 : 0 ≤ v) (h2 : v ≤ 1023) : ai_GI ax_T (stM M 82 31 v) := ax_giSO (k := 82) (j := 31) rfl G h1 h2
theorem rO_82_32 {M : MM} (G : ai_GI ax_T M) : 0 ≤ M 82 32 ∧ M 82 32 ≤ 1023 := ax_giO (k := 82) (j := 32) rfl G
theorem sO_82_32 {M : MM} (G : ai_GI ax_T M) {v : Int} (h1 : 0 ≤ v) (h2 : v ≤ 1023) : ai_GI ax_T (stM M 82 32 v) := ax_giSO (k := 82) (j := 32) rfl G h1 h2
theorem rO_82_33 {M : MM} (G : ai_GI ax_T M) : (-2147483648) ≤ M 82 33 ∧ M 82 33 ≤ 2147483647 := ax_giO (k := 82) (j := 33) rfl G
theorem sO_82_33 {M : MM} (G : ai_GI ax_T M) {v : Int} (h1 : (-2147483648) ≤ v) (h2 : v ≤ 2147483647) : ai_GI ax_T (stM M 82 33 v) := ax_giSO (k := 82) (j := 33) rfl G h1 h2
theorem rO_82_34 {M : MM} (G : ai_GI ax_T M) : (-2147483648) ≤ M 82 34 ∧ M 82 34 ≤ 2147483647 := ax_giO (k := 82) (j := 34) rfl G
theorem sO_82_34 {M : MM} (G : ai_GI ax_T M) {v : Int} (h1 : (-2147483648) ≤ v) (h2 : v ≤ 2147483647) : ai_GI ax_T (stM M 82 34 v) := ax_giSO (k := 82) (j := 34) rfl G h1 h2
theorem rO_82_35 {M : MM} (G : ai_GI ax_T M) : 0 ≤ M 82 35 ∧ M 82 35 ≤ 65535 := ax_giO (k := 82) (j := 35) rfl G
theorem sO_82_35 {M : MM} (G : ai_GI ax_T M) {v : Int} (h1 : 0 ≤ v) (h2 : v ≤ 65535) : ai_GI ax_T (stM M 82 35 v) := ax_giSO (k := 82) (j := 35) rfl G h1 h2
theorem rO_83_0 {M : MM} (G : ai_GI ax_T M) : 0 ≤ M 83 0 ∧ M 83 0 ≤ 63 := ax_giO (k := 83) (j := 0) rfl G
theorem sO_83_0 {M : MM} (G : ai_GI ax_T M) {v : Int} (h1 : 0 ≤ v) (h2 : v ≤ 63) : ai_GI ax_T (stM M 83 0 v) := ax_giSO (k := 83) (j := 0) rfl G h1 h2
theorem rO_83_1 {M : MM} (G : ai_GI ax_T M) : 0 ≤ M 83 1 ∧ M 83 1 ≤ 63 := ax_giO (k := 83) (j := 1) rfl G
theorem sO_83_1 {M : MM} (G : ai_GI ax_T M) {v : Int} (h1 : 0 ≤ v) (h2 : v ≤ 63) : ai_GI ax_T (stM M 83 1 v) := ax_giSO (k := 83) (j := 1) rfl G h1 h2
theorem rO_83_2 {M : MM} (G : ai_GI ax_T M) : 0 ≤ M 83 2 ∧ M 83 2 ≤ 63 := ax_giO (k := 83) (j := 2) rfl G
theorem sO_83_2 {M : MM} (G : ai_GI ax_T M) {v : Int} (h1 : 0 ≤ v) (h2 : v ≤ 63) : ai_GI ax_T (stM M 83 2 v) := ax_giSO (k := 83) (j := 2) rfl G h1 h2
theorem rO_83_3 {M : MM} (G : ai_GI ax_T M) : 0 ≤ M 83 3 ∧ M 83 3 ≤ 63 := ax_giO (k := 83) (j := 3) rfl G
theorem sO_83_3 {M : MM} (G : ai_GI ax_T M) {v : Int} (h1 : 0 ≤ v) (h2 : v ≤ 63) : ai_GI ax_T (stM M 83 3 v) := ax_giSO (k := 83) (j := 3) rfl G h1 h2
theorem rO_83_4 {M : MM} (G : ai_GI ax_T M) : 0 ≤ M 83 4 ∧ M 83 4 ≤ 63 := ax_giO (k := 83) (j := 4) rfl G
theorem sO_83_4 {M : MM} (G : ai_GI ax_T M) {v : Int} (h1 : 0 ≤ v) (h2 : v ≤ 63) : ai_GI ax_T (stM M 83 4 v) := ax_giSO (k := 83) (j := 4) rfl G h1 h2
theorem rO_83_5 {M : MM} (G : ai_GI ax_T M) : 0 ≤ M 83 5 ∧ M 83 5 ≤ 63 := ax_giO (k := 83) (j := 5) rfl G
theorem sO_83_5 {M : MM} (G : ai_GI ax_T M) {v : Int} (h1 : 0 ≤ v) (h2 : v ≤ 63) : ai_GI ax_T (stM M 83 5 v) := ax_giSO (k := 83) (j := 5) rfl G h1 h2
theorem rO_83_6 {M : MM} (G : ai_GI ax_T M) : 0 ≤ M 83 6 ∧ M 83 6 ≤ 63 := ax_giO (k := 83) (j := 6) rfl G
theorem sO_83_6 {M : MM} (G : ai_GI ax_T M) {v : Int} (h1 : 0 ≤ v) (h2 : v ≤ 63) : ai_GI ax_T (stM M 83 6 v) := ax_giSO (k := 83) (j := 6) rfl G h1 h2
theorem rO_83_7 {M : MM} (G : ai_GI ax_T M) : 0 ≤ M 83 7 ∧ M 83 7 ≤ 63 := ax_giO (k := 83) (j := 7) rfl G
theorem sO_83_7 {M : MM} (G : ai_GI ax_T M) {v : Int} (h1 : 0 ≤ v) (h2 : v ≤ 63) : ai_GI ax_T (stM M 83 7 v) := ax_giSO (k := 83) (j := 7) rfl G h1 h2
theorem rO_83_8 {M : MM} (G : ai_GI ax_T M) : 0 ≤ M 83 8 ∧ M 83 8 ≤ 63 := ax_giO (k := 83) (j := 8) rfl G
theorem sO_83_8 {M : MM} (G : ai_GI ax_T M) {v : Int} (h1 : 0 ≤ v) (h2 : v ≤ 63) : ai_GI ax_T (stM M 83 8 v) := ax_giSO (k := 83) (j := 8) rfl G h1 h2
theorem rO_83_9 {M : MM} (G : ai_GI ax_T M) : 0 ≤ M 83 9 ∧ M 83 9 ≤ 63 := ax_giO (k := 83) (j := 9) rfl G
theorem sO_83_9 {M : MM} (G : ai_GI ax_T M) {v : Int} (h1 : 0 ≤ v) (h2 : v ≤ 63) : ai_GI ax_T (stM M 83 9 v) := ax_giSO (k := 83) (j := 9) rfl G h1 h2
theorem rO_83_10 {M : MM} (G : ai_GI ax_T M) : 0 ≤ M 83 10 ∧ M 83 10 ≤ 999 := ax_giO (k := 83) (j := 10) rfl G
theorem sO_83_10 {M : MM} (G : ai_GI ax_T M) {v : Int} (h1 : 0 ≤ v) (h2 : v ≤ 999) : ai_GI ax_T (stM M 83 10 v) := ax_giSO (k := 83) (j := 10) rfl G h1 h2
theorem rO_83_11 {M : MM} (G : ai_GI ax_T M) : 0 ≤ M 83 11 ∧ M 83 11 ≤ 999 := ax_giO (k := 83) (j := 11) rfl G
theorem sO_83_11 {M : MM} (G : ai_GI ax_T M) {v : Int} (h1 : 0 ≤ v) (h2 : v ≤ 999) : ai_GI ax_T (stM M 83 11 v) := ax_giSO (k := 83) (j := 11) rfl G h1 h2
theorem rO_83_12 {M : MM} (G : ai_GI ax_T M) : 0 ≤ M 83 12 ∧ M 83 12 ≤ 999 := ax_giO (k := 83) (j := 12) rfl G
theorem sO_83_12 {M : MM} (G : ai_GI ax_T M) {v : Int} (h1 : 0 ≤ v) (h2 : v ≤ 999) : ai_GI ax_T (stM M 83 12 v) := ax_giSO (k := 83) (j := 12) rfl G h1 h2
theorem rO_83_13 {M : MM} (G : ai_GI ax_T M) : 0 ≤ M 83 13 ∧ M 83 13 ≤ 999 := ax_giO (k := 83) (j := 13) rfl G
theorem sO_83_13 {M : MM} (G : ai_GI ax_T M) {v : Int} (h1 : 0 ≤ v) (h2 : v ≤ 999) : ai_GI ax_T (stM M 83 13 v) := ax_giSO (k := 83) (j := 13) rfl G h1 h2
theorem rO_83_14 {M : MM} (G : ai_GI ax_T M) : 0 ≤ M 83 14 ∧ M 83 14 ≤ 999 := ax_giO (k := 83) (j := 14) rfl G
theorem sO_83_14 {M : MM} (G : ai_GI ax_T M) {v : Int} (h1 : 0 ≤ v) (h2 : v ≤ 999) : ai_GI ax_T (stM M 83 14 v) := ax_giSO (k := 83) (j := 14) rfl G h1 h2
theorem rO_83_15 {M : MM} (G : ai_GI ax_T M) : 0 ≤ M 83 15 ∧ M 83 15 ≤ 999 := ax_giO (k := 83) (j := 15) rfl G
theorem sO_83_15 {M : MM} (G : ai_GI ax_T M) {v : Int} (h1 : 0 ≤ v) (h2 : v ≤ 999) : ai_GI ax_T (stM M 83 15 v) := ax_giSO (k := 83) (j := 15) rfl G h1 h2
theorem rO_83_16 {M : MM} (G : ai_GI ax_T M) : 0 ≤ M 83 16 ∧ M 83 16 ≤ 999 := ax_giO (k := 83) (j := 16) rfl G
theorem sO_83_16 {M : MM} (G : ai_GI ax_T M) {v : Int} (h1 : 0 ≤ v) (h2 : v ≤ 999) : ai_GI ax_T (stM M 83 16 v) := ax_giSO (k := 83) (j := 16) rfl G h1 h2
theorem rO_83_17 {M : MM} (G : ai_GI ax_T M) : 0 ≤ M 83 17 ∧ M 83 17 ≤ 999 := ax_giO (k := 83) (j := 17) rfl G
theorem sO_83_17 {M : MM} (G : ai_GI ax_T M) {v : Int} (h1 : 0 ≤ v) (h2 : v ≤ 999) : ai_GI ax_T (stM M 83 17 v) := ax_giSO (k := 83) (j := 17) rfl G h1 h2
theorem rO_83_18 {M : MM} (G : ai_GI ax_T M) : 0 ≤ M 83 18 ∧ M 83 18 ≤ 999 := ax_giO (k := 83) (j := 18) rfl G
theorem sO_83_18 {M : MM} (G : ai_GI ax_T M) {v : Int} (h1 : 0 ≤ v) (h2 : v ≤ 999) : ai_GI ax_T (stM M 83 18 v) := ax_giSO (k := 83) (j := 18) rfl G h1 h2
theorem rO_83_19 {M : MM} (G : ai_GI ax_T M) : 0 ≤ M 83 19 ∧ M 83 19 ≤ 999 := ax_giO (k := 83) (j := 19) rfl G
theorem sO_83_19 {M : MM} (G : ai_GI ax_T M) {v : Int} (h1 : 0 ≤ v) (h2 : v ≤ 999) : ai_GI ax_T (stM M 83 19 v) := ax_giSO (k := 83) (j := 19) rfl G h1 h2
theorem rO_83_20 {M : MM} (G : ai_GI ax_T M) : 0 ≤ M 83 20 ∧ M 83 20 ≤ 999 := ax_giO (k := 83) (j := 20) rfl G
theorem sO_83_20 {M : MM} (G : ai_GI ax_T M) {v : Int} (h1 : 0 ≤ v) (h2 : v ≤ 999) : ai_GI ax_T (stM M 83 20 v) := ax_giSO (k := 83) (j := 20) rfl G h1 h2
theorem rO_83_21 {M : MM} (G : ai_GI ax_T M) : 0 ≤ M 83 21 ∧ M 83 21 ≤ 999 := ax_giO (k := 83) (j := 21) rfl G
theorem sO_83_21 {M : MM} (G : ai_GI ax_T M) {v : Int} (h1 : 0 ≤ v) (h2 : v ≤ 999) : ai_GI ax_T (stM M 83 21 v) := ax_giSO (k := 83) (j := 21) rfl G h1 h2
theorem rO_83_22 {M : MM} (G : ai_GI ax_T M) : 0 ≤ M 83 22 ∧ M 83 22 ≤ 999 := ax_giO (k := 83) (j := 22) rfl G
theorem sO_83_22 {M : MM} (G : ai_GI ax_T M) {v : Int} (h1 : 0 ≤ v) (h2 : v ≤ 999) : ai_GI ax_T (stM M 83 22 v) := ax_giSO (k := 83) (j := 22) rfl G h1 h2
theorem rO_83_23 {M : MM} (G : ai_GI ax_T M) : 0 ≤ M 83 23 ∧ M 83 23 ≤ 999 := ax_giO (k := 83) (j := 23) rfl G
theorem sO_83_23 {M : MM} (G : ai_GI ax_T M) {v : Int} (h1 : 0 ≤ v) (h2 : v ≤ 999) : ai_GI ax_T (stM M 83 23 v) := ax_giSO (k := 83) (j := 23) rfl G h1 h2
theorem rO_83_24 {M : MM} (G : ai_GI ax_T M) : 0 ≤ M 83 24 ∧ M 83 24 ≤ 999 := ax_giO (k := 83) (j := 24) rfl G
theorem sO_83_24 {M : MM} (G : ai_GI ax_T M) {v : Int} (h1 : 0 ≤ v) (h2 : v ≤ 999) : ai_GI ax_T (stM M 83 24 v) := ax_giSO (k := 83) (j := 24) rfl G h1 h2
theorem rO_83_25 {M : MM} (G : ai_GI ax_T M) : 0 ≤ M 83 25 ∧ M 83 25 ≤ 999 := ax_giO (k := 83) (j := 25) rfl G
theorem sO_83_25 {M : MM} (G : ai_GI ax_T M) {v : Int} (h1 : 0 ≤ v) (h2 : v ≤ 999) : ai_GI ax_T (stM M 83 25 v) := ax_giSO (k := 83) (j := 25) rfl G h1 h2
theorem rO_83_26 {M : MM} (G : ai_GI ax_T M) : 0 ≤ M 83 26 ∧ M 83 26 ≤ 999 := ax_giO (k := 83) (j := 26) rfl G
theorem sO_83_26 {M : MM} (G : ai_GI ax_T M) {v : Int} (h1 : 0 ≤ v) (h2 : v ≤ 999) : ai_GI ax_T (stM M 83 26 v) := ax_giSO (k := 83) (j := 26) rfl G h1 h2
theorem rO_83_27 {M : MM} (G : ai_GI ax_T M) : 0 ≤ M 83 27 ∧ M 83 27 ≤ 999 := ax_giO (k := 83) (j := 27) rfl G
theorem sO_83_27 {M : MM} (G : ai_GI ax_T M) {v : Int} (h1 : 0 ≤ v) (h2 : v ≤ 999) : ai_GI ax_T (stM M 83 27 v) := ax_giSO (k := 83) (j := 27) rfl G h1 h2
theorem rO_83_28 {M : MM} (G : ai_GI ax_T M) : 0 ≤ M 83 28 ∧ M 83 28 ≤ 999 := ax_giO (k := 83) (j := 28) rfl G
theorem sO_83_28 {M : MM} (G : ai_GI ax_T M) {v : Int} (h1 : 0 ≤ v) (h2 : v ≤ 999) : ai_GI ax_T (stM M 83 28 v) := ax_giSO (k := 83) (j := 28) rfl G h1 h2
theorem rO_83_29 {M : MM} (G : ai_GI ax_T M) : 0 ≤ M 83 29 ∧ M 83 29 ≤ 999 := ax_giO (k := 83) (j := 29) rfl G
theorem sO_83_29 {M : MM} (G : ai_GI ax_T M) {v : Int} (h1 : 0 ≤ v) (h2 : v ≤ 999) : ai_GI ax_T (stM M 83 29 v) := ax_giSO (k := 83) (j := 29) rfl G h1 h2
theorem rO_83_30 {M : MM} (G : ai_GI ax_T M) : 0 ≤ M 83 30 ∧ M 83 30 ≤ 1023 := ax_giO (k := 83) (j := 30) rfl G
theorem sO_83_30 {M : MM} (G : ai_GI ax_T M) {v : Int} (h1 : 0 ≤ v) (h2 : v ≤ 1023) : ai_GI ax_T (stM M 83 30 v) := ax_giSO (k := 83) (j := 30) rfl G h1 h2
theorem rO_83_31 {M : MM} (G : ai_GI ax_T M) : 0 ≤ M 83 31 ∧ M 83 31 ≤ 1023 := ax_giO (k := 83) (j := 31) rfl G
theorem sO_83_31 {M : MM} (G : ai_GI ax_T M) {v : Int} (h1 : 0 ≤ v) (h2 : v ≤ 1023) : ai_GI ax_T (stM M 83 31 v) := ax_giSO (k := 83) (j := 31) rfl G h1 h2
theorem rO_83_32 {M : MM} (G : ai_GI ax_T M) : 0 ≤ M 83 32 ∧ M 83 32 ≤ 1023 := ax_giO (k := 83) (j := 32) rfl G
theorem sO_83_32 {M : MM} (G : ai_GI ax_T M) {v : Int} (h1 : 0 ≤ v) (h2 : v ≤ 1023) : ai_GI ax_T (stM M 83 32 v) := ax_giSO (k := 83) (j := 32) rfl G h1 h2
theorem rO_83_33 {M : MM} (G : ai_GI ax_T M) : (-2147483648) ≤ M 83 33 ∧ M 83 33 ≤ 2147483647 := ax_giO (k := 83) (j := 33) rfl G
theorem sO_83_33 {M : MM} (G : ai_GI ax_T M) {v : Int} (h1 : (-2147483648) ≤ v) (h2 : v ≤ 2147483647) : ai_GI ax_T (stM M 83 33 v) := ax_giSO (k := 83) (j := 33) rfl G h1 h2
theorem rO_83_34 {M : MM} (G : ai_GI ax_T M) : (-2147483648) ≤ M 83 34 ∧ M 83 34 ≤ 2147483647 := ax_giO (k := 83) (j := 34) rfl G
theorem sO_83_34 {M : MM} (G : ai_GI ax_T M) {v : Int} (h1 : (-2147483648) ≤ v) (h2 : v ≤ 2147483647) : ai_GI ax_T (stM M 83 34 v) := ax_giSO (k := 83) (j := 34) rfl G h1 h2
theorem rO_83_35 {M : MM} (G : ai_GI ax_T M) : 0 ≤ M 83 35 ∧ M 83 35 ≤ 65535 := ax_giO (k := 83) (j := 35) rfl G
theorem sO_83_35 {M : MM} (G : ai_GI ax_T M) {v : Int} (h1 : 0 ≤ v) (h2 : v ≤ 65535) : ai_GI ax_T (stM M 83 35 v) := ax_giSO (k := 83) (j := 35) rfl G h1 h2
theorem rO_84_0 {M : MM} (G : ai_GI ax_T M) : 0 ≤ M 84 0 ∧ M 84 0 ≤ 63 := ax_giO (k := 84) (j := 0) rfl G
theorem sO_84_0 {M : MM} (G : ai_GI ax_T M) {v : Int} (h1 : 0 ≤ v) (h2 : v ≤ 63) : ai_GI ax_T (stM M 84 0 v) := ax_giSO (k := 84) (j := 0) rfl G h1 h2
theorem rO_84_1 {M : MM} (G : ai_GI ax_T M) : 0 ≤ M 84 1 ∧ M 84 1 ≤ 63 := ax_giO (k := 84) (j := 1) rfl G
theorem sO_84_1 {M : MM} (G : ai_GI ax_T M) {v : Int} (h1 : 0 ≤ v) (h2 : v ≤ 63) : ai_GI ax_T (stM M 84 1 v) := ax_giSO (k := 84) (j := 1) rfl G h1 h2
theorem rO_84_2 {M : MM} (G : ai_GI ax_T M) : 0 ≤ M 84 2 ∧ M 84 2 ≤ 63 := ax_giO (k := 84) (j := 2) rfl G
theorem sO_84_2 {M : MM} (G : ai_GI ax_T M) {v : Int} (h1 : 0 ≤ v) (h2 : v ≤ 63) : ai_GI ax_T (stM M 84 2 v) := ax_giSO (k := 84) (j := 2) rfl G h1 h2
theorem rO_84_3 {M : MM} (G : ai_GI ax_T M) : 0 ≤ M 84 3 ∧ M 84 3 ≤ 63 := ax_giO (k := 84) (j := 3) rfl G
theorem sO_84_3 {M : MM} (G : ai_GI ax_T M) {v : Int} (h1 : 0 ≤ v) (h2 : v ≤ 63) : ai_GI ax_T (stM M 84 3 v) := ax_giSO (k := 84) (j := 3) rfl G h1 h2
theorem rO_84_4 {M : MM} (G : ai_GI ax_T M) : 0 ≤ M 84 4 ∧ M 84 4 ≤ 63 := ax_giO (k := 84) (j := 4) rfl G
theorem sO_84_4 {M : MM} (G : ai_GI ax_T M) {v : Int} (h1 : 0 ≤ v) (h2 : v ≤ 63) : ai_GI ax_T (stM M 84 4 v) := ax_giSO (k := 84) (j := 4) rfl G h1 h2
theorem rO_84_5 {M : MM} (G : ai_GI ax_T M) : 0 ≤ M 84 5 ∧ M 84 5 ≤ 63 := ax_giO (k := 84) (j := 5) rfl G
theorem sO_84_5 {M : MM} (G : ai_GI ax_T M) {v : Int} (h1 : 0 ≤ v) (h2 : v ≤ 63) : ai_GI ax_T (stM M 84 5 v) := ax_giSO (k := 84) (j := 5) rfl G h1 h2
theorem rO_84_6 {M : MM} (G : ai_GI ax_T M) : 0 ≤ M 84 6 ∧ M 84 6 ≤ 63 := ax_giO (k := 84) (j := 6) rfl G
theorem sO_84_6 {M : MM} (G : ai_GI ax_T M) {v : Int} (h1 : 0 ≤ v) (h2 : v ≤ 63) : ai_GI ax_T (stM M 84 6 v) := ax_giSO (k := 84) (j := 6) rfl G h1 h2
theorem rO_84_7 {M : MM} (G : ai_GI ax_T M) : 0 ≤ M 84 7 ∧ M 84 7 ≤ 63 := ax_giO (k := 84) (j := 7) rfl G
theorem sO_84_7 {M : MM} (G : ai_GI ax_T M) {v : Int} (h1 : 0 ≤ v) (h2 : v ≤ 63) : ai_GI ax_T (stM M 84 7 v) := ax_giSO (k := 84) (j := 7) rfl G h1 h2
theorem rO_84_8 {M : MM} (G : ai_GI ax_T M) : 0 ≤ M 84 8 ∧ M 84 8 ≤ 63 := ax_giO (k := 84) (j := 8) rfl G
theorem sO_84_8 {M : MM} (G : ai_GI ax_T M) {v : Int} (h1 : 0 ≤ v) (h2 : v ≤ 63) : ai_GI ax_T (stM M 84 8 v) := ax_giSO (k := 84) (j := 8) rfl G h1 h2
theorem rO_84_9 {M : MM} (G : ai_GI ax_T M) : 0 ≤ M 84 9 ∧ M 84 9 ≤ 63 := ax_giO (k := 84) (j := 9) rfl G
theorem sO_84_9 {M : MM} (G : ai_GI ax_T M) {v : Int} (h1 : 0 ≤ v) (h2 : v ≤ 63) : ai_GI ax_T (stM M 84 9 v) := ax_giSO (k := 84) (j := 9) rfl G h1 h2
theorem rO_84_10 {M : MM} (G : ai_GI ax_T M) : 0 ≤ M 84 10 ∧ M 84 10 ≤ 999 := ax_giO (k := 84) (j := 10) rfl G
theorem sO_84_10 {M : MM} (G : ai_GI ax_T M) {v : Int} (h1 : 0 ≤ v) (h2 : v ≤ 999) : ai_GI ax_T (stM M 84 10 v) := ax_giSO (k := 84) (j := 10) rfl G h1 h2
theorem rO_84_11 {M : MM} (G : ai_GI ax_T M) : 0 ≤ M 84 11 ∧ M 84 11 ≤ 999 := ax_giO (k := 84) (j := 11) rfl G
theorem sO_84_11 {M : MM} (G : ai_GI ax_T M) {v : Int} (h1 : 0 ≤ v) (h2 : v ≤ 999) : ai_GI ax_T (stM M 84 11 v) := ax_giSO (k := 84) (j := 11) rfl G h1 h2
theorem rO_84_12 {M : MM} (G : ai_GI ax_T M) : 0 ≤ M 84 12 ∧ M 84 12 ≤ 999 := ax_giO (k := 84) (j := 12) rfl G
theorem sO_84_12 {M : MM} (G : ai_GI ax_T M) {v : Int} (h1 : 0 ≤ v) (h2 : v ≤ 999) : ai_GI ax_T (stM M 84 12 v) := ax_giSO (k := 84) (j := 12) rfl G h1 h2
theorem rO_84_13 {M : MM} (G : ai_GI ax_T M) : 0 ≤ M 84 13 ∧ M 84 13 ≤ 999 := ax_giO (k := 84) (j := 13) rfl G
theorem sO_84_13 {M : MM} (G : ai_GI ax_T M) {v : Int} (h1 : 0 ≤ v) (h2 : v ≤ 999) : ai_GI ax_T (stM M 84 13 v) := ax_giSO (k := 84) (j := 13) rfl G h1 h2
theorem rO_84_14 {M : MM} (G : ai_GI ax_T M) : 0 ≤ M 84 14 ∧ M 84 14 ≤ 999 := ax_giO (k := 84) (j := 14) rfl G
theorem sO_84_14 {M : MM} (G : ai_GI ax_T M) {v : Int} (h1 : 0 ≤ v) (h2 : v ≤ 999) : ai_GI ax_T (stM M 84 14 v) := ax_giSO (k := 84) (j := 14) rfl G h1 h2
theorem rO_84_15 {M : MM} (G : ai_GI ax_T M) : 0 ≤ M 84 15 ∧ M 84 15 ≤ 999 := ax_giO (k := 84) (j := 15) rfl G
theorem sO_84_15 {M : MM} (G : ai_GI ax_T M) {v : Int} (h1 : 0 ≤ v) (h2 : v ≤ 999) : ai_GI ax_T (stM M 84 15 v) := ax_giSO (k := 84) (j := 15) rfl G h1 h2
theorem rO_84_16 {M : MM} (G : ai_GI ax_T M) : 0 ≤ M 84 16 ∧ M 84 16 ≤ 999 := ax_giO (k := 84) (j := 16) rfl G
theorem sO_84_16 {M : MM} (G : ai_GI ax_T M) {v : Int} (h1 : 0 ≤ v) (h2 : v ≤ 999) : ai_GI ax_T (stM M 84 16 v) := ax_giSO (k := 84) (j := 16) rfl G h1 h2
theorem rO_84_17 {M : MM} (G : ai_GI ax_T M) : 0 ≤ M 84 17 ∧ M 84 17 ≤ 999 := ax_giO (k := 84) (j := 17) rfl G
theorem sO_84_17 {M : MM} (G : ai_GI ax_T M) {v : Int} (h1 : 0 ≤ v) (h2 : v ≤ 999) : ai_GI ax_T (stM M 84 17 v) := ax_giSO (k := 84) (j := 17) rfl G h1 h2
theorem rO_84_18 {M : MM} (G : ai_GI ax_T M) : 0 ≤ M 84 18 ∧ M 84 18 ≤ 999 := ax_giO (k := 84) (j := 18) rfl G
theorem sO_84_18 {M : MM} (G : ai_GI ax_T M) {v : Int} (h1 : 0 ≤ v) (h2 : v ≤ 999) : ai_GI ax_T (stM M 84 18 v) := ax_giSO (k := 84) (j := 18) rfl G h1 h2
theorem rO_84_19 {M : MM} (G : ai_GI ax_T M) : 0 ≤ M 84 19 ∧ M 84 19 ≤ 999 := ax_giO (k := 84) (j := 19) rfl G
theorem sO_84_19 {M : MM} (G : ai_GI ax_T M) {v : Int} (h1 : 0 ≤ v) (h2 : v ≤ 999) : ai_GI ax_T (stM M 84 19 v) := ax_giSO (k := 84) (j := 19) rfl G h1 h2
theorem rO_84_20 {M : MM} (G : ai_GI ax_T M) : 0 ≤ M 84 20 ∧ M 84 20 ≤ 999 := ax_giO (k := 84) (j := 20) rfl G
theorem sO_84_20 {M : MM} (G : ai_GI ax_T M) {v : Int} (h1 : 0 ≤ v) (h2 : v ≤ 999) : ai_GI ax_T (stM M 84 20 v) := ax_giSO (k := 84) (j := 20) rfl G h1 h2
theorem rO_84_21 {M : MM} (G : ai_GI ax_T M) : 0 ≤ M 84 21 ∧ M 84 21 ≤ 999 := ax_giO (k := 84) (j := 21) rfl G
theorem sO_84_21 {M : MM} (G : ai_GI ax_T M) {v : Int} (h1 : 0 ≤ v) (h2 : v ≤ 999) : ai_GI ax_T (stM M 84 21 v) := ax_giSO (k := 84) (j := 21) rfl G h1 h2
theorem rO_84_22 {M : MM} (G : ai_GI ax_T M) : 0 ≤ M 84 22 ∧ M 84 22 ≤ 999 := ax_giO (k := 84) (j := 22) rfl G
theorem sO_84_22 {M : MM} (G : ai_GI ax_T M) {v : Int} (h1 : 0 ≤ v) (h2 : v ≤ 999) : ai_GI ax_T (stM M 84 22 v) := ax_giSO (k := 84) (j := 22) rfl G h1 h2
theorem rO_84_23 {M : MM} (G : ai_GI ax_T M) : 0 ≤ M 84 23 ∧ M 84 23 ≤ 999 := ax_giO (k := 84) (j := 23) rfl G
theorem sO_84_23 {M : MM} (G : ai_GI ax_T M) {v : Int} (h1 : 0 ≤ v) (h2 : v ≤ 999) : ai_GI ax_T (stM M 84 23 v) := ax_giSO (k := 84) (j := 23) rfl G h1 h2
theorem rO_84_24 {M : MM} (G : ai_GI ax_T M) : 0 ≤ M 84 24 ∧ M 84 24 ≤ 999 := ax_giO (k := 84) (j := 24) rfl G
theorem sO_84_24 {M : MM} (G : ai_GI ax_T M) {v : Int} (h1 : 0 ≤ v) (h2 : v ≤ 999) : ai_GI ax_T (stM M 84 24 v) := ax_giSO (k := 84) (j := 24) rfl G h1 h2
theorem rO_84_25 {M : MM} (G : ai_GI ax_T M) : 0 ≤ M 84 25 ∧ M 84 25 ≤ 999 := ax_giO (k := 84) (j := 25) rfl G
theorem sO_84_25 {M : MM} (G : ai_GI ax_T M) {v : Int} (h1 : 0 ≤ v) (h2 : v ≤ 999) : ai_GI ax_T (stM M 84 25 v) := ax_giSO (k := 84) (j := 25) rfl G h1 h2
theorem rO_84_26 {M : MM} (G : ai_GI ax_T M) : 0 ≤ M 84 26 ∧ M 84 26 ≤ 999 := ax_giO (k := 84) (j := 26) rfl G
theorem sO_84_26 {M : MM} (G : ai_GI ax_T M) {v : Int} (h1 : 0 ≤ v) (h2 : v ≤ 999) : ai_GI ax_T (stM M 84 26 v) := ax_giSO (k := 84) (j := 26) rfl G h1 h2
theorem rO_84_27 {M : MM} (G : ai_GI ax_T M) : 0 ≤ M 84 27 ∧ M 84 27 ≤ 999 := ax_giO (k := 84) (j := 27) rfl G
theorem sO_84_27 {M : MM} (G : ai_GI ax_T M) {v : Int} (h1 : 0 ≤ v) (h2 : v ≤ 999) : ai_GI ax_T (stM M 84 27 v) := ax_giSO (k := 84) (j := 27) rfl G h1 h2
theorem rO_84_28 {M : MM} (G : ai_GI ax_T M) : 0 ≤ M 84 28 ∧ M 84 28 ≤ 999 := ax_giO (k := 84) (j := 28) rfl G
theorem sO_84_28 {M : MM} (G : ai_GI ax_T M) {v : Int} (h1 : 0 ≤ v) (h2 : v ≤ 999) : ai_GI ax_T (stM M 84 28 v) := ax_giSO (k := 84) (j := 28) rfl G h1 h2
theorem rO_84_29 {M : MM} (G : ai_GI ax_T M) : 0 ≤ M 84 29 ∧ M 84 29 ≤ 999 := ax_giO (k := 84) (j := 29) rfl G
theorem sO_84_29 {M : MM} (G : ai_GI ax_T M) {v : Int} (h1 : 0 ≤ v) (h2 : v ≤ 999) : ai_GI ax_T (stM M 84 29 v) := ax_giSO (k := 84) (j := 29) rfl G h1 h2
theorem rO_84_30 {M : MM} (G : ai_GI ax_T M) : 0 ≤ M 84 30 ∧ M 84 30 ≤ 1023 := ax_giO (k := 84) (j := 30) rfl G
theorem sO_84_30 {M : MM} (G : ai_GI ax_T M) {v : Int} (h1 : 0 ≤ v) (h2 : v ≤ 1023) : ai_GI ax_T (stM M 84 30 v) := ax_giSO (k := 84) (j := 30) rfl G h1 h2
theorem rO_84_31 {M : MM} (G : ai_GI ax_T M) : 0 ≤ M 84 31 ∧ M 84 31 ≤ 1023 := ax_giO (k := 84) (j := 31) rfl G
theorem sO_84_31 {M : MM} (G : ai_GI ax_T M) {v : Int} (h1 : 0 ≤ v) (h2 : v ≤ 1023) : ai_GI ax_T (stM M 84 31 v) := ax_giSO (k := 84) (j := 31) rfl G h1 h2
theorem rO_84_32 {M : MM} (G : ai_GI ax_T M) : 0 ≤ M 84 32 ∧ M 84 32 ≤ 1023 := ax_giO (k := 84) (j := 32) rfl G
theorem sO_84_32 {M : MM} (G : ai_GI ax_T M) {v : Int} (h1 : 0 ≤ v) (h2 : v ≤ 1023) : ai_GI ax_T (stM M 84 32 v) := ax_giSO (k := 84) (j := 32) rfl G h1 h2
theorem rO_84_33 {M : MM} (G : ai_GI ax_T M) : (-2147483648) ≤ M 84 33 ∧ M 84 33 ≤ 2147483647 := ax_giO (k := 84) (j := 33) rfl G
theorem sO_84_33 {M : MM} (G : ai_GI ax_T M) {v : Int} (h1 : (-2147483648) ≤ v) (h2 : v ≤ 2147483647) : ai_GI ax_T (stM M 84 33 v) := ax_giSO (k := 84) (j := 33) rfl G h1 h2
theorem rO_84_34 {M : MM} (G : ai_GI ax_T M) : (-2147483648) ≤ M 84 34 ∧ M 84 34 ≤ 2147483647 := ax_giO (k := 84) (j := 34) rfl G
theorem sO_84_34 {M : MM} (G : ai_GI ax_T M) {v : Int} (h1 : (-2147483648) ≤ v) (h2 : v ≤ 2147483647) : ai_GI ax_T (stM M 84 34 v) := ax_giSO (k := 84) (j := 34) rfl G h1 h2
theorem rO_84_35 {M : MM} (G : ai_GI ax_T M) : 0 ≤ M 84 35 ∧ M 84 35 ≤ 65535 := ax_giO (k := 84) (j := 35) rfl G
theorem sO_84_35 {M : MM} (G : ai_GI ax_T M) {v : Int} (h1 : 0 ≤ v) (h2 : v ≤ 65535) : ai_GI ax_T (stM M 84 35 v) := ax_giSO (k := 84) (j := 35) rfl G h1 h2
theorem rA_85 {M : MM} (G : ai_GI ax_T M) (j : Nat) : (-128) ≤ M 85 j ∧ M 85 j ≤ 11 := ax_giA (k := 85) rfl G j
theorem sA_85 {M : MM} (G : ai_GI ax_T M) {j : Nat} {v : Int} (h1 : (-128) ≤ v) (h2 : v ≤ 11) : ai_GI ax_T (stM M 85 j v) := ax_giSA (k := 85) rfl G h1 h2
theorem rA_86 {M : MM} (G : ai_GI ax_T M) (j : Nat) : (-2) ≤ M 86 j ∧ M 86 j ≤ 63 := ax_giA (k := 86) rfl G j
theorem sA_86 {M : MM} (G : ai_GI ax_T M) {j : Nat} {v : Int} (h1 : (-2) ≤ v) (h2 : v ≤ 63) : ai_GI ax_T (stM M 86 j v) := ax_giSA (k := 86) rfl G h1 h2
theorem rA_87 {M : MM} (G : ai_GI ax_T M) (j : Nat) : 0 ≤ M 87 j ∧ M 87 j ≤ 255 := ax_giA (k := 87) rfl G j
theorem sA_87 {M : MM} (G : ai_GI ax_T M) {j : Nat} {v : Int} (h1 : 0 ≤ v) (h2 : v ≤ 255) : ai_GI ax_T (stM M 87 j v) := ax_giSA (k := 87) rfl G h1 h2
theorem rA_88 {M : MM} (G : ai_GI ax_T M) (j : Nat) : 0 ≤ M 88 j ∧ M 88 j ≤ 60 := ax_giA (k := 88) rfl G j
theorem sA_88 {M : MM} (G : ai_GI ax_T M) {j : Nat} {v : Int} (h1 : 0 ≤ v) (h2 : v ≤ 60) : ai_GI ax_T (stM M 88 j v) := ax_giSA (k := 88) rfl G h1 h2
theorem rA_89 {M : MM} (G : ai_GI ax_T M) (j : Nat) : 0 ≤ M 89 j ∧ M 89 j ≤ 4 := ax_giA (k := 89) rfl G j
theorem sA_89 {M : MM} (G : ai_GI ax_T M) {j : Nat} {v : Int} (h1 : 0 ≤ v) (h2 : v ≤ 4) : ai_GI ax_T (stM M 89 j v) := ax_giSA (k := 89) rfl G h1 h2
theorem rA_90 {M : MM} (G : ai_GI ax_T M) (j : Nat) : (-128) ≤ M 90 j ∧ M 90 j ≤ 127 := ax_giA (k := 90) rfl G j
theorem sA_90 {M : MM} (G : ai_GI ax_T M) {j : Nat} {v : Int} (h1 : (-128) ≤ v) (h2 : v ≤ 127) : ai_GI ax_T (stM M 90 j v) := ax_giSA (k := 90) rfl G h1 h2
theorem rA_91 {M : MM} (G : ai_GI ax_T M) (j : Nat) : 0 ≤ M 91 j ∧ M 91 j ≤ 20000000 := ax_giA (k := 91) rfl G j
theorem sA_91 {M : MM} (G : ai_GI ax_T M) {j : Nat} {v : Int} (h1 : 0 ≤ v) (h2 : v ≤ 20000000) : ai_GI ax_T (stM M 91 j v) := ax_giSA (k := 91) rfl G h1 h2
theorem rA_92 {M : MM} (G : ai_GI ax_T M) (j : Nat) : 0 ≤ M 92 j ∧ M 92 j ≤ 20000000 := ax_giA (k := 92) rfl G j
theorem sA_92 {M : MM} (G : ai_GI ax_T M) {j : Nat} {v : Int} (h1 : 0 ≤ v) (h2 : v ≤ 20000000) : ai_GI ax_T (stM M 92 j v) := ax_giSA (k := 92) rfl G h1 h2
theorem rA_93 {M : MM} (G : ai_GI ax_T M) (j : Nat) : 0 ≤ M 93 j ∧ M 93 j ≤ 119 := ax_giA (k := 93) rfl G j
theorem sA_93 {M : MM} (G : ai_GI ax_T M) {j : Nat} {v : Int} (h1 : 0 ≤ v) (h2 : v ≤ 119) : ai_GI ax_T (stM M 93 j v) := ax_giSA (k := 93) rfl G h1 h2
theorem rA_94 {M : MM} (G : ai_GI ax_T M) (j : Nat) : 0 ≤ M 94 j ∧ M 94 j ≤ 260 := ax_giA (k := 94) rfl G j
theorem sA_94 {M : MM} (G : ai_GI ax_T M) {j : Nat} {v : Int} (h1 : 0 ≤ v) (h2 : v ≤ 260) : ai_GI ax_T (stM M 94 j v) := ax_giSA (k := 94) rfl G h1 h2
theorem rA_95 {M : MM} (G : ai_GI ax_T M) (j : Nat) : 0 ≤ M 95 j ∧ M 95 j ≤ 260 := ax_giA (k := 95) rfl G j
theorem sA_95 {M : MM} (G : ai_GI ax_T M) {j : Nat} {v : Int} (h1 : 0 ≤ v) (h2 : v ≤ 260) : ai_GI ax_T (stM M 95 j v) := ax_giSA (k := 95) rfl G h1 h2
theorem rA_96 {M : MM} (G : ai_GI ax_T M) (j : Nat) : 0 ≤ M 96 j ∧ M 96 j ≤ 260 := ax_giA (k := 96) rfl G j
theorem sA_96 {M : MM} (G : ai_GI ax_T M) {j : Nat} {v : Int} (h1 : 0 ≤ v) (h2 : v ≤ 260) : ai_GI ax_T (stM M 96 j v) := ax_giSA (k := 96) rfl G h1 h2
theorem rA_97 {M : MM} (G : ai_GI ax_T M) (j : Nat) : 0 ≤ M 97 j ∧ M 97 j ≤ 20000000 := ax_giA (k := 97) rfl G j
theorem sA_97 {M : MM} (G : ai_GI ax_T M) {j : Nat} {v : Int} (h1 : 0 ≤ v) (h2 : v ≤ 20000000) : ai_GI ax_T (stM M 97 j v) := ax_giSA (k := 97) rfl G h1 h2
theorem rA_98 {M : MM} (G : ai_GI ax_T M) (j : Nat) : 0 ≤ M 98 j ∧ M 98 j ≤ 119 := ax_giA (k := 98) rfl G j
theorem sA_98 {M : MM} (G : ai_GI ax_T M) {j : Nat} {v : Int} (h1 : 0 ≤ v) (h2 : v ≤ 119) : ai_GI ax_T (stM M 98 j v) := ax_giSA (k := 98) rfl G h1 h2
theorem rA_99 {M : MM} (G : ai_GI ax_T M) (j : Nat) : 0 ≤ M 99 j ∧ M 99 j ≤ 260 := ax_giA (k := 99) rfl G j
theorem sA_99 {M : MM} (G : ai_GI ax_T M) {j : Nat} {v : Int} (h1 : 0 ≤ v) (h2 : v ≤ 260) : ai_GI ax_T (stM M 99 j v) := ax_giSA (k := 99) rfl G h1 h2
theorem rA_100 {M : MM} (G : ai_GI ax_T M) (j : Nat) : 0 ≤ M 100 j ∧ M 100 j ≤ 260 := ax_giA (k := 100) rfl G j
theorem sA_100 {M : MM} (G : ai_GI ax_T M) {j : Nat} {v : Int} (h1 : 0 ≤ v) (h2 : v ≤ 260) : ai_GI ax_T (stM M 100 j v) := ax_giSA (k := 100) rfl G h1 h2
theorem rA_101 {M : MM} (G : ai_GI ax_T M) (j : Nat) : 0 ≤ M 101 j ∧ M 101 j ≤ 260 := ax_giA (k := 101) rfl G j
theorem sA_101 {M : MM} (G : ai_GI ax_T M) {j : Nat} {v : Int} (h1 : 0 ≤ v) (h2 : v ≤ 260) : ai_GI ax_T (stM M 101 j v) := ax_giSA (k := 101) rfl G h1 h2
theorem rA_102 {M : MM} (G : ai_GI ax_T M) (j : Nat) : (-128) ≤ M 102 j ∧ M 102 j ≤ 11 := ax_giA (k := 102) rfl G j
theorem sA_102 {M : MM} (G : ai_GI ax_T M) {j : Nat} {v : Int} (h1 : (-128) ≤ v) (h2 : v ≤ 11) : ai_GI ax_T (stM M 102 j v) := ax_giSA (k := 102) rfl G h1 h2
theorem rA_103 {M : MM} (G : ai_GI ax_T M) (j : Nat) : (-2) ≤ M 103 j ∧ M 103 j ≤ 63 := ax_giA (k := 103) rfl G j
theorem sA_103 {M : MM} (G : ai_GI ax_T M) {j : Nat} {v : Int} (h1 : (-2) ≤ v) (h2 : v ≤ 63) : ai_GI ax_T (stM M 103 j v) := ax_giSA (k := 103) rfl G h1 h2
theorem rA_104 {M : MM} (G : ai_GI ax_T M) (j : Nat) : 0 ≤ M 104 j ∧ M 104 j ≤ 4 := ax_giA (k := 104) rfl G j
theorem sA_104 {M : MM} (G : ai_GI ax_T M) {j : Nat} {v : Int} (h1 : 0 ≤ v) (h2 : v ≤ 4) : ai_GI ax_T (stM M 104 j v) := ax_giSA (k := 104) rfl G h1 h2
theorem rA_105 {M : MM} (G : ai_GI ax_T M) (j : Nat) : 0 ≤ M 105 j ∧ M 105 j ≤ 240 := ax_giA (k := 105) rfl G j
theorem sA_105 {M : MM} (G : ai_GI ax_T M) {j : Nat} {v : Int} (h1 : 0 ≤ v) (h2 : v ≤ 240) : ai_GI ax_T (stM M 105 j v) := ax_giSA (k := 105) rfl G h1 h2
theorem rA_106 {M : MM} (G : ai_GI ax_T M) (j : Nat) : 0 ≤ M 106 j ∧ M 106 j ≤ 60 := ax_giA (k := 106) rfl G j
theorem sA_106 {M : MM} (G : ai_GI ax_T M) {j : Nat} {v : Int} (h1 : 0 ≤ v) (h2 : v ≤ 60) : ai_GI ax_T (stM M 106 j v) := ax_giSA (k := 106) rfl G h1 h2
theorem rA_107 {M : MM} (G : ai_GI ax_T M) (j : Nat) : 0 ≤ M 107 j ∧ M 107 j ≤ 9 := ax_giA (k := 107) rfl G j
theorem sA_107 {M : MM} (G : ai_GI ax_T M) {j : Nat} {v : Int} (h1 : 0 ≤ v) (h2 : v ≤ 9) : ai_GI ax_T (stM M 107 j v) := ax_giSA (k := 107) rfl G h1 h2
theorem rA_108 {M : MM} (G : ai_GI ax_T M) (j : Nat) : (-2147483648) ≤ M 108 j ∧ M 108 j ≤ 2147483647 := ax_giA (k := 108) rfl G j
theorem sA_108 {M : MM} (G : ai_GI ax_T M) {j : Nat} {v : Int} (h1 : (-2147483648) ≤ v) (h2 : v ≤ 2147483647) : ai_GI ax_T (stM M 108 j v) := ax_giSA (k := 108) rfl G h1 h2
theorem rA_109 {M : MM} (G : ai_GI ax_T M) (j : Nat) : (-2147483648) ≤ M 109 j ∧ M 109 j ≤ 2147483647 := ax_giA (k := 109) rfl G j
theorem sA_109 {M : MM} (G : ai_GI ax_T M) {j : Nat} {v : Int} (h1 : (-2147483648) ≤ v) (h2 : v ≤ 2147483647) : ai_GI ax_T (stM M 109 j v) := ax_giSA (k := 109) rfl G h1 h2
theorem rA_110 {M : MM} (G : ai_GI ax_T M) (j : Nat) : (-2) ≤ M 110 j ∧ M 110 j ≤ 60 := ax_giA (k := 110) rfl G j
theorem sA_110 {M : MM} (G : ai_GI ax_T M) {j : Nat} {v : Int} (h1 : (-2) ≤ v) (h2 : v ≤ 60) : ai_GI ax_T (stM M 110 j v) := ax_giSA (k := 110) rfl G h1 h2
theorem rA_111 {M : MM} (G : ai_GI ax_T M) (j : Nat) : 0 ≤ M 111 j ∧ M 111 j ≤ 63 := ax_giA (k := 111) rfl G j
theorem sA_111 {M : MM} (G : ai_GI ax_T M) {j : Nat} {v : Int} (h1 : 0 ≤ v) (h2 : v ≤ 63) : ai_GI ax_T (stM M 111 j v) := ax_giSA (k := 111) rfl G h1 h2
theorem rA_112 {M : MM} (G : ai_GI ax_T M) (j : Nat) : (-2147483648) ≤ M 112 j ∧ M 112 j ≤ 2147483647 := ax_giA (k := 112) rfl G j
theorem sA_112 {M : MM} (G : ai_GI ax_T M) {j : Nat} {v : Int} (h1 : (-2147483648) ≤ v) (h2 : v ≤ 2147483647) : ai_GI ax_T (stM M 112 j v) := ax_giSA (k := 112) rfl G h1 h2
theorem rA_113 {M : MM} (G : ai_GI ax_T M) (j : Nat) : (-1000000000) ≤ M 113 j ∧ M 113 j ≤ 2147483647 := ax_giA (k := 113) rfl G j
theorem sA_113 {M : MM} (G : ai_GI ax_T M) {j : Nat} {v : Int} (h1 : (-1000000000) ≤ v) (h2 : v ≤ 2147483647) : ai_GI ax_T (stM M 113 j v) := ax_giSA (k := 113) rfl G h1 h2
theorem rA_114 {M : MM} (G : ai_GI ax_T M) (j : Nat) : 0 ≤ M 114 j ∧ M 114 j ≤ 1000000000 := ax_giA (k := 114) rfl G j
theorem sA_114 {M : MM} (G : ai_GI ax_T M) {j : Nat} {v : Int} (h1 : 0 ≤ v) (h2 : v ≤ 1000000000) : ai_GI ax_T (stM M 114 j v) := ax_giSA (k := 114) rfl G h1 h2
theorem rA_115 {M : MM} (G : ai_GI ax_T M) (j : Nat) : 0 ≤ M 115 j ∧ M 115 j ≤ 1 := ax_giA (k := 115) rfl G j
theorem sA_115 {M : MM} (G : ai_GI ax_T M) {j : Nat} {v : Int} (h1 : 0 ≤ v) (h2 : v ≤ 1) : ai_GI ax_T (stM M 115 j v) := ax_giSA (k := 115) rfl G h1 h2
theorem rA_116 {M : MM} (G : ai_GI ax_T M) (j : Nat) : 0 ≤ M 116 j ∧ M 116 j ≤ 1000000000 := ax_giA (k := 116) rfl G j
theorem sA_116 {M : MM} (G : ai_GI ax_T M) {j : Nat} {v : Int} (h1 : 0 ≤ v) (h2 : v ≤ 1000000000) : ai_GI ax_T (stM M 116 j v) := ax_giSA (k := 116) rfl G h1 h2
theorem rA_117 {M : MM} (G : ai_GI ax_T M) (j : Nat) : (-1000000000) ≤ M 117 j ∧ M 117 j ≤ 1000000000 := ax_giA (k := 117) rfl G j
theorem sA_117 {M : MM} (G : ai_GI ax_T M) {j : Nat} {v : Int} (h1 : (-1000000000) ≤ v) (h2 : v ≤ 1000000000) : ai_GI ax_T (stM M 117 j v) := ax_giSA (k := 117) rfl G h1 h2
theorem rA_118 {M : MM} (G : ai_GI ax_T M) (j : Nat) : 0 ≤ M 118 j ∧ M 118 j ≤ 9 := ax_giA (k := 118) rfl G j
theorem sA_118 {M : MM} (G : ai_GI ax_T M) {j : Nat} {v : Int} (h1 : 0 ≤ v) (h2 : v ≤ 9) : ai_GI ax_T (stM M 118 j v) := ax_giSA (k := 118) rfl G h1 h2
theorem rA_119 {M : MM} (G : ai_GI ax_T M) (j : Nat) : (-9223372036854775808) ≤ M 119 j ∧ M 119 j ≤ 9223372036854775807 := ax_giA (k := 119) rfl G j
theorem sA_119 {M : MM} (G : ai_GI ax_T M) {j : Nat} {v : Int} (h1 : (-9223372036854775808) ≤ v) (h2 : v ≤ 9223372036854775807) : ai_GI ax_T (stM M 119 j v) := ax_giSA (k := 119) rfl G h1 h2
theorem rA_120 {M : MM} (G : ai_GI ax_T M) (j : Nat) : (-2147483648) ≤ M 120 j ∧ M 120 j ≤ 2147483647 := ax_giA (k := 120) rfl G j
theorem sA_120 {M : MM} (G : ai_GI ax_T M) {j : Nat} {v : Int} (h1 : (-2147483648) ≤ v) (h2 : v ≤ 2147483647) : ai_GI ax_T (stM M 120 j v) := ax_giSA (k := 120) rfl G h1 h2
