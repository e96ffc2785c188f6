theorem hk_im {w : Cond} (h : w ∈ lw_tbl) (g : goodWord w = true) : w ∈ hk_all := List.mem_filter.mpr ⟨h, g⟩
theorem hk_nim {w : Cond} (h : w ∈ lw_tbl) (g : hk_isNest w = true) : w ∈ hk_nest := List.mem_filter.mpr ⟨h, g⟩
theorem hk_t0 {w : Cond} (i : Nat) (h : (k2_sels lw_privs)[i]? = some w) : w ∈ lw_tbl := List.mem_append_left _ (List.mem_of_getElem? h)
theorem hk_t1 {w : Cond} (i : Nat) (h : tables_1_1[i]? = some w) : w ∈ lw_tbl := List.mem_append_right _ (List.mem_append_left _ (List.mem_of_getElem? h))
theorem hk_t2 {w : Cond} (i : Nat) (h : tables_1_2[i]? = some w) : w ∈ lw_tbl := List.mem_append_right _ (List.mem_append_right _ (List.mem_append_left _ (List.mem_of_getElem? h)))
theorem hk_t3 {w : Cond} (i : Nat) (h : tables_1_3[i]? = some w) : w ∈ lw_tbl := List.mem_append_right _ (List.mem_append_right _ (List.mem_append_right _ (List.mem_append_left _ (List.mem_of_getElem? h))))
theorem hk_t4 {w : Cond} (i : Nat) (h : tables_1_4[i]? = some w) : w ∈ lw_tbl := List.mem_append_right _ (List.mem_append_right _ (List.mem_append_right _ (List.mem_append_right _ (List.mem_append_left _ (List.mem_of_getElem? h)))))
theorem hk_t5 {w : Cond} (i : Nat) (h : tables_1_5[i]? = some w) : w ∈ lw_tbl := List.mem_append_right _ (List.mem_append_right _ (List.mem_append_right _ (List.mem_append_right _ (List.mem_append_right _ (List.mem_of_getElem? h)))))
set_option maxRecDepth 100000 in
theorem hw_4 : Cond.selects RX5 yX5_forgetAll yX5_forgetAll ∈ hk_all := hk_im (hk_t0 4 rfl) rfl
set_option maxRecDepth 100000 in
theorem hw_5 : Cond.selects RX6 yX6_forgetAll yX6_forgetAll ∈ hk_all := hk_im (hk_t0 5 rfl) rfl
set_option maxRecDepth 100000 in
theorem hw_9 : Cond.selects RX1 yX1_add yX1_add ∈ hk_all := hk_im (hk_t0 9 rfl) rfl
set_option maxRecDepth 100000 in
theorem hw_11 : Cond.selects RX1 yX1_emptyState yX1_emptyState ∈ hk_all := hk_im (hk_t0 11 rfl) rfl
set_option maxRecDepth 100000 in
theorem hw_15 : Cond.selects RX1 yX1_folded yX1_folded ∈ hk_all := hk_im (hk_t0 15 rfl) rfl
set_option maxRecDepth 100000 in
theorem hw_16 : Cond.selects RX5 yX5_meet yX5_meet ∈ hk_all := hk_im (hk_t0 16 rfl) rfl
set_option maxRecDepth 100000 in
theorem hw_17 : Cond.selects RX0 yX0_take yX0_take ∈ hk_all := hk_im (hk_t0 17 rfl) rfl
set_option maxRecDepth 100000 in
theorem hw_18 : Cond.selects RX0 yX0_find yX0_find ∈ hk_all := hk_im (hk_t0 18 rfl) rfl
set_option maxRecDepth 100000 in
theorem hw_19 : Cond.selects RX0 yX0_put yX0_put ∈ hk_all := hk_im (hk_t0 19 rfl) rfl
set_option maxRecDepth 100000 in
theorem hw_20 : Cond.selects RX0 yX0_leastAt yX0_leastAt ∈ hk_all := hk_im (hk_t0 20 rfl) rfl
set_option maxRecDepth 100000 in
theorem hw_23 : Cond.selects RX0 yX0_keyAt yX0_keyAt ∈ hk_all := hk_im (hk_t0 23 rfl) rfl
set_option maxRecDepth 100000 in
theorem hw_24 : Cond.selects RX0 yX0_surelyAt yX0_surelyAt ∈ hk_all := hk_im (hk_t0 24 rfl) rfl
set_option maxRecDepth 100000 in
theorem hw_25 : Cond.selects RX0 yX0_countAt yX0_countAt ∈ hk_all := hk_im (hk_t0 25 rfl) rfl
set_option maxRecDepth 100000 in
theorem hw_26 : Cond.selects RX0 yX0_errorAt yX0_errorAt ∈ hk_all := hk_im (hk_t0 26 rfl) rfl
set_option maxRecDepth 100000 in
theorem hw_27 : Cond.selects RX1 yX1_allCanBeJoined yX1_allCanBeJoined ∈ hk_all := hk_im (hk_t0 27 rfl) rfl
set_option maxRecDepth 100000 in
theorem hw_31 : Cond.selects RX0 yX0_atMost yX0_atMost ∈ hk_all := hk_im (hk_t0 31 rfl) rfl
set_option maxRecDepth 100000 in
theorem hw_34 : Cond.selects RX1 yX1_joined yX1_joined ∈ hk_all := hk_im (hk_t0 34 rfl) rfl
set_option maxRecDepth 100000 in
theorem hw_39 : Cond.selects RX0 yX0_atLeast yX0_atLeast ∈ hk_all := hk_im (hk_t0 39 rfl) rfl
set_option maxRecDepth 100000 in
theorem hw_41 : Cond.selects RX5 yX5_add yX5_add ∈ hk_all := hk_im (hk_t0 41 rfl) rfl
set_option maxRecDepth 100000 in
theorem hw_43 : Cond.selects RX6 yX6_add yX6_add ∈ hk_all := hk_im (hk_t0 43 rfl) rfl
set_option maxRecDepth 100000 in
theorem hw_44 : Cond.selects RX6 yX6_dueAt yX6_dueAt ∈ hk_all := hk_im (hk_t0 44 rfl) rfl
set_option maxRecDepth 100000 in
theorem hw_46 : Cond.selects RX3 yX3_open yX3_open ∈ hk_all := hk_im (hk_t0 46 rfl) rfl
set_option maxRecDepth 100000 in
theorem hw_47 : Cond.selects RX3 yX3_write yX3_write ∈ hk_all := hk_im (hk_t0 47 rfl) rfl
set_option maxRecDepth 100000 in
theorem hw_49 : Cond.selects RX6 yX6_dropFirst yX6_dropFirst ∈ hk_all := hk_im (hk_t0 49 rfl) rfl
set_option maxRecDepth 100000 in
theorem hw_50 : Cond.selects RX3 yX3_read yX3_read ∈ hk_all := hk_im (hk_t0 50 rfl) rfl
set_option maxRecDepth 100000 in
theorem hw_51 : Cond.selects RX5 yX5_copyFrom yX5_copyFrom ∈ hk_all := hk_im (hk_t0 51 rfl) rfl
set_option maxRecDepth 100000 in
theorem hw_52 : Cond.selects RX6 yX6_copyFrom yX6_copyFrom ∈ hk_all := hk_im (hk_t0 52 rfl) rfl
set_option maxRecDepth 100000 in
theorem hw_80 : Cond.initialized RX1 ∈ hk_all := hk_im (hk_t1 2 rfl) rfl
set_option maxRecDepth 100000 in
theorem hw_82 : Cond.initialized RX0 ∈ hk_all := hk_im (hk_t1 4 rfl) rfl
set_option maxRecDepth 100000 in
theorem hw_83 : Cond.initialized RX5 ∈ hk_all := hk_im (hk_t1 5 rfl) rfl
set_option maxRecDepth 100000 in
theorem hw_84 : Cond.initialized RX6 ∈ hk_all := hk_im (hk_t1 6 rfl) rfl
set_option maxRecDepth 100000 in
theorem hw_85 : Cond.initialized RX3 ∈ hk_all := hk_im (hk_t1 7 rfl) rfl
set_option maxRecDepth 100000 in
theorem hw_86 : Cond.initialized RJ7 ∈ hk_all := hk_im (hk_t1 8 rfl) rfl
set_option maxRecDepth 100000 in
theorem hw_88 : Cond.initialized RJ9 ∈ hk_all := hk_im (hk_t1 10 rfl) rfl
set_option maxRecDepth 100000 in
theorem hw_89 : Cond.initialized RJ10 ∈ hk_all := hk_im (hk_t1 11 rfl) rfl
set_option maxRecDepth 100000 in
theorem hw_105 : Cond.fieldLink RX1 9 RX1 "kinds" "[I" ∈ hk_all := hk_im (hk_t1 27 rfl) rfl
set_option maxRecDepth 100000 in
theorem hw_106 : Cond.fieldLink RX1 15 RX1 "declared" "[Z" ∈ hk_all := hk_im (hk_t1 28 rfl) rfl
set_option maxRecDepth 100000 in
theorem hw_107 : Cond.fieldLink RX1 19 RX1 "count" "I" ∈ hk_all := hk_im (hk_t1 29 rfl) rfl
set_option maxRecDepth 100000 in
theorem hw_152 : Cond.fieldLink RX0 9 RX0 "keys" "[I" ∈ hk_all := hk_im (hk_t1 74 rfl) rfl
set_option maxRecDepth 100000 in
theorem hw_153 : Cond.fieldLink RX0 15 RX0 "counts" "[I" ∈ hk_all := hk_im (hk_t1 75 rfl) rfl
set_option maxRecDepth 100000 in
theorem hw_154 : Cond.fieldLink RX0 18 RX0 "errors" "[I" ∈ hk_all := hk_im (hk_t1 76 rfl) rfl
set_option maxRecDepth 100000 in
theorem hw_155 : Cond.fieldLink RX0 29 RX0 "limit" "I" ∈ hk_all := hk_im (hk_t1 77 rfl) rfl
set_option maxRecDepth 100000 in
theorem hw_157 : Cond.fieldLink RX0 25 RX0 "used" "I" ∈ hk_all := hk_im (hk_t1 79 rfl) rfl
set_option maxRecDepth 100000 in
theorem hw_176 : Cond.fieldLink RX5 9 RX5 "keys" "[I" ∈ hk_all := hk_im (hk_t1 98 rfl) rfl
set_option maxRecDepth 100000 in
theorem hw_178 : Cond.fieldLink RX5 15 RX5 "weights" "[I" ∈ hk_all := hk_im (hk_t1 100 rfl) rfl
set_option maxRecDepth 100000 in
theorem hw_179 : Cond.fieldLink RX5 18 RX5 "count" "I" ∈ hk_all := hk_im (hk_t1 101 rfl) rfl
set_option maxRecDepth 100000 in
theorem hw_181 : Cond.fieldLink RX5 22 RX5 "matches" "I" ∈ hk_all := hk_im (hk_t1 103 rfl) rfl
set_option maxRecDepth 100000 in
theorem hw_183 : Cond.fieldLink RX5 25 RX5 "out" "J" ∈ hk_all := hk_im (hk_t1 105 rfl) rfl
set_option maxRecDepth 100000 in
theorem hw_202 : Cond.fieldLink RX6 9 RX6 "keys" "[I" ∈ hk_all := hk_im (hk_t1 124 rfl) rfl
set_option maxRecDepth 100000 in
theorem hw_204 : Cond.fieldLink RX6 15 RX6 "times" "[I" ∈ hk_all := hk_im (hk_t1 126 rfl) rfl
set_option maxRecDepth 100000 in
theorem hw_206 : Cond.fieldLink RX6 18 RX6 "count" "I" ∈ hk_all := hk_im (hk_t1 128 rfl) rfl
set_option maxRecDepth 100000 in
theorem hw_208 : Cond.fieldLink RX6 22 RX6 "now" "I" ∈ hk_all := hk_im (hk_t1 130 rfl) rfl
set_option maxRecDepth 100000 in
theorem hw_225 : Cond.fieldLink RX3 9 RX3 "cells" "[J" ∈ hk_all := hk_im (hk_t1 147 rfl) rfl
set_option maxRecDepth 100000 in
theorem hw_226 : Cond.fieldLink RX3 15 RX3 "newest" "I" ∈ hk_all := hk_im (hk_t1 148 rfl) rfl
set_option maxRecDepth 100000 in
theorem hw_227 : Cond.fieldLink RX3 19 RX3 "kept" "I" ∈ hk_all := hk_im (hk_t1 149 rfl) rfl
set_option maxRecDepth 100000 in
theorem hw_255 : Cond.static yJ7_fill_53178 ∈ hk_all := hk_im (hk_t1 177 rfl) rfl
set_option maxRecDepth 100000 in
theorem hw_256 : Cond.code yJ7_fill_53178 cJ7_fill_53178 4 none ∈ hk_all := hk_im (hk_t1 178 rfl) rfl
set_option maxRecDepth 100000 in
theorem hw_259 : Cond.static yJ7_fill_d0a16 ∈ hk_all := hk_im (hk_t1 181 rfl) rfl
set_option maxRecDepth 100000 in
theorem hw_260 : Cond.code yJ7_fill_d0a16 cJ7_fill_d0a16 5 none ∈ hk_all := hk_im (hk_t1 182 rfl) rfl
set_option maxRecDepth 100000 in
theorem hw_263 : Cond.instanceMethod yX5_forgetAll ∈ hk_all := hk_im (hk_t1 185 rfl) rfl
set_option maxRecDepth 100000 in
theorem hw_264 : Cond.code yX5_forgetAll cX5_forgetAll 1 none ∈ hk_all := hk_im (hk_t1 186 rfl) rfl
set_option maxRecDepth 100000 in
theorem hw_267 : Cond.instanceMethod yX6_forgetAll ∈ hk_all := hk_im (hk_t1 189 rfl) rfl
set_option maxRecDepth 100000 in
theorem hw_268 : Cond.code yX6_forgetAll cX6_forgetAll 1 none ∈ hk_all := hk_im (hk_t1 190 rfl) rfl
set_option maxRecDepth 100000 in
theorem hw_351 : Cond.instanceMethod yX1_add ∈ hk_all := hk_im (hk_t2 33 rfl) rfl
set_option maxRecDepth 100000 in
theorem hw_352 : Cond.code yX1_add cX1_add 4 (some .int) ∈ hk_all := hk_im (hk_t2 34 rfl) rfl
set_option maxRecDepth 100000 in
theorem hw_362 : Cond.instanceMethod yX1_emptyState ∈ hk_all := hk_im (hk_t2 44 rfl) rfl
set_option maxRecDepth 100000 in
theorem hw_363 : Cond.code yX1_emptyState cX1_emptyState 2 (some .long) ∈ hk_all := hk_im (hk_t2 45 rfl) rfl
set_option maxRecDepth 100000 in
theorem hw_364 : Cond.constantLong RX1 23 (-4000000000000) ∈ hk_all := hk_im (hk_t2 46 rfl) rfl
set_option maxRecDepth 100000 in
theorem hw_365 : Cond.constantLong RX1 25 7 ∈ hk_all := hk_im (hk_t2 47 rfl) rfl
set_option maxRecDepth 100000 in
theorem hw_394 : Cond.instanceMethod yX1_folded ∈ hk_all := hk_im (hk_t2 76 rfl) rfl
set_option maxRecDepth 100000 in
theorem hw_395 : Cond.code yX1_folded cX1_folded 7 (some .long) ∈ hk_all := hk_im (hk_t2 77 rfl) rfl
set_option maxRecDepth 100000 in
theorem hw_396 : Cond.methodLink RX1 27 yJ9_min_f86c9 ∈ hk_all := hk_im (hk_t2 78 rfl) rfl
set_option maxRecDepth 100000 in
theorem hw_397 : Cond.static yJ9_min_f86c9 ∈ hk_all := hk_im (hk_t2 79 rfl) rfl
set_option maxRecDepth 100000 in
theorem hw_398 : Cond.code yJ9_min_f86c9 cJ9_min_f86c9 4 (some .long) ∈ hk_all := hk_im (hk_t2 80 rfl) rfl
set_option maxRecDepth 100000 in
theorem hw_399 : Cond.methodLink RX1 33 yJ9_max_f86c9 ∈ hk_all := hk_im (hk_t2 81 rfl) rfl
set_option maxRecDepth 100000 in
theorem hw_400 : Cond.static yJ9_max_f86c9 ∈ hk_all := hk_im (hk_t2 82 rfl) rfl
set_option maxRecDepth 100000 in
theorem hw_401 : Cond.code yJ9_max_f86c9 cJ9_max_f86c9 4 (some .long) ∈ hk_all := hk_im (hk_t2 83 rfl) rfl
set_option maxRecDepth 100000 in
theorem hw_407 : Cond.instanceMethod yX5_meet ∈ hk_all := hk_im (hk_t2 89 rfl) rfl
set_option maxRecDepth 100000 in
theorem hw_408 : Cond.code yX5_meet cX5_meet 4 none ∈ hk_all := hk_im (hk_t2 90 rfl) rfl
set_option maxRecDepth 100000 in
theorem hw_411 : Cond.instanceMethod yX0_take ∈ hk_all := hk_im (hk_t2 93 rfl) rfl
set_option maxRecDepth 100000 in
theorem hw_412 : Cond.code yX0_take cX0_take 4 none ∈ hk_all := hk_im (hk_t2 94 rfl) rfl
set_option maxRecDepth 100000 in
theorem hw_413 : Cond.methodLink RX0 21 yX0_find ∈ hk_all := hk_im (hk_t2 95 rfl) rfl
set_option maxRecDepth 100000 in
theorem hw_415 : Cond.instanceMethod yX0_find ∈ hk_all := hk_im (hk_t2 97 rfl) rfl
set_option maxRecDepth 100000 in
theorem hw_416 : Cond.code yX0_find cX0_find 3 (some .int) ∈ hk_all := hk_im (hk_t2 98 rfl) rfl
set_option maxRecDepth 100000 in
theorem hw_417 : Cond.methodLink RX0 32 yX0_put ∈ hk_all := hk_im (hk_t2 99 rfl) rfl
set_option maxRecDepth 100000 in
theorem hw_419 : Cond.instanceMethod yX0_put ∈ hk_all := hk_im (hk_t2 101 rfl) rfl
set_option maxRecDepth 100000 in
theorem hw_420 : Cond.code yX0_put cX0_put 4 none ∈ hk_all := hk_im (hk_t2 102 rfl) rfl
set_option maxRecDepth 100000 in
theorem hw_421 : Cond.methodLink RX0 36 yX0_leastAt ∈ hk_all := hk_im (hk_t2 103 rfl) rfl
set_option maxRecDepth 100000 in
theorem hw_423 : Cond.instanceMethod yX0_leastAt ∈ hk_all := hk_im (hk_t2 105 rfl) rfl
set_option maxRecDepth 100000 in
theorem hw_424 : Cond.code yX0_leastAt cX0_leastAt 3 (some .int) ∈ hk_all := hk_im (hk_t2 106 rfl) rfl
set_option maxRecDepth 100000 in
theorem hw_435 : Cond.instanceMethod yX0_keyAt ∈ hk_all := hk_im (hk_t2 117 rfl) rfl
set_option maxRecDepth 100000 in
theorem hw_436 : Cond.code yX0_keyAt cX0_keyAt 2 (some .int) ∈ hk_all := hk_im (hk_t2 118 rfl) rfl
set_option maxRecDepth 100000 in
theorem hw_439 : Cond.instanceMethod yX0_surelyAt ∈ hk_all := hk_im (hk_t2 121 rfl) rfl
set_option maxRecDepth 100000 in
theorem hw_440 : Cond.code yX0_surelyAt cX0_surelyAt 2 (some .int) ∈ hk_all := hk_im (hk_t2 122 rfl) rfl
set_option maxRecDepth 100000 in
theorem hw_441 : Cond.methodLink RX0 40 yX0_countAt ∈ hk_all := hk_im (hk_t2 123 rfl) rfl
set_option maxRecDepth 100000 in
theorem hw_443 : Cond.instanceMethod yX0_countAt ∈ hk_all := hk_im (hk_t2 125 rfl) rfl
set_option maxRecDepth 100000 in
theorem hw_444 : Cond.code yX0_countAt cX0_countAt 2 (some .int) ∈ hk_all := hk_im (hk_t2 126 rfl) rfl
set_option maxRecDepth 100000 in
theorem hw_445 : Cond.methodLink RX0 43 yX0_errorAt ∈ hk_all := hk_im (hk_t2 127 rfl) rfl
set_option maxRecDepth 100000 in
theorem hw_447 : Cond.instanceMethod yX0_errorAt ∈ hk_all := hk_im (hk_t2 129 rfl) rfl
set_option maxRecDepth 100000 in
theorem hw_448 : Cond.code yX0_errorAt cX0_errorAt 2 (some .int) ∈ hk_all := hk_im (hk_t2 130 rfl) rfl
set_option maxRecDepth 100000 in
theorem hw_452 : Cond.instanceMethod yX1_allCanBeJoined ∈ hk_all := hk_im (hk_t2 134 rfl) rfl
set_option maxRecDepth 100000 in
theorem hw_453 : Cond.code yX1_allCanBeJoined cX1_allCanBeJoined 2 (some .boolean) ∈ hk_all := hk_im (hk_t2 135 rfl) rfl
set_option maxRecDepth 100000 in
theorem hw_459 : Cond.static yJ9_min_7cf53 ∈ hk_all := hk_im (hk_t2 141 rfl) rfl
set_option maxRecDepth 100000 in
theorem hw_460 : Cond.code yJ9_min_7cf53 cJ9_min_7cf53 2 (some .int) ∈ hk_all := hk_im (hk_t2 142 rfl) rfl
set_option maxRecDepth 100000 in
theorem hw_475 : Cond.instanceMethod yX0_atMost ∈ hk_all := hk_im (hk_t2 157 rfl) rfl
set_option maxRecDepth 100000 in
theorem hw_476 : Cond.code yX0_atMost cX0_atMost 3 (some .int) ∈ hk_all := hk_im (hk_t2 158 rfl) rfl
set_option maxRecDepth 100000 in
theorem hw_487 : Cond.instanceMethod yX1_joined ∈ hk_all := hk_im (hk_t2 169 rfl) rfl
set_option maxRecDepth 100000 in
theorem hw_488 : Cond.code yX1_joined cX1_joined 7 (some .long) ∈ hk_all := hk_im (hk_t2 170 rfl) rfl
set_option maxRecDepth 100000 in
theorem hw_553 : Cond.instanceMethod yX0_atLeast ∈ hk_all := hk_im (hk_t2 235 rfl) rfl
set_option maxRecDepth 100000 in
theorem hw_554 : Cond.code yX0_atLeast cX0_atLeast 3 (some .int) ∈ hk_all := hk_im (hk_t2 236 rfl) rfl
set_option maxRecDepth 100000 in
theorem hw_555 : Cond.methodLink RX0 46 yX0_surelyAt ∈ hk_all := hk_im (hk_t2 237 rfl) rfl
set_option maxRecDepth 100000 in
theorem hw_574 : Cond.instanceMethod yX5_add ∈ hk_all := hk_im (hk_t3 16 rfl) rfl
set_option maxRecDepth 100000 in
theorem hw_575 : Cond.code yX5_add cX5_add 3 none ∈ hk_all := hk_im (hk_t3 17 rfl) rfl
set_option maxRecDepth 100000 in
theorem hw_595 : Cond.instanceMethod yX6_add ∈ hk_all := hk_im (hk_t3 37 rfl) rfl
set_option maxRecDepth 100000 in
theorem hw_596 : Cond.code yX6_add cX6_add 4 none ∈ hk_all := hk_im (hk_t3 38 rfl) rfl
set_option maxRecDepth 100000 in
theorem hw_597 : Cond.methodLink RX6 25 yX6_dueAt ∈ hk_all := hk_im (hk_t3 39 rfl) rfl
set_option maxRecDepth 100000 in
theorem hw_599 : Cond.instanceMethod yX6_dueAt ∈ hk_all := hk_im (hk_t3 41 rfl) rfl
set_option maxRecDepth 100000 in
theorem hw_600 : Cond.code yX6_dueAt cX6_dueAt 3 (some .int) ∈ hk_all := hk_im (hk_t3 42 rfl) rfl
set_option maxRecDepth 100000 in
theorem hw_601 : Cond.methodLink RX6 29 arraycopyName ∈ hk_all := hk_im (hk_t3 43 rfl) rfl
set_option maxRecDepth 100000 in
theorem hw_602 : Cond.static arraycopyName ∈ hk_all := hk_im (hk_t3 44 rfl) rfl
set_option maxRecDepth 100000 in
theorem hw_603 : Cond.native arraycopyName ∈ hk_all := hk_im (hk_t3 45 rfl) rfl
set_option maxRecDepth 100000 in
theorem hw_615 : Cond.instanceMethod yX3_open ∈ hk_all := hk_im (hk_t3 57 rfl) rfl
set_option maxRecDepth 100000 in
theorem hw_616 : Cond.code yX3_open cX3_open 4 (some .int) ∈ hk_all := hk_im (hk_t3 58 rfl) rfl
set_option maxRecDepth 100000 in
theorem hw_617 : Cond.methodLink RX3 22 yJ9_min_7cf53 ∈ hk_all := hk_im (hk_t3 59 rfl) rfl
set_option maxRecDepth 100000 in
theorem hw_618 : Cond.constantLong RX3 28 (-4000000000000) ∈ hk_all := hk_im (hk_t3 60 rfl) rfl
set_option maxRecDepth 100000 in
theorem hw_619 : Cond.methodLink RX3 30 yJ7_fill_bad5a ∈ hk_all := hk_im (hk_t3 61 rfl) rfl
set_option maxRecDepth 100000 in
theorem hw_620 : Cond.static yJ7_fill_bad5a ∈ hk_all := hk_im (hk_t3 62 rfl) rfl
set_option maxRecDepth 100000 in
theorem hw_621 : Cond.code yJ7_fill_bad5a cJ7_fill_bad5a 6 none ∈ hk_all := hk_im (hk_t3 63 rfl) rfl
set_option maxRecDepth 100000 in
theorem hw_622 : Cond.methodLink RJ7 13 yJ7_rangeCheck_23922 ∈ hk_all := hk_im (hk_t3 64 rfl) rfl
set_option maxRecDepth 100000 in
theorem hw_623 : Cond.static yJ7_rangeCheck_23922 ∈ hk_all := hk_im (hk_t3 65 rfl) rfl
set_option maxRecDepth 100000 in
theorem hw_624 : Cond.code yJ7_rangeCheck_23922 cJ7_rangeCheck_23922 3 none ∈ hk_all := hk_im (hk_t3 66 rfl) rfl
set_option maxRecDepth 100000 in
theorem hw_627 : Cond.instanceMethod yX3_write ∈ hk_all := hk_im (hk_t3 69 rfl) rfl
set_option maxRecDepth 100000 in
theorem hw_628 : Cond.code yX3_write cX3_write 5 none ∈ hk_all := hk_im (hk_t3 70 rfl) rfl
set_option maxRecDepth 100000 in
theorem hw_635 : Cond.instanceMethod yX6_dropFirst ∈ hk_all := hk_im (hk_t3 77 rfl) rfl
set_option maxRecDepth 100000 in
theorem hw_636 : Cond.code yX6_dropFirst cX6_dropFirst 2 none ∈ hk_all := hk_im (hk_t3 78 rfl) rfl
set_option maxRecDepth 100000 in
theorem hw_643 : Cond.instanceMethod yX3_read ∈ hk_all := hk_im (hk_t3 85 rfl) rfl
set_option maxRecDepth 100000 in
theorem hw_644 : Cond.code yX3_read cX3_read 3 (some .long) ∈ hk_all := hk_im (hk_t3 86 rfl) rfl
set_option maxRecDepth 100000 in
theorem hw_645 : Cond.methodLink RX3 36 yJ9_floorMod_7cf53 ∈ hk_all := hk_im (hk_t3 87 rfl) rfl
set_option maxRecDepth 100000 in
theorem hw_646 : Cond.static yJ9_floorMod_7cf53 ∈ hk_all := hk_im (hk_t3 88 rfl) rfl
set_option maxRecDepth 100000 in
theorem hw_647 : Cond.code yJ9_floorMod_7cf53 cJ9_floorMod_7cf53 3 (some .int) ∈ hk_all := hk_im (hk_t3 89 rfl) rfl
set_option maxRecDepth 100000 in
theorem hw_687 : Cond.instanceMethod yX5_copyFrom ∈ hk_all := hk_im (hk_t3 129 rfl) rfl
set_option maxRecDepth 100000 in
theorem hw_688 : Cond.code yX5_copyFrom cX5_copyFrom 2 none ∈ hk_all := hk_im (hk_t3 130 rfl) rfl
set_option maxRecDepth 100000 in
theorem hw_689 : Cond.methodLink RX5 29 arraycopyName ∈ hk_all := hk_im (hk_t3 131 rfl) rfl
set_option maxRecDepth 100000 in
theorem hw_692 : Cond.instanceMethod yX6_copyFrom ∈ hk_all := hk_im (hk_t3 134 rfl) rfl
set_option maxRecDepth 100000 in
theorem hw_693 : Cond.code yX6_copyFrom cX6_copyFrom 2 none ∈ hk_all := hk_im (hk_t3 135 rfl) rfl
theorem ih_X0 : ∀ w ∈ u_ws RX0 TX0 5, w ∈ hk_all := by decide +kernel
theorem ih_X1 : ∀ w ∈ u_ws RX1 TX1 3, w ∈ hk_all := by decide +kernel
theorem ih_X2 : ∀ w ∈ u_ws RX2 TX2 6, w ∈ hk_all := by decide +kernel
theorem ih_X3 : ∀ w ∈ u_ws RX3 TX3 3, w ∈ hk_all := by decide +kernel
theorem ih_X4 : ∀ w ∈ u_ws RX4 TX4 6, w ∈ hk_all := by decide +kernel
theorem ih_X5 : ∀ w ∈ u_ws RX5 TX5 5, w ∈ hk_all := by decide +kernel
theorem ih_X6 : ∀ w ∈ u_ws RX6 TX6 4, w ∈ hk_all := by decide +kernel
theorem ih_X7 : ∀ w ∈ u_ws RX7 TX7 18, w ∈ hk_all := by decide +kernel
theorem ih_X8 : ∀ w ∈ u_ws RX8 TX8 52, w ∈ hk_all := by decide +kernel
