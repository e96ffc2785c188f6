theorem hk_im {w : Cond} (h : w ∈ lw_tbl) (g : goodWord w = true) : w ∈ hk_all := List.mem_filter.mpr ⟨h, g⟩
theorem hk_nim {w : Cond} (h : w ∈ lw_tbl) (g : hk_isNest w = true) : w ∈ hk_nest := List.mem_filter.mpr ⟨h, g⟩
theorem hk_t0 {w : Cond} (i : Nat) (h : (k2_sels lw_privs)[i]? = some w) : w ∈ lw_tbl := List.mem_append_left _ (List.mem_of_getElem? h)
theorem hk_t1 {w : Cond} (i : Nat) (h : tables_1_1[i]? = some w) : w ∈ lw_tbl := List.mem_append_right _ (List.mem_append_left _ (List.mem_of_getElem? h))
theorem hk_t2 {w : Cond} (i : Nat) (h : tables_1_2[i]? = some w) : w ∈ lw_tbl := List.mem_append_right _ (List.mem_append_right _ (List.mem_append_left _ (List.mem_of_getElem? h)))
theorem hk_t3 {w : Cond} (i : Nat) (h : tables_1_3[i]? = some w) : w ∈ lw_tbl := List.mem_append_right _ (List.mem_append_right _ (List.mem_append_right _ (List.mem_append_left _ (List.mem_of_getElem? h))))
theorem hk_t4 {w : Cond} (i : Nat) (h : tables_1_4[i]? = some w) : w ∈ lw_tbl := List.mem_append_right _ (List.mem_append_right _ (List.mem_append_right _ (List.mem_append_right _ (List.mem_append_left _ (List.mem_of_getElem? h)))))
theorem hk_t5 {w : Cond} (i : Nat) (h : tables_1_5[i]? = some w) : w ∈ lw_tbl := List.mem_append_right _ (List.mem_append_right _ (List.mem_append_right _ (List.mem_append_right _ (List.mem_append_right _ (List.mem_of_getElem? h)))))
set_option maxRecDepth 100000 in
theorem hw_17 : Cond.selects RX0 yX0_take yX0_take ∈ hk_all := hk_im (hk_t0 17 rfl) rfl
set_option maxRecDepth 100000 in
theorem hw_18 : Cond.selects RX0 yX0_find yX0_find ∈ hk_all := hk_im (hk_t0 18 rfl) rfl
set_option maxRecDepth 100000 in
theorem hw_19 : Cond.selects RX0 yX0_put yX0_put ∈ hk_all := hk_im (hk_t0 19 rfl) rfl
set_option maxRecDepth 100000 in
theorem hw_20 : Cond.selects RX0 yX0_leastAt yX0_leastAt ∈ hk_all := hk_im (hk_t0 20 rfl) rfl
set_option maxRecDepth 100000 in
theorem hw_23 : Cond.selects RX0 yX0_keyAt yX0_keyAt ∈ hk_all := hk_im (hk_t0 23 rfl) rfl
set_option maxRecDepth 100000 in
theorem hw_24 : Cond.selects RX0 yX0_surelyAt yX0_surelyAt ∈ hk_all := hk_im (hk_t0 24 rfl) rfl
set_option maxRecDepth 100000 in
theorem hw_25 : Cond.selects RX0 yX0_countAt yX0_countAt ∈ hk_all := hk_im (hk_t0 25 rfl) rfl
set_option maxRecDepth 100000 in
theorem hw_26 : Cond.selects RX0 yX0_errorAt yX0_errorAt ∈ hk_all := hk_im (hk_t0 26 rfl) rfl
set_option maxRecDepth 100000 in
theorem hw_31 : Cond.selects RX0 yX0_atMost yX0_atMost ∈ hk_all := hk_im (hk_t0 31 rfl) rfl
set_option maxRecDepth 100000 in
theorem hw_39 : Cond.selects RX0 yX0_atLeast yX0_atLeast ∈ hk_all := hk_im (hk_t0 39 rfl) rfl
set_option maxRecDepth 100000 in
theorem hw_82 : Cond.initialized RX0 ∈ hk_all := hk_im (hk_t1 4 rfl) rfl
set_option maxRecDepth 100000 in
theorem hw_88 : Cond.initialized RJ9 ∈ hk_all := hk_im (hk_t1 10 rfl) rfl
set_option maxRecDepth 100000 in
theorem hw_152 : Cond.fieldLink RX0 9 RX0 "keys" "[I" ∈ hk_all := hk_im (hk_t1 74 rfl) rfl
set_option maxRecDepth 100000 in
theorem hw_153 : Cond.fieldLink RX0 15 RX0 "counts" "[I" ∈ hk_all := hk_im (hk_t1 75 rfl) rfl
set_option maxRecDepth 100000 in
theorem hw_154 : Cond.fieldLink RX0 18 RX0 "errors" "[I" ∈ hk_all := hk_im (hk_t1 76 rfl) rfl
set_option maxRecDepth 100000 in
theorem hw_155 : Cond.fieldLink RX0 29 RX0 "limit" "I" ∈ hk_all := hk_im (hk_t1 77 rfl) rfl
set_option maxRecDepth 100000 in
theorem hw_157 : Cond.fieldLink RX0 25 RX0 "used" "I" ∈ hk_all := hk_im (hk_t1 79 rfl) rfl
set_option maxRecDepth 100000 in
theorem hw_397 : Cond.static yJ9_min_f86c9 ∈ hk_all := hk_im (hk_t2 79 rfl) rfl
set_option maxRecDepth 100000 in
theorem hw_398 : Cond.code yJ9_min_f86c9 cJ9_min_f86c9 4 (some .long) ∈ hk_all := hk_im (hk_t2 80 rfl) rfl
set_option maxRecDepth 100000 in
theorem hw_400 : Cond.static yJ9_max_f86c9 ∈ hk_all := hk_im (hk_t2 82 rfl) rfl
set_option maxRecDepth 100000 in
theorem hw_401 : Cond.code yJ9_max_f86c9 cJ9_max_f86c9 4 (some .long) ∈ hk_all := hk_im (hk_t2 83 rfl) rfl
set_option maxRecDepth 100000 in
theorem hw_411 : Cond.instanceMethod yX0_take ∈ hk_all := hk_im (hk_t2 93 rfl) rfl
set_option maxRecDepth 100000 in
theorem hw_412 : Cond.code yX0_take cX0_take 4 none ∈ hk_all := hk_im (hk_t2 94 rfl) rfl
set_option maxRecDepth 100000 in
theorem hw_413 : Cond.methodLink RX0 21 yX0_find ∈ hk_all := hk_im (hk_t2 95 rfl) rfl
set_option maxRecDepth 100000 in
theorem hw_415 : Cond.instanceMethod yX0_find ∈ hk_all := hk_im (hk_t2 97 rfl) rfl
set_option maxRecDepth 100000 in
theorem hw_416 : Cond.code yX0_find cX0_find 3 (some .int) ∈ hk_all := hk_im (hk_t2 98 rfl) rfl
set_option maxRecDepth 100000 in
theorem hw_417 : Cond.methodLink RX0 32 yX0_put ∈ hk_all := hk_im (hk_t2 99 rfl) rfl
set_option maxRecDepth 100000 in
theorem hw_419 : Cond.instanceMethod yX0_put ∈ hk_all := hk_im (hk_t2 101 rfl) rfl
set_option maxRecDepth 100000 in
theorem hw_420 : Cond.code yX0_put cX0_put 4 none ∈ hk_all := hk_im (hk_t2 102 rfl) rfl
set_option maxRecDepth 100000 in
theorem hw_421 : Cond.methodLink RX0 36 yX0_leastAt ∈ hk_all := hk_im (hk_t2 103 rfl) rfl
set_option maxRecDepth 100000 in
theorem hw_423 : Cond.instanceMethod yX0_leastAt ∈ hk_all := hk_im (hk_t2 105 rfl) rfl
set_option maxRecDepth 100000 in
theorem hw_424 : Cond.code yX0_leastAt cX0_leastAt 3 (some .int) ∈ hk_all := hk_im (hk_t2 106 rfl) rfl
set_option maxRecDepth 100000 in
theorem hw_435 : Cond.instanceMethod yX0_keyAt ∈ hk_all := hk_im (hk_t2 117 rfl) rfl
set_option maxRecDepth 100000 in
theorem hw_436 : Cond.code yX0_keyAt cX0_keyAt 2 (some .int) ∈ hk_all := hk_im (hk_t2 118 rfl) rfl
set_option maxRecDepth 100000 in
theorem hw_439 : Cond.instanceMethod yX0_surelyAt ∈ hk_all := hk_im (hk_t2 121 rfl) rfl
set_option maxRecDepth 100000 in
theorem hw_440 : Cond.code yX0_surelyAt cX0_surelyAt 2 (some .int) ∈ hk_all := hk_im (hk_t2 122 rfl) rfl
set_option maxRecDepth 100000 in
theorem hw_441 : Cond.methodLink RX0 40 yX0_countAt ∈ hk_all := hk_im (hk_t2 123 rfl) rfl
set_option maxRecDepth 100000 in
theorem hw_443 : Cond.instanceMethod yX0_countAt ∈ hk_all := hk_im (hk_t2 125 rfl) rfl
set_option maxRecDepth 100000 in
theorem hw_444 : Cond.code yX0_countAt cX0_countAt 2 (some .int) ∈ hk_all := hk_im (hk_t2 126 rfl) rfl
set_option maxRecDepth 100000 in
theorem hw_445 : Cond.methodLink RX0 43 yX0_errorAt ∈ hk_all := hk_im (hk_t2 127 rfl) rfl
set_option maxRecDepth 100000 in
theorem hw_447 : Cond.instanceMethod yX0_errorAt ∈ hk_all := hk_im (hk_t2 129 rfl) rfl
set_option maxRecDepth 100000 in
theorem hw_448 : Cond.code yX0_errorAt cX0_errorAt 2 (some .int) ∈ hk_all := hk_im (hk_t2 130 rfl) rfl
set_option maxRecDepth 100000 in
theorem hw_459 : Cond.static yJ9_min_7cf53 ∈ hk_all := hk_im (hk_t2 141 rfl) rfl
set_option maxRecDepth 100000 in
theorem hw_460 : Cond.code yJ9_min_7cf53 cJ9_min_7cf53 2 (some .int) ∈ hk_all := hk_im (hk_t2 142 rfl) rfl
set_option maxRecDepth 100000 in
theorem hw_475 : Cond.instanceMethod yX0_atMost ∈ hk_all := hk_im (hk_t2 157 rfl) rfl
set_option maxRecDepth 100000 in
theorem hw_476 : Cond.code yX0_atMost cX0_atMost 3 (some .int) ∈ hk_all := hk_im (hk_t2 158 rfl) rfl
set_option maxRecDepth 100000 in
theorem hw_490 : Cond.static yJ9_max_7cf53 ∈ hk_all := hk_im (hk_t2 172 rfl) rfl
set_option maxRecDepth 100000 in
theorem hw_491 : Cond.code yJ9_max_7cf53 cJ9_max_7cf53 2 (some .int) ∈ hk_all := hk_im (hk_t2 173 rfl) rfl
set_option maxRecDepth 100000 in
theorem hw_553 : Cond.instanceMethod yX0_atLeast ∈ hk_all := hk_im (hk_t2 235 rfl) rfl
set_option maxRecDepth 100000 in
theorem hw_554 : Cond.code yX0_atLeast cX0_atLeast 3 (some .int) ∈ hk_all := hk_im (hk_t2 236 rfl) rfl
set_option maxRecDepth 100000 in
theorem hw_555 : Cond.methodLink RX0 46 yX0_surelyAt ∈ hk_all := hk_im (hk_t2 237 rfl) rfl
set_option maxRecDepth 100000 in
theorem hw_646 : Cond.static yJ9_floorMod_7cf53 ∈ hk_all := hk_im (hk_t3 88 rfl) rfl
set_option maxRecDepth 100000 in
theorem hw_647 : Cond.code yJ9_floorMod_7cf53 cJ9_floorMod_7cf53 3 (some .int) ∈ hk_all := hk_im (hk_t3 89 rfl) rfl
theorem ih_X0 : ∀ w ∈ u_ws RX0 TX0 5, w ∈ hk_all := by decide +kernel
theorem ih_X1 : ∀ w ∈ u_ws RX1 TX1 3, w ∈ hk_all := by decide +kernel
theorem ih_X2 : ∀ w ∈ u_ws RX2 TX2 6, w ∈ hk_all := by decide +kernel
theorem ih_X3 : ∀ w ∈ u_ws RX3 TX3 3, w ∈ hk_all := by decide +kernel
theorem ih_X4 : ∀ w ∈ u_ws RX4 TX4 6, w ∈ hk_all := by decide +kernel
theorem ih_X5 : ∀ w ∈ u_ws RX5 TX5 5, w ∈ hk_all := by decide +kernel
theorem ih_X6 : ∀ w ∈ u_ws RX6 TX6 4, w ∈ hk_all := by decide +kernel
theorem ih_X7 : ∀ w ∈ u_ws RX7 TX7 18, w ∈ hk_all := by decide +kernel
theorem ih_X8 : ∀ w ∈ u_ws RX8 TX8 52, w ∈ hk_all := by decide +kernel
