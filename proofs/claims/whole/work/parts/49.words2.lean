set_option maxRecDepth 100000 in
theorem hw_91 : Cond.classLink RL 7 RX7 ∈ hk_all := hk_im (hk_t1 13 rfl) rfl
set_option maxRecDepth 100000 in
theorem hw_92 : Cond.instantiable RX7 18 ∈ hk_all := hk_im (hk_t1 14 rfl) rfl
set_option maxRecDepth 100000 in
theorem hw_93 : Cond.methodLink RL 9 yX7_init ∈ hk_all := hk_im (hk_t1 15 rfl) rfl
set_option maxRecDepth 100000 in
theorem hw_329 : Cond.methodLink RL 13 yX7_shape ∈ hk_all := hk_im (hk_t2 11 rfl) rfl
set_option maxRecDepth 100000 in
theorem hw_337 : Cond.methodLink RL 18 yX7_fold ∈ hk_all := hk_im (hk_t2 19 rfl) rfl
set_option maxRecDepth 100000 in
theorem hw_366 : Cond.methodLink RL 23 yX7_row ∈ hk_all := hk_im (hk_t2 48 rfl) rfl
set_option maxRecDepth 100000 in
theorem hw_496 : Cond.methodLink RL 28 yX7_state ∈ hk_all := hk_im (hk_t2 178 rfl) rfl
set_option maxRecDepth 100000 in
theorem hw_506 : Cond.methodLink RL 33 yX7_part ∈ hk_all := hk_im (hk_t2 188 rfl) rfl
set_option maxRecDepth 100000 in
theorem hw_519 : Cond.methodLink RL 38 yX7_parts ∈ hk_all := hk_im (hk_t2 201 rfl) rfl
set_option maxRecDepth 100000 in
theorem hw_523 : Cond.methodLink RL 43 yX7_place ∈ hk_all := hk_im (hk_t2 205 rfl) rfl
set_option maxRecDepth 100000 in
theorem hw_527 : Cond.methodLink RL 47 yX7_split ∈ hk_all := hk_im (hk_t2 209 rfl) rfl
set_option maxRecDepth 100000 in
theorem hw_531 : Cond.methodLink RL 51 yX7_back ∈ hk_all := hk_im (hk_t2 213 rfl) rfl
set_option maxRecDepth 100000 in
theorem hw_535 : Cond.methodLink RL 55 yX7_tree ∈ hk_all := hk_im (hk_t2 217 rfl) rfl
set_option maxRecDepth 100000 in
theorem hw_542 : Cond.methodLink RL 59 yX7_counter ∈ hk_all := hk_im (hk_t2 224 rfl) rfl
set_option maxRecDepth 100000 in
theorem hw_547 : Cond.methodLink RL 63 yX7_hot ∈ hk_all := hk_im (hk_t2 229 rfl) rfl
set_option maxRecDepth 100000 in
theorem hw_556 : Cond.methodLink RL 67 yX7_splitKey ∈ hk_all := hk_im (hk_t2 238 rfl) rfl
set_option maxRecDepth 100000 in
theorem hw_560 : Cond.methodLink RL 71 yX7_load ∈ hk_all := hk_im (hk_t3 2 rfl) rfl
set_option maxRecDepth 100000 in
theorem hw_568 : Cond.methodLink RL 75 yX7_small ∈ hk_all := hk_im (hk_t3 10 rfl) rfl
set_option maxRecDepth 100000 in
theorem hw_576 : Cond.methodLink RL 79 yX7_copies ∈ hk_all := hk_im (hk_t3 18 rfl) rfl
set_option maxRecDepth 100000 in
theorem hw_584 : Cond.methodLink RL 83 yX7_out ∈ hk_all := hk_im (hk_t3 26 rfl) rfl
set_option maxRecDepth 100000 in
theorem hw_588 : Cond.methodLink RL 88 yX7_timer ∈ hk_all := hk_im (hk_t3 30 rfl) rfl
set_option maxRecDepth 100000 in
theorem hw_604 : Cond.methodLink RL 92 yX7_tick ∈ hk_all := hk_im (hk_t3 46 rfl) rfl
set_option maxRecDepth 100000 in
theorem hw_637 : Cond.methodLink RL 96 yX7_log ∈ hk_all := hk_im (hk_t3 79 rfl) rfl
set_option maxRecDepth 100000 in
theorem hw_648 : Cond.methodLink RL 100 yX7_mark ∈ hk_all := hk_im (hk_t3 90 rfl) rfl
set_option maxRecDepth 100000 in
theorem hw_649 : Cond.instanceMethod yX7_mark ∈ hk_all := hk_im (hk_t3 91 rfl) rfl
set_option maxRecDepth 100000 in
theorem hw_650 : Cond.selects RX7 yX7_mark yX7_mark ∈ hk_all := hk_im (hk_t3 92 rfl) rfl
set_option maxRecDepth 100000 in
theorem hw_651 : Cond.code yX7_mark cX7_mark 3 (some .int) ∈ hk_all := hk_im (hk_t3 93 rfl) rfl
set_option maxRecDepth 100000 in
theorem hw_652 : Cond.instantiable RX4 6 ∈ hk_all := hk_im (hk_t3 94 rfl) rfl
set_option maxRecDepth 100000 in
theorem hn_653 : Cond.methodLinkNest RX7 231 yX4_init RX7 ∈ hk_nest := hk_nim (hk_t3 95 rfl) rfl
set_option maxRecDepth 100000 in
theorem hn_668 : Cond.fieldLinkNest RX7 233 RX4 "smalls" "LHotKeys$Smalls;" RX7 ∈ hk_nest := hk_nim (hk_t3 110 rfl) rfl
set_option maxRecDepth 100000 in
theorem hn_670 : Cond.fieldLinkNest RX7 238 RX4 "timers" "LHotKeys$Timers;" RX7 ∈ hk_nest := hk_nim (hk_t3 112 rfl) rfl
set_option maxRecDepth 100000 in
theorem hn_671 : Cond.fieldLinkNest RX7 232 RX4 "rows" "I" RX7 ∈ hk_nest := hk_nim (hk_t3 113 rfl) rfl
set_option maxRecDepth 100000 in
theorem hn_685 : Cond.methodLinkNest RX7 234 yX5_copyFrom RX7 ∈ hk_nest := hk_nim (hk_t3 127 rfl) rfl
set_option maxRecDepth 100000 in
theorem hn_690 : Cond.methodLinkNest RX7 239 yX6_copyFrom RX7 ∈ hk_nest := hk_nim (hk_t3 132 rfl) rfl
set_option maxRecDepth 100000 in
theorem hn_694 : Cond.methodLinkNest RX7 242 yX2_holdIn RX7 ∈ hk_nest := hk_nim (hk_t3 136 rfl) rfl
set_option maxRecDepth 100000 in
theorem hw_698 : Cond.methodLink RL 105 yX7_restore ∈ hk_all := hk_im (hk_t3 140 rfl) rfl
set_option maxRecDepth 100000 in
theorem hw_699 : Cond.instanceMethod yX7_restore ∈ hk_all := hk_im (hk_t3 141 rfl) rfl
set_option maxRecDepth 100000 in
theorem hw_700 : Cond.selects RX7 yX7_restore yX7_restore ∈ hk_all := hk_im (hk_t3 142 rfl) rfl
set_option maxRecDepth 100000 in
theorem hw_701 : Cond.code yX7_restore cX7_restore 3 (some .int) ∈ hk_all := hk_im (hk_t3 143 rfl) rfl
set_option maxRecDepth 100000 in
theorem hn_702 : Cond.methodLinkNest RX7 246 yX2_takeFrom RX7 ∈ hk_nest := hk_nim (hk_t3 144 rfl) rfl
set_option maxRecDepth 100000 in
theorem hw_706 : Cond.methodLink RL 109 yX7_told ∈ hk_all := hk_im (hk_t3 148 rfl) rfl
set_option maxRecDepth 100000 in
theorem hw_710 : Cond.methodLink RL 113 yX7_clear ∈ hk_all := hk_im (hk_t3 152 rfl) rfl
set_option maxRecDepth 100000 in
theorem hw_714 : Cond.classLink RL 10 RX8 ∈ hk_all := hk_im (hk_t3 156 rfl) rfl
set_option maxRecDepth 100000 in
theorem hw_715 : Cond.instantiable RX8 52 ∈ hk_all := hk_im (hk_t3 157 rfl) rfl
set_option maxRecDepth 100000 in
theorem hw_716 : Cond.methodLink RL 12 yX8_init ∈ hk_all := hk_im (hk_t3 158 rfl) rfl
set_option maxRecDepth 100000 in
theorem hw_903 : Cond.methodLink RL 17 yX8_shape ∈ hk_all := hk_im (hk_t4 105 rfl) rfl
set_option maxRecDepth 100000 in
theorem hw_914 : Cond.methodLink RL 22 yX8_fold ∈ hk_all := hk_im (hk_t4 116 rfl) rfl
set_option maxRecDepth 100000 in
theorem hw_922 : Cond.methodLink RL 27 yX8_row ∈ hk_all := hk_im (hk_t4 124 rfl) rfl
set_option maxRecDepth 100000 in
theorem hw_989 : Cond.methodLink RL 32 yX8_state ∈ hk_all := hk_im (hk_t4 191 rfl) rfl
set_option maxRecDepth 100000 in
theorem hw_993 : Cond.methodLink RL 37 yX8_part ∈ hk_all := hk_im (hk_t4 195 rfl) rfl
set_option maxRecDepth 100000 in
theorem hw_997 : Cond.methodLink RL 42 yX8_parts ∈ hk_all := hk_im (hk_t4 199 rfl) rfl
set_option maxRecDepth 100000 in
theorem hw_1001 : Cond.methodLink RL 46 yX8_place ∈ hk_all := hk_im (hk_t4 203 rfl) rfl
set_option maxRecDepth 100000 in
theorem hw_1005 : Cond.methodLink RL 50 yX8_split ∈ hk_all := hk_im (hk_t4 207 rfl) rfl
set_option maxRecDepth 100000 in
theorem hw_1009 : Cond.methodLink RL 54 yX8_back ∈ hk_all := hk_im (hk_t4 211 rfl) rfl
set_option maxRecDepth 100000 in
theorem hw_1013 : Cond.methodLink RL 58 yX8_tree ∈ hk_all := hk_im (hk_t4 215 rfl) rfl
set_option maxRecDepth 100000 in
theorem hw_1017 : Cond.methodLink RL 62 yX8_counter ∈ hk_all := hk_im (hk_t4 219 rfl) rfl
set_option maxRecDepth 100000 in
theorem hw_1021 : Cond.methodLink RL 66 yX8_hot ∈ hk_all := hk_im (hk_t4 223 rfl) rfl
set_option maxRecDepth 100000 in
theorem hw_1025 : Cond.methodLink RL 70 yX8_splitKey ∈ hk_all := hk_im (hk_t4 227 rfl) rfl
set_option maxRecDepth 100000 in
theorem hw_1029 : Cond.methodLink RL 74 yX8_load ∈ hk_all := hk_im (hk_t4 231 rfl) rfl
set_option maxRecDepth 100000 in
theorem hw_1033 : Cond.methodLink RL 78 yX8_small ∈ hk_all := hk_im (hk_t4 235 rfl) rfl
set_option maxRecDepth 100000 in
theorem hw_1037 : Cond.methodLink RL 82 yX8_copies ∈ hk_all := hk_im (hk_t4 239 rfl) rfl
set_option maxRecDepth 100000 in
theorem hw_1041 : Cond.methodLink RL 87 yX8_out ∈ hk_all := hk_im (hk_t5 3 rfl) rfl
set_option maxRecDepth 100000 in
theorem hw_1045 : Cond.methodLink RL 91 yX8_timer ∈ hk_all := hk_im (hk_t5 7 rfl) rfl
set_option maxRecDepth 100000 in
theorem hw_1050 : Cond.methodLink RL 95 yX8_tick ∈ hk_all := hk_im (hk_t5 12 rfl) rfl
set_option maxRecDepth 100000 in
theorem hw_1062 : Cond.methodLink RL 99 yX8_log ∈ hk_all := hk_im (hk_t5 24 rfl) rfl
set_option maxRecDepth 100000 in
theorem hw_1070 : Cond.methodLink RL 104 yX8_mark ∈ hk_all := hk_im (hk_t5 32 rfl) rfl
set_option maxRecDepth 100000 in
theorem hw_1074 : Cond.methodLink RL 108 yX8_restore ∈ hk_all := hk_im (hk_t5 36 rfl) rfl
set_option maxRecDepth 100000 in
theorem hw_1078 : Cond.methodLink RL 112 yX8_told ∈ hk_all := hk_im (hk_t5 40 rfl) rfl
set_option maxRecDepth 100000 in
theorem hw_1082 : Cond.methodLink RL 116 yX8_clear ∈ hk_all := hk_im (hk_t5 44 rfl) rfl
