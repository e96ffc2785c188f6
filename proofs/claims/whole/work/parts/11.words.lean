theorem hk_im {w : Cond} (h : w ∈ lw_tbl) (g : goodWord w = true) : w ∈ hk_all := List.mem_filter.mpr ⟨h, g⟩
theorem hk_nim {w : Cond} (h : w ∈ lw_tbl) (g : hk_isNest w = true) : w ∈ hk_nest := List.mem_filter.mpr ⟨h, g⟩
theorem hk_t0 {w : Cond} (i : Nat) (h : (k2_sels lw_privs)[i]? = some w) : w ∈ lw_tbl := List.mem_append_left _ (List.mem_of_getElem? h)
theorem hk_t1 {w : Cond} (i : Nat) (h : tables_1_1[i]? = some w) : w ∈ lw_tbl := List.mem_append_right _ (List.mem_append_left _ (List.mem_of_getElem? h))
theorem hk_t2 {w : Cond} (i : Nat) (h : tables_1_2[i]? = some w) : w ∈ lw_tbl := List.mem_append_right _ (List.mem_append_right _ (List.mem_append_left _ (List.mem_of_getElem? h)))
theorem hk_t3 {w : Cond} (i : Nat) (h : tables_1_3[i]? = some w) : w ∈ lw_tbl := List.mem_append_right _ (List.mem_append_right _ (List.mem_append_right _ (List.mem_append_left _ (List.mem_of_getElem? h))))
theorem hk_t4 {w : Cond} (i : Nat) (h : tables_1_4[i]? = some w) : w ∈ lw_tbl := List.mem_append_right _ (List.mem_append_right _ (List.mem_append_right _ (List.mem_append_right _ (List.mem_append_left _ (List.mem_of_getElem? h)))))
theorem hk_t5 {w : Cond} (i : Nat) (h : tables_1_5[i]? = some w) : w ∈ lw_tbl := List.mem_append_right _ (List.mem_append_right _ (List.mem_append_right _ (List.mem_append_right _ (List.mem_append_right _ (List.mem_of_getElem? h)))))
set_option maxRecDepth 100000 in
theorem hw_0 : Cond.selects RX7 yX7_begin yX7_begin ∈ hk_all := hk_im (hk_t0 0 rfl) rfl
set_option maxRecDepth 100000 in
theorem hw_1 : Cond.selects RX7 yX7_setShape yX7_setShape ∈ hk_all := hk_im (hk_t0 1 rfl) rfl
set_option maxRecDepth 100000 in
theorem hw_2 : Cond.selects RX2 yX2_forgetAll yX2_forgetAll ∈ hk_all := hk_im (hk_t0 2 rfl) rfl
set_option maxRecDepth 100000 in
theorem hw_3 : Cond.selects RX2 yX2_makeAllOne yX2_makeAllOne ∈ hk_all := hk_im (hk_t0 3 rfl) rfl
set_option maxRecDepth 100000 in
theorem hw_4 : Cond.selects RX5 yX5_forgetAll yX5_forgetAll ∈ hk_all := hk_im (hk_t0 4 rfl) rfl
set_option maxRecDepth 100000 in
theorem hw_5 : Cond.selects RX6 yX6_forgetAll yX6_forgetAll ∈ hk_all := hk_im (hk_t0 5 rfl) rfl
set_option maxRecDepth 100000 in
theorem hw_6 : Cond.selects RX7 yX7_beginWork yX7_beginWork ∈ hk_all := hk_im (hk_t0 6 rfl) rfl
set_option maxRecDepth 100000 in
theorem hw_7 : Cond.selects RX2 yX2_splitKeys yX2_splitKeys ∈ hk_all := hk_im (hk_t0 7 rfl) rfl
set_option maxRecDepth 100000 in
theorem hw_8 : Cond.selects RX2 yX2_isSplit yX2_isSplit ∈ hk_all := hk_im (hk_t0 8 rfl) rfl
set_option maxRecDepth 100000 in
theorem hw_9 : Cond.selects RX1 yX1_add yX1_add ∈ hk_all := hk_im (hk_t0 9 rfl) rfl
set_option maxRecDepth 100000 in
theorem hw_10 : Cond.selects RX2 yX2_startFold yX2_startFold ∈ hk_all := hk_im (hk_t0 10 rfl) rfl
set_option maxRecDepth 100000 in
theorem hw_11 : Cond.selects RX1 yX1_emptyState yX1_emptyState ∈ hk_all := hk_im (hk_t0 11 rfl) rfl
set_option maxRecDepth 100000 in
theorem hw_12 : Cond.selects RX2 yX2_partCount yX2_partCount ∈ hk_all := hk_im (hk_t0 12 rfl) rfl
set_option maxRecDepth 100000 in
theorem hw_13 : Cond.selects RX7 yX7_placeOfPart yX7_placeOfPart ∈ hk_all := hk_im (hk_t0 13 rfl) rfl
set_option maxRecDepth 100000 in
theorem hw_14 : Cond.selects RX2 yX2_take yX2_take ∈ hk_all := hk_im (hk_t0 14 rfl) rfl
set_option maxRecDepth 100000 in
theorem hw_15 : Cond.selects RX1 yX1_folded yX1_folded ∈ hk_all := hk_im (hk_t0 15 rfl) rfl
set_option maxRecDepth 100000 in
theorem hw_16 : Cond.selects RX5 yX5_meet yX5_meet ∈ hk_all := hk_im (hk_t0 16 rfl) rfl
set_option maxRecDepth 100000 in
theorem hw_17 : Cond.selects RX0 yX0_take yX0_take ∈ hk_all := hk_im (hk_t0 17 rfl) rfl
set_option maxRecDepth 100000 in
theorem hw_18 : Cond.selects RX0 yX0_find yX0_find ∈ hk_all := hk_im (hk_t0 18 rfl) rfl
set_option maxRecDepth 100000 in
theorem hw_19 : Cond.selects RX0 yX0_put yX0_put ∈ hk_all := hk_im (hk_t0 19 rfl) rfl
set_option maxRecDepth 100000 in
theorem hw_20 : Cond.selects RX0 yX0_leastAt yX0_leastAt ∈ hk_all := hk_im (hk_t0 20 rfl) rfl
set_option maxRecDepth 100000 in
theorem hw_21 : Cond.selects RX7 yX7_endRound yX7_endRound ∈ hk_all := hk_im (hk_t0 21 rfl) rfl
set_option maxRecDepth 100000 in
theorem hw_22 : Cond.selects RX7 yX7_splitHotKeys yX7_splitHotKeys ∈ hk_all := hk_im (hk_t0 22 rfl) rfl
set_option maxRecDepth 100000 in
theorem hw_23 : Cond.selects RX0 yX0_keyAt yX0_keyAt ∈ hk_all := hk_im (hk_t0 23 rfl) rfl
set_option maxRecDepth 100000 in
theorem hw_24 : Cond.selects RX0 yX0_surelyAt yX0_surelyAt ∈ hk_all := hk_im (hk_t0 24 rfl) rfl
set_option maxRecDepth 100000 in
theorem hw_25 : Cond.selects RX0 yX0_countAt yX0_countAt ∈ hk_all := hk_im (hk_t0 25 rfl) rfl
set_option maxRecDepth 100000 in
theorem hw_26 : Cond.selects RX0 yX0_errorAt yX0_errorAt ∈ hk_all := hk_im (hk_t0 26 rfl) rfl
set_option maxRecDepth 100000 in
theorem hw_27 : Cond.selects RX1 yX1_allCanBeJoined yX1_allCanBeJoined ∈ hk_all := hk_im (hk_t0 27 rfl) rfl
set_option maxRecDepth 100000 in
theorem hw_28 : Cond.selects RX2 yX2_breakUp yX2_breakUp ∈ hk_all := hk_im (hk_t0 28 rfl) rfl
set_option maxRecDepth 100000 in
theorem hw_29 : Cond.selects RX2 yX2_emptyPart yX2_emptyPart ∈ hk_all := hk_im (hk_t0 29 rfl) rfl
set_option maxRecDepth 100000 in
theorem hw_30 : Cond.selects RX7 yX7_joinCoolKeys yX7_joinCoolKeys ∈ hk_all := hk_im (hk_t0 30 rfl) rfl
set_option maxRecDepth 100000 in
theorem hw_31 : Cond.selects RX0 yX0_atMost yX0_atMost ∈ hk_all := hk_im (hk_t0 31 rfl) rfl
set_option maxRecDepth 100000 in
theorem hw_32 : Cond.selects RX2 yX2_bringBack yX2_bringBack ∈ hk_all := hk_im (hk_t0 32 rfl) rfl
set_option maxRecDepth 100000 in
theorem hw_33 : Cond.selects RX2 yX2_joinedState yX2_joinedState ∈ hk_all := hk_im (hk_t0 33 rfl) rfl
set_option maxRecDepth 100000 in
theorem hw_34 : Cond.selects RX1 yX1_joined yX1_joined ∈ hk_all := hk_im (hk_t0 34 rfl) rfl
set_option maxRecDepth 100000 in
theorem hw_35 : Cond.selects RX2 yX2_joinedLatestRow yX2_joinedLatestRow ∈ hk_all := hk_im (hk_t0 35 rfl) rfl
set_option maxRecDepth 100000 in
theorem hw_36 : Cond.selects RX7 yX7_isFold yX7_isFold ∈ hk_all := hk_im (hk_t0 36 rfl) rfl
set_option maxRecDepth 100000 in
theorem hw_37 : Cond.selects RX2 yX2_hasPart yX2_hasPart ∈ hk_all := hk_im (hk_t0 37 rfl) rfl
set_option maxRecDepth 100000 in
theorem hw_38 : Cond.selects RX2 yX2_partState yX2_partState ∈ hk_all := hk_im (hk_t0 38 rfl) rfl
set_option maxRecDepth 100000 in
theorem hw_39 : Cond.selects RX0 yX0_atLeast yX0_atLeast ∈ hk_all := hk_im (hk_t0 39 rfl) rfl
set_option maxRecDepth 100000 in
theorem hw_40 : Cond.selects RX7 yX7_isPlace yX7_isPlace ∈ hk_all := hk_im (hk_t0 40 rfl) rfl
set_option maxRecDepth 100000 in
theorem hw_41 : Cond.selects RX5 yX5_add yX5_add ∈ hk_all := hk_im (hk_t0 41 rfl) rfl
set_option maxRecDepth 100000 in
theorem hw_42 : Cond.selects RX7 yX7_hasPartAt yX7_hasPartAt ∈ hk_all := hk_im (hk_t0 42 rfl) rfl
set_option maxRecDepth 100000 in
theorem hw_43 : Cond.selects RX6 yX6_add yX6_add ∈ hk_all := hk_im (hk_t0 43 rfl) rfl
set_option maxRecDepth 100000 in
theorem hw_44 : Cond.selects RX6 yX6_dueAt yX6_dueAt ∈ hk_all := hk_im (hk_t0 44 rfl) rfl
set_option maxRecDepth 100000 in
theorem hw_45 : Cond.selects RX7 yX7_ring yX7_ring ∈ hk_all := hk_im (hk_t0 45 rfl) rfl
set_option maxRecDepth 100000 in
theorem hw_46 : Cond.selects RX3 yX3_open yX3_open ∈ hk_all := hk_im (hk_t0 46 rfl) rfl
set_option maxRecDepth 100000 in
theorem hw_47 : Cond.selects RX3 yX3_write yX3_write ∈ hk_all := hk_im (hk_t0 47 rfl) rfl
set_option maxRecDepth 100000 in
theorem hw_48 : Cond.selects RX2 yX2_emptyKey yX2_emptyKey ∈ hk_all := hk_im (hk_t0 48 rfl) rfl
set_option maxRecDepth 100000 in
theorem hw_49 : Cond.selects RX6 yX6_dropFirst yX6_dropFirst ∈ hk_all := hk_im (hk_t0 49 rfl) rfl
set_option maxRecDepth 100000 in
theorem hw_50 : Cond.selects RX3 yX3_read yX3_read ∈ hk_all := hk_im (hk_t0 50 rfl) rfl
set_option maxRecDepth 100000 in
theorem hw_51 : Cond.selects RX5 yX5_copyFrom yX5_copyFrom ∈ hk_all := hk_im (hk_t0 51 rfl) rfl
set_option maxRecDepth 100000 in
theorem hw_52 : Cond.selects RX6 yX6_copyFrom yX6_copyFrom ∈ hk_all := hk_im (hk_t0 52 rfl) rfl
set_option maxRecDepth 100000 in
theorem hw_53 : Cond.selects RX2 yX2_holdIn yX2_holdIn ∈ hk_all := hk_im (hk_t0 53 rfl) rfl
set_option maxRecDepth 100000 in
theorem hw_54 : Cond.selects RX2 yX2_takeFrom yX2_takeFrom ∈ hk_all := hk_im (hk_t0 54 rfl) rfl
set_option maxRecDepth 100000 in
theorem hw_55 : Cond.selects RX8 yX8_begin yX8_begin ∈ hk_all := hk_im (hk_t0 55 rfl) rfl
set_option maxRecDepth 100000 in
theorem hw_56 : Cond.selects RX8 yX8_empty yX8_empty ∈ hk_all := hk_im (hk_t0 56 rfl) rfl
set_option maxRecDepth 100000 in
theorem hw_57 : Cond.selects RX8 yX8_slot yX8_slot ∈ hk_all := hk_im (hk_t0 57 rfl) rfl
set_option maxRecDepth 100000 in
theorem hw_58 : Cond.selects RX8 yX8_emptyOf yX8_emptyOf ∈ hk_all := hk_im (hk_t0 58 rfl) rfl
set_option maxRecDepth 100000 in
theorem hw_59 : Cond.selects RX8 yX8_freshRun yX8_freshRun ∈ hk_all := hk_im (hk_t0 59 rfl) rfl
set_option maxRecDepth 100000 in
theorem hw_60 : Cond.selects RX8 yX8_freshRound yX8_freshRound ∈ hk_all := hk_im (hk_t0 60 rfl) rfl
set_option maxRecDepth 100000 in
theorem hw_61 : Cond.selects RX8 yX8_splitKeys yX8_splitKeys ∈ hk_all := hk_im (hk_t0 61 rfl) rfl
set_option maxRecDepth 100000 in
theorem hw_62 : Cond.selects RX8 yX8_noKey yX8_noKey ∈ hk_all := hk_im (hk_t0 62 rfl) rfl
set_option maxRecDepth 100000 in
theorem hw_63 : Cond.selects RX8 yX8_partOfRow yX8_partOfRow ∈ hk_all := hk_im (hk_t0 63 rfl) rfl
set_option maxRecDepth 100000 in
theorem hw_64 : Cond.selects RX8 yX8_placeOf yX8_placeOf ∈ hk_all := hk_im (hk_t0 64 rfl) rfl
set_option maxRecDepth 100000 in
theorem hw_65 : Cond.selects RX8 yX8_home yX8_home ∈ hk_all := hk_im (hk_t0 65 rfl) rfl
set_option maxRecDepth 100000 in
theorem hw_66 : Cond.selects RX8 yX8_countKey yX8_countKey ∈ hk_all := hk_im (hk_t0 66 rfl) rfl
set_option maxRecDepth 100000 in
theorem hw_67 : Cond.selects RX8 yX8_counterOf yX8_counterOf ∈ hk_all := hk_im (hk_t0 67 rfl) rfl
set_option maxRecDepth 100000 in
theorem hw_68 : Cond.selects RX8 yX8_weakest yX8_weakest ∈ hk_all := hk_im (hk_t0 68 rfl) rfl
set_option maxRecDepth 100000 in
theorem hw_69 : Cond.selects RX8 yX8_endRound yX8_endRound ∈ hk_all := hk_im (hk_t0 69 rfl) rfl
set_option maxRecDepth 100000 in
theorem hw_70 : Cond.selects RX8 yX8_canSplit yX8_canSplit ∈ hk_all := hk_im (hk_t0 70 rfl) rfl
set_option maxRecDepth 100000 in
theorem hw_71 : Cond.selects RX8 yX8_makeParts yX8_makeParts ∈ hk_all := hk_im (hk_t0 71 rfl) rfl
set_option maxRecDepth 100000 in
theorem hw_72 : Cond.selects RX8 yX8_mostOf yX8_mostOf ∈ hk_all := hk_im (hk_t0 72 rfl) rfl
set_option maxRecDepth 100000 in
theorem hw_73 : Cond.selects RX8 yX8_joinBack yX8_joinBack ∈ hk_all := hk_im (hk_t0 73 rfl) rfl
set_option maxRecDepth 100000 in
theorem hw_74 : Cond.selects RX8 yX8_come yX8_come ∈ hk_all := hk_im (hk_t0 74 rfl) rfl
set_option maxRecDepth 100000 in
theorem hw_75 : Cond.selects RX8 yX8_due yX8_due ∈ hk_all := hk_im (hk_t0 75 rfl) rfl
set_option maxRecDepth 100000 in
theorem hw_76 : Cond.selects RX8 yX8_ring yX8_ring ∈ hk_all := hk_im (hk_t0 76 rfl) rfl
set_option maxRecDepth 100000 in
theorem hw_77 : Cond.selects RX8 yX8_keptLogs yX8_keptLogs ∈ hk_all := hk_im (hk_t0 77 rfl) rfl
set_option maxRecDepth 100000 in
theorem hw_79 : Cond.initialized RX7 ∈ hk_all := hk_im (hk_t1 1 rfl) rfl
set_option maxRecDepth 100000 in
theorem hw_80 : Cond.initialized RX1 ∈ hk_all := hk_im (hk_t1 2 rfl) rfl
set_option maxRecDepth 100000 in
theorem hw_81 : Cond.initialized RX2 ∈ hk_all := hk_im (hk_t1 3 rfl) rfl
set_option maxRecDepth 100000 in
theorem hw_82 : Cond.initialized RX0 ∈ hk_all := hk_im (hk_t1 4 rfl) rfl
set_option maxRecDepth 100000 in
theorem hw_83 : Cond.initialized RX5 ∈ hk_all := hk_im (hk_t1 5 rfl) rfl
set_option maxRecDepth 100000 in
theorem hw_84 : Cond.initialized RX6 ∈ hk_all := hk_im (hk_t1 6 rfl) rfl
set_option maxRecDepth 100000 in
theorem hw_85 : Cond.initialized RX3 ∈ hk_all := hk_im (hk_t1 7 rfl) rfl
set_option maxRecDepth 100000 in
theorem hw_86 : Cond.initialized RJ7 ∈ hk_all := hk_im (hk_t1 8 rfl) rfl
set_option maxRecDepth 100000 in
theorem hw_87 : Cond.initialized RX8 ∈ hk_all := hk_im (hk_t1 9 rfl) rfl
set_option maxRecDepth 100000 in
theorem hw_88 : Cond.initialized RJ9 ∈ hk_all := hk_im (hk_t1 10 rfl) rfl
set_option maxRecDepth 100000 in
theorem hw_89 : Cond.initialized RJ10 ∈ hk_all := hk_im (hk_t1 11 rfl) rfl
set_option maxRecDepth 100000 in
theorem hw_90 : Cond.initialized RX4 ∈ hk_all := hk_im (hk_t1 12 rfl) rfl
set_option maxRecDepth 100000 in
theorem hw_94 : Cond.instanceMethod yX7_init ∈ hk_all := hk_im (hk_t1 16 rfl) rfl
set_option maxRecDepth 100000 in
theorem hw_95 : Cond.code yX7_init cX7_init 1 none ∈ hk_all := hk_im (hk_t1 17 rfl) rfl
set_option maxRecDepth 100000 in
theorem hw_96 : Cond.methodLink RX7 3 objectInit ∈ hk_all := hk_im (hk_t1 18 rfl) rfl
set_option maxRecDepth 100000 in
theorem hw_97 : Cond.instanceMethod objectInit ∈ hk_all := hk_im (hk_t1 19 rfl) rfl
set_option maxRecDepth 100000 in
theorem hw_98 : Cond.code objectInit ⟨#[0xb1]⟩ 1 none ∈ hk_all := hk_im (hk_t1 20 rfl) rfl
set_option maxRecDepth 100000 in
theorem hw_99 : Cond.classLink RX7 9 RX1 ∈ hk_all := hk_im (hk_t1 21 rfl) rfl
set_option maxRecDepth 100000 in
theorem hw_100 : Cond.instantiable RX1 3 ∈ hk_all := hk_im (hk_t1 22 rfl) rfl
set_option maxRecDepth 100000 in
theorem hn_101 : Cond.methodLinkNest RX7 11 yX1_init RX7 ∈ hk_nest := hk_nim (hk_t1 23 rfl) rfl
set_option maxRecDepth 100000 in
theorem hw_102 : Cond.instanceMethod yX1_init ∈ hk_all := hk_im (hk_t1 24 rfl) rfl
set_option maxRecDepth 100000 in
theorem hw_103 : Cond.code yX1_init cX1_init 1 none ∈ hk_all := hk_im (hk_t1 25 rfl) rfl
set_option maxRecDepth 100000 in
theorem hw_104 : Cond.methodLink RX1 3 objectInit ∈ hk_all := hk_im (hk_t1 26 rfl) rfl
set_option maxRecDepth 100000 in
theorem hw_105 : Cond.fieldLink RX1 9 RX1 "kinds" "[I" ∈ hk_all := hk_im (hk_t1 27 rfl) rfl
set_option maxRecDepth 100000 in
theorem hw_106 : Cond.fieldLink RX1 15 RX1 "declared" "[Z" ∈ hk_all := hk_im (hk_t1 28 rfl) rfl
set_option maxRecDepth 100000 in
theorem hw_107 : Cond.fieldLink RX1 19 RX1 "count" "I" ∈ hk_all := hk_im (hk_t1 29 rfl) rfl
set_option maxRecDepth 100000 in
theorem hn_108 : Cond.fieldLinkNest RX7 88 RX1 "count" "I" RX7 ∈ hk_nest := hk_nim (hk_t1 30 rfl) rfl
set_option maxRecDepth 100000 in
theorem hn_109 : Cond.fieldLinkNest RX2 65 RX1 "count" "I" RX7 ∈ hk_nest := hk_nim (hk_t1 31 rfl) rfl
set_option maxRecDepth 100000 in
theorem hw_117 : Cond.arrayClass .int ∈ hk_all := hk_im (hk_t1 39 rfl) rfl
set_option maxRecDepth 100000 in
theorem hw_118 : Cond.arrayClass .boolean ∈ hk_all := hk_im (hk_t1 40 rfl) rfl
set_option maxRecDepth 100000 in
theorem hw_119 : Cond.classLink RX7 16 RX2 ∈ hk_all := hk_im (hk_t1 41 rfl) rfl
set_option maxRecDepth 100000 in
theorem hw_120 : Cond.instantiable RX2 6 ∈ hk_all := hk_im (hk_t1 42 rfl) rfl
set_option maxRecDepth 100000 in
theorem hn_121 : Cond.methodLinkNest RX7 18 yX2_init RX7 ∈ hk_nest := hk_nim (hk_t1 43 rfl) rfl
set_option maxRecDepth 100000 in
theorem hw_122 : Cond.instanceMethod yX2_init ∈ hk_all := hk_im (hk_t1 44 rfl) rfl
set_option maxRecDepth 100000 in
theorem hw_123 : Cond.code yX2_init cX2_init 2 none ∈ hk_all := hk_im (hk_t1 45 rfl) rfl
set_option maxRecDepth 100000 in
theorem hw_124 : Cond.methodLink RX2 3 objectInit ∈ hk_all := hk_im (hk_t1 46 rfl) rfl
set_option maxRecDepth 100000 in
theorem hw_125 : Cond.fieldLink RX2 25 RX2 "folds" "LHotKeys$Folds;" ∈ hk_all := hk_im (hk_t1 47 rfl) rfl
set_option maxRecDepth 100000 in
theorem hw_126 : Cond.fieldLink RX2 9 RX2 "partCounts" "[I" ∈ hk_all := hk_im (hk_t1 48 rfl) rfl
set_option maxRecDepth 100000 in
theorem hw_127 : Cond.fieldLink RX2 15 RX2 "states" "[J" ∈ hk_all := hk_im (hk_t1 49 rfl) rfl
set_option maxRecDepth 100000 in
theorem hw_128 : Cond.fieldLink RX2 19 RX2 "latestRows" "[I" ∈ hk_all := hk_im (hk_t1 50 rfl) rfl
set_option maxRecDepth 100000 in
theorem hw_129 : Cond.fieldLink RX2 22 RX2 "latestValues" "[J" ∈ hk_all := hk_im (hk_t1 51 rfl) rfl
set_option maxRecDepth 100000 in
theorem hw_130 : Cond.fieldLink RX2 43 RX2 "moved" "I" ∈ hk_all := hk_im (hk_t1 52 rfl) rfl
set_option maxRecDepth 100000 in
theorem hn_131 : Cond.fieldLinkNest RX7 264 RX2 "moved" "I" RX7 ∈ hk_nest := hk_nim (hk_t1 53 rfl) rfl
set_option maxRecDepth 100000 in
theorem hw_145 : Cond.arrayClass .long ∈ hk_all := hk_im (hk_t1 67 rfl) rfl
set_option maxRecDepth 100000 in
theorem hw_146 : Cond.classLink RX7 25 RX0 ∈ hk_all := hk_im (hk_t1 68 rfl) rfl
set_option maxRecDepth 100000 in
theorem hw_147 : Cond.instantiable RX0 5 ∈ hk_all := hk_im (hk_t1 69 rfl) rfl
set_option maxRecDepth 100000 in
theorem hn_148 : Cond.methodLinkNest RX7 27 yX0_init RX7 ∈ hk_nest := hk_nim (hk_t1 70 rfl) rfl
set_option maxRecDepth 100000 in
theorem hw_149 : Cond.instanceMethod yX0_init ∈ hk_all := hk_im (hk_t1 71 rfl) rfl
set_option maxRecDepth 100000 in
theorem hw_150 : Cond.code yX0_init cX0_init 1 none ∈ hk_all := hk_im (hk_t1 72 rfl) rfl
set_option maxRecDepth 100000 in
theorem hw_151 : Cond.methodLink RX0 3 objectInit ∈ hk_all := hk_im (hk_t1 73 rfl) rfl
set_option maxRecDepth 100000 in
theorem hw_152 : Cond.fieldLink RX0 9 RX0 "keys" "[I" ∈ hk_all := hk_im (hk_t1 74 rfl) rfl
set_option maxRecDepth 100000 in
theorem hw_153 : Cond.fieldLink RX0 15 RX0 "counts" "[I" ∈ hk_all := hk_im (hk_t1 75 rfl) rfl
set_option maxRecDepth 100000 in
theorem hw_154 : Cond.fieldLink RX0 18 RX0 "errors" "[I" ∈ hk_all := hk_im (hk_t1 76 rfl) rfl
set_option maxRecDepth 100000 in
theorem hw_155 : Cond.fieldLink RX0 29 RX0 "limit" "I" ∈ hk_all := hk_im (hk_t1 77 rfl) rfl
set_option maxRecDepth 100000 in
theorem hn_156 : Cond.fieldLinkNest RX7 169 RX0 "limit" "I" RX7 ∈ hk_nest := hk_nim (hk_t1 78 rfl) rfl
set_option maxRecDepth 100000 in
theorem hw_157 : Cond.fieldLink RX0 25 RX0 "used" "I" ∈ hk_all := hk_im (hk_t1 79 rfl) rfl
set_option maxRecDepth 100000 in
theorem hn_158 : Cond.fieldLinkNest RX7 272 RX0 "used" "I" RX7 ∈ hk_nest := hk_nim (hk_t1 80 rfl) rfl
set_option maxRecDepth 100000 in
theorem hw_170 : Cond.classLink RX7 32 RX5 ∈ hk_all := hk_im (hk_t1 92 rfl) rfl
set_option maxRecDepth 100000 in
theorem hw_171 : Cond.instantiable RX5 5 ∈ hk_all := hk_im (hk_t1 93 rfl) rfl
set_option maxRecDepth 100000 in
theorem hn_172 : Cond.methodLinkNest RX7 34 yX5_init RX7 ∈ hk_nest := hk_nim (hk_t1 94 rfl) rfl
set_option maxRecDepth 100000 in
theorem hw_173 : Cond.instanceMethod yX5_init ∈ hk_all := hk_im (hk_t1 95 rfl) rfl
set_option maxRecDepth 100000 in
theorem hw_174 : Cond.code yX5_init cX5_init 1 none ∈ hk_all := hk_im (hk_t1 96 rfl) rfl
set_option maxRecDepth 100000 in
theorem hw_175 : Cond.methodLink RX5 3 objectInit ∈ hk_all := hk_im (hk_t1 97 rfl) rfl
set_option maxRecDepth 100000 in
theorem hw_176 : Cond.fieldLink RX5 9 RX5 "keys" "[I" ∈ hk_all := hk_im (hk_t1 98 rfl) rfl
set_option maxRecDepth 100000 in
theorem hn_177 : Cond.fieldLinkNest RX7 196 RX5 "keys" "[I" RX7 ∈ hk_nest := hk_nim (hk_t1 99 rfl) rfl
set_option maxRecDepth 100000 in
theorem hw_178 : Cond.fieldLink RX5 15 RX5 "weights" "[I" ∈ hk_all := hk_im (hk_t1 100 rfl) rfl
set_option maxRecDepth 100000 in
theorem hw_179 : Cond.fieldLink RX5 18 RX5 "count" "I" ∈ hk_all := hk_im (hk_t1 101 rfl) rfl
set_option maxRecDepth 100000 in
theorem hn_180 : Cond.fieldLinkNest RX7 193 RX5 "count" "I" RX7 ∈ hk_nest := hk_nim (hk_t1 102 rfl) rfl
set_option maxRecDepth 100000 in
theorem hw_181 : Cond.fieldLink RX5 22 RX5 "matches" "I" ∈ hk_all := hk_im (hk_t1 103 rfl) rfl
set_option maxRecDepth 100000 in
theorem hn_182 : Cond.fieldLinkNest RX7 261 RX5 "matches" "I" RX7 ∈ hk_nest := hk_nim (hk_t1 104 rfl) rfl
set_option maxRecDepth 100000 in
theorem hw_183 : Cond.fieldLink RX5 25 RX5 "out" "J" ∈ hk_all := hk_im (hk_t1 105 rfl) rfl
set_option maxRecDepth 100000 in
theorem hn_184 : Cond.fieldLinkNest RX7 202 RX5 "out" "J" RX7 ∈ hk_nest := hk_nim (hk_t1 106 rfl) rfl
set_option maxRecDepth 100000 in
theorem hw_196 : Cond.classLink RX7 39 RX6 ∈ hk_all := hk_im (hk_t1 118 rfl) rfl
set_option maxRecDepth 100000 in
theorem hw_197 : Cond.instantiable RX6 4 ∈ hk_all := hk_im (hk_t1 119 rfl) rfl
set_option maxRecDepth 100000 in
theorem hn_198 : Cond.methodLinkNest RX7 41 yX6_init RX7 ∈ hk_nest := hk_nim (hk_t1 120 rfl) rfl
set_option maxRecDepth 100000 in
theorem hw_199 : Cond.instanceMethod yX6_init ∈ hk_all := hk_im (hk_t1 121 rfl) rfl
set_option maxRecDepth 100000 in
theorem hw_200 : Cond.code yX6_init cX6_init 1 none ∈ hk_all := hk_im (hk_t1 122 rfl) rfl
set_option maxRecDepth 100000 in
theorem hw_201 : Cond.methodLink RX6 3 objectInit ∈ hk_all := hk_im (hk_t1 123 rfl) rfl
set_option maxRecDepth 100000 in
theorem hw_202 : Cond.fieldLink RX6 9 RX6 "keys" "[I" ∈ hk_all := hk_im (hk_t1 124 rfl) rfl
set_option maxRecDepth 100000 in
theorem hn_203 : Cond.fieldLinkNest RX7 215 RX6 "keys" "[I" RX7 ∈ hk_nest := hk_nim (hk_t1 125 rfl) rfl
set_option maxRecDepth 100000 in
theorem hw_204 : Cond.fieldLink RX6 15 RX6 "times" "[I" ∈ hk_all := hk_im (hk_t1 126 rfl) rfl
set_option maxRecDepth 100000 in
theorem hn_205 : Cond.fieldLinkNest RX7 216 RX6 "times" "[I" RX7 ∈ hk_nest := hk_nim (hk_t1 127 rfl) rfl
set_option maxRecDepth 100000 in
theorem hw_206 : Cond.fieldLink RX6 18 RX6 "count" "I" ∈ hk_all := hk_im (hk_t1 128 rfl) rfl
set_option maxRecDepth 100000 in
theorem hn_207 : Cond.fieldLinkNest RX7 210 RX6 "count" "I" RX7 ∈ hk_nest := hk_nim (hk_t1 129 rfl) rfl
set_option maxRecDepth 100000 in
theorem hw_208 : Cond.fieldLink RX6 22 RX6 "now" "I" ∈ hk_all := hk_im (hk_t1 130 rfl) rfl
set_option maxRecDepth 100000 in
theorem hn_209 : Cond.fieldLinkNest RX7 206 RX6 "now" "I" RX7 ∈ hk_nest := hk_nim (hk_t1 131 rfl) rfl
set_option maxRecDepth 100000 in
theorem hw_219 : Cond.classLink RX7 46 RX3 ∈ hk_all := hk_im (hk_t1 141 rfl) rfl
set_option maxRecDepth 100000 in
theorem hw_220 : Cond.instantiable RX3 3 ∈ hk_all := hk_im (hk_t1 142 rfl) rfl
set_option maxRecDepth 100000 in
theorem hn_221 : Cond.methodLinkNest RX7 48 yX3_init RX7 ∈ hk_nest := hk_nim (hk_t1 143 rfl) rfl
set_option maxRecDepth 100000 in
theorem hw_222 : Cond.instanceMethod yX3_init ∈ hk_all := hk_im (hk_t1 144 rfl) rfl
set_option maxRecDepth 100000 in
theorem hw_223 : Cond.code yX3_init cX3_init 1 none ∈ hk_all := hk_im (hk_t1 145 rfl) rfl
set_option maxRecDepth 100000 in
theorem hw_224 : Cond.methodLink RX3 3 objectInit ∈ hk_all := hk_im (hk_t1 146 rfl) rfl
set_option maxRecDepth 100000 in
theorem hw_225 : Cond.fieldLink RX3 9 RX3 "cells" "[J" ∈ hk_all := hk_im (hk_t1 147 rfl) rfl
set_option maxRecDepth 100000 in
theorem hw_226 : Cond.fieldLink RX3 15 RX3 "newest" "I" ∈ hk_all := hk_im (hk_t1 148 rfl) rfl
set_option maxRecDepth 100000 in
theorem hw_227 : Cond.fieldLink RX3 19 RX3 "kept" "I" ∈ hk_all := hk_im (hk_t1 149 rfl) rfl
set_option maxRecDepth 100000 in
theorem hn_228 : Cond.fieldLinkNest RX7 225 RX3 "kept" "I" RX7 ∈ hk_nest := hk_nim (hk_t1 150 rfl) rfl
set_option maxRecDepth 100000 in
theorem hw_236 : Cond.classLink RX7 53 RX4 ∈ hk_all := hk_im (hk_t1 158 rfl) rfl
set_option maxRecDepth 100000 in
theorem hw_238 : Cond.methodLink RX7 63 yX7_begin ∈ hk_all := hk_im (hk_t1 160 rfl) rfl
set_option maxRecDepth 100000 in
theorem hw_240 : Cond.instanceMethod yX7_begin ∈ hk_all := hk_im (hk_t1 162 rfl) rfl
set_option maxRecDepth 100000 in
theorem hw_241 : Cond.code yX7_begin cX7_begin 1 none ∈ hk_all := hk_im (hk_t1 163 rfl) rfl
set_option maxRecDepth 100000 in
theorem hw_242 : Cond.methodLink RX7 74 yX7_setShape ∈ hk_all := hk_im (hk_t1 164 rfl) rfl
set_option maxRecDepth 100000 in
theorem hw_244 : Cond.instanceMethod yX7_setShape ∈ hk_all := hk_im (hk_t1 166 rfl) rfl
set_option maxRecDepth 100000 in
theorem hw_245 : Cond.code yX7_setShape cX7_setShape 6 none ∈ hk_all := hk_im (hk_t1 167 rfl) rfl
set_option maxRecDepth 100000 in
theorem hn_246 : Cond.methodLinkNest RX7 267 yX2_forgetAll RX7 ∈ hk_nest := hk_nim (hk_t1 168 rfl) rfl
set_option maxRecDepth 100000 in
theorem hw_248 : Cond.instanceMethod yX2_forgetAll ∈ hk_all := hk_im (hk_t1 170 rfl) rfl
set_option maxRecDepth 100000 in
theorem hw_249 : Cond.code yX2_forgetAll cX2_forgetAll 1 none ∈ hk_all := hk_im (hk_t1 171 rfl) rfl
set_option maxRecDepth 100000 in
theorem hw_250 : Cond.methodLink RX2 29 yX2_makeAllOne ∈ hk_all := hk_im (hk_t1 172 rfl) rfl
set_option maxRecDepth 100000 in
theorem hw_252 : Cond.instanceMethod yX2_makeAllOne ∈ hk_all := hk_im (hk_t1 174 rfl) rfl
set_option maxRecDepth 100000 in
theorem hw_253 : Cond.code yX2_makeAllOne cX2_makeAllOne 1 none ∈ hk_all := hk_im (hk_t1 175 rfl) rfl
set_option maxRecDepth 100000 in
theorem hw_254 : Cond.methodLink RX2 32 yJ7_fill_53178 ∈ hk_all := hk_im (hk_t1 176 rfl) rfl
set_option maxRecDepth 100000 in
theorem hw_255 : Cond.static yJ7_fill_53178 ∈ hk_all := hk_im (hk_t1 177 rfl) rfl
set_option maxRecDepth 100000 in
theorem hw_256 : Cond.code yJ7_fill_53178 cJ7_fill_53178 4 none ∈ hk_all := hk_im (hk_t1 178 rfl) rfl
set_option maxRecDepth 100000 in
theorem hw_257 : Cond.constantLong RX2 38 (-4000000000000) ∈ hk_all := hk_im (hk_t1 179 rfl) rfl
set_option maxRecDepth 100000 in
theorem hw_258 : Cond.methodLink RX2 40 yJ7_fill_d0a16 ∈ hk_all := hk_im (hk_t1 180 rfl) rfl
set_option maxRecDepth 100000 in
theorem hw_259 : Cond.static yJ7_fill_d0a16 ∈ hk_all := hk_im (hk_t1 181 rfl) rfl
set_option maxRecDepth 100000 in
theorem hw_260 : Cond.code yJ7_fill_d0a16 cJ7_fill_d0a16 5 none ∈ hk_all := hk_im (hk_t1 182 rfl) rfl
set_option maxRecDepth 100000 in
theorem hn_261 : Cond.methodLinkNest RX7 270 yX5_forgetAll RX7 ∈ hk_nest := hk_nim (hk_t1 183 rfl) rfl
set_option maxRecDepth 100000 in
theorem hw_263 : Cond.instanceMethod yX5_forgetAll ∈ hk_all := hk_im (hk_t1 185 rfl) rfl
set_option maxRecDepth 100000 in
theorem hw_264 : Cond.code yX5_forgetAll cX5_forgetAll 1 none ∈ hk_all := hk_im (hk_t1 186 rfl) rfl
set_option maxRecDepth 100000 in
theorem hn_265 : Cond.methodLinkNest RX7 271 yX6_forgetAll RX7 ∈ hk_nest := hk_nim (hk_t1 187 rfl) rfl
set_option maxRecDepth 100000 in
theorem hw_267 : Cond.instanceMethod yX6_forgetAll ∈ hk_all := hk_im (hk_t1 189 rfl) rfl
set_option maxRecDepth 100000 in
theorem hw_268 : Cond.code yX6_forgetAll cX6_forgetAll 1 none ∈ hk_all := hk_im (hk_t1 190 rfl) rfl
set_option maxRecDepth 100000 in
theorem hw_269 : Cond.methodLink RX7 249 yX7_beginWork ∈ hk_all := hk_im (hk_t1 191 rfl) rfl
set_option maxRecDepth 100000 in
theorem hw_271 : Cond.instanceMethod yX7_beginWork ∈ hk_all := hk_im (hk_t1 193 rfl) rfl
set_option maxRecDepth 100000 in
theorem hw_272 : Cond.code yX7_beginWork cX7_beginWork 1 none ∈ hk_all := hk_im (hk_t1 194 rfl) rfl
set_option maxRecDepth 100000 in
theorem hw_273 : Cond.methodLink RX7 275 yJ7_fill_53178 ∈ hk_all := hk_im (hk_t1 195 rfl) rfl
set_option maxRecDepth 100000 in
theorem hw_274 : Cond.fieldLink RX7 150 RX7 "places" "I" ∈ hk_all := hk_im (hk_t1 196 rfl) rfl
set_option maxRecDepth 100000 in
theorem hw_275 : Cond.fieldLink RX7 127 RX7 "round" "I" ∈ hk_all := hk_im (hk_t1 197 rfl) rfl
set_option maxRecDepth 100000 in
theorem hw_276 : Cond.fieldLink RX7 184 RX7 "threshold" "I" ∈ hk_all := hk_im (hk_t1 198 rfl) rfl
set_option maxRecDepth 100000 in
theorem hw_277 : Cond.fieldLink RX7 281 RX7 "slack" "I" ∈ hk_all := hk_im (hk_t1 199 rfl) rfl
set_option maxRecDepth 100000 in
theorem hw_278 : Cond.fieldLink RX7 12 RX7 "folds" "LHotKeys$Folds;" ∈ hk_all := hk_im (hk_t1 200 rfl) rfl
set_option maxRecDepth 100000 in
theorem hw_279 : Cond.fieldLink RX7 21 RX7 "keyStates" "LHotKeys$KeyStates;" ∈ hk_all := hk_im (hk_t1 201 rfl) rfl
set_option maxRecDepth 100000 in
theorem hw_280 : Cond.fieldLink RX7 28 RX7 "counters" "LHotKeys$Counters;" ∈ hk_all := hk_im (hk_t1 202 rfl) rfl
set_option maxRecDepth 100000 in
theorem hw_281 : Cond.fieldLink RX7 35 RX7 "smalls" "LHotKeys$Smalls;" ∈ hk_all := hk_im (hk_t1 203 rfl) rfl
set_option maxRecDepth 100000 in
theorem hw_282 : Cond.fieldLink RX7 42 RX7 "timers" "LHotKeys$Timers;" ∈ hk_all := hk_im (hk_t1 204 rfl) rfl
set_option maxRecDepth 100000 in
theorem hw_283 : Cond.fieldLink RX7 49 RX7 "log" "LHotKeys$Log;" ∈ hk_all := hk_im (hk_t1 205 rfl) rfl
set_option maxRecDepth 100000 in
theorem hw_284 : Cond.fieldLink RX7 55 RX7 "marks" "[LHotKeys$Mark;" ∈ hk_all := hk_im (hk_t1 206 rfl) rfl
set_option maxRecDepth 100000 in
theorem hw_285 : Cond.fieldLink RX7 59 RX7 "loads" "[I" ∈ hk_all := hk_im (hk_t1 207 rfl) rfl
set_option maxRecDepth 100000 in
theorem hw_286 : Cond.fieldLink RX7 81 RX7 "markCount" "I" ∈ hk_all := hk_im (hk_t1 208 rfl) rfl
set_option maxRecDepth 100000 in
theorem hw_287 : Cond.fieldLink RX7 70 RX7 "rows" "I" ∈ hk_all := hk_im (hk_t1 209 rfl) rfl
set_option maxRecDepth 100000 in
theorem hw_288 : Cond.fieldLink RX7 122 RX7 "roundRows" "I" ∈ hk_all := hk_im (hk_t1 210 rfl) rfl
set_option maxRecDepth 100000 in
theorem hw_289 : Cond.fieldLink RX7 252 RX7 "rounds" "I" ∈ hk_all := hk_im (hk_t1 211 rfl) rfl
set_option maxRecDepth 100000 in
theorem hw_290 : Cond.fieldLink RX7 255 RX7 "flips" "I" ∈ hk_all := hk_im (hk_t1 212 rfl) rfl
set_option maxRecDepth 100000 in
theorem hw_291 : Cond.fieldLink RX7 258 RX7 "passedOver" "I" ∈ hk_all := hk_im (hk_t1 213 rfl) rfl
set_option maxRecDepth 100000 in
theorem hw_330 : Cond.instanceMethod yX7_shape ∈ hk_all := hk_im (hk_t2 12 rfl) rfl
set_option maxRecDepth 100000 in
theorem hw_331 : Cond.selects RX7 yX7_shape yX7_shape ∈ hk_all := hk_im (hk_t2 13 rfl) rfl
set_option maxRecDepth 100000 in
theorem hw_332 : Cond.code yX7_shape cX7_shape 6 (some .int) ∈ hk_all := hk_im (hk_t2 14 rfl) rfl
set_option maxRecDepth 100000 in
theorem hw_333 : Cond.methodLink RX7 66 yX7_isWithin ∈ hk_all := hk_im (hk_t2 15 rfl) rfl
set_option maxRecDepth 100000 in
theorem hw_334 : Cond.static yX7_isWithin ∈ hk_all := hk_im (hk_t2 16 rfl) rfl
set_option maxRecDepth 100000 in
theorem hw_335 : Cond.code yX7_isWithin cX7_isWithin 3 (some .boolean) ∈ hk_all := hk_im (hk_t2 17 rfl) rfl
set_option maxRecDepth 100000 in
theorem hn_336 : Cond.methodLinkNest RX7 78 yX2_makeAllOne RX7 ∈ hk_nest := hk_nim (hk_t2 18 rfl) rfl
set_option maxRecDepth 100000 in
theorem hw_338 : Cond.instanceMethod yX7_fold ∈ hk_all := hk_im (hk_t2 20 rfl) rfl
set_option maxRecDepth 100000 in
theorem hw_339 : Cond.selects RX7 yX7_fold yX7_fold ∈ hk_all := hk_im (hk_t2 21 rfl) rfl
set_option maxRecDepth 100000 in
theorem hw_340 : Cond.code yX7_fold cX7_fold 4 (some .int) ∈ hk_all := hk_im (hk_t2 22 rfl) rfl
set_option maxRecDepth 100000 in
theorem hn_341 : Cond.methodLinkNest RX7 84 yX2_splitKeys RX7 ∈ hk_nest := hk_nim (hk_t2 23 rfl) rfl
set_option maxRecDepth 100000 in
theorem hw_343 : Cond.instanceMethod yX2_splitKeys ∈ hk_all := hk_im (hk_t2 25 rfl) rfl
set_option maxRecDepth 100000 in
theorem hw_344 : Cond.code yX2_splitKeys cX2_splitKeys 3 (some .int) ∈ hk_all := hk_im (hk_t2 26 rfl) rfl
set_option maxRecDepth 100000 in
theorem hw_345 : Cond.methodLink RX2 61 yX2_isSplit ∈ hk_all := hk_im (hk_t2 27 rfl) rfl
set_option maxRecDepth 100000 in
theorem hw_347 : Cond.instanceMethod yX2_isSplit ∈ hk_all := hk_im (hk_t2 29 rfl) rfl
set_option maxRecDepth 100000 in
theorem hw_348 : Cond.code yX2_isSplit cX2_isSplit 2 (some .boolean) ∈ hk_all := hk_im (hk_t2 30 rfl) rfl
set_option maxRecDepth 100000 in
theorem hn_349 : Cond.methodLinkNest RX7 91 yX1_add RX7 ∈ hk_nest := hk_nim (hk_t2 31 rfl) rfl
set_option maxRecDepth 100000 in
theorem hw_351 : Cond.instanceMethod yX1_add ∈ hk_all := hk_im (hk_t2 33 rfl) rfl
set_option maxRecDepth 100000 in
theorem hw_352 : Cond.code yX1_add cX1_add 4 (some .int) ∈ hk_all := hk_im (hk_t2 34 rfl) rfl
set_option maxRecDepth 100000 in
theorem hn_353 : Cond.methodLinkNest RX7 95 yX2_startFold RX7 ∈ hk_nest := hk_nim (hk_t2 35 rfl) rfl
set_option maxRecDepth 100000 in
theorem hw_355 : Cond.instanceMethod yX2_startFold ∈ hk_all := hk_im (hk_t2 37 rfl) rfl
set_option maxRecDepth 100000 in
theorem hw_356 : Cond.code yX2_startFold cX2_startFold 3 none ∈ hk_all := hk_im (hk_t2 38 rfl) rfl
set_option maxRecDepth 100000 in
theorem hw_357 : Cond.methodLink RX2 47 yX2_cell ∈ hk_all := hk_im (hk_t2 39 rfl) rfl
set_option maxRecDepth 100000 in
theorem hw_358 : Cond.static yX2_cell ∈ hk_all := hk_im (hk_t2 40 rfl) rfl
set_option maxRecDepth 100000 in
theorem hw_359 : Cond.code yX2_cell cX2_cell 3 (some .int) ∈ hk_all := hk_im (hk_t2 41 rfl) rfl
set_option maxRecDepth 100000 in
theorem hn_360 : Cond.methodLinkNest RX2 51 yX1_emptyState RX7 ∈ hk_nest := hk_nim (hk_t2 42 rfl) rfl
set_option maxRecDepth 100000 in
theorem hw_362 : Cond.instanceMethod yX1_emptyState ∈ hk_all := hk_im (hk_t2 44 rfl) rfl
set_option maxRecDepth 100000 in
theorem hw_363 : Cond.code yX1_emptyState cX1_emptyState 2 (some .long) ∈ hk_all := hk_im (hk_t2 45 rfl) rfl
set_option maxRecDepth 100000 in
theorem hw_364 : Cond.constantLong RX1 23 (-4000000000000) ∈ hk_all := hk_im (hk_t2 46 rfl) rfl
set_option maxRecDepth 100000 in
theorem hw_365 : Cond.constantLong RX1 25 7 ∈ hk_all := hk_im (hk_t2 47 rfl) rfl
set_option maxRecDepth 100000 in
theorem hw_367 : Cond.instanceMethod yX7_row ∈ hk_all := hk_im (hk_t2 49 rfl) rfl
set_option maxRecDepth 100000 in
theorem hw_368 : Cond.selects RX7 yX7_row yX7_row ∈ hk_all := hk_im (hk_t2 50 rfl) rfl
set_option maxRecDepth 100000 in
theorem hw_369 : Cond.code yX7_row cX7_row 5 (some .int) ∈ hk_all := hk_im (hk_t2 51 rfl) rfl
set_option maxRecDepth 100000 in
theorem hw_370 : Cond.methodLink RX7 99 yX7_isKey ∈ hk_all := hk_im (hk_t2 52 rfl) rfl
set_option maxRecDepth 100000 in
theorem hw_371 : Cond.static yX7_isKey ∈ hk_all := hk_im (hk_t2 53 rfl) rfl
set_option maxRecDepth 100000 in
theorem hw_372 : Cond.code yX7_isKey cX7_isKey 1 (some .boolean) ∈ hk_all := hk_im (hk_t2 54 rfl) rfl
set_option maxRecDepth 100000 in
theorem hn_373 : Cond.methodLinkNest RX7 103 yX2_partCount RX7 ∈ hk_nest := hk_nim (hk_t2 55 rfl) rfl
set_option maxRecDepth 100000 in
theorem hw_375 : Cond.instanceMethod yX2_partCount ∈ hk_all := hk_im (hk_t2 57 rfl) rfl
set_option maxRecDepth 100000 in
theorem hw_376 : Cond.code yX2_partCount cX2_partCount 2 (some .int) ∈ hk_all := hk_im (hk_t2 58 rfl) rfl
set_option maxRecDepth 100000 in
theorem hw_377 : Cond.methodLink RX7 107 yX7_partOfRow ∈ hk_all := hk_im (hk_t2 59 rfl) rfl
set_option maxRecDepth 100000 in
theorem hw_378 : Cond.static yX7_partOfRow ∈ hk_all := hk_im (hk_t2 60 rfl) rfl
set_option maxRecDepth 100000 in
theorem hw_379 : Cond.code yX7_partOfRow cX7_partOfRow 2 (some .int) ∈ hk_all := hk_im (hk_t2 61 rfl) rfl
set_option maxRecDepth 100000 in
theorem hw_380 : Cond.constant RX7 284 (-1640531535) ∈ hk_all := hk_im (hk_t2 62 rfl) rfl
set_option maxRecDepth 100000 in
theorem hw_381 : Cond.methodLink RX7 285 yX7_remainder ∈ hk_all := hk_im (hk_t2 63 rfl) rfl
set_option maxRecDepth 100000 in
theorem hw_382 : Cond.static yX7_remainder ∈ hk_all := hk_im (hk_t2 64 rfl) rfl
set_option maxRecDepth 100000 in
theorem hw_383 : Cond.code yX7_remainder cX7_remainder 2 (some .int) ∈ hk_all := hk_im (hk_t2 65 rfl) rfl
set_option maxRecDepth 100000 in
theorem hw_384 : Cond.methodLink RX7 111 yX7_placeOfPart ∈ hk_all := hk_im (hk_t2 66 rfl) rfl
set_option maxRecDepth 100000 in
theorem hw_386 : Cond.instanceMethod yX7_placeOfPart ∈ hk_all := hk_im (hk_t2 68 rfl) rfl
set_option maxRecDepth 100000 in
theorem hw_387 : Cond.code yX7_placeOfPart cX7_placeOfPart 3 (some .int) ∈ hk_all := hk_im (hk_t2 69 rfl) rfl
set_option maxRecDepth 100000 in
theorem hn_388 : Cond.methodLinkNest RX7 114 yX2_take RX7 ∈ hk_nest := hk_nim (hk_t2 70 rfl) rfl
set_option maxRecDepth 100000 in
theorem hw_390 : Cond.instanceMethod yX2_take ∈ hk_all := hk_im (hk_t2 72 rfl) rfl
set_option maxRecDepth 100000 in
theorem hw_391 : Cond.code yX2_take cX2_take 7 none ∈ hk_all := hk_im (hk_t2 73 rfl) rfl
set_option maxRecDepth 100000 in
theorem hn_392 : Cond.methodLinkNest RX2 68 yX1_folded RX7 ∈ hk_nest := hk_nim (hk_t2 74 rfl) rfl
set_option maxRecDepth 100000 in
theorem hw_394 : Cond.instanceMethod yX1_folded ∈ hk_all := hk_im (hk_t2 76 rfl) rfl
set_option maxRecDepth 100000 in
theorem hw_395 : Cond.code yX1_folded cX1_folded 7 (some .long) ∈ hk_all := hk_im (hk_t2 77 rfl) rfl
set_option maxRecDepth 100000 in
theorem hw_396 : Cond.methodLink RX1 27 yJ9_min_f86c9 ∈ hk_all := hk_im (hk_t2 78 rfl) rfl
set_option maxRecDepth 100000 in
theorem hw_397 : Cond.static yJ9_min_f86c9 ∈ hk_all := hk_im (hk_t2 79 rfl) rfl
set_option maxRecDepth 100000 in
theorem hw_398 : Cond.code yJ9_min_f86c9 cJ9_min_f86c9 4 (some .long) ∈ hk_all := hk_im (hk_t2 80 rfl) rfl
set_option maxRecDepth 100000 in
theorem hw_399 : Cond.methodLink RX1 33 yJ9_max_f86c9 ∈ hk_all := hk_im (hk_t2 81 rfl) rfl
set_option maxRecDepth 100000 in
theorem hw_400 : Cond.static yJ9_max_f86c9 ∈ hk_all := hk_im (hk_t2 82 rfl) rfl
set_option maxRecDepth 100000 in
theorem hw_401 : Cond.code yJ9_max_f86c9 cJ9_max_f86c9 4 (some .long) ∈ hk_all := hk_im (hk_t2 83 rfl) rfl
set_option maxRecDepth 100000 in
theorem hw_402 : Cond.methodLink RX2 72 yX2_slot ∈ hk_all := hk_im (hk_t2 84 rfl) rfl
set_option maxRecDepth 100000 in
theorem hw_403 : Cond.static yX2_slot ∈ hk_all := hk_im (hk_t2 85 rfl) rfl
set_option maxRecDepth 100000 in
theorem hw_404 : Cond.code yX2_slot cX2_slot 2 (some .int) ∈ hk_all := hk_im (hk_t2 86 rfl) rfl
set_option maxRecDepth 100000 in
theorem hn_405 : Cond.methodLinkNest RX7 118 yX5_meet RX7 ∈ hk_nest := hk_nim (hk_t2 87 rfl) rfl
set_option maxRecDepth 100000 in
theorem hw_407 : Cond.instanceMethod yX5_meet ∈ hk_all := hk_im (hk_t2 89 rfl) rfl
set_option maxRecDepth 100000 in
theorem hw_408 : Cond.code yX5_meet cX5_meet 4 none ∈ hk_all := hk_im (hk_t2 90 rfl) rfl
set_option maxRecDepth 100000 in
theorem hn_409 : Cond.methodLinkNest RX7 125 yX0_take RX7 ∈ hk_nest := hk_nim (hk_t2 91 rfl) rfl
set_option maxRecDepth 100000 in
theorem hw_411 : Cond.instanceMethod yX0_take ∈ hk_all := hk_im (hk_t2 93 rfl) rfl
set_option maxRecDepth 100000 in
theorem hw_412 : Cond.code yX0_take cX0_take 4 none ∈ hk_all := hk_im (hk_t2 94 rfl) rfl
set_option maxRecDepth 100000 in
theorem hw_413 : Cond.methodLink RX0 21 yX0_find ∈ hk_all := hk_im (hk_t2 95 rfl) rfl
set_option maxRecDepth 100000 in
theorem hw_415 : Cond.instanceMethod yX0_find ∈ hk_all := hk_im (hk_t2 97 rfl) rfl
set_option maxRecDepth 100000 in
theorem hw_416 : Cond.code yX0_find cX0_find 3 (some .int) ∈ hk_all := hk_im (hk_t2 98 rfl) rfl
set_option maxRecDepth 100000 in
theorem hw_417 : Cond.methodLink RX0 32 yX0_put ∈ hk_all := hk_im (hk_t2 99 rfl) rfl
set_option maxRecDepth 100000 in
theorem hw_419 : Cond.instanceMethod yX0_put ∈ hk_all := hk_im (hk_t2 101 rfl) rfl
set_option maxRecDepth 100000 in
theorem hw_420 : Cond.code yX0_put cX0_put 4 none ∈ hk_all := hk_im (hk_t2 102 rfl) rfl
set_option maxRecDepth 100000 in
theorem hw_421 : Cond.methodLink RX0 36 yX0_leastAt ∈ hk_all := hk_im (hk_t2 103 rfl) rfl
set_option maxRecDepth 100000 in
theorem hw_423 : Cond.instanceMethod yX0_leastAt ∈ hk_all := hk_im (hk_t2 105 rfl) rfl
set_option maxRecDepth 100000 in
theorem hw_424 : Cond.code yX0_leastAt cX0_leastAt 3 (some .int) ∈ hk_all := hk_im (hk_t2 106 rfl) rfl
set_option maxRecDepth 100000 in
theorem hw_425 : Cond.methodLink RX7 130 yX7_endRound ∈ hk_all := hk_im (hk_t2 107 rfl) rfl
set_option maxRecDepth 100000 in
theorem hw_427 : Cond.instanceMethod yX7_endRound ∈ hk_all := hk_im (hk_t2 109 rfl) rfl
set_option maxRecDepth 100000 in
theorem hw_428 : Cond.code yX7_endRound cX7_endRound 1 none ∈ hk_all := hk_im (hk_t2 110 rfl) rfl
set_option maxRecDepth 100000 in
theorem hw_429 : Cond.methodLink RX7 288 yX7_splitHotKeys ∈ hk_all := hk_im (hk_t2 111 rfl) rfl
set_option maxRecDepth 100000 in
theorem hw_431 : Cond.instanceMethod yX7_splitHotKeys ∈ hk_all := hk_im (hk_t2 113 rfl) rfl
set_option maxRecDepth 100000 in
theorem hw_432 : Cond.code yX7_splitHotKeys cX7_splitHotKeys 4 none ∈ hk_all := hk_im (hk_t2 114 rfl) rfl
set_option maxRecDepth 100000 in
theorem hn_433 : Cond.methodLinkNest RX7 172 yX0_keyAt RX7 ∈ hk_nest := hk_nim (hk_t2 115 rfl) rfl
set_option maxRecDepth 100000 in
theorem hw_435 : Cond.instanceMethod yX0_keyAt ∈ hk_all := hk_im (hk_t2 117 rfl) rfl
set_option maxRecDepth 100000 in
theorem hw_436 : Cond.code yX0_keyAt cX0_keyAt 2 (some .int) ∈ hk_all := hk_im (hk_t2 118 rfl) rfl
set_option maxRecDepth 100000 in
theorem hn_437 : Cond.methodLinkNest RX7 294 yX0_surelyAt RX7 ∈ hk_nest := hk_nim (hk_t2 119 rfl) rfl
set_option maxRecDepth 100000 in
theorem hw_439 : Cond.instanceMethod yX0_surelyAt ∈ hk_all := hk_im (hk_t2 121 rfl) rfl
set_option maxRecDepth 100000 in
theorem hw_440 : Cond.code yX0_surelyAt cX0_surelyAt 2 (some .int) ∈ hk_all := hk_im (hk_t2 122 rfl) rfl
set_option maxRecDepth 100000 in
theorem hw_441 : Cond.methodLink RX0 40 yX0_countAt ∈ hk_all := hk_im (hk_t2 123 rfl) rfl
set_option maxRecDepth 100000 in
theorem hw_443 : Cond.instanceMethod yX0_countAt ∈ hk_all := hk_im (hk_t2 125 rfl) rfl
set_option maxRecDepth 100000 in
theorem hw_444 : Cond.code yX0_countAt cX0_countAt 2 (some .int) ∈ hk_all := hk_im (hk_t2 126 rfl) rfl
set_option maxRecDepth 100000 in
theorem hw_445 : Cond.methodLink RX0 43 yX0_errorAt ∈ hk_all := hk_im (hk_t2 127 rfl) rfl
set_option maxRecDepth 100000 in
theorem hw_447 : Cond.instanceMethod yX0_errorAt ∈ hk_all := hk_im (hk_t2 129 rfl) rfl
set_option maxRecDepth 100000 in
theorem hw_448 : Cond.code yX0_errorAt cX0_errorAt 2 (some .int) ∈ hk_all := hk_im (hk_t2 130 rfl) rfl
set_option maxRecDepth 100000 in
theorem hn_449 : Cond.methodLinkNest RX7 153 yX2_isSplit RX7 ∈ hk_nest := hk_nim (hk_t2 131 rfl) rfl
set_option maxRecDepth 100000 in
theorem hn_450 : Cond.methodLinkNest RX7 156 yX1_allCanBeJoined RX7 ∈ hk_nest := hk_nim (hk_t2 132 rfl) rfl
set_option maxRecDepth 100000 in
theorem hw_452 : Cond.instanceMethod yX1_allCanBeJoined ∈ hk_all := hk_im (hk_t2 134 rfl) rfl
set_option maxRecDepth 100000 in
theorem hw_453 : Cond.code yX1_allCanBeJoined cX1_allCanBeJoined 2 (some .boolean) ∈ hk_all := hk_im (hk_t2 135 rfl) rfl
set_option maxRecDepth 100000 in
theorem hn_454 : Cond.methodLinkNest RX7 175 yX0_countAt RX7 ∈ hk_nest := hk_nim (hk_t2 136 rfl) rfl
set_option maxRecDepth 100000 in
theorem hw_455 : Cond.methodLink RX7 297 yX7_quotient ∈ hk_all := hk_im (hk_t2 137 rfl) rfl
set_option maxRecDepth 100000 in
theorem hw_456 : Cond.static yX7_quotient ∈ hk_all := hk_im (hk_t2 138 rfl) rfl
set_option maxRecDepth 100000 in
theorem hw_457 : Cond.code yX7_quotient cX7_quotient 2 (some .int) ∈ hk_all := hk_im (hk_t2 139 rfl) rfl
set_option maxRecDepth 100000 in
theorem hw_458 : Cond.methodLink RX7 300 yJ9_min_7cf53 ∈ hk_all := hk_im (hk_t2 140 rfl) rfl
set_option maxRecDepth 100000 in
theorem hw_459 : Cond.static yJ9_min_7cf53 ∈ hk_all := hk_im (hk_t2 141 rfl) rfl
set_option maxRecDepth 100000 in
theorem hw_460 : Cond.code yJ9_min_7cf53 cJ9_min_7cf53 2 (some .int) ∈ hk_all := hk_im (hk_t2 142 rfl) rfl
set_option maxRecDepth 100000 in
theorem hn_461 : Cond.methodLinkNest RX7 160 yX2_breakUp RX7 ∈ hk_nest := hk_nim (hk_t2 143 rfl) rfl
set_option maxRecDepth 100000 in
theorem hw_463 : Cond.instanceMethod yX2_breakUp ∈ hk_all := hk_im (hk_t2 145 rfl) rfl
set_option maxRecDepth 100000 in
theorem hw_464 : Cond.code yX2_breakUp cX2_breakUp 4 none ∈ hk_all := hk_im (hk_t2 146 rfl) rfl
set_option maxRecDepth 100000 in
theorem hw_465 : Cond.methodLink RX2 85 yX2_emptyPart ∈ hk_all := hk_im (hk_t2 147 rfl) rfl
set_option maxRecDepth 100000 in
theorem hw_467 : Cond.instanceMethod yX2_emptyPart ∈ hk_all := hk_im (hk_t2 149 rfl) rfl
set_option maxRecDepth 100000 in
theorem hw_468 : Cond.code yX2_emptyPart cX2_emptyPart 4 none ∈ hk_all := hk_im (hk_t2 150 rfl) rfl
set_option maxRecDepth 100000 in
theorem hw_469 : Cond.methodLink RX7 291 yX7_joinCoolKeys ∈ hk_all := hk_im (hk_t2 151 rfl) rfl
set_option maxRecDepth 100000 in
theorem hw_471 : Cond.instanceMethod yX7_joinCoolKeys ∈ hk_all := hk_im (hk_t2 153 rfl) rfl
set_option maxRecDepth 100000 in
theorem hw_472 : Cond.code yX7_joinCoolKeys cX7_joinCoolKeys 2 none ∈ hk_all := hk_im (hk_t2 154 rfl) rfl
set_option maxRecDepth 100000 in
theorem hn_473 : Cond.methodLinkNest RX7 187 yX0_atMost RX7 ∈ hk_nest := hk_nim (hk_t2 155 rfl) rfl
set_option maxRecDepth 100000 in
theorem hw_475 : Cond.instanceMethod yX0_atMost ∈ hk_all := hk_im (hk_t2 157 rfl) rfl
set_option maxRecDepth 100000 in
theorem hw_476 : Cond.code yX0_atMost cX0_atMost 3 (some .int) ∈ hk_all := hk_im (hk_t2 158 rfl) rfl
set_option maxRecDepth 100000 in
theorem hn_477 : Cond.methodLinkNest RX7 163 yX2_bringBack RX7 ∈ hk_nest := hk_nim (hk_t2 159 rfl) rfl
set_option maxRecDepth 100000 in
theorem hw_479 : Cond.instanceMethod yX2_bringBack ∈ hk_all := hk_im (hk_t2 161 rfl) rfl
set_option maxRecDepth 100000 in
theorem hw_480 : Cond.code yX2_bringBack cX2_bringBack 4 (some .int) ∈ hk_all := hk_im (hk_t2 162 rfl) rfl
set_option maxRecDepth 100000 in
theorem hw_481 : Cond.methodLink RX2 89 yX2_joinedState ∈ hk_all := hk_im (hk_t2 163 rfl) rfl
set_option maxRecDepth 100000 in
theorem hw_483 : Cond.instanceMethod yX2_joinedState ∈ hk_all := hk_im (hk_t2 165 rfl) rfl
set_option maxRecDepth 100000 in
theorem hw_484 : Cond.code yX2_joinedState cX2_joinedState 8 (some .long) ∈ hk_all := hk_im (hk_t2 166 rfl) rfl
set_option maxRecDepth 100000 in
theorem hn_485 : Cond.methodLinkNest RX2 76 yX1_joined RX7 ∈ hk_nest := hk_nim (hk_t2 167 rfl) rfl
set_option maxRecDepth 100000 in
theorem hw_487 : Cond.instanceMethod yX1_joined ∈ hk_all := hk_im (hk_t2 169 rfl) rfl
set_option maxRecDepth 100000 in
theorem hw_488 : Cond.code yX1_joined cX1_joined 7 (some .long) ∈ hk_all := hk_im (hk_t2 170 rfl) rfl
set_option maxRecDepth 100000 in
theorem hw_489 : Cond.methodLink RX2 80 yJ9_max_7cf53 ∈ hk_all := hk_im (hk_t2 171 rfl) rfl
set_option maxRecDepth 100000 in
theorem hw_490 : Cond.static yJ9_max_7cf53 ∈ hk_all := hk_im (hk_t2 172 rfl) rfl
set_option maxRecDepth 100000 in
theorem hw_491 : Cond.code yJ9_max_7cf53 cJ9_max_7cf53 2 (some .int) ∈ hk_all := hk_im (hk_t2 173 rfl) rfl
set_option maxRecDepth 100000 in
theorem hw_492 : Cond.methodLink RX2 93 yX2_joinedLatestRow ∈ hk_all := hk_im (hk_t2 174 rfl) rfl
set_option maxRecDepth 100000 in
theorem hw_494 : Cond.instanceMethod yX2_joinedLatestRow ∈ hk_all := hk_im (hk_t2 176 rfl) rfl
set_option maxRecDepth 100000 in
theorem hw_495 : Cond.code yX2_joinedLatestRow cX2_joinedLatestRow 4 (some .int) ∈ hk_all := hk_im (hk_t2 177 rfl) rfl
set_option maxRecDepth 100000 in
theorem hw_497 : Cond.instanceMethod yX7_state ∈ hk_all := hk_im (hk_t2 179 rfl) rfl
set_option maxRecDepth 100000 in
theorem hw_498 : Cond.selects RX7 yX7_state yX7_state ∈ hk_all := hk_im (hk_t2 180 rfl) rfl
set_option maxRecDepth 100000 in
theorem hw_499 : Cond.code yX7_state cX7_state 3 (some .long) ∈ hk_all := hk_im (hk_t2 181 rfl) rfl
set_option maxRecDepth 100000 in
theorem hw_500 : Cond.methodLink RX7 133 yX7_isFold ∈ hk_all := hk_im (hk_t2 182 rfl) rfl
set_option maxRecDepth 100000 in
theorem hw_502 : Cond.instanceMethod yX7_isFold ∈ hk_all := hk_im (hk_t2 184 rfl) rfl
set_option maxRecDepth 100000 in
theorem hw_503 : Cond.code yX7_isFold cX7_isFold 2 (some .boolean) ∈ hk_all := hk_im (hk_t2 185 rfl) rfl
set_option maxRecDepth 100000 in
theorem hw_504 : Cond.constantLong RX7 136 (-4000000000000) ∈ hk_all := hk_im (hk_t2 186 rfl) rfl
set_option maxRecDepth 100000 in
theorem hn_505 : Cond.methodLinkNest RX7 138 yX2_joinedState RX7 ∈ hk_nest := hk_nim (hk_t2 187 rfl) rfl
set_option maxRecDepth 100000 in
theorem hw_507 : Cond.instanceMethod yX7_part ∈ hk_all := hk_im (hk_t2 189 rfl) rfl
set_option maxRecDepth 100000 in
theorem hw_508 : Cond.selects RX7 yX7_part yX7_part ∈ hk_all := hk_im (hk_t2 190 rfl) rfl
set_option maxRecDepth 100000 in
theorem hw_509 : Cond.code yX7_part cX7_part 4 (some .long) ∈ hk_all := hk_im (hk_t2 191 rfl) rfl
set_option maxRecDepth 100000 in
theorem hn_510 : Cond.methodLinkNest RX7 142 yX2_hasPart RX7 ∈ hk_nest := hk_nim (hk_t2 192 rfl) rfl
set_option maxRecDepth 100000 in
theorem hw_512 : Cond.instanceMethod yX2_hasPart ∈ hk_all := hk_im (hk_t2 194 rfl) rfl
set_option maxRecDepth 100000 in
theorem hw_513 : Cond.code yX2_hasPart cX2_hasPart 3 (some .boolean) ∈ hk_all := hk_im (hk_t2 195 rfl) rfl
set_option maxRecDepth 100000 in
theorem hn_514 : Cond.methodLinkNest RX2 57 yX7_isWithin RX7 ∈ hk_nest := hk_nim (hk_t2 196 rfl) rfl
set_option maxRecDepth 100000 in
theorem hn_515 : Cond.methodLinkNest RX7 146 yX2_partState RX7 ∈ hk_nest := hk_nim (hk_t2 197 rfl) rfl
set_option maxRecDepth 100000 in
theorem hw_517 : Cond.instanceMethod yX2_partState ∈ hk_all := hk_im (hk_t2 199 rfl) rfl
set_option maxRecDepth 100000 in
theorem hw_518 : Cond.code yX2_partState cX2_partState 4 (some .long) ∈ hk_all := hk_im (hk_t2 200 rfl) rfl
set_option maxRecDepth 100000 in
theorem hw_520 : Cond.instanceMethod yX7_parts ∈ hk_all := hk_im (hk_t2 202 rfl) rfl
set_option maxRecDepth 100000 in
theorem hw_521 : Cond.selects RX7 yX7_parts yX7_parts ∈ hk_all := hk_im (hk_t2 203 rfl) rfl
set_option maxRecDepth 100000 in
theorem hw_522 : Cond.code yX7_parts cX7_parts 2 (some .int) ∈ hk_all := hk_im (hk_t2 204 rfl) rfl
set_option maxRecDepth 100000 in
theorem hw_524 : Cond.instanceMethod yX7_place ∈ hk_all := hk_im (hk_t2 206 rfl) rfl
set_option maxRecDepth 100000 in
theorem hw_525 : Cond.selects RX7 yX7_place yX7_place ∈ hk_all := hk_im (hk_t2 207 rfl) rfl
set_option maxRecDepth 100000 in
theorem hw_526 : Cond.code yX7_place cX7_place 3 (some .int) ∈ hk_all := hk_im (hk_t2 208 rfl) rfl
set_option maxRecDepth 100000 in
theorem hw_528 : Cond.instanceMethod yX7_split ∈ hk_all := hk_im (hk_t2 210 rfl) rfl
set_option maxRecDepth 100000 in
theorem hw_529 : Cond.selects RX7 yX7_split yX7_split ∈ hk_all := hk_im (hk_t2 211 rfl) rfl
set_option maxRecDepth 100000 in
theorem hw_530 : Cond.code yX7_split cX7_split 3 (some .int) ∈ hk_all := hk_im (hk_t2 212 rfl) rfl
set_option maxRecDepth 100000 in
theorem hw_532 : Cond.instanceMethod yX7_back ∈ hk_all := hk_im (hk_t2 214 rfl) rfl
set_option maxRecDepth 100000 in
theorem hw_533 : Cond.selects RX7 yX7_back yX7_back ∈ hk_all := hk_im (hk_t2 215 rfl) rfl
set_option maxRecDepth 100000 in
theorem hw_534 : Cond.code yX7_back cX7_back 2 (some .int) ∈ hk_all := hk_im (hk_t2 216 rfl) rfl
set_option maxRecDepth 100000 in
theorem hw_536 : Cond.instanceMethod yX7_tree ∈ hk_all := hk_im (hk_t2 218 rfl) rfl
set_option maxRecDepth 100000 in
theorem hw_537 : Cond.selects RX7 yX7_tree yX7_tree ∈ hk_all := hk_im (hk_t2 219 rfl) rfl
set_option maxRecDepth 100000 in
theorem hw_538 : Cond.code yX7_tree cX7_tree 3 (some .int) ∈ hk_all := hk_im (hk_t2 220 rfl) rfl
set_option maxRecDepth 100000 in
theorem hw_539 : Cond.methodLink RX7 166 yX7_joinOfTree ∈ hk_all := hk_im (hk_t2 221 rfl) rfl
set_option maxRecDepth 100000 in
theorem hw_540 : Cond.static yX7_joinOfTree ∈ hk_all := hk_im (hk_t2 222 rfl) rfl
set_option maxRecDepth 100000 in
theorem hw_541 : Cond.code yX7_joinOfTree cX7_joinOfTree 5 (some .int) ∈ hk_all := hk_im (hk_t2 223 rfl) rfl
set_option maxRecDepth 100000 in
theorem hw_543 : Cond.instanceMethod yX7_counter ∈ hk_all := hk_im (hk_t2 225 rfl) rfl
set_option maxRecDepth 100000 in
theorem hw_544 : Cond.selects RX7 yX7_counter yX7_counter ∈ hk_all := hk_im (hk_t2 226 rfl) rfl
set_option maxRecDepth 100000 in
theorem hw_545 : Cond.code yX7_counter cX7_counter 3 (some .int) ∈ hk_all := hk_im (hk_t2 227 rfl) rfl
set_option maxRecDepth 100000 in
theorem hn_546 : Cond.methodLinkNest RX7 178 yX0_errorAt RX7 ∈ hk_nest := hk_nim (hk_t2 228 rfl) rfl
set_option maxRecDepth 100000 in
theorem hw_548 : Cond.instanceMethod yX7_hot ∈ hk_all := hk_im (hk_t2 230 rfl) rfl
set_option maxRecDepth 100000 in
theorem hw_549 : Cond.selects RX7 yX7_hot yX7_hot ∈ hk_all := hk_im (hk_t2 231 rfl) rfl
set_option maxRecDepth 100000 in
theorem hw_550 : Cond.code yX7_hot cX7_hot 2 (some .int) ∈ hk_all := hk_im (hk_t2 232 rfl) rfl
set_option maxRecDepth 100000 in
theorem hn_551 : Cond.methodLinkNest RX7 181 yX0_atLeast RX7 ∈ hk_nest := hk_nim (hk_t2 233 rfl) rfl
set_option maxRecDepth 100000 in
theorem hw_553 : Cond.instanceMethod yX0_atLeast ∈ hk_all := hk_im (hk_t2 235 rfl) rfl
set_option maxRecDepth 100000 in
theorem hw_554 : Cond.code yX0_atLeast cX0_atLeast 3 (some .int) ∈ hk_all := hk_im (hk_t2 236 rfl) rfl
set_option maxRecDepth 100000 in
theorem hw_555 : Cond.methodLink RX0 46 yX0_surelyAt ∈ hk_all := hk_im (hk_t2 237 rfl) rfl
set_option maxRecDepth 100000 in
theorem hw_557 : Cond.instanceMethod yX7_splitKey ∈ hk_all := hk_im (hk_t2 239 rfl) rfl
set_option maxRecDepth 100000 in
theorem hw_558 : Cond.selects RX7 yX7_splitKey yX7_splitKey ∈ hk_all := hk_im (hk_t3 0 rfl) rfl
set_option maxRecDepth 100000 in
theorem hw_559 : Cond.code yX7_splitKey cX7_splitKey 4 (some .int) ∈ hk_all := hk_im (hk_t3 1 rfl) rfl
set_option maxRecDepth 100000 in
theorem hw_561 : Cond.instanceMethod yX7_load ∈ hk_all := hk_im (hk_t3 3 rfl) rfl
set_option maxRecDepth 100000 in
theorem hw_562 : Cond.selects RX7 yX7_load yX7_load ∈ hk_all := hk_im (hk_t3 4 rfl) rfl
set_option maxRecDepth 100000 in
theorem hw_563 : Cond.code yX7_load cX7_load 2 (some .int) ∈ hk_all := hk_im (hk_t3 5 rfl) rfl
set_option maxRecDepth 100000 in
theorem hw_564 : Cond.methodLink RX7 190 yX7_isPlace ∈ hk_all := hk_im (hk_t3 6 rfl) rfl
set_option maxRecDepth 100000 in
theorem hw_566 : Cond.instanceMethod yX7_isPlace ∈ hk_all := hk_im (hk_t3 8 rfl) rfl
set_option maxRecDepth 100000 in
theorem hw_567 : Cond.code yX7_isPlace cX7_isPlace 2 (some .boolean) ∈ hk_all := hk_im (hk_t3 9 rfl) rfl
set_option maxRecDepth 100000 in
theorem hw_569 : Cond.instanceMethod yX7_small ∈ hk_all := hk_im (hk_t3 11 rfl) rfl
set_option maxRecDepth 100000 in
theorem hw_570 : Cond.selects RX7 yX7_small yX7_small ∈ hk_all := hk_im (hk_t3 12 rfl) rfl
set_option maxRecDepth 100000 in
theorem hw_571 : Cond.code yX7_small cX7_small 3 (some .int) ∈ hk_all := hk_im (hk_t3 13 rfl) rfl
set_option maxRecDepth 100000 in
theorem hn_572 : Cond.methodLinkNest RX7 194 yX5_add RX7 ∈ hk_nest := hk_nim (hk_t3 14 rfl) rfl
set_option maxRecDepth 100000 in
theorem hw_574 : Cond.instanceMethod yX5_add ∈ hk_all := hk_im (hk_t3 16 rfl) rfl
set_option maxRecDepth 100000 in
theorem hw_575 : Cond.code yX5_add cX5_add 3 none ∈ hk_all := hk_im (hk_t3 17 rfl) rfl
set_option maxRecDepth 100000 in
theorem hw_577 : Cond.instanceMethod yX7_copies ∈ hk_all := hk_im (hk_t3 19 rfl) rfl
set_option maxRecDepth 100000 in
theorem hw_578 : Cond.selects RX7 yX7_copies yX7_copies ∈ hk_all := hk_im (hk_t3 20 rfl) rfl
set_option maxRecDepth 100000 in
theorem hw_579 : Cond.code yX7_copies cX7_copies 4 (some .int) ∈ hk_all := hk_im (hk_t3 21 rfl) rfl
set_option maxRecDepth 100000 in
theorem hw_580 : Cond.methodLink RX7 199 yX7_hasPartAt ∈ hk_all := hk_im (hk_t3 22 rfl) rfl
set_option maxRecDepth 100000 in
theorem hw_582 : Cond.instanceMethod yX7_hasPartAt ∈ hk_all := hk_im (hk_t3 24 rfl) rfl
set_option maxRecDepth 100000 in
theorem hw_583 : Cond.code yX7_hasPartAt cX7_hasPartAt 5 (some .boolean) ∈ hk_all := hk_im (hk_t3 25 rfl) rfl
set_option maxRecDepth 100000 in
theorem hw_585 : Cond.instanceMethod yX7_out ∈ hk_all := hk_im (hk_t3 27 rfl) rfl
set_option maxRecDepth 100000 in
theorem hw_586 : Cond.selects RX7 yX7_out yX7_out ∈ hk_all := hk_im (hk_t3 28 rfl) rfl
set_option maxRecDepth 100000 in
theorem hw_587 : Cond.code yX7_out cX7_out 1 (some .long) ∈ hk_all := hk_im (hk_t3 29 rfl) rfl
set_option maxRecDepth 100000 in
theorem hw_589 : Cond.instanceMethod yX7_timer ∈ hk_all := hk_im (hk_t3 31 rfl) rfl
set_option maxRecDepth 100000 in
theorem hw_590 : Cond.selects RX7 yX7_timer yX7_timer ∈ hk_all := hk_im (hk_t3 32 rfl) rfl
set_option maxRecDepth 100000 in
theorem hw_591 : Cond.code yX7_timer cX7_timer 3 (some .int) ∈ hk_all := hk_im (hk_t3 33 rfl) rfl
set_option maxRecDepth 100000 in
theorem hw_592 : Cond.constant RX7 209 1000000 ∈ hk_all := hk_im (hk_t3 34 rfl) rfl
set_option maxRecDepth 100000 in
theorem hn_593 : Cond.methodLinkNest RX7 211 yX6_add RX7 ∈ hk_nest := hk_nim (hk_t3 35 rfl) rfl
set_option maxRecDepth 100000 in
theorem hw_595 : Cond.instanceMethod yX6_add ∈ hk_all := hk_im (hk_t3 37 rfl) rfl
set_option maxRecDepth 100000 in
theorem hw_596 : Cond.code yX6_add cX6_add 4 none ∈ hk_all := hk_im (hk_t3 38 rfl) rfl
set_option maxRecDepth 100000 in
theorem hw_597 : Cond.methodLink RX6 25 yX6_dueAt ∈ hk_all := hk_im (hk_t3 39 rfl) rfl
set_option maxRecDepth 100000 in
theorem hw_599 : Cond.instanceMethod yX6_dueAt ∈ hk_all := hk_im (hk_t3 41 rfl) rfl
set_option maxRecDepth 100000 in
theorem hw_600 : Cond.code yX6_dueAt cX6_dueAt 3 (some .int) ∈ hk_all := hk_im (hk_t3 42 rfl) rfl
set_option maxRecDepth 100000 in
theorem hw_601 : Cond.methodLink RX6 29 arraycopyName ∈ hk_all := hk_im (hk_t3 43 rfl) rfl
set_option maxRecDepth 100000 in
theorem hw_602 : Cond.static arraycopyName ∈ hk_all := hk_im (hk_t3 44 rfl) rfl
set_option maxRecDepth 100000 in
theorem hw_603 : Cond.native arraycopyName ∈ hk_all := hk_im (hk_t3 45 rfl) rfl
set_option maxRecDepth 100000 in
theorem hw_605 : Cond.instanceMethod yX7_tick ∈ hk_all := hk_im (hk_t3 47 rfl) rfl
set_option maxRecDepth 100000 in
theorem hw_606 : Cond.selects RX7 yX7_tick yX7_tick ∈ hk_all := hk_im (hk_t3 48 rfl) rfl
set_option maxRecDepth 100000 in
theorem hw_607 : Cond.code yX7_tick cX7_tick 4 (some .int) ∈ hk_all := hk_im (hk_t3 49 rfl) rfl
set_option maxRecDepth 100000 in
theorem hn_608 : Cond.methodLinkNest RX7 212 yX6_dueAt RX7 ∈ hk_nest := hk_nim (hk_t3 50 rfl) rfl
set_option maxRecDepth 100000 in
theorem hw_609 : Cond.methodLink RX7 219 yX7_ring ∈ hk_all := hk_im (hk_t3 51 rfl) rfl
set_option maxRecDepth 100000 in
theorem hw_611 : Cond.instanceMethod yX7_ring ∈ hk_all := hk_im (hk_t3 53 rfl) rfl
set_option maxRecDepth 100000 in
theorem hw_612 : Cond.code yX7_ring cX7_ring 5 none ∈ hk_all := hk_im (hk_t3 54 rfl) rfl
set_option maxRecDepth 100000 in
theorem hn_613 : Cond.methodLinkNest RX7 305 yX3_open RX7 ∈ hk_nest := hk_nim (hk_t3 55 rfl) rfl
set_option maxRecDepth 100000 in
theorem hw_615 : Cond.instanceMethod yX3_open ∈ hk_all := hk_im (hk_t3 57 rfl) rfl
set_option maxRecDepth 100000 in
theorem hw_616 : Cond.code yX3_open cX3_open 4 (some .int) ∈ hk_all := hk_im (hk_t3 58 rfl) rfl
set_option maxRecDepth 100000 in
theorem hw_617 : Cond.methodLink RX3 22 yJ9_min_7cf53 ∈ hk_all := hk_im (hk_t3 59 rfl) rfl
set_option maxRecDepth 100000 in
theorem hw_618 : Cond.constantLong RX3 28 (-4000000000000) ∈ hk_all := hk_im (hk_t3 60 rfl) rfl
set_option maxRecDepth 100000 in
theorem hw_619 : Cond.methodLink RX3 30 yJ7_fill_bad5a ∈ hk_all := hk_im (hk_t3 61 rfl) rfl
set_option maxRecDepth 100000 in
theorem hw_620 : Cond.static yJ7_fill_bad5a ∈ hk_all := hk_im (hk_t3 62 rfl) rfl
set_option maxRecDepth 100000 in
theorem hw_621 : Cond.code yJ7_fill_bad5a cJ7_fill_bad5a 6 none ∈ hk_all := hk_im (hk_t3 63 rfl) rfl
set_option maxRecDepth 100000 in
theorem hw_622 : Cond.methodLink RJ7 13 yJ7_rangeCheck_23922 ∈ hk_all := hk_im (hk_t3 64 rfl) rfl
set_option maxRecDepth 100000 in
theorem hw_623 : Cond.static yJ7_rangeCheck_23922 ∈ hk_all := hk_im (hk_t3 65 rfl) rfl
set_option maxRecDepth 100000 in
theorem hw_624 : Cond.code yJ7_rangeCheck_23922 cJ7_rangeCheck_23922 3 none ∈ hk_all := hk_im (hk_t3 66 rfl) rfl
set_option maxRecDepth 100000 in
theorem hn_625 : Cond.methodLinkNest RX7 308 yX3_write RX7 ∈ hk_nest := hk_nim (hk_t3 67 rfl) rfl
set_option maxRecDepth 100000 in
theorem hw_627 : Cond.instanceMethod yX3_write ∈ hk_all := hk_im (hk_t3 69 rfl) rfl
set_option maxRecDepth 100000 in
theorem hw_628 : Cond.code yX3_write cX3_write 5 none ∈ hk_all := hk_im (hk_t3 70 rfl) rfl
set_option maxRecDepth 100000 in
theorem hn_629 : Cond.methodLinkNest RX7 312 yX2_emptyKey RX7 ∈ hk_nest := hk_nim (hk_t3 71 rfl) rfl
set_option maxRecDepth 100000 in
theorem hw_631 : Cond.instanceMethod yX2_emptyKey ∈ hk_all := hk_im (hk_t3 73 rfl) rfl
set_option maxRecDepth 100000 in
theorem hw_632 : Cond.code yX2_emptyKey cX2_emptyKey 3 none ∈ hk_all := hk_im (hk_t3 74 rfl) rfl
set_option maxRecDepth 100000 in
theorem hn_633 : Cond.methodLinkNest RX7 222 yX6_dropFirst RX7 ∈ hk_nest := hk_nim (hk_t3 75 rfl) rfl
set_option maxRecDepth 100000 in
theorem hw_635 : Cond.instanceMethod yX6_dropFirst ∈ hk_all := hk_im (hk_t3 77 rfl) rfl
set_option maxRecDepth 100000 in
theorem hw_636 : Cond.code yX6_dropFirst cX6_dropFirst 2 none ∈ hk_all := hk_im (hk_t3 78 rfl) rfl
set_option maxRecDepth 100000 in
theorem hw_638 : Cond.instanceMethod yX7_log ∈ hk_all := hk_im (hk_t3 80 rfl) rfl
set_option maxRecDepth 100000 in
theorem hw_639 : Cond.selects RX7 yX7_log yX7_log ∈ hk_all := hk_im (hk_t3 81 rfl) rfl
set_option maxRecDepth 100000 in
theorem hw_640 : Cond.code yX7_log cX7_log 3 (some .long) ∈ hk_all := hk_im (hk_t3 82 rfl) rfl
set_option maxRecDepth 100000 in
theorem hn_641 : Cond.methodLinkNest RX7 228 yX3_read RX7 ∈ hk_nest := hk_nim (hk_t3 83 rfl) rfl
set_option maxRecDepth 100000 in
theorem hw_643 : Cond.instanceMethod yX3_read ∈ hk_all := hk_im (hk_t3 85 rfl) rfl
set_option maxRecDepth 100000 in
theorem hw_644 : Cond.code yX3_read cX3_read 3 (some .long) ∈ hk_all := hk_im (hk_t3 86 rfl) rfl
set_option maxRecDepth 100000 in
theorem hw_645 : Cond.methodLink RX3 36 yJ9_floorMod_7cf53 ∈ hk_all := hk_im (hk_t3 87 rfl) rfl
set_option maxRecDepth 100000 in
theorem hw_646 : Cond.static yJ9_floorMod_7cf53 ∈ hk_all := hk_im (hk_t3 88 rfl) rfl
set_option maxRecDepth 100000 in
theorem hw_647 : Cond.code yJ9_floorMod_7cf53 cJ9_floorMod_7cf53 3 (some .int) ∈ hk_all := hk_im (hk_t3 89 rfl) rfl
set_option maxRecDepth 100000 in
theorem hw_654 : Cond.instanceMethod yX4_init ∈ hk_all := hk_im (hk_t3 96 rfl) rfl
set_option maxRecDepth 100000 in
theorem hw_655 : Cond.code yX4_init cX4_init 1 none ∈ hk_all := hk_im (hk_t3 97 rfl) rfl
set_option maxRecDepth 100000 in
theorem hw_656 : Cond.methodLink RX4 3 objectInit ∈ hk_all := hk_im (hk_t3 98 rfl) rfl
set_option maxRecDepth 100000 in
theorem hw_657 : Cond.classLink RX4 22 RX5 ∈ hk_all := hk_im (hk_t3 99 rfl) rfl
set_option maxRecDepth 100000 in
theorem hn_658 : Cond.methodLinkNest RX4 24 yX5_init RX7 ∈ hk_nest := hk_nim (hk_t3 100 rfl) rfl
set_option maxRecDepth 100000 in
theorem hw_659 : Cond.classLink RX4 29 RX6 ∈ hk_all := hk_im (hk_t3 101 rfl) rfl
set_option maxRecDepth 100000 in
theorem hn_660 : Cond.methodLinkNest RX4 31 yX6_init RX7 ∈ hk_nest := hk_nim (hk_t3 102 rfl) rfl
set_option maxRecDepth 100000 in
theorem hw_661 : Cond.fieldLink RX4 9 RX4 "states" "[J" ∈ hk_all := hk_im (hk_t3 103 rfl) rfl
set_option maxRecDepth 100000 in
theorem hn_662 : Cond.fieldLinkNest RX2 97 RX4 "states" "[J" RX7 ∈ hk_nest := hk_nim (hk_t3 104 rfl) rfl
set_option maxRecDepth 100000 in
theorem hw_663 : Cond.fieldLink RX4 15 RX4 "latestRows" "[I" ∈ hk_all := hk_im (hk_t3 105 rfl) rfl
set_option maxRecDepth 100000 in
theorem hn_664 : Cond.fieldLinkNest RX2 100 RX4 "latestRows" "[I" RX7 ∈ hk_nest := hk_nim (hk_t3 106 rfl) rfl
set_option maxRecDepth 100000 in
theorem hw_665 : Cond.fieldLink RX4 19 RX4 "latestValues" "[J" ∈ hk_all := hk_im (hk_t3 107 rfl) rfl
set_option maxRecDepth 100000 in
theorem hn_666 : Cond.fieldLinkNest RX2 101 RX4 "latestValues" "[J" RX7 ∈ hk_nest := hk_nim (hk_t3 108 rfl) rfl
set_option maxRecDepth 100000 in
theorem hw_667 : Cond.fieldLink RX4 25 RX4 "smalls" "LHotKeys$Smalls;" ∈ hk_all := hk_im (hk_t3 109 rfl) rfl
set_option maxRecDepth 100000 in
theorem hw_669 : Cond.fieldLink RX4 32 RX4 "timers" "LHotKeys$Timers;" ∈ hk_all := hk_im (hk_t3 111 rfl) rfl
set_option maxRecDepth 100000 in
theorem hw_687 : Cond.instanceMethod yX5_copyFrom ∈ hk_all := hk_im (hk_t3 129 rfl) rfl
set_option maxRecDepth 100000 in
theorem hw_688 : Cond.code yX5_copyFrom cX5_copyFrom 2 none ∈ hk_all := hk_im (hk_t3 130 rfl) rfl
set_option maxRecDepth 100000 in
theorem hw_689 : Cond.methodLink RX5 29 arraycopyName ∈ hk_all := hk_im (hk_t3 131 rfl) rfl
set_option maxRecDepth 100000 in
theorem hw_692 : Cond.instanceMethod yX6_copyFrom ∈ hk_all := hk_im (hk_t3 134 rfl) rfl
set_option maxRecDepth 100000 in
theorem hw_693 : Cond.code yX6_copyFrom cX6_copyFrom 2 none ∈ hk_all := hk_im (hk_t3 135 rfl) rfl
set_option maxRecDepth 100000 in
theorem hw_696 : Cond.instanceMethod yX2_holdIn ∈ hk_all := hk_im (hk_t3 138 rfl) rfl
set_option maxRecDepth 100000 in
theorem hw_697 : Cond.code yX2_holdIn cX2_holdIn 4 none ∈ hk_all := hk_im (hk_t3 139 rfl) rfl
set_option maxRecDepth 100000 in
theorem hw_704 : Cond.instanceMethod yX2_takeFrom ∈ hk_all := hk_im (hk_t3 146 rfl) rfl
set_option maxRecDepth 100000 in
theorem hw_705 : Cond.code yX2_takeFrom cX2_takeFrom 4 none ∈ hk_all := hk_im (hk_t3 147 rfl) rfl
set_option maxRecDepth 100000 in
theorem hw_707 : Cond.instanceMethod yX7_told ∈ hk_all := hk_im (hk_t3 149 rfl) rfl
set_option maxRecDepth 100000 in
theorem hw_708 : Cond.selects RX7 yX7_told yX7_told ∈ hk_all := hk_im (hk_t3 150 rfl) rfl
set_option maxRecDepth 100000 in
theorem hw_709 : Cond.code yX7_told cX7_told 2 (some .int) ∈ hk_all := hk_im (hk_t3 151 rfl) rfl
set_option maxRecDepth 100000 in
theorem hw_711 : Cond.instanceMethod yX7_clear ∈ hk_all := hk_im (hk_t3 153 rfl) rfl
set_option maxRecDepth 100000 in
theorem hw_712 : Cond.selects RX7 yX7_clear yX7_clear ∈ hk_all := hk_im (hk_t3 154 rfl) rfl
set_option maxRecDepth 100000 in
theorem hw_713 : Cond.code yX7_clear cX7_clear 2 (some .int) ∈ hk_all := hk_im (hk_t3 155 rfl) rfl
set_option maxRecDepth 100000 in
theorem hw_717 : Cond.instanceMethod yX8_init ∈ hk_all := hk_im (hk_t3 159 rfl) rfl
set_option maxRecDepth 100000 in
theorem hw_718 : Cond.code yX8_init cX8_init 1 none ∈ hk_all := hk_im (hk_t3 160 rfl) rfl
set_option maxRecDepth 100000 in
theorem hw_719 : Cond.methodLink RX8 1 objectInit ∈ hk_all := hk_im (hk_t3 161 rfl) rfl
set_option maxRecDepth 100000 in
theorem hw_720 : Cond.methodLink RX8 111 yX8_begin ∈ hk_all := hk_im (hk_t3 162 rfl) rfl
set_option maxRecDepth 100000 in
theorem hw_722 : Cond.instanceMethod yX8_begin ∈ hk_all := hk_im (hk_t3 164 rfl) rfl
set_option maxRecDepth 100000 in
theorem hw_723 : Cond.code yX8_begin cX8_begin 2 none ∈ hk_all := hk_im (hk_t3 165 rfl) rfl
set_option maxRecDepth 100000 in
theorem hw_724 : Cond.methodLink RX8 167 yX8_empty ∈ hk_all := hk_im (hk_t3 166 rfl) rfl
set_option maxRecDepth 100000 in
theorem hw_726 : Cond.instanceMethod yX8_empty ∈ hk_all := hk_im (hk_t3 168 rfl) rfl
set_option maxRecDepth 100000 in
theorem hw_727 : Cond.code yX8_empty cX8_empty 5 none ∈ hk_all := hk_im (hk_t3 169 rfl) rfl
set_option maxRecDepth 100000 in
theorem hw_728 : Cond.methodLink RX8 187 yX8_slot ∈ hk_all := hk_im (hk_t3 170 rfl) rfl
set_option maxRecDepth 100000 in
theorem hw_730 : Cond.instanceMethod yX8_slot ∈ hk_all := hk_im (hk_t3 172 rfl) rfl
set_option maxRecDepth 100000 in
theorem hw_731 : Cond.code yX8_slot cX8_slot 3 (some .int) ∈ hk_all := hk_im (hk_t3 173 rfl) rfl
set_option maxRecDepth 100000 in
theorem hw_732 : Cond.methodLink RX8 191 yX8_emptyOf ∈ hk_all := hk_im (hk_t3 174 rfl) rfl
set_option maxRecDepth 100000 in
theorem hw_734 : Cond.instanceMethod yX8_emptyOf ∈ hk_all := hk_im (hk_t3 176 rfl) rfl
set_option maxRecDepth 100000 in
theorem hw_735 : Cond.code yX8_emptyOf cX8_emptyOf 3 (some .long) ∈ hk_all := hk_im (hk_t3 177 rfl) rfl
set_option maxRecDepth 100000 in
theorem hw_736 : Cond.constantLong RX8 183 7 ∈ hk_all := hk_im (hk_t3 178 rfl) rfl
set_option maxRecDepth 100000 in
theorem hw_737 : Cond.constantLong RX8 185 (-4000000000000) ∈ hk_all := hk_im (hk_t3 179 rfl) rfl
set_option maxRecDepth 100000 in
theorem hw_738 : Cond.methodLink RX8 171 yX8_freshRun ∈ hk_all := hk_im (hk_t3 180 rfl) rfl
set_option maxRecDepth 100000 in
theorem hw_740 : Cond.instanceMethod yX8_freshRun ∈ hk_all := hk_im (hk_t3 182 rfl) rfl
set_option maxRecDepth 100000 in
theorem hw_741 : Cond.code yX8_freshRun cX8_freshRun 2 none ∈ hk_all := hk_im (hk_t3 183 rfl) rfl
set_option maxRecDepth 100000 in
theorem hw_742 : Cond.methodLink RX8 177 yX8_freshRound ∈ hk_all := hk_im (hk_t3 184 rfl) rfl
set_option maxRecDepth 100000 in
theorem hw_744 : Cond.instanceMethod yX8_freshRound ∈ hk_all := hk_im (hk_t3 186 rfl) rfl
set_option maxRecDepth 100000 in
theorem hw_745 : Cond.code yX8_freshRound cX8_freshRound 2 none ∈ hk_all := hk_im (hk_t3 187 rfl) rfl
set_option maxRecDepth 100000 in
theorem hw_746 : Cond.fieldLink RX8 114 RX8 "p" "I" ∈ hk_all := hk_im (hk_t3 188 rfl) rfl
set_option maxRecDepth 100000 in
theorem hw_747 : Cond.fieldLink RX8 118 RX8 "\x72" "I" ∈ hk_all := hk_im (hk_t3 189 rfl) rfl
set_option maxRecDepth 100000 in
theorem hw_748 : Cond.fieldLink RX8 121 RX8 "t" "I" ∈ hk_all := hk_im (hk_t3 190 rfl) rfl
set_option maxRecDepth 100000 in
theorem hw_749 : Cond.fieldLink RX8 124 RX8 "slack" "I" ∈ hk_all := hk_im (hk_t3 191 rfl) rfl
set_option maxRecDepth 100000 in
theorem hw_750 : Cond.fieldLink RX8 127 RX8 "m" "I" ∈ hk_all := hk_im (hk_t3 192 rfl) rfl
set_option maxRecDepth 100000 in
theorem hw_751 : Cond.fieldLink RX8 130 RX8 "folds" "I" ∈ hk_all := hk_im (hk_t3 193 rfl) rfl
set_option maxRecDepth 100000 in
theorem hw_752 : Cond.fieldLink RX8 7 RX8 "kinds" "[I" ∈ hk_all := hk_im (hk_t3 194 rfl) rfl
set_option maxRecDepth 100000 in
theorem hw_753 : Cond.fieldLink RX8 13 RX8 "declared" "[Z" ∈ hk_all := hk_im (hk_t3 195 rfl) rfl
set_option maxRecDepth 100000 in
theorem hw_754 : Cond.fieldLink RX8 17 RX8 "states" "[J" ∈ hk_all := hk_im (hk_t3 196 rfl) rfl
set_option maxRecDepth 100000 in
theorem hw_755 : Cond.fieldLink RX8 21 RX8 "lastRow" "[I" ∈ hk_all := hk_im (hk_t3 197 rfl) rfl
set_option maxRecDepth 100000 in
theorem hw_756 : Cond.fieldLink RX8 24 RX8 "lastValue" "[I" ∈ hk_all := hk_im (hk_t3 198 rfl) rfl
set_option maxRecDepth 100000 in
theorem hw_757 : Cond.fieldLink RX8 27 RX8 "hasValue" "[Z" ∈ hk_all := hk_im (hk_t3 199 rfl) rfl
set_option maxRecDepth 100000 in
theorem hw_758 : Cond.fieldLink RX8 30 RX8 "touched" "[Z" ∈ hk_all := hk_im (hk_t3 200 rfl) rfl
set_option maxRecDepth 100000 in
theorem hw_759 : Cond.fieldLink RX8 33 RX8 "parts" "[I" ∈ hk_all := hk_im (hk_t3 201 rfl) rfl
set_option maxRecDepth 100000 in
theorem hw_760 : Cond.fieldLink RX8 133 RX8 "rows" "I" ∈ hk_all := hk_im (hk_t3 202 rfl) rfl
set_option maxRecDepth 100000 in
theorem hw_761 : Cond.fieldLink RX8 180 RX8 "inRound" "I" ∈ hk_all := hk_im (hk_t3 203 rfl) rfl
set_option maxRecDepth 100000 in
theorem hw_762 : Cond.fieldLink RX8 136 RX8 "rounds" "I" ∈ hk_all := hk_im (hk_t3 204 rfl) rfl
set_option maxRecDepth 100000 in
theorem hw_763 : Cond.fieldLink RX8 139 RX8 "flips" "I" ∈ hk_all := hk_im (hk_t3 205 rfl) rfl
set_option maxRecDepth 100000 in
theorem hw_764 : Cond.fieldLink RX8 142 RX8 "passed" "I" ∈ hk_all := hk_im (hk_t3 206 rfl) rfl
set_option maxRecDepth 100000 in
theorem hw_765 : Cond.fieldLink RX8 145 RX8 "matches" "I" ∈ hk_all := hk_im (hk_t3 207 rfl) rfl
set_option maxRecDepth 100000 in
theorem hw_766 : Cond.fieldLink RX8 148 RX8 "moved" "I" ∈ hk_all := hk_im (hk_t3 208 rfl) rfl
set_option maxRecDepth 100000 in
theorem hw_767 : Cond.fieldLink RX8 151 RX8 "time" "I" ∈ hk_all := hk_im (hk_t3 209 rfl) rfl
set_option maxRecDepth 100000 in
theorem hw_768 : Cond.fieldLink RX8 154 RX8 "out" "J" ∈ hk_all := hk_im (hk_t3 210 rfl) rfl
set_option maxRecDepth 100000 in
theorem hw_769 : Cond.fieldLink RX8 36 RX8 "loads" "[I" ∈ hk_all := hk_im (hk_t3 211 rfl) rfl
set_option maxRecDepth 100000 in
theorem hw_770 : Cond.fieldLink RX8 39 RX8 "counterKey" "[I" ∈ hk_all := hk_im (hk_t3 212 rfl) rfl
set_option maxRecDepth 100000 in
theorem hw_771 : Cond.fieldLink RX8 42 RX8 "counterCount" "[I" ∈ hk_all := hk_im (hk_t3 213 rfl) rfl
set_option maxRecDepth 100000 in
theorem hw_772 : Cond.fieldLink RX8 45 RX8 "counterError" "[I" ∈ hk_all := hk_im (hk_t3 214 rfl) rfl
set_option maxRecDepth 100000 in
theorem hw_773 : Cond.fieldLink RX8 158 RX8 "smalls" "I" ∈ hk_all := hk_im (hk_t3 215 rfl) rfl
set_option maxRecDepth 100000 in
theorem hw_774 : Cond.fieldLink RX8 48 RX8 "smallKey" "[I" ∈ hk_all := hk_im (hk_t3 216 rfl) rfl
set_option maxRecDepth 100000 in
theorem hw_775 : Cond.fieldLink RX8 51 RX8 "smallWeight" "[I" ∈ hk_all := hk_im (hk_t3 217 rfl) rfl
set_option maxRecDepth 100000 in
theorem hw_776 : Cond.fieldLink RX8 161 RX8 "timers" "I" ∈ hk_all := hk_im (hk_t3 218 rfl) rfl
set_option maxRecDepth 100000 in
theorem hw_777 : Cond.fieldLink RX8 54 RX8 "timerKey" "[I" ∈ hk_all := hk_im (hk_t3 219 rfl) rfl
set_option maxRecDepth 100000 in
theorem hw_778 : Cond.fieldLink RX8 57 RX8 "timerTime" "[I" ∈ hk_all := hk_im (hk_t3 220 rfl) rfl
set_option maxRecDepth 100000 in
theorem hw_779 : Cond.fieldLink RX8 174 RX8 "logged" "I" ∈ hk_all := hk_im (hk_t3 221 rfl) rfl
set_option maxRecDepth 100000 in
theorem hw_780 : Cond.fieldLink RX8 60 RX8 "logKey" "[I" ∈ hk_all := hk_im (hk_t3 222 rfl) rfl
set_option maxRecDepth 100000 in
theorem hw_781 : Cond.fieldLink RX8 63 RX8 "logTime" "[I" ∈ hk_all := hk_im (hk_t3 223 rfl) rfl
set_option maxRecDepth 100000 in
theorem hw_782 : Cond.fieldLink RX8 66 RX8 "logState" "[J" ∈ hk_all := hk_im (hk_t3 224 rfl) rfl
set_option maxRecDepth 100000 in
theorem hw_783 : Cond.fieldLink RX8 164 RX8 "marks" "I" ∈ hk_all := hk_im (hk_t3 225 rfl) rfl
set_option maxRecDepth 100000 in
theorem hw_784 : Cond.fieldLink RX8 69 RX8 "markState" "[J" ∈ hk_all := hk_im (hk_t3 226 rfl) rfl
set_option maxRecDepth 100000 in
theorem hw_785 : Cond.fieldLink RX8 72 RX8 "markValue" "[I" ∈ hk_all := hk_im (hk_t3 227 rfl) rfl
set_option maxRecDepth 100000 in
theorem hw_786 : Cond.fieldLink RX8 75 RX8 "markHas" "[Z" ∈ hk_all := hk_im (hk_t3 228 rfl) rfl
set_option maxRecDepth 100000 in
theorem hw_787 : Cond.fieldLink RX8 78 RX8 "markSmalls" "[I" ∈ hk_all := hk_im (hk_t3 229 rfl) rfl
set_option maxRecDepth 100000 in
theorem hw_788 : Cond.fieldLink RX8 81 RX8 "markSmallKey" "[I" ∈ hk_all := hk_im (hk_t3 230 rfl) rfl
set_option maxRecDepth 100000 in
theorem hw_789 : Cond.fieldLink RX8 84 RX8 "markSmallWeight" "[I" ∈ hk_all := hk_im (hk_t3 231 rfl) rfl
set_option maxRecDepth 100000 in
theorem hw_790 : Cond.fieldLink RX8 87 RX8 "markTimers" "[I" ∈ hk_all := hk_im (hk_t3 232 rfl) rfl
set_option maxRecDepth 100000 in
theorem hw_791 : Cond.fieldLink RX8 90 RX8 "markTimerKey" "[I" ∈ hk_all := hk_im (hk_t3 233 rfl) rfl
set_option maxRecDepth 100000 in
theorem hw_792 : Cond.fieldLink RX8 93 RX8 "markTimerTime" "[I" ∈ hk_all := hk_im (hk_t3 234 rfl) rfl
set_option maxRecDepth 100000 in
theorem hw_793 : Cond.fieldLink RX8 96 RX8 "markTime" "[I" ∈ hk_all := hk_im (hk_t3 235 rfl) rfl
set_option maxRecDepth 100000 in
theorem hw_794 : Cond.fieldLink RX8 99 RX8 "markRows" "[I" ∈ hk_all := hk_im (hk_t3 236 rfl) rfl
set_option maxRecDepth 100000 in
theorem hw_795 : Cond.fieldLink RX8 102 RX8 "markMatches" "[I" ∈ hk_all := hk_im (hk_t3 237 rfl) rfl
set_option maxRecDepth 100000 in
theorem hw_796 : Cond.fieldLink RX8 105 RX8 "markOut" "[J" ∈ hk_all := hk_im (hk_t3 238 rfl) rfl
set_option maxRecDepth 100000 in
theorem hw_797 : Cond.fieldLink RX8 108 RX8 "comes" "[J" ∈ hk_all := hk_im (hk_t3 239 rfl) rfl
set_option maxRecDepth 100000 in
theorem hw_904 : Cond.instanceMethod yX8_shape ∈ hk_all := hk_im (hk_t4 106 rfl) rfl
set_option maxRecDepth 100000 in
theorem hw_905 : Cond.selects RX8 yX8_shape yX8_shape ∈ hk_all := hk_im (hk_t4 107 rfl) rfl
set_option maxRecDepth 100000 in
theorem hw_906 : Cond.code yX8_shape cX8_shape 8 (some .int) ∈ hk_all := hk_im (hk_t4 108 rfl) rfl
set_option maxRecDepth 100000 in
theorem hw_907 : Cond.constantLong RX8 205 2 ∈ hk_all := hk_im (hk_t4 109 rfl) rfl
set_option maxRecDepth 100000 in
theorem hw_908 : Cond.constantLong RX8 207 8 ∈ hk_all := hk_im (hk_t4 110 rfl) rfl
set_option maxRecDepth 100000 in
theorem hw_909 : Cond.methodLink RX8 197 yX8_in ∈ hk_all := hk_im (hk_t4 111 rfl) rfl
set_option maxRecDepth 100000 in
theorem hw_910 : Cond.static yX8_in ∈ hk_all := hk_im (hk_t4 112 rfl) rfl
set_option maxRecDepth 100000 in
theorem hw_911 : Cond.code yX8_in cX8_in 6 (some .boolean) ∈ hk_all := hk_im (hk_t4 113 rfl) rfl
set_option maxRecDepth 100000 in
theorem hw_912 : Cond.constantLong RX8 209 200 ∈ hk_all := hk_im (hk_t4 114 rfl) rfl
set_option maxRecDepth 100000 in
theorem hw_913 : Cond.constantLong RX8 211 12 ∈ hk_all := hk_im (hk_t4 115 rfl) rfl
set_option maxRecDepth 100000 in
theorem hw_915 : Cond.instanceMethod yX8_fold ∈ hk_all := hk_im (hk_t4 117 rfl) rfl
set_option maxRecDepth 100000 in
theorem hw_916 : Cond.selects RX8 yX8_fold yX8_fold ∈ hk_all := hk_im (hk_t4 118 rfl) rfl
set_option maxRecDepth 100000 in
theorem hw_917 : Cond.code yX8_fold cX8_fold 4 (some .int) ∈ hk_all := hk_im (hk_t4 119 rfl) rfl
set_option maxRecDepth 100000 in
theorem hw_918 : Cond.methodLink RX8 213 yX8_splitKeys ∈ hk_all := hk_im (hk_t4 120 rfl) rfl
set_option maxRecDepth 100000 in
theorem hw_920 : Cond.instanceMethod yX8_splitKeys ∈ hk_all := hk_im (hk_t4 122 rfl) rfl
set_option maxRecDepth 100000 in
theorem hw_921 : Cond.code yX8_splitKeys cX8_splitKeys 3 (some .int) ∈ hk_all := hk_im (hk_t4 123 rfl) rfl
set_option maxRecDepth 100000 in
theorem hw_923 : Cond.instanceMethod yX8_row ∈ hk_all := hk_im (hk_t4 125 rfl) rfl
set_option maxRecDepth 100000 in
theorem hw_924 : Cond.selects RX8 yX8_row yX8_row ∈ hk_all := hk_im (hk_t4 126 rfl) rfl
set_option maxRecDepth 100000 in
theorem hw_925 : Cond.code yX8_row cX8_row 7 (some .int) ∈ hk_all := hk_im (hk_t4 127 rfl) rfl
set_option maxRecDepth 100000 in
theorem hw_926 : Cond.methodLink RX8 220 yX8_noKey ∈ hk_all := hk_im (hk_t4 128 rfl) rfl
set_option maxRecDepth 100000 in
theorem hw_928 : Cond.instanceMethod yX8_noKey ∈ hk_all := hk_im (hk_t4 130 rfl) rfl
set_option maxRecDepth 100000 in
theorem hw_929 : Cond.code yX8_noKey cX8_noKey 2 (some .boolean) ∈ hk_all := hk_im (hk_t4 131 rfl) rfl
set_option maxRecDepth 100000 in
theorem hw_930 : Cond.constantLong RX8 195 99 ∈ hk_all := hk_im (hk_t4 132 rfl) rfl
set_option maxRecDepth 100000 in
theorem hw_931 : Cond.constantLong RX8 224 (-1000) ∈ hk_all := hk_im (hk_t4 133 rfl) rfl
set_option maxRecDepth 100000 in
theorem hw_932 : Cond.constantLong RX8 226 1000 ∈ hk_all := hk_im (hk_t4 134 rfl) rfl
set_option maxRecDepth 100000 in
theorem hw_933 : Cond.methodLink RX8 228 yX8_partOfRow ∈ hk_all := hk_im (hk_t4 135 rfl) rfl
set_option maxRecDepth 100000 in
theorem hw_935 : Cond.instanceMethod yX8_partOfRow ∈ hk_all := hk_im (hk_t4 137 rfl) rfl
set_option maxRecDepth 100000 in
theorem hw_936 : Cond.code yX8_partOfRow cX8_partOfRow 3 (some .int) ∈ hk_all := hk_im (hk_t4 138 rfl) rfl
set_option maxRecDepth 100000 in
theorem hw_937 : Cond.constant RX8 219 (-1640531535) ∈ hk_all := hk_im (hk_t4 139 rfl) rfl
set_option maxRecDepth 100000 in
theorem hw_938 : Cond.methodLink RX8 231 yX8_folded ∈ hk_all := hk_im (hk_t4 140 rfl) rfl
set_option maxRecDepth 100000 in
theorem hw_939 : Cond.static yX8_folded ∈ hk_all := hk_im (hk_t4 141 rfl) rfl
set_option maxRecDepth 100000 in
theorem hw_940 : Cond.code yX8_folded cX8_folded 5 (some .long) ∈ hk_all := hk_im (hk_t4 142 rfl) rfl
set_option maxRecDepth 100000 in
theorem hw_941 : Cond.constantLong RX8 217 31 ∈ hk_all := hk_im (hk_t4 143 rfl) rfl
set_option maxRecDepth 100000 in
theorem hw_942 : Cond.methodLink RX8 235 yX8_placeOf ∈ hk_all := hk_im (hk_t4 144 rfl) rfl
set_option maxRecDepth 100000 in
theorem hw_944 : Cond.instanceMethod yX8_placeOf ∈ hk_all := hk_im (hk_t4 146 rfl) rfl
set_option maxRecDepth 100000 in
theorem hw_945 : Cond.code yX8_placeOf cX8_placeOf 3 (some .int) ∈ hk_all := hk_im (hk_t4 147 rfl) rfl
set_option maxRecDepth 100000 in
theorem hw_946 : Cond.methodLink RX8 201 yX8_home ∈ hk_all := hk_im (hk_t4 148 rfl) rfl
set_option maxRecDepth 100000 in
theorem hw_948 : Cond.instanceMethod yX8_home ∈ hk_all := hk_im (hk_t4 150 rfl) rfl
set_option maxRecDepth 100000 in
theorem hw_949 : Cond.code yX8_home cX8_home 2 (some .int) ∈ hk_all := hk_im (hk_t4 151 rfl) rfl
set_option maxRecDepth 100000 in
theorem hw_950 : Cond.methodLink RX8 238 yX8_countKey ∈ hk_all := hk_im (hk_t4 152 rfl) rfl
set_option maxRecDepth 100000 in
theorem hw_952 : Cond.instanceMethod yX8_countKey ∈ hk_all := hk_im (hk_t4 154 rfl) rfl
set_option maxRecDepth 100000 in
theorem hw_953 : Cond.code yX8_countKey cX8_countKey 3 none ∈ hk_all := hk_im (hk_t4 155 rfl) rfl
set_option maxRecDepth 100000 in
theorem hw_954 : Cond.methodLink RX8 245 yX8_counterOf ∈ hk_all := hk_im (hk_t4 156 rfl) rfl
set_option maxRecDepth 100000 in
theorem hw_956 : Cond.instanceMethod yX8_counterOf ∈ hk_all := hk_im (hk_t4 158 rfl) rfl
set_option maxRecDepth 100000 in
theorem hw_957 : Cond.code yX8_counterOf cX8_counterOf 4 (some .int) ∈ hk_all := hk_im (hk_t4 159 rfl) rfl
set_option maxRecDepth 100000 in
theorem hw_958 : Cond.methodLink RX8 248 yX8_weakest ∈ hk_all := hk_im (hk_t4 160 rfl) rfl
set_option maxRecDepth 100000 in
theorem hw_960 : Cond.instanceMethod yX8_weakest ∈ hk_all := hk_im (hk_t4 162 rfl) rfl
set_option maxRecDepth 100000 in
theorem hw_961 : Cond.code yX8_weakest cX8_weakest 4 (some .int) ∈ hk_all := hk_im (hk_t4 163 rfl) rfl
set_option maxRecDepth 100000 in
theorem hw_962 : Cond.methodLink RX8 242 yX8_endRound ∈ hk_all := hk_im (hk_t4 164 rfl) rfl
set_option maxRecDepth 100000 in
theorem hw_964 : Cond.instanceMethod yX8_endRound ∈ hk_all := hk_im (hk_t4 166 rfl) rfl
set_option maxRecDepth 100000 in
theorem hw_965 : Cond.code yX8_endRound cX8_endRound 4 none ∈ hk_all := hk_im (hk_t4 167 rfl) rfl
set_option maxRecDepth 100000 in
theorem hw_966 : Cond.methodLink RX8 251 yX8_canSplit ∈ hk_all := hk_im (hk_t4 168 rfl) rfl
set_option maxRecDepth 100000 in
theorem hw_968 : Cond.instanceMethod yX8_canSplit ∈ hk_all := hk_im (hk_t4 170 rfl) rfl
set_option maxRecDepth 100000 in
theorem hw_969 : Cond.code yX8_canSplit cX8_canSplit 3 (some .boolean) ∈ hk_all := hk_im (hk_t4 171 rfl) rfl
set_option maxRecDepth 100000 in
theorem hw_970 : Cond.methodLink RX8 255 yX8_makeParts ∈ hk_all := hk_im (hk_t4 172 rfl) rfl
set_option maxRecDepth 100000 in
theorem hw_972 : Cond.instanceMethod yX8_makeParts ∈ hk_all := hk_im (hk_t4 174 rfl) rfl
set_option maxRecDepth 100000 in
theorem hw_973 : Cond.code yX8_makeParts cX8_makeParts 4 none ∈ hk_all := hk_im (hk_t4 175 rfl) rfl
set_option maxRecDepth 100000 in
theorem hw_974 : Cond.methodLink RX8 258 yX8_mostOf ∈ hk_all := hk_im (hk_t4 176 rfl) rfl
set_option maxRecDepth 100000 in
theorem hw_976 : Cond.instanceMethod yX8_mostOf ∈ hk_all := hk_im (hk_t4 178 rfl) rfl
set_option maxRecDepth 100000 in
theorem hw_977 : Cond.code yX8_mostOf cX8_mostOf 4 (some .int) ∈ hk_all := hk_im (hk_t4 179 rfl) rfl
set_option maxRecDepth 100000 in
theorem hw_978 : Cond.methodLink RX8 261 yX8_joinBack ∈ hk_all := hk_im (hk_t4 180 rfl) rfl
set_option maxRecDepth 100000 in
theorem hw_980 : Cond.instanceMethod yX8_joinBack ∈ hk_all := hk_im (hk_t4 182 rfl) rfl
set_option maxRecDepth 100000 in
theorem hw_981 : Cond.code yX8_joinBack cX8_joinBack 6 (some .int) ∈ hk_all := hk_im (hk_t4 183 rfl) rfl
set_option maxRecDepth 100000 in
theorem hw_982 : Cond.methodLink RX8 268 yX8_come ∈ hk_all := hk_im (hk_t4 184 rfl) rfl
set_option maxRecDepth 100000 in
theorem hw_984 : Cond.instanceMethod yX8_come ∈ hk_all := hk_im (hk_t4 186 rfl) rfl
set_option maxRecDepth 100000 in
theorem hw_985 : Cond.code yX8_come cX8_come 8 (some .long) ∈ hk_all := hk_im (hk_t4 187 rfl) rfl
set_option maxRecDepth 100000 in
theorem hw_986 : Cond.methodLink RX8 264 yX8_joinedOf ∈ hk_all := hk_im (hk_t4 188 rfl) rfl
set_option maxRecDepth 100000 in
theorem hw_987 : Cond.static yX8_joinedOf ∈ hk_all := hk_im (hk_t4 189 rfl) rfl
set_option maxRecDepth 100000 in
theorem hw_988 : Cond.code yX8_joinedOf cX8_joinedOf 6 (some .long) ∈ hk_all := hk_im (hk_t4 190 rfl) rfl
set_option maxRecDepth 100000 in
theorem hw_990 : Cond.instanceMethod yX8_state ∈ hk_all := hk_im (hk_t4 192 rfl) rfl
set_option maxRecDepth 100000 in
theorem hw_991 : Cond.selects RX8 yX8_state yX8_state ∈ hk_all := hk_im (hk_t4 193 rfl) rfl
set_option maxRecDepth 100000 in
theorem hw_992 : Cond.code yX8_state cX8_state 3 (some .long) ∈ hk_all := hk_im (hk_t4 194 rfl) rfl
set_option maxRecDepth 100000 in
theorem hw_994 : Cond.instanceMethod yX8_part ∈ hk_all := hk_im (hk_t4 196 rfl) rfl
set_option maxRecDepth 100000 in
theorem hw_995 : Cond.selects RX8 yX8_part yX8_part ∈ hk_all := hk_im (hk_t4 197 rfl) rfl
set_option maxRecDepth 100000 in
theorem hw_996 : Cond.code yX8_part cX8_part 5 (some .long) ∈ hk_all := hk_im (hk_t4 198 rfl) rfl
set_option maxRecDepth 100000 in
theorem hw_998 : Cond.instanceMethod yX8_parts ∈ hk_all := hk_im (hk_t4 200 rfl) rfl
set_option maxRecDepth 100000 in
theorem hw_999 : Cond.selects RX8 yX8_parts yX8_parts ∈ hk_all := hk_im (hk_t4 201 rfl) rfl
set_option maxRecDepth 100000 in
theorem hw_1000 : Cond.code yX8_parts cX8_parts 2 (some .int) ∈ hk_all := hk_im (hk_t4 202 rfl) rfl
set_option maxRecDepth 100000 in
theorem hw_1002 : Cond.instanceMethod yX8_place ∈ hk_all := hk_im (hk_t4 204 rfl) rfl
set_option maxRecDepth 100000 in
theorem hw_1003 : Cond.selects RX8 yX8_place yX8_place ∈ hk_all := hk_im (hk_t4 205 rfl) rfl
set_option maxRecDepth 100000 in
theorem hw_1004 : Cond.code yX8_place cX8_place 3 (some .int) ∈ hk_all := hk_im (hk_t4 206 rfl) rfl
set_option maxRecDepth 100000 in
theorem hw_1006 : Cond.instanceMethod yX8_split ∈ hk_all := hk_im (hk_t4 208 rfl) rfl
set_option maxRecDepth 100000 in
theorem hw_1007 : Cond.selects RX8 yX8_split yX8_split ∈ hk_all := hk_im (hk_t4 209 rfl) rfl
set_option maxRecDepth 100000 in
theorem hw_1008 : Cond.code yX8_split cX8_split 3 (some .int) ∈ hk_all := hk_im (hk_t4 210 rfl) rfl
set_option maxRecDepth 100000 in
theorem hw_1010 : Cond.instanceMethod yX8_back ∈ hk_all := hk_im (hk_t4 212 rfl) rfl
set_option maxRecDepth 100000 in
theorem hw_1011 : Cond.selects RX8 yX8_back yX8_back ∈ hk_all := hk_im (hk_t4 213 rfl) rfl
set_option maxRecDepth 100000 in
theorem hw_1012 : Cond.code yX8_back cX8_back 2 (some .int) ∈ hk_all := hk_im (hk_t4 214 rfl) rfl
set_option maxRecDepth 100000 in
theorem hw_1014 : Cond.instanceMethod yX8_tree ∈ hk_all := hk_im (hk_t4 216 rfl) rfl
set_option maxRecDepth 100000 in
theorem hw_1015 : Cond.selects RX8 yX8_tree yX8_tree ∈ hk_all := hk_im (hk_t4 217 rfl) rfl
set_option maxRecDepth 100000 in
theorem hw_1016 : Cond.code yX8_tree cX8_tree 8 (some .int) ∈ hk_all := hk_im (hk_t4 218 rfl) rfl
set_option maxRecDepth 100000 in
theorem hw_1018 : Cond.instanceMethod yX8_counter ∈ hk_all := hk_im (hk_t4 220 rfl) rfl
set_option maxRecDepth 100000 in
theorem hw_1019 : Cond.selects RX8 yX8_counter yX8_counter ∈ hk_all := hk_im (hk_t4 221 rfl) rfl
set_option maxRecDepth 100000 in
theorem hw_1020 : Cond.code yX8_counter cX8_counter 3 (some .int) ∈ hk_all := hk_im (hk_t4 222 rfl) rfl
set_option maxRecDepth 100000 in
theorem hw_1022 : Cond.instanceMethod yX8_hot ∈ hk_all := hk_im (hk_t4 224 rfl) rfl
set_option maxRecDepth 100000 in
theorem hw_1023 : Cond.selects RX8 yX8_hot yX8_hot ∈ hk_all := hk_im (hk_t4 225 rfl) rfl
set_option maxRecDepth 100000 in
theorem hw_1024 : Cond.code yX8_hot cX8_hot 4 (some .int) ∈ hk_all := hk_im (hk_t4 226 rfl) rfl
set_option maxRecDepth 100000 in
theorem hw_1026 : Cond.instanceMethod yX8_splitKey ∈ hk_all := hk_im (hk_t4 228 rfl) rfl
set_option maxRecDepth 100000 in
theorem hw_1027 : Cond.selects RX8 yX8_splitKey yX8_splitKey ∈ hk_all := hk_im (hk_t4 229 rfl) rfl
set_option maxRecDepth 100000 in
theorem hw_1028 : Cond.code yX8_splitKey cX8_splitKey 4 (some .int) ∈ hk_all := hk_im (hk_t4 230 rfl) rfl
set_option maxRecDepth 100000 in
theorem hw_1030 : Cond.instanceMethod yX8_load ∈ hk_all := hk_im (hk_t4 232 rfl) rfl
set_option maxRecDepth 100000 in
theorem hw_1031 : Cond.selects RX8 yX8_load yX8_load ∈ hk_all := hk_im (hk_t4 233 rfl) rfl
set_option maxRecDepth 100000 in
theorem hw_1032 : Cond.code yX8_load cX8_load 2 (some .int) ∈ hk_all := hk_im (hk_t4 234 rfl) rfl
set_option maxRecDepth 100000 in
theorem hw_1034 : Cond.instanceMethod yX8_small ∈ hk_all := hk_im (hk_t4 236 rfl) rfl
set_option maxRecDepth 100000 in
theorem hw_1035 : Cond.selects RX8 yX8_small yX8_small ∈ hk_all := hk_im (hk_t4 237 rfl) rfl
set_option maxRecDepth 100000 in
theorem hw_1036 : Cond.code yX8_small cX8_small 3 (some .int) ∈ hk_all := hk_im (hk_t4 238 rfl) rfl
set_option maxRecDepth 100000 in
theorem hw_1038 : Cond.instanceMethod yX8_copies ∈ hk_all := hk_im (hk_t5 0 rfl) rfl
set_option maxRecDepth 100000 in
theorem hw_1039 : Cond.selects RX8 yX8_copies yX8_copies ∈ hk_all := hk_im (hk_t5 1 rfl) rfl
set_option maxRecDepth 100000 in
theorem hw_1040 : Cond.code yX8_copies cX8_copies 5 (some .int) ∈ hk_all := hk_im (hk_t5 2 rfl) rfl
set_option maxRecDepth 100000 in
theorem hw_1042 : Cond.instanceMethod yX8_out ∈ hk_all := hk_im (hk_t5 4 rfl) rfl
set_option maxRecDepth 100000 in
theorem hw_1043 : Cond.selects RX8 yX8_out yX8_out ∈ hk_all := hk_im (hk_t5 5 rfl) rfl
set_option maxRecDepth 100000 in
theorem hw_1044 : Cond.code yX8_out cX8_out 1 (some .long) ∈ hk_all := hk_im (hk_t5 6 rfl) rfl
set_option maxRecDepth 100000 in
theorem hw_1046 : Cond.instanceMethod yX8_timer ∈ hk_all := hk_im (hk_t5 8 rfl) rfl
set_option maxRecDepth 100000 in
theorem hw_1047 : Cond.selects RX8 yX8_timer yX8_timer ∈ hk_all := hk_im (hk_t5 9 rfl) rfl
set_option maxRecDepth 100000 in
theorem hw_1048 : Cond.code yX8_timer cX8_timer 3 (some .int) ∈ hk_all := hk_im (hk_t5 10 rfl) rfl
set_option maxRecDepth 100000 in
theorem hw_1049 : Cond.constant RX8 272 1000000 ∈ hk_all := hk_im (hk_t5 11 rfl) rfl
set_option maxRecDepth 100000 in
theorem hw_1051 : Cond.instanceMethod yX8_tick ∈ hk_all := hk_im (hk_t5 13 rfl) rfl
set_option maxRecDepth 100000 in
theorem hw_1052 : Cond.selects RX8 yX8_tick yX8_tick ∈ hk_all := hk_im (hk_t5 14 rfl) rfl
set_option maxRecDepth 100000 in
theorem hw_1053 : Cond.code yX8_tick cX8_tick 4 (some .int) ∈ hk_all := hk_im (hk_t5 15 rfl) rfl
set_option maxRecDepth 100000 in
theorem hw_1054 : Cond.methodLink RX8 273 yX8_due ∈ hk_all := hk_im (hk_t5 16 rfl) rfl
set_option maxRecDepth 100000 in
theorem hw_1056 : Cond.instanceMethod yX8_due ∈ hk_all := hk_im (hk_t5 18 rfl) rfl
set_option maxRecDepth 100000 in
theorem hw_1057 : Cond.code yX8_due cX8_due 5 (some .int) ∈ hk_all := hk_im (hk_t5 19 rfl) rfl
set_option maxRecDepth 100000 in
theorem hw_1058 : Cond.methodLink RX8 276 yX8_ring ∈ hk_all := hk_im (hk_t5 20 rfl) rfl
set_option maxRecDepth 100000 in
theorem hw_1060 : Cond.instanceMethod yX8_ring ∈ hk_all := hk_im (hk_t5 22 rfl) rfl
set_option maxRecDepth 100000 in
theorem hw_1061 : Cond.code yX8_ring cX8_ring 5 none ∈ hk_all := hk_im (hk_t5 23 rfl) rfl
set_option maxRecDepth 100000 in
theorem hw_1063 : Cond.instanceMethod yX8_log ∈ hk_all := hk_im (hk_t5 25 rfl) rfl
set_option maxRecDepth 100000 in
theorem hw_1064 : Cond.selects RX8 yX8_log yX8_log ∈ hk_all := hk_im (hk_t5 26 rfl) rfl
set_option maxRecDepth 100000 in
theorem hw_1065 : Cond.code yX8_log cX8_log 4 (some .long) ∈ hk_all := hk_im (hk_t5 27 rfl) rfl
set_option maxRecDepth 100000 in
theorem hw_1066 : Cond.methodLink RX8 279 yX8_keptLogs ∈ hk_all := hk_im (hk_t5 28 rfl) rfl
set_option maxRecDepth 100000 in
theorem hw_1068 : Cond.instanceMethod yX8_keptLogs ∈ hk_all := hk_im (hk_t5 30 rfl) rfl
set_option maxRecDepth 100000 in
theorem hw_1069 : Cond.code yX8_keptLogs cX8_keptLogs 1 (some .int) ∈ hk_all := hk_im (hk_t5 31 rfl) rfl
set_option maxRecDepth 100000 in
theorem hw_1071 : Cond.instanceMethod yX8_mark ∈ hk_all := hk_im (hk_t5 33 rfl) rfl
set_option maxRecDepth 100000 in
theorem hw_1072 : Cond.selects RX8 yX8_mark yX8_mark ∈ hk_all := hk_im (hk_t5 34 rfl) rfl
set_option maxRecDepth 100000 in
theorem hw_1073 : Cond.code yX8_mark cX8_mark 4 (some .int) ∈ hk_all := hk_im (hk_t5 35 rfl) rfl
set_option maxRecDepth 100000 in
theorem hw_1075 : Cond.instanceMethod yX8_restore ∈ hk_all := hk_im (hk_t5 37 rfl) rfl
set_option maxRecDepth 100000 in
theorem hw_1076 : Cond.selects RX8 yX8_restore yX8_restore ∈ hk_all := hk_im (hk_t5 38 rfl) rfl
set_option maxRecDepth 100000 in
theorem hw_1077 : Cond.code yX8_restore cX8_restore 4 (some .int) ∈ hk_all := hk_im (hk_t5 39 rfl) rfl
set_option maxRecDepth 100000 in
theorem hw_1079 : Cond.instanceMethod yX8_told ∈ hk_all := hk_im (hk_t5 41 rfl) rfl
set_option maxRecDepth 100000 in
theorem hw_1080 : Cond.selects RX8 yX8_told yX8_told ∈ hk_all := hk_im (hk_t5 42 rfl) rfl
set_option maxRecDepth 100000 in
theorem hw_1081 : Cond.code yX8_told cX8_told 2 (some .int) ∈ hk_all := hk_im (hk_t5 43 rfl) rfl
set_option maxRecDepth 100000 in
theorem hw_1083 : Cond.instanceMethod yX8_clear ∈ hk_all := hk_im (hk_t5 45 rfl) rfl
set_option maxRecDepth 100000 in
theorem hw_1084 : Cond.selects RX8 yX8_clear yX8_clear ∈ hk_all := hk_im (hk_t5 46 rfl) rfl
set_option maxRecDepth 100000 in
theorem hw_1085 : Cond.code yX8_clear cX8_clear 2 (some .int) ∈ hk_all := hk_im (hk_t5 47 rfl) rfl
theorem ih_X0 : ∀ w ∈ u_ws RX0 TX0 5, w ∈ hk_all := by decide +kernel
theorem ih_X1 : ∀ w ∈ u_ws RX1 TX1 3, w ∈ hk_all := by decide +kernel
theorem ih_X2 : ∀ w ∈ u_ws RX2 TX2 6, w ∈ hk_all := by decide +kernel
theorem ih_X3 : ∀ w ∈ u_ws RX3 TX3 3, w ∈ hk_all := by decide +kernel
theorem ih_X4 : ∀ w ∈ u_ws RX4 TX4 6, w ∈ hk_all := by decide +kernel
theorem ih_X5 : ∀ w ∈ u_ws RX5 TX5 5, w ∈ hk_all := by decide +kernel
theorem ih_X6 : ∀ w ∈ u_ws RX6 TX6 4, w ∈ hk_all := by decide +kernel
theorem ih_X7 : ∀ w ∈ u_ws RX7 TX7 18, w ∈ hk_all := by decide +kernel
theorem ih_X8 : ∀ w ∈ u_ws RX8 TX8 52, w ∈ hk_all := by decide +kernel
