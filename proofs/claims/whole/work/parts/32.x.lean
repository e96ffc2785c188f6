def wp_x_parts (p1 : Int32) (ks_partCounts : Nat → Int32) (post : Int32 → Prop) : Prop := wp_x_isKey p1 (fun (r1 : Int32) => (r1 = 0 → post (-101)) ∧ (¬ r1 = 0 → wp_ks_partCount p1 ks_partCounts (fun (r3 : Int32) => post r3)))
theorem mm_x_parts : hk_MV yX7_parts cX7_parts 2 (some .int) 1 := ⟨hw_522, hw_520, hw_521, hw_79, by decide +kernel⟩
set_option maxRecDepth 100000 in
set_option maxHeartbeats 4000000 in
theorem c_x_parts (l : Launch) (D : va_G) (cI cJ cZ cM : ClassId) (h_x : Nat) (a_x : Nat → Nat) (h_cn : Nat) (a_cn : Nat → Nat) (h_sm : Nat) (a_sm : Nat → Nat) (h_ti : Nat) (a_ti : Nat → Nat) (h_lg : Nat) (a_lg : Nat → Nat) (h_ks : Nat) (a_ks : Nat → Nat) (h_fo : Nat) (a_fo : Nat → Nat)  (x_places : Int32) (x_round : Int32) (x_threshold : Int32) (x_slack : Int32) (x_marks : Nat → Option Nat) (x_loads : Nat → Int32) (x_markCount : Int32) (x_rows : Int32) (x_roundRows : Int32) (x_rounds : Int32) (x_flips : Int32) (x_passedOver : Int32) (cn_keys : Nat → Int32) (cn_counts : Nat → Int32) (cn_errors : Nat → Int32) (cn_limit : Int32) (cn_used : Int32) (sm_keys : Nat → Int32) (sm_weights : Nat → Int32) (sm_count : Int32) (sm_matches : Int32) (sm_out : Int64) (ti_keys : Nat → Int32) (ti_times : Nat → Int32) (ti_count : Int32) (ti_now : Int32) (lg_cells : Nat → Int64) (lg_newest : Int32) (lg_kept : Int32) (ks_partCounts : Nat → Int32) (ks_states : Nat → Int64) (ks_latestRows : Nat → Int32) (ks_latestValues : Nat → Int64) (ks_moved : Int32) (fo_kinds : Nat → Int32) (fo_declared : Nat → Int32) (fo_count : Int32) (p1 : Int32) (post : Int32 → Prop) (h : wp_x_parts p1 ks_partCounts post) : Met l yX7_parts (hk_ws yX7_parts cX7_parts 2 (some .int)) (hk_rm 2 42) (va_Pc [.ref h_x, .int p1] (hk_PR D (hk_ty cI cJ cZ cM) (wv_x cI cJ cZ cM h_x a_x x_places x_round x_threshold x_slack h_fo h_ks h_cn h_sm h_ti h_lg x_marks x_loads x_markCount x_rows x_roundRows x_rounds x_flips x_passedOver ++ (wv_cn cI cJ cZ cM h_cn a_cn cn_keys cn_counts cn_errors cn_limit cn_used ++ (wv_sm cI cJ cZ cM h_sm a_sm sm_keys sm_weights sm_count sm_matches sm_out ++ (wv_ti cI cJ cZ cM h_ti a_ti ti_keys ti_times ti_count ti_now ++ (wv_lg cI cJ cZ cM h_lg a_lg lg_cells lg_newest lg_kept ++ (wv_ks cI cJ cZ cM h_ks a_ks h_fo ks_partCounts ks_states ks_latestRows ks_latestValues ks_moved ++ (wv_fo cI cJ cZ cM h_fo a_fo fo_kinds fo_declared fo_count))))))))) (vp_Si post) 0 0 (fun _ => False) := by
  refine Met.ofW (cc := cX7_parts) (maxL := 2) (ret := (some .int)) (by decide) rfl ?_
  intro p e s m args below meth c s₁ B hml hv
  obtain ⟨rfl, hP, hK, hN⟩ := hv
  have hx := B.exec
  have hb := B.bytes
  have hr := B.returns
  have hts := atoms_spec (ws := hk_ws yX7_parts cX7_parts 2 (some .int)) B.pre
  have hta : ∀ w ∈ hk_all, w.before ([.ref h_x, .int p1] : List Value).toArray s = true := fun w hw => hts w (List.mem_cons_of_mem _ hw)
  have hown : s.vm.findClass RX7 = some m.cls := findClass_of_methodNamed B.named
  have hlocks := B.notSynchronized
  have S0 : CallFix p m c cX7_parts 2 s ([.ref h_x, .int p1] : List Value).toArray hk_all RX7 := ⟨hx, hb, hml, hown, hta⟩
  have hl := lv_entry ([.ref h_x, .int p1]) (n := 2) (Nat.le_of_ble_eq_true rfl)
  rw [lg_entry_eq]
  generalize (lg_sl ([.ref h_x, .int p1]) ++ List.replicate (2 - (lg_sl ([.ref h_x, .int p1])).length) Slot.unset).toArray = ls at hl ⊢
  have hl : lv_has ls 2 [(0, .ref h_x), (1, .int p1)] := hl
  unfold wp_x_parts at h
  refine lv_iload_n hx hb dX7_parts_0 rfl (lv_at hl 1 rfl) ?_
  refine vp_callSi (hk_runS (As := [.int p1]) (rest := []) S0 mm_x_isKey (c_x_isKey l D cI cJ cZ cM p1 _ h) hw_370 hk_blR (hk_atR (hP.sub (ws' := ([] : va_W)) [] rfl) hK hN) ⟨rfl, rfl, Nat.le_of_ble_eq_true rfl, Nat.le_of_ble_eq_true rfl⟩ rfl hl.1 rfl (Nat.le_of_ble_eq_true rfl) dX7_parts_1 ⟨Nat.le_of_ble_eq_true rfl, Nat.le_of_ble_eq_true rfl⟩).run (fun r1 h => ?_)
  refine lv_if_eq (tgt := 18) hx hb dX7_parts_4 (by decide) (fun c2 => ?_) (fun c2 => ?_)
  · have h := h.1 c2
    refine lv_bipush (v := (-101)) hx hb dX7_parts_18 (by decide) ?_
    exact W.iret (v := (-101)) hx hb hr (fun t ht hW => ⟨_, rfl, h, ht⟩) (fun _ hq => by cases hq) dX7_parts_20
  · have h := h.2 c2
    refine lv_aload_n hx hb dX7_parts_7 rfl (lv_at hl 0 rfl) ?_
    refine va_get (D := D) (ci := 7) (v := .ref h_ks) (C := RX7) (T := TX7) (N := 18) hx hb hta ih_X7 hown hK hP 0 rfl rfl 5 (by decide) (hta _ hw_279) (fun _ h9 => h9) rfl dX7_parts_8 ?_
    refine lv_iload_n hx hb dX7_parts_11 rfl (lv_at hl 1 rfl) ?_
    refine vp_callSi (hk_runVN (As := [.int p1]) (rest := []) S0 mm_ks_partCount (c_ks_partCount l D cI cJ cZ cM h_ks a_ks h_fo a_fo ks_partCounts ks_states ks_latestRows ks_latestValues ks_moved fo_kinds fo_declared fo_count p1 _ h) (hN.1 _ hn_373) hk_blR (hk_atR (hP.sub (ws' := (wv_ks cI cJ cZ cM h_ks a_ks h_fo ks_partCounts ks_states ks_latestRows ks_latestValues ks_moved) ++ (wv_fo cI cJ cZ cM h_fo a_fo fo_kinds fo_declared fo_count)) [15, 16, 17, 18, 19, 20, 21, 22] rfl) hK hN) (va_recv hK hP (ci := 2) (q0 := 15) rfl rfl) ⟨rfl, rfl, Nat.le_of_ble_eq_true rfl, Nat.le_of_ble_eq_true rfl⟩ rfl hl.1 rfl (Nat.le_of_ble_eq_true rfl) dX7_parts_12 ⟨Nat.le_of_ble_eq_true rfl, Nat.le_of_ble_eq_true rfl⟩).run (fun r3 h => ?_)
    refine lv_goto (tgt := 20) hx hb dX7_parts_15 (by decide) ?_
    exact W.iret (v := r3) hx hb hr (fun t ht hW => ⟨_, rfl, h, ht⟩) (fun _ hq => by cases hq) dX7_parts_20
def wp_x_place (p1 : Int32) (p2 : Int32) (x_places : Int32) (ks_partCounts : Nat → Int32) (post : Int32 → Prop) : Prop := wp_x_isKey p1 (fun (r1 : Int32) => (¬ r1 = 0 → wp_ks_hasPart p1 p2 ks_partCounts (fun (r3 : Int32) => (r3 = 0 → post (-1)) ∧ (¬ r3 = 0 → wp_x_placeOfPart p1 p2 x_places (fun (r5 : Int32) => post r5)))) ∧ (r1 = 0 → post (-101)))
theorem mm_x_place : hk_MV yX7_place cX7_place 3 (some .int) 2 := ⟨hw_526, hw_524, hw_525, hw_79, by decide +kernel⟩
set_option maxRecDepth 100000 in
set_option maxHeartbeats 4000000 in
theorem c_x_place (l : Launch) (D : va_G) (cI cJ cZ cM : ClassId) (h_x : Nat) (a_x : Nat → Nat) (h_cn : Nat) (a_cn : Nat → Nat) (h_sm : Nat) (a_sm : Nat → Nat) (h_ti : Nat) (a_ti : Nat → Nat) (h_lg : Nat) (a_lg : Nat → Nat) (h_ks : Nat) (a_ks : Nat → Nat) (h_fo : Nat) (a_fo : Nat → Nat)  (x_places : Int32) (x_round : Int32) (x_threshold : Int32) (x_slack : Int32) (x_marks : Nat → Option Nat) (x_loads : Nat → Int32) (x_markCount : Int32) (x_rows : Int32) (x_roundRows : Int32) (x_rounds : Int32) (x_flips : Int32) (x_passedOver : Int32) (cn_keys : Nat → Int32) (cn_counts : Nat → Int32) (cn_errors : Nat → Int32) (cn_limit : Int32) (cn_used : Int32) (sm_keys : Nat → Int32) (sm_weights : Nat → Int32) (sm_count : Int32) (sm_matches : Int32) (sm_out : Int64) (ti_keys : Nat → Int32) (ti_times : Nat → Int32) (ti_count : Int32) (ti_now : Int32) (lg_cells : Nat → Int64) (lg_newest : Int32) (lg_kept : Int32) (ks_partCounts : Nat → Int32) (ks_states : Nat → Int64) (ks_latestRows : Nat → Int32) (ks_latestValues : Nat → Int64) (ks_moved : Int32) (fo_kinds : Nat → Int32) (fo_declared : Nat → Int32) (fo_count : Int32) (p1 : Int32) (p2 : Int32) (post : Int32 → Prop) (h : wp_x_place p1 p2 x_places ks_partCounts post) : Met l yX7_place (hk_ws yX7_place cX7_place 3 (some .int)) (hk_rm 2 44) (va_Pc [.ref h_x, .int p1, .int p2] (hk_PR D (hk_ty cI cJ cZ cM) (wv_x cI cJ cZ cM h_x a_x x_places x_round x_threshold x_slack h_fo h_ks h_cn h_sm h_ti h_lg x_marks x_loads x_markCount x_rows x_roundRows x_rounds x_flips x_passedOver ++ (wv_cn cI cJ cZ cM h_cn a_cn cn_keys cn_counts cn_errors cn_limit cn_used ++ (wv_sm cI cJ cZ cM h_sm a_sm sm_keys sm_weights sm_count sm_matches sm_out ++ (wv_ti cI cJ cZ cM h_ti a_ti ti_keys ti_times ti_count ti_now ++ (wv_lg cI cJ cZ cM h_lg a_lg lg_cells lg_newest lg_kept ++ (wv_ks cI cJ cZ cM h_ks a_ks h_fo ks_partCounts ks_states ks_latestRows ks_latestValues ks_moved ++ (wv_fo cI cJ cZ cM h_fo a_fo fo_kinds fo_declared fo_count))))))))) (vp_Si post) 0 0 (fun _ => False) := by
  refine Met.ofW (cc := cX7_place) (maxL := 3) (ret := (some .int)) (by decide) rfl ?_
  intro p e s m args below meth c s₁ B hml hv
  obtain ⟨rfl, hP, hK, hN⟩ := hv
  have hx := B.exec
  have hb := B.bytes
  have hr := B.returns
  have hts := atoms_spec (ws := hk_ws yX7_place cX7_place 3 (some .int)) B.pre
  have hta : ∀ w ∈ hk_all, w.before ([.ref h_x, .int p1, .int p2] : List Value).toArray s = true := fun w hw => hts w (List.mem_cons_of_mem _ hw)
  have hown : s.vm.findClass RX7 = some m.cls := findClass_of_methodNamed B.named
  have hlocks := B.notSynchronized
  have S0 : CallFix p m c cX7_place 3 s ([.ref h_x, .int p1, .int p2] : List Value).toArray hk_all RX7 := ⟨hx, hb, hml, hown, hta⟩
  have hl := lv_entry ([.ref h_x, .int p1, .int p2]) (n := 3) (Nat.le_of_ble_eq_true rfl)
  rw [lg_entry_eq]
  generalize (lg_sl ([.ref h_x, .int p1, .int p2]) ++ List.replicate (3 - (lg_sl ([.ref h_x, .int p1, .int p2])).length) Slot.unset).toArray = ls at hl ⊢
  have hl : lv_has ls 3 [(0, .ref h_x), (1, .int p1), (2, .int p2)] := hl
  unfold wp_x_place at h
  refine lv_iload_n hx hb dX7_place_0 rfl (lv_at hl 1 rfl) ?_
  refine vp_callSi (hk_runS (As := [.int p1]) (rest := []) S0 mm_x_isKey (c_x_isKey l D cI cJ cZ cM p1 _ h) hw_370 hk_blR (hk_atR (hP.sub (ws' := ([] : va_W)) [] rfl) hK hN) ⟨rfl, rfl, Nat.le_of_ble_eq_true rfl, Nat.le_of_ble_eq_true rfl⟩ rfl hl.1 rfl (Nat.le_of_ble_eq_true rfl) dX7_place_1 ⟨Nat.le_of_ble_eq_true rfl, Nat.le_of_ble_eq_true rfl⟩).run (fun r1 h => ?_)
  refine lv_if_ne (tgt := 10) hx hb dX7_place_4 (by decide) (fun c2 => ?_) (fun c2 => ?_)
  · have h := h.1 c2
    refine lv_aload_n hx hb dX7_place_10 rfl (lv_at hl 0 rfl) ?_
    refine va_get (D := D) (ci := 7) (v := .ref h_ks) (C := RX7) (T := TX7) (N := 18) hx hb hta ih_X7 hown hK hP 0 rfl rfl 5 (by decide) (hta _ hw_279) (fun _ h9 => h9) rfl dX7_place_11 ?_
    refine lv_iload_n hx hb dX7_place_14 rfl (lv_at hl 1 rfl) ?_
    refine lv_iload_n hx hb dX7_place_15 rfl (lv_at hl 2 rfl) ?_
    refine vp_callSi (hk_runVN (As := [.int p1, .int p2]) (rest := []) S0 mm_ks_hasPart (c_ks_hasPart l D cI cJ cZ cM h_ks a_ks h_fo a_fo ks_partCounts ks_states ks_latestRows ks_latestValues ks_moved fo_kinds fo_declared fo_count p1 p2 _ h) (hN.1 _ hn_510) hk_blR (hk_atR (hP.sub (ws' := (wv_ks cI cJ cZ cM h_ks a_ks h_fo ks_partCounts ks_states ks_latestRows ks_latestValues ks_moved) ++ (wv_fo cI cJ cZ cM h_fo a_fo fo_kinds fo_declared fo_count)) [15, 16, 17, 18, 19, 20, 21, 22] rfl) hK hN) (va_recv hK hP (ci := 2) (q0 := 15) rfl rfl) ⟨rfl, rfl, Nat.le_of_ble_eq_true rfl, Nat.le_of_ble_eq_true rfl⟩ rfl hl.1 rfl (Nat.le_of_ble_eq_true rfl) dX7_place_16 ⟨Nat.le_of_ble_eq_true rfl, Nat.le_of_ble_eq_true rfl⟩).run (fun r3 h => ?_)
    refine lv_if_eq (tgt := 31) hx hb dX7_place_19 (by decide) (fun c4 => ?_) (fun c4 => ?_)
    · have h := h.1 c4
      refine lv_iconst (v := (-1)) hx hb dX7_place_31 (by decide) ?_
      exact W.iret (v := (-1)) hx hb hr (fun t ht hW => ⟨_, rfl, h, ht⟩) (fun _ hq => by cases hq) dX7_place_32
    · have h := h.2 c4
      refine lv_aload_n hx hb dX7_place_22 rfl (lv_at hl 0 rfl) ?_
      refine lv_iload_n hx hb dX7_place_23 rfl (lv_at hl 1 rfl) ?_
      refine lv_iload_n hx hb dX7_place_24 rfl (lv_at hl 2 rfl) ?_
      refine vp_callSi (hk_runV (As := [.int p1, .int p2]) (rest := []) S0 mm_x_placeOfPart (c_x_placeOfPart l D cI cJ cZ cM h_x a_x h_cn a_cn h_sm a_sm h_ti a_ti h_lg a_lg h_ks a_ks h_fo a_fo x_places x_round x_threshold x_slack x_marks x_loads x_markCount x_rows x_roundRows x_rounds x_flips x_passedOver cn_keys cn_counts cn_errors cn_limit cn_used sm_keys sm_weights sm_count sm_matches sm_out ti_keys ti_times ti_count ti_now lg_cells lg_newest lg_kept ks_partCounts ks_states ks_latestRows ks_latestValues ks_moved fo_kinds fo_declared fo_count p1 p2 _ h) hw_384 hk_blR (hk_atR hP hK hN) (va_recv hK hP (ci := 7) (q0 := 0) rfl rfl) ⟨rfl, rfl, Nat.le_of_ble_eq_true rfl, Nat.le_of_ble_eq_true rfl⟩ rfl hl.1 rfl (Nat.le_of_ble_eq_true rfl) dX7_place_25 ⟨Nat.le_of_ble_eq_true rfl, Nat.le_of_ble_eq_true rfl⟩).run (fun r5 h => ?_)
      refine lv_goto (tgt := 32) hx hb dX7_place_28 (by decide) ?_
      exact W.iret (v := r5) hx hb hr (fun t ht hW => ⟨_, rfl, h, ht⟩) (fun _ hq => by cases hq) dX7_place_32
  · have h := h.2 c2
    refine lv_bipush (v := (-101)) hx hb dX7_place_7 (by decide) ?_
    exact W.iret (v := (-101)) hx hb hr (fun t ht hW => ⟨_, rfl, h, ht⟩) (fun _ hq => by cases hq) dX7_place_9
def wp_x_split (p1 : Int32) (p2 : Int32) (x_places : Int32) (ks_partCounts : Nat → Int32) (ks_states : Nat → Int64) (ks_latestRows : Nat → Int32) (fo_kinds : Nat → Int32) (fo_declared : Nat → Int32) (fo_count : Int32) (post : Int32 → ((Nat → Int32) × (Nat → Int64) × (Nat → Int32)) → Prop) : Prop := wp_x_isKey p1 (fun (r1 : Int32) => (¬ r1 = 0 → wp_x_isWithin p2 2 x_places (fun (r3 : Int32) => (¬ r3 = 0 → wp_ks_isSplit p1 ks_partCounts (fun (r5 : Int32) => (¬ r5 = 0 → post (-103) (ks_partCounts, ks_states, ks_latestRows)) ∧ (r5 = 0 → wp_fo_allCanBeJoined fo_kinds fo_declared fo_count (fun (r7 : Int32) => (¬ r7 = 0 → wp_ks_breakUp p1 p2 ks_partCounts ks_states ks_latestRows fo_kinds fo_count (fun (w9 : (Nat → Int32) × (Nat → Int64) × (Nat → Int32)) => post 1 (w9.1, w9.2.1, w9.2.2))) ∧ (r7 = 0 → post (-103) (ks_partCounts, ks_states, ks_latestRows)))))) ∧ (r3 = 0 → post (-102) (ks_partCounts, ks_states, ks_latestRows)))) ∧ (r1 = 0 → post (-101) (ks_partCounts, ks_states, ks_latestRows)))
theorem mm_x_split : hk_MV yX7_split cX7_split 3 (some .int) 2 := ⟨hw_530, hw_528, hw_529, hw_79, by decide +kernel⟩
set_option maxRecDepth 100000 in
set_option maxHeartbeats 4000000 in
theorem c_x_split (l : Launch) (D : va_G) (cI cJ cZ cM : ClassId) (h_x : Nat) (a_x : Nat → Nat) (h_cn : Nat) (a_cn : Nat → Nat) (h_sm : Nat) (a_sm : Nat → Nat) (h_ti : Nat) (a_ti : Nat → Nat) (h_lg : Nat) (a_lg : Nat → Nat) (h_ks : Nat) (a_ks : Nat → Nat) (h_fo : Nat) (a_fo : Nat → Nat) (sz : Nat) (x_places : Int32) (x_round : Int32) (x_threshold : Int32) (x_slack : Int32) (x_marks : Nat → Option Nat) (x_loads : Nat → Int32) (x_markCount : Int32) (x_rows : Int32) (x_roundRows : Int32) (x_rounds : Int32) (x_flips : Int32) (x_passedOver : Int32) (cn_keys : Nat → Int32) (cn_counts : Nat → Int32) (cn_errors : Nat → Int32) (cn_limit : Int32) (cn_used : Int32) (sm_keys : Nat → Int32) (sm_weights : Nat → Int32) (sm_count : Int32) (sm_matches : Int32) (sm_out : Int64) (ti_keys : Nat → Int32) (ti_times : Nat → Int32) (ti_count : Int32) (ti_now : Int32) (lg_cells : Nat → Int64) (lg_newest : Int32) (lg_kept : Int32) (ks_partCounts : Nat → Int32) (ks_states : Nat → Int64) (ks_latestRows : Nat → Int32) (ks_latestValues : Nat → Int64) (ks_moved : Int32) (fo_kinds : Nat → Int32) (fo_declared : Nat → Int32) (fo_count : Int32) (p1 : Int32) (p2 : Int32) (post : Int32 → ((Nat → Int32) × (Nat → Int64) × (Nat → Int32)) → Prop) (h : wp_x_split p1 p2 x_places ks_partCounts ks_states ks_latestRows fo_kinds fo_declared fo_count post) : Met l yX7_split (hk_ws yX7_split cX7_split 3 (some .int)) (hk_rm 3 68) (va_Pc [.ref h_x, .int p1, .int p2] (hk_PM D (hk_ty cI cJ cZ cM) sz (wv_x cI cJ cZ cM h_x a_x x_places x_round x_threshold x_slack h_fo h_ks h_cn h_sm h_ti h_lg x_marks x_loads x_markCount x_rows x_roundRows x_rounds x_flips x_passedOver ++ (wv_cn cI cJ cZ cM h_cn a_cn cn_keys cn_counts cn_errors cn_limit cn_used ++ (wv_sm cI cJ cZ cM h_sm a_sm sm_keys sm_weights sm_count sm_matches sm_out ++ (wv_ti cI cJ cZ cM h_ti a_ti ti_keys ti_times ti_count ti_now ++ (wv_lg cI cJ cZ cM h_lg a_lg lg_cells lg_newest lg_kept ++ (wv_ks cI cJ cZ cM h_ks a_ks h_fo ks_partCounts ks_states ks_latestRows ks_latestValues ks_moved ++ (wv_fo cI cJ cZ cM h_fo a_fo fo_kinds fo_declared fo_count))))))))) (va_Qi post (hk_B D (va_A (wv_x cI cJ cZ cM h_x a_x x_places x_round x_threshold x_slack h_fo h_ks h_cn h_sm h_ti h_lg x_marks x_loads x_markCount x_rows x_roundRows x_rounds x_flips x_passedOver ++ (wv_cn cI cJ cZ cM h_cn a_cn cn_keys cn_counts cn_errors cn_limit cn_used ++ (wv_sm cI cJ cZ cM h_sm a_sm sm_keys sm_weights sm_count sm_matches sm_out ++ (wv_ti cI cJ cZ cM h_ti a_ti ti_keys ti_times ti_count ti_now ++ (wv_lg cI cJ cZ cM h_lg a_lg lg_cells lg_newest lg_kept ++ (wv_ks cI cJ cZ cM h_ks a_ks h_fo ks_partCounts ks_states ks_latestRows ks_latestValues ks_moved ++ (wv_fo cI cJ cZ cM h_fo a_fo fo_kinds fo_declared fo_count))))))) sz) (fun (u : (Nat → Int32) × (Nat → Int64) × (Nat → Int32)) => wv_x cI cJ cZ cM h_x a_x x_places x_round x_threshold x_slack h_fo h_ks h_cn h_sm h_ti h_lg x_marks x_loads x_markCount x_rows x_roundRows x_rounds x_flips x_passedOver ++ (wv_cn cI cJ cZ cM h_cn a_cn cn_keys cn_counts cn_errors cn_limit cn_used ++ (wv_sm cI cJ cZ cM h_sm a_sm sm_keys sm_weights sm_count sm_matches sm_out ++ (wv_ti cI cJ cZ cM h_ti a_ti ti_keys ti_times ti_count ti_now ++ (wv_lg cI cJ cZ cM h_lg a_lg lg_cells lg_newest lg_kept ++ (wv_ks cI cJ cZ cM h_ks a_ks h_fo u.1 u.2.1 u.2.2 ks_latestValues ks_moved ++ (wv_fo cI cJ cZ cM h_fo a_fo fo_kinds fo_declared fo_count)))))))) (va_A (wv_x cI cJ cZ cM h_x a_x x_places x_round x_threshold x_slack h_fo h_ks h_cn h_sm h_ti h_lg x_marks x_loads x_markCount x_rows x_roundRows x_rounds x_flips x_passedOver ++ (wv_cn cI cJ cZ cM h_cn a_cn cn_keys cn_counts cn_errors cn_limit cn_used ++ (wv_sm cI cJ cZ cM h_sm a_sm sm_keys sm_weights sm_count sm_matches sm_out ++ (wv_ti cI cJ cZ cM h_ti a_ti ti_keys ti_times ti_count ti_now ++ (wv_lg cI cJ cZ cM h_lg a_lg lg_cells lg_newest lg_kept ++ (wv_ks cI cJ cZ cM h_ks a_ks h_fo ks_partCounts ks_states ks_latestRows ks_latestValues ks_moved ++ (wv_fo cI cJ cZ cM h_fo a_fo fo_kinds fo_declared fo_count))))))) sz)) 0 0 (va_A (wv_x cI cJ cZ cM h_x a_x x_places x_round x_threshold x_slack h_fo h_ks h_cn h_sm h_ti h_lg x_marks x_loads x_markCount x_rows x_roundRows x_rounds x_flips x_passedOver ++ (wv_cn cI cJ cZ cM h_cn a_cn cn_keys cn_counts cn_errors cn_limit cn_used ++ (wv_sm cI cJ cZ cM h_sm a_sm sm_keys sm_weights sm_count sm_matches sm_out ++ (wv_ti cI cJ cZ cM h_ti a_ti ti_keys ti_times ti_count ti_now ++ (wv_lg cI cJ cZ cM h_lg a_lg lg_cells lg_newest lg_kept ++ (wv_ks cI cJ cZ cM h_ks a_ks h_fo ks_partCounts ks_states ks_latestRows ks_latestValues ks_moved ++ (wv_fo cI cJ cZ cM h_fo a_fo fo_kinds fo_declared fo_count))))))) sz) := by
  refine Met.ofW (cc := cX7_split) (maxL := 3) (ret := (some .int)) (by decide) rfl ?_
  intro p e s m args below meth c s₁ B hml hv
  obtain ⟨rfl, hsz, hP, hK, hD0, hN⟩ := hv
  have hx := B.exec
  have hb := B.bytes
  have hr := B.returns
  have hts := atoms_spec (ws := hk_ws yX7_split cX7_split 3 (some .int)) B.pre
  have hta : ∀ w ∈ hk_all, w.before ([.ref h_x, .int p1, .int p2] : List Value).toArray s = true := fun w hw => hts w (List.mem_cons_of_mem _ hw)
  have hown : s.vm.findClass RX7 = some m.cls := findClass_of_methodNamed B.named
  have hlocks := B.notSynchronized
  have S0 : CallFix p m c cX7_split 3 s ([.ref h_x, .int p1, .int p2] : List Value).toArray hk_all RX7 := ⟨hx, hb, hml, hown, hta⟩
  subst hsz
  have hD := hD0.self (sz := s.heap.size)
  generalize hAe : va_A (wv_x cI cJ cZ cM h_x a_x x_places x_round x_threshold x_slack h_fo h_ks h_cn h_sm h_ti h_lg x_marks x_loads x_markCount x_rows x_roundRows x_rounds x_flips x_passedOver ++ (wv_cn cI cJ cZ cM h_cn a_cn cn_keys cn_counts cn_errors cn_limit cn_used ++ (wv_sm cI cJ cZ cM h_sm a_sm sm_keys sm_weights sm_count sm_matches sm_out ++ (wv_ti cI cJ cZ cM h_ti a_ti ti_keys ti_times ti_count ti_now ++ (wv_lg cI cJ cZ cM h_lg a_lg lg_cells lg_newest lg_kept ++ (wv_ks cI cJ cZ cM h_ks a_ks h_fo ks_partCounts ks_states ks_latestRows ks_latestValues ks_moved ++ (wv_fo cI cJ cZ cM h_fo a_fo fo_kinds fo_declared fo_count))))))) s.heap.size = A at hD ⊢
  have hA : ∀ q : Nat, s.heap.size ≤ q → A q := fun q h => by rw [← hAe]; exact Or.inr h
  have hS : va_S A s.heap s.heap [] := va_S.rf
  have hl := lv_entry ([.ref h_x, .int p1, .int p2]) (n := 3) (Nat.le_of_ble_eq_true rfl)
  rw [lg_entry_eq]
  generalize (lg_sl ([.ref h_x, .int p1, .int p2]) ++ List.replicate (3 - (lg_sl ([.ref h_x, .int p1, .int p2])).length) Slot.unset).toArray = ls at hl ⊢
  have hl : lv_has ls 3 [(0, .ref h_x), (1, .int p1), (2, .int p2)] := hl
  unfold wp_x_split at h
  refine lv_iload_n hx hb dX7_split_0 rfl (lv_at hl 1 rfl) ?_
  refine vp_callSi (hk_runS (As := [.int p1]) (rest := []) S0 mm_x_isKey (c_x_isKey l D cI cJ cZ cM p1 _ h) hw_370 hk_blR (hk_atR (hP.sub (ws' := ([] : va_W)) [] rfl) hK hN) ⟨rfl, rfl, Nat.le_of_ble_eq_true rfl, Nat.le_of_ble_eq_true rfl⟩ rfl hl.1 rfl (Nat.le_of_ble_eq_true rfl) dX7_split_1 ⟨Nat.le_of_ble_eq_true rfl, Nat.le_of_ble_eq_true rfl⟩).run (fun r1 h => ?_)
  refine lv_if_ne (tgt := 10) hx hb dX7_split_4 (by decide) (fun c2 => ?_) (fun c2 => ?_)
  · have h := h.1 c2
    refine lv_iload_n hx hb dX7_split_10 rfl (lv_at hl 2 rfl) ?_
    refine lv_iconst (v := 2) hx hb dX7_split_11 (by decide) ?_
    refine lv_aload_n hx hb dX7_split_12 rfl (lv_at hl 0 rfl) ?_
    refine va_get (D := D) (ci := 7) (v := .int x_places) (C := RX7) (T := TX7) (N := 18) hx hb hta ih_X7 hown hK hP 0 rfl rfl 0 (by decide) (hta _ hw_274) (fun _ h9 => h9) rfl dX7_split_13 ?_
    refine vp_callSi (hk_runS (As := [.int p2, .int 2, .int x_places]) (rest := []) S0 mm_x_isWithin (c_x_isWithin l D cI cJ cZ cM p2 2 x_places _ h) hw_333 hk_blR (hk_atR (hP.sub (ws' := ([] : va_W)) [] rfl) hK hN) ⟨rfl, rfl, Nat.le_of_ble_eq_true rfl, Nat.le_of_ble_eq_true rfl⟩ rfl hl.1 rfl (Nat.le_of_ble_eq_true rfl) dX7_split_16 ⟨Nat.le_of_ble_eq_true rfl, Nat.le_of_ble_eq_true rfl⟩).run (fun r3 h => ?_)
    refine lv_if_ne (tgt := 25) hx hb dX7_split_19 (by decide) (fun c4 => ?_) (fun c4 => ?_)
    · have h := h.1 c4
      refine lv_aload_n hx hb dX7_split_25 rfl (lv_at hl 0 rfl) ?_
      refine va_get (D := D) (ci := 7) (v := .ref h_ks) (C := RX7) (T := TX7) (N := 18) hx hb hta ih_X7 hown hK hP 0 rfl rfl 5 (by decide) (hta _ hw_279) (fun _ h9 => h9) rfl dX7_split_26 ?_
      refine lv_iload_n hx hb dX7_split_29 rfl (lv_at hl 1 rfl) ?_
      refine vp_callSi (hk_runVN (As := [.int p1]) (rest := []) S0 mm_ks_isSplit (c_ks_isSplit l D cI cJ cZ cM h_ks a_ks h_fo a_fo ks_partCounts ks_states ks_latestRows ks_latestValues ks_moved fo_kinds fo_declared fo_count p1 _ h) (hN.1 _ hn_449) hk_blR (hk_atR (hP.sub (ws' := (wv_ks cI cJ cZ cM h_ks a_ks h_fo ks_partCounts ks_states ks_latestRows ks_latestValues ks_moved) ++ (wv_fo cI cJ cZ cM h_fo a_fo fo_kinds fo_declared fo_count)) [15, 16, 17, 18, 19, 20, 21, 22] rfl) hK hN) (va_recv hK hP (ci := 2) (q0 := 15) rfl rfl) ⟨rfl, rfl, Nat.le_of_ble_eq_true rfl, Nat.le_of_ble_eq_true rfl⟩ rfl hl.1 rfl (Nat.le_of_ble_eq_true rfl) dX7_split_30 ⟨Nat.le_of_ble_eq_true rfl, Nat.le_of_ble_eq_true rfl⟩).run (fun r5 h => ?_)
      refine lv_if_ne (tgt := 46) hx hb dX7_split_33 (by decide) (fun c6 => ?_) (fun c6 => ?_)
      · have h := h.1 c6
        refine lv_bipush (v := (-103)) hx hb dX7_split_46 (by decide) ?_
        exact W.iret (v := (-103)) hx hb hr (fun t ht hW => ⟨⟨(-103), (ks_partCounts, ks_states, ks_latestRows), rfl, h, by rw [ht]; exact hP, hD⟩, hS.F ht⟩) hS.2.2 dX7_split_48
      · have h := h.2 c6
        refine lv_aload_n hx hb dX7_split_36 rfl (lv_at hl 0 rfl) ?_
        refine va_get (D := D) (ci := 7) (v := .ref h_fo) (C := RX7) (T := TX7) (N := 18) hx hb hta ih_X7 hown hK hP 0 rfl rfl 4 (by decide) (hta _ hw_278) (fun _ h9 => h9) rfl dX7_split_37 ?_
        refine vp_callSi (hk_runVN (As := []) (rest := []) S0 mm_fo_allCanBeJoined (c_fo_allCanBeJoined l D cI cJ cZ cM h_fo a_fo fo_kinds fo_declared fo_count _ h) (hN.1 _ hn_450) hk_blR (hk_atR (hP.sub (ws' := wv_fo cI cJ cZ cM h_fo a_fo fo_kinds fo_declared fo_count) [20, 21, 22] rfl) hK hN) (va_recv hK hP (ci := 1) (q0 := 20) rfl rfl) ⟨rfl, rfl, Nat.le_of_ble_eq_true rfl, Nat.le_of_ble_eq_true rfl⟩ rfl hl.1 rfl (Nat.le_of_ble_eq_true rfl) dX7_split_40 ⟨Nat.le_of_ble_eq_true rfl, Nat.le_of_ble_eq_true rfl⟩).run (fun r7 h => ?_)
        refine lv_if_ne (tgt := 49) hx hb dX7_split_43 (by decide) (fun c8 => ?_) (fun c8 => ?_)
        · have h := h.1 c8
          refine lv_aload_n hx hb dX7_split_49 rfl (lv_at hl 0 rfl) ?_
          refine va_get (D := D) (ci := 7) (v := .ref h_ks) (C := RX7) (T := TX7) (N := 18) hx hb hta ih_X7 hown hK hP 0 rfl rfl 5 (by decide) (hta _ hw_279) (fun _ h9 => h9) rfl dX7_split_50 ?_
          refine lv_iload_n hx hb dX7_split_53 rfl (lv_at hl 1 rfl) ?_
          refine lv_iload_n hx hb dX7_split_54 rfl (lv_at hl 2 rfl) ?_
          have hP1 : va_P D vwCl ((wv_x cI cJ cZ cM h_x a_x x_places x_round x_threshold x_slack h_fo h_ks h_cn h_sm h_ti h_lg x_marks x_loads x_markCount x_rows x_roundRows x_rounds x_flips x_passedOver ++ (wv_cn cI cJ cZ cM h_cn a_cn cn_keys cn_counts cn_errors cn_limit cn_used ++ (wv_sm cI cJ cZ cM h_sm a_sm sm_keys sm_weights sm_count sm_matches sm_out ++ (wv_ti cI cJ cZ cM h_ti a_ti ti_keys ti_times ti_count ti_now ++ (wv_lg cI cJ cZ cM h_lg a_lg lg_cells lg_newest lg_kept))))) ++ (((wv_ks cI cJ cZ cM h_ks a_ks h_fo ks_partCounts ks_states ks_latestRows ks_latestValues ks_moved) ++ (wv_fo cI cJ cZ cM h_fo a_fo fo_kinds fo_declared fo_count)) ++ (([] : va_W)))) s.heap := hP
          have hD1 : va_D A ((wv_x cI cJ cZ cM h_x a_x x_places x_round x_threshold x_slack h_fo h_ks h_cn h_sm h_ti h_lg x_marks x_loads x_markCount x_rows x_roundRows x_rounds x_flips x_passedOver ++ (wv_cn cI cJ cZ cM h_cn a_cn cn_keys cn_counts cn_errors cn_limit cn_used ++ (wv_sm cI cJ cZ cM h_sm a_sm sm_keys sm_weights sm_count sm_matches sm_out ++ (wv_ti cI cJ cZ cM h_ti a_ti ti_keys ti_times ti_count ti_now ++ (wv_lg cI cJ cZ cM h_lg a_lg lg_cells lg_newest lg_kept))))) ++ (((wv_ks cI cJ cZ cM h_ks a_ks h_fo ks_partCounts ks_states ks_latestRows ks_latestValues ks_moved) ++ (wv_fo cI cJ cZ cM h_fo a_fo fo_kinds fo_declared fo_count)) ++ (([] : va_W)))) := hD
          refine hk_sv (wv_x cI cJ cZ cM h_x a_x x_places x_round x_threshold x_slack h_fo h_ks h_cn h_sm h_ti h_lg x_marks x_loads x_markCount x_rows x_roundRows x_rounds x_flips x_passedOver ++ (wv_cn cI cJ cZ cM h_cn a_cn cn_keys cn_counts cn_errors cn_limit cn_used ++ (wv_sm cI cJ cZ cM h_sm a_sm sm_keys sm_weights sm_count sm_matches sm_out ++ (wv_ti cI cJ cZ cM h_ti a_ti ti_keys ti_times ti_count ti_now ++ (wv_lg cI cJ cZ cM h_lg a_lg lg_cells lg_newest lg_kept))))) ((wv_ks cI cJ cZ cM h_ks a_ks h_fo ks_partCounts ks_states ks_latestRows ks_latestValues ks_moved) ++ (wv_fo cI cJ cZ cM h_fo a_fo fo_kinds fo_declared fo_count)) (([] : va_W)) (hk_runVN (As := [.int p1, .int p2]) (rest := []) S0 mm_ks_breakUp (c_ks_breakUp l D cI cJ cZ cM h_ks a_ks h_fo a_fo s.heap.size ks_partCounts ks_states ks_latestRows ks_latestValues ks_moved fo_kinds fo_declared fo_count p1 p2 _ h) (hN.1 _ hn_461) hk_blM (hk_atM (hk_Pl (hk_Pr hP1)) hK (hk_Dl (hk_Dr hD1)) hN) (va_recv hK hP (ci := 2) (q0 := 15) rfl rfl) ⟨rfl, rfl, Nat.le_of_ble_eq_true rfl, Nat.le_of_ble_eq_true rfl⟩ rfl hl.1 rfl (Nat.le_of_ble_eq_true rfl) dX7_split_55 ⟨Nat.le_of_ble_eq_true rfl, Nat.le_of_ble_eq_true rfl⟩) hP1 hD1 hS hA (fun _ => rfl) (fun w9 H locs h hP hD hS => ?_)
          have hP : va_P D vwCl (wv_x cI cJ cZ cM h_x a_x x_places x_round x_threshold x_slack h_fo h_ks h_cn h_sm h_ti h_lg x_marks x_loads x_markCount x_rows x_roundRows x_rounds x_flips x_passedOver ++ (wv_cn cI cJ cZ cM h_cn a_cn cn_keys cn_counts cn_errors cn_limit cn_used ++ (wv_sm cI cJ cZ cM h_sm a_sm sm_keys sm_weights sm_count sm_matches sm_out ++ (wv_ti cI cJ cZ cM h_ti a_ti ti_keys ti_times ti_count ti_now ++ (wv_lg cI cJ cZ cM h_lg a_lg lg_cells lg_newest lg_kept ++ (wv_ks cI cJ cZ cM h_ks a_ks h_fo w9.1 w9.2.1 w9.2.2 ks_latestValues ks_moved ++ (wv_fo cI cJ cZ cM h_fo a_fo fo_kinds fo_declared fo_count))))))) H := hP
          have hD : va_D A (wv_x cI cJ cZ cM h_x a_x x_places x_round x_threshold x_slack h_fo h_ks h_cn h_sm h_ti h_lg x_marks x_loads x_markCount x_rows x_roundRows x_rounds x_flips x_passedOver ++ (wv_cn cI cJ cZ cM h_cn a_cn cn_keys cn_counts cn_errors cn_limit cn_used ++ (wv_sm cI cJ cZ cM h_sm a_sm sm_keys sm_weights sm_count sm_matches sm_out ++ (wv_ti cI cJ cZ cM h_ti a_ti ti_keys ti_times ti_count ti_now ++ (wv_lg cI cJ cZ cM h_lg a_lg lg_cells lg_newest lg_kept ++ (wv_ks cI cJ cZ cM h_ks a_ks h_fo w9.1 w9.2.1 w9.2.2 ks_latestValues ks_moved ++ (wv_fo cI cJ cZ cM h_fo a_fo fo_kinds fo_declared fo_count))))))) := hD
          refine lv_iconst (v := 1) hx hb dX7_split_58 (by decide) ?_
          exact W.iret (v := 1) hx hb hr (fun t ht hW => ⟨⟨1, (w9.1, w9.2.1, w9.2.2), rfl, h, by rw [ht]; exact hP, hD⟩, hS.F ht⟩) hS.2.2 dX7_split_59
        · have h := h.2 c8
          refine lv_bipush (v := (-103)) hx hb dX7_split_46 (by decide) ?_
          exact W.iret (v := (-103)) hx hb hr (fun t ht hW => ⟨⟨(-103), (ks_partCounts, ks_states, ks_latestRows), rfl, h, by rw [ht]; exact hP, hD⟩, hS.F ht⟩) hS.2.2 dX7_split_48
    · have h := h.2 c4
      refine lv_bipush (v := (-102)) hx hb dX7_split_22 (by decide) ?_
      exact W.iret (v := (-102)) hx hb hr (fun t ht hW => ⟨⟨(-102), (ks_partCounts, ks_states, ks_latestRows), rfl, h, by rw [ht]; exact hP, hD⟩, hS.F ht⟩) hS.2.2 dX7_split_24
  · have h := h.2 c2
    refine lv_bipush (v := (-101)) hx hb dX7_split_7 (by decide) ?_
    exact W.iret (v := (-101)) hx hb hr (fun t ht hW => ⟨⟨(-101), (ks_partCounts, ks_states, ks_latestRows), rfl, h, by rw [ht]; exact hP, hD⟩, hS.F ht⟩) hS.2.2 dX7_split_9
def wp_x_back (p1 : Int32) (ks_partCounts : Nat → Int32) (ks_states : Nat → Int64) (ks_latestRows : Nat → Int32) (ks_moved : Int32) (fo_kinds : Nat → Int32) (fo_count : Int32) (post : Int32 → ((Nat → Int32) × (Nat → Int64) × (Nat → Int32) × Int32) → Prop) : Prop := wp_x_isKey p1 (fun (r1 : Int32) => (¬ r1 = 0 → wp_ks_isSplit p1 ks_partCounts (fun (r3 : Int32) => (¬ r3 = 0 → wp_ks_bringBack p1 ks_partCounts ks_states ks_latestRows ks_moved fo_kinds fo_count (fun (r5 : Int32) (w6 : (Nat → Int32) × (Nat → Int64) × (Nat → Int32) × Int32) => post r5 (w6.1, w6.2.1, w6.2.2.1, w6.2.2.2))) ∧ (r3 = 0 → post (-103) (ks_partCounts, ks_states, ks_latestRows, ks_moved)))) ∧ (r1 = 0 → post (-101) (ks_partCounts, ks_states, ks_latestRows, ks_moved)))
theorem mm_x_back : hk_MV yX7_back cX7_back 2 (some .int) 1 := ⟨hw_534, hw_532, hw_533, hw_79, by decide +kernel⟩
set_option maxRecDepth 100000 in
set_option maxHeartbeats 4000000 in
theorem c_x_back (l : Launch) (D : va_G) (cI cJ cZ cM : ClassId) (h_x : Nat) (a_x : Nat → Nat) (h_cn : Nat) (a_cn : Nat → Nat) (h_sm : Nat) (a_sm : Nat → Nat) (h_ti : Nat) (a_ti : Nat → Nat) (h_lg : Nat) (a_lg : Nat → Nat) (h_ks : Nat) (a_ks : Nat → Nat) (h_fo : Nat) (a_fo : Nat → Nat) (sz : Nat) (x_places : Int32) (x_round : Int32) (x_threshold : Int32) (x_slack : Int32) (x_marks : Nat → Option Nat) (x_loads : Nat → Int32) (x_markCount : Int32) (x_rows : Int32) (x_roundRows : Int32) (x_rounds : Int32) (x_flips : Int32) (x_passedOver : Int32) (cn_keys : Nat → Int32) (cn_counts : Nat → Int32) (cn_errors : Nat → Int32) (cn_limit : Int32) (cn_used : Int32) (sm_keys : Nat → Int32) (sm_weights : Nat → Int32) (sm_count : Int32) (sm_matches : Int32) (sm_out : Int64) (ti_keys : Nat → Int32) (ti_times : Nat → Int32) (ti_count : Int32) (ti_now : Int32) (lg_cells : Nat → Int64) (lg_newest : Int32) (lg_kept : Int32) (ks_partCounts : Nat → Int32) (ks_states : Nat → Int64) (ks_latestRows : Nat → Int32) (ks_latestValues : Nat → Int64) (ks_moved : Int32) (fo_kinds : Nat → Int32) (fo_declared : Nat → Int32) (fo_count : Int32) (p1 : Int32) (post : Int32 → ((Nat → Int32) × (Nat → Int64) × (Nat → Int32) × Int32) → Prop) (h : wp_x_back p1 ks_partCounts ks_states ks_latestRows ks_moved fo_kinds fo_count post) : Met l yX7_back (hk_ws yX7_back cX7_back 2 (some .int)) (hk_rm 4 99) (va_Pc [.ref h_x, .int p1] (hk_PM D (hk_ty cI cJ cZ cM) sz (wv_x cI cJ cZ cM h_x a_x x_places x_round x_threshold x_slack h_fo h_ks h_cn h_sm h_ti h_lg x_marks x_loads x_markCount x_rows x_roundRows x_rounds x_flips x_passedOver ++ (wv_cn cI cJ cZ cM h_cn a_cn cn_keys cn_counts cn_errors cn_limit cn_used ++ (wv_sm cI cJ cZ cM h_sm a_sm sm_keys sm_weights sm_count sm_matches sm_out ++ (wv_ti cI cJ cZ cM h_ti a_ti ti_keys ti_times ti_count ti_now ++ (wv_lg cI cJ cZ cM h_lg a_lg lg_cells lg_newest lg_kept ++ (wv_ks cI cJ cZ cM h_ks a_ks h_fo ks_partCounts ks_states ks_latestRows ks_latestValues ks_moved ++ (wv_fo cI cJ cZ cM h_fo a_fo fo_kinds fo_declared fo_count))))))))) (va_Qi post (hk_B D (va_A (wv_x cI cJ cZ cM h_x a_x x_places x_round x_threshold x_slack h_fo h_ks h_cn h_sm h_ti h_lg x_marks x_loads x_markCount x_rows x_roundRows x_rounds x_flips x_passedOver ++ (wv_cn cI cJ cZ cM h_cn a_cn cn_keys cn_counts cn_errors cn_limit cn_used ++ (wv_sm cI cJ cZ cM h_sm a_sm sm_keys sm_weights sm_count sm_matches sm_out ++ (wv_ti cI cJ cZ cM h_ti a_ti ti_keys ti_times ti_count ti_now ++ (wv_lg cI cJ cZ cM h_lg a_lg lg_cells lg_newest lg_kept ++ (wv_ks cI cJ cZ cM h_ks a_ks h_fo ks_partCounts ks_states ks_latestRows ks_latestValues ks_moved ++ (wv_fo cI cJ cZ cM h_fo a_fo fo_kinds fo_declared fo_count))))))) sz) (fun (u : (Nat → Int32) × (Nat → Int64) × (Nat → Int32) × Int32) => wv_x cI cJ cZ cM h_x a_x x_places x_round x_threshold x_slack h_fo h_ks h_cn h_sm h_ti h_lg x_marks x_loads x_markCount x_rows x_roundRows x_rounds x_flips x_passedOver ++ (wv_cn cI cJ cZ cM h_cn a_cn cn_keys cn_counts cn_errors cn_limit cn_used ++ (wv_sm cI cJ cZ cM h_sm a_sm sm_keys sm_weights sm_count sm_matches sm_out ++ (wv_ti cI cJ cZ cM h_ti a_ti ti_keys ti_times ti_count ti_now ++ (wv_lg cI cJ cZ cM h_lg a_lg lg_cells lg_newest lg_kept ++ (wv_ks cI cJ cZ cM h_ks a_ks h_fo u.1 u.2.1 u.2.2.1 ks_latestValues u.2.2.2 ++ (wv_fo cI cJ cZ cM h_fo a_fo fo_kinds fo_declared fo_count)))))))) (va_A (wv_x cI cJ cZ cM h_x a_x x_places x_round x_threshold x_slack h_fo h_ks h_cn h_sm h_ti h_lg x_marks x_loads x_markCount x_rows x_roundRows x_rounds x_flips x_passedOver ++ (wv_cn cI cJ cZ cM h_cn a_cn cn_keys cn_counts cn_errors cn_limit cn_used ++ (wv_sm cI cJ cZ cM h_sm a_sm sm_keys sm_weights sm_count sm_matches sm_out ++ (wv_ti cI cJ cZ cM h_ti a_ti ti_keys ti_times ti_count ti_now ++ (wv_lg cI cJ cZ cM h_lg a_lg lg_cells lg_newest lg_kept ++ (wv_ks cI cJ cZ cM h_ks a_ks h_fo ks_partCounts ks_states ks_latestRows ks_latestValues ks_moved ++ (wv_fo cI cJ cZ cM h_fo a_fo fo_kinds fo_declared fo_count))))))) sz)) 0 0 (va_A (wv_x cI cJ cZ cM h_x a_x x_places x_round x_threshold x_slack h_fo h_ks h_cn h_sm h_ti h_lg x_marks x_loads x_markCount x_rows x_roundRows x_rounds x_flips x_passedOver ++ (wv_cn cI cJ cZ cM h_cn a_cn cn_keys cn_counts cn_errors cn_limit cn_used ++ (wv_sm cI cJ cZ cM h_sm a_sm sm_keys sm_weights sm_count sm_matches sm_out ++ (wv_ti cI cJ cZ cM h_ti a_ti ti_keys ti_times ti_count ti_now ++ (wv_lg cI cJ cZ cM h_lg a_lg lg_cells lg_newest lg_kept ++ (wv_ks cI cJ cZ cM h_ks a_ks h_fo ks_partCounts ks_states ks_latestRows ks_latestValues ks_moved ++ (wv_fo cI cJ cZ cM h_fo a_fo fo_kinds fo_declared fo_count))))))) sz) := by
  refine Met.ofW (cc := cX7_back) (maxL := 2) (ret := (some .int)) (by decide) rfl ?_
  intro p e s m args below meth c s₁ B hml hv
  obtain ⟨rfl, hsz, hP, hK, hD0, hN⟩ := hv
  have hx := B.exec
  have hb := B.bytes
  have hr := B.returns
  have hts := atoms_spec (ws := hk_ws yX7_back cX7_back 2 (some .int)) B.pre
  have hta : ∀ w ∈ hk_all, w.before ([.ref h_x, .int p1] : List Value).toArray s = true := fun w hw => hts w (List.mem_cons_of_mem _ hw)
  have hown : s.vm.findClass RX7 = some m.cls := findClass_of_methodNamed B.named
  have hlocks := B.notSynchronized
  have S0 : CallFix p m c cX7_back 2 s ([.ref h_x, .int p1] : List Value).toArray hk_all RX7 := ⟨hx, hb, hml, hown, hta⟩
  subst hsz
  have hD := hD0.self (sz := s.heap.size)
  generalize hAe : va_A (wv_x cI cJ cZ cM h_x a_x x_places x_round x_threshold x_slack h_fo h_ks h_cn h_sm h_ti h_lg x_marks x_loads x_markCount x_rows x_roundRows x_rounds x_flips x_passedOver ++ (wv_cn cI cJ cZ cM h_cn a_cn cn_keys cn_counts cn_errors cn_limit cn_used ++ (wv_sm cI cJ cZ cM h_sm a_sm sm_keys sm_weights sm_count sm_matches sm_out ++ (wv_ti cI cJ cZ cM h_ti a_ti ti_keys ti_times ti_count ti_now ++ (wv_lg cI cJ cZ cM h_lg a_lg lg_cells lg_newest lg_kept ++ (wv_ks cI cJ cZ cM h_ks a_ks h_fo ks_partCounts ks_states ks_latestRows ks_latestValues ks_moved ++ (wv_fo cI cJ cZ cM h_fo a_fo fo_kinds fo_declared fo_count))))))) s.heap.size = A at hD ⊢
  have hA : ∀ q : Nat, s.heap.size ≤ q → A q := fun q h => by rw [← hAe]; exact Or.inr h
  have hS : va_S A s.heap s.heap [] := va_S.rf
  have hl := lv_entry ([.ref h_x, .int p1]) (n := 2) (Nat.le_of_ble_eq_true rfl)
  rw [lg_entry_eq]
  generalize (lg_sl ([.ref h_x, .int p1]) ++ List.replicate (2 - (lg_sl ([.ref h_x, .int p1])).length) Slot.unset).toArray = ls at hl ⊢
  have hl : lv_has ls 2 [(0, .ref h_x), (1, .int p1)] := hl
  unfold wp_x_back at h
  refine lv_iload_n hx hb dX7_back_0 rfl (lv_at hl 1 rfl) ?_
  refine vp_callSi (hk_runS (As := [.int p1]) (rest := []) S0 mm_x_isKey (c_x_isKey l D cI cJ cZ cM p1 _ h) hw_370 hk_blR (hk_atR (hP.sub (ws' := ([] : va_W)) [] rfl) hK hN) ⟨rfl, rfl, Nat.le_of_ble_eq_true rfl, Nat.le_of_ble_eq_true rfl⟩ rfl hl.1 rfl (Nat.le_of_ble_eq_true rfl) dX7_back_1 ⟨Nat.le_of_ble_eq_true rfl, Nat.le_of_ble_eq_true rfl⟩).run (fun r1 h => ?_)
  refine lv_if_ne (tgt := 10) hx hb dX7_back_4 (by decide) (fun c2 => ?_) (fun c2 => ?_)
  · have h := h.1 c2
    refine lv_aload_n hx hb dX7_back_10 rfl (lv_at hl 0 rfl) ?_
    refine va_get (D := D) (ci := 7) (v := .ref h_ks) (C := RX7) (T := TX7) (N := 18) hx hb hta ih_X7 hown hK hP 0 rfl rfl 5 (by decide) (hta _ hw_279) (fun _ h9 => h9) rfl dX7_back_11 ?_
    refine lv_iload_n hx hb dX7_back_14 rfl (lv_at hl 1 rfl) ?_
    refine vp_callSi (hk_runVN (As := [.int p1]) (rest := []) S0 mm_ks_isSplit (c_ks_isSplit l D cI cJ cZ cM h_ks a_ks h_fo a_fo ks_partCounts ks_states ks_latestRows ks_latestValues ks_moved fo_kinds fo_declared fo_count p1 _ h) (hN.1 _ hn_449) hk_blR (hk_atR (hP.sub (ws' := (wv_ks cI cJ cZ cM h_ks a_ks h_fo ks_partCounts ks_states ks_latestRows ks_latestValues ks_moved) ++ (wv_fo cI cJ cZ cM h_fo a_fo fo_kinds fo_declared fo_count)) [15, 16, 17, 18, 19, 20, 21, 22] rfl) hK hN) (va_recv hK hP (ci := 2) (q0 := 15) rfl rfl) ⟨rfl, rfl, Nat.le_of_ble_eq_true rfl, Nat.le_of_ble_eq_true rfl⟩ rfl hl.1 rfl (Nat.le_of_ble_eq_true rfl) dX7_back_15 ⟨Nat.le_of_ble_eq_true rfl, Nat.le_of_ble_eq_true rfl⟩).run (fun r3 h => ?_)
    refine lv_if_ne (tgt := 24) hx hb dX7_back_18 (by decide) (fun c4 => ?_) (fun c4 => ?_)
    · have h := h.1 c4
      refine lv_aload_n hx hb dX7_back_24 rfl (lv_at hl 0 rfl) ?_
      refine va_get (D := D) (ci := 7) (v := .ref h_ks) (C := RX7) (T := TX7) (N := 18) hx hb hta ih_X7 hown hK hP 0 rfl rfl 5 (by decide) (hta _ hw_279) (fun _ h9 => h9) rfl dX7_back_25 ?_
      refine lv_iload_n hx hb dX7_back_28 rfl (lv_at hl 1 rfl) ?_
      have hP1 : va_P D vwCl ((wv_x cI cJ cZ cM h_x a_x x_places x_round x_threshold x_slack h_fo h_ks h_cn h_sm h_ti h_lg x_marks x_loads x_markCount x_rows x_roundRows x_rounds x_flips x_passedOver ++ (wv_cn cI cJ cZ cM h_cn a_cn cn_keys cn_counts cn_errors cn_limit cn_used ++ (wv_sm cI cJ cZ cM h_sm a_sm sm_keys sm_weights sm_count sm_matches sm_out ++ (wv_ti cI cJ cZ cM h_ti a_ti ti_keys ti_times ti_count ti_now ++ (wv_lg cI cJ cZ cM h_lg a_lg lg_cells lg_newest lg_kept))))) ++ (((wv_ks cI cJ cZ cM h_ks a_ks h_fo ks_partCounts ks_states ks_latestRows ks_latestValues ks_moved) ++ (wv_fo cI cJ cZ cM h_fo a_fo fo_kinds fo_declared fo_count)) ++ (([] : va_W)))) s.heap := hP
      have hD1 : va_D A ((wv_x cI cJ cZ cM h_x a_x x_places x_round x_threshold x_slack h_fo h_ks h_cn h_sm h_ti h_lg x_marks x_loads x_markCount x_rows x_roundRows x_rounds x_flips x_passedOver ++ (wv_cn cI cJ cZ cM h_cn a_cn cn_keys cn_counts cn_errors cn_limit cn_used ++ (wv_sm cI cJ cZ cM h_sm a_sm sm_keys sm_weights sm_count sm_matches sm_out ++ (wv_ti cI cJ cZ cM h_ti a_ti ti_keys ti_times ti_count ti_now ++ (wv_lg cI cJ cZ cM h_lg a_lg lg_cells lg_newest lg_kept))))) ++ (((wv_ks cI cJ cZ cM h_ks a_ks h_fo ks_partCounts ks_states ks_latestRows ks_latestValues ks_moved) ++ (wv_fo cI cJ cZ cM h_fo a_fo fo_kinds fo_declared fo_count)) ++ (([] : va_W)))) := hD
      refine hk_si (wv_x cI cJ cZ cM h_x a_x x_places x_round x_threshold x_slack h_fo h_ks h_cn h_sm h_ti h_lg x_marks x_loads x_markCount x_rows x_roundRows x_rounds x_flips x_passedOver ++ (wv_cn cI cJ cZ cM h_cn a_cn cn_keys cn_counts cn_errors cn_limit cn_used ++ (wv_sm cI cJ cZ cM h_sm a_sm sm_keys sm_weights sm_count sm_matches sm_out ++ (wv_ti cI cJ cZ cM h_ti a_ti ti_keys ti_times ti_count ti_now ++ (wv_lg cI cJ cZ cM h_lg a_lg lg_cells lg_newest lg_kept))))) ((wv_ks cI cJ cZ cM h_ks a_ks h_fo ks_partCounts ks_states ks_latestRows ks_latestValues ks_moved) ++ (wv_fo cI cJ cZ cM h_fo a_fo fo_kinds fo_declared fo_count)) (([] : va_W)) (hk_runVN (As := [.int p1]) (rest := []) S0 mm_ks_bringBack (c_ks_bringBack l D cI cJ cZ cM h_ks a_ks h_fo a_fo s.heap.size ks_partCounts ks_states ks_latestRows ks_latestValues ks_moved fo_kinds fo_declared fo_count p1 _ h) (hN.1 _ hn_477) hk_blM (hk_atM (hk_Pl (hk_Pr hP1)) hK (hk_Dl (hk_Dr hD1)) hN) (va_recv hK hP (ci := 2) (q0 := 15) rfl rfl) ⟨rfl, rfl, Nat.le_of_ble_eq_true rfl, Nat.le_of_ble_eq_true rfl⟩ rfl hl.1 rfl (Nat.le_of_ble_eq_true rfl) dX7_back_29 ⟨Nat.le_of_ble_eq_true rfl, Nat.le_of_ble_eq_true rfl⟩) hP1 hD1 hS hA (fun _ => rfl) (fun r5 w6 H locs h hP hD hS => ?_)
      have hP : va_P D vwCl (wv_x cI cJ cZ cM h_x a_x x_places x_round x_threshold x_slack h_fo h_ks h_cn h_sm h_ti h_lg x_marks x_loads x_markCount x_rows x_roundRows x_rounds x_flips x_passedOver ++ (wv_cn cI cJ cZ cM h_cn a_cn cn_keys cn_counts cn_errors cn_limit cn_used ++ (wv_sm cI cJ cZ cM h_sm a_sm sm_keys sm_weights sm_count sm_matches sm_out ++ (wv_ti cI cJ cZ cM h_ti a_ti ti_keys ti_times ti_count ti_now ++ (wv_lg cI cJ cZ cM h_lg a_lg lg_cells lg_newest lg_kept ++ (wv_ks cI cJ cZ cM h_ks a_ks h_fo w6.1 w6.2.1 w6.2.2.1 ks_latestValues w6.2.2.2 ++ (wv_fo cI cJ cZ cM h_fo a_fo fo_kinds fo_declared fo_count))))))) H := hP
      have hD : va_D A (wv_x cI cJ cZ cM h_x a_x x_places x_round x_threshold x_slack h_fo h_ks h_cn h_sm h_ti h_lg x_marks x_loads x_markCount x_rows x_roundRows x_rounds x_flips x_passedOver ++ (wv_cn cI cJ cZ cM h_cn a_cn cn_keys cn_counts cn_errors cn_limit cn_used ++ (wv_sm cI cJ cZ cM h_sm a_sm sm_keys sm_weights sm_count sm_matches sm_out ++ (wv_ti cI cJ cZ cM h_ti a_ti ti_keys ti_times ti_count ti_now ++ (wv_lg cI cJ cZ cM h_lg a_lg lg_cells lg_newest lg_kept ++ (wv_ks cI cJ cZ cM h_ks a_ks h_fo w6.1 w6.2.1 w6.2.2.1 ks_latestValues w6.2.2.2 ++ (wv_fo cI cJ cZ cM h_fo a_fo fo_kinds fo_declared fo_count))))))) := hD
      exact W.iret (v := r5) hx hb hr (fun t ht hW => ⟨⟨r5, (w6.1, w6.2.1, w6.2.2.1, w6.2.2.2), rfl, h, by rw [ht]; exact hP, hD⟩, hS.F ht⟩) hS.2.2 dX7_back_32
    · have h := h.2 c4
      refine lv_bipush (v := (-103)) hx hb dX7_back_21 (by decide) ?_
      exact W.iret (v := (-103)) hx hb hr (fun t ht hW => ⟨⟨(-103), (ks_partCounts, ks_states, ks_latestRows, ks_moved), rfl, h, by rw [ht]; exact hP, hD⟩, hS.F ht⟩) hS.2.2 dX7_back_23
  · have h := h.2 c2
    refine lv_bipush (v := (-101)) hx hb dX7_back_7 (by decide) ?_
    exact W.iret (v := (-101)) hx hb hr (fun t ht hW => ⟨⟨(-101), (ks_partCounts, ks_states, ks_latestRows, ks_moved), rfl, h, by rw [ht]; exact hP, hD⟩, hS.F ht⟩) hS.2.2 dX7_back_9
def wp_x_tree (p1 : Int32) (p2 : Int32) (ks_partCounts : Nat → Int32) (post : Int32 → Prop) : Prop := wp_x_isKey p1 (fun (r1 : Int32) => (¬ r1 = 0 → (0 ≤ p2 → wp_ks_partCount p1 ks_partCounts (fun (r4 : Int32) => wp_x_joinOfTree r4 p2 (fun (r5 : Int32) => post r5))) ∧ (¬ 0 ≤ p2 → post (-1))) ∧ (r1 = 0 → post (-101)))
theorem mm_x_tree : hk_MV yX7_tree cX7_tree 3 (some .int) 2 := ⟨hw_538, hw_536, hw_537, hw_79, by decide +kernel⟩
set_option maxRecDepth 100000 in
set_option maxHeartbeats 4000000 in
theorem c_x_tree (l : Launch) (D : va_G) (cI cJ cZ cM : ClassId) (h_x : Nat) (a_x : Nat → Nat) (h_cn : Nat) (a_cn : Nat → Nat) (h_sm : Nat) (a_sm : Nat → Nat) (h_ti : Nat) (a_ti : Nat → Nat) (h_lg : Nat) (a_lg : Nat → Nat) (h_ks : Nat) (a_ks : Nat → Nat) (h_fo : Nat) (a_fo : Nat → Nat)  (x_places : Int32) (x_round : Int32) (x_threshold : Int32) (x_slack : Int32) (x_marks : Nat → Option Nat) (x_loads : Nat → Int32) (x_markCount : Int32) (x_rows : Int32) (x_roundRows : Int32) (x_rounds : Int32) (x_flips : Int32) (x_passedOver : Int32) (cn_keys : Nat → Int32) (cn_counts : Nat → Int32) (cn_errors : Nat → Int32) (cn_limit : Int32) (cn_used : Int32) (sm_keys : Nat → Int32) (sm_weights : Nat → Int32) (sm_count : Int32) (sm_matches : Int32) (sm_out : Int64) (ti_keys : Nat → Int32) (ti_times : Nat → Int32) (ti_count : Int32) (ti_now : Int32) (lg_cells : Nat → Int64) (lg_newest : Int32) (lg_kept : Int32) (ks_partCounts : Nat → Int32) (ks_states : Nat → Int64) (ks_latestRows : Nat → Int32) (ks_latestValues : Nat → Int64) (ks_moved : Int32) (fo_kinds : Nat → Int32) (fo_declared : Nat → Int32) (fo_count : Int32) (p1 : Int32) (p2 : Int32) (post : Int32 → Prop) (h : wp_x_tree p1 p2 ks_partCounts post) : Met l yX7_tree (hk_ws yX7_tree cX7_tree 3 (some .int)) (hk_rm 2 42) (va_Pc [.ref h_x, .int p1, .int p2] (hk_PR D (hk_ty cI cJ cZ cM) (wv_x cI cJ cZ cM h_x a_x x_places x_round x_threshold x_slack h_fo h_ks h_cn h_sm h_ti h_lg x_marks x_loads x_markCount x_rows x_roundRows x_rounds x_flips x_passedOver ++ (wv_cn cI cJ cZ cM h_cn a_cn cn_keys cn_counts cn_errors cn_limit cn_used ++ (wv_sm cI cJ cZ cM h_sm a_sm sm_keys sm_weights sm_count sm_matches sm_out ++ (wv_ti cI cJ cZ cM h_ti a_ti ti_keys ti_times ti_count ti_now ++ (wv_lg cI cJ cZ cM h_lg a_lg lg_cells lg_newest lg_kept ++ (wv_ks cI cJ cZ cM h_ks a_ks h_fo ks_partCounts ks_states ks_latestRows ks_latestValues ks_moved ++ (wv_fo cI cJ cZ cM h_fo a_fo fo_kinds fo_declared fo_count))))))))) (vp_Si post) 0 0 (fun _ => False) := by
  refine Met.ofW (cc := cX7_tree) (maxL := 3) (ret := (some .int)) (by decide) rfl ?_
  intro p e s m args below meth c s₁ B hml hv
  obtain ⟨rfl, hP, hK, hN⟩ := hv
  have hx := B.exec
  have hb := B.bytes
  have hr := B.returns
  have hts := atoms_spec (ws := hk_ws yX7_tree cX7_tree 3 (some .int)) B.pre
  have hta : ∀ w ∈ hk_all, w.before ([.ref h_x, .int p1, .int p2] : List Value).toArray s = true := fun w hw => hts w (List.mem_cons_of_mem _ hw)
  have hown : s.vm.findClass RX7 = some m.cls := findClass_of_methodNamed B.named
  have hlocks := B.notSynchronized
  have S0 : CallFix p m c cX7_tree 3 s ([.ref h_x, .int p1, .int p2] : List Value).toArray hk_all RX7 := ⟨hx, hb, hml, hown, hta⟩
  have hl := lv_entry ([.ref h_x, .int p1, .int p2]) (n := 3) (Nat.le_of_ble_eq_true rfl)
  rw [lg_entry_eq]
  generalize (lg_sl ([.ref h_x, .int p1, .int p2]) ++ List.replicate (3 - (lg_sl ([.ref h_x, .int p1, .int p2])).length) Slot.unset).toArray = ls at hl ⊢
  have hl : lv_has ls 3 [(0, .ref h_x), (1, .int p1), (2, .int p2)] := hl
  unfold wp_x_tree at h
  refine lv_iload_n hx hb dX7_tree_0 rfl (lv_at hl 1 rfl) ?_
  refine vp_callSi (hk_runS (As := [.int p1]) (rest := []) S0 mm_x_isKey (c_x_isKey l D cI cJ cZ cM p1 _ h) hw_370 hk_blR (hk_atR (hP.sub (ws' := ([] : va_W)) [] rfl) hK hN) ⟨rfl, rfl, Nat.le_of_ble_eq_true rfl, Nat.le_of_ble_eq_true rfl⟩ rfl hl.1 rfl (Nat.le_of_ble_eq_true rfl) dX7_tree_1 ⟨Nat.le_of_ble_eq_true rfl, Nat.le_of_ble_eq_true rfl⟩).run (fun r1 h => ?_)
  refine lv_if_ne (tgt := 10) hx hb dX7_tree_4 (by decide) (fun c2 => ?_) (fun c2 => ?_)
  · have h := h.1 c2
    refine lv_iload_n hx hb dX7_tree_10 rfl (lv_at hl 2 rfl) ?_
    refine lv_if_ge (tgt := 18) hx hb dX7_tree_11 (by decide) (fun c3 => ?_) (fun c3 => ?_)
    · have h := h.1 c3
      refine lv_aload_n hx hb dX7_tree_18 rfl (lv_at hl 0 rfl) ?_
      refine va_get (D := D) (ci := 7) (v := .ref h_ks) (C := RX7) (T := TX7) (N := 18) hx hb hta ih_X7 hown hK hP 0 rfl rfl 5 (by decide) (hta _ hw_279) (fun _ h9 => h9) rfl dX7_tree_19 ?_
      refine lv_iload_n hx hb dX7_tree_22 rfl (lv_at hl 1 rfl) ?_
      refine vp_callSi (hk_runVN (As := [.int p1]) (rest := []) S0 mm_ks_partCount (c_ks_partCount l D cI cJ cZ cM h_ks a_ks h_fo a_fo ks_partCounts ks_states ks_latestRows ks_latestValues ks_moved fo_kinds fo_declared fo_count p1 _ h) (hN.1 _ hn_373) hk_blR (hk_atR (hP.sub (ws' := (wv_ks cI cJ cZ cM h_ks a_ks h_fo ks_partCounts ks_states ks_latestRows ks_latestValues ks_moved) ++ (wv_fo cI cJ cZ cM h_fo a_fo fo_kinds fo_declared fo_count)) [15, 16, 17, 18, 19, 20, 21, 22] rfl) hK hN) (va_recv hK hP (ci := 2) (q0 := 15) rfl rfl) ⟨rfl, rfl, Nat.le_of_ble_eq_true rfl, Nat.le_of_ble_eq_true rfl⟩ rfl hl.1 rfl (Nat.le_of_ble_eq_true rfl) dX7_tree_23 ⟨Nat.le_of_ble_eq_true rfl, Nat.le_of_ble_eq_true rfl⟩).run (fun r4 h => ?_)
      refine lv_iload_n hx hb dX7_tree_26 rfl (lv_at hl 2 rfl) ?_
      refine vp_callSi (hk_runS (As := [.int r4, .int p2]) (rest := []) S0 mm_x_joinOfTree (c_x_joinOfTree l D cI cJ cZ cM r4 p2 _ h) hw_539 hk_blR (hk_atR (hP.sub (ws' := ([] : va_W)) [] rfl) hK hN) ⟨rfl, rfl, Nat.le_of_ble_eq_true rfl, Nat.le_of_ble_eq_true rfl⟩ rfl hl.1 rfl (Nat.le_of_ble_eq_true rfl) dX7_tree_27 ⟨Nat.le_of_ble_eq_true rfl, Nat.le_of_ble_eq_true rfl⟩).run (fun r5 h => ?_)
      exact W.iret (v := r5) hx hb hr (fun t ht hW => ⟨_, rfl, h, ht⟩) (fun _ hq => by cases hq) dX7_tree_30
    · have h := h.2 c3
      refine lv_iconst (v := (-1)) hx hb dX7_tree_14 (by decide) ?_
      refine lv_goto (tgt := 30) hx hb dX7_tree_15 (by decide) ?_
      exact W.iret (v := (-1)) hx hb hr (fun t ht hW => ⟨_, rfl, h, ht⟩) (fun _ hq => by cases hq) dX7_tree_30
  · have h := h.2 c2
    refine lv_bipush (v := (-101)) hx hb dX7_tree_7 (by decide) ?_
    exact W.iret (v := (-101)) hx hb hr (fun t ht hW => ⟨_, rfl, h, ht⟩) (fun _ hq => by cases hq) dX7_tree_9
def wp_x_counter (p1 : Int32) (p2 : Int32) (cn_keys : Nat → Int32) (cn_counts : Nat → Int32) (cn_errors : Nat → Int32) (cn_limit : Int32) (cn_used : Int32) (post : Int32 → Prop) : Prop := wp_x_isWithin p1 0 (cn_limit - 1) (fun (r1 : Int32) => (¬ r1 = 0 → (p2 = 0 → wp_cn_keyAt p1 cn_keys cn_used (fun (r3 : Int32) => post r3)) ∧ (¬ p2 = 0 → (p2 = 1 → wp_cn_countAt p1 cn_counts cn_used (fun (r4 : Int32) => post r4)) ∧ (¬ p2 = 1 → (p2 = 2 → wp_cn_errorAt p1 cn_errors cn_used (fun (r5 : Int32) => post r5)) ∧ (¬ p2 = 2 → post (-102))))) ∧ (r1 = 0 → post (-102)))
theorem mm_x_counter : hk_MV yX7_counter cX7_counter 3 (some .int) 2 := ⟨hw_545, hw_543, hw_544, hw_79, by decide +kernel⟩
set_option maxRecDepth 100000 in
set_option maxHeartbeats 4000000 in
theorem c_x_counter (l : Launch) (D : va_G) (cI cJ cZ cM : ClassId) (h_x : Nat) (a_x : Nat → Nat) (h_cn : Nat) (a_cn : Nat → Nat) (h_sm : Nat) (a_sm : Nat → Nat) (h_ti : Nat) (a_ti : Nat → Nat) (h_lg : Nat) (a_lg : Nat → Nat) (h_ks : Nat) (a_ks : Nat → Nat) (h_fo : Nat) (a_fo : Nat → Nat)  (x_places : Int32) (x_round : Int32) (x_threshold : Int32) (x_slack : Int32) (x_marks : Nat → Option Nat) (x_loads : Nat → Int32) (x_markCount : Int32) (x_rows : Int32) (x_roundRows : Int32) (x_rounds : Int32) (x_flips : Int32) (x_passedOver : Int32) (cn_keys : Nat → Int32) (cn_counts : Nat → Int32) (cn_errors : Nat → Int32) (cn_limit : Int32) (cn_used : Int32) (sm_keys : Nat → Int32) (sm_weights : Nat → Int32) (sm_count : Int32) (sm_matches : Int32) (sm_out : Int64) (ti_keys : Nat → Int32) (ti_times : Nat → Int32) (ti_count : Int32) (ti_now : Int32) (lg_cells : Nat → Int64) (lg_newest : Int32) (lg_kept : Int32) (ks_partCounts : Nat → Int32) (ks_states : Nat → Int64) (ks_latestRows : Nat → Int32) (ks_latestValues : Nat → Int64) (ks_moved : Int32) (fo_kinds : Nat → Int32) (fo_declared : Nat → Int32) (fo_count : Int32) (p1 : Int32) (p2 : Int32) (post : Int32 → Prop) (h : wp_x_counter p1 p2 cn_keys cn_counts cn_errors cn_limit cn_used post) : Met l yX7_counter (hk_ws yX7_counter cX7_counter 3 (some .int)) (hk_rm 1 22) (va_Pc [.ref h_x, .int p1, .int p2] (hk_PR D (hk_ty cI cJ cZ cM) (wv_x cI cJ cZ cM h_x a_x x_places x_round x_threshold x_slack h_fo h_ks h_cn h_sm h_ti h_lg x_marks x_loads x_markCount x_rows x_roundRows x_rounds x_flips x_passedOver ++ (wv_cn cI cJ cZ cM h_cn a_cn cn_keys cn_counts cn_errors cn_limit cn_used ++ (wv_sm cI cJ cZ cM h_sm a_sm sm_keys sm_weights sm_count sm_matches sm_out ++ (wv_ti cI cJ cZ cM h_ti a_ti ti_keys ti_times ti_count ti_now ++ (wv_lg cI cJ cZ cM h_lg a_lg lg_cells lg_newest lg_kept ++ (wv_ks cI cJ cZ cM h_ks a_ks h_fo ks_partCounts ks_states ks_latestRows ks_latestValues ks_moved ++ (wv_fo cI cJ cZ cM h_fo a_fo fo_kinds fo_declared fo_count))))))))) (vp_Si post) 0 0 (fun _ => False) := by
  refine Met.ofW (cc := cX7_counter) (maxL := 3) (ret := (some .int)) (by decide) rfl ?_
  intro p e s m args below meth c s₁ B hml hv
  obtain ⟨rfl, hP, hK, hN⟩ := hv
  have hx := B.exec
  have hb := B.bytes
  have hr := B.returns
  have hts := atoms_spec (ws := hk_ws yX7_counter cX7_counter 3 (some .int)) B.pre
  have hta : ∀ w ∈ hk_all, w.before ([.ref h_x, .int p1, .int p2] : List Value).toArray s = true := fun w hw => hts w (List.mem_cons_of_mem _ hw)
  have hown : s.vm.findClass RX7 = some m.cls := findClass_of_methodNamed B.named
  have hlocks := B.notSynchronized
  have S0 : CallFix p m c cX7_counter 3 s ([.ref h_x, .int p1, .int p2] : List Value).toArray hk_all RX7 := ⟨hx, hb, hml, hown, hta⟩
  have hl := lv_entry ([.ref h_x, .int p1, .int p2]) (n := 3) (Nat.le_of_ble_eq_true rfl)
  rw [lg_entry_eq]
  generalize (lg_sl ([.ref h_x, .int p1, .int p2]) ++ List.replicate (3 - (lg_sl ([.ref h_x, .int p1, .int p2])).length) Slot.unset).toArray = ls at hl ⊢
  have hl : lv_has ls 3 [(0, .ref h_x), (1, .int p1), (2, .int p2)] := hl
  unfold wp_x_counter at h
  refine lv_iload_n hx hb dX7_counter_0 rfl (lv_at hl 1 rfl) ?_
  refine lv_iconst (v := 0) hx hb dX7_counter_1 (by decide) ?_
  refine lv_aload_n hx hb dX7_counter_2 rfl (lv_at hl 0 rfl) ?_
  refine va_get (D := D) (ci := 7) (v := .ref h_cn) (C := RX7) (T := TX7) (N := 18) hx hb hta ih_X7 hown hK hP 0 rfl rfl 6 (by decide) (hta _ hw_280) (fun _ h9 => h9) rfl dX7_counter_3 ?_
  refine va_getN (D := D) (ci := 0) (v := .int cn_limit) (C := RX0) (T := TX0) (N := 5) hx hb hta ih_X0 hown hK hP 3 rfl rfl 3 (by decide) (va_Nw.use rfl (hN.1 _ hn_156)) (fun _ h9 => h9) rfl dX7_counter_6 ?_
  refine lv_iconst (v := 1) hx hb dX7_counter_9 (by decide) ?_
  refine lv_isub hx hb dX7_counter_10 ?_
  refine vp_callSi (hk_runS (As := [.int p1, .int 0, .int (cn_limit - 1)]) (rest := []) S0 mm_x_isWithin (c_x_isWithin l D cI cJ cZ cM p1 0 (cn_limit - 1) _ h) hw_333 hk_blR (hk_atR (hP.sub (ws' := ([] : va_W)) [] rfl) hK hN) ⟨rfl, rfl, Nat.le_of_ble_eq_true rfl, Nat.le_of_ble_eq_true rfl⟩ rfl hl.1 rfl (Nat.le_of_ble_eq_true rfl) dX7_counter_11 ⟨Nat.le_of_ble_eq_true rfl, Nat.le_of_ble_eq_true rfl⟩).run (fun r1 h => ?_)
  refine lv_if_ne (tgt := 20) hx hb dX7_counter_14 (by decide) (fun c2 => ?_) (fun c2 => ?_)
  · have h := h.1 c2
    refine lv_iload_n hx hb dX7_counter_20 rfl (lv_at hl 2 rfl) ?_
    by_cases c6 : p2 = 0
    · have h := h.1 c6
      refine lv_tableIn (tgt := 48) hx hb dX7_counter_21 (by rw [c6]; decide) (by rw [c6]; decide) (by rw [c6]; rfl) (by decide) ?_
      refine lv_aload_n hx hb dX7_counter_48 rfl (lv_at hl 0 rfl) ?_
      refine va_get (D := D) (ci := 7) (v := .ref h_cn) (C := RX7) (T := TX7) (N := 18) hx hb hta ih_X7 hown hK hP 0 rfl rfl 6 (by decide) (hta _ hw_280) (fun _ h9 => h9) rfl dX7_counter_49 ?_
      refine lv_iload_n hx hb dX7_counter_52 rfl (lv_at hl 1 rfl) ?_
      refine vp_callSi (hk_runVN (As := [.int p1]) (rest := []) S0 mm_cn_keyAt (c_cn_keyAt l D cI cJ cZ cM h_cn a_cn cn_keys cn_counts cn_errors cn_limit cn_used p1 _ h) (hN.1 _ hn_433) hk_blR (hk_atR (hP.sub (ws' := wv_cn cI cJ cZ cM h_cn a_cn cn_keys cn_counts cn_errors cn_limit cn_used) [3, 4, 5, 6] rfl) hK hN) (va_recv hK hP (ci := 0) (q0 := 3) rfl rfl) ⟨rfl, rfl, Nat.le_of_ble_eq_true rfl, Nat.le_of_ble_eq_true rfl⟩ rfl hl.1 rfl (Nat.le_of_ble_eq_true rfl) dX7_counter_53 ⟨Nat.le_of_ble_eq_true rfl, Nat.le_of_ble_eq_true rfl⟩).run (fun r3 h => ?_)
      exact W.iret (v := r3) hx hb hr (fun t ht hW => ⟨_, rfl, h, ht⟩) (fun _ hq => by cases hq) dX7_counter_56
    · have h := h.2 c6
      by_cases c7 : p2 = 1
      · have h := h.1 c7
        refine lv_tableIn (tgt := 57) hx hb dX7_counter_21 (by rw [c7]; decide) (by rw [c7]; decide) (by rw [c7]; rfl) (by decide) ?_
        refine lv_aload_n hx hb dX7_counter_57 rfl (lv_at hl 0 rfl) ?_
        refine va_get (D := D) (ci := 7) (v := .ref h_cn) (C := RX7) (T := TX7) (N := 18) hx hb hta ih_X7 hown hK hP 0 rfl rfl 6 (by decide) (hta _ hw_280) (fun _ h9 => h9) rfl dX7_counter_58 ?_
        refine lv_iload_n hx hb dX7_counter_61 rfl (lv_at hl 1 rfl) ?_
        refine vp_callSi (hk_runVN (As := [.int p1]) (rest := []) S0 mm_cn_countAt (c_cn_countAt l D cI cJ cZ cM h_cn a_cn cn_keys cn_counts cn_errors cn_limit cn_used p1 _ h) (hN.1 _ hn_454) hk_blR (hk_atR (hP.sub (ws' := wv_cn cI cJ cZ cM h_cn a_cn cn_keys cn_counts cn_errors cn_limit cn_used) [3, 4, 5, 6] rfl) hK hN) (va_recv hK hP (ci := 0) (q0 := 3) rfl rfl) ⟨rfl, rfl, Nat.le_of_ble_eq_true rfl, Nat.le_of_ble_eq_true rfl⟩ rfl hl.1 rfl (Nat.le_of_ble_eq_true rfl) dX7_counter_62 ⟨Nat.le_of_ble_eq_true rfl, Nat.le_of_ble_eq_true rfl⟩).run (fun r4 h => ?_)
        exact W.iret (v := r4) hx hb hr (fun t ht hW => ⟨_, rfl, h, ht⟩) (fun _ hq => by cases hq) dX7_counter_65
      · have h := h.2 c7
        by_cases c8 : p2 = 2
        · have h := h.1 c8
          refine lv_tableIn (tgt := 66) hx hb dX7_counter_21 (by rw [c8]; decide) (by rw [c8]; decide) (by rw [c8]; rfl) (by decide) ?_
          refine lv_aload_n hx hb dX7_counter_66 rfl (lv_at hl 0 rfl) ?_
          refine va_get (D := D) (ci := 7) (v := .ref h_cn) (C := RX7) (T := TX7) (N := 18) hx hb hta ih_X7 hown hK hP 0 rfl rfl 6 (by decide) (hta _ hw_280) (fun _ h9 => h9) rfl dX7_counter_67 ?_
          refine lv_iload_n hx hb dX7_counter_70 rfl (lv_at hl 1 rfl) ?_
          refine vp_callSi (hk_runVN (As := [.int p1]) (rest := []) S0 mm_cn_errorAt (c_cn_errorAt l D cI cJ cZ cM h_cn a_cn cn_keys cn_counts cn_errors cn_limit cn_used p1 _ h) (hN.1 _ hn_546) hk_blR (hk_atR (hP.sub (ws' := wv_cn cI cJ cZ cM h_cn a_cn cn_keys cn_counts cn_errors cn_limit cn_used) [3, 4, 5, 6] rfl) hK hN) (va_recv hK hP (ci := 0) (q0 := 3) rfl rfl) ⟨rfl, rfl, Nat.le_of_ble_eq_true rfl, Nat.le_of_ble_eq_true rfl⟩ rfl hl.1 rfl (Nat.le_of_ble_eq_true rfl) dX7_counter_71 ⟨Nat.le_of_ble_eq_true rfl, Nat.le_of_ble_eq_true rfl⟩).run (fun r5 h => ?_)
          exact W.iret (v := r5) hx hb hr (fun t ht hW => ⟨_, rfl, h, ht⟩) (fun _ hq => by cases hq) dX7_counter_74
        · have h := h.2 c8
          refine lv_tableOut (tgt := 75) hx hb dX7_counter_21 (by have qc6 := lv_neT c6 (a := 0) rfl; have qc7 := lv_neT c7 (a := 1) rfl; have qc8 := lv_neT c8 (a := 2) rfl; omega) (by decide) ?_
          refine lv_bipush (v := (-102)) hx hb dX7_counter_75 (by decide) ?_
          exact W.iret (v := (-102)) hx hb hr (fun t ht hW => ⟨_, rfl, h, ht⟩) (fun _ hq => by cases hq) dX7_counter_77
  · have h := h.2 c2
    refine lv_bipush (v := (-102)) hx hb dX7_counter_17 (by decide) ?_
    exact W.iret (v := (-102)) hx hb hr (fun t ht hW => ⟨_, rfl, h, ht⟩) (fun _ hq => by cases hq) dX7_counter_19
def wp_x_hot (p1 : Int32) (x_threshold : Int32) (cn_keys : Nat → Int32) (cn_counts : Nat → Int32) (cn_errors : Nat → Int32) (cn_limit : Int32) (cn_used : Int32) (post : Int32 → Prop) : Prop := wp_x_isKey p1 (fun (r1 : Int32) => (¬ r1 = 0 → wp_cn_atLeast p1 cn_keys cn_counts cn_errors cn_used (fun (r3 : Int32) => (r3 < x_threshold → wp_cn_atMost p1 cn_keys cn_counts cn_limit cn_used (fun (r5 : Int32) => (r5 < x_threshold → post 0) ∧ (¬ r5 < x_threshold → post 1))) ∧ (¬ r3 < x_threshold → post 2))) ∧ (r1 = 0 → post (-101)))
theorem mm_x_hot : hk_MV yX7_hot cX7_hot 2 (some .int) 1 := ⟨hw_550, hw_548, hw_549, hw_79, by decide +kernel⟩
set_option maxRecDepth 100000 in
set_option maxHeartbeats 4000000 in
theorem c_x_hot (l : Launch) (D : va_G) (cI cJ cZ cM : ClassId) (h_x : Nat) (a_x : Nat → Nat) (h_cn : Nat) (a_cn : Nat → Nat) (h_sm : Nat) (a_sm : Nat → Nat) (h_ti : Nat) (a_ti : Nat → Nat) (h_lg : Nat) (a_lg : Nat → Nat) (h_ks : Nat) (a_ks : Nat → Nat) (h_fo : Nat) (a_fo : Nat → Nat)  (x_places : Int32) (x_round : Int32) (x_threshold : Int32) (x_slack : Int32) (x_marks : Nat → Option Nat) (x_loads : Nat → Int32) (x_markCount : Int32) (x_rows : Int32) (x_roundRows : Int32) (x_rounds : Int32) (x_flips : Int32) (x_passedOver : Int32) (cn_keys : Nat → Int32) (cn_counts : Nat → Int32) (cn_errors : Nat → Int32) (cn_limit : Int32) (cn_used : Int32) (sm_keys : Nat → Int32) (sm_weights : Nat → Int32) (sm_count : Int32) (sm_matches : Int32) (sm_out : Int64) (ti_keys : Nat → Int32) (ti_times : Nat → Int32) (ti_count : Int32) (ti_now : Int32) (lg_cells : Nat → Int64) (lg_newest : Int32) (lg_kept : Int32) (ks_partCounts : Nat → Int32) (ks_states : Nat → Int64) (ks_latestRows : Nat → Int32) (ks_latestValues : Nat → Int64) (ks_moved : Int32) (fo_kinds : Nat → Int32) (fo_declared : Nat → Int32) (fo_count : Int32) (p1 : Int32) (post : Int32 → Prop) (h : wp_x_hot p1 x_threshold cn_keys cn_counts cn_errors cn_limit cn_used post) : Met l yX7_hot (hk_ws yX7_hot cX7_hot 2 (some .int)) (hk_rm 3 64) (va_Pc [.ref h_x, .int p1] (hk_PR D (hk_ty cI cJ cZ cM) (wv_x cI cJ cZ cM h_x a_x x_places x_round x_threshold x_slack h_fo h_ks h_cn h_sm h_ti h_lg x_marks x_loads x_markCount x_rows x_roundRows x_rounds x_flips x_passedOver ++ (wv_cn cI cJ cZ cM h_cn a_cn cn_keys cn_counts cn_errors cn_limit cn_used ++ (wv_sm cI cJ cZ cM h_sm a_sm sm_keys sm_weights sm_count sm_matches sm_out ++ (wv_ti cI cJ cZ cM h_ti a_ti ti_keys ti_times ti_count ti_now ++ (wv_lg cI cJ cZ cM h_lg a_lg lg_cells lg_newest lg_kept ++ (wv_ks cI cJ cZ cM h_ks a_ks h_fo ks_partCounts ks_states ks_latestRows ks_latestValues ks_moved ++ (wv_fo cI cJ cZ cM h_fo a_fo fo_kinds fo_declared fo_count))))))))) (vp_Si post) 0 0 (fun _ => False) := by
  refine Met.ofW (cc := cX7_hot) (maxL := 2) (ret := (some .int)) (by decide) rfl ?_
  intro p e s m args below meth c s₁ B hml hv
  obtain ⟨rfl, hP, hK, hN⟩ := hv
  have hx := B.exec
  have hb := B.bytes
  have hr := B.returns
  have hts := atoms_spec (ws := hk_ws yX7_hot cX7_hot 2 (some .int)) B.pre
  have hta : ∀ w ∈ hk_all, w.before ([.ref h_x, .int p1] : List Value).toArray s = true := fun w hw => hts w (List.mem_cons_of_mem _ hw)
  have hown : s.vm.findClass RX7 = some m.cls := findClass_of_methodNamed B.named
  have hlocks := B.notSynchronized
  have S0 : CallFix p m c cX7_hot 2 s ([.ref h_x, .int p1] : List Value).toArray hk_all RX7 := ⟨hx, hb, hml, hown, hta⟩
  have hl := lv_entry ([.ref h_x, .int p1]) (n := 2) (Nat.le_of_ble_eq_true rfl)
  rw [lg_entry_eq]
  generalize (lg_sl ([.ref h_x, .int p1]) ++ List.replicate (2 - (lg_sl ([.ref h_x, .int p1])).length) Slot.unset).toArray = ls at hl ⊢
  have hl : lv_has ls 2 [(0, .ref h_x), (1, .int p1)] := hl
  unfold wp_x_hot at h
  refine lv_iload_n hx hb dX7_hot_0 rfl (lv_at hl 1 rfl) ?_
  refine vp_callSi (hk_runS (As := [.int p1]) (rest := []) S0 mm_x_isKey (c_x_isKey l D cI cJ cZ cM p1 _ h) hw_370 hk_blR (hk_atR (hP.sub (ws' := ([] : va_W)) [] rfl) hK hN) ⟨rfl, rfl, Nat.le_of_ble_eq_true rfl, Nat.le_of_ble_eq_true rfl⟩ rfl hl.1 rfl (Nat.le_of_ble_eq_true rfl) dX7_hot_1 ⟨Nat.le_of_ble_eq_true rfl, Nat.le_of_ble_eq_true rfl⟩).run (fun r1 h => ?_)
  refine lv_if_ne (tgt := 10) hx hb dX7_hot_4 (by decide) (fun c2 => ?_) (fun c2 => ?_)
  · have h := h.1 c2
    refine lv_aload_n hx hb dX7_hot_10 rfl (lv_at hl 0 rfl) ?_
    refine va_get (D := D) (ci := 7) (v := .ref h_cn) (C := RX7) (T := TX7) (N := 18) hx hb hta ih_X7 hown hK hP 0 rfl rfl 6 (by decide) (hta _ hw_280) (fun _ h9 => h9) rfl dX7_hot_11 ?_
    refine lv_iload_n hx hb dX7_hot_14 rfl (lv_at hl 1 rfl) ?_
    refine vp_callSi (hk_runVN (As := [.int p1]) (rest := []) S0 mm_cn_atLeast (c_cn_atLeast l D cI cJ cZ cM h_cn a_cn cn_keys cn_counts cn_errors cn_limit cn_used p1 _ h) (hN.1 _ hn_551) hk_blR (hk_atR (hP.sub (ws' := wv_cn cI cJ cZ cM h_cn a_cn cn_keys cn_counts cn_errors cn_limit cn_used) [3, 4, 5, 6] rfl) hK hN) (va_recv hK hP (ci := 0) (q0 := 3) rfl rfl) ⟨rfl, rfl, Nat.le_of_ble_eq_true rfl, Nat.le_of_ble_eq_true rfl⟩ rfl hl.1 rfl (Nat.le_of_ble_eq_true rfl) dX7_hot_15 ⟨Nat.le_of_ble_eq_true rfl, Nat.le_of_ble_eq_true rfl⟩).run (fun r3 h => ?_)
    refine lv_aload_n hx hb dX7_hot_18 rfl (lv_at hl 0 rfl) ?_
    refine va_get (D := D) (ci := 7) (v := .int x_threshold) (C := RX7) (T := TX7) (N := 18) hx hb hta ih_X7 hown hK hP 0 rfl rfl 2 (by decide) (hta _ hw_276) (fun _ h9 => h9) rfl dX7_hot_19 ?_
    refine lv_icmp_lt (tgt := 27) hx hb dX7_hot_22 (by decide) (fun c4 => ?_) (fun c4 => ?_)
    · have h := h.1 c4
      refine lv_aload_n hx hb dX7_hot_27 rfl (lv_at hl 0 rfl) ?_
      refine va_get (D := D) (ci := 7) (v := .ref h_cn) (C := RX7) (T := TX7) (N := 18) hx hb hta ih_X7 hown hK hP 0 rfl rfl 6 (by decide) (hta _ hw_280) (fun _ h9 => h9) rfl dX7_hot_28 ?_
      refine lv_iload_n hx hb dX7_hot_31 rfl (lv_at hl 1 rfl) ?_
      refine vp_callSi (hk_runVN (As := [.int p1]) (rest := []) S0 mm_cn_atMost (c_cn_atMost l D cI cJ cZ cM h_cn a_cn cn_keys cn_counts cn_errors cn_limit cn_used p1 _ h) (hN.1 _ hn_473) hk_blR (hk_atR (hP.sub (ws' := wv_cn cI cJ cZ cM h_cn a_cn cn_keys cn_counts cn_errors cn_limit cn_used) [3, 4, 5, 6] rfl) hK hN) (va_recv hK hP (ci := 0) (q0 := 3) rfl rfl) ⟨rfl, rfl, Nat.le_of_ble_eq_true rfl, Nat.le_of_ble_eq_true rfl⟩ rfl hl.1 rfl (Nat.le_of_ble_eq_true rfl) dX7_hot_32 ⟨Nat.le_of_ble_eq_true rfl, Nat.le_of_ble_eq_true rfl⟩).run (fun r5 h => ?_)
      refine lv_aload_n hx hb dX7_hot_35 rfl (lv_at hl 0 rfl) ?_
      refine va_get (D := D) (ci := 7) (v := .int x_threshold) (C := RX7) (T := TX7) (N := 18) hx hb hta ih_X7 hown hK hP 0 rfl rfl 2 (by decide) (hta _ hw_276) (fun _ h9 => h9) rfl dX7_hot_36 ?_
      refine lv_icmp_lt (tgt := 46) hx hb dX7_hot_39 (by decide) (fun c6 => ?_) (fun c6 => ?_)
      · have h := h.1 c6
        refine lv_iconst (v := 0) hx hb dX7_hot_46 (by decide) ?_
        exact W.iret (v := 0) hx hb hr (fun t ht hW => ⟨_, rfl, h, ht⟩) (fun _ hq => by cases hq) dX7_hot_47
      · have h := h.2 c6
        refine lv_iconst (v := 1) hx hb dX7_hot_42 (by decide) ?_
        refine lv_goto (tgt := 47) hx hb dX7_hot_43 (by decide) ?_
        exact W.iret (v := 1) hx hb hr (fun t ht hW => ⟨_, rfl, h, ht⟩) (fun _ hq => by cases hq) dX7_hot_47
    · have h := h.2 c4
      refine lv_iconst (v := 2) hx hb dX7_hot_25 (by decide) ?_
      exact W.iret (v := 2) hx hb hr (fun t ht hW => ⟨_, rfl, h, ht⟩) (fun _ hq => by cases hq) dX7_hot_26
  · have h := h.2 c2
    refine lv_bipush (v := (-101)) hx hb dX7_hot_7 (by decide) ?_
    exact W.iret (v := (-101)) hx hb hr (fun t ht hW => ⟨_, rfl, h, ht⟩) (fun _ hq => by cases hq) dX7_hot_9
def wb_x_splitKey_4 (ks_partCounts : Nat → Int32) (p1 : Int32) (post : Int32 → Prop) (K4 : (Int32 × Int32) → Prop) (v1 : Int32 × Int32) : Prop := (100 ≤ v1.2 → post (-1)) ∧ (¬ 100 ≤ v1.2 → wp_ks_isSplit v1.2 ks_partCounts (fun (r3 : Int32) => (r3 = 0 → ∀ x5 : Int32, x5 = v1.2 + 1 → K4 (v1.1, x5)) ∧ (¬ r3 = 0 → (¬ v1.1 = p1 → ∀ x7 : Int32, x7 = v1.1 + 1 → ∀ x8 : Int32, x8 = v1.2 + 1 → K4 (x7, x8)) ∧ (v1.1 = p1 → post v1.2))))
def wp_x_splitKey (p1 : Int32) (ks_partCounts : Nat → Int32) (post : Int32 → Prop) : Prop := ∃ n, hk_lp (wb_x_splitKey_4 ks_partCounts p1 post) n (0, 0)
theorem mm_x_splitKey : hk_MV yX7_splitKey cX7_splitKey 4 (some .int) 1 := ⟨hw_559, hw_557, hw_558, hw_79, by decide +kernel⟩
set_option maxRecDepth 100000 in
set_option maxHeartbeats 4000000 in
theorem c_x_splitKey (l : Launch) (D : va_G) (cI cJ cZ cM : ClassId) (h_x : Nat) (a_x : Nat → Nat) (h_cn : Nat) (a_cn : Nat → Nat) (h_sm : Nat) (a_sm : Nat → Nat) (h_ti : Nat) (a_ti : Nat → Nat) (h_lg : Nat) (a_lg : Nat → Nat) (h_ks : Nat) (a_ks : Nat → Nat) (h_fo : Nat) (a_fo : Nat → Nat)  (x_places : Int32) (x_round : Int32) (x_threshold : Int32) (x_slack : Int32) (x_marks : Nat → Option Nat) (x_loads : Nat → Int32) (x_markCount : Int32) (x_rows : Int32) (x_roundRows : Int32) (x_rounds : Int32) (x_flips : Int32) (x_passedOver : Int32) (cn_keys : Nat → Int32) (cn_counts : Nat → Int32) (cn_errors : Nat → Int32) (cn_limit : Int32) (cn_used : Int32) (sm_keys : Nat → Int32) (sm_weights : Nat → Int32) (sm_count : Int32) (sm_matches : Int32) (sm_out : Int64) (ti_keys : Nat → Int32) (ti_times : Nat → Int32) (ti_count : Int32) (ti_now : Int32) (lg_cells : Nat → Int64) (lg_newest : Int32) (lg_kept : Int32) (ks_partCounts : Nat → Int32) (ks_states : Nat → Int64) (ks_latestRows : Nat → Int32) (ks_latestValues : Nat → Int64) (ks_moved : Int32) (fo_kinds : Nat → Int32) (fo_declared : Nat → Int32) (fo_count : Int32) (p1 : Int32) (post : Int32 → Prop) (h : wp_x_splitKey p1 ks_partCounts post) : Met l yX7_splitKey (hk_ws yX7_splitKey cX7_splitKey 4 (some .int)) (hk_rm 1 21) (va_Pc [.ref h_x, .int p1] (hk_PR D (hk_ty cI cJ cZ cM) (wv_x cI cJ cZ cM h_x a_x x_places x_round x_threshold x_slack h_fo h_ks h_cn h_sm h_ti h_lg x_marks x_loads x_markCount x_rows x_roundRows x_rounds x_flips x_passedOver ++ (wv_cn cI cJ cZ cM h_cn a_cn cn_keys cn_counts cn_errors cn_limit cn_used ++ (wv_sm cI cJ cZ cM h_sm a_sm sm_keys sm_weights sm_count sm_matches sm_out ++ (wv_ti cI cJ cZ cM h_ti a_ti ti_keys ti_times ti_count ti_now ++ (wv_lg cI cJ cZ cM h_lg a_lg lg_cells lg_newest lg_kept ++ (wv_ks cI cJ cZ cM h_ks a_ks h_fo ks_partCounts ks_states ks_latestRows ks_latestValues ks_moved ++ (wv_fo cI cJ cZ cM h_fo a_fo fo_kinds fo_declared fo_count))))))))) (vp_Si post) 0 0 (fun _ => False) := by
  refine Met.ofW (cc := cX7_splitKey) (maxL := 4) (ret := (some .int)) (by decide) rfl ?_
  intro p e s m args below meth c s₁ B hml hv
  obtain ⟨rfl, hP, hK, hN⟩ := hv
  have hx := B.exec
  have hb := B.bytes
  have hr := B.returns
  have hts := atoms_spec (ws := hk_ws yX7_splitKey cX7_splitKey 4 (some .int)) B.pre
  have hta : ∀ w ∈ hk_all, w.before ([.ref h_x, .int p1] : List Value).toArray s = true := fun w hw => hts w (List.mem_cons_of_mem _ hw)
  have hown : s.vm.findClass RX7 = some m.cls := findClass_of_methodNamed B.named
  have hlocks := B.notSynchronized
  have S0 : CallFix p m c cX7_splitKey 4 s ([.ref h_x, .int p1] : List Value).toArray hk_all RX7 := ⟨hx, hb, hml, hown, hta⟩
  have hl := lv_entry ([.ref h_x, .int p1]) (n := 4) (Nat.le_of_ble_eq_true rfl)
  rw [lg_entry_eq]
  generalize (lg_sl ([.ref h_x, .int p1]) ++ List.replicate (4 - (lg_sl ([.ref h_x, .int p1])).length) Slot.unset).toArray = ls at hl ⊢
  have hl : lv_has ls 4 [(0, .ref h_x), (1, .int p1)] := hl
  unfold wp_x_splitKey at h
  refine lv_iconst (v := 0) hx hb dX7_splitKey_0 (by decide) ?_
  refine lv_istore_n (lv' := [(2, .int 0), (0, .ref h_x), (1, .int p1)]) hx hb dX7_splitKey_1 rfl hl (by decide) rfl (fun ls hl => ?_)
  refine lv_iconst (v := 0) hx hb dX7_splitKey_2 (by decide) ?_
  refine lv_istore_n (lv' := [(3, .int 0), (2, .int 0), (0, .ref h_x), (1, .int p1)]) hx hb dX7_splitKey_3 rfl hl (by decide) rfl (fun ls hl => ?_)
  have P4 : ∀ (n : Nat) (v1 : Int32 × Int32) (ls : Array Slot), lv_has ls 4 [(0, .ref h_x), (1, .int p1), (2, .int v1.1), (3, .int v1.2)] → hk_lp (wb_x_splitKey_4 ks_partCounts p1 post) n v1 → W p l e (headSpec (hk_ws yX7_splitKey cX7_splitKey 4 (some .int)) (hk_rm 1 21)).room s m ([.ref h_x, .int p1] : List Value).toArray below meth c s.heap [] 0 0 (MQ below (vp_Si post) ([.ref h_x, .int p1] : List Value).toArray s 0 0 (fun _ => False)) (F0 m 4 ls []) := by
    intro n
    induction n with
    | zero => intro v1 ls hl h; exact False.elim h
    | succ n ih4 =>
      intro v1 ls hl h
      have h : wb_x_splitKey_4 ks_partCounts p1 post (hk_lp (wb_x_splitKey_4 ks_partCounts p1 post) n) v1 := h
      generalize hk_lp (wb_x_splitKey_4 ks_partCounts p1 post) n = K4 at h ih4
      unfold wb_x_splitKey_4 at h
      refine lv_iload_n hx hb dX7_splitKey_4 rfl (lv_at hl 3 rfl) ?_
      refine lv_bipush (v := 100) hx hb dX7_splitKey_5 (by decide) ?_
      refine lv_icmp_ge (tgt := 37) hx hb dX7_splitKey_7 (by decide) (fun c2 => ?_) (fun c2 => ?_)
      · have h := h.1 c2
        refine lv_iconst (v := (-1)) hx hb dX7_splitKey_37 (by decide) ?_
        exact W.iret (v := (-1)) hx hb hr (fun t ht hW => ⟨_, rfl, h, ht⟩) (fun _ hq => by cases hq) dX7_splitKey_38
      · have h := h.2 c2
        refine lv_aload_n hx hb dX7_splitKey_10 rfl (lv_at hl 0 rfl) ?_
        refine va_get (D := D) (ci := 7) (v := .ref h_ks) (C := RX7) (T := TX7) (N := 18) hx hb hta ih_X7 hown hK hP 0 rfl rfl 5 (by decide) (hta _ hw_279) (fun _ h9 => h9) rfl dX7_splitKey_11 ?_
        refine lv_iload_n hx hb dX7_splitKey_14 rfl (lv_at hl 3 rfl) ?_
        refine vp_callSi (hk_runVN (As := [.int v1.2]) (rest := []) S0 mm_ks_isSplit (c_ks_isSplit l D cI cJ cZ cM h_ks a_ks h_fo a_fo ks_partCounts ks_states ks_latestRows ks_latestValues ks_moved fo_kinds fo_declared fo_count v1.2 _ h) (hN.1 _ hn_449) hk_blR (hk_atR (hP.sub (ws' := (wv_ks cI cJ cZ cM h_ks a_ks h_fo ks_partCounts ks_states ks_latestRows ks_latestValues ks_moved) ++ (wv_fo cI cJ cZ cM h_fo a_fo fo_kinds fo_declared fo_count)) [15, 16, 17, 18, 19, 20, 21, 22] rfl) hK hN) (va_recv hK hP (ci := 2) (q0 := 15) rfl rfl) ⟨rfl, rfl, Nat.le_of_ble_eq_true rfl, Nat.le_of_ble_eq_true rfl⟩ rfl hl.1 rfl (Nat.le_of_ble_eq_true rfl) dX7_splitKey_15 ⟨Nat.le_of_ble_eq_true rfl, Nat.le_of_ble_eq_true rfl⟩).run (fun r3 h => ?_)
        refine lv_if_eq (tgt := 31) hx hb dX7_splitKey_18 (by decide) (fun c4 => ?_) (fun c4 => ?_)
        · have h := h.1 c4
          obtain ⟨x5, ex5⟩ : ∃ y : Int32, y = v1.2 + 1 := ⟨_, rfl⟩
          have h := h x5 ex5
          refine lv_iinc (v := x5) (lv' := [(3, .int x5), (0, .ref h_x), (1, .int p1), (2, .int v1.1)]) hx hb dX7_splitKey_31 hl (k := 3) rfl (by rw [ex5]; rfl) (by decide) rfl (fun ls hl => ?_)
          refine lv_goto (tgt := 4) hx hb dX7_splitKey_34 (by decide) ?_
          exact ih4 (v1.1, x5) ls (lv_sub hl [1, 2, 3, 0] rfl) h
        · have h := h.2 c4
          refine lv_iload_n hx hb dX7_splitKey_21 rfl (lv_at hl 2 rfl) ?_
          refine lv_iload_n hx hb dX7_splitKey_22 rfl (lv_at hl 1 rfl) ?_
          refine lv_icmp_ne (tgt := 28) hx hb dX7_splitKey_23 (by decide) (fun c6 => ?_) (fun c6 => ?_)
          · have h := h.1 c6
            obtain ⟨x7, ex7⟩ : ∃ y : Int32, y = v1.1 + 1 := ⟨_, rfl⟩
            have h := h x7 ex7
            refine lv_iinc (v := x7) (lv' := [(2, .int x7), (0, .ref h_x), (1, .int p1), (3, .int v1.2)]) hx hb dX7_splitKey_28 hl (k := 2) rfl (by rw [ex7]; rfl) (by decide) rfl (fun ls hl => ?_)
            obtain ⟨x8, ex8⟩ : ∃ y : Int32, y = v1.2 + 1 := ⟨_, rfl⟩
            have h := h x8 ex8
            refine lv_iinc (v := x8) (lv' := [(3, .int x8), (2, .int x7), (0, .ref h_x), (1, .int p1)]) hx hb dX7_splitKey_31 hl (k := 3) rfl (by rw [ex8]; rfl) (by decide) rfl (fun ls hl => ?_)
            refine lv_goto (tgt := 4) hx hb dX7_splitKey_34 (by decide) ?_
            exact ih4 (x7, x8) ls (lv_sub hl [2, 3, 1, 0] rfl) h
          · have h := h.2 c6
            refine lv_iload_n hx hb dX7_splitKey_26 rfl (lv_at hl 3 rfl) ?_
            exact W.iret (v := v1.2) hx hb hr (fun t ht hW => ⟨_, rfl, h, ht⟩) (fun _ hq => by cases hq) dX7_splitKey_27
  obtain ⟨n, h⟩ := h
  exact P4 n (0, 0) ls (lv_sub hl [2, 3, 1, 0] rfl) h
def wp_x_load (p1 : Int32) (x_places : Int32) (x_loads : Nat → Int32) (post : Int32 → Prop) : Prop := wp_x_isPlace p1 x_places (fun (r1 : Int32) => (r1 = 0 → post (-101)) ∧ (¬ r1 = 0 → vp_in p1 8 ∧ (post (x_loads p1.toNatClampNeg))))
theorem mm_x_load : hk_MV yX7_load cX7_load 2 (some .int) 1 := ⟨hw_563, hw_561, hw_562, hw_79, by decide +kernel⟩
set_option maxRecDepth 100000 in
set_option maxHeartbeats 4000000 in
theorem c_x_load (l : Launch) (D : va_G) (cI cJ cZ cM : ClassId) (h_x : Nat) (a_x : Nat → Nat) (h_cn : Nat) (a_cn : Nat → Nat) (h_sm : Nat) (a_sm : Nat → Nat) (h_ti : Nat) (a_ti : Nat → Nat) (h_lg : Nat) (a_lg : Nat → Nat) (h_ks : Nat) (a_ks : Nat → Nat) (h_fo : Nat) (a_fo : Nat → Nat)  (x_places : Int32) (x_round : Int32) (x_threshold : Int32) (x_slack : Int32) (x_marks : Nat → Option Nat) (x_loads : Nat → Int32) (x_markCount : Int32) (x_rows : Int32) (x_roundRows : Int32) (x_rounds : Int32) (x_flips : Int32) (x_passedOver : Int32) (cn_keys : Nat → Int32) (cn_counts : Nat → Int32) (cn_errors : Nat → Int32) (cn_limit : Int32) (cn_used : Int32) (sm_keys : Nat → Int32) (sm_weights : Nat → Int32) (sm_count : Int32) (sm_matches : Int32) (sm_out : Int64) (ti_keys : Nat → Int32) (ti_times : Nat → Int32) (ti_count : Int32) (ti_now : Int32) (lg_cells : Nat → Int64) (lg_newest : Int32) (lg_kept : Int32) (ks_partCounts : Nat → Int32) (ks_states : Nat → Int64) (ks_latestRows : Nat → Int32) (ks_latestValues : Nat → Int64) (ks_moved : Int32) (fo_kinds : Nat → Int32) (fo_declared : Nat → Int32) (fo_count : Int32) (p1 : Int32) (post : Int32 → Prop) (h : wp_x_load p1 x_places x_loads post) : Met l yX7_load (hk_ws yX7_load cX7_load 2 (some .int)) (hk_rm 2 43) (va_Pc [.ref h_x, .int p1] (hk_PR D (hk_ty cI cJ cZ cM) (wv_x cI cJ cZ cM h_x a_x x_places x_round x_threshold x_slack h_fo h_ks h_cn h_sm h_ti h_lg x_marks x_loads x_markCount x_rows x_roundRows x_rounds x_flips x_passedOver ++ (wv_cn cI cJ cZ cM h_cn a_cn cn_keys cn_counts cn_errors cn_limit cn_used ++ (wv_sm cI cJ cZ cM h_sm a_sm sm_keys sm_weights sm_count sm_matches sm_out ++ (wv_ti cI cJ cZ cM h_ti a_ti ti_keys ti_times ti_count ti_now ++ (wv_lg cI cJ cZ cM h_lg a_lg lg_cells lg_newest lg_kept ++ (wv_ks cI cJ cZ cM h_ks a_ks h_fo ks_partCounts ks_states ks_latestRows ks_latestValues ks_moved ++ (wv_fo cI cJ cZ cM h_fo a_fo fo_kinds fo_declared fo_count))))))))) (vp_Si post) 0 0 (fun _ => False) := by
  refine Met.ofW (cc := cX7_load) (maxL := 2) (ret := (some .int)) (by decide) rfl ?_
  intro p e s m args below meth c s₁ B hml hv
  obtain ⟨rfl, hP, hK, hN⟩ := hv
  have hx := B.exec
  have hb := B.bytes
  have hr := B.returns
  have hts := atoms_spec (ws := hk_ws yX7_load cX7_load 2 (some .int)) B.pre
  have hta : ∀ w ∈ hk_all, w.before ([.ref h_x, .int p1] : List Value).toArray s = true := fun w hw => hts w (List.mem_cons_of_mem _ hw)
  have hown : s.vm.findClass RX7 = some m.cls := findClass_of_methodNamed B.named
  have hlocks := B.notSynchronized
  have S0 : CallFix p m c cX7_load 2 s ([.ref h_x, .int p1] : List Value).toArray hk_all RX7 := ⟨hx, hb, hml, hown, hta⟩
  have hl := lv_entry ([.ref h_x, .int p1]) (n := 2) (Nat.le_of_ble_eq_true rfl)
  rw [lg_entry_eq]
  generalize (lg_sl ([.ref h_x, .int p1]) ++ List.replicate (2 - (lg_sl ([.ref h_x, .int p1])).length) Slot.unset).toArray = ls at hl ⊢
  have hl : lv_has ls 2 [(0, .ref h_x), (1, .int p1)] := hl
  unfold wp_x_load at h
  refine lv_aload_n hx hb dX7_load_0 rfl (lv_at hl 0 rfl) ?_
  refine lv_iload_n hx hb dX7_load_1 rfl (lv_at hl 1 rfl) ?_
  refine vp_callSi (hk_runV (As := [.int p1]) (rest := []) S0 mm_x_isPlace (c_x_isPlace l D cI cJ cZ cM h_x a_x h_cn a_cn h_sm a_sm h_ti a_ti h_lg a_lg h_ks a_ks h_fo a_fo x_places x_round x_threshold x_slack x_marks x_loads x_markCount x_rows x_roundRows x_rounds x_flips x_passedOver cn_keys cn_counts cn_errors cn_limit cn_used sm_keys sm_weights sm_count sm_matches sm_out ti_keys ti_times ti_count ti_now lg_cells lg_newest lg_kept ks_partCounts ks_states ks_latestRows ks_latestValues ks_moved fo_kinds fo_declared fo_count p1 _ h) hw_564 hk_blR (hk_atR hP hK hN) (va_recv hK hP (ci := 7) (q0 := 0) rfl rfl) ⟨rfl, rfl, Nat.le_of_ble_eq_true rfl, Nat.le_of_ble_eq_true rfl⟩ rfl hl.1 rfl (Nat.le_of_ble_eq_true rfl) dX7_load_2 ⟨Nat.le_of_ble_eq_true rfl, Nat.le_of_ble_eq_true rfl⟩).run (fun r1 h => ?_)
  refine lv_if_eq (tgt := 17) hx hb dX7_load_5 (by decide) (fun c2 => ?_) (fun c2 => ?_)
  · have h := h.1 c2
    refine lv_bipush (v := (-101)) hx hb dX7_load_17 (by decide) ?_
    exact W.iret (v := (-101)) hx hb hr (fun t ht hW => ⟨_, rfl, h, ht⟩) (fun _ hq => by cases hq) dX7_load_19
  · have h := h.2 c2
    refine lv_aload_n hx hb dX7_load_8 rfl (lv_at hl 0 rfl) ?_
    refine va_get (D := D) (ci := 7) (v := .ref (a_x 11)) (C := RX7) (T := TX7) (N := 18) hx hb hta ih_X7 hown hK hP 0 rfl rfl 11 (by decide) (hta _ hw_285) (fun _ h9 => h9) rfl dX7_load_9 ?_
    refine lv_iload_n hx hb dX7_load_12 rfl (lv_at hl 1 rfl) ?_
    refine va_iald hx hb hK hP 2 0 rfl rfl h.1 dX7_load_13 ?_
    have h := h.2
    refine lv_goto (tgt := 19) hx hb dX7_load_14 (by decide) ?_
    exact W.iret (v := x_loads p1.toNatClampNeg) hx hb hr (fun t ht hW => ⟨_, rfl, h, ht⟩) (fun _ hq => by cases hq) dX7_load_19
