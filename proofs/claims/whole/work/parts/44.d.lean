def wp_d_state (p1 : Int32) (p2 : Int32) (d_folds : Int32) (d_kinds : Nat → Int32) (d_states : Nat → Int64) (d_lastRow : Nat → Int32) (d_parts : Nat → Int32) (post : Int64 → Prop) : Prop := wp_d_in p1.toInt64 0 ((d_folds - 1).toInt64) (fun (r1 : Int32) => (r1 = 0 → post (-4000000000000)) ∧ (¬ r1 = 0 → wp_d_noKey p2 (fun (r3 : Int32) => (r3 = 0 → wp_d_come p1 p2 d_kinds d_states d_lastRow d_parts (fun (r5 : Int64) => post r5)) ∧ (¬ r3 = 0 → post (-4000000000000)))))
theorem mm_d_state : hk_MV yX8_state cX8_state 3 (some .long) 2 := ⟨hw_992, hw_990, hw_991, hw_87, by decide +kernel⟩
set_option maxRecDepth 100000 in
set_option maxHeartbeats 4000000 in
theorem c_d_state (l : Launch) (D : va_G) (cI cJ cZ cM : ClassId) (h_d : Nat) (a_d : Nat → Nat)  (d_p : Int32) (d_r : Int32) (d_t : Int32) (d_slack : Int32) (d_m : Int32) (d_folds : Int32) (d_kinds : Nat → Int32) (d_declared : Nat → Int32) (d_states : Nat → Int64) (d_lastRow : Nat → Int32) (d_lastValue : Nat → Int32) (d_hasValue : Nat → Int32) (d_touched : Nat → Int32) (d_parts : Nat → Int32) (d_rows : Int32) (d_inRound : Int32) (d_rounds : Int32) (d_flips : Int32) (d_passed : Int32) (d_matches : Int32) (d_moved : Int32) (d_time : Int32) (d_out : Int64) (d_loads : Nat → Int32) (d_counterKey : Nat → Int32) (d_counterCount : Nat → Int32) (d_counterError : Nat → Int32) (d_smalls : Int32) (d_smallKey : Nat → Int32) (d_smallWeight : Nat → Int32) (d_timers : Int32) (d_timerKey : Nat → Int32) (d_timerTime : Nat → Int32) (d_logged : Int32) (d_logKey : Nat → Int32) (d_logTime : Nat → Int32) (d_logState : Nat → Int64) (d_marks : Int32) (d_markState : Nat → Int64) (d_markValue : Nat → Int32) (d_markHas : Nat → Int32) (d_markSmalls : Nat → Int32) (d_markSmallKey : Nat → Int32) (d_markSmallWeight : Nat → Int32) (d_markTimers : Nat → Int32) (d_markTimerKey : Nat → Int32) (d_markTimerTime : Nat → Int32) (d_markTime : Nat → Int32) (d_markRows : Nat → Int32) (d_markMatches : Nat → Int32) (d_markOut : Nat → Int64) (d_comes : Nat → Int64) (p1 : Int32) (p2 : Int32) (post : Int64 → Prop) (h : wp_d_state p1 p2 d_folds d_kinds d_states d_lastRow d_parts post) : Met l yX8_state (hk_ws yX8_state cX8_state 3 (some .long)) (hk_rm 2 52) (va_Pc [.ref h_d, .int p1, .int p2] (hk_PR D (hk_ty cI cJ cZ cM) (wv_d cI cJ cZ cM h_d a_d d_p d_r d_t d_slack d_m d_folds d_kinds d_declared d_states d_lastRow d_lastValue d_hasValue d_touched d_parts d_rows d_inRound d_rounds d_flips d_passed d_matches d_moved d_time d_out d_loads d_counterKey d_counterCount d_counterError d_smalls d_smallKey d_smallWeight d_timers d_timerKey d_timerTime d_logged d_logKey d_logTime d_logState d_marks d_markState d_markValue d_markHas d_markSmalls d_markSmallKey d_markSmallWeight d_markTimers d_markTimerKey d_markTimerTime d_markTime d_markRows d_markMatches d_markOut d_comes))) (vp_Sl post) 0 0 (fun _ => False) := by
  refine Met.ofW (cc := cX8_state) (maxL := 3) (ret := (some .long)) (by decide) rfl ?_
  intro p e s m args below meth c s₁ B hml hv
  obtain ⟨rfl, hP, hK, hN⟩ := hv
  have hx := B.exec
  have hb := B.bytes
  have hr := B.returns
  have hts := atoms_spec (ws := hk_ws yX8_state cX8_state 3 (some .long)) B.pre
  have hta : ∀ w ∈ hk_all, w.before ([.ref h_d, .int p1, .int p2] : List Value).toArray s = true := fun w hw => hts w (List.mem_cons_of_mem _ hw)
  have hown : s.vm.findClass RX8 = some m.cls := findClass_of_methodNamed B.named
  have hlocks := B.notSynchronized
  have S0 : CallFix p m c cX8_state 3 s ([.ref h_d, .int p1, .int p2] : List Value).toArray hk_all RX8 := ⟨hx, hb, hml, hown, hta⟩
  have hl := lv_entry ([.ref h_d, .int p1, .int p2]) (n := 3) (Nat.le_of_ble_eq_true rfl)
  rw [lg_entry_eq]
  generalize (lg_sl ([.ref h_d, .int p1, .int p2]) ++ List.replicate (3 - (lg_sl ([.ref h_d, .int p1, .int p2])).length) Slot.unset).toArray = ls at hl ⊢
  have hl : lv_has ls 3 [(0, .ref h_d), (1, .int p1), (2, .int p2)] := hl
  unfold wp_d_state at h
  refine lv_iload_n hx hb dX8_state_0 rfl (lv_at hl 1 rfl) ?_
  refine lv_i2l (v := p1.toInt64) hx hb dX8_state_1 rfl ?_
  refine lv_lconst (v := 0) hx hb dX8_state_2 (by decide) ?_
  refine lv_aload_n hx hb dX8_state_3 rfl (lv_at hl 0 rfl) ?_
  refine va_get (D := D) (ci := 8) (v := .int d_folds) (C := RX8) (T := TX8) (N := 52) hx hb hta ih_X8 hown hK hP 0 rfl rfl 5 (by decide) (hta _ hw_751) (fun _ h9 => h9) rfl dX8_state_4 ?_
  refine lv_iconst (v := 1) hx hb dX8_state_7 (by decide) ?_
  refine lv_isub hx hb dX8_state_8 ?_
  refine lv_i2l (v := (d_folds - 1).toInt64) hx hb dX8_state_9 rfl ?_
  refine vp_callSi (hk_runS (As := [.long p1.toInt64, .long 0, .long ((d_folds - 1).toInt64)]) (rest := []) S0 mm_d_in (c_d_in l D cI cJ cZ cM p1.toInt64 0 ((d_folds - 1).toInt64) _ h) hw_909 hk_blR (hk_atR (hP.sub (ws' := ([] : va_W)) [] rfl) hK hN) ⟨rfl, rfl, Nat.le_of_ble_eq_true rfl, Nat.le_of_ble_eq_true rfl⟩ rfl hl.1 rfl (Nat.le_of_ble_eq_true rfl) dX8_state_10 ⟨Nat.le_of_ble_eq_true rfl, Nat.le_of_ble_eq_true rfl⟩).run (fun r1 h => ?_)
  refine lv_if_eq (tgt := 24) hx hb dX8_state_13 (by decide) (fun c2 => ?_) (fun c2 => ?_)
  · have h := h.1 c2
    refine lv_ldc2 (v := (-4000000000000)) hx hb hown (hta _ hw_737) dX8_state_24 ?_
    refine lv_goto (tgt := 36) hx hb dX8_state_27 (by decide) ?_
    exact W.lret (v := (-4000000000000)) hx hb hr (fun t ht hW => ⟨_, rfl, h, ht⟩) (fun _ hq => by cases hq) dX8_state_36
  · have h := h.2 c2
    refine lv_aload_n hx hb dX8_state_16 rfl (lv_at hl 0 rfl) ?_
    refine lv_iload_n hx hb dX8_state_17 rfl (lv_at hl 2 rfl) ?_
    refine vp_callSi (hk_runV (As := [.int p2]) (rest := []) S0 mm_d_noKey (c_d_noKey l D cI cJ cZ cM h_d a_d d_p d_r d_t d_slack d_m d_folds d_kinds d_declared d_states d_lastRow d_lastValue d_hasValue d_touched d_parts d_rows d_inRound d_rounds d_flips d_passed d_matches d_moved d_time d_out d_loads d_counterKey d_counterCount d_counterError d_smalls d_smallKey d_smallWeight d_timers d_timerKey d_timerTime d_logged d_logKey d_logTime d_logState d_marks d_markState d_markValue d_markHas d_markSmalls d_markSmallKey d_markSmallWeight d_markTimers d_markTimerKey d_markTimerTime d_markTime d_markRows d_markMatches d_markOut d_comes p2 _ h) hw_926 hk_blR (hk_atR hP hK hN) (va_recv hK hP (ci := 8) (q0 := 0) rfl rfl) ⟨rfl, rfl, Nat.le_of_ble_eq_true rfl, Nat.le_of_ble_eq_true rfl⟩ rfl hl.1 rfl (Nat.le_of_ble_eq_true rfl) dX8_state_18 ⟨Nat.le_of_ble_eq_true rfl, Nat.le_of_ble_eq_true rfl⟩).run (fun r3 h => ?_)
    refine lv_if_eq (tgt := 30) hx hb dX8_state_21 (by decide) (fun c4 => ?_) (fun c4 => ?_)
    · have h := h.1 c4
      refine lv_aload_n hx hb dX8_state_30 rfl (lv_at hl 0 rfl) ?_
      refine lv_iload_n hx hb dX8_state_31 rfl (lv_at hl 1 rfl) ?_
      refine lv_iload_n hx hb dX8_state_32 rfl (lv_at hl 2 rfl) ?_
      refine vp_callSl (hk_runV (As := [.int p1, .int p2]) (rest := []) S0 mm_d_come (c_d_come l D cI cJ cZ cM h_d a_d d_p d_r d_t d_slack d_m d_folds d_kinds d_declared d_states d_lastRow d_lastValue d_hasValue d_touched d_parts d_rows d_inRound d_rounds d_flips d_passed d_matches d_moved d_time d_out d_loads d_counterKey d_counterCount d_counterError d_smalls d_smallKey d_smallWeight d_timers d_timerKey d_timerTime d_logged d_logKey d_logTime d_logState d_marks d_markState d_markValue d_markHas d_markSmalls d_markSmallKey d_markSmallWeight d_markTimers d_markTimerKey d_markTimerTime d_markTime d_markRows d_markMatches d_markOut d_comes p1 p2 _ h) hw_982 hk_blR (hk_atR hP hK hN) (va_recv hK hP (ci := 8) (q0 := 0) rfl rfl) ⟨rfl, rfl, Nat.le_of_ble_eq_true rfl, Nat.le_of_ble_eq_true rfl⟩ rfl hl.1 rfl (Nat.le_of_ble_eq_true rfl) dX8_state_33 ⟨Nat.le_of_ble_eq_true rfl, Nat.le_of_ble_eq_true rfl⟩).run (fun r5 h => ?_)
      exact W.lret (v := r5) hx hb hr (fun t ht hW => ⟨_, rfl, h, ht⟩) (fun _ hq => by cases hq) dX8_state_36
    · have h := h.2 c4
      refine lv_ldc2 (v := (-4000000000000)) hx hb hown (hta _ hw_737) dX8_state_24 ?_
      refine lv_goto (tgt := 36) hx hb dX8_state_27 (by decide) ?_
      exact W.lret (v := (-4000000000000)) hx hb hr (fun t ht hW => ⟨_, rfl, h, ht⟩) (fun _ hq => by cases hq) dX8_state_36
def wj_d_part_59 (d_states : Nat → Int64) (p1 : Int32) (p2 : Int32) (p3 : Int32) (post : Int64 → Prop) (v3 : Int32) : Prop := (v3 = 0 → post (-4000000000000)) ∧ (¬ v3 = 0 → wp_d_slot p3 p2 (fun (r5 : Int32) => vp_in ((6 * r5) + p1) 4800 ∧ (post (d_states ((6 * r5) + p1).toNatClampNeg))))
def wj_d_part_44 (d_states : Nat → Int64) (d_parts : Nat → Int32) (p1 : Int32) (p2 : Int32) (p3 : Int32) (post : Int64 → Prop) (v10 : Int32) : Prop := vp_in v10 100 ∧ (wp_d_in p3.toInt64 0 (((d_parts v10.toNatClampNeg) - 1).toInt64) (fun (r11 : Int32) => (r11 = 0 → wj_d_part_59 d_states p1 p2 p3 post 0) ∧ (¬ r11 = 0 → wj_d_part_59 d_states p1 p2 p3 post 1)))
def wp_d_part (p1 : Int32) (p2 : Int32) (p3 : Int32) (d_folds : Int32) (d_states : Nat → Int64) (d_parts : Nat → Int32) (post : Int64 → Prop) : Prop := wp_d_in p1.toInt64 0 ((d_folds - 1).toInt64) (fun (r1 : Int32) => (r1 = 0 → wj_d_part_59 d_states p1 p2 p3 post 0) ∧ (¬ r1 = 0 → wp_d_noKey p2 (fun (r6 : Int32) => (¬ r6 = 0 → wj_d_part_59 d_states p1 p2 p3 post 0) ∧ (r6 = 0 → wp_d_noKey p2 (fun (r8 : Int32) => (r8 = 0 → wj_d_part_44 d_states d_parts p1 p2 p3 post p2) ∧ (¬ r8 = 0 → wj_d_part_44 d_states d_parts p1 p2 p3 post 0))))))
theorem mm_d_part : hk_MV yX8_part cX8_part 5 (some .long) 3 := ⟨hw_996, hw_994, hw_995, hw_87, by decide +kernel⟩
set_option maxRecDepth 100000 in
set_option maxHeartbeats 4000000 in
theorem c_d_part (l : Launch) (D : va_G) (cI cJ cZ cM : ClassId) (h_d : Nat) (a_d : Nat → Nat)  (d_p : Int32) (d_r : Int32) (d_t : Int32) (d_slack : Int32) (d_m : Int32) (d_folds : Int32) (d_kinds : Nat → Int32) (d_declared : Nat → Int32) (d_states : Nat → Int64) (d_lastRow : Nat → Int32) (d_lastValue : Nat → Int32) (d_hasValue : Nat → Int32) (d_touched : Nat → Int32) (d_parts : Nat → Int32) (d_rows : Int32) (d_inRound : Int32) (d_rounds : Int32) (d_flips : Int32) (d_passed : Int32) (d_matches : Int32) (d_moved : Int32) (d_time : Int32) (d_out : Int64) (d_loads : Nat → Int32) (d_counterKey : Nat → Int32) (d_counterCount : Nat → Int32) (d_counterError : Nat → Int32) (d_smalls : Int32) (d_smallKey : Nat → Int32) (d_smallWeight : Nat → Int32) (d_timers : Int32) (d_timerKey : Nat → Int32) (d_timerTime : Nat → Int32) (d_logged : Int32) (d_logKey : Nat → Int32) (d_logTime : Nat → Int32) (d_logState : Nat → Int64) (d_marks : Int32) (d_markState : Nat → Int64) (d_markValue : Nat → Int32) (d_markHas : Nat → Int32) (d_markSmalls : Nat → Int32) (d_markSmallKey : Nat → Int32) (d_markSmallWeight : Nat → Int32) (d_markTimers : Nat → Int32) (d_markTimerKey : Nat → Int32) (d_markTimerTime : Nat → Int32) (d_markTime : Nat → Int32) (d_markRows : Nat → Int32) (d_markMatches : Nat → Int32) (d_markOut : Nat → Int64) (d_comes : Nat → Int64) (p1 : Int32) (p2 : Int32) (p3 : Int32) (post : Int64 → Prop) (h : wp_d_part p1 p2 p3 d_folds d_states d_parts post) : Met l yX8_part (hk_ws yX8_part cX8_part 5 (some .long)) (hk_rm 2 46) (va_Pc [.ref h_d, .int p1, .int p2, .int p3] (hk_PR D (hk_ty cI cJ cZ cM) (wv_d cI cJ cZ cM h_d a_d d_p d_r d_t d_slack d_m d_folds d_kinds d_declared d_states d_lastRow d_lastValue d_hasValue d_touched d_parts d_rows d_inRound d_rounds d_flips d_passed d_matches d_moved d_time d_out d_loads d_counterKey d_counterCount d_counterError d_smalls d_smallKey d_smallWeight d_timers d_timerKey d_timerTime d_logged d_logKey d_logTime d_logState d_marks d_markState d_markValue d_markHas d_markSmalls d_markSmallKey d_markSmallWeight d_markTimers d_markTimerKey d_markTimerTime d_markTime d_markRows d_markMatches d_markOut d_comes))) (vp_Sl post) 0 0 (fun _ => False) := by
  refine Met.ofW (cc := cX8_part) (maxL := 5) (ret := (some .long)) (by decide) rfl ?_
  intro p e s m args below meth c s₁ B hml hv
  obtain ⟨rfl, hP, hK, hN⟩ := hv
  have hx := B.exec
  have hb := B.bytes
  have hr := B.returns
  have hts := atoms_spec (ws := hk_ws yX8_part cX8_part 5 (some .long)) B.pre
  have hta : ∀ w ∈ hk_all, w.before ([.ref h_d, .int p1, .int p2, .int p3] : List Value).toArray s = true := fun w hw => hts w (List.mem_cons_of_mem _ hw)
  have hown : s.vm.findClass RX8 = some m.cls := findClass_of_methodNamed B.named
  have hlocks := B.notSynchronized
  have S0 : CallFix p m c cX8_part 5 s ([.ref h_d, .int p1, .int p2, .int p3] : List Value).toArray hk_all RX8 := ⟨hx, hb, hml, hown, hta⟩
  have hl := lv_entry ([.ref h_d, .int p1, .int p2, .int p3]) (n := 5) (Nat.le_of_ble_eq_true rfl)
  rw [lg_entry_eq]
  generalize (lg_sl ([.ref h_d, .int p1, .int p2, .int p3]) ++ List.replicate (5 - (lg_sl ([.ref h_d, .int p1, .int p2, .int p3])).length) Slot.unset).toArray = ls at hl ⊢
  have hl : lv_has ls 5 [(0, .ref h_d), (1, .int p1), (2, .int p2), (3, .int p3)] := hl
  unfold wp_d_part at h
  refine lv_iload_n hx hb dX8_part_0 rfl (lv_at hl 1 rfl) ?_
  refine lv_i2l (v := p1.toInt64) hx hb dX8_part_1 rfl ?_
  refine lv_lconst (v := 0) hx hb dX8_part_2 (by decide) ?_
  refine lv_aload_n hx hb dX8_part_3 rfl (lv_at hl 0 rfl) ?_
  refine va_get (D := D) (ci := 8) (v := .int d_folds) (C := RX8) (T := TX8) (N := 52) hx hb hta ih_X8 hown hK hP 0 rfl rfl 5 (by decide) (hta _ hw_751) (fun _ h9 => h9) rfl dX8_part_4 ?_
  refine lv_iconst (v := 1) hx hb dX8_part_7 (by decide) ?_
  refine lv_isub hx hb dX8_part_8 ?_
  refine lv_i2l (v := (d_folds - 1).toInt64) hx hb dX8_part_9 rfl ?_
  refine vp_callSi (hk_runS (As := [.long p1.toInt64, .long 0, .long ((d_folds - 1).toInt64)]) (rest := []) S0 mm_d_in (c_d_in l D cI cJ cZ cM p1.toInt64 0 ((d_folds - 1).toInt64) _ h) hw_909 hk_blR (hk_atR (hP.sub (ws' := ([] : va_W)) [] rfl) hK hN) ⟨rfl, rfl, Nat.le_of_ble_eq_true rfl, Nat.le_of_ble_eq_true rfl⟩ rfl hl.1 rfl (Nat.le_of_ble_eq_true rfl) dX8_part_10 ⟨Nat.le_of_ble_eq_true rfl, Nat.le_of_ble_eq_true rfl⟩).run (fun r1 h => ?_)
  have J59 : ∀ (v3 : Int32) (ls : Array Slot), lv_has ls 5 [(0, .ref h_d), (1, .int p1), (2, .int p2), (3, .int p3)] → wj_d_part_59 d_states p1 p2 p3 post v3 → W p l e (headSpec (hk_ws yX8_part cX8_part 5 (some .long)) (hk_rm 2 46)).room s m ([.ref h_d, .int p1, .int p2, .int p3] : List Value).toArray below meth c s.heap [] 0 0 (MQ below (vp_Sl post) ([.ref h_d, .int p1, .int p2, .int p3] : List Value).toArray s 0 0 (fun _ => False)) (F0 m 59 ls [.int v3]) := by
    intro v3 ls hl h
    unfold wj_d_part_59 at h
    refine lv_istore (lv' := [(4, .int v3), (0, .ref h_d), (1, .int p1), (2, .int p2), (3, .int p3)]) hx hb dX8_part_59 hl (by decide) rfl (fun ls hl => ?_)
    refine lv_iload hx hb dX8_part_61 (lv_at hl 0 rfl) ?_
    refine lv_if_eq (tgt := 85) hx hb dX8_part_63 (by decide) (fun c4 => ?_) (fun c4 => ?_)
    · have h := h.1 c4
      refine lv_ldc2 (v := (-4000000000000)) hx hb hown (hta _ hw_737) dX8_part_85 ?_
      exact W.lret (v := (-4000000000000)) hx hb hr (fun t ht hW => ⟨_, rfl, h, ht⟩) (fun _ hq => by cases hq) dX8_part_88
    · have h := h.2 c4
      refine lv_aload_n hx hb dX8_part_66 rfl (lv_at hl 1 rfl) ?_
      refine va_get (D := D) (ci := 8) (v := .ref (a_d 8)) (C := RX8) (T := TX8) (N := 52) hx hb hta ih_X8 hown hK hP 0 rfl rfl 8 (by decide) (hta _ hw_754) (fun _ h9 => h9) rfl dX8_part_67 ?_
      refine lv_bipush (v := 6) hx hb dX8_part_70 (by decide) ?_
      refine lv_aload_n hx hb dX8_part_72 rfl (lv_at hl 1 rfl) ?_
      refine lv_iload_n hx hb dX8_part_73 rfl (lv_at hl 4 rfl) ?_
      refine lv_iload_n hx hb dX8_part_74 rfl (lv_at hl 3 rfl) ?_
      refine vp_callSi (hk_runV (As := [.int p3, .int p2]) (rest := [.int 6, .ref (a_d 8)]) S0 mm_d_slot (c_d_slot l D cI cJ cZ cM h_d a_d d_p d_r d_t d_slack d_m d_folds d_kinds d_declared d_states d_lastRow d_lastValue d_hasValue d_touched d_parts d_rows d_inRound d_rounds d_flips d_passed d_matches d_moved d_time d_out d_loads d_counterKey d_counterCount d_counterError d_smalls d_smallKey d_smallWeight d_timers d_timerKey d_timerTime d_logged d_logKey d_logTime d_logState d_marks d_markState d_markValue d_markHas d_markSmalls d_markSmallKey d_markSmallWeight d_markTimers d_markTimerKey d_markTimerTime d_markTime d_markRows d_markMatches d_markOut d_comes p3 p2 _ h) hw_728 hk_blR (hk_atR hP hK hN) (va_recv hK hP (ci := 8) (q0 := 0) rfl rfl) ⟨rfl, rfl, Nat.le_of_ble_eq_true rfl, Nat.le_of_ble_eq_true rfl⟩ rfl hl.1 rfl (Nat.le_of_ble_eq_true rfl) dX8_part_75 ⟨Nat.le_of_ble_eq_true rfl, Nat.le_of_ble_eq_true rfl⟩).run (fun r5 h => ?_)
      refine lv_imul hx hb dX8_part_78 ?_
      refine lv_iload_n hx hb dX8_part_79 rfl (lv_at hl 2 rfl) ?_
      refine lv_iadd hx hb dX8_part_80 ?_
      refine va_lald hx hb hK hP 3 1 rfl rfl h.1 dX8_part_81 ?_
      have h := h.2
      refine lv_goto (tgt := 88) hx hb dX8_part_82 (by decide) ?_
      exact W.lret (v := d_states ((6 * r5) + p1).toNatClampNeg) hx hb hr (fun t ht hW => ⟨_, rfl, h, ht⟩) (fun _ hq => by cases hq) dX8_part_88
  refine lv_if_eq (tgt := 58) hx hb dX8_part_13 (by decide) (fun c2 => ?_) (fun c2 => ?_)
  · have h := h.1 c2
    refine lv_iconst (v := 0) hx hb dX8_part_58 (by decide) ?_
    exact J59 0 ls (lv_sub hl [0, 1, 2, 3] rfl) h
  · have h := h.2 c2
    refine lv_aload_n hx hb dX8_part_16 rfl (lv_at hl 0 rfl) ?_
    refine lv_iload_n hx hb dX8_part_17 rfl (lv_at hl 2 rfl) ?_
    refine vp_callSi (hk_runV (As := [.int p2]) (rest := []) S0 mm_d_noKey (c_d_noKey l D cI cJ cZ cM h_d a_d d_p d_r d_t d_slack d_m d_folds d_kinds d_declared d_states d_lastRow d_lastValue d_hasValue d_touched d_parts d_rows d_inRound d_rounds d_flips d_passed d_matches d_moved d_time d_out d_loads d_counterKey d_counterCount d_counterError d_smalls d_smallKey d_smallWeight d_timers d_timerKey d_timerTime d_logged d_logKey d_logTime d_logState d_marks d_markState d_markValue d_markHas d_markSmalls d_markSmallKey d_markSmallWeight d_markTimers d_markTimerKey d_markTimerTime d_markTime d_markRows d_markMatches d_markOut d_comes p2 _ h) hw_926 hk_blR (hk_atR hP hK hN) (va_recv hK hP (ci := 8) (q0 := 0) rfl rfl) ⟨rfl, rfl, Nat.le_of_ble_eq_true rfl, Nat.le_of_ble_eq_true rfl⟩ rfl hl.1 rfl (Nat.le_of_ble_eq_true rfl) dX8_part_18 ⟨Nat.le_of_ble_eq_true rfl, Nat.le_of_ble_eq_true rfl⟩).run (fun r6 h => ?_)
    refine lv_if_ne (tgt := 58) hx hb dX8_part_21 (by decide) (fun c7 => ?_) (fun c7 => ?_)
    · have h := h.1 c7
      refine lv_iconst (v := 0) hx hb dX8_part_58 (by decide) ?_
      exact J59 0 ls (lv_sub hl [0, 1, 2, 3] rfl) h
    · have h := h.2 c7
      refine lv_iload_n hx hb dX8_part_24 rfl (lv_at hl 3 rfl) ?_
      refine lv_i2l (v := p3.toInt64) hx hb dX8_part_25 rfl ?_
      refine lv_lconst (v := 0) hx hb dX8_part_26 (by decide) ?_
      refine lv_aload_n hx hb dX8_part_27 rfl (lv_at hl 0 rfl) ?_
      refine va_get (D := D) (ci := 8) (v := .ref (a_d 13)) (C := RX8) (T := TX8) (N := 52) hx hb hta ih_X8 hown hK hP 0 rfl rfl 13 (by decide) (hta _ hw_759) (fun _ h9 => h9) rfl dX8_part_28 ?_
      refine lv_aload_n hx hb dX8_part_31 rfl (lv_at hl 0 rfl) ?_
      refine lv_iload_n hx hb dX8_part_32 rfl (lv_at hl 2 rfl) ?_
      refine vp_callSi (hk_runV (As := [.int p2]) (rest := [.ref (a_d 13), .long 0, .long p3.toInt64]) S0 mm_d_noKey (c_d_noKey l D cI cJ cZ cM h_d a_d d_p d_r d_t d_slack d_m d_folds d_kinds d_declared d_states d_lastRow d_lastValue d_hasValue d_touched d_parts d_rows d_inRound d_rounds d_flips d_passed d_matches d_moved d_time d_out d_loads d_counterKey d_counterCount d_counterError d_smalls d_smallKey d_smallWeight d_timers d_timerKey d_timerTime d_logged d_logKey d_logTime d_logState d_marks d_markState d_markValue d_markHas d_markSmalls d_markSmallKey d_markSmallWeight d_markTimers d_markTimerKey d_markTimerTime d_markTime d_markRows d_markMatches d_markOut d_comes p2 _ h) hw_926 hk_blR (hk_atR hP hK hN) (va_recv hK hP (ci := 8) (q0 := 0) rfl rfl) ⟨rfl, rfl, Nat.le_of_ble_eq_true rfl, Nat.le_of_ble_eq_true rfl⟩ rfl hl.1 rfl (Nat.le_of_ble_eq_true rfl) dX8_part_33 ⟨Nat.le_of_ble_eq_true rfl, Nat.le_of_ble_eq_true rfl⟩).run (fun r8 h => ?_)
      have J44 : ∀ (v10 : Int32) (ls : Array Slot), lv_has ls 5 [(0, .ref h_d), (1, .int p1), (2, .int p2), (3, .int p3)] → wj_d_part_44 d_states d_parts p1 p2 p3 post v10 → W p l e (headSpec (hk_ws yX8_part cX8_part 5 (some .long)) (hk_rm 2 46)).room s m ([.ref h_d, .int p1, .int p2, .int p3] : List Value).toArray below meth c s.heap [] 0 0 (MQ below (vp_Sl post) ([.ref h_d, .int p1, .int p2, .int p3] : List Value).toArray s 0 0 (fun _ => False)) (F0 m 44 ls [.int v10, .ref (a_d 13), .long 0, .long p3.toInt64]) := by
        intro v10 ls hl h
        unfold wj_d_part_44 at h
        refine va_iald hx hb hK hP 8 0 rfl rfl h.1 dX8_part_44 ?_
        have h := h.2
        refine lv_iconst (v := 1) hx hb dX8_part_45 (by decide) ?_
        refine lv_isub hx hb dX8_part_46 ?_
        refine lv_i2l (v := ((d_parts v10.toNatClampNeg) - 1).toInt64) hx hb dX8_part_47 rfl ?_
        refine vp_callSi (hk_runS (As := [.long p3.toInt64, .long 0, .long (((d_parts v10.toNatClampNeg) - 1).toInt64)]) (rest := []) S0 mm_d_in (c_d_in l D cI cJ cZ cM p3.toInt64 0 (((d_parts v10.toNatClampNeg) - 1).toInt64) _ h) hw_909 hk_blR (hk_atR (hP.sub (ws' := ([] : va_W)) [] rfl) hK hN) ⟨rfl, rfl, Nat.le_of_ble_eq_true rfl, Nat.le_of_ble_eq_true rfl⟩ rfl hl.1 rfl (Nat.le_of_ble_eq_true rfl) dX8_part_48 ⟨Nat.le_of_ble_eq_true rfl, Nat.le_of_ble_eq_true rfl⟩).run (fun r11 h => ?_)
        refine lv_if_eq (tgt := 58) hx hb dX8_part_51 (by decide) (fun c12 => ?_) (fun c12 => ?_)
        · have h := h.1 c12
          refine lv_iconst (v := 0) hx hb dX8_part_58 (by decide) ?_
          exact J59 0 ls (lv_sub hl [0, 1, 2, 3] rfl) h
        · have h := h.2 c12
          refine lv_iconst (v := 1) hx hb dX8_part_54 (by decide) ?_
          refine lv_goto (tgt := 59) hx hb dX8_part_55 (by decide) ?_
          exact J59 1 ls (lv_sub hl [0, 1, 2, 3] rfl) h
      refine lv_if_eq (tgt := 43) hx hb dX8_part_36 (by decide) (fun c9 => ?_) (fun c9 => ?_)
      · have h := h.1 c9
        refine lv_iload_n hx hb dX8_part_43 rfl (lv_at hl 2 rfl) ?_
        exact J44 p2 ls (lv_sub hl [0, 1, 2, 3] rfl) h
      · have h := h.2 c9
        refine lv_iconst (v := 0) hx hb dX8_part_39 (by decide) ?_
        refine lv_goto (tgt := 44) hx hb dX8_part_40 (by decide) ?_
        exact J44 0 ls (lv_sub hl [0, 1, 2, 3] rfl) h
def wp_d_parts (p1 : Int32) (d_parts : Nat → Int32) (post : Int32 → Prop) : Prop := wp_d_noKey p1 (fun (r1 : Int32) => (r1 = 0 → vp_in p1 100 ∧ (post (d_parts p1.toNatClampNeg))) ∧ (¬ r1 = 0 → post (-101)))
theorem mm_d_parts : hk_MV yX8_parts cX8_parts 2 (some .int) 1 := ⟨hw_1000, hw_998, hw_999, hw_87, by decide +kernel⟩
set_option maxRecDepth 100000 in
set_option maxHeartbeats 4000000 in
theorem c_d_parts (l : Launch) (D : va_G) (cI cJ cZ cM : ClassId) (h_d : Nat) (a_d : Nat → Nat)  (d_p : Int32) (d_r : Int32) (d_t : Int32) (d_slack : Int32) (d_m : Int32) (d_folds : Int32) (d_kinds : Nat → Int32) (d_declared : Nat → Int32) (d_states : Nat → Int64) (d_lastRow : Nat → Int32) (d_lastValue : Nat → Int32) (d_hasValue : Nat → Int32) (d_touched : Nat → Int32) (d_parts : Nat → Int32) (d_rows : Int32) (d_inRound : Int32) (d_rounds : Int32) (d_flips : Int32) (d_passed : Int32) (d_matches : Int32) (d_moved : Int32) (d_time : Int32) (d_out : Int64) (d_loads : Nat → Int32) (d_counterKey : Nat → Int32) (d_counterCount : Nat → Int32) (d_counterError : Nat → Int32) (d_smalls : Int32) (d_smallKey : Nat → Int32) (d_smallWeight : Nat → Int32) (d_timers : Int32) (d_timerKey : Nat → Int32) (d_timerTime : Nat → Int32) (d_logged : Int32) (d_logKey : Nat → Int32) (d_logTime : Nat → Int32) (d_logState : Nat → Int64) (d_marks : Int32) (d_markState : Nat → Int64) (d_markValue : Nat → Int32) (d_markHas : Nat → Int32) (d_markSmalls : Nat → Int32) (d_markSmallKey : Nat → Int32) (d_markSmallWeight : Nat → Int32) (d_markTimers : Nat → Int32) (d_markTimerKey : Nat → Int32) (d_markTimerTime : Nat → Int32) (d_markTime : Nat → Int32) (d_markRows : Nat → Int32) (d_markMatches : Nat → Int32) (d_markOut : Nat → Int64) (d_comes : Nat → Int64) (p1 : Int32) (post : Int32 → Prop) (h : wp_d_parts p1 d_parts post) : Met l yX8_parts (hk_ws yX8_parts cX8_parts 2 (some .int)) (hk_rm 2 46) (va_Pc [.ref h_d, .int p1] (hk_PR D (hk_ty cI cJ cZ cM) (wv_d cI cJ cZ cM h_d a_d d_p d_r d_t d_slack d_m d_folds d_kinds d_declared d_states d_lastRow d_lastValue d_hasValue d_touched d_parts d_rows d_inRound d_rounds d_flips d_passed d_matches d_moved d_time d_out d_loads d_counterKey d_counterCount d_counterError d_smalls d_smallKey d_smallWeight d_timers d_timerKey d_timerTime d_logged d_logKey d_logTime d_logState d_marks d_markState d_markValue d_markHas d_markSmalls d_markSmallKey d_markSmallWeight d_markTimers d_markTimerKey d_markTimerTime d_markTime d_markRows d_markMatches d_markOut d_comes))) (vp_Si post) 0 0 (fun _ => False) := by
  refine Met.ofW (cc := cX8_parts) (maxL := 2) (ret := (some .int)) (by decide) rfl ?_
  intro p e s m args below meth c s₁ B hml hv
  obtain ⟨rfl, hP, hK, hN⟩ := hv
  have hx := B.exec
  have hb := B.bytes
  have hr := B.returns
  have hts := atoms_spec (ws := hk_ws yX8_parts cX8_parts 2 (some .int)) B.pre
  have hta : ∀ w ∈ hk_all, w.before ([.ref h_d, .int p1] : List Value).toArray s = true := fun w hw => hts w (List.mem_cons_of_mem _ hw)
  have hown : s.vm.findClass RX8 = some m.cls := findClass_of_methodNamed B.named
  have hlocks := B.notSynchronized
  have S0 : CallFix p m c cX8_parts 2 s ([.ref h_d, .int p1] : List Value).toArray hk_all RX8 := ⟨hx, hb, hml, hown, hta⟩
  have hl := lv_entry ([.ref h_d, .int p1]) (n := 2) (Nat.le_of_ble_eq_true rfl)
  rw [lg_entry_eq]
  generalize (lg_sl ([.ref h_d, .int p1]) ++ List.replicate (2 - (lg_sl ([.ref h_d, .int p1])).length) Slot.unset).toArray = ls at hl ⊢
  have hl : lv_has ls 2 [(0, .ref h_d), (1, .int p1)] := hl
  unfold wp_d_parts at h
  refine lv_aload_n hx hb dX8_parts_0 rfl (lv_at hl 0 rfl) ?_
  refine lv_iload_n hx hb dX8_parts_1 rfl (lv_at hl 1 rfl) ?_
  refine vp_callSi (hk_runV (As := [.int p1]) (rest := []) S0 mm_d_noKey (c_d_noKey l D cI cJ cZ cM h_d a_d d_p d_r d_t d_slack d_m d_folds d_kinds d_declared d_states d_lastRow d_lastValue d_hasValue d_touched d_parts d_rows d_inRound d_rounds d_flips d_passed d_matches d_moved d_time d_out d_loads d_counterKey d_counterCount d_counterError d_smalls d_smallKey d_smallWeight d_timers d_timerKey d_timerTime d_logged d_logKey d_logTime d_logState d_marks d_markState d_markValue d_markHas d_markSmalls d_markSmallKey d_markSmallWeight d_markTimers d_markTimerKey d_markTimerTime d_markTime d_markRows d_markMatches d_markOut d_comes p1 _ h) hw_926 hk_blR (hk_atR hP hK hN) (va_recv hK hP (ci := 8) (q0 := 0) rfl rfl) ⟨rfl, rfl, Nat.le_of_ble_eq_true rfl, Nat.le_of_ble_eq_true rfl⟩ rfl hl.1 rfl (Nat.le_of_ble_eq_true rfl) dX8_parts_2 ⟨Nat.le_of_ble_eq_true rfl, Nat.le_of_ble_eq_true rfl⟩).run (fun r1 h => ?_)
  refine lv_if_eq (tgt := 13) hx hb dX8_parts_5 (by decide) (fun c2 => ?_) (fun c2 => ?_)
  · have h := h.1 c2
    refine lv_aload_n hx hb dX8_parts_13 rfl (lv_at hl 0 rfl) ?_
    refine va_get (D := D) (ci := 8) (v := .ref (a_d 13)) (C := RX8) (T := TX8) (N := 52) hx hb hta ih_X8 hown hK hP 0 rfl rfl 13 (by decide) (hta _ hw_759) (fun _ h9 => h9) rfl dX8_parts_14 ?_
    refine lv_iload_n hx hb dX8_parts_17 rfl (lv_at hl 1 rfl) ?_
    refine va_iald hx hb hK hP 8 0 rfl rfl h.1 dX8_parts_18 ?_
    have h := h.2
    exact W.iret (v := d_parts p1.toNatClampNeg) hx hb hr (fun t ht hW => ⟨_, rfl, h, ht⟩) (fun _ hq => by cases hq) dX8_parts_19
  · have h := h.2 c2
    refine lv_bipush (v := (-101)) hx hb dX8_parts_8 (by decide) ?_
    refine lv_goto (tgt := 19) hx hb dX8_parts_10 (by decide) ?_
    exact W.iret (v := (-101)) hx hb hr (fun t ht hW => ⟨_, rfl, h, ht⟩) (fun _ hq => by cases hq) dX8_parts_19
def wp_d_place (p1 : Int32) (p2 : Int32) (d_p : Int32) (d_parts : Nat → Int32) (post : Int32 → Prop) : Prop := wp_d_noKey p1 (fun (r1 : Int32) => (r1 = 0 → vp_in p1 100 ∧ (wp_d_in p2.toInt64 0 (((d_parts p1.toNatClampNeg) - 1).toInt64) (fun (r3 : Int32) => (r3 = 0 → post (-1)) ∧ (¬ r3 = 0 → wp_d_placeOf p1 p2 d_p (fun (r5 : Int32) => post r5))))) ∧ (¬ r1 = 0 → post (-101)))
theorem mm_d_place : hk_MV yX8_place cX8_place 3 (some .int) 2 := ⟨hw_1004, hw_1002, hw_1003, hw_87, by decide +kernel⟩
set_option maxRecDepth 100000 in
set_option maxHeartbeats 4000000 in
theorem c_d_place (l : Launch) (D : va_G) (cI cJ cZ cM : ClassId) (h_d : Nat) (a_d : Nat → Nat)  (d_p : Int32) (d_r : Int32) (d_t : Int32) (d_slack : Int32) (d_m : Int32) (d_folds : Int32) (d_kinds : Nat → Int32) (d_declared : Nat → Int32) (d_states : Nat → Int64) (d_lastRow : Nat → Int32) (d_lastValue : Nat → Int32) (d_hasValue : Nat → Int32) (d_touched : Nat → Int32) (d_parts : Nat → Int32) (d_rows : Int32) (d_inRound : Int32) (d_rounds : Int32) (d_flips : Int32) (d_passed : Int32) (d_matches : Int32) (d_moved : Int32) (d_time : Int32) (d_out : Int64) (d_loads : Nat → Int32) (d_counterKey : Nat → Int32) (d_counterCount : Nat → Int32) (d_counterError : Nat → Int32) (d_smalls : Int32) (d_smallKey : Nat → Int32) (d_smallWeight : Nat → Int32) (d_timers : Int32) (d_timerKey : Nat → Int32) (d_timerTime : Nat → Int32) (d_logged : Int32) (d_logKey : Nat → Int32) (d_logTime : Nat → Int32) (d_logState : Nat → Int64) (d_marks : Int32) (d_markState : Nat → Int64) (d_markValue : Nat → Int32) (d_markHas : Nat → Int32) (d_markSmalls : Nat → Int32) (d_markSmallKey : Nat → Int32) (d_markSmallWeight : Nat → Int32) (d_markTimers : Nat → Int32) (d_markTimerKey : Nat → Int32) (d_markTimerTime : Nat → Int32) (d_markTime : Nat → Int32) (d_markRows : Nat → Int32) (d_markMatches : Nat → Int32) (d_markOut : Nat → Int64) (d_comes : Nat → Int64) (p1 : Int32) (p2 : Int32) (post : Int32 → Prop) (h : wp_d_place p1 p2 d_p d_parts post) : Met l yX8_place (hk_ws yX8_place cX8_place 3 (some .int)) (hk_rm 2 46) (va_Pc [.ref h_d, .int p1, .int p2] (hk_PR D (hk_ty cI cJ cZ cM) (wv_d cI cJ cZ cM h_d a_d d_p d_r d_t d_slack d_m d_folds d_kinds d_declared d_states d_lastRow d_lastValue d_hasValue d_touched d_parts d_rows d_inRound d_rounds d_flips d_passed d_matches d_moved d_time d_out d_loads d_counterKey d_counterCount d_counterError d_smalls d_smallKey d_smallWeight d_timers d_timerKey d_timerTime d_logged d_logKey d_logTime d_logState d_marks d_markState d_markValue d_markHas d_markSmalls d_markSmallKey d_markSmallWeight d_markTimers d_markTimerKey d_markTimerTime d_markTime d_markRows d_markMatches d_markOut d_comes))) (vp_Si post) 0 0 (fun _ => False) := by
  refine Met.ofW (cc := cX8_place) (maxL := 3) (ret := (some .int)) (by decide) rfl ?_
  intro p e s m args below meth c s₁ B hml hv
  obtain ⟨rfl, hP, hK, hN⟩ := hv
  have hx := B.exec
  have hb := B.bytes
  have hr := B.returns
  have hts := atoms_spec (ws := hk_ws yX8_place cX8_place 3 (some .int)) B.pre
  have hta : ∀ w ∈ hk_all, w.before ([.ref h_d, .int p1, .int p2] : List Value).toArray s = true := fun w hw => hts w (List.mem_cons_of_mem _ hw)
  have hown : s.vm.findClass RX8 = some m.cls := findClass_of_methodNamed B.named
  have hlocks := B.notSynchronized
  have S0 : CallFix p m c cX8_place 3 s ([.ref h_d, .int p1, .int p2] : List Value).toArray hk_all RX8 := ⟨hx, hb, hml, hown, hta⟩
  have hl := lv_entry ([.ref h_d, .int p1, .int p2]) (n := 3) (Nat.le_of_ble_eq_true rfl)
  rw [lg_entry_eq]
  generalize (lg_sl ([.ref h_d, .int p1, .int p2]) ++ List.replicate (3 - (lg_sl ([.ref h_d, .int p1, .int p2])).length) Slot.unset).toArray = ls at hl ⊢
  have hl : lv_has ls 3 [(0, .ref h_d), (1, .int p1), (2, .int p2)] := hl
  unfold wp_d_place at h
  refine lv_aload_n hx hb dX8_place_0 rfl (lv_at hl 0 rfl) ?_
  refine lv_iload_n hx hb dX8_place_1 rfl (lv_at hl 1 rfl) ?_
  refine vp_callSi (hk_runV (As := [.int p1]) (rest := []) S0 mm_d_noKey (c_d_noKey l D cI cJ cZ cM h_d a_d d_p d_r d_t d_slack d_m d_folds d_kinds d_declared d_states d_lastRow d_lastValue d_hasValue d_touched d_parts d_rows d_inRound d_rounds d_flips d_passed d_matches d_moved d_time d_out d_loads d_counterKey d_counterCount d_counterError d_smalls d_smallKey d_smallWeight d_timers d_timerKey d_timerTime d_logged d_logKey d_logTime d_logState d_marks d_markState d_markValue d_markHas d_markSmalls d_markSmallKey d_markSmallWeight d_markTimers d_markTimerKey d_markTimerTime d_markTime d_markRows d_markMatches d_markOut d_comes p1 _ h) hw_926 hk_blR (hk_atR hP hK hN) (va_recv hK hP (ci := 8) (q0 := 0) rfl rfl) ⟨rfl, rfl, Nat.le_of_ble_eq_true rfl, Nat.le_of_ble_eq_true rfl⟩ rfl hl.1 rfl (Nat.le_of_ble_eq_true rfl) dX8_place_2 ⟨Nat.le_of_ble_eq_true rfl, Nat.le_of_ble_eq_true rfl⟩).run (fun r1 h => ?_)
  refine lv_if_eq (tgt := 11) hx hb dX8_place_5 (by decide) (fun c2 => ?_) (fun c2 => ?_)
  · have h := h.1 c2
    refine lv_iload_n hx hb dX8_place_11 rfl (lv_at hl 2 rfl) ?_
    refine lv_i2l (v := p2.toInt64) hx hb dX8_place_12 rfl ?_
    refine lv_lconst (v := 0) hx hb dX8_place_13 (by decide) ?_
    refine lv_aload_n hx hb dX8_place_14 rfl (lv_at hl 0 rfl) ?_
    refine va_get (D := D) (ci := 8) (v := .ref (a_d 13)) (C := RX8) (T := TX8) (N := 52) hx hb hta ih_X8 hown hK hP 0 rfl rfl 13 (by decide) (hta _ hw_759) (fun _ h9 => h9) rfl dX8_place_15 ?_
    refine lv_iload_n hx hb dX8_place_18 rfl (lv_at hl 1 rfl) ?_
    refine va_iald hx hb hK hP 8 0 rfl rfl h.1 dX8_place_19 ?_
    have h := h.2
    refine lv_iconst (v := 1) hx hb dX8_place_20 (by decide) ?_
    refine lv_isub hx hb dX8_place_21 ?_
    refine lv_i2l (v := ((d_parts p1.toNatClampNeg) - 1).toInt64) hx hb dX8_place_22 rfl ?_
    refine vp_callSi (hk_runS (As := [.long p2.toInt64, .long 0, .long (((d_parts p1.toNatClampNeg) - 1).toInt64)]) (rest := []) S0 mm_d_in (c_d_in l D cI cJ cZ cM p2.toInt64 0 (((d_parts p1.toNatClampNeg) - 1).toInt64) _ h) hw_909 hk_blR (hk_atR (hP.sub (ws' := ([] : va_W)) [] rfl) hK hN) ⟨rfl, rfl, Nat.le_of_ble_eq_true rfl, Nat.le_of_ble_eq_true rfl⟩ rfl hl.1 rfl (Nat.le_of_ble_eq_true rfl) dX8_place_23 ⟨Nat.le_of_ble_eq_true rfl, Nat.le_of_ble_eq_true rfl⟩).run (fun r3 h => ?_)
    refine lv_if_eq (tgt := 38) hx hb dX8_place_26 (by decide) (fun c4 => ?_) (fun c4 => ?_)
    · have h := h.1 c4
      refine lv_iconst (v := (-1)) hx hb dX8_place_38 (by decide) ?_
      exact W.iret (v := (-1)) hx hb hr (fun t ht hW => ⟨_, rfl, h, ht⟩) (fun _ hq => by cases hq) dX8_place_39
    · have h := h.2 c4
      refine lv_aload_n hx hb dX8_place_29 rfl (lv_at hl 0 rfl) ?_
      refine lv_iload_n hx hb dX8_place_30 rfl (lv_at hl 1 rfl) ?_
      refine lv_iload_n hx hb dX8_place_31 rfl (lv_at hl 2 rfl) ?_
      refine vp_callSi (hk_runV (As := [.int p1, .int p2]) (rest := []) S0 mm_d_placeOf (c_d_placeOf l D cI cJ cZ cM h_d a_d d_p d_r d_t d_slack d_m d_folds d_kinds d_declared d_states d_lastRow d_lastValue d_hasValue d_touched d_parts d_rows d_inRound d_rounds d_flips d_passed d_matches d_moved d_time d_out d_loads d_counterKey d_counterCount d_counterError d_smalls d_smallKey d_smallWeight d_timers d_timerKey d_timerTime d_logged d_logKey d_logTime d_logState d_marks d_markState d_markValue d_markHas d_markSmalls d_markSmallKey d_markSmallWeight d_markTimers d_markTimerKey d_markTimerTime d_markTime d_markRows d_markMatches d_markOut d_comes p1 p2 _ h) hw_942 hk_blR (hk_atR hP hK hN) (va_recv hK hP (ci := 8) (q0 := 0) rfl rfl) ⟨rfl, rfl, Nat.le_of_ble_eq_true rfl, Nat.le_of_ble_eq_true rfl⟩ rfl hl.1 rfl (Nat.le_of_ble_eq_true rfl) dX8_place_32 ⟨Nat.le_of_ble_eq_true rfl, Nat.le_of_ble_eq_true rfl⟩).run (fun r5 h => ?_)
      refine lv_goto (tgt := 39) hx hb dX8_place_35 (by decide) ?_
      exact W.iret (v := r5) hx hb hr (fun t ht hW => ⟨_, rfl, h, ht⟩) (fun _ hq => by cases hq) dX8_place_39
  · have h := h.2 c2
    refine lv_bipush (v := (-101)) hx hb dX8_place_8 (by decide) ?_
    exact W.iret (v := (-101)) hx hb hr (fun t ht hW => ⟨_, rfl, h, ht⟩) (fun _ hq => by cases hq) dX8_place_10
def wp_d_split (p1 : Int32) (p2 : Int32) (d_p : Int32) (d_folds : Int32) (d_kinds : Nat → Int32) (d_declared : Nat → Int32) (d_states : Nat → Int64) (d_lastRow : Nat → Int32) (d_hasValue : Nat → Int32) (d_touched : Nat → Int32) (d_parts : Nat → Int32) (post : Int32 → ((Nat → Int64) × (Nat → Int32) × (Nat → Int32) × (Nat → Int32) × (Nat → Int32)) → Prop) : Prop := wp_d_noKey p1 (fun (r1 : Int32) => (r1 = 0 → wp_d_in p2.toInt64 2 d_p.toInt64 (fun (r3 : Int32) => (¬ r3 = 0 → vp_in p1 100 ∧ ((1 < (d_parts p1.toNatClampNeg) → post (-103) (d_states, d_lastRow, d_hasValue, d_touched, d_parts)) ∧ (¬ 1 < (d_parts p1.toNatClampNeg) → wp_d_canSplit d_folds d_kinds d_declared (fun (r6 : Int32) => (¬ r6 = 0 → wp_d_makeParts p1 p2 d_folds d_kinds d_states d_lastRow d_hasValue d_touched d_parts (fun (w8 : (Nat → Int64) × (Nat → Int32) × (Nat → Int32) × (Nat → Int32) × (Nat → Int32)) => post 1 (w8.1, w8.2.1, w8.2.2.1, w8.2.2.2.1, w8.2.2.2.2))) ∧ (r6 = 0 → post (-103) (d_states, d_lastRow, d_hasValue, d_touched, d_parts)))))) ∧ (r3 = 0 → post (-102) (d_states, d_lastRow, d_hasValue, d_touched, d_parts)))) ∧ (¬ r1 = 0 → post (-101) (d_states, d_lastRow, d_hasValue, d_touched, d_parts)))
theorem mm_d_split : hk_MV yX8_split cX8_split 3 (some .int) 2 := ⟨hw_1008, hw_1006, hw_1007, hw_87, by decide +kernel⟩
set_option maxRecDepth 100000 in
set_option maxHeartbeats 4000000 in
theorem c_d_split (l : Launch) (D : va_G) (cI cJ cZ cM : ClassId) (h_d : Nat) (a_d : Nat → Nat) (sz : Nat) (d_p : Int32) (d_r : Int32) (d_t : Int32) (d_slack : Int32) (d_m : Int32) (d_folds : Int32) (d_kinds : Nat → Int32) (d_declared : Nat → Int32) (d_states : Nat → Int64) (d_lastRow : Nat → Int32) (d_lastValue : Nat → Int32) (d_hasValue : Nat → Int32) (d_touched : Nat → Int32) (d_parts : Nat → Int32) (d_rows : Int32) (d_inRound : Int32) (d_rounds : Int32) (d_flips : Int32) (d_passed : Int32) (d_matches : Int32) (d_moved : Int32) (d_time : Int32) (d_out : Int64) (d_loads : Nat → Int32) (d_counterKey : Nat → Int32) (d_counterCount : Nat → Int32) (d_counterError : Nat → Int32) (d_smalls : Int32) (d_smallKey : Nat → Int32) (d_smallWeight : Nat → Int32) (d_timers : Int32) (d_timerKey : Nat → Int32) (d_timerTime : Nat → Int32) (d_logged : Int32) (d_logKey : Nat → Int32) (d_logTime : Nat → Int32) (d_logState : Nat → Int64) (d_marks : Int32) (d_markState : Nat → Int64) (d_markValue : Nat → Int32) (d_markHas : Nat → Int32) (d_markSmalls : Nat → Int32) (d_markSmallKey : Nat → Int32) (d_markSmallWeight : Nat → Int32) (d_markTimers : Nat → Int32) (d_markTimerKey : Nat → Int32) (d_markTimerTime : Nat → Int32) (d_markTime : Nat → Int32) (d_markRows : Nat → Int32) (d_markMatches : Nat → Int32) (d_markOut : Nat → Int64) (d_comes : Nat → Int64) (p1 : Int32) (p2 : Int32) (post : Int32 → ((Nat → Int64) × (Nat → Int32) × (Nat → Int32) × (Nat → Int32) × (Nat → Int32)) → Prop) (h : wp_d_split p1 p2 d_p d_folds d_kinds d_declared d_states d_lastRow d_hasValue d_touched d_parts post) : Met l yX8_split (hk_ws yX8_split cX8_split 3 (some .int)) (hk_rm 3 69) (va_Pc [.ref h_d, .int p1, .int p2] (hk_PM D (hk_ty cI cJ cZ cM) sz (wv_d cI cJ cZ cM h_d a_d d_p d_r d_t d_slack d_m d_folds d_kinds d_declared d_states d_lastRow d_lastValue d_hasValue d_touched d_parts d_rows d_inRound d_rounds d_flips d_passed d_matches d_moved d_time d_out d_loads d_counterKey d_counterCount d_counterError d_smalls d_smallKey d_smallWeight d_timers d_timerKey d_timerTime d_logged d_logKey d_logTime d_logState d_marks d_markState d_markValue d_markHas d_markSmalls d_markSmallKey d_markSmallWeight d_markTimers d_markTimerKey d_markTimerTime d_markTime d_markRows d_markMatches d_markOut d_comes))) (va_Qi post (hk_B D (va_A (wv_d cI cJ cZ cM h_d a_d d_p d_r d_t d_slack d_m d_folds d_kinds d_declared d_states d_lastRow d_lastValue d_hasValue d_touched d_parts d_rows d_inRound d_rounds d_flips d_passed d_matches d_moved d_time d_out d_loads d_counterKey d_counterCount d_counterError d_smalls d_smallKey d_smallWeight d_timers d_timerKey d_timerTime d_logged d_logKey d_logTime d_logState d_marks d_markState d_markValue d_markHas d_markSmalls d_markSmallKey d_markSmallWeight d_markTimers d_markTimerKey d_markTimerTime d_markTime d_markRows d_markMatches d_markOut d_comes) sz) (fun (u : (Nat → Int64) × (Nat → Int32) × (Nat → Int32) × (Nat → Int32) × (Nat → Int32)) => wv_d cI cJ cZ cM h_d a_d d_p d_r d_t d_slack d_m d_folds d_kinds d_declared u.1 u.2.1 d_lastValue u.2.2.1 u.2.2.2.1 u.2.2.2.2 d_rows d_inRound d_rounds d_flips d_passed d_matches d_moved d_time d_out d_loads d_counterKey d_counterCount d_counterError d_smalls d_smallKey d_smallWeight d_timers d_timerKey d_timerTime d_logged d_logKey d_logTime d_logState d_marks d_markState d_markValue d_markHas d_markSmalls d_markSmallKey d_markSmallWeight d_markTimers d_markTimerKey d_markTimerTime d_markTime d_markRows d_markMatches d_markOut d_comes)) (va_A (wv_d cI cJ cZ cM h_d a_d d_p d_r d_t d_slack d_m d_folds d_kinds d_declared d_states d_lastRow d_lastValue d_hasValue d_touched d_parts d_rows d_inRound d_rounds d_flips d_passed d_matches d_moved d_time d_out d_loads d_counterKey d_counterCount d_counterError d_smalls d_smallKey d_smallWeight d_timers d_timerKey d_timerTime d_logged d_logKey d_logTime d_logState d_marks d_markState d_markValue d_markHas d_markSmalls d_markSmallKey d_markSmallWeight d_markTimers d_markTimerKey d_markTimerTime d_markTime d_markRows d_markMatches d_markOut d_comes) sz)) 0 0 (va_A (wv_d cI cJ cZ cM h_d a_d d_p d_r d_t d_slack d_m d_folds d_kinds d_declared d_states d_lastRow d_lastValue d_hasValue d_touched d_parts d_rows d_inRound d_rounds d_flips d_passed d_matches d_moved d_time d_out d_loads d_counterKey d_counterCount d_counterError d_smalls d_smallKey d_smallWeight d_timers d_timerKey d_timerTime d_logged d_logKey d_logTime d_logState d_marks d_markState d_markValue d_markHas d_markSmalls d_markSmallKey d_markSmallWeight d_markTimers d_markTimerKey d_markTimerTime d_markTime d_markRows d_markMatches d_markOut d_comes) sz) := by
  refine Met.ofW (cc := cX8_split) (maxL := 3) (ret := (some .int)) (by decide) rfl ?_
  intro p e s m args below meth c s₁ B hml hv
  obtain ⟨rfl, hsz, hP, hK, hD0, hN⟩ := hv
  have hx := B.exec
  have hb := B.bytes
  have hr := B.returns
  have hts := atoms_spec (ws := hk_ws yX8_split cX8_split 3 (some .int)) B.pre
  have hta : ∀ w ∈ hk_all, w.before ([.ref h_d, .int p1, .int p2] : List Value).toArray s = true := fun w hw => hts w (List.mem_cons_of_mem _ hw)
  have hown : s.vm.findClass RX8 = some m.cls := findClass_of_methodNamed B.named
  have hlocks := B.notSynchronized
  have S0 : CallFix p m c cX8_split 3 s ([.ref h_d, .int p1, .int p2] : List Value).toArray hk_all RX8 := ⟨hx, hb, hml, hown, hta⟩
  subst hsz
  have hD := hD0.self (sz := s.heap.size)
  generalize hAe : va_A (wv_d cI cJ cZ cM h_d a_d d_p d_r d_t d_slack d_m d_folds d_kinds d_declared d_states d_lastRow d_lastValue d_hasValue d_touched d_parts d_rows d_inRound d_rounds d_flips d_passed d_matches d_moved d_time d_out d_loads d_counterKey d_counterCount d_counterError d_smalls d_smallKey d_smallWeight d_timers d_timerKey d_timerTime d_logged d_logKey d_logTime d_logState d_marks d_markState d_markValue d_markHas d_markSmalls d_markSmallKey d_markSmallWeight d_markTimers d_markTimerKey d_markTimerTime d_markTime d_markRows d_markMatches d_markOut d_comes) s.heap.size = A at hD ⊢
  have hA : ∀ q : Nat, s.heap.size ≤ q → A q := fun q h => by rw [← hAe]; exact Or.inr h
  have hS : va_S A s.heap s.heap [] := va_S.rf
  have hl := lv_entry ([.ref h_d, .int p1, .int p2]) (n := 3) (Nat.le_of_ble_eq_true rfl)
  rw [lg_entry_eq]
  generalize (lg_sl ([.ref h_d, .int p1, .int p2]) ++ List.replicate (3 - (lg_sl ([.ref h_d, .int p1, .int p2])).length) Slot.unset).toArray = ls at hl ⊢
  have hl : lv_has ls 3 [(0, .ref h_d), (1, .int p1), (2, .int p2)] := hl
  unfold wp_d_split at h
  refine lv_aload_n hx hb dX8_split_0 rfl (lv_at hl 0 rfl) ?_
  refine lv_iload_n hx hb dX8_split_1 rfl (lv_at hl 1 rfl) ?_
  refine vp_callSi (hk_runV (As := [.int p1]) (rest := []) S0 mm_d_noKey (c_d_noKey l D cI cJ cZ cM h_d a_d d_p d_r d_t d_slack d_m d_folds d_kinds d_declared d_states d_lastRow d_lastValue d_hasValue d_touched d_parts d_rows d_inRound d_rounds d_flips d_passed d_matches d_moved d_time d_out d_loads d_counterKey d_counterCount d_counterError d_smalls d_smallKey d_smallWeight d_timers d_timerKey d_timerTime d_logged d_logKey d_logTime d_logState d_marks d_markState d_markValue d_markHas d_markSmalls d_markSmallKey d_markSmallWeight d_markTimers d_markTimerKey d_markTimerTime d_markTime d_markRows d_markMatches d_markOut d_comes p1 _ h) hw_926 hk_blR (hk_atR hP hK hN) (va_recv hK hP (ci := 8) (q0 := 0) rfl rfl) ⟨rfl, rfl, Nat.le_of_ble_eq_true rfl, Nat.le_of_ble_eq_true rfl⟩ rfl hl.1 rfl (Nat.le_of_ble_eq_true rfl) dX8_split_2 ⟨Nat.le_of_ble_eq_true rfl, Nat.le_of_ble_eq_true rfl⟩).run (fun r1 h => ?_)
  refine lv_if_eq (tgt := 11) hx hb dX8_split_5 (by decide) (fun c2 => ?_) (fun c2 => ?_)
  · have h := h.1 c2
    refine lv_iload_n hx hb dX8_split_11 rfl (lv_at hl 2 rfl) ?_
    refine lv_i2l (v := p2.toInt64) hx hb dX8_split_12 rfl ?_
    refine lv_ldc2 (v := 2) hx hb hown (hta _ hw_907) dX8_split_13 ?_
    refine lv_aload_n hx hb dX8_split_16 rfl (lv_at hl 0 rfl) ?_
    refine va_get (D := D) (ci := 8) (v := .int d_p) (C := RX8) (T := TX8) (N := 52) hx hb hta ih_X8 hown hK hP 0 rfl rfl 0 (by decide) (hta _ hw_746) (fun _ h9 => h9) rfl dX8_split_17 ?_
    refine lv_i2l (v := d_p.toInt64) hx hb dX8_split_20 rfl ?_
    refine vp_callSi (hk_runS (As := [.long p2.toInt64, .long 2, .long d_p.toInt64]) (rest := []) S0 mm_d_in (c_d_in l D cI cJ cZ cM p2.toInt64 2 d_p.toInt64 _ h) hw_909 hk_blR (hk_atR (hP.sub (ws' := ([] : va_W)) [] rfl) hK hN) ⟨rfl, rfl, Nat.le_of_ble_eq_true rfl, Nat.le_of_ble_eq_true rfl⟩ rfl hl.1 rfl (Nat.le_of_ble_eq_true rfl) dX8_split_21 ⟨Nat.le_of_ble_eq_true rfl, Nat.le_of_ble_eq_true rfl⟩).run (fun r3 h => ?_)
    refine lv_if_ne (tgt := 30) hx hb dX8_split_24 (by decide) (fun c4 => ?_) (fun c4 => ?_)
    · have h := h.1 c4
      refine lv_aload_n hx hb dX8_split_30 rfl (lv_at hl 0 rfl) ?_
      refine va_get (D := D) (ci := 8) (v := .ref (a_d 13)) (C := RX8) (T := TX8) (N := 52) hx hb hta ih_X8 hown hK hP 0 rfl rfl 13 (by decide) (hta _ hw_759) (fun _ h9 => h9) rfl dX8_split_31 ?_
      refine lv_iload_n hx hb dX8_split_34 rfl (lv_at hl 1 rfl) ?_
      refine va_iald hx hb hK hP 8 0 rfl rfl h.1 dX8_split_35 ?_
      have h := h.2
      refine lv_iconst (v := 1) hx hb dX8_split_36 (by decide) ?_
      refine lv_icmp_gt (tgt := 47) hx hb dX8_split_37 (by decide) (fun c5 => ?_) (fun c5 => ?_)
      · have h := h.1 c5
        refine lv_bipush (v := (-103)) hx hb dX8_split_47 (by decide) ?_
        exact W.iret (v := (-103)) hx hb hr (fun t ht hW => ⟨⟨(-103), (d_states, d_lastRow, d_hasValue, d_touched, d_parts), rfl, h, by rw [ht]; exact hP, hD⟩, hS.F ht⟩) hS.2.2 dX8_split_49
      · have h := h.2 c5
        refine lv_aload_n hx hb dX8_split_40 rfl (lv_at hl 0 rfl) ?_
        refine vp_callSi (hk_runV (As := []) (rest := []) S0 mm_d_canSplit (c_d_canSplit l D cI cJ cZ cM h_d a_d d_p d_r d_t d_slack d_m d_folds d_kinds d_declared d_states d_lastRow d_lastValue d_hasValue d_touched d_parts d_rows d_inRound d_rounds d_flips d_passed d_matches d_moved d_time d_out d_loads d_counterKey d_counterCount d_counterError d_smalls d_smallKey d_smallWeight d_timers d_timerKey d_timerTime d_logged d_logKey d_logTime d_logState d_marks d_markState d_markValue d_markHas d_markSmalls d_markSmallKey d_markSmallWeight d_markTimers d_markTimerKey d_markTimerTime d_markTime d_markRows d_markMatches d_markOut d_comes _ h) hw_966 hk_blR (hk_atR hP hK hN) (va_recv hK hP (ci := 8) (q0 := 0) rfl rfl) ⟨rfl, rfl, Nat.le_of_ble_eq_true rfl, Nat.le_of_ble_eq_true rfl⟩ rfl hl.1 rfl (Nat.le_of_ble_eq_true rfl) dX8_split_41 ⟨Nat.le_of_ble_eq_true rfl, Nat.le_of_ble_eq_true rfl⟩).run (fun r6 h => ?_)
        refine lv_if_ne (tgt := 50) hx hb dX8_split_44 (by decide) (fun c7 => ?_) (fun c7 => ?_)
        · have h := h.1 c7
          refine lv_aload_n hx hb dX8_split_50 rfl (lv_at hl 0 rfl) ?_
          refine lv_iload_n hx hb dX8_split_51 rfl (lv_at hl 1 rfl) ?_
          refine lv_iload_n hx hb dX8_split_52 rfl (lv_at hl 2 rfl) ?_
          refine hk_wv (hk_runV (As := [.int p1, .int p2]) (rest := []) S0 mm_d_makeParts (c_d_makeParts l D cI cJ cZ cM h_d a_d s.heap.size d_p d_r d_t d_slack d_m d_folds d_kinds d_declared d_states d_lastRow d_lastValue d_hasValue d_touched d_parts d_rows d_inRound d_rounds d_flips d_passed d_matches d_moved d_time d_out d_loads d_counterKey d_counterCount d_counterError d_smalls d_smallKey d_smallWeight d_timers d_timerKey d_timerTime d_logged d_logKey d_logTime d_logState d_marks d_markState d_markValue d_markHas d_markSmalls d_markSmallKey d_markSmallWeight d_markTimers d_markTimerKey d_markTimerTime d_markTime d_markRows d_markMatches d_markOut d_comes p1 p2 _ h) hw_970 hk_blM (hk_atM hP hK hD hN) (va_recv hK hP (ci := 8) (q0 := 0) rfl rfl) ⟨rfl, rfl, Nat.le_of_ble_eq_true rfl, Nat.le_of_ble_eq_true rfl⟩ rfl hl.1 rfl (Nat.le_of_ble_eq_true rfl) dX8_split_53 ⟨Nat.le_of_ble_eq_true rfl, Nat.le_of_ble_eq_true rfl⟩) hD hS hA (fun w8 H locs h hP hD hS => ?_)
          have hP : va_P D vwCl (wv_d cI cJ cZ cM h_d a_d d_p d_r d_t d_slack d_m d_folds d_kinds d_declared w8.1 w8.2.1 d_lastValue w8.2.2.1 w8.2.2.2.1 w8.2.2.2.2 d_rows d_inRound d_rounds d_flips d_passed d_matches d_moved d_time d_out d_loads d_counterKey d_counterCount d_counterError d_smalls d_smallKey d_smallWeight d_timers d_timerKey d_timerTime d_logged d_logKey d_logTime d_logState d_marks d_markState d_markValue d_markHas d_markSmalls d_markSmallKey d_markSmallWeight d_markTimers d_markTimerKey d_markTimerTime d_markTime d_markRows d_markMatches d_markOut d_comes) H := hP
          have hD : va_D A (wv_d cI cJ cZ cM h_d a_d d_p d_r d_t d_slack d_m d_folds d_kinds d_declared w8.1 w8.2.1 d_lastValue w8.2.2.1 w8.2.2.2.1 w8.2.2.2.2 d_rows d_inRound d_rounds d_flips d_passed d_matches d_moved d_time d_out d_loads d_counterKey d_counterCount d_counterError d_smalls d_smallKey d_smallWeight d_timers d_timerKey d_timerTime d_logged d_logKey d_logTime d_logState d_marks d_markState d_markValue d_markHas d_markSmalls d_markSmallKey d_markSmallWeight d_markTimers d_markTimerKey d_markTimerTime d_markTime d_markRows d_markMatches d_markOut d_comes) := hD
          refine lv_iconst (v := 1) hx hb dX8_split_56 (by decide) ?_
          exact W.iret (v := 1) hx hb hr (fun t ht hW => ⟨⟨1, (w8.1, w8.2.1, w8.2.2.1, w8.2.2.2.1, w8.2.2.2.2), rfl, h, by rw [ht]; exact hP, hD⟩, hS.F ht⟩) hS.2.2 dX8_split_57
        · have h := h.2 c7
          refine lv_bipush (v := (-103)) hx hb dX8_split_47 (by decide) ?_
          exact W.iret (v := (-103)) hx hb hr (fun t ht hW => ⟨⟨(-103), (d_states, d_lastRow, d_hasValue, d_touched, d_parts), rfl, h, by rw [ht]; exact hP, hD⟩, hS.F ht⟩) hS.2.2 dX8_split_49
    · have h := h.2 c4
      refine lv_bipush (v := (-102)) hx hb dX8_split_27 (by decide) ?_
      exact W.iret (v := (-102)) hx hb hr (fun t ht hW => ⟨⟨(-102), (d_states, d_lastRow, d_hasValue, d_touched, d_parts), rfl, h, by rw [ht]; exact hP, hD⟩, hS.F ht⟩) hS.2.2 dX8_split_29
  · have h := h.2 c2
    refine lv_bipush (v := (-101)) hx hb dX8_split_8 (by decide) ?_
    exact W.iret (v := (-101)) hx hb hr (fun t ht hW => ⟨⟨(-101), (d_states, d_lastRow, d_hasValue, d_touched, d_parts), rfl, h, by rw [ht]; exact hP, hD⟩, hS.F ht⟩) hS.2.2 dX8_split_10
def wp_d_back (p1 : Int32) (d_folds : Int32) (d_kinds : Nat → Int32) (d_states : Nat → Int64) (d_lastRow : Nat → Int32) (d_touched : Nat → Int32) (d_parts : Nat → Int32) (d_moved : Int32) (d_comes : Nat → Int64) (post : Int32 → ((Nat → Int64) × (Nat → Int32) × (Nat → Int32) × Int32 × (Nat → Int64)) → Prop) : Prop := wp_d_noKey p1 (fun (r1 : Int32) => (r1 = 0 → vp_in p1 100 ∧ ((¬ (d_parts p1.toNatClampNeg) = 1 → wp_d_joinBack p1 d_folds d_kinds d_states d_lastRow d_touched d_parts d_moved d_comes (fun (r4 : Int32) (w5 : (Nat → Int64) × (Nat → Int32) × (Nat → Int32) × Int32 × (Nat → Int64)) => post r4 (w5.1, w5.2.1, w5.2.2.1, w5.2.2.2.1, w5.2.2.2.2))) ∧ ((d_parts p1.toNatClampNeg) = 1 → post (-103) (d_states, d_lastRow, d_parts, d_moved, d_comes)))) ∧ (¬ r1 = 0 → post (-101) (d_states, d_lastRow, d_parts, d_moved, d_comes)))
theorem mm_d_back : hk_MV yX8_back cX8_back 2 (some .int) 1 := ⟨hw_1012, hw_1010, hw_1011, hw_87, by decide +kernel⟩
set_option maxRecDepth 100000 in
set_option maxHeartbeats 4000000 in
theorem c_d_back (l : Launch) (D : va_G) (cI cJ cZ cM : ClassId) (h_d : Nat) (a_d : Nat → Nat) (sz : Nat) (d_p : Int32) (d_r : Int32) (d_t : Int32) (d_slack : Int32) (d_m : Int32) (d_folds : Int32) (d_kinds : Nat → Int32) (d_declared : Nat → Int32) (d_states : Nat → Int64) (d_lastRow : Nat → Int32) (d_lastValue : Nat → Int32) (d_hasValue : Nat → Int32) (d_touched : Nat → Int32) (d_parts : Nat → Int32) (d_rows : Int32) (d_inRound : Int32) (d_rounds : Int32) (d_flips : Int32) (d_passed : Int32) (d_matches : Int32) (d_moved : Int32) (d_time : Int32) (d_out : Int64) (d_loads : Nat → Int32) (d_counterKey : Nat → Int32) (d_counterCount : Nat → Int32) (d_counterError : Nat → Int32) (d_smalls : Int32) (d_smallKey : Nat → Int32) (d_smallWeight : Nat → Int32) (d_timers : Int32) (d_timerKey : Nat → Int32) (d_timerTime : Nat → Int32) (d_logged : Int32) (d_logKey : Nat → Int32) (d_logTime : Nat → Int32) (d_logState : Nat → Int64) (d_marks : Int32) (d_markState : Nat → Int64) (d_markValue : Nat → Int32) (d_markHas : Nat → Int32) (d_markSmalls : Nat → Int32) (d_markSmallKey : Nat → Int32) (d_markSmallWeight : Nat → Int32) (d_markTimers : Nat → Int32) (d_markTimerKey : Nat → Int32) (d_markTimerTime : Nat → Int32) (d_markTime : Nat → Int32) (d_markRows : Nat → Int32) (d_markMatches : Nat → Int32) (d_markOut : Nat → Int64) (d_comes : Nat → Int64) (p1 : Int32) (post : Int32 → ((Nat → Int64) × (Nat → Int32) × (Nat → Int32) × Int32 × (Nat → Int64)) → Prop) (h : wp_d_back p1 d_folds d_kinds d_states d_lastRow d_touched d_parts d_moved d_comes post) : Met l yX8_back (hk_ws yX8_back cX8_back 2 (some .int)) (hk_rm 3 77) (va_Pc [.ref h_d, .int p1] (hk_PM D (hk_ty cI cJ cZ cM) sz (wv_d cI cJ cZ cM h_d a_d d_p d_r d_t d_slack d_m d_folds d_kinds d_declared d_states d_lastRow d_lastValue d_hasValue d_touched d_parts d_rows d_inRound d_rounds d_flips d_passed d_matches d_moved d_time d_out d_loads d_counterKey d_counterCount d_counterError d_smalls d_smallKey d_smallWeight d_timers d_timerKey d_timerTime d_logged d_logKey d_logTime d_logState d_marks d_markState d_markValue d_markHas d_markSmalls d_markSmallKey d_markSmallWeight d_markTimers d_markTimerKey d_markTimerTime d_markTime d_markRows d_markMatches d_markOut d_comes))) (va_Qi post (hk_B D (va_A (wv_d cI cJ cZ cM h_d a_d d_p d_r d_t d_slack d_m d_folds d_kinds d_declared d_states d_lastRow d_lastValue d_hasValue d_touched d_parts d_rows d_inRound d_rounds d_flips d_passed d_matches d_moved d_time d_out d_loads d_counterKey d_counterCount d_counterError d_smalls d_smallKey d_smallWeight d_timers d_timerKey d_timerTime d_logged d_logKey d_logTime d_logState d_marks d_markState d_markValue d_markHas d_markSmalls d_markSmallKey d_markSmallWeight d_markTimers d_markTimerKey d_markTimerTime d_markTime d_markRows d_markMatches d_markOut d_comes) sz) (fun (u : (Nat → Int64) × (Nat → Int32) × (Nat → Int32) × Int32 × (Nat → Int64)) => wv_d cI cJ cZ cM h_d a_d d_p d_r d_t d_slack d_m d_folds d_kinds d_declared u.1 u.2.1 d_lastValue d_hasValue d_touched u.2.2.1 d_rows d_inRound d_rounds d_flips d_passed d_matches u.2.2.2.1 d_time d_out d_loads d_counterKey d_counterCount d_counterError d_smalls d_smallKey d_smallWeight d_timers d_timerKey d_timerTime d_logged d_logKey d_logTime d_logState d_marks d_markState d_markValue d_markHas d_markSmalls d_markSmallKey d_markSmallWeight d_markTimers d_markTimerKey d_markTimerTime d_markTime d_markRows d_markMatches d_markOut u.2.2.2.2)) (va_A (wv_d cI cJ cZ cM h_d a_d d_p d_r d_t d_slack d_m d_folds d_kinds d_declared d_states d_lastRow d_lastValue d_hasValue d_touched d_parts d_rows d_inRound d_rounds d_flips d_passed d_matches d_moved d_time d_out d_loads d_counterKey d_counterCount d_counterError d_smalls d_smallKey d_smallWeight d_timers d_timerKey d_timerTime d_logged d_logKey d_logTime d_logState d_marks d_markState d_markValue d_markHas d_markSmalls d_markSmallKey d_markSmallWeight d_markTimers d_markTimerKey d_markTimerTime d_markTime d_markRows d_markMatches d_markOut d_comes) sz)) 0 0 (va_A (wv_d cI cJ cZ cM h_d a_d d_p d_r d_t d_slack d_m d_folds d_kinds d_declared d_states d_lastRow d_lastValue d_hasValue d_touched d_parts d_rows d_inRound d_rounds d_flips d_passed d_matches d_moved d_time d_out d_loads d_counterKey d_counterCount d_counterError d_smalls d_smallKey d_smallWeight d_timers d_timerKey d_timerTime d_logged d_logKey d_logTime d_logState d_marks d_markState d_markValue d_markHas d_markSmalls d_markSmallKey d_markSmallWeight d_markTimers d_markTimerKey d_markTimerTime d_markTime d_markRows d_markMatches d_markOut d_comes) sz) := by
  refine Met.ofW (cc := cX8_back) (maxL := 2) (ret := (some .int)) (by decide) rfl ?_
  intro p e s m args below meth c s₁ B hml hv
  obtain ⟨rfl, hsz, hP, hK, hD0, hN⟩ := hv
  have hx := B.exec
  have hb := B.bytes
  have hr := B.returns
  have hts := atoms_spec (ws := hk_ws yX8_back cX8_back 2 (some .int)) B.pre
  have hta : ∀ w ∈ hk_all, w.before ([.ref h_d, .int p1] : List Value).toArray s = true := fun w hw => hts w (List.mem_cons_of_mem _ hw)
  have hown : s.vm.findClass RX8 = some m.cls := findClass_of_methodNamed B.named
  have hlocks := B.notSynchronized
  have S0 : CallFix p m c cX8_back 2 s ([.ref h_d, .int p1] : List Value).toArray hk_all RX8 := ⟨hx, hb, hml, hown, hta⟩
  subst hsz
  have hD := hD0.self (sz := s.heap.size)
  generalize hAe : va_A (wv_d cI cJ cZ cM h_d a_d d_p d_r d_t d_slack d_m d_folds d_kinds d_declared d_states d_lastRow d_lastValue d_hasValue d_touched d_parts d_rows d_inRound d_rounds d_flips d_passed d_matches d_moved d_time d_out d_loads d_counterKey d_counterCount d_counterError d_smalls d_smallKey d_smallWeight d_timers d_timerKey d_timerTime d_logged d_logKey d_logTime d_logState d_marks d_markState d_markValue d_markHas d_markSmalls d_markSmallKey d_markSmallWeight d_markTimers d_markTimerKey d_markTimerTime d_markTime d_markRows d_markMatches d_markOut d_comes) s.heap.size = A at hD ⊢
  have hA : ∀ q : Nat, s.heap.size ≤ q → A q := fun q h => by rw [← hAe]; exact Or.inr h
  have hS : va_S A s.heap s.heap [] := va_S.rf
  have hl := lv_entry ([.ref h_d, .int p1]) (n := 2) (Nat.le_of_ble_eq_true rfl)
  rw [lg_entry_eq]
  generalize (lg_sl ([.ref h_d, .int p1]) ++ List.replicate (2 - (lg_sl ([.ref h_d, .int p1])).length) Slot.unset).toArray = ls at hl ⊢
  have hl : lv_has ls 2 [(0, .ref h_d), (1, .int p1)] := hl
  unfold wp_d_back at h
  refine lv_aload_n hx hb dX8_back_0 rfl (lv_at hl 0 rfl) ?_
  refine lv_iload_n hx hb dX8_back_1 rfl (lv_at hl 1 rfl) ?_
  refine vp_callSi (hk_runV (As := [.int p1]) (rest := []) S0 mm_d_noKey (c_d_noKey l D cI cJ cZ cM h_d a_d d_p d_r d_t d_slack d_m d_folds d_kinds d_declared d_states d_lastRow d_lastValue d_hasValue d_touched d_parts d_rows d_inRound d_rounds d_flips d_passed d_matches d_moved d_time d_out d_loads d_counterKey d_counterCount d_counterError d_smalls d_smallKey d_smallWeight d_timers d_timerKey d_timerTime d_logged d_logKey d_logTime d_logState d_marks d_markState d_markValue d_markHas d_markSmalls d_markSmallKey d_markSmallWeight d_markTimers d_markTimerKey d_markTimerTime d_markTime d_markRows d_markMatches d_markOut d_comes p1 _ h) hw_926 hk_blR (hk_atR hP hK hN) (va_recv hK hP (ci := 8) (q0 := 0) rfl rfl) ⟨rfl, rfl, Nat.le_of_ble_eq_true rfl, Nat.le_of_ble_eq_true rfl⟩ rfl hl.1 rfl (Nat.le_of_ble_eq_true rfl) dX8_back_2 ⟨Nat.le_of_ble_eq_true rfl, Nat.le_of_ble_eq_true rfl⟩).run (fun r1 h => ?_)
  refine lv_if_eq (tgt := 11) hx hb dX8_back_5 (by decide) (fun c2 => ?_) (fun c2 => ?_)
  · have h := h.1 c2
    refine lv_aload_n hx hb dX8_back_11 rfl (lv_at hl 0 rfl) ?_
    refine va_get (D := D) (ci := 8) (v := .ref (a_d 13)) (C := RX8) (T := TX8) (N := 52) hx hb hta ih_X8 hown hK hP 0 rfl rfl 13 (by decide) (hta _ hw_759) (fun _ h9 => h9) rfl dX8_back_12 ?_
    refine lv_iload_n hx hb dX8_back_15 rfl (lv_at hl 1 rfl) ?_
    refine va_iald hx hb hK hP 8 0 rfl rfl h.1 dX8_back_16 ?_
    have h := h.2
    refine lv_iconst (v := 1) hx hb dX8_back_17 (by decide) ?_
    refine lv_icmp_ne (tgt := 26) hx hb dX8_back_18 (by decide) (fun c3 => ?_) (fun c3 => ?_)
    · have h := h.1 c3
      refine lv_aload_n hx hb dX8_back_26 rfl (lv_at hl 0 rfl) ?_
      refine lv_iload_n hx hb dX8_back_27 rfl (lv_at hl 1 rfl) ?_
      refine hk_wi (hk_runV (As := [.int p1]) (rest := []) S0 mm_d_joinBack (c_d_joinBack l D cI cJ cZ cM h_d a_d s.heap.size d_p d_r d_t d_slack d_m d_folds d_kinds d_declared d_states d_lastRow d_lastValue d_hasValue d_touched d_parts d_rows d_inRound d_rounds d_flips d_passed d_matches d_moved d_time d_out d_loads d_counterKey d_counterCount d_counterError d_smalls d_smallKey d_smallWeight d_timers d_timerKey d_timerTime d_logged d_logKey d_logTime d_logState d_marks d_markState d_markValue d_markHas d_markSmalls d_markSmallKey d_markSmallWeight d_markTimers d_markTimerKey d_markTimerTime d_markTime d_markRows d_markMatches d_markOut d_comes p1 _ h) hw_978 hk_blM (hk_atM hP hK hD hN) (va_recv hK hP (ci := 8) (q0 := 0) rfl rfl) ⟨rfl, rfl, Nat.le_of_ble_eq_true rfl, Nat.le_of_ble_eq_true rfl⟩ rfl hl.1 rfl (Nat.le_of_ble_eq_true rfl) dX8_back_28 ⟨Nat.le_of_ble_eq_true rfl, Nat.le_of_ble_eq_true rfl⟩) hD hS hA (fun r4 w5 H locs h hP hD hS => ?_)
      have hP : va_P D vwCl (wv_d cI cJ cZ cM h_d a_d d_p d_r d_t d_slack d_m d_folds d_kinds d_declared w5.1 w5.2.1 d_lastValue d_hasValue d_touched w5.2.2.1 d_rows d_inRound d_rounds d_flips d_passed d_matches w5.2.2.2.1 d_time d_out d_loads d_counterKey d_counterCount d_counterError d_smalls d_smallKey d_smallWeight d_timers d_timerKey d_timerTime d_logged d_logKey d_logTime d_logState d_marks d_markState d_markValue d_markHas d_markSmalls d_markSmallKey d_markSmallWeight d_markTimers d_markTimerKey d_markTimerTime d_markTime d_markRows d_markMatches d_markOut w5.2.2.2.2) H := hP
      have hD : va_D A (wv_d cI cJ cZ cM h_d a_d d_p d_r d_t d_slack d_m d_folds d_kinds d_declared w5.1 w5.2.1 d_lastValue d_hasValue d_touched w5.2.2.1 d_rows d_inRound d_rounds d_flips d_passed d_matches w5.2.2.2.1 d_time d_out d_loads d_counterKey d_counterCount d_counterError d_smalls d_smallKey d_smallWeight d_timers d_timerKey d_timerTime d_logged d_logKey d_logTime d_logState d_marks d_markState d_markValue d_markHas d_markSmalls d_markSmallKey d_markSmallWeight d_markTimers d_markTimerKey d_markTimerTime d_markTime d_markRows d_markMatches d_markOut w5.2.2.2.2) := hD
      exact W.iret (v := r4) hx hb hr (fun t ht hW => ⟨⟨r4, (w5.1, w5.2.1, w5.2.2.1, w5.2.2.2.1, w5.2.2.2.2), rfl, h, by rw [ht]; exact hP, hD⟩, hS.F ht⟩) hS.2.2 dX8_back_31
    · have h := h.2 c3
      refine lv_bipush (v := (-103)) hx hb dX8_back_21 (by decide) ?_
      refine lv_goto (tgt := 31) hx hb dX8_back_23 (by decide) ?_
      exact W.iret (v := (-103)) hx hb hr (fun t ht hW => ⟨⟨(-103), (d_states, d_lastRow, d_parts, d_moved, d_comes), rfl, h, by rw [ht]; exact hP, hD⟩, hS.F ht⟩) hS.2.2 dX8_back_31
  · have h := h.2 c2
    refine lv_bipush (v := (-101)) hx hb dX8_back_8 (by decide) ?_
    exact W.iret (v := (-101)) hx hb hr (fun t ht hW => ⟨⟨(-101), (d_states, d_lastRow, d_parts, d_moved, d_comes), rfl, h, by rw [ht]; exact hP, hD⟩, hS.F ht⟩) hS.2.2 dX8_back_10
def wb_d_tree_41 (p2 : Int32) (post : Int32 → Prop) (v4 : Int32 × Int32 × Int32 × Int32) (K27 : (Int32 × Int32 × Int32 × Int32) → Prop) (K41 : (Int32 × Int32) → Prop) (v7 : Int32 × Int32) : Prop := (v4.1 ≤ (v7.2 + 1) → ∀ x9 : Int32, x9 = (v4.1 + 1) / 2 → ∀ x10 : Int32, x10 = 2 * v4.2.1 → ∀ x11 : Int32, x11 = v4.2.2.2 + 1 → K27 (x9, x10, v7.1, x11)) ∧ (¬ v4.1 ≤ (v7.2 + 1) → (¬ v7.1 = p2 → ∀ x13 : Int32, x13 = v7.1 + 1 → ∀ x14 : Int32, x14 = v7.2 + 2 → K41 (x13, x14)) ∧ (v7.1 = p2 → post ((8 * (v7.2 * v4.2.1)) + ((v7.2 + 1) * v4.2.1))))
def wb_d_tree_27 (p2 : Int32) (post : Int32 → Prop) (K27 : (Int32 × Int32 × Int32 × Int32) → Prop) (v4 : Int32 × Int32 × Int32 × Int32) : Prop := (3 ≤ v4.2.2.2 → post (-1)) ∧ (¬ 3 ≤ v4.2.2.2 → (v4.1 ≤ 1 → post (-1)) ∧ (¬ v4.1 ≤ 1 → ∃ n, hk_lp (wb_d_tree_41 p2 post v4 K27) n (v4.2.2.1, 0)))
def wp_d_tree (p1 : Int32) (p2 : Int32) (d_parts : Nat → Int32) (post : Int32 → Prop) : Prop := wp_d_noKey p1 (fun (r1 : Int32) => (r1 = 0 → vp_in p1 100 ∧ (∀ x3 : Int32, x3 = d_parts p1.toNatClampNeg → ∃ n, hk_lp (wb_d_tree_27 p2 post) n (x3, 1, 0, 0))) ∧ (¬ r1 = 0 → post (-101)))
theorem mm_d_tree : hk_MV yX8_tree cX8_tree 8 (some .int) 2 := ⟨hw_1016, hw_1014, hw_1015, hw_87, by decide +kernel⟩
set_option maxRecDepth 100000 in
set_option maxHeartbeats 4000000 in
theorem c_d_tree (l : Launch) (D : va_G) (cI cJ cZ cM : ClassId) (h_d : Nat) (a_d : Nat → Nat)  (d_p : Int32) (d_r : Int32) (d_t : Int32) (d_slack : Int32) (d_m : Int32) (d_folds : Int32) (d_kinds : Nat → Int32) (d_declared : Nat → Int32) (d_states : Nat → Int64) (d_lastRow : Nat → Int32) (d_lastValue : Nat → Int32) (d_hasValue : Nat → Int32) (d_touched : Nat → Int32) (d_parts : Nat → Int32) (d_rows : Int32) (d_inRound : Int32) (d_rounds : Int32) (d_flips : Int32) (d_passed : Int32) (d_matches : Int32) (d_moved : Int32) (d_time : Int32) (d_out : Int64) (d_loads : Nat → Int32) (d_counterKey : Nat → Int32) (d_counterCount : Nat → Int32) (d_counterError : Nat → Int32) (d_smalls : Int32) (d_smallKey : Nat → Int32) (d_smallWeight : Nat → Int32) (d_timers : Int32) (d_timerKey : Nat → Int32) (d_timerTime : Nat → Int32) (d_logged : Int32) (d_logKey : Nat → Int32) (d_logTime : Nat → Int32) (d_logState : Nat → Int64) (d_marks : Int32) (d_markState : Nat → Int64) (d_markValue : Nat → Int32) (d_markHas : Nat → Int32) (d_markSmalls : Nat → Int32) (d_markSmallKey : Nat → Int32) (d_markSmallWeight : Nat → Int32) (d_markTimers : Nat → Int32) (d_markTimerKey : Nat → Int32) (d_markTimerTime : Nat → Int32) (d_markTime : Nat → Int32) (d_markRows : Nat → Int32) (d_markMatches : Nat → Int32) (d_markOut : Nat → Int64) (d_comes : Nat → Int64) (p1 : Int32) (p2 : Int32) (post : Int32 → Prop) (h : wp_d_tree p1 p2 d_parts post) : Met l yX8_tree (hk_ws yX8_tree cX8_tree 8 (some .int)) (hk_rm 2 46) (va_Pc [.ref h_d, .int p1, .int p2] (hk_PR D (hk_ty cI cJ cZ cM) (wv_d cI cJ cZ cM h_d a_d d_p d_r d_t d_slack d_m d_folds d_kinds d_declared d_states d_lastRow d_lastValue d_hasValue d_touched d_parts d_rows d_inRound d_rounds d_flips d_passed d_matches d_moved d_time d_out d_loads d_counterKey d_counterCount d_counterError d_smalls d_smallKey d_smallWeight d_timers d_timerKey d_timerTime d_logged d_logKey d_logTime d_logState d_marks d_markState d_markValue d_markHas d_markSmalls d_markSmallKey d_markSmallWeight d_markTimers d_markTimerKey d_markTimerTime d_markTime d_markRows d_markMatches d_markOut d_comes))) (vp_Si post) 0 0 (fun _ => False) := by
  refine Met.ofW (cc := cX8_tree) (maxL := 8) (ret := (some .int)) (by decide) rfl ?_
  intro p e s m args below meth c s₁ B hml hv
  obtain ⟨rfl, hP, hK, hN⟩ := hv
  have hx := B.exec
  have hb := B.bytes
  have hr := B.returns
  have hts := atoms_spec (ws := hk_ws yX8_tree cX8_tree 8 (some .int)) B.pre
  have hta : ∀ w ∈ hk_all, w.before ([.ref h_d, .int p1, .int p2] : List Value).toArray s = true := fun w hw => hts w (List.mem_cons_of_mem _ hw)
  have hown : s.vm.findClass RX8 = some m.cls := findClass_of_methodNamed B.named
  have hlocks := B.notSynchronized
  have S0 : CallFix p m c cX8_tree 8 s ([.ref h_d, .int p1, .int p2] : List Value).toArray hk_all RX8 := ⟨hx, hb, hml, hown, hta⟩
  have hl := lv_entry ([.ref h_d, .int p1, .int p2]) (n := 8) (Nat.le_of_ble_eq_true rfl)
  rw [lg_entry_eq]
  generalize (lg_sl ([.ref h_d, .int p1, .int p2]) ++ List.replicate (8 - (lg_sl ([.ref h_d, .int p1, .int p2])).length) Slot.unset).toArray = ls at hl ⊢
  have hl : lv_has ls 8 [(0, .ref h_d), (1, .int p1), (2, .int p2)] := hl
  unfold wp_d_tree at h
  refine lv_aload_n hx hb dX8_tree_0 rfl (lv_at hl 0 rfl) ?_
  refine lv_iload_n hx hb dX8_tree_1 rfl (lv_at hl 1 rfl) ?_
  refine vp_callSi (hk_runV (As := [.int p1]) (rest := []) S0 mm_d_noKey (c_d_noKey l D cI cJ cZ cM h_d a_d d_p d_r d_t d_slack d_m d_folds d_kinds d_declared d_states d_lastRow d_lastValue d_hasValue d_touched d_parts d_rows d_inRound d_rounds d_flips d_passed d_matches d_moved d_time d_out d_loads d_counterKey d_counterCount d_counterError d_smalls d_smallKey d_smallWeight d_timers d_timerKey d_timerTime d_logged d_logKey d_logTime d_logState d_marks d_markState d_markValue d_markHas d_markSmalls d_markSmallKey d_markSmallWeight d_markTimers d_markTimerKey d_markTimerTime d_markTime d_markRows d_markMatches d_markOut d_comes p1 _ h) hw_926 hk_blR (hk_atR hP hK hN) (va_recv hK hP (ci := 8) (q0 := 0) rfl rfl) ⟨rfl, rfl, Nat.le_of_ble_eq_true rfl, Nat.le_of_ble_eq_true rfl⟩ rfl hl.1 rfl (Nat.le_of_ble_eq_true rfl) dX8_tree_2 ⟨Nat.le_of_ble_eq_true rfl, Nat.le_of_ble_eq_true rfl⟩).run (fun r1 h => ?_)
  refine lv_if_eq (tgt := 11) hx hb dX8_tree_5 (by decide) (fun c2 => ?_) (fun c2 => ?_)
  · have h := h.1 c2
    refine lv_aload_n hx hb dX8_tree_11 rfl (lv_at hl 0 rfl) ?_
    refine va_get (D := D) (ci := 8) (v := .ref (a_d 13)) (C := RX8) (T := TX8) (N := 52) hx hb hta ih_X8 hown hK hP 0 rfl rfl 13 (by decide) (hta _ hw_759) (fun _ h9 => h9) rfl dX8_tree_12 ?_
    refine lv_iload_n hx hb dX8_tree_15 rfl (lv_at hl 1 rfl) ?_
    refine va_iald hx hb hK hP 8 0 rfl rfl h.1 dX8_tree_16 ?_
    have h := h.2
    refine lv_topi (fun x3 ex3 => ?_)
    have h := h x3 ex3
    refine lv_istore_n (lv' := [(3, .int x3), (0, .ref h_d), (1, .int p1), (2, .int p2)]) hx hb dX8_tree_17 rfl hl (by decide) rfl (fun ls hl => ?_)
    refine lv_iconst (v := 1) hx hb dX8_tree_18 (by decide) ?_
    refine lv_istore (lv' := [(4, .int 1), (3, .int x3), (0, .ref h_d), (1, .int p1), (2, .int p2)]) hx hb dX8_tree_19 hl (by decide) rfl (fun ls hl => ?_)
    refine lv_iconst (v := 0) hx hb dX8_tree_21 (by decide) ?_
    refine lv_istore (lv' := [(5, .int 0), (4, .int 1), (3, .int x3), (0, .ref h_d), (1, .int p1), (2, .int p2)]) hx hb dX8_tree_22 hl (by decide) rfl (fun ls hl => ?_)
    refine lv_iconst (v := 0) hx hb dX8_tree_24 (by decide) ?_
    refine lv_istore (lv' := [(6, .int 0), (5, .int 0), (4, .int 1), (3, .int x3), (0, .ref h_d), (1, .int p1), (2, .int p2)]) hx hb dX8_tree_25 hl (by decide) rfl (fun ls hl => ?_)
    have P27 : ∀ (n : Nat) (v4 : Int32 × Int32 × Int32 × Int32) (ls : Array Slot), lv_has ls 8 [(0, .ref h_d), (1, .int p1), (2, .int p2), (3, .int v4.1), (4, .int v4.2.1), (5, .int v4.2.2.1), (6, .int v4.2.2.2)] → hk_lp (wb_d_tree_27 p2 post) n v4 → W p l e (headSpec (hk_ws yX8_tree cX8_tree 8 (some .int)) (hk_rm 2 46)).room s m ([.ref h_d, .int p1, .int p2] : List Value).toArray below meth c s.heap [] 0 0 (MQ below (vp_Si post) ([.ref h_d, .int p1, .int p2] : List Value).toArray s 0 0 (fun _ => False)) (F0 m 27 ls []) := by
      intro n
      induction n with
      | zero => intro v4 ls hl h; exact False.elim h
      | succ n ih27 =>
        intro v4 ls hl h
        have h : wb_d_tree_27 p2 post (hk_lp (wb_d_tree_27 p2 post) n) v4 := h
        generalize hk_lp (wb_d_tree_27 p2 post) n = K27 at h ih27
        unfold wb_d_tree_27 at h
        refine lv_iload hx hb dX8_tree_27 (lv_at hl 6 rfl) ?_
        refine lv_iconst (v := 3) hx hb dX8_tree_29 (by decide) ?_
        refine lv_icmp_ge (tgt := 99) hx hb dX8_tree_30 (by decide) (fun c5 => ?_) (fun c5 => ?_)
        · have h := h.1 c5
          refine lv_iconst (v := (-1)) hx hb dX8_tree_99 (by decide) ?_
          exact W.iret (v := (-1)) hx hb hr (fun t ht hW => ⟨_, rfl, h, ht⟩) (fun _ hq => by cases hq) dX8_tree_100
        · have h := h.2 c5
          refine lv_iload_n hx hb dX8_tree_33 rfl (lv_at hl 3 rfl) ?_
          refine lv_iconst (v := 1) hx hb dX8_tree_34 (by decide) ?_
          refine lv_icmp_le (tgt := 99) hx hb dX8_tree_35 (by decide) (fun c6 => ?_) (fun c6 => ?_)
          · have h := h.1 c6
            refine lv_iconst (v := (-1)) hx hb dX8_tree_99 (by decide) ?_
            exact W.iret (v := (-1)) hx hb hr (fun t ht hW => ⟨_, rfl, h, ht⟩) (fun _ hq => by cases hq) dX8_tree_100
          · have h := h.2 c6
            refine lv_iconst (v := 0) hx hb dX8_tree_38 (by decide) ?_
            refine lv_istore (lv' := [(7, .int 0), (0, .ref h_d), (1, .int p1), (2, .int p2), (3, .int v4.1), (4, .int v4.2.1), (5, .int v4.2.2.1), (6, .int v4.2.2.2)]) hx hb dX8_tree_39 hl (by decide) rfl (fun ls hl => ?_)
            have P41 : ∀ (n : Nat) (v7 : Int32 × Int32) (ls : Array Slot), lv_has ls 8 [(0, .ref h_d), (1, .int p1), (2, .int p2), (3, .int v4.1), (4, .int v4.2.1), (5, .int v7.1), (6, .int v4.2.2.2), (7, .int v7.2)] → hk_lp (wb_d_tree_41 p2 post v4 K27) n v7 → W p l e (headSpec (hk_ws yX8_tree cX8_tree 8 (some .int)) (hk_rm 2 46)).room s m ([.ref h_d, .int p1, .int p2] : List Value).toArray below meth c s.heap [] 0 0 (MQ below (vp_Si post) ([.ref h_d, .int p1, .int p2] : List Value).toArray s 0 0 (fun _ => False)) (F0 m 41 ls []) := by
              intro n
              induction n with
              | zero => intro v7 ls hl h; exact False.elim h
              | succ n ih41 =>
                intro v7 ls hl h
                have h : wb_d_tree_41 p2 post v4 K27 (hk_lp (wb_d_tree_41 p2 post v4 K27) n) v7 := h
                generalize hk_lp (wb_d_tree_41 p2 post v4 K27) n = K41 at h ih41
                unfold wb_d_tree_41 at h
                refine lv_iload hx hb dX8_tree_41 (lv_at hl 7 rfl) ?_
                refine lv_iconst (v := 1) hx hb dX8_tree_43 (by decide) ?_
                refine lv_iadd hx hb dX8_tree_44 ?_
                refine lv_iload_n hx hb dX8_tree_45 rfl (lv_at hl 3 rfl) ?_
                refine lv_icmp_ge (tgt := 81) hx hb dX8_tree_46 (by decide) (fun c8 => ?_) (fun c8 => ?_)
                · have h := h.1 c8
                  refine lv_iload_n hx hb dX8_tree_81 rfl (lv_at hl 3 rfl) ?_
                  refine lv_iconst (v := 1) hx hb dX8_tree_82 (by decide) ?_
                  refine lv_iadd hx hb dX8_tree_83 ?_
                  refine lv_iconst (v := 2) hx hb dX8_tree_84 (by decide) ?_
                  refine lv_idiv hx hb dX8_tree_85 (by decide) ?_
                  refine lv_topi (fun x9 ex9 => ?_)
                  have h := h x9 ex9
                  refine lv_istore_n (lv' := [(3, .int x9), (0, .ref h_d), (1, .int p1), (2, .int p2), (4, .int v4.2.1), (5, .int v7.1), (6, .int v4.2.2.2), (7, .int v7.2)]) hx hb dX8_tree_86 rfl hl (by decide) rfl (fun ls hl => ?_)
                  refine lv_iconst (v := 2) hx hb dX8_tree_87 (by decide) ?_
                  refine lv_iload hx hb dX8_tree_88 (lv_at hl 4 rfl) ?_
                  refine lv_imul hx hb dX8_tree_90 ?_
                  refine lv_topi (fun x10 ex10 => ?_)
                  have h := h x10 ex10
                  refine lv_istore (lv' := [(4, .int x10), (3, .int x9), (0, .ref h_d), (1, .int p1), (2, .int p2), (5, .int v7.1), (6, .int v4.2.2.2), (7, .int v7.2)]) hx hb dX8_tree_91 hl (by decide) rfl (fun ls hl => ?_)
                  obtain ⟨x11, ex11⟩ : ∃ y : Int32, y = v4.2.2.2 + 1 := ⟨_, rfl⟩
                  have h := h x11 ex11
                  refine lv_iinc (v := x11) (lv' := [(6, .int x11), (4, .int x10), (3, .int x9), (0, .ref h_d), (1, .int p1), (2, .int p2), (5, .int v7.1), (7, .int v7.2)]) hx hb dX8_tree_93 hl (k := 6) rfl (by rw [ex11]; rfl) (by decide) rfl (fun ls hl => ?_)
                  refine lv_goto (tgt := 27) hx hb dX8_tree_96 (by decide) ?_
                  exact ih27 (x9, x10, v7.1, x11) ls (lv_sub hl [3, 4, 5, 2, 1, 6, 0] rfl) h
                · have h := h.2 c8
                  refine lv_iload hx hb dX8_tree_49 (lv_at hl 5 rfl) ?_
                  refine lv_iload_n hx hb dX8_tree_51 rfl (lv_at hl 2 rfl) ?_
                  refine lv_icmp_ne (tgt := 72) hx hb dX8_tree_52 (by decide) (fun c12 => ?_) (fun c12 => ?_)
                  · have h := h.1 c12
                    obtain ⟨x13, ex13⟩ : ∃ y : Int32, y = v7.1 + 1 := ⟨_, rfl⟩
                    have h := h x13 ex13
                    refine lv_iinc (v := x13) (lv' := [(5, .int x13), (0, .ref h_d), (1, .int p1), (2, .int p2), (3, .int v4.1), (4, .int v4.2.1), (6, .int v4.2.2.2), (7, .int v7.2)]) hx hb dX8_tree_72 hl (k := 5) rfl (by rw [ex13]; rfl) (by decide) rfl (fun ls hl => ?_)
                    obtain ⟨x14, ex14⟩ : ∃ y : Int32, y = v7.2 + 2 := ⟨_, rfl⟩
                    have h := h x14 ex14
                    refine lv_iinc (v := x14) (lv' := [(7, .int x14), (5, .int x13), (0, .ref h_d), (1, .int p1), (2, .int p2), (3, .int v4.1), (4, .int v4.2.1), (6, .int v4.2.2.2)]) hx hb dX8_tree_75 hl (k := 7) rfl (by rw [ex14]; rfl) (by decide) rfl (fun ls hl => ?_)
                    refine lv_goto (tgt := 41) hx hb dX8_tree_78 (by decide) ?_
                    exact ih41 (x13, x14) ls (lv_sub hl [2, 3, 4, 5, 6, 1, 7, 0] rfl) h
                  · have h := h.2 c12
                    refine lv_bipush (v := 8) hx hb dX8_tree_55 (by decide) ?_
                    refine lv_iload hx hb dX8_tree_57 (lv_at hl 7 rfl) ?_
                    refine lv_iload hx hb dX8_tree_59 (lv_at hl 4 rfl) ?_
                    refine lv_imul hx hb dX8_tree_61 ?_
                    refine lv_imul hx hb dX8_tree_62 ?_
                    refine lv_iload hx hb dX8_tree_63 (lv_at hl 7 rfl) ?_
                    refine lv_iconst (v := 1) hx hb dX8_tree_65 (by decide) ?_
                    refine lv_iadd hx hb dX8_tree_66 ?_
                    refine lv_iload hx hb dX8_tree_67 (lv_at hl 4 rfl) ?_
                    refine lv_imul hx hb dX8_tree_69 ?_
                    refine lv_iadd hx hb dX8_tree_70 ?_
                    exact W.iret (v := (8 * (v7.2 * v4.2.1)) + ((v7.2 + 1) * v4.2.1)) hx hb hr (fun t ht hW => ⟨_, rfl, h, ht⟩) (fun _ hq => by cases hq) dX8_tree_71
            obtain ⟨n, h⟩ := h
            exact P41 n (v4.2.2.1, 0) ls (lv_sub hl [1, 2, 3, 4, 5, 6, 7, 0] rfl) h
    obtain ⟨n, h⟩ := h
    exact P27 n (x3, 1, 0, 0) ls (lv_sub hl [4, 5, 6, 3, 2, 1, 0] rfl) h
  · have h := h.2 c2
    refine lv_bipush (v := (-101)) hx hb dX8_tree_8 (by decide) ?_
    exact W.iret (v := (-101)) hx hb hr (fun t ht hW => ⟨_, rfl, h, ht⟩) (fun _ hq => by cases hq) dX8_tree_10
def wp_d_counter (p1 : Int32) (p2 : Int32) (d_m : Int32) (d_counterKey : Nat → Int32) (d_counterCount : Nat → Int32) (d_counterError : Nat → Int32) (post : Int32 → Prop) : Prop := wp_d_in p1.toInt64 0 ((d_m - 1).toInt64) (fun (r1 : Int32) => (r1 = 0 → post (-102)) ∧ (¬ r1 = 0 → wp_d_in p2.toInt64 0 2 (fun (r3 : Int32) => (¬ r3 = 0 → (¬ p2 = 0 → (¬ p2 = 1 → vp_in p1 12 ∧ (post (d_counterError p1.toNatClampNeg))) ∧ (p2 = 1 → vp_in p1 12 ∧ (post (d_counterCount p1.toNatClampNeg)))) ∧ (p2 = 0 → vp_in p1 12 ∧ (post (d_counterKey p1.toNatClampNeg)))) ∧ (r3 = 0 → post (-102)))))
theorem mm_d_counter : hk_MV yX8_counter cX8_counter 3 (some .int) 2 := ⟨hw_1020, hw_1018, hw_1019, hw_87, by decide +kernel⟩
set_option maxRecDepth 100000 in
set_option maxHeartbeats 4000000 in
theorem c_d_counter (l : Launch) (D : va_G) (cI cJ cZ cM : ClassId) (h_d : Nat) (a_d : Nat → Nat)  (d_p : Int32) (d_r : Int32) (d_t : Int32) (d_slack : Int32) (d_m : Int32) (d_folds : Int32) (d_kinds : Nat → Int32) (d_declared : Nat → Int32) (d_states : Nat → Int64) (d_lastRow : Nat → Int32) (d_lastValue : Nat → Int32) (d_hasValue : Nat → Int32) (d_touched : Nat → Int32) (d_parts : Nat → Int32) (d_rows : Int32) (d_inRound : Int32) (d_rounds : Int32) (d_flips : Int32) (d_passed : Int32) (d_matches : Int32) (d_moved : Int32) (d_time : Int32) (d_out : Int64) (d_loads : Nat → Int32) (d_counterKey : Nat → Int32) (d_counterCount : Nat → Int32) (d_counterError : Nat → Int32) (d_smalls : Int32) (d_smallKey : Nat → Int32) (d_smallWeight : Nat → Int32) (d_timers : Int32) (d_timerKey : Nat → Int32) (d_timerTime : Nat → Int32) (d_logged : Int32) (d_logKey : Nat → Int32) (d_logTime : Nat → Int32) (d_logState : Nat → Int64) (d_marks : Int32) (d_markState : Nat → Int64) (d_markValue : Nat → Int32) (d_markHas : Nat → Int32) (d_markSmalls : Nat → Int32) (d_markSmallKey : Nat → Int32) (d_markSmallWeight : Nat → Int32) (d_markTimers : Nat → Int32) (d_markTimerKey : Nat → Int32) (d_markTimerTime : Nat → Int32) (d_markTime : Nat → Int32) (d_markRows : Nat → Int32) (d_markMatches : Nat → Int32) (d_markOut : Nat → Int64) (d_comes : Nat → Int64) (p1 : Int32) (p2 : Int32) (post : Int32 → Prop) (h : wp_d_counter p1 p2 d_m d_counterKey d_counterCount d_counterError post) : Met l yX8_counter (hk_ws yX8_counter cX8_counter 3 (some .int)) (hk_rm 1 25) (va_Pc [.ref h_d, .int p1, .int p2] (hk_PR D (hk_ty cI cJ cZ cM) (wv_d cI cJ cZ cM h_d a_d d_p d_r d_t d_slack d_m d_folds d_kinds d_declared d_states d_lastRow d_lastValue d_hasValue d_touched d_parts d_rows d_inRound d_rounds d_flips d_passed d_matches d_moved d_time d_out d_loads d_counterKey d_counterCount d_counterError d_smalls d_smallKey d_smallWeight d_timers d_timerKey d_timerTime d_logged d_logKey d_logTime d_logState d_marks d_markState d_markValue d_markHas d_markSmalls d_markSmallKey d_markSmallWeight d_markTimers d_markTimerKey d_markTimerTime d_markTime d_markRows d_markMatches d_markOut d_comes))) (vp_Si post) 0 0 (fun _ => False) := by
  refine Met.ofW (cc := cX8_counter) (maxL := 3) (ret := (some .int)) (by decide) rfl ?_
  intro p e s m args below meth c s₁ B hml hv
  obtain ⟨rfl, hP, hK, hN⟩ := hv
  have hx := B.exec
  have hb := B.bytes
  have hr := B.returns
  have hts := atoms_spec (ws := hk_ws yX8_counter cX8_counter 3 (some .int)) B.pre
  have hta : ∀ w ∈ hk_all, w.before ([.ref h_d, .int p1, .int p2] : List Value).toArray s = true := fun w hw => hts w (List.mem_cons_of_mem _ hw)
  have hown : s.vm.findClass RX8 = some m.cls := findClass_of_methodNamed B.named
  have hlocks := B.notSynchronized
  have S0 : CallFix p m c cX8_counter 3 s ([.ref h_d, .int p1, .int p2] : List Value).toArray hk_all RX8 := ⟨hx, hb, hml, hown, hta⟩
  have hl := lv_entry ([.ref h_d, .int p1, .int p2]) (n := 3) (Nat.le_of_ble_eq_true rfl)
  rw [lg_entry_eq]
  generalize (lg_sl ([.ref h_d, .int p1, .int p2]) ++ List.replicate (3 - (lg_sl ([.ref h_d, .int p1, .int p2])).length) Slot.unset).toArray = ls at hl ⊢
  have hl : lv_has ls 3 [(0, .ref h_d), (1, .int p1), (2, .int p2)] := hl
  unfold wp_d_counter at h
  refine lv_iload_n hx hb dX8_counter_0 rfl (lv_at hl 1 rfl) ?_
  refine lv_i2l (v := p1.toInt64) hx hb dX8_counter_1 rfl ?_
  refine lv_lconst (v := 0) hx hb dX8_counter_2 (by decide) ?_
  refine lv_aload_n hx hb dX8_counter_3 rfl (lv_at hl 0 rfl) ?_
  refine va_get (D := D) (ci := 8) (v := .int d_m) (C := RX8) (T := TX8) (N := 52) hx hb hta ih_X8 hown hK hP 0 rfl rfl 4 (by decide) (hta _ hw_750) (fun _ h9 => h9) rfl dX8_counter_4 ?_
  refine lv_iconst (v := 1) hx hb dX8_counter_7 (by decide) ?_
  refine lv_isub hx hb dX8_counter_8 ?_
  refine lv_i2l (v := (d_m - 1).toInt64) hx hb dX8_counter_9 rfl ?_
  refine vp_callSi (hk_runS (As := [.long p1.toInt64, .long 0, .long ((d_m - 1).toInt64)]) (rest := []) S0 mm_d_in (c_d_in l D cI cJ cZ cM p1.toInt64 0 ((d_m - 1).toInt64) _ h) hw_909 hk_blR (hk_atR (hP.sub (ws' := ([] : va_W)) [] rfl) hK hN) ⟨rfl, rfl, Nat.le_of_ble_eq_true rfl, Nat.le_of_ble_eq_true rfl⟩ rfl hl.1 rfl (Nat.le_of_ble_eq_true rfl) dX8_counter_10 ⟨Nat.le_of_ble_eq_true rfl, Nat.le_of_ble_eq_true rfl⟩).run (fun r1 h => ?_)
  refine lv_if_eq (tgt := 28) hx hb dX8_counter_13 (by decide) (fun c2 => ?_) (fun c2 => ?_)
  · have h := h.1 c2
    refine lv_bipush (v := (-102)) hx hb dX8_counter_28 (by decide) ?_
    exact W.iret (v := (-102)) hx hb hr (fun t ht hW => ⟨_, rfl, h, ht⟩) (fun _ hq => by cases hq) dX8_counter_30
  · have h := h.2 c2
    refine lv_iload_n hx hb dX8_counter_16 rfl (lv_at hl 2 rfl) ?_
    refine lv_i2l (v := p2.toInt64) hx hb dX8_counter_17 rfl ?_
    refine lv_lconst (v := 0) hx hb dX8_counter_18 (by decide) ?_
    refine lv_ldc2 (v := 2) hx hb hown (hta _ hw_907) dX8_counter_19 ?_
    refine vp_callSi (hk_runS (As := [.long p2.toInt64, .long 0, .long 2]) (rest := []) S0 mm_d_in (c_d_in l D cI cJ cZ cM p2.toInt64 0 2 _ h) hw_909 hk_blR (hk_atR (hP.sub (ws' := ([] : va_W)) [] rfl) hK hN) ⟨rfl, rfl, Nat.le_of_ble_eq_true rfl, Nat.le_of_ble_eq_true rfl⟩ rfl hl.1 rfl (Nat.le_of_ble_eq_true rfl) dX8_counter_22 ⟨Nat.le_of_ble_eq_true rfl, Nat.le_of_ble_eq_true rfl⟩).run (fun r3 h => ?_)
    refine lv_if_ne (tgt := 31) hx hb dX8_counter_25 (by decide) (fun c4 => ?_) (fun c4 => ?_)
    · have h := h.1 c4
      refine lv_iload_n hx hb dX8_counter_31 rfl (lv_at hl 2 rfl) ?_
      refine lv_if_ne (tgt := 44) hx hb dX8_counter_32 (by decide) (fun c5 => ?_) (fun c5 => ?_)
      · have h := h.1 c5
        refine lv_iload_n hx hb dX8_counter_44 rfl (lv_at hl 2 rfl) ?_
        refine lv_iconst (v := 1) hx hb dX8_counter_45 (by decide) ?_
        refine lv_icmp_ne (tgt := 58) hx hb dX8_counter_46 (by decide) (fun c6 => ?_) (fun c6 => ?_)
        · have h := h.1 c6
          refine lv_aload_n hx hb dX8_counter_58 rfl (lv_at hl 0 rfl) ?_
          refine va_get (D := D) (ci := 8) (v := .ref (a_d 26)) (C := RX8) (T := TX8) (N := 52) hx hb hta ih_X8 hown hK hP 0 rfl rfl 26 (by decide) (hta _ hw_772) (fun _ h9 => h9) rfl dX8_counter_59 ?_
          refine lv_iload_n hx hb dX8_counter_62 rfl (lv_at hl 1 rfl) ?_
          refine va_iald hx hb hK hP 12 0 rfl rfl h.1 dX8_counter_63 ?_
          have h := h.2
          exact W.iret (v := d_counterError p1.toNatClampNeg) hx hb hr (fun t ht hW => ⟨_, rfl, h, ht⟩) (fun _ hq => by cases hq) dX8_counter_64
        · have h := h.2 c6
          refine lv_aload_n hx hb dX8_counter_49 rfl (lv_at hl 0 rfl) ?_
          refine va_get (D := D) (ci := 8) (v := .ref (a_d 25)) (C := RX8) (T := TX8) (N := 52) hx hb hta ih_X8 hown hK hP 0 rfl rfl 25 (by decide) (hta _ hw_771) (fun _ h9 => h9) rfl dX8_counter_50 ?_
          refine lv_iload_n hx hb dX8_counter_53 rfl (lv_at hl 1 rfl) ?_
          refine va_iald hx hb hK hP 11 0 rfl rfl h.1 dX8_counter_54 ?_
          have h := h.2
          refine lv_goto (tgt := 64) hx hb dX8_counter_55 (by decide) ?_
          exact W.iret (v := d_counterCount p1.toNatClampNeg) hx hb hr (fun t ht hW => ⟨_, rfl, h, ht⟩) (fun _ hq => by cases hq) dX8_counter_64
      · have h := h.2 c5
        refine lv_aload_n hx hb dX8_counter_35 rfl (lv_at hl 0 rfl) ?_
        refine va_get (D := D) (ci := 8) (v := .ref (a_d 24)) (C := RX8) (T := TX8) (N := 52) hx hb hta ih_X8 hown hK hP 0 rfl rfl 24 (by decide) (hta _ hw_770) (fun _ h9 => h9) rfl dX8_counter_36 ?_
        refine lv_iload_n hx hb dX8_counter_39 rfl (lv_at hl 1 rfl) ?_
        refine va_iald hx hb hK hP 10 0 rfl rfl h.1 dX8_counter_40 ?_
        have h := h.2
        refine lv_goto (tgt := 64) hx hb dX8_counter_41 (by decide) ?_
        exact W.iret (v := d_counterKey p1.toNatClampNeg) hx hb hr (fun t ht hW => ⟨_, rfl, h, ht⟩) (fun _ hq => by cases hq) dX8_counter_64
    · have h := h.2 c4
      refine lv_bipush (v := (-102)) hx hb dX8_counter_28 (by decide) ?_
      exact W.iret (v := (-102)) hx hb hr (fun t ht hW => ⟨_, rfl, h, ht⟩) (fun _ hq => by cases hq) dX8_counter_30
def wp_d_hot (p1 : Int32) (d_t : Int32) (d_m : Int32) (d_counterKey : Nat → Int32) (d_counterCount : Nat → Int32) (d_counterError : Nat → Int32) (post : Int32 → Prop) : Prop := wp_d_noKey p1 (fun (r1 : Int32) => (r1 = 0 → wp_d_counterOf p1 d_m d_counterKey (fun (r3 : Int32) => (r3 < 0 → wp_d_weakest d_m d_counterKey d_counterCount (fun (r5 : Int32) => vp_in r5 12 ∧ (((d_counterKey r5.toNatClampNeg) = (-1) → post 0) ∧ (¬ (d_counterKey r5.toNatClampNeg) = (-1) → vp_in r5 12 ∧ (((d_counterCount r5.toNatClampNeg) < d_t → post 0) ∧ (¬ (d_counterCount r5.toNatClampNeg) < d_t → post 1)))))) ∧ (¬ r3 < 0 → vp_in r3 12 ∧ (vp_in r3 12 ∧ ((((d_counterCount r3.toNatClampNeg) - (d_counterError r3.toNatClampNeg)) < d_t → vp_in r3 12 ∧ (((d_counterCount r3.toNatClampNeg) < d_t → post 0) ∧ (¬ (d_counterCount r3.toNatClampNeg) < d_t → post 1))) ∧ (¬ ((d_counterCount r3.toNatClampNeg) - (d_counterError r3.toNatClampNeg)) < d_t → post 2)))))) ∧ (¬ r1 = 0 → post (-101)))
theorem mm_d_hot : hk_MV yX8_hot cX8_hot 4 (some .int) 1 := ⟨hw_1024, hw_1022, hw_1023, hw_87, by decide +kernel⟩
set_option maxRecDepth 100000 in
set_option maxHeartbeats 4000000 in
theorem c_d_hot (l : Launch) (D : va_G) (cI cJ cZ cM : ClassId) (h_d : Nat) (a_d : Nat → Nat)  (d_p : Int32) (d_r : Int32) (d_t : Int32) (d_slack : Int32) (d_m : Int32) (d_folds : Int32) (d_kinds : Nat → Int32) (d_declared : Nat → Int32) (d_states : Nat → Int64) (d_lastRow : Nat → Int32) (d_lastValue : Nat → Int32) (d_hasValue : Nat → Int32) (d_touched : Nat → Int32) (d_parts : Nat → Int32) (d_rows : Int32) (d_inRound : Int32) (d_rounds : Int32) (d_flips : Int32) (d_passed : Int32) (d_matches : Int32) (d_moved : Int32) (d_time : Int32) (d_out : Int64) (d_loads : Nat → Int32) (d_counterKey : Nat → Int32) (d_counterCount : Nat → Int32) (d_counterError : Nat → Int32) (d_smalls : Int32) (d_smallKey : Nat → Int32) (d_smallWeight : Nat → Int32) (d_timers : Int32) (d_timerKey : Nat → Int32) (d_timerTime : Nat → Int32) (d_logged : Int32) (d_logKey : Nat → Int32) (d_logTime : Nat → Int32) (d_logState : Nat → Int64) (d_marks : Int32) (d_markState : Nat → Int64) (d_markValue : Nat → Int32) (d_markHas : Nat → Int32) (d_markSmalls : Nat → Int32) (d_markSmallKey : Nat → Int32) (d_markSmallWeight : Nat → Int32) (d_markTimers : Nat → Int32) (d_markTimerKey : Nat → Int32) (d_markTimerTime : Nat → Int32) (d_markTime : Nat → Int32) (d_markRows : Nat → Int32) (d_markMatches : Nat → Int32) (d_markOut : Nat → Int64) (d_comes : Nat → Int64) (p1 : Int32) (post : Int32 → Prop) (h : wp_d_hot p1 d_t d_m d_counterKey d_counterCount d_counterError post) : Met l yX8_hot (hk_ws yX8_hot cX8_hot 4 (some .int)) (hk_rm 2 46) (va_Pc [.ref h_d, .int p1] (hk_PR D (hk_ty cI cJ cZ cM) (wv_d cI cJ cZ cM h_d a_d d_p d_r d_t d_slack d_m d_folds d_kinds d_declared d_states d_lastRow d_lastValue d_hasValue d_touched d_parts d_rows d_inRound d_rounds d_flips d_passed d_matches d_moved d_time d_out d_loads d_counterKey d_counterCount d_counterError d_smalls d_smallKey d_smallWeight d_timers d_timerKey d_timerTime d_logged d_logKey d_logTime d_logState d_marks d_markState d_markValue d_markHas d_markSmalls d_markSmallKey d_markSmallWeight d_markTimers d_markTimerKey d_markTimerTime d_markTime d_markRows d_markMatches d_markOut d_comes))) (vp_Si post) 0 0 (fun _ => False) := by
  refine Met.ofW (cc := cX8_hot) (maxL := 4) (ret := (some .int)) (by decide) rfl ?_
  intro p e s m args below meth c s₁ B hml hv
  obtain ⟨rfl, hP, hK, hN⟩ := hv
  have hx := B.exec
  have hb := B.bytes
  have hr := B.returns
  have hts := atoms_spec (ws := hk_ws yX8_hot cX8_hot 4 (some .int)) B.pre
  have hta : ∀ w ∈ hk_all, w.before ([.ref h_d, .int p1] : List Value).toArray s = true := fun w hw => hts w (List.mem_cons_of_mem _ hw)
  have hown : s.vm.findClass RX8 = some m.cls := findClass_of_methodNamed B.named
  have hlocks := B.notSynchronized
  have S0 : CallFix p m c cX8_hot 4 s ([.ref h_d, .int p1] : List Value).toArray hk_all RX8 := ⟨hx, hb, hml, hown, hta⟩
  have hl := lv_entry ([.ref h_d, .int p1]) (n := 4) (Nat.le_of_ble_eq_true rfl)
  rw [lg_entry_eq]
  generalize (lg_sl ([.ref h_d, .int p1]) ++ List.replicate (4 - (lg_sl ([.ref h_d, .int p1])).length) Slot.unset).toArray = ls at hl ⊢
  have hl : lv_has ls 4 [(0, .ref h_d), (1, .int p1)] := hl
  unfold wp_d_hot at h
  refine lv_aload_n hx hb dX8_hot_0 rfl (lv_at hl 0 rfl) ?_
  refine lv_iload_n hx hb dX8_hot_1 rfl (lv_at hl 1 rfl) ?_
  refine vp_callSi (hk_runV (As := [.int p1]) (rest := []) S0 mm_d_noKey (c_d_noKey l D cI cJ cZ cM h_d a_d d_p d_r d_t d_slack d_m d_folds d_kinds d_declared d_states d_lastRow d_lastValue d_hasValue d_touched d_parts d_rows d_inRound d_rounds d_flips d_passed d_matches d_moved d_time d_out d_loads d_counterKey d_counterCount d_counterError d_smalls d_smallKey d_smallWeight d_timers d_timerKey d_timerTime d_logged d_logKey d_logTime d_logState d_marks d_markState d_markValue d_markHas d_markSmalls d_markSmallKey d_markSmallWeight d_markTimers d_markTimerKey d_markTimerTime d_markTime d_markRows d_markMatches d_markOut d_comes p1 _ h) hw_926 hk_blR (hk_atR hP hK hN) (va_recv hK hP (ci := 8) (q0 := 0) rfl rfl) ⟨rfl, rfl, Nat.le_of_ble_eq_true rfl, Nat.le_of_ble_eq_true rfl⟩ rfl hl.1 rfl (Nat.le_of_ble_eq_true rfl) dX8_hot_2 ⟨Nat.le_of_ble_eq_true rfl, Nat.le_of_ble_eq_true rfl⟩).run (fun r1 h => ?_)
  refine lv_if_eq (tgt := 11) hx hb dX8_hot_5 (by decide) (fun c2 => ?_) (fun c2 => ?_)
  · have h := h.1 c2
    refine lv_aload_n hx hb dX8_hot_11 rfl (lv_at hl 0 rfl) ?_
    refine lv_iload_n hx hb dX8_hot_12 rfl (lv_at hl 1 rfl) ?_
    refine vp_callSi (hk_runV (As := [.int p1]) (rest := []) S0 mm_d_counterOf (c_d_counterOf l D cI cJ cZ cM h_d a_d d_p d_r d_t d_slack d_m d_folds d_kinds d_declared d_states d_lastRow d_lastValue d_hasValue d_touched d_parts d_rows d_inRound d_rounds d_flips d_passed d_matches d_moved d_time d_out d_loads d_counterKey d_counterCount d_counterError d_smalls d_smallKey d_smallWeight d_timers d_timerKey d_timerTime d_logged d_logKey d_logTime d_logState d_marks d_markState d_markValue d_markHas d_markSmalls d_markSmallKey d_markSmallWeight d_markTimers d_markTimerKey d_markTimerTime d_markTime d_markRows d_markMatches d_markOut d_comes p1 _ h) hw_954 hk_blR (hk_atR hP hK hN) (va_recv hK hP (ci := 8) (q0 := 0) rfl rfl) ⟨rfl, rfl, Nat.le_of_ble_eq_true rfl, Nat.le_of_ble_eq_true rfl⟩ rfl hl.1 rfl (Nat.le_of_ble_eq_true rfl) dX8_hot_13 ⟨Nat.le_of_ble_eq_true rfl, Nat.le_of_ble_eq_true rfl⟩).run (fun r3 h => ?_)
    refine lv_istore_n (lv' := [(2, .int r3), (0, .ref h_d), (1, .int p1)]) hx hb dX8_hot_16 rfl hl (by decide) rfl (fun ls hl => ?_)
    refine lv_iload_n hx hb dX8_hot_17 rfl (lv_at hl 0 rfl) ?_
    refine lv_if_lt (tgt := 64) hx hb dX8_hot_18 (by decide) (fun c4 => ?_) (fun c4 => ?_)
    · have h := h.1 c4
      refine lv_aload_n hx hb dX8_hot_64 rfl (lv_at hl 1 rfl) ?_
      refine vp_callSi (hk_runV (As := []) (rest := []) S0 mm_d_weakest (c_d_weakest l D cI cJ cZ cM h_d a_d d_p d_r d_t d_slack d_m d_folds d_kinds d_declared d_states d_lastRow d_lastValue d_hasValue d_touched d_parts d_rows d_inRound d_rounds d_flips d_passed d_matches d_moved d_time d_out d_loads d_counterKey d_counterCount d_counterError d_smalls d_smallKey d_smallWeight d_timers d_timerKey d_timerTime d_logged d_logKey d_logTime d_logState d_marks d_markState d_markValue d_markHas d_markSmalls d_markSmallKey d_markSmallWeight d_markTimers d_markTimerKey d_markTimerTime d_markTime d_markRows d_markMatches d_markOut d_comes _ h) hw_958 hk_blR (hk_atR hP hK hN) (va_recv hK hP (ci := 8) (q0 := 0) rfl rfl) ⟨rfl, rfl, Nat.le_of_ble_eq_true rfl, Nat.le_of_ble_eq_true rfl⟩ rfl hl.1 rfl (Nat.le_of_ble_eq_true rfl) dX8_hot_65 ⟨Nat.le_of_ble_eq_true rfl, Nat.le_of_ble_eq_true rfl⟩).run (fun r5 h => ?_)
      refine lv_istore_n (lv' := [(3, .int r5), (2, .int r3), (0, .ref h_d), (1, .int p1)]) hx hb dX8_hot_68 rfl hl (by decide) rfl (fun ls hl => ?_)
      refine lv_aload_n hx hb dX8_hot_69 rfl (lv_at hl 2 rfl) ?_
      refine va_get (D := D) (ci := 8) (v := .ref (a_d 24)) (C := RX8) (T := TX8) (N := 52) hx hb hta ih_X8 hown hK hP 0 rfl rfl 24 (by decide) (hta _ hw_770) (fun _ h9 => h9) rfl dX8_hot_70 ?_
      refine lv_iload_n hx hb dX8_hot_73 rfl (lv_at hl 0 rfl) ?_
      refine va_iald hx hb hK hP 10 0 rfl rfl h.1 dX8_hot_74 ?_
      have h := h.2
      refine lv_iconst (v := (-1)) hx hb dX8_hot_75 (by decide) ?_
      refine lv_icmp_eq (tgt := 96) hx hb dX8_hot_76 (by decide) (fun c6 => ?_) (fun c6 => ?_)
      · have h := h.1 c6
        refine lv_iconst (v := 0) hx hb dX8_hot_96 (by decide) ?_
        exact W.iret (v := 0) hx hb hr (fun t ht hW => ⟨_, rfl, h, ht⟩) (fun _ hq => by cases hq) dX8_hot_97
      · have h := h.2 c6
        refine lv_aload_n hx hb dX8_hot_79 rfl (lv_at hl 2 rfl) ?_
        refine va_get (D := D) (ci := 8) (v := .ref (a_d 25)) (C := RX8) (T := TX8) (N := 52) hx hb hta ih_X8 hown hK hP 0 rfl rfl 25 (by decide) (hta _ hw_771) (fun _ h9 => h9) rfl dX8_hot_80 ?_
        refine lv_iload_n hx hb dX8_hot_83 rfl (lv_at hl 0 rfl) ?_
        refine va_iald hx hb hK hP 11 0 rfl rfl h.1 dX8_hot_84 ?_
        have h := h.2
        refine lv_aload_n hx hb dX8_hot_85 rfl (lv_at hl 2 rfl) ?_
        refine va_get (D := D) (ci := 8) (v := .int d_t) (C := RX8) (T := TX8) (N := 52) hx hb hta ih_X8 hown hK hP 0 rfl rfl 2 (by decide) (hta _ hw_748) (fun _ h9 => h9) rfl dX8_hot_86 ?_
        refine lv_icmp_lt (tgt := 96) hx hb dX8_hot_89 (by decide) (fun c7 => ?_) (fun c7 => ?_)
        · have h := h.1 c7
          refine lv_iconst (v := 0) hx hb dX8_hot_96 (by decide) ?_
          exact W.iret (v := 0) hx hb hr (fun t ht hW => ⟨_, rfl, h, ht⟩) (fun _ hq => by cases hq) dX8_hot_97
        · have h := h.2 c7
          refine lv_iconst (v := 1) hx hb dX8_hot_92 (by decide) ?_
          refine lv_goto (tgt := 97) hx hb dX8_hot_93 (by decide) ?_
          exact W.iret (v := 1) hx hb hr (fun t ht hW => ⟨_, rfl, h, ht⟩) (fun _ hq => by cases hq) dX8_hot_97
    · have h := h.2 c4
      refine lv_aload_n hx hb dX8_hot_21 rfl (lv_at hl 1 rfl) ?_
      refine va_get (D := D) (ci := 8) (v := .ref (a_d 25)) (C := RX8) (T := TX8) (N := 52) hx hb hta ih_X8 hown hK hP 0 rfl rfl 25 (by decide) (hta _ hw_771) (fun _ h9 => h9) rfl dX8_hot_22 ?_
      refine lv_iload_n hx hb dX8_hot_25 rfl (lv_at hl 0 rfl) ?_
      refine va_iald hx hb hK hP 11 0 rfl rfl h.1 dX8_hot_26 ?_
      have h := h.2
      refine lv_aload_n hx hb dX8_hot_27 rfl (lv_at hl 1 rfl) ?_
      refine va_get (D := D) (ci := 8) (v := .ref (a_d 26)) (C := RX8) (T := TX8) (N := 52) hx hb hta ih_X8 hown hK hP 0 rfl rfl 26 (by decide) (hta _ hw_772) (fun _ h9 => h9) rfl dX8_hot_28 ?_
      refine lv_iload_n hx hb dX8_hot_31 rfl (lv_at hl 0 rfl) ?_
      refine va_iald hx hb hK hP 12 0 rfl rfl h.1 dX8_hot_32 ?_
      have h := h.2
      refine lv_isub hx hb dX8_hot_33 ?_
      refine lv_aload_n hx hb dX8_hot_34 rfl (lv_at hl 1 rfl) ?_
      refine va_get (D := D) (ci := 8) (v := .int d_t) (C := RX8) (T := TX8) (N := 52) hx hb hta ih_X8 hown hK hP 0 rfl rfl 2 (by decide) (hta _ hw_748) (fun _ h9 => h9) rfl dX8_hot_35 ?_
      refine lv_icmp_lt (tgt := 45) hx hb dX8_hot_38 (by decide) (fun c8 => ?_) (fun c8 => ?_)
      · have h := h.1 c8
        refine lv_aload_n hx hb dX8_hot_45 rfl (lv_at hl 1 rfl) ?_
        refine va_get (D := D) (ci := 8) (v := .ref (a_d 25)) (C := RX8) (T := TX8) (N := 52) hx hb hta ih_X8 hown hK hP 0 rfl rfl 25 (by decide) (hta _ hw_771) (fun _ h9 => h9) rfl dX8_hot_46 ?_
        refine lv_iload_n hx hb dX8_hot_49 rfl (lv_at hl 0 rfl) ?_
        refine va_iald hx hb hK hP 11 0 rfl rfl h.1 dX8_hot_50 ?_
        have h := h.2
        refine lv_aload_n hx hb dX8_hot_51 rfl (lv_at hl 1 rfl) ?_
        refine va_get (D := D) (ci := 8) (v := .int d_t) (C := RX8) (T := TX8) (N := 52) hx hb hta ih_X8 hown hK hP 0 rfl rfl 2 (by decide) (hta _ hw_748) (fun _ h9 => h9) rfl dX8_hot_52 ?_
        refine lv_icmp_lt (tgt := 62) hx hb dX8_hot_55 (by decide) (fun c9 => ?_) (fun c9 => ?_)
        · have h := h.1 c9
          refine lv_iconst (v := 0) hx hb dX8_hot_62 (by decide) ?_
          exact W.iret (v := 0) hx hb hr (fun t ht hW => ⟨_, rfl, h, ht⟩) (fun _ hq => by cases hq) dX8_hot_63
        · have h := h.2 c9
          refine lv_iconst (v := 1) hx hb dX8_hot_58 (by decide) ?_
          refine lv_goto (tgt := 63) hx hb dX8_hot_59 (by decide) ?_
          exact W.iret (v := 1) hx hb hr (fun t ht hW => ⟨_, rfl, h, ht⟩) (fun _ hq => by cases hq) dX8_hot_63
      · have h := h.2 c8
        refine lv_iconst (v := 2) hx hb dX8_hot_41 (by decide) ?_
        refine lv_goto (tgt := 63) hx hb dX8_hot_42 (by decide) ?_
        exact W.iret (v := 2) hx hb hr (fun t ht hW => ⟨_, rfl, h, ht⟩) (fun _ hq => by cases hq) dX8_hot_63
  · have h := h.2 c2
    refine lv_bipush (v := (-101)) hx hb dX8_hot_8 (by decide) ?_
    exact W.iret (v := (-101)) hx hb hr (fun t ht hW => ⟨_, rfl, h, ht⟩) (fun _ hq => by cases hq) dX8_hot_10
def wb_d_splitKey_4 (d_parts : Nat → Int32) (p1 : Int32) (post : Int32 → Prop) (K4 : (Int32 × Int32) → Prop) (v1 : Int32 × Int32) : Prop := (100 ≤ v1.2 → post (-1)) ∧ (¬ 100 ≤ v1.2 → vp_in v1.2 100 ∧ (((d_parts v1.2.toNatClampNeg) ≤ 1 → ∀ x4 : Int32, x4 = v1.2 + 1 → K4 (v1.1, x4)) ∧ (¬ (d_parts v1.2.toNatClampNeg) ≤ 1 → (¬ v1.1 = p1 → ∀ x6 : Int32, x6 = v1.1 + 1 → ∀ x7 : Int32, x7 = v1.2 + 1 → K4 (x6, x7)) ∧ (v1.1 = p1 → post v1.2))))
def wp_d_splitKey (p1 : Int32) (d_parts : Nat → Int32) (post : Int32 → Prop) : Prop := ∃ n, hk_lp (wb_d_splitKey_4 d_parts p1 post) n (0, 0)
theorem mm_d_splitKey : hk_MV yX8_splitKey cX8_splitKey 4 (some .int) 1 := ⟨hw_1028, hw_1026, hw_1027, hw_87, by decide +kernel⟩
set_option maxRecDepth 100000 in
set_option maxHeartbeats 4000000 in
theorem c_d_splitKey (l : Launch) (D : va_G) (cI cJ cZ cM : ClassId) (h_d : Nat) (a_d : Nat → Nat)  (d_p : Int32) (d_r : Int32) (d_t : Int32) (d_slack : Int32) (d_m : Int32) (d_folds : Int32) (d_kinds : Nat → Int32) (d_declared : Nat → Int32) (d_states : Nat → Int64) (d_lastRow : Nat → Int32) (d_lastValue : Nat → Int32) (d_hasValue : Nat → Int32) (d_touched : Nat → Int32) (d_parts : Nat → Int32) (d_rows : Int32) (d_inRound : Int32) (d_rounds : Int32) (d_flips : Int32) (d_passed : Int32) (d_matches : Int32) (d_moved : Int32) (d_time : Int32) (d_out : Int64) (d_loads : Nat → Int32) (d_counterKey : Nat → Int32) (d_counterCount : Nat → Int32) (d_counterError : Nat → Int32) (d_smalls : Int32) (d_smallKey : Nat → Int32) (d_smallWeight : Nat → Int32) (d_timers : Int32) (d_timerKey : Nat → Int32) (d_timerTime : Nat → Int32) (d_logged : Int32) (d_logKey : Nat → Int32) (d_logTime : Nat → Int32) (d_logState : Nat → Int64) (d_marks : Int32) (d_markState : Nat → Int64) (d_markValue : Nat → Int32) (d_markHas : Nat → Int32) (d_markSmalls : Nat → Int32) (d_markSmallKey : Nat → Int32) (d_markSmallWeight : Nat → Int32) (d_markTimers : Nat → Int32) (d_markTimerKey : Nat → Int32) (d_markTimerTime : Nat → Int32) (d_markTime : Nat → Int32) (d_markRows : Nat → Int32) (d_markMatches : Nat → Int32) (d_markOut : Nat → Int64) (d_comes : Nat → Int64) (p1 : Int32) (post : Int32 → Prop) (h : wp_d_splitKey p1 d_parts post) : Met l yX8_splitKey (hk_ws yX8_splitKey cX8_splitKey 4 (some .int)) (hk_rm 0 0) (va_Pc [.ref h_d, .int p1] (hk_PR D (hk_ty cI cJ cZ cM) (wv_d cI cJ cZ cM h_d a_d d_p d_r d_t d_slack d_m d_folds d_kinds d_declared d_states d_lastRow d_lastValue d_hasValue d_touched d_parts d_rows d_inRound d_rounds d_flips d_passed d_matches d_moved d_time d_out d_loads d_counterKey d_counterCount d_counterError d_smalls d_smallKey d_smallWeight d_timers d_timerKey d_timerTime d_logged d_logKey d_logTime d_logState d_marks d_markState d_markValue d_markHas d_markSmalls d_markSmallKey d_markSmallWeight d_markTimers d_markTimerKey d_markTimerTime d_markTime d_markRows d_markMatches d_markOut d_comes))) (vp_Si post) 0 0 (fun _ => False) := by
  refine Met.ofW (cc := cX8_splitKey) (maxL := 4) (ret := (some .int)) (by decide) rfl ?_
  intro p e s m args below meth c s₁ B hml hv
  obtain ⟨rfl, hP, hK, hN⟩ := hv
  have hx := B.exec
  have hb := B.bytes
  have hr := B.returns
  have hts := atoms_spec (ws := hk_ws yX8_splitKey cX8_splitKey 4 (some .int)) B.pre
  have hta : ∀ w ∈ hk_all, w.before ([.ref h_d, .int p1] : List Value).toArray s = true := fun w hw => hts w (List.mem_cons_of_mem _ hw)
  have hown : s.vm.findClass RX8 = some m.cls := findClass_of_methodNamed B.named
  have hlocks := B.notSynchronized
  have S0 : CallFix p m c cX8_splitKey 4 s ([.ref h_d, .int p1] : List Value).toArray hk_all RX8 := ⟨hx, hb, hml, hown, hta⟩
  have hl := lv_entry ([.ref h_d, .int p1]) (n := 4) (Nat.le_of_ble_eq_true rfl)
  rw [lg_entry_eq]
  generalize (lg_sl ([.ref h_d, .int p1]) ++ List.replicate (4 - (lg_sl ([.ref h_d, .int p1])).length) Slot.unset).toArray = ls at hl ⊢
  have hl : lv_has ls 4 [(0, .ref h_d), (1, .int p1)] := hl
  unfold wp_d_splitKey at h
  refine lv_iconst (v := 0) hx hb dX8_splitKey_0 (by decide) ?_
  refine lv_istore_n (lv' := [(2, .int 0), (0, .ref h_d), (1, .int p1)]) hx hb dX8_splitKey_1 rfl hl (by decide) rfl (fun ls hl => ?_)
  refine lv_iconst (v := 0) hx hb dX8_splitKey_2 (by decide) ?_
  refine lv_istore_n (lv' := [(3, .int 0), (2, .int 0), (0, .ref h_d), (1, .int p1)]) hx hb dX8_splitKey_3 rfl hl (by decide) rfl (fun ls hl => ?_)
  have P4 : ∀ (n : Nat) (v1 : Int32 × Int32) (ls : Array Slot), lv_has ls 4 [(0, .ref h_d), (1, .int p1), (2, .int v1.1), (3, .int v1.2)] → hk_lp (wb_d_splitKey_4 d_parts p1 post) n v1 → W p l e (headSpec (hk_ws yX8_splitKey cX8_splitKey 4 (some .int)) (hk_rm 0 0)).room s m ([.ref h_d, .int p1] : List Value).toArray below meth c s.heap [] 0 0 (MQ below (vp_Si post) ([.ref h_d, .int p1] : List Value).toArray s 0 0 (fun _ => False)) (F0 m 4 ls []) := by
    intro n
    induction n with
    | zero => intro v1 ls hl h; exact False.elim h
    | succ n ih4 =>
      intro v1 ls hl h
      have h : wb_d_splitKey_4 d_parts p1 post (hk_lp (wb_d_splitKey_4 d_parts p1 post) n) v1 := h
      generalize hk_lp (wb_d_splitKey_4 d_parts p1 post) n = K4 at h ih4
      unfold wb_d_splitKey_4 at h
      refine lv_iload_n hx hb dX8_splitKey_4 rfl (lv_at hl 3 rfl) ?_
      refine lv_bipush (v := 100) hx hb dX8_splitKey_5 (by decide) ?_
      refine lv_icmp_ge (tgt := 36) hx hb dX8_splitKey_7 (by decide) (fun c2 => ?_) (fun c2 => ?_)
      · have h := h.1 c2
        refine lv_iconst (v := (-1)) hx hb dX8_splitKey_36 (by decide) ?_
        exact W.iret (v := (-1)) hx hb hr (fun t ht hW => ⟨_, rfl, h, ht⟩) (fun _ hq => by cases hq) dX8_splitKey_37
      · have h := h.2 c2
        refine lv_aload_n hx hb dX8_splitKey_10 rfl (lv_at hl 0 rfl) ?_
        refine va_get (D := D) (ci := 8) (v := .ref (a_d 13)) (C := RX8) (T := TX8) (N := 52) hx hb hta ih_X8 hown hK hP 0 rfl rfl 13 (by decide) (hta _ hw_759) (fun _ h9 => h9) rfl dX8_splitKey_11 ?_
        refine lv_iload_n hx hb dX8_splitKey_14 rfl (lv_at hl 3 rfl) ?_
        refine va_iald hx hb hK hP 8 0 rfl rfl h.1 dX8_splitKey_15 ?_
        have h := h.2
        refine lv_iconst (v := 1) hx hb dX8_splitKey_16 (by decide) ?_
        refine lv_icmp_le (tgt := 30) hx hb dX8_splitKey_17 (by decide) (fun c3 => ?_) (fun c3 => ?_)
        · have h := h.1 c3
          obtain ⟨x4, ex4⟩ : ∃ y : Int32, y = v1.2 + 1 := ⟨_, rfl⟩
          have h := h x4 ex4
          refine lv_iinc (v := x4) (lv' := [(3, .int x4), (0, .ref h_d), (1, .int p1), (2, .int v1.1)]) hx hb dX8_splitKey_30 hl (k := 3) rfl (by rw [ex4]; rfl) (by decide) rfl (fun ls hl => ?_)
          refine lv_goto (tgt := 4) hx hb dX8_splitKey_33 (by decide) ?_
          exact ih4 (v1.1, x4) ls (lv_sub hl [1, 2, 3, 0] rfl) h
        · have h := h.2 c3
          refine lv_iload_n hx hb dX8_splitKey_20 rfl (lv_at hl 2 rfl) ?_
          refine lv_iload_n hx hb dX8_splitKey_21 rfl (lv_at hl 1 rfl) ?_
          refine lv_icmp_ne (tgt := 27) hx hb dX8_splitKey_22 (by decide) (fun c5 => ?_) (fun c5 => ?_)
          · have h := h.1 c5
            obtain ⟨x6, ex6⟩ : ∃ y : Int32, y = v1.1 + 1 := ⟨_, rfl⟩
            have h := h x6 ex6
            refine lv_iinc (v := x6) (lv' := [(2, .int x6), (0, .ref h_d), (1, .int p1), (3, .int v1.2)]) hx hb dX8_splitKey_27 hl (k := 2) rfl (by rw [ex6]; rfl) (by decide) rfl (fun ls hl => ?_)
            obtain ⟨x7, ex7⟩ : ∃ y : Int32, y = v1.2 + 1 := ⟨_, rfl⟩
            have h := h x7 ex7
            refine lv_iinc (v := x7) (lv' := [(3, .int x7), (2, .int x6), (0, .ref h_d), (1, .int p1)]) hx hb dX8_splitKey_30 hl (k := 3) rfl (by rw [ex7]; rfl) (by decide) rfl (fun ls hl => ?_)
            refine lv_goto (tgt := 4) hx hb dX8_splitKey_33 (by decide) ?_
            exact ih4 (x6, x7) ls (lv_sub hl [2, 3, 1, 0] rfl) h
          · have h := h.2 c5
            refine lv_iload_n hx hb dX8_splitKey_25 rfl (lv_at hl 3 rfl) ?_
            exact W.iret (v := v1.2) hx hb hr (fun t ht hW => ⟨_, rfl, h, ht⟩) (fun _ hq => by cases hq) dX8_splitKey_26
  obtain ⟨n, h⟩ := h
  exact P4 n (0, 0) ls (lv_sub hl [2, 3, 1, 0] rfl) h
def wp_d_load (p1 : Int32) (d_p : Int32) (d_loads : Nat → Int32) (post : Int32 → Prop) : Prop := wp_d_in p1.toInt64 0 ((d_p - 1).toInt64) (fun (r1 : Int32) => (r1 = 0 → post (-101)) ∧ (¬ r1 = 0 → vp_in p1 8 ∧ (post (d_loads p1.toNatClampNeg))))
theorem mm_d_load : hk_MV yX8_load cX8_load 2 (some .int) 1 := ⟨hw_1032, hw_1030, hw_1031, hw_87, by decide +kernel⟩
set_option maxRecDepth 100000 in
set_option maxHeartbeats 4000000 in
theorem c_d_load (l : Launch) (D : va_G) (cI cJ cZ cM : ClassId) (h_d : Nat) (a_d : Nat → Nat)  (d_p : Int32) (d_r : Int32) (d_t : Int32) (d_slack : Int32) (d_m : Int32) (d_folds : Int32) (d_kinds : Nat → Int32) (d_declared : Nat → Int32) (d_states : Nat → Int64) (d_lastRow : Nat → Int32) (d_lastValue : Nat → Int32) (d_hasValue : Nat → Int32) (d_touched : Nat → Int32) (d_parts : Nat → Int32) (d_rows : Int32) (d_inRound : Int32) (d_rounds : Int32) (d_flips : Int32) (d_passed : Int32) (d_matches : Int32) (d_moved : Int32) (d_time : Int32) (d_out : Int64) (d_loads : Nat → Int32) (d_counterKey : Nat → Int32) (d_counterCount : Nat → Int32) (d_counterError : Nat → Int32) (d_smalls : Int32) (d_smallKey : Nat → Int32) (d_smallWeight : Nat → Int32) (d_timers : Int32) (d_timerKey : Nat → Int32) (d_timerTime : Nat → Int32) (d_logged : Int32) (d_logKey : Nat → Int32) (d_logTime : Nat → Int32) (d_logState : Nat → Int64) (d_marks : Int32) (d_markState : Nat → Int64) (d_markValue : Nat → Int32) (d_markHas : Nat → Int32) (d_markSmalls : Nat → Int32) (d_markSmallKey : Nat → Int32) (d_markSmallWeight : Nat → Int32) (d_markTimers : Nat → Int32) (d_markTimerKey : Nat → Int32) (d_markTimerTime : Nat → Int32) (d_markTime : Nat → Int32) (d_markRows : Nat → Int32) (d_markMatches : Nat → Int32) (d_markOut : Nat → Int64) (d_comes : Nat → Int64) (p1 : Int32) (post : Int32 → Prop) (h : wp_d_load p1 d_p d_loads post) : Met l yX8_load (hk_ws yX8_load cX8_load 2 (some .int)) (hk_rm 1 25) (va_Pc [.ref h_d, .int p1] (hk_PR D (hk_ty cI cJ cZ cM) (wv_d cI cJ cZ cM h_d a_d d_p d_r d_t d_slack d_m d_folds d_kinds d_declared d_states d_lastRow d_lastValue d_hasValue d_touched d_parts d_rows d_inRound d_rounds d_flips d_passed d_matches d_moved d_time d_out d_loads d_counterKey d_counterCount d_counterError d_smalls d_smallKey d_smallWeight d_timers d_timerKey d_timerTime d_logged d_logKey d_logTime d_logState d_marks d_markState d_markValue d_markHas d_markSmalls d_markSmallKey d_markSmallWeight d_markTimers d_markTimerKey d_markTimerTime d_markTime d_markRows d_markMatches d_markOut d_comes))) (vp_Si post) 0 0 (fun _ => False) := by
  refine Met.ofW (cc := cX8_load) (maxL := 2) (ret := (some .int)) (by decide) rfl ?_
  intro p e s m args below meth c s₁ B hml hv
  obtain ⟨rfl, hP, hK, hN⟩ := hv
  have hx := B.exec
  have hb := B.bytes
  have hr := B.returns
  have hts := atoms_spec (ws := hk_ws yX8_load cX8_load 2 (some .int)) B.pre
  have hta : ∀ w ∈ hk_all, w.before ([.ref h_d, .int p1] : List Value).toArray s = true := fun w hw => hts w (List.mem_cons_of_mem _ hw)
  have hown : s.vm.findClass RX8 = some m.cls := findClass_of_methodNamed B.named
  have hlocks := B.notSynchronized
  have S0 : CallFix p m c cX8_load 2 s ([.ref h_d, .int p1] : List Value).toArray hk_all RX8 := ⟨hx, hb, hml, hown, hta⟩
  have hl := lv_entry ([.ref h_d, .int p1]) (n := 2) (Nat.le_of_ble_eq_true rfl)
  rw [lg_entry_eq]
  generalize (lg_sl ([.ref h_d, .int p1]) ++ List.replicate (2 - (lg_sl ([.ref h_d, .int p1])).length) Slot.unset).toArray = ls at hl ⊢
  have hl : lv_has ls 2 [(0, .ref h_d), (1, .int p1)] := hl
  unfold wp_d_load at h
  refine lv_iload_n hx hb dX8_load_0 rfl (lv_at hl 1 rfl) ?_
  refine lv_i2l (v := p1.toInt64) hx hb dX8_load_1 rfl ?_
  refine lv_lconst (v := 0) hx hb dX8_load_2 (by decide) ?_
  refine lv_aload_n hx hb dX8_load_3 rfl (lv_at hl 0 rfl) ?_
  refine va_get (D := D) (ci := 8) (v := .int d_p) (C := RX8) (T := TX8) (N := 52) hx hb hta ih_X8 hown hK hP 0 rfl rfl 0 (by decide) (hta _ hw_746) (fun _ h9 => h9) rfl dX8_load_4 ?_
  refine lv_iconst (v := 1) hx hb dX8_load_7 (by decide) ?_
  refine lv_isub hx hb dX8_load_8 ?_
  refine lv_i2l (v := (d_p - 1).toInt64) hx hb dX8_load_9 rfl ?_
  refine vp_callSi (hk_runS (As := [.long p1.toInt64, .long 0, .long ((d_p - 1).toInt64)]) (rest := []) S0 mm_d_in (c_d_in l D cI cJ cZ cM p1.toInt64 0 ((d_p - 1).toInt64) _ h) hw_909 hk_blR (hk_atR (hP.sub (ws' := ([] : va_W)) [] rfl) hK hN) ⟨rfl, rfl, Nat.le_of_ble_eq_true rfl, Nat.le_of_ble_eq_true rfl⟩ rfl hl.1 rfl (Nat.le_of_ble_eq_true rfl) dX8_load_10 ⟨Nat.le_of_ble_eq_true rfl, Nat.le_of_ble_eq_true rfl⟩).run (fun r1 h => ?_)
  refine lv_if_eq (tgt := 25) hx hb dX8_load_13 (by decide) (fun c2 => ?_) (fun c2 => ?_)
  · have h := h.1 c2
    refine lv_bipush (v := (-101)) hx hb dX8_load_25 (by decide) ?_
    exact W.iret (v := (-101)) hx hb hr (fun t ht hW => ⟨_, rfl, h, ht⟩) (fun _ hq => by cases hq) dX8_load_27
  · have h := h.2 c2
    refine lv_aload_n hx hb dX8_load_16 rfl (lv_at hl 0 rfl) ?_
    refine va_get (D := D) (ci := 8) (v := .ref (a_d 23)) (C := RX8) (T := TX8) (N := 52) hx hb hta ih_X8 hown hK hP 0 rfl rfl 23 (by decide) (hta _ hw_769) (fun _ h9 => h9) rfl dX8_load_17 ?_
    refine lv_iload_n hx hb dX8_load_20 rfl (lv_at hl 1 rfl) ?_
    refine va_iald hx hb hK hP 9 0 rfl rfl h.1 dX8_load_21 ?_
    have h := h.2
    refine lv_goto (tgt := 27) hx hb dX8_load_22 (by decide) ?_
    exact W.iret (v := d_loads p1.toNatClampNeg) hx hb hr (fun t ht hW => ⟨_, rfl, h, ht⟩) (fun _ hq => by cases hq) dX8_load_27
def wp_d_small (p1 : Int32) (p2 : Int32) (d_smalls : Int32) (d_smallKey : Nat → Int32) (d_smallWeight : Nat → Int32) (post : Int32 → (Int32 × (Nat → Int32) × (Nat → Int32)) → Prop) : Prop := wp_d_noKey p1 (fun (r1 : Int32) => (r1 = 0 → wp_d_in p2.toInt64 (-1000) 1000 (fun (r3 : Int32) => (¬ r3 = 0 → (¬ d_smalls = 60 → vp_in d_smalls 60 ∧ (vp_in d_smalls 60 ∧ (∀ x6 : Int32, x6 = d_smalls + 1 → post x6 (x6, upd d_smallKey d_smalls.toNatClampNeg p1, upd d_smallWeight d_smalls.toNatClampNeg p2)))) ∧ (d_smalls = 60 → post (-104) (d_smalls, d_smallKey, d_smallWeight))) ∧ (r3 = 0 → post (-102) (d_smalls, d_smallKey, d_smallWeight)))) ∧ (¬ r1 = 0 → post (-101) (d_smalls, d_smallKey, d_smallWeight)))
theorem mm_d_small : hk_MV yX8_small cX8_small 3 (some .int) 2 := ⟨hw_1036, hw_1034, hw_1035, hw_87, by decide +kernel⟩
set_option maxRecDepth 100000 in
set_option maxHeartbeats 4000000 in
theorem c_d_small (l : Launch) (D : va_G) (cI cJ cZ cM : ClassId) (h_d : Nat) (a_d : Nat → Nat) (sz : Nat) (d_p : Int32) (d_r : Int32) (d_t : Int32) (d_slack : Int32) (d_m : Int32) (d_folds : Int32) (d_kinds : Nat → Int32) (d_declared : Nat → Int32) (d_states : Nat → Int64) (d_lastRow : Nat → Int32) (d_lastValue : Nat → Int32) (d_hasValue : Nat → Int32) (d_touched : Nat → Int32) (d_parts : Nat → Int32) (d_rows : Int32) (d_inRound : Int32) (d_rounds : Int32) (d_flips : Int32) (d_passed : Int32) (d_matches : Int32) (d_moved : Int32) (d_time : Int32) (d_out : Int64) (d_loads : Nat → Int32) (d_counterKey : Nat → Int32) (d_counterCount : Nat → Int32) (d_counterError : Nat → Int32) (d_smalls : Int32) (d_smallKey : Nat → Int32) (d_smallWeight : Nat → Int32) (d_timers : Int32) (d_timerKey : Nat → Int32) (d_timerTime : Nat → Int32) (d_logged : Int32) (d_logKey : Nat → Int32) (d_logTime : Nat → Int32) (d_logState : Nat → Int64) (d_marks : Int32) (d_markState : Nat → Int64) (d_markValue : Nat → Int32) (d_markHas : Nat → Int32) (d_markSmalls : Nat → Int32) (d_markSmallKey : Nat → Int32) (d_markSmallWeight : Nat → Int32) (d_markTimers : Nat → Int32) (d_markTimerKey : Nat → Int32) (d_markTimerTime : Nat → Int32) (d_markTime : Nat → Int32) (d_markRows : Nat → Int32) (d_markMatches : Nat → Int32) (d_markOut : Nat → Int64) (d_comes : Nat → Int64) (p1 : Int32) (p2 : Int32) (post : Int32 → (Int32 × (Nat → Int32) × (Nat → Int32)) → Prop) (h : wp_d_small p1 p2 d_smalls d_smallKey d_smallWeight post) : Met l yX8_small (hk_ws yX8_small cX8_small 3 (some .int)) (hk_rm 2 46) (va_Pc [.ref h_d, .int p1, .int p2] (hk_PM D (hk_ty cI cJ cZ cM) sz (wv_d cI cJ cZ cM h_d a_d d_p d_r d_t d_slack d_m d_folds d_kinds d_declared d_states d_lastRow d_lastValue d_hasValue d_touched d_parts d_rows d_inRound d_rounds d_flips d_passed d_matches d_moved d_time d_out d_loads d_counterKey d_counterCount d_counterError d_smalls d_smallKey d_smallWeight d_timers d_timerKey d_timerTime d_logged d_logKey d_logTime d_logState d_marks d_markState d_markValue d_markHas d_markSmalls d_markSmallKey d_markSmallWeight d_markTimers d_markTimerKey d_markTimerTime d_markTime d_markRows d_markMatches d_markOut d_comes))) (va_Qi post (hk_B D (va_A (wv_d cI cJ cZ cM h_d a_d d_p d_r d_t d_slack d_m d_folds d_kinds d_declared d_states d_lastRow d_lastValue d_hasValue d_touched d_parts d_rows d_inRound d_rounds d_flips d_passed d_matches d_moved d_time d_out d_loads d_counterKey d_counterCount d_counterError d_smalls d_smallKey d_smallWeight d_timers d_timerKey d_timerTime d_logged d_logKey d_logTime d_logState d_marks d_markState d_markValue d_markHas d_markSmalls d_markSmallKey d_markSmallWeight d_markTimers d_markTimerKey d_markTimerTime d_markTime d_markRows d_markMatches d_markOut d_comes) sz) (fun (u : Int32 × (Nat → Int32) × (Nat → Int32)) => wv_d cI cJ cZ cM h_d a_d d_p d_r d_t d_slack d_m d_folds d_kinds d_declared d_states d_lastRow d_lastValue d_hasValue d_touched d_parts d_rows d_inRound d_rounds d_flips d_passed d_matches d_moved d_time d_out d_loads d_counterKey d_counterCount d_counterError u.1 u.2.1 u.2.2 d_timers d_timerKey d_timerTime d_logged d_logKey d_logTime d_logState d_marks d_markState d_markValue d_markHas d_markSmalls d_markSmallKey d_markSmallWeight d_markTimers d_markTimerKey d_markTimerTime d_markTime d_markRows d_markMatches d_markOut d_comes)) (va_A (wv_d cI cJ cZ cM h_d a_d d_p d_r d_t d_slack d_m d_folds d_kinds d_declared d_states d_lastRow d_lastValue d_hasValue d_touched d_parts d_rows d_inRound d_rounds d_flips d_passed d_matches d_moved d_time d_out d_loads d_counterKey d_counterCount d_counterError d_smalls d_smallKey d_smallWeight d_timers d_timerKey d_timerTime d_logged d_logKey d_logTime d_logState d_marks d_markState d_markValue d_markHas d_markSmalls d_markSmallKey d_markSmallWeight d_markTimers d_markTimerKey d_markTimerTime d_markTime d_markRows d_markMatches d_markOut d_comes) sz)) 0 0 (va_A (wv_d cI cJ cZ cM h_d a_d d_p d_r d_t d_slack d_m d_folds d_kinds d_declared d_states d_lastRow d_lastValue d_hasValue d_touched d_parts d_rows d_inRound d_rounds d_flips d_passed d_matches d_moved d_time d_out d_loads d_counterKey d_counterCount d_counterError d_smalls d_smallKey d_smallWeight d_timers d_timerKey d_timerTime d_logged d_logKey d_logTime d_logState d_marks d_markState d_markValue d_markHas d_markSmalls d_markSmallKey d_markSmallWeight d_markTimers d_markTimerKey d_markTimerTime d_markTime d_markRows d_markMatches d_markOut d_comes) sz) := by
  refine Met.ofW (cc := cX8_small) (maxL := 3) (ret := (some .int)) (by decide) rfl ?_
  intro p e s m args below meth c s₁ B hml hv
  obtain ⟨rfl, hsz, hP, hK, hD0, hN⟩ := hv
  have hx := B.exec
  have hb := B.bytes
  have hr := B.returns
  have hts := atoms_spec (ws := hk_ws yX8_small cX8_small 3 (some .int)) B.pre
  have hta : ∀ w ∈ hk_all, w.before ([.ref h_d, .int p1, .int p2] : List Value).toArray s = true := fun w hw => hts w (List.mem_cons_of_mem _ hw)
  have hown : s.vm.findClass RX8 = some m.cls := findClass_of_methodNamed B.named
  have hlocks := B.notSynchronized
  have S0 : CallFix p m c cX8_small 3 s ([.ref h_d, .int p1, .int p2] : List Value).toArray hk_all RX8 := ⟨hx, hb, hml, hown, hta⟩
  subst hsz
  have hD := hD0.self (sz := s.heap.size)
  generalize hAe : va_A (wv_d cI cJ cZ cM h_d a_d d_p d_r d_t d_slack d_m d_folds d_kinds d_declared d_states d_lastRow d_lastValue d_hasValue d_touched d_parts d_rows d_inRound d_rounds d_flips d_passed d_matches d_moved d_time d_out d_loads d_counterKey d_counterCount d_counterError d_smalls d_smallKey d_smallWeight d_timers d_timerKey d_timerTime d_logged d_logKey d_logTime d_logState d_marks d_markState d_markValue d_markHas d_markSmalls d_markSmallKey d_markSmallWeight d_markTimers d_markTimerKey d_markTimerTime d_markTime d_markRows d_markMatches d_markOut d_comes) s.heap.size = A at hD ⊢
  have hA : ∀ q : Nat, s.heap.size ≤ q → A q := fun q h => by rw [← hAe]; exact Or.inr h
  have hS : va_S A s.heap s.heap [] := va_S.rf
  have hl := lv_entry ([.ref h_d, .int p1, .int p2]) (n := 3) (Nat.le_of_ble_eq_true rfl)
  rw [lg_entry_eq]
  generalize (lg_sl ([.ref h_d, .int p1, .int p2]) ++ List.replicate (3 - (lg_sl ([.ref h_d, .int p1, .int p2])).length) Slot.unset).toArray = ls at hl ⊢
  have hl : lv_has ls 3 [(0, .ref h_d), (1, .int p1), (2, .int p2)] := hl
  unfold wp_d_small at h
  refine lv_aload_n hx hb dX8_small_0 rfl (lv_at hl 0 rfl) ?_
  refine lv_iload_n hx hb dX8_small_1 rfl (lv_at hl 1 rfl) ?_
  refine vp_callSi (hk_runV (As := [.int p1]) (rest := []) S0 mm_d_noKey (c_d_noKey l D cI cJ cZ cM h_d a_d d_p d_r d_t d_slack d_m d_folds d_kinds d_declared d_states d_lastRow d_lastValue d_hasValue d_touched d_parts d_rows d_inRound d_rounds d_flips d_passed d_matches d_moved d_time d_out d_loads d_counterKey d_counterCount d_counterError d_smalls d_smallKey d_smallWeight d_timers d_timerKey d_timerTime d_logged d_logKey d_logTime d_logState d_marks d_markState d_markValue d_markHas d_markSmalls d_markSmallKey d_markSmallWeight d_markTimers d_markTimerKey d_markTimerTime d_markTime d_markRows d_markMatches d_markOut d_comes p1 _ h) hw_926 hk_blR (hk_atR hP hK hN) (va_recv hK hP (ci := 8) (q0 := 0) rfl rfl) ⟨rfl, rfl, Nat.le_of_ble_eq_true rfl, Nat.le_of_ble_eq_true rfl⟩ rfl hl.1 rfl (Nat.le_of_ble_eq_true rfl) dX8_small_2 ⟨Nat.le_of_ble_eq_true rfl, Nat.le_of_ble_eq_true rfl⟩).run (fun r1 h => ?_)
  refine lv_if_eq (tgt := 11) hx hb dX8_small_5 (by decide) (fun c2 => ?_) (fun c2 => ?_)
  · have h := h.1 c2
    refine lv_iload_n hx hb dX8_small_11 rfl (lv_at hl 2 rfl) ?_
    refine lv_i2l (v := p2.toInt64) hx hb dX8_small_12 rfl ?_
    refine lv_ldc2 (v := (-1000)) hx hb hown (hta _ hw_931) dX8_small_13 ?_
    refine lv_ldc2 (v := 1000) hx hb hown (hta _ hw_932) dX8_small_16 ?_
    refine vp_callSi (hk_runS (As := [.long p2.toInt64, .long (-1000), .long 1000]) (rest := []) S0 mm_d_in (c_d_in l D cI cJ cZ cM p2.toInt64 (-1000) 1000 _ h) hw_909 hk_blR (hk_atR (hP.sub (ws' := ([] : va_W)) [] rfl) hK hN) ⟨rfl, rfl, Nat.le_of_ble_eq_true rfl, Nat.le_of_ble_eq_true rfl⟩ rfl hl.1 rfl (Nat.le_of_ble_eq_true rfl) dX8_small_19 ⟨Nat.le_of_ble_eq_true rfl, Nat.le_of_ble_eq_true rfl⟩).run (fun r3 h => ?_)
    refine lv_if_ne (tgt := 28) hx hb dX8_small_22 (by decide) (fun c4 => ?_) (fun c4 => ?_)
    · have h := h.1 c4
      refine lv_aload_n hx hb dX8_small_28 rfl (lv_at hl 0 rfl) ?_
      refine va_get (D := D) (ci := 8) (v := .int d_smalls) (C := RX8) (T := TX8) (N := 52) hx hb hta ih_X8 hown hK hP 0 rfl rfl 27 (by decide) (hta _ hw_773) (fun _ h9 => h9) rfl dX8_small_29 ?_
      refine lv_bipush (v := 60) hx hb dX8_small_32 (by decide) ?_
      refine lv_icmp_ne (tgt := 40) hx hb dX8_small_34 (by decide) (fun c5 => ?_) (fun c5 => ?_)
      · have h := h.1 c5
        refine lv_aload_n hx hb dX8_small_40 rfl (lv_at hl 0 rfl) ?_
        refine va_get (D := D) (ci := 8) (v := .ref (a_d 28)) (C := RX8) (T := TX8) (N := 52) hx hb hta ih_X8 hown hK hP 0 rfl rfl 28 (by decide) (hta _ hw_774) (fun _ h9 => h9) rfl dX8_small_41 ?_
        refine lv_aload_n hx hb dX8_small_44 rfl (lv_at hl 0 rfl) ?_
        refine va_get (D := D) (ci := 8) (v := .int d_smalls) (C := RX8) (T := TX8) (N := 52) hx hb hta ih_X8 hown hK hP 0 rfl rfl 27 (by decide) (hta _ hw_773) (fun _ h9 => h9) rfl dX8_small_45 ?_
        refine lv_iload_n hx hb dX8_small_48 rfl (lv_at hl 1 rfl) ?_
        refine va_iast hx hb hK hP hD hS 13 0 rfl rfl h.1 dX8_small_49 (fun H locs hP hD hS => ?_)
        have h := h.2
        have hP : va_P D vwCl (wv_d cI cJ cZ cM h_d a_d d_p d_r d_t d_slack d_m d_folds d_kinds d_declared d_states d_lastRow d_lastValue d_hasValue d_touched d_parts d_rows d_inRound d_rounds d_flips d_passed d_matches d_moved d_time d_out d_loads d_counterKey d_counterCount d_counterError d_smalls (upd d_smallKey d_smalls.toNatClampNeg p1) d_smallWeight d_timers d_timerKey d_timerTime d_logged d_logKey d_logTime d_logState d_marks d_markState d_markValue d_markHas d_markSmalls d_markSmallKey d_markSmallWeight d_markTimers d_markTimerKey d_markTimerTime d_markTime d_markRows d_markMatches d_markOut d_comes) H := hP
        have hD : va_D A (wv_d cI cJ cZ cM h_d a_d d_p d_r d_t d_slack d_m d_folds d_kinds d_declared d_states d_lastRow d_lastValue d_hasValue d_touched d_parts d_rows d_inRound d_rounds d_flips d_passed d_matches d_moved d_time d_out d_loads d_counterKey d_counterCount d_counterError d_smalls (upd d_smallKey d_smalls.toNatClampNeg p1) d_smallWeight d_timers d_timerKey d_timerTime d_logged d_logKey d_logTime d_logState d_marks d_markState d_markValue d_markHas d_markSmalls d_markSmallKey d_markSmallWeight d_markTimers d_markTimerKey d_markTimerTime d_markTime d_markRows d_markMatches d_markOut d_comes) := hD
        refine lv_aload_n hx hb dX8_small_50 rfl (lv_at hl 0 rfl) ?_
        refine va_get (D := D) (ci := 8) (v := .ref (a_d 29)) (C := RX8) (T := TX8) (N := 52) hx hb hta ih_X8 hown hK hP 0 rfl rfl 29 (by decide) (hta _ hw_775) (fun _ h9 => h9) rfl dX8_small_51 ?_
        refine lv_aload_n hx hb dX8_small_54 rfl (lv_at hl 0 rfl) ?_
        refine va_get (D := D) (ci := 8) (v := .int d_smalls) (C := RX8) (T := TX8) (N := 52) hx hb hta ih_X8 hown hK hP 0 rfl rfl 27 (by decide) (hta _ hw_773) (fun _ h9 => h9) rfl dX8_small_55 ?_
        refine lv_iload_n hx hb dX8_small_58 rfl (lv_at hl 2 rfl) ?_
        refine va_iast hx hb hK hP hD hS 14 0 rfl rfl h.1 dX8_small_59 (fun H locs hP hD hS => ?_)
        have h := h.2
        have hP : va_P D vwCl (wv_d cI cJ cZ cM h_d a_d d_p d_r d_t d_slack d_m d_folds d_kinds d_declared d_states d_lastRow d_lastValue d_hasValue d_touched d_parts d_rows d_inRound d_rounds d_flips d_passed d_matches d_moved d_time d_out d_loads d_counterKey d_counterCount d_counterError d_smalls (upd d_smallKey d_smalls.toNatClampNeg p1) (upd d_smallWeight d_smalls.toNatClampNeg p2) d_timers d_timerKey d_timerTime d_logged d_logKey d_logTime d_logState d_marks d_markState d_markValue d_markHas d_markSmalls d_markSmallKey d_markSmallWeight d_markTimers d_markTimerKey d_markTimerTime d_markTime d_markRows d_markMatches d_markOut d_comes) H := hP
        have hD : va_D A (wv_d cI cJ cZ cM h_d a_d d_p d_r d_t d_slack d_m d_folds d_kinds d_declared d_states d_lastRow d_lastValue d_hasValue d_touched d_parts d_rows d_inRound d_rounds d_flips d_passed d_matches d_moved d_time d_out d_loads d_counterKey d_counterCount d_counterError d_smalls (upd d_smallKey d_smalls.toNatClampNeg p1) (upd d_smallWeight d_smalls.toNatClampNeg p2) d_timers d_timerKey d_timerTime d_logged d_logKey d_logTime d_logState d_marks d_markState d_markValue d_markHas d_markSmalls d_markSmallKey d_markSmallWeight d_markTimers d_markTimerKey d_markTimerTime d_markTime d_markRows d_markMatches d_markOut d_comes) := hD
        refine lv_aload_n hx hb dX8_small_60 rfl (lv_at hl 0 rfl) ?_
        refine lv_dup hx hb dX8_small_61 rfl ?_
        refine va_get (D := D) (ci := 8) (v := .int d_smalls) (C := RX8) (T := TX8) (N := 52) hx hb hta ih_X8 hown hK hP 0 rfl rfl 27 (by decide) (hta _ hw_773) (fun _ h9 => h9) rfl dX8_small_62 ?_
        refine lv_iconst (v := 1) hx hb dX8_small_65 (by decide) ?_
        refine lv_iadd hx hb dX8_small_66 ?_
        refine lv_topi (fun x6 ex6 => ?_)
        have h := h x6 ex6
        refine va_put (D := D) (ci := 8) (v := .int x6) (ty := .int) (C := RX8) (T := TX8) (N := 52) hx hb hta ih_X8 tyX8 tyX8_ok nmX8 hown hK hP hD hS 0 rfl rfl 27 (by decide) (hta _ hw_773) (fun _ h9 => h9) rfl (by decide +kernel) rfl rfl (Nat.le_of_ble_eq_true rfl) dX8_small_67 (fun H locs hP hD hS => ?_)
        have hP : va_P D vwCl (wv_d cI cJ cZ cM h_d a_d d_p d_r d_t d_slack d_m d_folds d_kinds d_declared d_states d_lastRow d_lastValue d_hasValue d_touched d_parts d_rows d_inRound d_rounds d_flips d_passed d_matches d_moved d_time d_out d_loads d_counterKey d_counterCount d_counterError x6 (upd d_smallKey d_smalls.toNatClampNeg p1) (upd d_smallWeight d_smalls.toNatClampNeg p2) d_timers d_timerKey d_timerTime d_logged d_logKey d_logTime d_logState d_marks d_markState d_markValue d_markHas d_markSmalls d_markSmallKey d_markSmallWeight d_markTimers d_markTimerKey d_markTimerTime d_markTime d_markRows d_markMatches d_markOut d_comes) H := hP
        have hD : va_D A (wv_d cI cJ cZ cM h_d a_d d_p d_r d_t d_slack d_m d_folds d_kinds d_declared d_states d_lastRow d_lastValue d_hasValue d_touched d_parts d_rows d_inRound d_rounds d_flips d_passed d_matches d_moved d_time d_out d_loads d_counterKey d_counterCount d_counterError x6 (upd d_smallKey d_smalls.toNatClampNeg p1) (upd d_smallWeight d_smalls.toNatClampNeg p2) d_timers d_timerKey d_timerTime d_logged d_logKey d_logTime d_logState d_marks d_markState d_markValue d_markHas d_markSmalls d_markSmallKey d_markSmallWeight d_markTimers d_markTimerKey d_markTimerTime d_markTime d_markRows d_markMatches d_markOut d_comes) := hD
        refine lv_aload_n hx hb dX8_small_70 rfl (lv_at hl 0 rfl) ?_
        refine va_get (D := D) (ci := 8) (v := .int x6) (C := RX8) (T := TX8) (N := 52) hx hb hta ih_X8 hown hK hP 0 rfl rfl 27 (by decide) (hta _ hw_773) (fun _ h9 => h9) rfl dX8_small_71 ?_
        exact W.iret (v := x6) hx hb hr (fun t ht hW => ⟨⟨x6, (x6, upd d_smallKey d_smalls.toNatClampNeg p1, upd d_smallWeight d_smalls.toNatClampNeg p2), rfl, h, by rw [ht]; exact hP, hD⟩, hS.F ht⟩) hS.2.2 dX8_small_74
      · have h := h.2 c5
        refine lv_bipush (v := (-104)) hx hb dX8_small_37 (by decide) ?_
        exact W.iret (v := (-104)) hx hb hr (fun t ht hW => ⟨⟨(-104), (d_smalls, d_smallKey, d_smallWeight), rfl, h, by rw [ht]; exact hP, hD⟩, hS.F ht⟩) hS.2.2 dX8_small_39
    · have h := h.2 c4
      refine lv_bipush (v := (-102)) hx hb dX8_small_25 (by decide) ?_
      exact W.iret (v := (-102)) hx hb hr (fun t ht hW => ⟨⟨(-102), (d_smalls, d_smallKey, d_smallWeight), rfl, h, by rw [ht]; exact hP, hD⟩, hS.F ht⟩) hS.2.2 dX8_small_27
  · have h := h.2 c2
    refine lv_bipush (v := (-101)) hx hb dX8_small_8 (by decide) ?_
    exact W.iret (v := (-101)) hx hb hr (fun t ht hW => ⟨⟨(-101), (d_smalls, d_smallKey, d_smallWeight), rfl, h, by rw [ht]; exact hP, hD⟩, hS.F ht⟩) hS.2.2 dX8_small_10
