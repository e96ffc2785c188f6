def wb_d_shape_121 (p1 : Int32) (p2 : Int32) (p3 : Int32) (p4 : Int32) (p5 : Int32) (post : Int32 → (Int32 × Int32 × Int32 × Int32 × Int32 × (Nat → Int32)) → Prop) (K121 : (Int32 × (Nat → Int32)) → Prop) (v6 : Int32 × (Nat → Int32)) : Prop := (100 ≤ v6.1 → post 1 (p1, p2, p3, p4, p5, v6.2)) ∧ (¬ 100 ≤ v6.1 → vp_in v6.1 100 ∧ (∀ x8 : Int32, x8 = v6.1 + 1 → K121 (x8, upd v6.2 v6.1.toNatClampNeg 1)))
def wj_d_shape_71 (d_p : Int32) (d_r : Int32) (d_t : Int32) (d_slack : Int32) (d_m : Int32) (d_parts : Nat → Int32) (d_rows : Int32) (p1 : Int32) (p2 : Int32) (p3 : Int32) (p4 : Int32) (p5 : Int32) (post : Int32 → (Int32 × Int32 × Int32 × Int32 × Int32 × (Nat → Int32)) → Prop) (v3 : Int32) : Prop := (¬ v3 = 0 → (d_rows ≤ 0 → ∃ n, hk_lp (wb_d_shape_121 p1 p2 p3 p4 p5 post) n (0, d_parts)) ∧ (¬ d_rows ≤ 0 → post (-103) (d_p, d_r, d_t, d_slack, d_m, d_parts))) ∧ (v3 = 0 → post (-102) (d_p, d_r, d_t, d_slack, d_m, d_parts))
def wp_d_shape (p1 : Int32) (p2 : Int32) (p3 : Int32) (p4 : Int32) (p5 : Int32) (d_p : Int32) (d_r : Int32) (d_t : Int32) (d_slack : Int32) (d_m : Int32) (d_parts : Nat → Int32) (d_rows : Int32) (post : Int32 → (Int32 × Int32 × Int32 × Int32 × Int32 × (Nat → Int32)) → Prop) : Prop := wp_d_in p1.toInt64 2 8 (fun (r1 : Int32) => (r1 = 0 → wj_d_shape_71 d_p d_r d_t d_slack d_m d_parts d_rows p1 p2 p3 p4 p5 post 0) ∧ (¬ r1 = 0 → wp_d_in p2.toInt64 8 200 (fun (r9 : Int32) => (r9 = 0 → wj_d_shape_71 d_p d_r d_t d_slack d_m d_parts d_rows p1 p2 p3 p4 p5 post 0) ∧ (¬ r9 = 0 → wp_d_in p3.toInt64 1 p2.toInt64 (fun (r11 : Int32) => (r11 = 0 → wj_d_shape_71 d_p d_r d_t d_slack d_m d_parts d_rows p1 p2 p3 p4 p5 post 0) ∧ (¬ r11 = 0 → wp_d_in p4.toInt64 0 ((p3 - 1).toInt64) (fun (r13 : Int32) => (r13 = 0 → wj_d_shape_71 d_p d_r d_t d_slack d_m d_parts d_rows p1 p2 p3 p4 p5 post 0) ∧ (¬ r13 = 0 → wp_d_in p5.toInt64 1 12 (fun (r15 : Int32) => (r15 = 0 → wj_d_shape_71 d_p d_r d_t d_slack d_m d_parts d_rows p1 p2 p3 p4 p5 post 0) ∧ (¬ r15 = 0 → wj_d_shape_71 d_p d_r d_t d_slack d_m d_parts d_rows p1 p2 p3 p4 p5 post 1))))))))))
theorem mm_d_shape : hk_MV yX8_shape cX8_shape 8 (some .int) 5 := ⟨hw_906, hw_904, hw_905, hw_87, by decide +kernel⟩
set_option maxRecDepth 100000 in
set_option maxHeartbeats 4000000 in
theorem c_d_shape (l : Launch) (D : va_G) (cI cJ cZ cM : ClassId) (h_d : Nat) (a_d : Nat → Nat) (sz : Nat) (d_p : Int32) (d_r : Int32) (d_t : Int32) (d_slack : Int32) (d_m : Int32) (d_folds : Int32) (d_kinds : Nat → Int32) (d_declared : Nat → Int32) (d_states : Nat → Int64) (d_lastRow : Nat → Int32) (d_lastValue : Nat → Int32) (d_hasValue : Nat → Int32) (d_touched : Nat → Int32) (d_parts : Nat → Int32) (d_rows : Int32) (d_inRound : Int32) (d_rounds : Int32) (d_flips : Int32) (d_passed : Int32) (d_matches : Int32) (d_moved : Int32) (d_time : Int32) (d_out : Int64) (d_loads : Nat → Int32) (d_counterKey : Nat → Int32) (d_counterCount : Nat → Int32) (d_counterError : Nat → Int32) (d_smalls : Int32) (d_smallKey : Nat → Int32) (d_smallWeight : Nat → Int32) (d_timers : Int32) (d_timerKey : Nat → Int32) (d_timerTime : Nat → Int32) (d_logged : Int32) (d_logKey : Nat → Int32) (d_logTime : Nat → Int32) (d_logState : Nat → Int64) (d_marks : Int32) (d_markState : Nat → Int64) (d_markValue : Nat → Int32) (d_markHas : Nat → Int32) (d_markSmalls : Nat → Int32) (d_markSmallKey : Nat → Int32) (d_markSmallWeight : Nat → Int32) (d_markTimers : Nat → Int32) (d_markTimerKey : Nat → Int32) (d_markTimerTime : Nat → Int32) (d_markTime : Nat → Int32) (d_markRows : Nat → Int32) (d_markMatches : Nat → Int32) (d_markOut : Nat → Int64) (d_comes : Nat → Int64) (p1 : Int32) (p2 : Int32) (p3 : Int32) (p4 : Int32) (p5 : Int32) (post : Int32 → (Int32 × Int32 × Int32 × Int32 × Int32 × (Nat → Int32)) → Prop) (h : wp_d_shape p1 p2 p3 p4 p5 d_p d_r d_t d_slack d_m d_parts d_rows post) : Met l yX8_shape (hk_ws yX8_shape cX8_shape 8 (some .int)) (hk_rm 1 25) (va_Pc [.ref h_d, .int p1, .int p2, .int p3, .int p4, .int p5] (hk_PM D (hk_ty cI cJ cZ cM) sz (wv_d cI cJ cZ cM h_d a_d d_p d_r d_t d_slack d_m d_folds d_kinds d_declared d_states d_lastRow d_lastValue d_hasValue d_touched d_parts d_rows d_inRound d_rounds d_flips d_passed d_matches d_moved d_time d_out d_loads d_counterKey d_counterCount d_counterError d_smalls d_smallKey d_smallWeight d_timers d_timerKey d_timerTime d_logged d_logKey d_logTime d_logState d_marks d_markState d_markValue d_markHas d_markSmalls d_markSmallKey d_markSmallWeight d_markTimers d_markTimerKey d_markTimerTime d_markTime d_markRows d_markMatches d_markOut d_comes))) (va_Qi post (hk_B D (va_A (wv_d cI cJ cZ cM h_d a_d d_p d_r d_t d_slack d_m d_folds d_kinds d_declared d_states d_lastRow d_lastValue d_hasValue d_touched d_parts d_rows d_inRound d_rounds d_flips d_passed d_matches d_moved d_time d_out d_loads d_counterKey d_counterCount d_counterError d_smalls d_smallKey d_smallWeight d_timers d_timerKey d_timerTime d_logged d_logKey d_logTime d_logState d_marks d_markState d_markValue d_markHas d_markSmalls d_markSmallKey d_markSmallWeight d_markTimers d_markTimerKey d_markTimerTime d_markTime d_markRows d_markMatches d_markOut d_comes) sz) (fun (u : Int32 × Int32 × Int32 × Int32 × Int32 × (Nat → Int32)) => wv_d cI cJ cZ cM h_d a_d u.1 u.2.1 u.2.2.1 u.2.2.2.1 u.2.2.2.2.1 d_folds d_kinds d_declared d_states d_lastRow d_lastValue d_hasValue d_touched u.2.2.2.2.2 d_rows d_inRound d_rounds d_flips d_passed d_matches d_moved d_time d_out d_loads d_counterKey d_counterCount d_counterError d_smalls d_smallKey d_smallWeight d_timers d_timerKey d_timerTime d_logged d_logKey d_logTime d_logState d_marks d_markState d_markValue d_markHas d_markSmalls d_markSmallKey d_markSmallWeight d_markTimers d_markTimerKey d_markTimerTime d_markTime d_markRows d_markMatches d_markOut d_comes)) (va_A (wv_d cI cJ cZ cM h_d a_d d_p d_r d_t d_slack d_m d_folds d_kinds d_declared d_states d_lastRow d_lastValue d_hasValue d_touched d_parts d_rows d_inRound d_rounds d_flips d_passed d_matches d_moved d_time d_out d_loads d_counterKey d_counterCount d_counterError d_smalls d_smallKey d_smallWeight d_timers d_timerKey d_timerTime d_logged d_logKey d_logTime d_logState d_marks d_markState d_markValue d_markHas d_markSmalls d_markSmallKey d_markSmallWeight d_markTimers d_markTimerKey d_markTimerTime d_markTime d_markRows d_markMatches d_markOut d_comes) sz)) 0 0 (va_A (wv_d cI cJ cZ cM h_d a_d d_p d_r d_t d_slack d_m d_folds d_kinds d_declared d_states d_lastRow d_lastValue d_hasValue d_touched d_parts d_rows d_inRound d_rounds d_flips d_passed d_matches d_moved d_time d_out d_loads d_counterKey d_counterCount d_counterError d_smalls d_smallKey d_smallWeight d_timers d_timerKey d_timerTime d_logged d_logKey d_logTime d_logState d_marks d_markState d_markValue d_markHas d_markSmalls d_markSmallKey d_markSmallWeight d_markTimers d_markTimerKey d_markTimerTime d_markTime d_markRows d_markMatches d_markOut d_comes) sz) := by
  refine Met.ofW (cc := cX8_shape) (maxL := 8) (ret := (some .int)) (by decide) rfl ?_
  intro p e s m args below meth c s₁ B hml hv
  obtain ⟨rfl, hsz, hP, hK, hD0, hN⟩ := hv
  have hx := B.exec
  have hb := B.bytes
  have hr := B.returns
  have hts := atoms_spec (ws := hk_ws yX8_shape cX8_shape 8 (some .int)) B.pre
  have hta : ∀ w ∈ hk_all, w.before ([.ref h_d, .int p1, .int p2, .int p3, .int p4, .int p5] : List Value).toArray s = true := fun w hw => hts w (List.mem_cons_of_mem _ hw)
  have hown : s.vm.findClass RX8 = some m.cls := findClass_of_methodNamed B.named
  have hlocks := B.notSynchronized
  have S0 : CallFix p m c cX8_shape 8 s ([.ref h_d, .int p1, .int p2, .int p3, .int p4, .int p5] : List Value).toArray hk_all RX8 := ⟨hx, hb, hml, hown, hta⟩
  subst hsz
  have hD := hD0.self (sz := s.heap.size)
  generalize hAe : va_A (wv_d cI cJ cZ cM h_d a_d d_p d_r d_t d_slack d_m d_folds d_kinds d_declared d_states d_lastRow d_lastValue d_hasValue d_touched d_parts d_rows d_inRound d_rounds d_flips d_passed d_matches d_moved d_time d_out d_loads d_counterKey d_counterCount d_counterError d_smalls d_smallKey d_smallWeight d_timers d_timerKey d_timerTime d_logged d_logKey d_logTime d_logState d_marks d_markState d_markValue d_markHas d_markSmalls d_markSmallKey d_markSmallWeight d_markTimers d_markTimerKey d_markTimerTime d_markTime d_markRows d_markMatches d_markOut d_comes) s.heap.size = A at hD ⊢
  have hA : ∀ q : Nat, s.heap.size ≤ q → A q := fun q h => by rw [← hAe]; exact Or.inr h
  have hS : va_S A s.heap s.heap [] := va_S.rf
  have hl := lv_entry ([.ref h_d, .int p1, .int p2, .int p3, .int p4, .int p5]) (n := 8) (Nat.le_of_ble_eq_true rfl)
  rw [lg_entry_eq]
  generalize (lg_sl ([.ref h_d, .int p1, .int p2, .int p3, .int p4, .int p5]) ++ List.replicate (8 - (lg_sl ([.ref h_d, .int p1, .int p2, .int p3, .int p4, .int p5])).length) Slot.unset).toArray = ls at hl ⊢
  have hl : lv_has ls 8 [(0, .ref h_d), (1, .int p1), (2, .int p2), (3, .int p3), (4, .int p4), (5, .int p5)] := hl
  unfold wp_d_shape at h
  refine lv_iload_n hx hb dX8_shape_0 rfl (lv_at hl 1 rfl) ?_
  refine lv_i2l (v := p1.toInt64) hx hb dX8_shape_1 rfl ?_
  refine lv_ldc2 (v := 2) hx hb hown (hta _ hw_907) dX8_shape_2 ?_
  refine lv_ldc2 (v := 8) hx hb hown (hta _ hw_908) dX8_shape_5 ?_
  refine vp_callSi (hk_runS (As := [.long p1.toInt64, .long 2, .long 8]) (rest := []) S0 mm_d_in (c_d_in l D cI cJ cZ cM p1.toInt64 2 8 _ h) hw_909 hk_blR (hk_atR (hP.sub (ws' := ([] : va_W)) [] rfl) hK hN) ⟨rfl, rfl, Nat.le_of_ble_eq_true rfl, Nat.le_of_ble_eq_true rfl⟩ rfl hl.1 rfl (Nat.le_of_ble_eq_true rfl) dX8_shape_8 ⟨Nat.le_of_ble_eq_true rfl, Nat.le_of_ble_eq_true rfl⟩).run (fun r1 h => ?_)
  have J71 : ∀ (v3 : Int32) (ls : Array Slot), lv_has ls 8 [(0, .ref h_d), (1, .int p1), (2, .int p2), (3, .int p3), (4, .int p4), (5, .int p5)] → wj_d_shape_71 d_p d_r d_t d_slack d_m d_parts d_rows p1 p2 p3 p4 p5 post v3 → W p l e (headSpec (hk_ws yX8_shape cX8_shape 8 (some .int)) (hk_rm 1 25)).room s m ([.ref h_d, .int p1, .int p2, .int p3, .int p4, .int p5] : List Value).toArray below meth c s.heap [] 0 0 (MQ below (va_Qi post (hk_B D (A) (fun (u : Int32 × Int32 × Int32 × Int32 × Int32 × (Nat → Int32)) => wv_d cI cJ cZ cM h_d a_d u.1 u.2.1 u.2.2.1 u.2.2.2.1 u.2.2.2.2.1 d_folds d_kinds d_declared d_states d_lastRow d_lastValue d_hasValue d_touched u.2.2.2.2.2 d_rows d_inRound d_rounds d_flips d_passed d_matches d_moved d_time d_out d_loads d_counterKey d_counterCount d_counterError d_smalls d_smallKey d_smallWeight d_timers d_timerKey d_timerTime d_logged d_logKey d_logTime d_logState d_marks d_markState d_markValue d_markHas d_markSmalls d_markSmallKey d_markSmallWeight d_markTimers d_markTimerKey d_markTimerTime d_markTime d_markRows d_markMatches d_markOut d_comes)) (A)) ([.ref h_d, .int p1, .int p2, .int p3, .int p4, .int p5] : List Value).toArray s 0 0 A) (F0 m 71 ls [.int v3]) := by
    intro v3 ls hl h
    unfold wj_d_shape_71 at h
    refine lv_istore (lv' := [(6, .int v3), (0, .ref h_d), (1, .int p1), (2, .int p2), (3, .int p3), (4, .int p4), (5, .int p5)]) hx hb dX8_shape_71 hl (by decide) rfl (fun ls hl => ?_)
    refine lv_iload hx hb dX8_shape_73 (lv_at hl 0 rfl) ?_
    refine lv_if_ne (tgt := 81) hx hb dX8_shape_75 (by decide) (fun c4 => ?_) (fun c4 => ?_)
    · have h := h.1 c4
      refine lv_aload_n hx hb dX8_shape_81 rfl (lv_at hl 1 rfl) ?_
      refine va_get (D := D) (ci := 8) (v := .int d_rows) (C := RX8) (T := TX8) (N := 52) hx hb hta ih_X8 hown hK hP 0 rfl rfl 14 (by decide) (hta _ hw_760) (fun _ h9 => h9) rfl dX8_shape_82 ?_
      refine lv_if_le (tgt := 91) hx hb dX8_shape_85 (by decide) (fun c5 => ?_) (fun c5 => ?_)
      · have h := h.1 c5
        refine lv_aload_n hx hb dX8_shape_91 rfl (lv_at hl 1 rfl) ?_
        refine lv_iload_n hx hb dX8_shape_92 rfl (lv_at hl 2 rfl) ?_
        refine va_put (D := D) (ci := 8) (v := .int p1) (ty := .int) (C := RX8) (T := TX8) (N := 52) hx hb hta ih_X8 tyX8 tyX8_ok nmX8 hown hK hP hD hS 0 rfl rfl 0 (by decide) (hta _ hw_746) (fun _ h9 => h9) rfl (by decide +kernel) rfl rfl (Nat.le_of_ble_eq_true rfl) dX8_shape_93 (fun H locs hP hD hS => ?_)
        have hP : va_P D vwCl (wv_d cI cJ cZ cM h_d a_d p1 d_r d_t d_slack d_m d_folds d_kinds d_declared d_states d_lastRow d_lastValue d_hasValue d_touched d_parts d_rows d_inRound d_rounds d_flips d_passed d_matches d_moved d_time d_out d_loads d_counterKey d_counterCount d_counterError d_smalls d_smallKey d_smallWeight d_timers d_timerKey d_timerTime d_logged d_logKey d_logTime d_logState d_marks d_markState d_markValue d_markHas d_markSmalls d_markSmallKey d_markSmallWeight d_markTimers d_markTimerKey d_markTimerTime d_markTime d_markRows d_markMatches d_markOut d_comes) H := hP
        have hD : va_D A (wv_d cI cJ cZ cM h_d a_d p1 d_r d_t d_slack d_m d_folds d_kinds d_declared d_states d_lastRow d_lastValue d_hasValue d_touched d_parts d_rows d_inRound d_rounds d_flips d_passed d_matches d_moved d_time d_out d_loads d_counterKey d_counterCount d_counterError d_smalls d_smallKey d_smallWeight d_timers d_timerKey d_timerTime d_logged d_logKey d_logTime d_logState d_marks d_markState d_markValue d_markHas d_markSmalls d_markSmallKey d_markSmallWeight d_markTimers d_markTimerKey d_markTimerTime d_markTime d_markRows d_markMatches d_markOut d_comes) := hD
        refine lv_aload_n hx hb dX8_shape_96 rfl (lv_at hl 1 rfl) ?_
        refine lv_iload_n hx hb dX8_shape_97 rfl (lv_at hl 3 rfl) ?_
        refine va_put (D := D) (ci := 8) (v := .int p2) (ty := .int) (C := RX8) (T := TX8) (N := 52) hx hb hta ih_X8 tyX8 tyX8_ok nmX8 hown hK hP hD hS 0 rfl rfl 1 (by decide) (hta _ hw_747) (fun _ h9 => h9) rfl (by decide +kernel) rfl rfl (Nat.le_of_ble_eq_true rfl) dX8_shape_98 (fun H locs hP hD hS => ?_)
        have hP : va_P D vwCl (wv_d cI cJ cZ cM h_d a_d p1 p2 d_t d_slack d_m d_folds d_kinds d_declared d_states d_lastRow d_lastValue d_hasValue d_touched d_parts d_rows d_inRound d_rounds d_flips d_passed d_matches d_moved d_time d_out d_loads d_counterKey d_counterCount d_counterError d_smalls d_smallKey d_smallWeight d_timers d_timerKey d_timerTime d_logged d_logKey d_logTime d_logState d_marks d_markState d_markValue d_markHas d_markSmalls d_markSmallKey d_markSmallWeight d_markTimers d_markTimerKey d_markTimerTime d_markTime d_markRows d_markMatches d_markOut d_comes) H := hP
        have hD : va_D A (wv_d cI cJ cZ cM h_d a_d p1 p2 d_t d_slack d_m d_folds d_kinds d_declared d_states d_lastRow d_lastValue d_hasValue d_touched d_parts d_rows d_inRound d_rounds d_flips d_passed d_matches d_moved d_time d_out d_loads d_counterKey d_counterCount d_counterError d_smalls d_smallKey d_smallWeight d_timers d_timerKey d_timerTime d_logged d_logKey d_logTime d_logState d_marks d_markState d_markValue d_markHas d_markSmalls d_markSmallKey d_markSmallWeight d_markTimers d_markTimerKey d_markTimerTime d_markTime d_markRows d_markMatches d_markOut d_comes) := hD
        refine lv_aload_n hx hb dX8_shape_101 rfl (lv_at hl 1 rfl) ?_
        refine lv_iload_n hx hb dX8_shape_102 rfl (lv_at hl 4 rfl) ?_
        refine va_put (D := D) (ci := 8) (v := .int p3) (ty := .int) (C := RX8) (T := TX8) (N := 52) hx hb hta ih_X8 tyX8 tyX8_ok nmX8 hown hK hP hD hS 0 rfl rfl 2 (by decide) (hta _ hw_748) (fun _ h9 => h9) rfl (by decide +kernel) rfl rfl (Nat.le_of_ble_eq_true rfl) dX8_shape_103 (fun H locs hP hD hS => ?_)
        have hP : va_P D vwCl (wv_d cI cJ cZ cM h_d a_d p1 p2 p3 d_slack d_m d_folds d_kinds d_declared d_states d_lastRow d_lastValue d_hasValue d_touched d_parts d_rows d_inRound d_rounds d_flips d_passed d_matches d_moved d_time d_out d_loads d_counterKey d_counterCount d_counterError d_smalls d_smallKey d_smallWeight d_timers d_timerKey d_timerTime d_logged d_logKey d_logTime d_logState d_marks d_markState d_markValue d_markHas d_markSmalls d_markSmallKey d_markSmallWeight d_markTimers d_markTimerKey d_markTimerTime d_markTime d_markRows d_markMatches d_markOut d_comes) H := hP
        have hD : va_D A (wv_d cI cJ cZ cM h_d a_d p1 p2 p3 d_slack d_m d_folds d_kinds d_declared d_states d_lastRow d_lastValue d_hasValue d_touched d_parts d_rows d_inRound d_rounds d_flips d_passed d_matches d_moved d_time d_out d_loads d_counterKey d_counterCount d_counterError d_smalls d_smallKey d_smallWeight d_timers d_timerKey d_timerTime d_logged d_logKey d_logTime d_logState d_marks d_markState d_markValue d_markHas d_markSmalls d_markSmallKey d_markSmallWeight d_markTimers d_markTimerKey d_markTimerTime d_markTime d_markRows d_markMatches d_markOut d_comes) := hD
        refine lv_aload_n hx hb dX8_shape_106 rfl (lv_at hl 1 rfl) ?_
        refine lv_iload hx hb dX8_shape_107 (lv_at hl 5 rfl) ?_
        refine va_put (D := D) (ci := 8) (v := .int p4) (ty := .int) (C := RX8) (T := TX8) (N := 52) hx hb hta ih_X8 tyX8 tyX8_ok nmX8 hown hK hP hD hS 0 rfl rfl 3 (by decide) (hta _ hw_749) (fun _ h9 => h9) rfl (by decide +kernel) rfl rfl (Nat.le_of_ble_eq_true rfl) dX8_shape_109 (fun H locs hP hD hS => ?_)
        have hP : va_P D vwCl (wv_d cI cJ cZ cM h_d a_d p1 p2 p3 p4 d_m d_folds d_kinds d_declared d_states d_lastRow d_lastValue d_hasValue d_touched d_parts d_rows d_inRound d_rounds d_flips d_passed d_matches d_moved d_time d_out d_loads d_counterKey d_counterCount d_counterError d_smalls d_smallKey d_smallWeight d_timers d_timerKey d_timerTime d_logged d_logKey d_logTime d_logState d_marks d_markState d_markValue d_markHas d_markSmalls d_markSmallKey d_markSmallWeight d_markTimers d_markTimerKey d_markTimerTime d_markTime d_markRows d_markMatches d_markOut d_comes) H := hP
        have hD : va_D A (wv_d cI cJ cZ cM h_d a_d p1 p2 p3 p4 d_m d_folds d_kinds d_declared d_states d_lastRow d_lastValue d_hasValue d_touched d_parts d_rows d_inRound d_rounds d_flips d_passed d_matches d_moved d_time d_out d_loads d_counterKey d_counterCount d_counterError d_smalls d_smallKey d_smallWeight d_timers d_timerKey d_timerTime d_logged d_logKey d_logTime d_logState d_marks d_markState d_markValue d_markHas d_markSmalls d_markSmallKey d_markSmallWeight d_markTimers d_markTimerKey d_markTimerTime d_markTime d_markRows d_markMatches d_markOut d_comes) := hD
        refine lv_aload_n hx hb dX8_shape_112 rfl (lv_at hl 1 rfl) ?_
        refine lv_iload hx hb dX8_shape_113 (lv_at hl 6 rfl) ?_
        refine va_put (D := D) (ci := 8) (v := .int p5) (ty := .int) (C := RX8) (T := TX8) (N := 52) hx hb hta ih_X8 tyX8 tyX8_ok nmX8 hown hK hP hD hS 0 rfl rfl 4 (by decide) (hta _ hw_750) (fun _ h9 => h9) rfl (by decide +kernel) rfl rfl (Nat.le_of_ble_eq_true rfl) dX8_shape_115 (fun H locs hP hD hS => ?_)
        have hP : va_P D vwCl (wv_d cI cJ cZ cM h_d a_d p1 p2 p3 p4 p5 d_folds d_kinds d_declared d_states d_lastRow d_lastValue d_hasValue d_touched d_parts d_rows d_inRound d_rounds d_flips d_passed d_matches d_moved d_time d_out d_loads d_counterKey d_counterCount d_counterError d_smalls d_smallKey d_smallWeight d_timers d_timerKey d_timerTime d_logged d_logKey d_logTime d_logState d_marks d_markState d_markValue d_markHas d_markSmalls d_markSmallKey d_markSmallWeight d_markTimers d_markTimerKey d_markTimerTime d_markTime d_markRows d_markMatches d_markOut d_comes) H := hP
        have hD : va_D A (wv_d cI cJ cZ cM h_d a_d p1 p2 p3 p4 p5 d_folds d_kinds d_declared d_states d_lastRow d_lastValue d_hasValue d_touched d_parts d_rows d_inRound d_rounds d_flips d_passed d_matches d_moved d_time d_out d_loads d_counterKey d_counterCount d_counterError d_smalls d_smallKey d_smallWeight d_timers d_timerKey d_timerTime d_logged d_logKey d_logTime d_logState d_marks d_markState d_markValue d_markHas d_markSmalls d_markSmallKey d_markSmallWeight d_markTimers d_markTimerKey d_markTimerTime d_markTime d_markRows d_markMatches d_markOut d_comes) := hD
        refine lv_iconst (v := 0) hx hb dX8_shape_118 (by decide) ?_
        refine lv_istore (lv' := [(7, .int 0), (6, .int v3), (0, .ref h_d), (1, .int p1), (2, .int p2), (3, .int p3), (4, .int p4), (5, .int p5)]) hx hb dX8_shape_119 hl (by decide) rfl (fun ls hl => ?_)
        have P121 : ∀ (n : Nat) (v6 : Int32 × (Nat → Int32)) (H : Heap) (locs : List Loc) (ls : Array Slot), va_P D vwCl (wv_d cI cJ cZ cM h_d a_d p1 p2 p3 p4 p5 d_folds d_kinds d_declared d_states d_lastRow d_lastValue d_hasValue d_touched v6.2 d_rows d_inRound d_rounds d_flips d_passed d_matches d_moved d_time d_out d_loads d_counterKey d_counterCount d_counterError d_smalls d_smallKey d_smallWeight d_timers d_timerKey d_timerTime d_logged d_logKey d_logTime d_logState d_marks d_markState d_markValue d_markHas d_markSmalls d_markSmallKey d_markSmallWeight d_markTimers d_markTimerKey d_markTimerTime d_markTime d_markRows d_markMatches d_markOut d_comes) H → va_D A (wv_d cI cJ cZ cM h_d a_d p1 p2 p3 p4 p5 d_folds d_kinds d_declared d_states d_lastRow d_lastValue d_hasValue d_touched v6.2 d_rows d_inRound d_rounds d_flips d_passed d_matches d_moved d_time d_out d_loads d_counterKey d_counterCount d_counterError d_smalls d_smallKey d_smallWeight d_timers d_timerKey d_timerTime d_logged d_logKey d_logTime d_logState d_marks d_markState d_markValue d_markHas d_markSmalls d_markSmallKey d_markSmallWeight d_markTimers d_markTimerKey d_markTimerTime d_markTime d_markRows d_markMatches d_markOut d_comes) → va_S A s.heap H locs → lv_has ls 8 [(0, .ref h_d), (1, .int p1), (2, .int p2), (3, .int p3), (4, .int p4), (5, .int p5), (6, .int v3), (7, .int v6.1)] → hk_lp (wb_d_shape_121 p1 p2 p3 p4 p5 post) n v6 → W p l e (headSpec (hk_ws yX8_shape cX8_shape 8 (some .int)) (hk_rm 1 25)).room s m ([.ref h_d, .int p1, .int p2, .int p3, .int p4, .int p5] : List Value).toArray below meth c H locs 0 0 (MQ below (va_Qi post (hk_B D (A) (fun (u : Int32 × Int32 × Int32 × Int32 × Int32 × (Nat → Int32)) => wv_d cI cJ cZ cM h_d a_d u.1 u.2.1 u.2.2.1 u.2.2.2.1 u.2.2.2.2.1 d_folds d_kinds d_declared d_states d_lastRow d_lastValue d_hasValue d_touched u.2.2.2.2.2 d_rows d_inRound d_rounds d_flips d_passed d_matches d_moved d_time d_out d_loads d_counterKey d_counterCount d_counterError d_smalls d_smallKey d_smallWeight d_timers d_timerKey d_timerTime d_logged d_logKey d_logTime d_logState d_marks d_markState d_markValue d_markHas d_markSmalls d_markSmallKey d_markSmallWeight d_markTimers d_markTimerKey d_markTimerTime d_markTime d_markRows d_markMatches d_markOut d_comes)) (A)) ([.ref h_d, .int p1, .int p2, .int p3, .int p4, .int p5] : List Value).toArray s 0 0 A) (F0 m 121 ls []) := by
          intro n
          induction n with
          | zero => intro v6 H locs ls hP hD hS hl h; exact False.elim h
          | succ n ih121 =>
            intro v6 H locs ls hP hD hS hl h
            have h : wb_d_shape_121 p1 p2 p3 p4 p5 post (hk_lp (wb_d_shape_121 p1 p2 p3 p4 p5 post) n) v6 := h
            generalize hk_lp (wb_d_shape_121 p1 p2 p3 p4 p5 post) n = K121 at h ih121
            unfold wb_d_shape_121 at h
            refine lv_iload hx hb dX8_shape_121 (lv_at hl 7 rfl) ?_
            refine lv_bipush (v := 100) hx hb dX8_shape_123 (by decide) ?_
            refine lv_icmp_ge (tgt := 142) hx hb dX8_shape_125 (by decide) (fun c7 => ?_) (fun c7 => ?_)
            · have h := h.1 c7
              refine lv_iconst (v := 1) hx hb dX8_shape_142 (by decide) ?_
              exact W.iret (v := 1) hx hb hr (fun t ht hW => ⟨⟨1, (p1, p2, p3, p4, p5, v6.2), rfl, h, by rw [ht]; exact hP, hD⟩, hS.F ht⟩) hS.2.2 dX8_shape_143
            · have h := h.2 c7
              refine lv_aload_n hx hb dX8_shape_128 rfl (lv_at hl 0 rfl) ?_
              refine va_get (D := D) (ci := 8) (v := .ref (a_d 13)) (C := RX8) (T := TX8) (N := 52) hx hb hta ih_X8 hown hK hP 0 rfl rfl 13 (by decide) (hta _ hw_759) (fun _ h9 => h9) rfl dX8_shape_129 ?_
              refine lv_iload hx hb dX8_shape_132 (lv_at hl 7 rfl) ?_
              refine lv_iconst (v := 1) hx hb dX8_shape_134 (by decide) ?_
              refine va_iast hx hb hK hP hD hS 8 0 rfl rfl h.1 dX8_shape_135 (fun H locs hP hD hS => ?_)
              have h := h.2
              have hP : va_P D vwCl (wv_d cI cJ cZ cM h_d a_d p1 p2 p3 p4 p5 d_folds d_kinds d_declared d_states d_lastRow d_lastValue d_hasValue d_touched (upd v6.2 v6.1.toNatClampNeg 1) d_rows d_inRound d_rounds d_flips d_passed d_matches d_moved d_time d_out d_loads d_counterKey d_counterCount d_counterError d_smalls d_smallKey d_smallWeight d_timers d_timerKey d_timerTime d_logged d_logKey d_logTime d_logState d_marks d_markState d_markValue d_markHas d_markSmalls d_markSmallKey d_markSmallWeight d_markTimers d_markTimerKey d_markTimerTime d_markTime d_markRows d_markMatches d_markOut d_comes) H := hP
              have hD : va_D A (wv_d cI cJ cZ cM h_d a_d p1 p2 p3 p4 p5 d_folds d_kinds d_declared d_states d_lastRow d_lastValue d_hasValue d_touched (upd v6.2 v6.1.toNatClampNeg 1) d_rows d_inRound d_rounds d_flips d_passed d_matches d_moved d_time d_out d_loads d_counterKey d_counterCount d_counterError d_smalls d_smallKey d_smallWeight d_timers d_timerKey d_timerTime d_logged d_logKey d_logTime d_logState d_marks d_markState d_markValue d_markHas d_markSmalls d_markSmallKey d_markSmallWeight d_markTimers d_markTimerKey d_markTimerTime d_markTime d_markRows d_markMatches d_markOut d_comes) := hD
              obtain ⟨x8, ex8⟩ : ∃ y : Int32, y = v6.1 + 1 := ⟨_, rfl⟩
              have h := h x8 ex8
              refine lv_iinc (v := x8) (lv' := [(7, .int x8), (0, .ref h_d), (1, .int p1), (2, .int p2), (3, .int p3), (4, .int p4), (5, .int p5), (6, .int v3)]) hx hb dX8_shape_136 hl (k := 7) rfl (by rw [ex8]; rfl) (by decide) rfl (fun ls hl => ?_)
              refine lv_goto (tgt := 121) hx hb dX8_shape_139 (by decide) ?_
              exact ih121 (x8, upd v6.2 v6.1.toNatClampNeg 1) H locs ls hP hD hS (lv_sub hl [1, 2, 3, 4, 5, 6, 7, 0] rfl) h
        obtain ⟨n, h⟩ := h
        exact P121 n (0, d_parts) H locs ls hP hD hS (lv_sub hl [2, 3, 4, 5, 6, 7, 1, 0] rfl) h
      · have h := h.2 c5
        refine lv_bipush (v := (-103)) hx hb dX8_shape_88 (by decide) ?_
        exact W.iret (v := (-103)) hx hb hr (fun t ht hW => ⟨⟨(-103), (d_p, d_r, d_t, d_slack, d_m, d_parts), rfl, h, by rw [ht]; exact hP, hD⟩, hS.F ht⟩) hS.2.2 dX8_shape_90
    · have h := h.2 c4
      refine lv_bipush (v := (-102)) hx hb dX8_shape_78 (by decide) ?_
      exact W.iret (v := (-102)) hx hb hr (fun t ht hW => ⟨⟨(-102), (d_p, d_r, d_t, d_slack, d_m, d_parts), rfl, h, by rw [ht]; exact hP, hD⟩, hS.F ht⟩) hS.2.2 dX8_shape_80
  refine lv_if_eq (tgt := 70) hx hb dX8_shape_11 (by decide) (fun c2 => ?_) (fun c2 => ?_)
  · have h := h.1 c2
    refine lv_iconst (v := 0) hx hb dX8_shape_70 (by decide) ?_
    exact J71 0 ls (lv_sub hl [0, 1, 2, 3, 4, 5] rfl) h
  · have h := h.2 c2
    refine lv_iload_n hx hb dX8_shape_14 rfl (lv_at hl 2 rfl) ?_
    refine lv_i2l (v := p2.toInt64) hx hb dX8_shape_15 rfl ?_
    refine lv_ldc2 (v := 8) hx hb hown (hta _ hw_908) dX8_shape_16 ?_
    refine lv_ldc2 (v := 200) hx hb hown (hta _ hw_912) dX8_shape_19 ?_
    refine vp_callSi (hk_runS (As := [.long p2.toInt64, .long 8, .long 200]) (rest := []) S0 mm_d_in (c_d_in l D cI cJ cZ cM p2.toInt64 8 200 _ h) hw_909 hk_blR (hk_atR (hP.sub (ws' := ([] : va_W)) [] rfl) hK hN) ⟨rfl, rfl, Nat.le_of_ble_eq_true rfl, Nat.le_of_ble_eq_true rfl⟩ rfl hl.1 rfl (Nat.le_of_ble_eq_true rfl) dX8_shape_22 ⟨Nat.le_of_ble_eq_true rfl, Nat.le_of_ble_eq_true rfl⟩).run (fun r9 h => ?_)
    refine lv_if_eq (tgt := 70) hx hb dX8_shape_25 (by decide) (fun c10 => ?_) (fun c10 => ?_)
    · have h := h.1 c10
      refine lv_iconst (v := 0) hx hb dX8_shape_70 (by decide) ?_
      exact J71 0 ls (lv_sub hl [0, 1, 2, 3, 4, 5] rfl) h
    · have h := h.2 c10
      refine lv_iload_n hx hb dX8_shape_28 rfl (lv_at hl 3 rfl) ?_
      refine lv_i2l (v := p3.toInt64) hx hb dX8_shape_29 rfl ?_
      refine lv_lconst (v := 1) hx hb dX8_shape_30 (by decide) ?_
      refine lv_iload_n hx hb dX8_shape_31 rfl (lv_at hl 2 rfl) ?_
      refine lv_i2l (v := p2.toInt64) hx hb dX8_shape_32 rfl ?_
      refine vp_callSi (hk_runS (As := [.long p3.toInt64, .long 1, .long p2.toInt64]) (rest := []) S0 mm_d_in (c_d_in l D cI cJ cZ cM p3.toInt64 1 p2.toInt64 _ h) hw_909 hk_blR (hk_atR (hP.sub (ws' := ([] : va_W)) [] rfl) hK hN) ⟨rfl, rfl, Nat.le_of_ble_eq_true rfl, Nat.le_of_ble_eq_true rfl⟩ rfl hl.1 rfl (Nat.le_of_ble_eq_true rfl) dX8_shape_33 ⟨Nat.le_of_ble_eq_true rfl, Nat.le_of_ble_eq_true rfl⟩).run (fun r11 h => ?_)
      refine lv_if_eq (tgt := 70) hx hb dX8_shape_36 (by decide) (fun c12 => ?_) (fun c12 => ?_)
      · have h := h.1 c12
        refine lv_iconst (v := 0) hx hb dX8_shape_70 (by decide) ?_
        exact J71 0 ls (lv_sub hl [0, 1, 2, 3, 4, 5] rfl) h
      · have h := h.2 c12
        refine lv_iload hx hb dX8_shape_39 (lv_at hl 4 rfl) ?_
        refine lv_i2l (v := p4.toInt64) hx hb dX8_shape_41 rfl ?_
        refine lv_lconst (v := 0) hx hb dX8_shape_42 (by decide) ?_
        refine lv_iload_n hx hb dX8_shape_43 rfl (lv_at hl 3 rfl) ?_
        refine lv_iconst (v := 1) hx hb dX8_shape_44 (by decide) ?_
        refine lv_isub hx hb dX8_shape_45 ?_
        refine lv_i2l (v := (p3 - 1).toInt64) hx hb dX8_shape_46 rfl ?_
        refine vp_callSi (hk_runS (As := [.long p4.toInt64, .long 0, .long ((p3 - 1).toInt64)]) (rest := []) S0 mm_d_in (c_d_in l D cI cJ cZ cM p4.toInt64 0 ((p3 - 1).toInt64) _ h) hw_909 hk_blR (hk_atR (hP.sub (ws' := ([] : va_W)) [] rfl) hK hN) ⟨rfl, rfl, Nat.le_of_ble_eq_true rfl, Nat.le_of_ble_eq_true rfl⟩ rfl hl.1 rfl (Nat.le_of_ble_eq_true rfl) dX8_shape_47 ⟨Nat.le_of_ble_eq_true rfl, Nat.le_of_ble_eq_true rfl⟩).run (fun r13 h => ?_)
        refine lv_if_eq (tgt := 70) hx hb dX8_shape_50 (by decide) (fun c14 => ?_) (fun c14 => ?_)
        · have h := h.1 c14
          refine lv_iconst (v := 0) hx hb dX8_shape_70 (by decide) ?_
          exact J71 0 ls (lv_sub hl [0, 1, 2, 3, 4, 5] rfl) h
        · have h := h.2 c14
          refine lv_iload hx hb dX8_shape_53 (lv_at hl 5 rfl) ?_
          refine lv_i2l (v := p5.toInt64) hx hb dX8_shape_55 rfl ?_
          refine lv_lconst (v := 1) hx hb dX8_shape_56 (by decide) ?_
          refine lv_ldc2 (v := 12) hx hb hown (hta _ hw_913) dX8_shape_57 ?_
          refine vp_callSi (hk_runS (As := [.long p5.toInt64, .long 1, .long 12]) (rest := []) S0 mm_d_in (c_d_in l D cI cJ cZ cM p5.toInt64 1 12 _ h) hw_909 hk_blR (hk_atR (hP.sub (ws' := ([] : va_W)) [] rfl) hK hN) ⟨rfl, rfl, Nat.le_of_ble_eq_true rfl, Nat.le_of_ble_eq_true rfl⟩ rfl hl.1 rfl (Nat.le_of_ble_eq_true rfl) dX8_shape_60 ⟨Nat.le_of_ble_eq_true rfl, Nat.le_of_ble_eq_true rfl⟩).run (fun r15 h => ?_)
          refine lv_if_eq (tgt := 70) hx hb dX8_shape_63 (by decide) (fun c16 => ?_) (fun c16 => ?_)
          · have h := h.1 c16
            refine lv_iconst (v := 0) hx hb dX8_shape_70 (by decide) ?_
            exact J71 0 ls (lv_sub hl [0, 1, 2, 3, 4, 5] rfl) h
          · have h := h.2 c16
            refine lv_iconst (v := 1) hx hb dX8_shape_66 (by decide) ?_
            refine lv_goto (tgt := 71) hx hb dX8_shape_67 (by decide) ?_
            exact J71 1 ls (lv_sub hl [0, 1, 2, 3, 4, 5] rfl) h
def wb_d_splitKeys_4 (d_parts : Nat → Int32) (post : Int32 → Prop) (K4 : (Int32 × Int32) → Prop) (v1 : Int32 × Int32) : Prop := (100 ≤ v1.2 → post v1.1) ∧ (¬ 100 ≤ v1.2 → vp_in v1.2 100 ∧ (((d_parts v1.2.toNatClampNeg) ≤ 1 → ∀ x4 : Int32, x4 = v1.1 + 0 → ∀ x5 : Int32, x5 = v1.2 + 1 → K4 (x4, x5)) ∧ (¬ (d_parts v1.2.toNatClampNeg) ≤ 1 → ∀ x6 : Int32, x6 = v1.1 + 1 → ∀ x7 : Int32, x7 = v1.2 + 1 → K4 (x6, x7))))
def wp_d_splitKeys  (d_parts : Nat → Int32) (post : Int32 → Prop) : Prop := ∃ n, hk_lp (wb_d_splitKeys_4 d_parts post) n (0, 0)
theorem mm_d_splitKeys : hk_MV yX8_splitKeys cX8_splitKeys 3 (some .int) 0 := ⟨hw_921, hw_920, hw_61, hw_87, by decide +kernel⟩
set_option maxRecDepth 100000 in
set_option maxHeartbeats 4000000 in
theorem c_d_splitKeys (l : Launch) (D : va_G) (cI cJ cZ cM : ClassId) (h_d : Nat) (a_d : Nat → Nat)  (d_p : Int32) (d_r : Int32) (d_t : Int32) (d_slack : Int32) (d_m : Int32) (d_folds : Int32) (d_kinds : Nat → Int32) (d_declared : Nat → Int32) (d_states : Nat → Int64) (d_lastRow : Nat → Int32) (d_lastValue : Nat → Int32) (d_hasValue : Nat → Int32) (d_touched : Nat → Int32) (d_parts : Nat → Int32) (d_rows : Int32) (d_inRound : Int32) (d_rounds : Int32) (d_flips : Int32) (d_passed : Int32) (d_matches : Int32) (d_moved : Int32) (d_time : Int32) (d_out : Int64) (d_loads : Nat → Int32) (d_counterKey : Nat → Int32) (d_counterCount : Nat → Int32) (d_counterError : Nat → Int32) (d_smalls : Int32) (d_smallKey : Nat → Int32) (d_smallWeight : Nat → Int32) (d_timers : Int32) (d_timerKey : Nat → Int32) (d_timerTime : Nat → Int32) (d_logged : Int32) (d_logKey : Nat → Int32) (d_logTime : Nat → Int32) (d_logState : Nat → Int64) (d_marks : Int32) (d_markState : Nat → Int64) (d_markValue : Nat → Int32) (d_markHas : Nat → Int32) (d_markSmalls : Nat → Int32) (d_markSmallKey : Nat → Int32) (d_markSmallWeight : Nat → Int32) (d_markTimers : Nat → Int32) (d_markTimerKey : Nat → Int32) (d_markTimerTime : Nat → Int32) (d_markTime : Nat → Int32) (d_markRows : Nat → Int32) (d_markMatches : Nat → Int32) (d_markOut : Nat → Int64) (d_comes : Nat → Int64)  (post : Int32 → Prop) (h : wp_d_splitKeys d_parts post) : Met l yX8_splitKeys (hk_ws yX8_splitKeys cX8_splitKeys 3 (some .int)) (hk_rm 0 0) (va_Pc [.ref h_d] (hk_PR D (hk_ty cI cJ cZ cM) (wv_d cI cJ cZ cM h_d a_d d_p d_r d_t d_slack d_m d_folds d_kinds d_declared d_states d_lastRow d_lastValue d_hasValue d_touched d_parts d_rows d_inRound d_rounds d_flips d_passed d_matches d_moved d_time d_out d_loads d_counterKey d_counterCount d_counterError d_smalls d_smallKey d_smallWeight d_timers d_timerKey d_timerTime d_logged d_logKey d_logTime d_logState d_marks d_markState d_markValue d_markHas d_markSmalls d_markSmallKey d_markSmallWeight d_markTimers d_markTimerKey d_markTimerTime d_markTime d_markRows d_markMatches d_markOut d_comes))) (vp_Si post) 0 0 (fun _ => False) := by
  refine Met.ofW (cc := cX8_splitKeys) (maxL := 3) (ret := (some .int)) (by decide) rfl ?_
  intro p e s m args below meth c s₁ B hml hv
  obtain ⟨rfl, hP, hK, hN⟩ := hv
  have hx := B.exec
  have hb := B.bytes
  have hr := B.returns
  have hts := atoms_spec (ws := hk_ws yX8_splitKeys cX8_splitKeys 3 (some .int)) B.pre
  have hta : ∀ w ∈ hk_all, w.before ([.ref h_d] : List Value).toArray s = true := fun w hw => hts w (List.mem_cons_of_mem _ hw)
  have hown : s.vm.findClass RX8 = some m.cls := findClass_of_methodNamed B.named
  have hlocks := B.notSynchronized
  have S0 : CallFix p m c cX8_splitKeys 3 s ([.ref h_d] : List Value).toArray hk_all RX8 := ⟨hx, hb, hml, hown, hta⟩
  have hl := lv_entry ([.ref h_d]) (n := 3) (Nat.le_of_ble_eq_true rfl)
  rw [lg_entry_eq]
  generalize (lg_sl ([.ref h_d]) ++ List.replicate (3 - (lg_sl ([.ref h_d])).length) Slot.unset).toArray = ls at hl ⊢
  have hl : lv_has ls 3 [(0, .ref h_d)] := hl
  unfold wp_d_splitKeys at h
  refine lv_iconst (v := 0) hx hb dX8_splitKeys_0 (by decide) ?_
  refine lv_istore_n (lv' := [(1, .int 0), (0, .ref h_d)]) hx hb dX8_splitKeys_1 rfl hl (by decide) rfl (fun ls hl => ?_)
  refine lv_iconst (v := 0) hx hb dX8_splitKeys_2 (by decide) ?_
  refine lv_istore_n (lv' := [(2, .int 0), (1, .int 0), (0, .ref h_d)]) hx hb dX8_splitKeys_3 rfl hl (by decide) rfl (fun ls hl => ?_)
  have P4 : ∀ (n : Nat) (v1 : Int32 × Int32) (ls : Array Slot), lv_has ls 3 [(0, .ref h_d), (1, .int v1.1), (2, .int v1.2)] → hk_lp (wb_d_splitKeys_4 d_parts post) n v1 → W p l e (headSpec (hk_ws yX8_splitKeys cX8_splitKeys 3 (some .int)) (hk_rm 0 0)).room s m ([.ref h_d] : List Value).toArray below meth c s.heap [] 0 0 (MQ below (vp_Si post) ([.ref h_d] : List Value).toArray s 0 0 (fun _ => False)) (F0 m 4 ls []) := by
    intro n
    induction n with
    | zero => intro v1 ls hl h; exact False.elim h
    | succ n ih4 =>
      intro v1 ls hl h
      have h : wb_d_splitKeys_4 d_parts post (hk_lp (wb_d_splitKeys_4 d_parts post) n) v1 := h
      generalize hk_lp (wb_d_splitKeys_4 d_parts post) n = K4 at h ih4
      unfold wb_d_splitKeys_4 at h
      refine lv_iload_n hx hb dX8_splitKeys_4 rfl (lv_at hl 2 rfl) ?_
      refine lv_bipush (v := 100) hx hb dX8_splitKeys_5 (by decide) ?_
      refine lv_icmp_ge (tgt := 34) hx hb dX8_splitKeys_7 (by decide) (fun c2 => ?_) (fun c2 => ?_)
      · have h := h.1 c2
        refine lv_iload_n hx hb dX8_splitKeys_34 rfl (lv_at hl 1 rfl) ?_
        exact W.iret (v := v1.1) hx hb hr (fun t ht hW => ⟨_, rfl, h, ht⟩) (fun _ hq => by cases hq) dX8_splitKeys_35
      · have h := h.2 c2
        refine lv_iload_n hx hb dX8_splitKeys_10 rfl (lv_at hl 1 rfl) ?_
        refine lv_aload_n hx hb dX8_splitKeys_11 rfl (lv_at hl 0 rfl) ?_
        refine va_get (D := D) (ci := 8) (v := .ref (a_d 13)) (C := RX8) (T := TX8) (N := 52) hx hb hta ih_X8 hown hK hP 0 rfl rfl 13 (by decide) (hta _ hw_759) (fun _ h9 => h9) rfl dX8_splitKeys_12 ?_
        refine lv_iload_n hx hb dX8_splitKeys_15 rfl (lv_at hl 2 rfl) ?_
        refine va_iald hx hb hK hP 8 0 rfl rfl h.1 dX8_splitKeys_16 ?_
        have h := h.2
        refine lv_iconst (v := 1) hx hb dX8_splitKeys_17 (by decide) ?_
        refine lv_icmp_le (tgt := 25) hx hb dX8_splitKeys_18 (by decide) (fun c3 => ?_) (fun c3 => ?_)
        · have h := h.1 c3
          refine lv_iconst (v := 0) hx hb dX8_splitKeys_25 (by decide) ?_
          refine lv_iadd hx hb dX8_splitKeys_26 ?_
          refine lv_topi (fun x4 ex4 => ?_)
          have h := h x4 ex4
          refine lv_istore_n (lv' := [(1, .int x4), (0, .ref h_d), (2, .int v1.2)]) hx hb dX8_splitKeys_27 rfl hl (by decide) rfl (fun ls hl => ?_)
          obtain ⟨x5, ex5⟩ : ∃ y : Int32, y = v1.2 + 1 := ⟨_, rfl⟩
          have h := h x5 ex5
          refine lv_iinc (v := x5) (lv' := [(2, .int x5), (1, .int x4), (0, .ref h_d)]) hx hb dX8_splitKeys_28 hl (k := 2) rfl (by rw [ex5]; rfl) (by decide) rfl (fun ls hl => ?_)
          refine lv_goto (tgt := 4) hx hb dX8_splitKeys_31 (by decide) ?_
          exact ih4 (x4, x5) ls (lv_sub hl [2, 1, 0] rfl) h
        · have h := h.2 c3
          refine lv_iconst (v := 1) hx hb dX8_splitKeys_21 (by decide) ?_
          refine lv_goto (tgt := 26) hx hb dX8_splitKeys_22 (by decide) ?_
          refine lv_iadd hx hb dX8_splitKeys_26 ?_
          refine lv_topi (fun x6 ex6 => ?_)
          have h := h x6 ex6
          refine lv_istore_n (lv' := [(1, .int x6), (0, .ref h_d), (2, .int v1.2)]) hx hb dX8_splitKeys_27 rfl hl (by decide) rfl (fun ls hl => ?_)
          obtain ⟨x7, ex7⟩ : ∃ y : Int32, y = v1.2 + 1 := ⟨_, rfl⟩
          have h := h x7 ex7
          refine lv_iinc (v := x7) (lv' := [(2, .int x7), (1, .int x6), (0, .ref h_d)]) hx hb dX8_splitKeys_28 hl (k := 2) rfl (by rw [ex7]; rfl) (by decide) rfl (fun ls hl => ?_)
          refine lv_goto (tgt := 4) hx hb dX8_splitKeys_31 (by decide) ?_
          exact ih4 (x6, x7) ls (lv_sub hl [2, 1, 0] rfl) h
  obtain ⟨n, h⟩ := h
  exact P4 n (0, 0) ls (lv_sub hl [2, 1, 0] rfl) h
def wb_d_fold_73 (d_folds : Int32) (d_kinds : Nat → Int32) (d_declared : Nat → Int32) (p1 : Int32) (p2 : Int32) (post : Int32 → (Int32 × (Nat → Int32) × (Nat → Int32) × (Nat → Int64) × (Nat → Int32) × (Nat → Int32) × (Nat → Int32)) → Prop) (K73 : (Int32 × (Nat → Int64) × (Nat → Int32) × (Nat → Int32) × (Nat → Int32)) → Prop) (v8 : Int32 × (Nat → Int64) × (Nat → Int32) × (Nat → Int32) × (Nat → Int32)) : Prop := (100 ≤ v8.1 → ∀ x10 : Int32, x10 = d_folds + 1 → post (x10 - 1) (x10, upd d_kinds d_folds.toNatClampNeg p1, upd d_declared d_folds.toNatClampNeg (vp_nar .boolean p2), v8.2.1, v8.2.2.1, v8.2.2.2.1, v8.2.2.2.2)) ∧ (¬ 100 ≤ v8.1 → wp_d_emptyOf d_folds (upd d_kinds d_folds.toNatClampNeg p1) (fun (r11 : Int64) => vp_in ((6 * v8.1) + d_folds) 4800 ∧ (vp_in v8.1 800 ∧ (vp_in v8.1 800 ∧ (vp_in v8.1 800 ∧ (∀ x12 : Int32, x12 = v8.1 + 1 → K73 (x12, vp_updL v8.2.1 ((6 * v8.1) + d_folds).toNatClampNeg r11, upd v8.2.2.1 v8.1.toNatClampNeg (-1), upd v8.2.2.2.1 v8.1.toNatClampNeg (vp_nar .boolean 0), upd v8.2.2.2.2 v8.1.toNatClampNeg (vp_nar .boolean 0))))))))
def wp_d_fold (p1 : Int32) (p2 : Int32) (d_folds : Int32) (d_kinds : Nat → Int32) (d_declared : Nat → Int32) (d_states : Nat → Int64) (d_lastRow : Nat → Int32) (d_hasValue : Nat → Int32) (d_touched : Nat → Int32) (d_parts : Nat → Int32) (d_rows : Int32) (d_marks : Int32) (post : Int32 → (Int32 × (Nat → Int32) × (Nat → Int32) × (Nat → Int64) × (Nat → Int32) × (Nat → Int32) × (Nat → Int32)) → Prop) : Prop := wp_d_in p1.toInt64 0 7 (fun (r1 : Int32) => (¬ r1 = 0 → (0 < d_rows → post (-103) (d_folds, d_kinds, d_declared, d_states, d_lastRow, d_hasValue, d_touched)) ∧ (¬ 0 < d_rows → (0 < d_marks → post (-103) (d_folds, d_kinds, d_declared, d_states, d_lastRow, d_hasValue, d_touched)) ∧ (¬ 0 < d_marks → wp_d_splitKeys d_parts (fun (r5 : Int32) => (r5 ≤ 0 → (¬ d_folds = 6 → vp_in d_folds 6 ∧ (vp_in d_folds 6 ∧ (∃ n, hk_lp (wb_d_fold_73 d_folds d_kinds d_declared p1 p2 post) n (0, d_states, d_lastRow, d_hasValue, d_touched)))) ∧ (d_folds = 6 → post (-104) (d_folds, d_kinds, d_declared, d_states, d_lastRow, d_hasValue, d_touched))) ∧ (¬ r5 ≤ 0 → post (-103) (d_folds, d_kinds, d_declared, d_states, d_lastRow, d_hasValue, d_touched)))))) ∧ (r1 = 0 → post (-102) (d_folds, d_kinds, d_declared, d_states, d_lastRow, d_hasValue, d_touched)))
theorem mm_d_fold : hk_MV yX8_fold cX8_fold 4 (some .int) 2 := ⟨hw_917, hw_915, hw_916, hw_87, by decide +kernel⟩
set_option maxRecDepth 100000 in
set_option maxHeartbeats 4000000 in
theorem c_d_fold (l : Launch) (D : va_G) (cI cJ cZ cM : ClassId) (h_d : Nat) (a_d : Nat → Nat) (sz : Nat) (d_p : Int32) (d_r : Int32) (d_t : Int32) (d_slack : Int32) (d_m : Int32) (d_folds : Int32) (d_kinds : Nat → Int32) (d_declared : Nat → Int32) (d_states : Nat → Int64) (d_lastRow : Nat → Int32) (d_lastValue : Nat → Int32) (d_hasValue : Nat → Int32) (d_touched : Nat → Int32) (d_parts : Nat → Int32) (d_rows : Int32) (d_inRound : Int32) (d_rounds : Int32) (d_flips : Int32) (d_passed : Int32) (d_matches : Int32) (d_moved : Int32) (d_time : Int32) (d_out : Int64) (d_loads : Nat → Int32) (d_counterKey : Nat → Int32) (d_counterCount : Nat → Int32) (d_counterError : Nat → Int32) (d_smalls : Int32) (d_smallKey : Nat → Int32) (d_smallWeight : Nat → Int32) (d_timers : Int32) (d_timerKey : Nat → Int32) (d_timerTime : Nat → Int32) (d_logged : Int32) (d_logKey : Nat → Int32) (d_logTime : Nat → Int32) (d_logState : Nat → Int64) (d_marks : Int32) (d_markState : Nat → Int64) (d_markValue : Nat → Int32) (d_markHas : Nat → Int32) (d_markSmalls : Nat → Int32) (d_markSmallKey : Nat → Int32) (d_markSmallWeight : Nat → Int32) (d_markTimers : Nat → Int32) (d_markTimerKey : Nat → Int32) (d_markTimerTime : Nat → Int32) (d_markTime : Nat → Int32) (d_markRows : Nat → Int32) (d_markMatches : Nat → Int32) (d_markOut : Nat → Int64) (d_comes : Nat → Int64) (p1 : Int32) (p2 : Int32) (post : Int32 → (Int32 × (Nat → Int32) × (Nat → Int32) × (Nat → Int64) × (Nat → Int32) × (Nat → Int32) × (Nat → Int32)) → Prop) (h : wp_d_fold p1 p2 d_folds d_kinds d_declared d_states d_lastRow d_hasValue d_touched d_parts d_rows d_marks post) : Met l yX8_fold (hk_ws yX8_fold cX8_fold 4 (some .int)) (hk_rm 1 25) (va_Pc [.ref h_d, .int p1, .int p2] (hk_PM D (hk_ty cI cJ cZ cM) sz (wv_d cI cJ cZ cM h_d a_d d_p d_r d_t d_slack d_m d_folds d_kinds d_declared d_states d_lastRow d_lastValue d_hasValue d_touched d_parts d_rows d_inRound d_rounds d_flips d_passed d_matches d_moved d_time d_out d_loads d_counterKey d_counterCount d_counterError d_smalls d_smallKey d_smallWeight d_timers d_timerKey d_timerTime d_logged d_logKey d_logTime d_logState d_marks d_markState d_markValue d_markHas d_markSmalls d_markSmallKey d_markSmallWeight d_markTimers d_markTimerKey d_markTimerTime d_markTime d_markRows d_markMatches d_markOut d_comes))) (va_Qi post (hk_B D (va_A (wv_d cI cJ cZ cM h_d a_d d_p d_r d_t d_slack d_m d_folds d_kinds d_declared d_states d_lastRow d_lastValue d_hasValue d_touched d_parts d_rows d_inRound d_rounds d_flips d_passed d_matches d_moved d_time d_out d_loads d_counterKey d_counterCount d_counterError d_smalls d_smallKey d_smallWeight d_timers d_timerKey d_timerTime d_logged d_logKey d_logTime d_logState d_marks d_markState d_markValue d_markHas d_markSmalls d_markSmallKey d_markSmallWeight d_markTimers d_markTimerKey d_markTimerTime d_markTime d_markRows d_markMatches d_markOut d_comes) sz) (fun (u : Int32 × (Nat → Int32) × (Nat → Int32) × (Nat → Int64) × (Nat → Int32) × (Nat → Int32) × (Nat → Int32)) => wv_d cI cJ cZ cM h_d a_d d_p d_r d_t d_slack d_m u.1 u.2.1 u.2.2.1 u.2.2.2.1 u.2.2.2.2.1 d_lastValue u.2.2.2.2.2.1 u.2.2.2.2.2.2 d_parts d_rows d_inRound d_rounds d_flips d_passed d_matches d_moved d_time d_out d_loads d_counterKey d_counterCount d_counterError d_smalls d_smallKey d_smallWeight d_timers d_timerKey d_timerTime d_logged d_logKey d_logTime d_logState d_marks d_markState d_markValue d_markHas d_markSmalls d_markSmallKey d_markSmallWeight d_markTimers d_markTimerKey d_markTimerTime d_markTime d_markRows d_markMatches d_markOut d_comes)) (va_A (wv_d cI cJ cZ cM h_d a_d d_p d_r d_t d_slack d_m d_folds d_kinds d_declared d_states d_lastRow d_lastValue d_hasValue d_touched d_parts d_rows d_inRound d_rounds d_flips d_passed d_matches d_moved d_time d_out d_loads d_counterKey d_counterCount d_counterError d_smalls d_smallKey d_smallWeight d_timers d_timerKey d_timerTime d_logged d_logKey d_logTime d_logState d_marks d_markState d_markValue d_markHas d_markSmalls d_markSmallKey d_markSmallWeight d_markTimers d_markTimerKey d_markTimerTime d_markTime d_markRows d_markMatches d_markOut d_comes) sz)) 0 0 (va_A (wv_d cI cJ cZ cM h_d a_d d_p d_r d_t d_slack d_m d_folds d_kinds d_declared d_states d_lastRow d_lastValue d_hasValue d_touched d_parts d_rows d_inRound d_rounds d_flips d_passed d_matches d_moved d_time d_out d_loads d_counterKey d_counterCount d_counterError d_smalls d_smallKey d_smallWeight d_timers d_timerKey d_timerTime d_logged d_logKey d_logTime d_logState d_marks d_markState d_markValue d_markHas d_markSmalls d_markSmallKey d_markSmallWeight d_markTimers d_markTimerKey d_markTimerTime d_markTime d_markRows d_markMatches d_markOut d_comes) sz) := by
  refine Met.ofW (cc := cX8_fold) (maxL := 4) (ret := (some .int)) (by decide) rfl ?_
  intro p e s m args below meth c s₁ B hml hv
  obtain ⟨rfl, hsz, hP, hK, hD0, hN⟩ := hv
  have hx := B.exec
  have hb := B.bytes
  have hr := B.returns
  have hts := atoms_spec (ws := hk_ws yX8_fold cX8_fold 4 (some .int)) B.pre
  have hta : ∀ w ∈ hk_all, w.before ([.ref h_d, .int p1, .int p2] : List Value).toArray s = true := fun w hw => hts w (List.mem_cons_of_mem _ hw)
  have hown : s.vm.findClass RX8 = some m.cls := findClass_of_methodNamed B.named
  have hlocks := B.notSynchronized
  have S0 : CallFix p m c cX8_fold 4 s ([.ref h_d, .int p1, .int p2] : List Value).toArray hk_all RX8 := ⟨hx, hb, hml, hown, hta⟩
  subst hsz
  have hD := hD0.self (sz := s.heap.size)
  generalize hAe : va_A (wv_d cI cJ cZ cM h_d a_d d_p d_r d_t d_slack d_m d_folds d_kinds d_declared d_states d_lastRow d_lastValue d_hasValue d_touched d_parts d_rows d_inRound d_rounds d_flips d_passed d_matches d_moved d_time d_out d_loads d_counterKey d_counterCount d_counterError d_smalls d_smallKey d_smallWeight d_timers d_timerKey d_timerTime d_logged d_logKey d_logTime d_logState d_marks d_markState d_markValue d_markHas d_markSmalls d_markSmallKey d_markSmallWeight d_markTimers d_markTimerKey d_markTimerTime d_markTime d_markRows d_markMatches d_markOut d_comes) s.heap.size = A at hD ⊢
  have hA : ∀ q : Nat, s.heap.size ≤ q → A q := fun q h => by rw [← hAe]; exact Or.inr h
  have hS : va_S A s.heap s.heap [] := va_S.rf
  have hl := lv_entry ([.ref h_d, .int p1, .int p2]) (n := 4) (Nat.le_of_ble_eq_true rfl)
  rw [lg_entry_eq]
  generalize (lg_sl ([.ref h_d, .int p1, .int p2]) ++ List.replicate (4 - (lg_sl ([.ref h_d, .int p1, .int p2])).length) Slot.unset).toArray = ls at hl ⊢
  have hl : lv_has ls 4 [(0, .ref h_d), (1, .int p1), (2, .int p2)] := hl
  unfold wp_d_fold at h
  refine lv_iload_n hx hb dX8_fold_0 rfl (lv_at hl 1 rfl) ?_
  refine lv_i2l (v := p1.toInt64) hx hb dX8_fold_1 rfl ?_
  refine lv_lconst (v := 0) hx hb dX8_fold_2 (by decide) ?_
  refine lv_ldc2 (v := 7) hx hb hown (hta _ hw_736) dX8_fold_3 ?_
  refine vp_callSi (hk_runS (As := [.long p1.toInt64, .long 0, .long 7]) (rest := []) S0 mm_d_in (c_d_in l D cI cJ cZ cM p1.toInt64 0 7 _ h) hw_909 hk_blR (hk_atR (hP.sub (ws' := ([] : va_W)) [] rfl) hK hN) ⟨rfl, rfl, Nat.le_of_ble_eq_true rfl, Nat.le_of_ble_eq_true rfl⟩ rfl hl.1 rfl (Nat.le_of_ble_eq_true rfl) dX8_fold_6 ⟨Nat.le_of_ble_eq_true rfl, Nat.le_of_ble_eq_true rfl⟩).run (fun r1 h => ?_)
  refine lv_if_ne (tgt := 15) hx hb dX8_fold_9 (by decide) (fun c2 => ?_) (fun c2 => ?_)
  · have h := h.1 c2
    refine lv_aload_n hx hb dX8_fold_15 rfl (lv_at hl 0 rfl) ?_
    refine va_get (D := D) (ci := 8) (v := .int d_rows) (C := RX8) (T := TX8) (N := 52) hx hb hta ih_X8 hown hK hP 0 rfl rfl 14 (by decide) (hta _ hw_760) (fun _ h9 => h9) rfl dX8_fold_16 ?_
    refine lv_if_gt (tgt := 36) hx hb dX8_fold_19 (by decide) (fun c3 => ?_) (fun c3 => ?_)
    · have h := h.1 c3
      refine lv_bipush (v := (-103)) hx hb dX8_fold_36 (by decide) ?_
      exact W.iret (v := (-103)) hx hb hr (fun t ht hW => ⟨⟨(-103), (d_folds, d_kinds, d_declared, d_states, d_lastRow, d_hasValue, d_touched), rfl, h, by rw [ht]; exact hP, hD⟩, hS.F ht⟩) hS.2.2 dX8_fold_38
    · have h := h.2 c3
      refine lv_aload_n hx hb dX8_fold_22 rfl (lv_at hl 0 rfl) ?_
      refine va_get (D := D) (ci := 8) (v := .int d_marks) (C := RX8) (T := TX8) (N := 52) hx hb hta ih_X8 hown hK hP 0 rfl rfl 37 (by decide) (hta _ hw_783) (fun _ h9 => h9) rfl dX8_fold_23 ?_
      refine lv_if_gt (tgt := 36) hx hb dX8_fold_26 (by decide) (fun c4 => ?_) (fun c4 => ?_)
      · have h := h.1 c4
        refine lv_bipush (v := (-103)) hx hb dX8_fold_36 (by decide) ?_
        exact W.iret (v := (-103)) hx hb hr (fun t ht hW => ⟨⟨(-103), (d_folds, d_kinds, d_declared, d_states, d_lastRow, d_hasValue, d_touched), rfl, h, by rw [ht]; exact hP, hD⟩, hS.F ht⟩) hS.2.2 dX8_fold_38
      · have h := h.2 c4
        refine lv_aload_n hx hb dX8_fold_29 rfl (lv_at hl 0 rfl) ?_
        refine vp_callSi (hk_runV (As := []) (rest := []) S0 mm_d_splitKeys (c_d_splitKeys l D cI cJ cZ cM h_d a_d d_p d_r d_t d_slack d_m d_folds d_kinds d_declared d_states d_lastRow d_lastValue d_hasValue d_touched d_parts d_rows d_inRound d_rounds d_flips d_passed d_matches d_moved d_time d_out d_loads d_counterKey d_counterCount d_counterError d_smalls d_smallKey d_smallWeight d_timers d_timerKey d_timerTime d_logged d_logKey d_logTime d_logState d_marks d_markState d_markValue d_markHas d_markSmalls d_markSmallKey d_markSmallWeight d_markTimers d_markTimerKey d_markTimerTime d_markTime d_markRows d_markMatches d_markOut d_comes _ h) hw_918 hk_blR (hk_atR hP hK hN) (va_recv hK hP (ci := 8) (q0 := 0) rfl rfl) ⟨rfl, rfl, Nat.le_of_ble_eq_true rfl, Nat.le_of_ble_eq_true rfl⟩ rfl hl.1 rfl (Nat.le_of_ble_eq_true rfl) dX8_fold_30 ⟨Nat.le_of_ble_eq_true rfl, Nat.le_of_ble_eq_true rfl⟩).run (fun r5 h => ?_)
        refine lv_if_le (tgt := 39) hx hb dX8_fold_33 (by decide) (fun c6 => ?_) (fun c6 => ?_)
        · have h := h.1 c6
          refine lv_aload_n hx hb dX8_fold_39 rfl (lv_at hl 0 rfl) ?_
          refine va_get (D := D) (ci := 8) (v := .int d_folds) (C := RX8) (T := TX8) (N := 52) hx hb hta ih_X8 hown hK hP 0 rfl rfl 5 (by decide) (hta _ hw_751) (fun _ h9 => h9) rfl dX8_fold_40 ?_
          refine lv_bipush (v := 6) hx hb dX8_fold_43 (by decide) ?_
          refine lv_icmp_ne (tgt := 51) hx hb dX8_fold_45 (by decide) (fun c7 => ?_) (fun c7 => ?_)
          · have h := h.1 c7
            refine lv_aload_n hx hb dX8_fold_51 rfl (lv_at hl 0 rfl) ?_
            refine va_get (D := D) (ci := 8) (v := .ref (a_d 6)) (C := RX8) (T := TX8) (N := 52) hx hb hta ih_X8 hown hK hP 0 rfl rfl 6 (by decide) (hta _ hw_752) (fun _ h9 => h9) rfl dX8_fold_52 ?_
            refine lv_aload_n hx hb dX8_fold_55 rfl (lv_at hl 0 rfl) ?_
            refine va_get (D := D) (ci := 8) (v := .int d_folds) (C := RX8) (T := TX8) (N := 52) hx hb hta ih_X8 hown hK hP 0 rfl rfl 5 (by decide) (hta _ hw_751) (fun _ h9 => h9) rfl dX8_fold_56 ?_
            refine lv_iload_n hx hb dX8_fold_59 rfl (lv_at hl 1 rfl) ?_
            refine va_iast hx hb hK hP hD hS 1 0 rfl rfl h.1 dX8_fold_60 (fun H locs hP hD hS => ?_)
            have h := h.2
            have hP : va_P D vwCl (wv_d cI cJ cZ cM h_d a_d d_p d_r d_t d_slack d_m d_folds (upd d_kinds d_folds.toNatClampNeg p1) d_declared d_states d_lastRow d_lastValue d_hasValue d_touched d_parts d_rows d_inRound d_rounds d_flips d_passed d_matches d_moved d_time d_out d_loads d_counterKey d_counterCount d_counterError d_smalls d_smallKey d_smallWeight d_timers d_timerKey d_timerTime d_logged d_logKey d_logTime d_logState d_marks d_markState d_markValue d_markHas d_markSmalls d_markSmallKey d_markSmallWeight d_markTimers d_markTimerKey d_markTimerTime d_markTime d_markRows d_markMatches d_markOut d_comes) H := hP
            have hD : va_D A (wv_d cI cJ cZ cM h_d a_d d_p d_r d_t d_slack d_m d_folds (upd d_kinds d_folds.toNatClampNeg p1) d_declared d_states d_lastRow d_lastValue d_hasValue d_touched d_parts d_rows d_inRound d_rounds d_flips d_passed d_matches d_moved d_time d_out d_loads d_counterKey d_counterCount d_counterError d_smalls d_smallKey d_smallWeight d_timers d_timerKey d_timerTime d_logged d_logKey d_logTime d_logState d_marks d_markState d_markValue d_markHas d_markSmalls d_markSmallKey d_markSmallWeight d_markTimers d_markTimerKey d_markTimerTime d_markTime d_markRows d_markMatches d_markOut d_comes) := hD
            refine lv_aload_n hx hb dX8_fold_61 rfl (lv_at hl 0 rfl) ?_
            refine va_get (D := D) (ci := 8) (v := .ref (a_d 7)) (C := RX8) (T := TX8) (N := 52) hx hb hta ih_X8 hown hK hP 0 rfl rfl 7 (by decide) (hta _ hw_753) (fun _ h9 => h9) rfl dX8_fold_62 ?_
            refine lv_aload_n hx hb dX8_fold_65 rfl (lv_at hl 0 rfl) ?_
            refine va_get (D := D) (ci := 8) (v := .int d_folds) (C := RX8) (T := TX8) (N := 52) hx hb hta ih_X8 hown hK hP 0 rfl rfl 5 (by decide) (hta _ hw_751) (fun _ h9 => h9) rfl dX8_fold_66 ?_
            refine lv_iload_n hx hb dX8_fold_69 rfl (lv_at hl 2 rfl) ?_
            refine va_zast hx hb hK hP hD hS 2 2 rfl rfl h.1 dX8_fold_70 (fun H locs hP hD hS => ?_)
            have h := h.2
            have hP : va_P D vwCl (wv_d cI cJ cZ cM h_d a_d d_p d_r d_t d_slack d_m d_folds (upd d_kinds d_folds.toNatClampNeg p1) (upd d_declared d_folds.toNatClampNeg (vp_nar .boolean p2)) d_states d_lastRow d_lastValue d_hasValue d_touched d_parts d_rows d_inRound d_rounds d_flips d_passed d_matches d_moved d_time d_out d_loads d_counterKey d_counterCount d_counterError d_smalls d_smallKey d_smallWeight d_timers d_timerKey d_timerTime d_logged d_logKey d_logTime d_logState d_marks d_markState d_markValue d_markHas d_markSmalls d_markSmallKey d_markSmallWeight d_markTimers d_markTimerKey d_markTimerTime d_markTime d_markRows d_markMatches d_markOut d_comes) H := hP
            have hD : va_D A (wv_d cI cJ cZ cM h_d a_d d_p d_r d_t d_slack d_m d_folds (upd d_kinds d_folds.toNatClampNeg p1) (upd d_declared d_folds.toNatClampNeg (vp_nar .boolean p2)) d_states d_lastRow d_lastValue d_hasValue d_touched d_parts d_rows d_inRound d_rounds d_flips d_passed d_matches d_moved d_time d_out d_loads d_counterKey d_counterCount d_counterError d_smalls d_smallKey d_smallWeight d_timers d_timerKey d_timerTime d_logged d_logKey d_logTime d_logState d_marks d_markState d_markValue d_markHas d_markSmalls d_markSmallKey d_markSmallWeight d_markTimers d_markTimerKey d_markTimerTime d_markTime d_markRows d_markMatches d_markOut d_comes) := hD
            refine lv_iconst (v := 0) hx hb dX8_fold_71 (by decide) ?_
            refine lv_istore_n (lv' := [(3, .int 0), (0, .ref h_d), (1, .int p1), (2, .int p2)]) hx hb dX8_fold_72 rfl hl (by decide) rfl (fun ls hl => ?_)
            have P73 : ∀ (n : Nat) (v8 : Int32 × (Nat → Int64) × (Nat → Int32) × (Nat → Int32) × (Nat → Int32)) (H : Heap) (locs : List Loc) (ls : Array Slot), va_P D vwCl (wv_d cI cJ cZ cM h_d a_d d_p d_r d_t d_slack d_m d_folds (upd d_kinds d_folds.toNatClampNeg p1) (upd d_declared d_folds.toNatClampNeg (vp_nar .boolean p2)) v8.2.1 v8.2.2.1 d_lastValue v8.2.2.2.1 v8.2.2.2.2 d_parts d_rows d_inRound d_rounds d_flips d_passed d_matches d_moved d_time d_out d_loads d_counterKey d_counterCount d_counterError d_smalls d_smallKey d_smallWeight d_timers d_timerKey d_timerTime d_logged d_logKey d_logTime d_logState d_marks d_markState d_markValue d_markHas d_markSmalls d_markSmallKey d_markSmallWeight d_markTimers d_markTimerKey d_markTimerTime d_markTime d_markRows d_markMatches d_markOut d_comes) H → va_D A (wv_d cI cJ cZ cM h_d a_d d_p d_r d_t d_slack d_m d_folds (upd d_kinds d_folds.toNatClampNeg p1) (upd d_declared d_folds.toNatClampNeg (vp_nar .boolean p2)) v8.2.1 v8.2.2.1 d_lastValue v8.2.2.2.1 v8.2.2.2.2 d_parts d_rows d_inRound d_rounds d_flips d_passed d_matches d_moved d_time d_out d_loads d_counterKey d_counterCount d_counterError d_smalls d_smallKey d_smallWeight d_timers d_timerKey d_timerTime d_logged d_logKey d_logTime d_logState d_marks d_markState d_markValue d_markHas d_markSmalls d_markSmallKey d_markSmallWeight d_markTimers d_markTimerKey d_markTimerTime d_markTime d_markRows d_markMatches d_markOut d_comes) → va_S A s.heap H locs → lv_has ls 4 [(0, .ref h_d), (1, .int p1), (2, .int p2), (3, .int v8.1)] → hk_lp (wb_d_fold_73 d_folds d_kinds d_declared p1 p2 post) n v8 → W p l e (headSpec (hk_ws yX8_fold cX8_fold 4 (some .int)) (hk_rm 1 25)).room s m ([.ref h_d, .int p1, .int p2] : List Value).toArray below meth c H locs 0 0 (MQ below (va_Qi post (hk_B D (A) (fun (u : Int32 × (Nat → Int32) × (Nat → Int32) × (Nat → Int64) × (Nat → Int32) × (Nat → Int32) × (Nat → Int32)) => wv_d cI cJ cZ cM h_d a_d d_p d_r d_t d_slack d_m u.1 u.2.1 u.2.2.1 u.2.2.2.1 u.2.2.2.2.1 d_lastValue u.2.2.2.2.2.1 u.2.2.2.2.2.2 d_parts d_rows d_inRound d_rounds d_flips d_passed d_matches d_moved d_time d_out d_loads d_counterKey d_counterCount d_counterError d_smalls d_smallKey d_smallWeight d_timers d_timerKey d_timerTime d_logged d_logKey d_logTime d_logState d_marks d_markState d_markValue d_markHas d_markSmalls d_markSmallKey d_markSmallWeight d_markTimers d_markTimerKey d_markTimerTime d_markTime d_markRows d_markMatches d_markOut d_comes)) (A)) ([.ref h_d, .int p1, .int p2] : List Value).toArray s 0 0 A) (F0 m 73 ls []) := by
              intro n
              induction n with
              | zero => intro v8 H locs ls hP hD hS hl h; exact False.elim h
              | succ n ih73 =>
                intro v8 H locs ls hP hD hS hl h
                have h : wb_d_fold_73 d_folds d_kinds d_declared p1 p2 post (hk_lp (wb_d_fold_73 d_folds d_kinds d_declared p1 p2 post) n) v8 := h
                generalize hk_lp (wb_d_fold_73 d_folds d_kinds d_declared p1 p2 post) n = K73 at h ih73
                unfold wb_d_fold_73 at h
                refine lv_iload_n hx hb dX8_fold_73 rfl (lv_at hl 3 rfl) ?_
                refine lv_bipush (v := 100) hx hb dX8_fold_74 (by decide) ?_
                refine lv_icmp_ge (tgt := 128) hx hb dX8_fold_76 (by decide) (fun c9 => ?_) (fun c9 => ?_)
                · have h := h.1 c9
                  refine lv_aload_n hx hb dX8_fold_128 rfl (lv_at hl 0 rfl) ?_
                  refine lv_dup hx hb dX8_fold_129 rfl ?_
                  refine va_get (D := D) (ci := 8) (v := .int d_folds) (C := RX8) (T := TX8) (N := 52) hx hb hta ih_X8 hown hK hP 0 rfl rfl 5 (by decide) (hta _ hw_751) (fun _ h9 => h9) rfl dX8_fold_130 ?_
                  refine lv_iconst (v := 1) hx hb dX8_fold_133 (by decide) ?_
                  refine lv_iadd hx hb dX8_fold_134 ?_
                  refine lv_topi (fun x10 ex10 => ?_)
                  have h := h x10 ex10
                  refine va_put (D := D) (ci := 8) (v := .int x10) (ty := .int) (C := RX8) (T := TX8) (N := 52) hx hb hta ih_X8 tyX8 tyX8_ok nmX8 hown hK hP hD hS 0 rfl rfl 5 (by decide) (hta _ hw_751) (fun _ h9 => h9) rfl (by decide +kernel) rfl rfl (Nat.le_of_ble_eq_true rfl) dX8_fold_135 (fun H locs hP hD hS => ?_)
                  have hP : va_P D vwCl (wv_d cI cJ cZ cM h_d a_d d_p d_r d_t d_slack d_m x10 (upd d_kinds d_folds.toNatClampNeg p1) (upd d_declared d_folds.toNatClampNeg (vp_nar .boolean p2)) v8.2.1 v8.2.2.1 d_lastValue v8.2.2.2.1 v8.2.2.2.2 d_parts d_rows d_inRound d_rounds d_flips d_passed d_matches d_moved d_time d_out d_loads d_counterKey d_counterCount d_counterError d_smalls d_smallKey d_smallWeight d_timers d_timerKey d_timerTime d_logged d_logKey d_logTime d_logState d_marks d_markState d_markValue d_markHas d_markSmalls d_markSmallKey d_markSmallWeight d_markTimers d_markTimerKey d_markTimerTime d_markTime d_markRows d_markMatches d_markOut d_comes) H := hP
                  have hD : va_D A (wv_d cI cJ cZ cM h_d a_d d_p d_r d_t d_slack d_m x10 (upd d_kinds d_folds.toNatClampNeg p1) (upd d_declared d_folds.toNatClampNeg (vp_nar .boolean p2)) v8.2.1 v8.2.2.1 d_lastValue v8.2.2.2.1 v8.2.2.2.2 d_parts d_rows d_inRound d_rounds d_flips d_passed d_matches d_moved d_time d_out d_loads d_counterKey d_counterCount d_counterError d_smalls d_smallKey d_smallWeight d_timers d_timerKey d_timerTime d_logged d_logKey d_logTime d_logState d_marks d_markState d_markValue d_markHas d_markSmalls d_markSmallKey d_markSmallWeight d_markTimers d_markTimerKey d_markTimerTime d_markTime d_markRows d_markMatches d_markOut d_comes) := hD
                  refine lv_aload_n hx hb dX8_fold_138 rfl (lv_at hl 0 rfl) ?_
                  refine va_get (D := D) (ci := 8) (v := .int x10) (C := RX8) (T := TX8) (N := 52) hx hb hta ih_X8 hown hK hP 0 rfl rfl 5 (by decide) (hta _ hw_751) (fun _ h9 => h9) rfl dX8_fold_139 ?_
                  refine lv_iconst (v := 1) hx hb dX8_fold_142 (by decide) ?_
                  refine lv_isub hx hb dX8_fold_143 ?_
                  exact W.iret (v := x10 - 1) hx hb hr (fun t ht hW => ⟨⟨x10 - 1, (x10, upd d_kinds d_folds.toNatClampNeg p1, upd d_declared d_folds.toNatClampNeg (vp_nar .boolean p2), v8.2.1, v8.2.2.1, v8.2.2.2.1, v8.2.2.2.2), rfl, h, by rw [ht]; exact hP, hD⟩, hS.F ht⟩) hS.2.2 dX8_fold_144
                · have h := h.2 c9
                  refine lv_aload_n hx hb dX8_fold_79 rfl (lv_at hl 0 rfl) ?_
                  refine va_get (D := D) (ci := 8) (v := .ref (a_d 8)) (C := RX8) (T := TX8) (N := 52) hx hb hta ih_X8 hown hK hP 0 rfl rfl 8 (by decide) (hta _ hw_754) (fun _ h9 => h9) rfl dX8_fold_80 ?_
                  refine lv_bipush (v := 6) hx hb dX8_fold_83 (by decide) ?_
                  refine lv_iload_n hx hb dX8_fold_85 rfl (lv_at hl 3 rfl) ?_
                  refine lv_imul hx hb dX8_fold_86 ?_
                  refine lv_aload_n hx hb dX8_fold_87 rfl (lv_at hl 0 rfl) ?_
                  refine va_get (D := D) (ci := 8) (v := .int d_folds) (C := RX8) (T := TX8) (N := 52) hx hb hta ih_X8 hown hK hP 0 rfl rfl 5 (by decide) (hta _ hw_751) (fun _ h9 => h9) rfl dX8_fold_88 ?_
                  refine lv_iadd hx hb dX8_fold_91 ?_
                  refine lv_aload_n hx hb dX8_fold_92 rfl (lv_at hl 0 rfl) ?_
                  refine lv_aload_n hx hb dX8_fold_93 rfl (lv_at hl 0 rfl) ?_
                  refine va_get (D := D) (ci := 8) (v := .int d_folds) (C := RX8) (T := TX8) (N := 52) hx hb hta ih_X8 hown hK hP 0 rfl rfl 5 (by decide) (hta _ hw_751) (fun _ h9 => h9) rfl dX8_fold_94 ?_
                  refine vp_callSl (hk_runV (As := [.int d_folds]) (rest := [.int ((6 * v8.1) + d_folds), .ref (a_d 8)]) S0 mm_d_emptyOf (c_d_emptyOf l D cI cJ cZ cM h_d a_d d_p d_r d_t d_slack d_m d_folds (upd d_kinds d_folds.toNatClampNeg p1) (upd d_declared d_folds.toNatClampNeg (vp_nar .boolean p2)) v8.2.1 v8.2.2.1 d_lastValue v8.2.2.2.1 v8.2.2.2.2 d_parts d_rows d_inRound d_rounds d_flips d_passed d_matches d_moved d_time d_out d_loads d_counterKey d_counterCount d_counterError d_smalls d_smallKey d_smallWeight d_timers d_timerKey d_timerTime d_logged d_logKey d_logTime d_logState d_marks d_markState d_markValue d_markHas d_markSmalls d_markSmallKey d_markSmallWeight d_markTimers d_markTimerKey d_markTimerTime d_markTime d_markRows d_markMatches d_markOut d_comes d_folds _ h) hw_732 hk_blR (hk_atR hP hK hN) (va_recv hK hP (ci := 8) (q0 := 0) rfl rfl) ⟨rfl, rfl, Nat.le_of_ble_eq_true rfl, Nat.le_of_ble_eq_true rfl⟩ rfl hl.1 rfl (Nat.le_of_ble_eq_true rfl) dX8_fold_97 ⟨Nat.le_of_ble_eq_true rfl, Nat.le_of_ble_eq_true rfl⟩).run (fun r11 h => ?_)
                  refine va_last hx hb hK hP hD hS 3 1 rfl rfl h.1 dX8_fold_100 (fun H locs hP hD hS => ?_)
                  have h := h.2
                  have hP : va_P D vwCl (wv_d cI cJ cZ cM h_d a_d d_p d_r d_t d_slack d_m d_folds (upd d_kinds d_folds.toNatClampNeg p1) (upd d_declared d_folds.toNatClampNeg (vp_nar .boolean p2)) (vp_updL v8.2.1 ((6 * v8.1) + d_folds).toNatClampNeg r11) v8.2.2.1 d_lastValue v8.2.2.2.1 v8.2.2.2.2 d_parts d_rows d_inRound d_rounds d_flips d_passed d_matches d_moved d_time d_out d_loads d_counterKey d_counterCount d_counterError d_smalls d_smallKey d_smallWeight d_timers d_timerKey d_timerTime d_logged d_logKey d_logTime d_logState d_marks d_markState d_markValue d_markHas d_markSmalls d_markSmallKey d_markSmallWeight d_markTimers d_markTimerKey d_markTimerTime d_markTime d_markRows d_markMatches d_markOut d_comes) H := hP
                  have hD : va_D A (wv_d cI cJ cZ cM h_d a_d d_p d_r d_t d_slack d_m d_folds (upd d_kinds d_folds.toNatClampNeg p1) (upd d_declared d_folds.toNatClampNeg (vp_nar .boolean p2)) (vp_updL v8.2.1 ((6 * v8.1) + d_folds).toNatClampNeg r11) v8.2.2.1 d_lastValue v8.2.2.2.1 v8.2.2.2.2 d_parts d_rows d_inRound d_rounds d_flips d_passed d_matches d_moved d_time d_out d_loads d_counterKey d_counterCount d_counterError d_smalls d_smallKey d_smallWeight d_timers d_timerKey d_timerTime d_logged d_logKey d_logTime d_logState d_marks d_markState d_markValue d_markHas d_markSmalls d_markSmallKey d_markSmallWeight d_markTimers d_markTimerKey d_markTimerTime d_markTime d_markRows d_markMatches d_markOut d_comes) := hD
                  refine lv_aload_n hx hb dX8_fold_101 rfl (lv_at hl 0 rfl) ?_
                  refine va_get (D := D) (ci := 8) (v := .ref (a_d 9)) (C := RX8) (T := TX8) (N := 52) hx hb hta ih_X8 hown hK hP 0 rfl rfl 9 (by decide) (hta _ hw_755) (fun _ h9 => h9) rfl dX8_fold_102 ?_
                  refine lv_iload_n hx hb dX8_fold_105 rfl (lv_at hl 3 rfl) ?_
                  refine lv_iconst (v := (-1)) hx hb dX8_fold_106 (by decide) ?_
                  refine va_iast hx hb hK hP hD hS 4 0 rfl rfl h.1 dX8_fold_107 (fun H locs hP hD hS => ?_)
                  have h := h.2
                  have hP : va_P D vwCl (wv_d cI cJ cZ cM h_d a_d d_p d_r d_t d_slack d_m d_folds (upd d_kinds d_folds.toNatClampNeg p1) (upd d_declared d_folds.toNatClampNeg (vp_nar .boolean p2)) (vp_updL v8.2.1 ((6 * v8.1) + d_folds).toNatClampNeg r11) (upd v8.2.2.1 v8.1.toNatClampNeg (-1)) d_lastValue v8.2.2.2.1 v8.2.2.2.2 d_parts d_rows d_inRound d_rounds d_flips d_passed d_matches d_moved d_time d_out d_loads d_counterKey d_counterCount d_counterError d_smalls d_smallKey d_smallWeight d_timers d_timerKey d_timerTime d_logged d_logKey d_logTime d_logState d_marks d_markState d_markValue d_markHas d_markSmalls d_markSmallKey d_markSmallWeight d_markTimers d_markTimerKey d_markTimerTime d_markTime d_markRows d_markMatches d_markOut d_comes) H := hP
                  have hD : va_D A (wv_d cI cJ cZ cM h_d a_d d_p d_r d_t d_slack d_m d_folds (upd d_kinds d_folds.toNatClampNeg p1) (upd d_declared d_folds.toNatClampNeg (vp_nar .boolean p2)) (vp_updL v8.2.1 ((6 * v8.1) + d_folds).toNatClampNeg r11) (upd v8.2.2.1 v8.1.toNatClampNeg (-1)) d_lastValue v8.2.2.2.1 v8.2.2.2.2 d_parts d_rows d_inRound d_rounds d_flips d_passed d_matches d_moved d_time d_out d_loads d_counterKey d_counterCount d_counterError d_smalls d_smallKey d_smallWeight d_timers d_timerKey d_timerTime d_logged d_logKey d_logTime d_logState d_marks d_markState d_markValue d_markHas d_markSmalls d_markSmallKey d_markSmallWeight d_markTimers d_markTimerKey d_markTimerTime d_markTime d_markRows d_markMatches d_markOut d_comes) := hD
                  refine lv_aload_n hx hb dX8_fold_108 rfl (lv_at hl 0 rfl) ?_
                  refine va_get (D := D) (ci := 8) (v := .ref (a_d 11)) (C := RX8) (T := TX8) (N := 52) hx hb hta ih_X8 hown hK hP 0 rfl rfl 11 (by decide) (hta _ hw_757) (fun _ h9 => h9) rfl dX8_fold_109 ?_
                  refine lv_iload_n hx hb dX8_fold_112 rfl (lv_at hl 3 rfl) ?_
                  refine lv_iconst (v := 0) hx hb dX8_fold_113 (by decide) ?_
                  refine va_zast hx hb hK hP hD hS 6 2 rfl rfl h.1 dX8_fold_114 (fun H locs hP hD hS => ?_)
                  have h := h.2
                  have hP : va_P D vwCl (wv_d cI cJ cZ cM h_d a_d d_p d_r d_t d_slack d_m d_folds (upd d_kinds d_folds.toNatClampNeg p1) (upd d_declared d_folds.toNatClampNeg (vp_nar .boolean p2)) (vp_updL v8.2.1 ((6 * v8.1) + d_folds).toNatClampNeg r11) (upd v8.2.2.1 v8.1.toNatClampNeg (-1)) d_lastValue (upd v8.2.2.2.1 v8.1.toNatClampNeg (vp_nar .boolean 0)) v8.2.2.2.2 d_parts d_rows d_inRound d_rounds d_flips d_passed d_matches d_moved d_time d_out d_loads d_counterKey d_counterCount d_counterError d_smalls d_smallKey d_smallWeight d_timers d_timerKey d_timerTime d_logged d_logKey d_logTime d_logState d_marks d_markState d_markValue d_markHas d_markSmalls d_markSmallKey d_markSmallWeight d_markTimers d_markTimerKey d_markTimerTime d_markTime d_markRows d_markMatches d_markOut d_comes) H := hP
                  have hD : va_D A (wv_d cI cJ cZ cM h_d a_d d_p d_r d_t d_slack d_m d_folds (upd d_kinds d_folds.toNatClampNeg p1) (upd d_declared d_folds.toNatClampNeg (vp_nar .boolean p2)) (vp_updL v8.2.1 ((6 * v8.1) + d_folds).toNatClampNeg r11) (upd v8.2.2.1 v8.1.toNatClampNeg (-1)) d_lastValue (upd v8.2.2.2.1 v8.1.toNatClampNeg (vp_nar .boolean 0)) v8.2.2.2.2 d_parts d_rows d_inRound d_rounds d_flips d_passed d_matches d_moved d_time d_out d_loads d_counterKey d_counterCount d_counterError d_smalls d_smallKey d_smallWeight d_timers d_timerKey d_timerTime d_logged d_logKey d_logTime d_logState d_marks d_markState d_markValue d_markHas d_markSmalls d_markSmallKey d_markSmallWeight d_markTimers d_markTimerKey d_markTimerTime d_markTime d_markRows d_markMatches d_markOut d_comes) := hD
                  refine lv_aload_n hx hb dX8_fold_115 rfl (lv_at hl 0 rfl) ?_
                  refine va_get (D := D) (ci := 8) (v := .ref (a_d 12)) (C := RX8) (T := TX8) (N := 52) hx hb hta ih_X8 hown hK hP 0 rfl rfl 12 (by decide) (hta _ hw_758) (fun _ h9 => h9) rfl dX8_fold_116 ?_
                  refine lv_iload_n hx hb dX8_fold_119 rfl (lv_at hl 3 rfl) ?_
                  refine lv_iconst (v := 0) hx hb dX8_fold_120 (by decide) ?_
                  refine va_zast hx hb hK hP hD hS 7 2 rfl rfl h.1 dX8_fold_121 (fun H locs hP hD hS => ?_)
                  have h := h.2
                  have hP : va_P D vwCl (wv_d cI cJ cZ cM h_d a_d d_p d_r d_t d_slack d_m d_folds (upd d_kinds d_folds.toNatClampNeg p1) (upd d_declared d_folds.toNatClampNeg (vp_nar .boolean p2)) (vp_updL v8.2.1 ((6 * v8.1) + d_folds).toNatClampNeg r11) (upd v8.2.2.1 v8.1.toNatClampNeg (-1)) d_lastValue (upd v8.2.2.2.1 v8.1.toNatClampNeg (vp_nar .boolean 0)) (upd v8.2.2.2.2 v8.1.toNatClampNeg (vp_nar .boolean 0)) d_parts d_rows d_inRound d_rounds d_flips d_passed d_matches d_moved d_time d_out d_loads d_counterKey d_counterCount d_counterError d_smalls d_smallKey d_smallWeight d_timers d_timerKey d_timerTime d_logged d_logKey d_logTime d_logState d_marks d_markState d_markValue d_markHas d_markSmalls d_markSmallKey d_markSmallWeight d_markTimers d_markTimerKey d_markTimerTime d_markTime d_markRows d_markMatches d_markOut d_comes) H := hP
                  have hD : va_D A (wv_d cI cJ cZ cM h_d a_d d_p d_r d_t d_slack d_m d_folds (upd d_kinds d_folds.toNatClampNeg p1) (upd d_declared d_folds.toNatClampNeg (vp_nar .boolean p2)) (vp_updL v8.2.1 ((6 * v8.1) + d_folds).toNatClampNeg r11) (upd v8.2.2.1 v8.1.toNatClampNeg (-1)) d_lastValue (upd v8.2.2.2.1 v8.1.toNatClampNeg (vp_nar .boolean 0)) (upd v8.2.2.2.2 v8.1.toNatClampNeg (vp_nar .boolean 0)) d_parts d_rows d_inRound d_rounds d_flips d_passed d_matches d_moved d_time d_out d_loads d_counterKey d_counterCount d_counterError d_smalls d_smallKey d_smallWeight d_timers d_timerKey d_timerTime d_logged d_logKey d_logTime d_logState d_marks d_markState d_markValue d_markHas d_markSmalls d_markSmallKey d_markSmallWeight d_markTimers d_markTimerKey d_markTimerTime d_markTime d_markRows d_markMatches d_markOut d_comes) := hD
                  obtain ⟨x12, ex12⟩ : ∃ y : Int32, y = v8.1 + 1 := ⟨_, rfl⟩
                  have h := h x12 ex12
                  refine lv_iinc (v := x12) (lv' := [(3, .int x12), (0, .ref h_d), (1, .int p1), (2, .int p2)]) hx hb dX8_fold_122 hl (k := 3) rfl (by rw [ex12]; rfl) (by decide) rfl (fun ls hl => ?_)
                  refine lv_goto (tgt := 73) hx hb dX8_fold_125 (by decide) ?_
                  exact ih73 (x12, vp_updL v8.2.1 ((6 * v8.1) + d_folds).toNatClampNeg r11, upd v8.2.2.1 v8.1.toNatClampNeg (-1), upd v8.2.2.2.1 v8.1.toNatClampNeg (vp_nar .boolean 0), upd v8.2.2.2.2 v8.1.toNatClampNeg (vp_nar .boolean 0)) H locs ls hP hD hS (lv_sub hl [1, 2, 3, 0] rfl) h
            obtain ⟨n, h⟩ := h
            exact P73 n (0, d_states, d_lastRow, d_hasValue, d_touched) H locs ls hP hD hS (lv_sub hl [1, 2, 3, 0] rfl) h
          · have h := h.2 c7
            refine lv_bipush (v := (-104)) hx hb dX8_fold_48 (by decide) ?_
            exact W.iret (v := (-104)) hx hb hr (fun t ht hW => ⟨⟨(-104), (d_folds, d_kinds, d_declared, d_states, d_lastRow, d_hasValue, d_touched), rfl, h, by rw [ht]; exact hP, hD⟩, hS.F ht⟩) hS.2.2 dX8_fold_50
        · have h := h.2 c6
          refine lv_bipush (v := (-103)) hx hb dX8_fold_36 (by decide) ?_
          exact W.iret (v := (-103)) hx hb hr (fun t ht hW => ⟨⟨(-103), (d_folds, d_kinds, d_declared, d_states, d_lastRow, d_hasValue, d_touched), rfl, h, by rw [ht]; exact hP, hD⟩, hS.F ht⟩) hS.2.2 dX8_fold_38
  · have h := h.2 c2
    refine lv_bipush (v := (-102)) hx hb dX8_fold_12 (by decide) ?_
    exact W.iret (v := (-102)) hx hb hr (fun t ht hW => ⟨⟨(-102), (d_folds, d_kinds, d_declared, d_states, d_lastRow, d_hasValue, d_touched), rfl, h, by rw [ht]; exact hP, hD⟩, hS.F ht⟩) hS.2.2 dX8_fold_14
def wp_d_folded (p1 : Int32) (p2 : Int64) (p3 : Int32) (p4 : Int32)  (post : Int64 → Prop) : Prop := (p1 = 0 → post (p2 + 1)) ∧ (¬ p1 = 0 → (p1 = 1 → post (p2 + p3.toInt64)) ∧ (¬ p1 = 1 → (p1 = 2 → ((lg_cmp p2 (-4000000000000)) = 0 → post p3.toInt64) ∧ (¬ (lg_cmp p2 (-4000000000000)) = 0 → (0 ≤ (lg_cmp p3.toInt64 p2) → post p2) ∧ (¬ 0 ≤ (lg_cmp p3.toInt64 p2) → post p3.toInt64))) ∧ (¬ p1 = 2 → (p1 = 3 → ((lg_cmp p2 (-4000000000000)) = 0 → post p3.toInt64) ∧ (¬ (lg_cmp p2 (-4000000000000)) = 0 → ((lg_cmp p3.toInt64 p2) ≤ 0 → post p2) ∧ (¬ (lg_cmp p3.toInt64 p2) ≤ 0 → post p3.toInt64))) ∧ (¬ p1 = 3 → (p1 = 4 → post (p2 ||| (hk_lshl 1 (p3 &&& 15)))) ∧ (¬ p1 = 4 → (p1 = 5 → post p3.toInt64) ∧ (¬ p1 = 5 → (p1 = 6 → post ((((31 * p2) + p3.toInt64).toInt32).toInt64)) ∧ (¬ p1 = 6 → (p4 = 0 → post (p2 + 0)) ∧ (¬ p4 = 0 → post (p2 + 1)))))))))
theorem mm_d_folded : hk_MS yX8_folded cX8_folded 5 (some .long) 4 := ⟨hw_940, hw_939, hw_87, by decide +kernel⟩
set_option maxRecDepth 100000 in
set_option maxHeartbeats 4000000 in
theorem c_d_folded (l : Launch) (D : va_G) (cI cJ cZ cM : ClassId)    (p1 : Int32) (p2 : Int64) (p3 : Int32) (p4 : Int32) (post : Int64 → Prop) (h : wp_d_folded p1 p2 p3 p4 post) : Met l yX8_folded (hk_ws yX8_folded cX8_folded 5 (some .long)) (hk_rm 0 0) (va_Pc [.int p1, .long p2, .int p3, .int p4] (hk_PR D (hk_ty cI cJ cZ cM) (([] : va_W)))) (vp_Sl post) 0 0 (fun _ => False) := by
  refine Met.ofW (cc := cX8_folded) (maxL := 5) (ret := (some .long)) (by decide) rfl ?_
  intro p e s m args below meth c s₁ B hml hv
  obtain ⟨rfl, hP, hK, hN⟩ := hv
  have hx := B.exec
  have hb := B.bytes
  have hr := B.returns
  have hts := atoms_spec (ws := hk_ws yX8_folded cX8_folded 5 (some .long)) B.pre
  have hta : ∀ w ∈ hk_all, w.before ([.int p1, .long p2, .int p3, .int p4] : List Value).toArray s = true := fun w hw => hts w (List.mem_cons_of_mem _ hw)
  have hown : s.vm.findClass RX8 = some m.cls := findClass_of_methodNamed B.named
  have hlocks := B.notSynchronized
  have S0 : CallFix p m c cX8_folded 5 s ([.int p1, .long p2, .int p3, .int p4] : List Value).toArray hk_all RX8 := ⟨hx, hb, hml, hown, hta⟩
  have hl := lv_entry ([.int p1, .long p2, .int p3, .int p4]) (n := 5) (Nat.le_of_ble_eq_true rfl)
  rw [lg_entry_eq]
  generalize (lg_sl ([.int p1, .long p2, .int p3, .int p4]) ++ List.replicate (5 - (lg_sl ([.int p1, .long p2, .int p3, .int p4])).length) Slot.unset).toArray = ls at hl ⊢
  have hl : lv_has ls 5 [(0, .int p1), (1, .long p2), (3, .int p3), (4, .int p4)] := hl
  unfold wp_d_folded at h
  refine lv_iload_n hx hb dX8_folded_0 rfl (lv_at hl 0 rfl) ?_
  by_cases c6 : p1 = 0
  · have h := h.1 c6
    refine lv_tableIn (tgt := 44) hx hb dX8_folded_1 (by rw [c6]; decide) (by rw [c6]; decide) (by rw [c6]; rfl) (by decide) ?_
    refine lv_lload_n hx hb dX8_folded_44 rfl (lv_at hl 1 rfl) ?_
    refine lv_lconst (v := 1) hx hb dX8_folded_45 (by decide) ?_
    refine lv_ladd hx hb dX8_folded_46 ?_
    exact W.lret (v := p2 + 1) hx hb hr (fun t ht hW => ⟨_, rfl, h, ht⟩) (fun _ hq => by cases hq) dX8_folded_47
  · have h := h.2 c6
    by_cases c7 : p1 = 1
    · have h := h.1 c7
      refine lv_tableIn (tgt := 48) hx hb dX8_folded_1 (by rw [c7]; decide) (by rw [c7]; decide) (by rw [c7]; rfl) (by decide) ?_
      refine lv_lload_n hx hb dX8_folded_48 rfl (lv_at hl 1 rfl) ?_
      refine lv_iload_n hx hb dX8_folded_49 rfl (lv_at hl 2 rfl) ?_
      refine lv_i2l (v := p3.toInt64) hx hb dX8_folded_50 rfl ?_
      refine lv_ladd hx hb dX8_folded_51 ?_
      exact W.lret (v := p2 + p3.toInt64) hx hb hr (fun t ht hW => ⟨_, rfl, h, ht⟩) (fun _ hq => by cases hq) dX8_folded_52
    · have h := h.2 c7
      by_cases c8 : p1 = 2
      · have h := h.1 c8
        refine lv_tableIn (tgt := 53) hx hb dX8_folded_1 (by rw [c8]; decide) (by rw [c8]; decide) (by rw [c8]; rfl) (by decide) ?_
        refine lv_lload_n hx hb dX8_folded_53 rfl (lv_at hl 1 rfl) ?_
        refine lv_ldc2 (v := (-4000000000000)) hx hb hown (hta _ hw_737) dX8_folded_54 ?_
        refine W.lcmp hx hb dX8_folded_57 ?_
        refine lv_if_eq (tgt := 68) hx hb dX8_folded_58 (by decide) (fun c1 => ?_) (fun c1 => ?_)
        · have h := h.1 c1
          refine lv_iload_n hx hb dX8_folded_68 rfl (lv_at hl 2 rfl) ?_
          refine lv_i2l (v := p3.toInt64) hx hb dX8_folded_69 rfl ?_
          refine lv_goto (tgt := 74) hx hb dX8_folded_70 (by decide) ?_
          exact W.lret (v := p3.toInt64) hx hb hr (fun t ht hW => ⟨_, rfl, h, ht⟩) (fun _ hq => by cases hq) dX8_folded_74
        · have h := h.2 c1
          refine lv_iload_n hx hb dX8_folded_61 rfl (lv_at hl 2 rfl) ?_
          refine lv_i2l (v := p3.toInt64) hx hb dX8_folded_62 rfl ?_
          refine lv_lload_n hx hb dX8_folded_63 rfl (lv_at hl 1 rfl) ?_
          refine W.lcmp hx hb dX8_folded_64 ?_
          refine lv_if_ge (tgt := 73) hx hb dX8_folded_65 (by decide) (fun c2 => ?_) (fun c2 => ?_)
          · have h := h.1 c2
            refine lv_lload_n hx hb dX8_folded_73 rfl (lv_at hl 1 rfl) ?_
            exact W.lret (v := p2) hx hb hr (fun t ht hW => ⟨_, rfl, h, ht⟩) (fun _ hq => by cases hq) dX8_folded_74
          · have h := h.2 c2
            refine lv_iload_n hx hb dX8_folded_68 rfl (lv_at hl 2 rfl) ?_
            refine lv_i2l (v := p3.toInt64) hx hb dX8_folded_69 rfl ?_
            refine lv_goto (tgt := 74) hx hb dX8_folded_70 (by decide) ?_
            exact W.lret (v := p3.toInt64) hx hb hr (fun t ht hW => ⟨_, rfl, h, ht⟩) (fun _ hq => by cases hq) dX8_folded_74
      · have h := h.2 c8
        by_cases c9 : p1 = 3
        · have h := h.1 c9
          refine lv_tableIn (tgt := 75) hx hb dX8_folded_1 (by rw [c9]; decide) (by rw [c9]; decide) (by rw [c9]; rfl) (by decide) ?_
          refine lv_lload_n hx hb dX8_folded_75 rfl (lv_at hl 1 rfl) ?_
          refine lv_ldc2 (v := (-4000000000000)) hx hb hown (hta _ hw_737) dX8_folded_76 ?_
          refine W.lcmp hx hb dX8_folded_79 ?_
          refine lv_if_eq (tgt := 90) hx hb dX8_folded_80 (by decide) (fun c3 => ?_) (fun c3 => ?_)
          · have h := h.1 c3
            refine lv_iload_n hx hb dX8_folded_90 rfl (lv_at hl 2 rfl) ?_
            refine lv_i2l (v := p3.toInt64) hx hb dX8_folded_91 rfl ?_
            refine lv_goto (tgt := 96) hx hb dX8_folded_92 (by decide) ?_
            exact W.lret (v := p3.toInt64) hx hb hr (fun t ht hW => ⟨_, rfl, h, ht⟩) (fun _ hq => by cases hq) dX8_folded_96
          · have h := h.2 c3
            refine lv_iload_n hx hb dX8_folded_83 rfl (lv_at hl 2 rfl) ?_
            refine lv_i2l (v := p3.toInt64) hx hb dX8_folded_84 rfl ?_
            refine lv_lload_n hx hb dX8_folded_85 rfl (lv_at hl 1 rfl) ?_
            refine W.lcmp hx hb dX8_folded_86 ?_
            refine lv_if_le (tgt := 95) hx hb dX8_folded_87 (by decide) (fun c4 => ?_) (fun c4 => ?_)
            · have h := h.1 c4
              refine lv_lload_n hx hb dX8_folded_95 rfl (lv_at hl 1 rfl) ?_
              exact W.lret (v := p2) hx hb hr (fun t ht hW => ⟨_, rfl, h, ht⟩) (fun _ hq => by cases hq) dX8_folded_96
            · have h := h.2 c4
              refine lv_iload_n hx hb dX8_folded_90 rfl (lv_at hl 2 rfl) ?_
              refine lv_i2l (v := p3.toInt64) hx hb dX8_folded_91 rfl ?_
              refine lv_goto (tgt := 96) hx hb dX8_folded_92 (by decide) ?_
              exact W.lret (v := p3.toInt64) hx hb hr (fun t ht hW => ⟨_, rfl, h, ht⟩) (fun _ hq => by cases hq) dX8_folded_96
        · have h := h.2 c9
          by_cases c10 : p1 = 4
          · have h := h.1 c10
            refine lv_tableIn (tgt := 97) hx hb dX8_folded_1 (by rw [c10]; decide) (by rw [c10]; decide) (by rw [c10]; rfl) (by decide) ?_
            refine lv_lload_n hx hb dX8_folded_97 rfl (lv_at hl 1 rfl) ?_
            refine lv_lconst (v := 1) hx hb dX8_folded_98 (by decide) ?_
            refine lv_iload_n hx hb dX8_folded_99 rfl (lv_at hl 2 rfl) ?_
            refine lv_bipush (v := 15) hx hb dX8_folded_100 (by decide) ?_
            refine lv_iand hx hb dX8_folded_102 ?_
            refine lv_lshl (v := hk_lshl 1 (p3 &&& 15)) hx hb dX8_folded_103 rfl ?_
            refine lv_lor hx hb dX8_folded_104 ?_
            exact W.lret (v := p2 ||| (hk_lshl 1 (p3 &&& 15))) hx hb hr (fun t ht hW => ⟨_, rfl, h, ht⟩) (fun _ hq => by cases hq) dX8_folded_105
          · have h := h.2 c10
            by_cases c11 : p1 = 5
            · have h := h.1 c11
              refine lv_tableIn (tgt := 106) hx hb dX8_folded_1 (by rw [c11]; decide) (by rw [c11]; decide) (by rw [c11]; rfl) (by decide) ?_
              refine lv_iload_n hx hb dX8_folded_106 rfl (lv_at hl 2 rfl) ?_
              refine lv_i2l (v := p3.toInt64) hx hb dX8_folded_107 rfl ?_
              exact W.lret (v := p3.toInt64) hx hb hr (fun t ht hW => ⟨_, rfl, h, ht⟩) (fun _ hq => by cases hq) dX8_folded_108
            · have h := h.2 c11
              by_cases c12 : p1 = 6
              · have h := h.1 c12
                refine lv_tableIn (tgt := 109) hx hb dX8_folded_1 (by rw [c12]; decide) (by rw [c12]; decide) (by rw [c12]; rfl) (by decide) ?_
                refine lv_ldc2 (v := 31) hx hb hown (hta _ hw_941) dX8_folded_109 ?_
                refine lv_lload_n hx hb dX8_folded_112 rfl (lv_at hl 1 rfl) ?_
                refine lv_lmul hx hb dX8_folded_113 ?_
                refine lv_iload_n hx hb dX8_folded_114 rfl (lv_at hl 2 rfl) ?_
                refine lv_i2l (v := p3.toInt64) hx hb dX8_folded_115 rfl ?_
                refine lv_ladd hx hb dX8_folded_116 ?_
                refine lv_l2i (v := ((31 * p2) + p3.toInt64).toInt32) hx hb dX8_folded_117 rfl ?_
                refine lv_i2l (v := (((31 * p2) + p3.toInt64).toInt32).toInt64) hx hb dX8_folded_118 rfl ?_
                exact W.lret (v := (((31 * p2) + p3.toInt64).toInt32).toInt64) hx hb hr (fun t ht hW => ⟨_, rfl, h, ht⟩) (fun _ hq => by cases hq) dX8_folded_119
              · have h := h.2 c12
                refine lv_tableOut (tgt := 120) hx hb dX8_folded_1 (by have qc6 := lv_neT c6 (a := 0) rfl; have qc7 := lv_neT c7 (a := 1) rfl; have qc8 := lv_neT c8 (a := 2) rfl; have qc9 := lv_neT c9 (a := 3) rfl; have qc10 := lv_neT c10 (a := 4) rfl; have qc11 := lv_neT c11 (a := 5) rfl; have qc12 := lv_neT c12 (a := 6) rfl; omega) (by decide) ?_
                refine lv_lload_n hx hb dX8_folded_120 rfl (lv_at hl 1 rfl) ?_
                refine lv_iload hx hb dX8_folded_121 (lv_at hl 3 rfl) ?_
                refine lv_if_eq (tgt := 130) hx hb dX8_folded_123 (by decide) (fun c5 => ?_) (fun c5 => ?_)
                · have h := h.1 c5
                  refine lv_lconst (v := 0) hx hb dX8_folded_130 (by decide) ?_
                  refine lv_ladd hx hb dX8_folded_131 ?_
                  exact W.lret (v := p2 + 0) hx hb hr (fun t ht hW => ⟨_, rfl, h, ht⟩) (fun _ hq => by cases hq) dX8_folded_132
                · have h := h.2 c5
                  refine lv_lconst (v := 1) hx hb dX8_folded_126 (by decide) ?_
                  refine lv_goto (tgt := 131) hx hb dX8_folded_127 (by decide) ?_
                  refine lv_ladd hx hb dX8_folded_131 ?_
                  exact W.lret (v := p2 + 1) hx hb hr (fun t ht hW => ⟨_, rfl, h, ht⟩) (fun _ hq => by cases hq) dX8_folded_132
def wp_d_partOfRow (p1 : Int32) (p2 : Int32)  (post : Int32 → Prop) : Prop := ¬ p2 = 0 ∧ (post ((hk_ushr (p1 * (-1640531535)) 16) - (hk_ushr (p1 * (-1640531535)) 16) / p2 * p2))
theorem mm_d_partOfRow : hk_MV yX8_partOfRow cX8_partOfRow 3 (some .int) 2 := ⟨hw_936, hw_935, hw_63, hw_87, by decide +kernel⟩
set_option maxRecDepth 100000 in
set_option maxHeartbeats 4000000 in
theorem c_d_partOfRow (l : Launch) (D : va_G) (cI cJ cZ cM : ClassId) (h_d : Nat) (a_d : Nat → Nat)  (d_p : Int32) (d_r : Int32) (d_t : Int32) (d_slack : Int32) (d_m : Int32) (d_folds : Int32) (d_kinds : Nat → Int32) (d_declared : Nat → Int32) (d_states : Nat → Int64) (d_lastRow : Nat → Int32) (d_lastValue : Nat → Int32) (d_hasValue : Nat → Int32) (d_touched : Nat → Int32) (d_parts : Nat → Int32) (d_rows : Int32) (d_inRound : Int32) (d_rounds : Int32) (d_flips : Int32) (d_passed : Int32) (d_matches : Int32) (d_moved : Int32) (d_time : Int32) (d_out : Int64) (d_loads : Nat → Int32) (d_counterKey : Nat → Int32) (d_counterCount : Nat → Int32) (d_counterError : Nat → Int32) (d_smalls : Int32) (d_smallKey : Nat → Int32) (d_smallWeight : Nat → Int32) (d_timers : Int32) (d_timerKey : Nat → Int32) (d_timerTime : Nat → Int32) (d_logged : Int32) (d_logKey : Nat → Int32) (d_logTime : Nat → Int32) (d_logState : Nat → Int64) (d_marks : Int32) (d_markState : Nat → Int64) (d_markValue : Nat → Int32) (d_markHas : Nat → Int32) (d_markSmalls : Nat → Int32) (d_markSmallKey : Nat → Int32) (d_markSmallWeight : Nat → Int32) (d_markTimers : Nat → Int32) (d_markTimerKey : Nat → Int32) (d_markTimerTime : Nat → Int32) (d_markTime : Nat → Int32) (d_markRows : Nat → Int32) (d_markMatches : Nat → Int32) (d_markOut : Nat → Int64) (d_comes : Nat → Int64) (p1 : Int32) (p2 : Int32) (post : Int32 → Prop) (h : wp_d_partOfRow p1 p2 post) : Met l yX8_partOfRow (hk_ws yX8_partOfRow cX8_partOfRow 3 (some .int)) (hk_rm 0 0) (va_Pc [.ref h_d, .int p1, .int p2] (hk_PR D (hk_ty cI cJ cZ cM) (wv_d cI cJ cZ cM h_d a_d d_p d_r d_t d_slack d_m d_folds d_kinds d_declared d_states d_lastRow d_lastValue d_hasValue d_touched d_parts d_rows d_inRound d_rounds d_flips d_passed d_matches d_moved d_time d_out d_loads d_counterKey d_counterCount d_counterError d_smalls d_smallKey d_smallWeight d_timers d_timerKey d_timerTime d_logged d_logKey d_logTime d_logState d_marks d_markState d_markValue d_markHas d_markSmalls d_markSmallKey d_markSmallWeight d_markTimers d_markTimerKey d_markTimerTime d_markTime d_markRows d_markMatches d_markOut d_comes))) (vp_Si post) 0 0 (fun _ => False) := by
  refine Met.ofW (cc := cX8_partOfRow) (maxL := 3) (ret := (some .int)) (by decide) rfl ?_
  intro p e s m args below meth c s₁ B hml hv
  obtain ⟨rfl, hP, hK, hN⟩ := hv
  have hx := B.exec
  have hb := B.bytes
  have hr := B.returns
  have hts := atoms_spec (ws := hk_ws yX8_partOfRow cX8_partOfRow 3 (some .int)) B.pre
  have hta : ∀ w ∈ hk_all, w.before ([.ref h_d, .int p1, .int p2] : List Value).toArray s = true := fun w hw => hts w (List.mem_cons_of_mem _ hw)
  have hown : s.vm.findClass RX8 = some m.cls := findClass_of_methodNamed B.named
  have hlocks := B.notSynchronized
  have S0 : CallFix p m c cX8_partOfRow 3 s ([.ref h_d, .int p1, .int p2] : List Value).toArray hk_all RX8 := ⟨hx, hb, hml, hown, hta⟩
  have hl := lv_entry ([.ref h_d, .int p1, .int p2]) (n := 3) (Nat.le_of_ble_eq_true rfl)
  rw [lg_entry_eq]
  generalize (lg_sl ([.ref h_d, .int p1, .int p2]) ++ List.replicate (3 - (lg_sl ([.ref h_d, .int p1, .int p2])).length) Slot.unset).toArray = ls at hl ⊢
  have hl : lv_has ls 3 [(0, .ref h_d), (1, .int p1), (2, .int p2)] := hl
  unfold wp_d_partOfRow at h
  refine lv_iload_n hx hb dX8_partOfRow_0 rfl (lv_at hl 1 rfl) ?_
  refine lv_ldc (v := (-1640531535)) hx hb hown (hta _ hw_937) dX8_partOfRow_1 ?_
  refine lv_imul hx hb dX8_partOfRow_3 ?_
  refine lv_bipush (v := 16) hx hb dX8_partOfRow_4 (by decide) ?_
  refine lv_iushr (v := hk_ushr (p1 * (-1640531535)) 16) hx hb dX8_partOfRow_6 rfl ?_
  refine lv_iload_n hx hb dX8_partOfRow_7 rfl (lv_at hl 2 rfl) ?_
  refine lv_irem hx hb dX8_partOfRow_8 h.1 ?_
  have h := h.2
  exact W.iret (v := (hk_ushr (p1 * (-1640531535)) 16) - (hk_ushr (p1 * (-1640531535)) 16) / p2 * p2) hx hb hr (fun t ht hW => ⟨_, rfl, h, ht⟩) (fun _ hq => by cases hq) dX8_partOfRow_9
def wb_d_counterOf_9 (d_counterKey : Nat → Int32) (p1 : Int32) (post : Int32 → Prop) (K9 : (Int32 × Int32) → Prop) (v2 : Int32 × Int32) : Prop := (v2.2 < 0 → post v2.1) ∧ (¬ v2.2 < 0 → vp_in v2.2 12 ∧ ((¬ (d_counterKey v2.2.toNatClampNeg) = p1 → ∀ x5 : Int32, x5 = v2.2 + (-1) → K9 (v2.1, x5)) ∧ ((d_counterKey v2.2.toNatClampNeg) = p1 → ∀ x6 : Int32, x6 = v2.2 + (-1) → K9 (v2.2, x6))))
def wp_d_counterOf (p1 : Int32) (d_m : Int32) (d_counterKey : Nat → Int32) (post : Int32 → Prop) : Prop := ∀ x1 : Int32, x1 = d_m - 1 → ∃ n, hk_lp (wb_d_counterOf_9 d_counterKey p1 post) n ((-1), x1)
theorem mm_d_counterOf : hk_MV yX8_counterOf cX8_counterOf 4 (some .int) 1 := ⟨hw_957, hw_956, hw_67, hw_87, by decide +kernel⟩
set_option maxRecDepth 100000 in
set_option maxHeartbeats 4000000 in
theorem c_d_counterOf (l : Launch) (D : va_G) (cI cJ cZ cM : ClassId) (h_d : Nat) (a_d : Nat → Nat)  (d_p : Int32) (d_r : Int32) (d_t : Int32) (d_slack : Int32) (d_m : Int32) (d_folds : Int32) (d_kinds : Nat → Int32) (d_declared : Nat → Int32) (d_states : Nat → Int64) (d_lastRow : Nat → Int32) (d_lastValue : Nat → Int32) (d_hasValue : Nat → Int32) (d_touched : Nat → Int32) (d_parts : Nat → Int32) (d_rows : Int32) (d_inRound : Int32) (d_rounds : Int32) (d_flips : Int32) (d_passed : Int32) (d_matches : Int32) (d_moved : Int32) (d_time : Int32) (d_out : Int64) (d_loads : Nat → Int32) (d_counterKey : Nat → Int32) (d_counterCount : Nat → Int32) (d_counterError : Nat → Int32) (d_smalls : Int32) (d_smallKey : Nat → Int32) (d_smallWeight : Nat → Int32) (d_timers : Int32) (d_timerKey : Nat → Int32) (d_timerTime : Nat → Int32) (d_logged : Int32) (d_logKey : Nat → Int32) (d_logTime : Nat → Int32) (d_logState : Nat → Int64) (d_marks : Int32) (d_markState : Nat → Int64) (d_markValue : Nat → Int32) (d_markHas : Nat → Int32) (d_markSmalls : Nat → Int32) (d_markSmallKey : Nat → Int32) (d_markSmallWeight : Nat → Int32) (d_markTimers : Nat → Int32) (d_markTimerKey : Nat → Int32) (d_markTimerTime : Nat → Int32) (d_markTime : Nat → Int32) (d_markRows : Nat → Int32) (d_markMatches : Nat → Int32) (d_markOut : Nat → Int64) (d_comes : Nat → Int64) (p1 : Int32) (post : Int32 → Prop) (h : wp_d_counterOf p1 d_m d_counterKey post) : Met l yX8_counterOf (hk_ws yX8_counterOf cX8_counterOf 4 (some .int)) (hk_rm 0 0) (va_Pc [.ref h_d, .int p1] (hk_PR D (hk_ty cI cJ cZ cM) (wv_d cI cJ cZ cM h_d a_d d_p d_r d_t d_slack d_m d_folds d_kinds d_declared d_states d_lastRow d_lastValue d_hasValue d_touched d_parts d_rows d_inRound d_rounds d_flips d_passed d_matches d_moved d_time d_out d_loads d_counterKey d_counterCount d_counterError d_smalls d_smallKey d_smallWeight d_timers d_timerKey d_timerTime d_logged d_logKey d_logTime d_logState d_marks d_markState d_markValue d_markHas d_markSmalls d_markSmallKey d_markSmallWeight d_markTimers d_markTimerKey d_markTimerTime d_markTime d_markRows d_markMatches d_markOut d_comes))) (vp_Si post) 0 0 (fun _ => False) := by
  refine Met.ofW (cc := cX8_counterOf) (maxL := 4) (ret := (some .int)) (by decide) rfl ?_
  intro p e s m args below meth c s₁ B hml hv
  obtain ⟨rfl, hP, hK, hN⟩ := hv
  have hx := B.exec
  have hb := B.bytes
  have hr := B.returns
  have hts := atoms_spec (ws := hk_ws yX8_counterOf cX8_counterOf 4 (some .int)) B.pre
  have hta : ∀ w ∈ hk_all, w.before ([.ref h_d, .int p1] : List Value).toArray s = true := fun w hw => hts w (List.mem_cons_of_mem _ hw)
  have hown : s.vm.findClass RX8 = some m.cls := findClass_of_methodNamed B.named
  have hlocks := B.notSynchronized
  have S0 : CallFix p m c cX8_counterOf 4 s ([.ref h_d, .int p1] : List Value).toArray hk_all RX8 := ⟨hx, hb, hml, hown, hta⟩
  have hl := lv_entry ([.ref h_d, .int p1]) (n := 4) (Nat.le_of_ble_eq_true rfl)
  rw [lg_entry_eq]
  generalize (lg_sl ([.ref h_d, .int p1]) ++ List.replicate (4 - (lg_sl ([.ref h_d, .int p1])).length) Slot.unset).toArray = ls at hl ⊢
  have hl : lv_has ls 4 [(0, .ref h_d), (1, .int p1)] := hl
  unfold wp_d_counterOf at h
  refine lv_iconst (v := (-1)) hx hb dX8_counterOf_0 (by decide) ?_
  refine lv_istore_n (lv' := [(2, .int (-1)), (0, .ref h_d), (1, .int p1)]) hx hb dX8_counterOf_1 rfl hl (by decide) rfl (fun ls hl => ?_)
  refine lv_aload_n hx hb dX8_counterOf_2 rfl (lv_at hl 1 rfl) ?_
  refine va_get (D := D) (ci := 8) (v := .int d_m) (C := RX8) (T := TX8) (N := 52) hx hb hta ih_X8 hown hK hP 0 rfl rfl 4 (by decide) (hta _ hw_750) (fun _ h9 => h9) rfl dX8_counterOf_3 ?_
  refine lv_iconst (v := 1) hx hb dX8_counterOf_6 (by decide) ?_
  refine lv_isub hx hb dX8_counterOf_7 ?_
  refine lv_topi (fun x1 ex1 => ?_)
  have h := h x1 ex1
  refine lv_istore_n (lv' := [(3, .int x1), (2, .int (-1)), (0, .ref h_d), (1, .int p1)]) hx hb dX8_counterOf_8 rfl hl (by decide) rfl (fun ls hl => ?_)
  have P9 : ∀ (n : Nat) (v2 : Int32 × Int32) (ls : Array Slot), lv_has ls 4 [(0, .ref h_d), (1, .int p1), (2, .int v2.1), (3, .int v2.2)] → hk_lp (wb_d_counterOf_9 d_counterKey p1 post) n v2 → W p l e (headSpec (hk_ws yX8_counterOf cX8_counterOf 4 (some .int)) (hk_rm 0 0)).room s m ([.ref h_d, .int p1] : List Value).toArray below meth c s.heap [] 0 0 (MQ below (vp_Si post) ([.ref h_d, .int p1] : List Value).toArray s 0 0 (fun _ => False)) (F0 m 9 ls []) := by
    intro n
    induction n with
    | zero => intro v2 ls hl h; exact False.elim h
    | succ n ih9 =>
      intro v2 ls hl h
      have h : wb_d_counterOf_9 d_counterKey p1 post (hk_lp (wb_d_counterOf_9 d_counterKey p1 post) n) v2 := h
      generalize hk_lp (wb_d_counterOf_9 d_counterKey p1 post) n = K9 at h ih9
      unfold wb_d_counterOf_9 at h
      refine lv_iload_n hx hb dX8_counterOf_9 rfl (lv_at hl 3 rfl) ?_
      refine lv_if_lt (tgt := 35) hx hb dX8_counterOf_10 (by decide) (fun c3 => ?_) (fun c3 => ?_)
      · have h := h.1 c3
        refine lv_iload_n hx hb dX8_counterOf_35 rfl (lv_at hl 2 rfl) ?_
        exact W.iret (v := v2.1) hx hb hr (fun t ht hW => ⟨_, rfl, h, ht⟩) (fun _ hq => by cases hq) dX8_counterOf_36
      · have h := h.2 c3
        refine lv_aload_n hx hb dX8_counterOf_13 rfl (lv_at hl 0 rfl) ?_
        refine va_get (D := D) (ci := 8) (v := .ref (a_d 24)) (C := RX8) (T := TX8) (N := 52) hx hb hta ih_X8 hown hK hP 0 rfl rfl 24 (by decide) (hta _ hw_770) (fun _ h9 => h9) rfl dX8_counterOf_14 ?_
        refine lv_iload_n hx hb dX8_counterOf_17 rfl (lv_at hl 3 rfl) ?_
        refine va_iald hx hb hK hP 10 0 rfl rfl h.1 dX8_counterOf_18 ?_
        have h := h.2
        refine lv_iload_n hx hb dX8_counterOf_19 rfl (lv_at hl 1 rfl) ?_
        refine lv_icmp_ne (tgt := 27) hx hb dX8_counterOf_20 (by decide) (fun c4 => ?_) (fun c4 => ?_)
        · have h := h.1 c4
          refine lv_iload_n hx hb dX8_counterOf_27 rfl (lv_at hl 2 rfl) ?_
          refine lv_istore_n (lv' := [(2, .int v2.1), (0, .ref h_d), (1, .int p1), (3, .int v2.2)]) hx hb dX8_counterOf_28 rfl hl (by decide) rfl (fun ls hl => ?_)
          obtain ⟨x5, ex5⟩ : ∃ y : Int32, y = v2.2 + (-1) := ⟨_, rfl⟩
          have h := h x5 ex5
          refine lv_iinc (v := x5) (lv' := [(3, .int x5), (2, .int v2.1), (0, .ref h_d), (1, .int p1)]) hx hb dX8_counterOf_29 hl (k := 3) rfl (by rw [ex5]; rfl) (by decide) rfl (fun ls hl => ?_)
          refine lv_goto (tgt := 9) hx hb dX8_counterOf_32 (by decide) ?_
          exact ih9 (v2.1, x5) ls (lv_sub hl [2, 3, 1, 0] rfl) h
        · have h := h.2 c4
          refine lv_iload_n hx hb dX8_counterOf_23 rfl (lv_at hl 3 rfl) ?_
          refine lv_goto (tgt := 28) hx hb dX8_counterOf_24 (by decide) ?_
          refine lv_istore_n (lv' := [(2, .int v2.2), (0, .ref h_d), (1, .int p1), (3, .int v2.2)]) hx hb dX8_counterOf_28 rfl hl (by decide) rfl (fun ls hl => ?_)
          obtain ⟨x6, ex6⟩ : ∃ y : Int32, y = v2.2 + (-1) := ⟨_, rfl⟩
          have h := h x6 ex6
          refine lv_iinc (v := x6) (lv' := [(3, .int x6), (2, .int v2.2), (0, .ref h_d), (1, .int p1)]) hx hb dX8_counterOf_29 hl (k := 3) rfl (by rw [ex6]; rfl) (by decide) rfl (fun ls hl => ?_)
          refine lv_goto (tgt := 9) hx hb dX8_counterOf_32 (by decide) ?_
          exact ih9 (v2.2, x6) ls (lv_sub hl [2, 3, 1, 0] rfl) h
  obtain ⟨n, h⟩ := h
  exact P9 n ((-1), x1) ls (lv_sub hl [2, 3, 1, 0] rfl) h
def wb_d_weakest_4 (d_m : Int32) (d_counterKey : Nat → Int32) (d_counterCount : Nat → Int32) (post : Int32 → Prop) (K4 : (Int32 × Int32) → Prop) (v1 : Int32 × Int32) : Prop := (d_m ≤ v1.2 → post v1.1) ∧ (¬ d_m ≤ v1.2 → vp_in v1.1 12 ∧ (((d_counterKey v1.1.toNatClampNeg) = (-1) → ∀ x5 : Int32, x5 = v1.2 + 1 → K4 (v1.1, x5)) ∧ (¬ (d_counterKey v1.1.toNatClampNeg) = (-1) → vp_in v1.2 12 ∧ (((d_counterKey v1.2.toNatClampNeg) = (-1) → ∀ x8 : Int32, x8 = v1.2 + 1 → K4 (v1.2, x8)) ∧ (¬ (d_counterKey v1.2.toNatClampNeg) = (-1) → vp_in v1.2 12 ∧ (vp_in v1.1 12 ∧ (((d_counterCount v1.1.toNatClampNeg) ≤ (d_counterCount v1.2.toNatClampNeg) → ∀ x11 : Int32, x11 = v1.2 + 1 → K4 (v1.1, x11)) ∧ (¬ (d_counterCount v1.1.toNatClampNeg) ≤ (d_counterCount v1.2.toNatClampNeg) → ∀ x13 : Int32, x13 = v1.2 + 1 → K4 (v1.2, x13)))))))))
def wp_d_weakest  (d_m : Int32) (d_counterKey : Nat → Int32) (d_counterCount : Nat → Int32) (post : Int32 → Prop) : Prop := ∃ n, hk_lp (wb_d_weakest_4 d_m d_counterKey d_counterCount post) n (0, 1)
theorem mm_d_weakest : hk_MV yX8_weakest cX8_weakest 4 (some .int) 0 := ⟨hw_961, hw_960, hw_68, hw_87, by decide +kernel⟩
set_option maxRecDepth 100000 in
set_option maxHeartbeats 4000000 in
theorem c_d_weakest (l : Launch) (D : va_G) (cI cJ cZ cM : ClassId) (h_d : Nat) (a_d : Nat → Nat)  (d_p : Int32) (d_r : Int32) (d_t : Int32) (d_slack : Int32) (d_m : Int32) (d_folds : Int32) (d_kinds : Nat → Int32) (d_declared : Nat → Int32) (d_states : Nat → Int64) (d_lastRow : Nat → Int32) (d_lastValue : Nat → Int32) (d_hasValue : Nat → Int32) (d_touched : Nat → Int32) (d_parts : Nat → Int32) (d_rows : Int32) (d_inRound : Int32) (d_rounds : Int32) (d_flips : Int32) (d_passed : Int32) (d_matches : Int32) (d_moved : Int32) (d_time : Int32) (d_out : Int64) (d_loads : Nat → Int32) (d_counterKey : Nat → Int32) (d_counterCount : Nat → Int32) (d_counterError : Nat → Int32) (d_smalls : Int32) (d_smallKey : Nat → Int32) (d_smallWeight : Nat → Int32) (d_timers : Int32) (d_timerKey : Nat → Int32) (d_timerTime : Nat → Int32) (d_logged : Int32) (d_logKey : Nat → Int32) (d_logTime : Nat → Int32) (d_logState : Nat → Int64) (d_marks : Int32) (d_markState : Nat → Int64) (d_markValue : Nat → Int32) (d_markHas : Nat → Int32) (d_markSmalls : Nat → Int32) (d_markSmallKey : Nat → Int32) (d_markSmallWeight : Nat → Int32) (d_markTimers : Nat → Int32) (d_markTimerKey : Nat → Int32) (d_markTimerTime : Nat → Int32) (d_markTime : Nat → Int32) (d_markRows : Nat → Int32) (d_markMatches : Nat → Int32) (d_markOut : Nat → Int64) (d_comes : Nat → Int64)  (post : Int32 → Prop) (h : wp_d_weakest d_m d_counterKey d_counterCount post) : Met l yX8_weakest (hk_ws yX8_weakest cX8_weakest 4 (some .int)) (hk_rm 0 0) (va_Pc [.ref h_d] (hk_PR D (hk_ty cI cJ cZ cM) (wv_d cI cJ cZ cM h_d a_d d_p d_r d_t d_slack d_m d_folds d_kinds d_declared d_states d_lastRow d_lastValue d_hasValue d_touched d_parts d_rows d_inRound d_rounds d_flips d_passed d_matches d_moved d_time d_out d_loads d_counterKey d_counterCount d_counterError d_smalls d_smallKey d_smallWeight d_timers d_timerKey d_timerTime d_logged d_logKey d_logTime d_logState d_marks d_markState d_markValue d_markHas d_markSmalls d_markSmallKey d_markSmallWeight d_markTimers d_markTimerKey d_markTimerTime d_markTime d_markRows d_markMatches d_markOut d_comes))) (vp_Si post) 0 0 (fun _ => False) := by
  refine Met.ofW (cc := cX8_weakest) (maxL := 4) (ret := (some .int)) (by decide) rfl ?_
  intro p e s m args below meth c s₁ B hml hv
  obtain ⟨rfl, hP, hK, hN⟩ := hv
  have hx := B.exec
  have hb := B.bytes
  have hr := B.returns
  have hts := atoms_spec (ws := hk_ws yX8_weakest cX8_weakest 4 (some .int)) B.pre
  have hta : ∀ w ∈ hk_all, w.before ([.ref h_d] : List Value).toArray s = true := fun w hw => hts w (List.mem_cons_of_mem _ hw)
  have hown : s.vm.findClass RX8 = some m.cls := findClass_of_methodNamed B.named
  have hlocks := B.notSynchronized
  have S0 : CallFix p m c cX8_weakest 4 s ([.ref h_d] : List Value).toArray hk_all RX8 := ⟨hx, hb, hml, hown, hta⟩
  have hl := lv_entry ([.ref h_d]) (n := 4) (Nat.le_of_ble_eq_true rfl)
  rw [lg_entry_eq]
  generalize (lg_sl ([.ref h_d]) ++ List.replicate (4 - (lg_sl ([.ref h_d])).length) Slot.unset).toArray = ls at hl ⊢
  have hl : lv_has ls 4 [(0, .ref h_d)] := hl
  unfold wp_d_weakest at h
  refine lv_iconst (v := 0) hx hb dX8_weakest_0 (by decide) ?_
  refine lv_istore_n (lv' := [(1, .int 0), (0, .ref h_d)]) hx hb dX8_weakest_1 rfl hl (by decide) rfl (fun ls hl => ?_)
  refine lv_iconst (v := 1) hx hb dX8_weakest_2 (by decide) ?_
  refine lv_istore_n (lv' := [(2, .int 1), (1, .int 0), (0, .ref h_d)]) hx hb dX8_weakest_3 rfl hl (by decide) rfl (fun ls hl => ?_)
  have P4 : ∀ (n : Nat) (v1 : Int32 × Int32) (ls : Array Slot), lv_has ls 4 [(0, .ref h_d), (1, .int v1.1), (2, .int v1.2)] → hk_lp (wb_d_weakest_4 d_m d_counterKey d_counterCount post) n v1 → W p l e (headSpec (hk_ws yX8_weakest cX8_weakest 4 (some .int)) (hk_rm 0 0)).room s m ([.ref h_d] : List Value).toArray below meth c s.heap [] 0 0 (MQ below (vp_Si post) ([.ref h_d] : List Value).toArray s 0 0 (fun _ => False)) (F0 m 4 ls []) := by
    intro n
    induction n with
    | zero => intro v1 ls hl h; exact False.elim h
    | succ n ih4 =>
      intro v1 ls hl h
      have h : wb_d_weakest_4 d_m d_counterKey d_counterCount post (hk_lp (wb_d_weakest_4 d_m d_counterKey d_counterCount post) n) v1 := h
      generalize hk_lp (wb_d_weakest_4 d_m d_counterKey d_counterCount post) n = K4 at h ih4
      unfold wb_d_weakest_4 at h
      refine lv_iload_n hx hb dX8_weakest_4 rfl (lv_at hl 2 rfl) ?_
      refine lv_aload_n hx hb dX8_weakest_5 rfl (lv_at hl 0 rfl) ?_
      refine va_get (D := D) (ci := 8) (v := .int d_m) (C := RX8) (T := TX8) (N := 52) hx hb hta ih_X8 hown hK hP 0 rfl rfl 4 (by decide) (hta _ hw_750) (fun _ h9 => h9) rfl dX8_weakest_6 ?_
      refine lv_icmp_ge (tgt := 69) hx hb dX8_weakest_9 (by decide) (fun c2 => ?_) (fun c2 => ?_)
      · have h := h.1 c2
        refine lv_iload_n hx hb dX8_weakest_69 rfl (lv_at hl 1 rfl) ?_
        exact W.iret (v := v1.1) hx hb hr (fun t ht hW => ⟨_, rfl, h, ht⟩) (fun _ hq => by cases hq) dX8_weakest_70
      · have h := h.2 c2
        refine lv_aload_n hx hb dX8_weakest_12 rfl (lv_at hl 0 rfl) ?_
        refine va_get (D := D) (ci := 8) (v := .ref (a_d 24)) (C := RX8) (T := TX8) (N := 52) hx hb hta ih_X8 hown hK hP 0 rfl rfl 24 (by decide) (hta _ hw_770) (fun _ h9 => h9) rfl dX8_weakest_13 ?_
        refine lv_iload_n hx hb dX8_weakest_16 rfl (lv_at hl 1 rfl) ?_
        refine va_iald hx hb hK hP 10 0 rfl rfl h.1 dX8_weakest_17 ?_
        have h := h.2
        refine lv_iconst (v := (-1)) hx hb dX8_weakest_18 (by decide) ?_
        refine lv_icmp_eq (tgt := 51) hx hb dX8_weakest_19 (by decide) (fun c3 => ?_) (fun c3 => ?_)
        · have h := h.1 c3
          refine lv_iconst (v := 0) hx hb dX8_weakest_51 (by decide) ?_
          refine lv_istore_n (lv' := [(3, .int 0), (0, .ref h_d), (1, .int v1.1), (2, .int v1.2)]) hx hb dX8_weakest_52 rfl hl (by decide) rfl (fun ls hl => ?_)
          refine lv_iload_n hx hb dX8_weakest_53 rfl (lv_at hl 0 rfl) ?_
          refine lv_if_eq (tgt := 61) hx hb dX8_weakest_54 (by decide) (fun c4 => ?_) (fun c4 => absurd (by decide) c4)
          refine lv_iload_n hx hb dX8_weakest_61 rfl (lv_at hl 2 rfl) ?_
          refine lv_istore_n (lv' := [(1, .int v1.1), (3, .int 0), (0, .ref h_d), (2, .int v1.2)]) hx hb dX8_weakest_62 rfl hl (by decide) rfl (fun ls hl => ?_)
          obtain ⟨x5, ex5⟩ : ∃ y : Int32, y = v1.2 + 1 := ⟨_, rfl⟩
          have h := h x5 ex5
          refine lv_iinc (v := x5) (lv' := [(2, .int x5), (1, .int v1.1), (3, .int 0), (0, .ref h_d)]) hx hb dX8_weakest_63 hl (k := 3) rfl (by rw [ex5]; rfl) (by decide) rfl (fun ls hl => ?_)
          refine lv_goto (tgt := 4) hx hb dX8_weakest_66 (by decide) ?_
          exact ih4 (v1.1, x5) ls (lv_sub hl [3, 1, 0] rfl) h
        · have h := h.2 c3
          refine lv_aload_n hx hb dX8_weakest_22 rfl (lv_at hl 0 rfl) ?_
          refine va_get (D := D) (ci := 8) (v := .ref (a_d 24)) (C := RX8) (T := TX8) (N := 52) hx hb hta ih_X8 hown hK hP 0 rfl rfl 24 (by decide) (hta _ hw_770) (fun _ h9 => h9) rfl dX8_weakest_23 ?_
          refine lv_iload_n hx hb dX8_weakest_26 rfl (lv_at hl 2 rfl) ?_
          refine va_iald hx hb hK hP 10 0 rfl rfl h.1 dX8_weakest_27 ?_
          have h := h.2
          refine lv_iconst (v := (-1)) hx hb dX8_weakest_28 (by decide) ?_
          refine lv_icmp_eq (tgt := 47) hx hb dX8_weakest_29 (by decide) (fun c6 => ?_) (fun c6 => ?_)
          · have h := h.1 c6
            refine lv_iconst (v := 1) hx hb dX8_weakest_47 (by decide) ?_
            refine lv_goto (tgt := 52) hx hb dX8_weakest_48 (by decide) ?_
            refine lv_istore_n (lv' := [(3, .int 1), (0, .ref h_d), (1, .int v1.1), (2, .int v1.2)]) hx hb dX8_weakest_52 rfl hl (by decide) rfl (fun ls hl => ?_)
            refine lv_iload_n hx hb dX8_weakest_53 rfl (lv_at hl 0 rfl) ?_
            refine lv_if_eq (tgt := 61) hx hb dX8_weakest_54 (by decide) (fun c7 => absurd c7 (by decide)) (fun c7 => ?_)
            refine lv_iload_n hx hb dX8_weakest_57 rfl (lv_at hl 3 rfl) ?_
            refine lv_goto (tgt := 62) hx hb dX8_weakest_58 (by decide) ?_
            refine lv_istore_n (lv' := [(1, .int v1.2), (3, .int 1), (0, .ref h_d), (2, .int v1.2)]) hx hb dX8_weakest_62 rfl hl (by decide) rfl (fun ls hl => ?_)
            obtain ⟨x8, ex8⟩ : ∃ y : Int32, y = v1.2 + 1 := ⟨_, rfl⟩
            have h := h x8 ex8
            refine lv_iinc (v := x8) (lv' := [(2, .int x8), (1, .int v1.2), (3, .int 1), (0, .ref h_d)]) hx hb dX8_weakest_63 hl (k := 3) rfl (by rw [ex8]; rfl) (by decide) rfl (fun ls hl => ?_)
            refine lv_goto (tgt := 4) hx hb dX8_weakest_66 (by decide) ?_
            exact ih4 (v1.2, x8) ls (lv_sub hl [3, 1, 0] rfl) h
          · have h := h.2 c6
            refine lv_aload_n hx hb dX8_weakest_32 rfl (lv_at hl 0 rfl) ?_
            refine va_get (D := D) (ci := 8) (v := .ref (a_d 25)) (C := RX8) (T := TX8) (N := 52) hx hb hta ih_X8 hown hK hP 0 rfl rfl 25 (by decide) (hta _ hw_771) (fun _ h9 => h9) rfl dX8_weakest_33 ?_
            refine lv_iload_n hx hb dX8_weakest_36 rfl (lv_at hl 2 rfl) ?_
            refine va_iald hx hb hK hP 11 0 rfl rfl h.1 dX8_weakest_37 ?_
            have h := h.2
            refine lv_aload_n hx hb dX8_weakest_38 rfl (lv_at hl 0 rfl) ?_
            refine va_get (D := D) (ci := 8) (v := .ref (a_d 25)) (C := RX8) (T := TX8) (N := 52) hx hb hta ih_X8 hown hK hP 0 rfl rfl 25 (by decide) (hta _ hw_771) (fun _ h9 => h9) rfl dX8_weakest_39 ?_
            refine lv_iload_n hx hb dX8_weakest_42 rfl (lv_at hl 1 rfl) ?_
            refine va_iald hx hb hK hP 11 0 rfl rfl h.1 dX8_weakest_43 ?_
            have h := h.2
            refine lv_icmp_ge (tgt := 51) hx hb dX8_weakest_44 (by decide) (fun c9 => ?_) (fun c9 => ?_)
            · have h := h.1 c9
              refine lv_iconst (v := 0) hx hb dX8_weakest_51 (by decide) ?_
              refine lv_istore_n (lv' := [(3, .int 0), (0, .ref h_d), (1, .int v1.1), (2, .int v1.2)]) hx hb dX8_weakest_52 rfl hl (by decide) rfl (fun ls hl => ?_)
              refine lv_iload_n hx hb dX8_weakest_53 rfl (lv_at hl 0 rfl) ?_
              refine lv_if_eq (tgt := 61) hx hb dX8_weakest_54 (by decide) (fun c10 => ?_) (fun c10 => absurd (by decide) c10)
              refine lv_iload_n hx hb dX8_weakest_61 rfl (lv_at hl 2 rfl) ?_
              refine lv_istore_n (lv' := [(1, .int v1.1), (3, .int 0), (0, .ref h_d), (2, .int v1.2)]) hx hb dX8_weakest_62 rfl hl (by decide) rfl (fun ls hl => ?_)
              obtain ⟨x11, ex11⟩ : ∃ y : Int32, y = v1.2 + 1 := ⟨_, rfl⟩
              have h := h x11 ex11
              refine lv_iinc (v := x11) (lv' := [(2, .int x11), (1, .int v1.1), (3, .int 0), (0, .ref h_d)]) hx hb dX8_weakest_63 hl (k := 3) rfl (by rw [ex11]; rfl) (by decide) rfl (fun ls hl => ?_)
              refine lv_goto (tgt := 4) hx hb dX8_weakest_66 (by decide) ?_
              exact ih4 (v1.1, x11) ls (lv_sub hl [3, 1, 0] rfl) h
            · have h := h.2 c9
              refine lv_iconst (v := 1) hx hb dX8_weakest_47 (by decide) ?_
              refine lv_goto (tgt := 52) hx hb dX8_weakest_48 (by decide) ?_
              refine lv_istore_n (lv' := [(3, .int 1), (0, .ref h_d), (1, .int v1.1), (2, .int v1.2)]) hx hb dX8_weakest_52 rfl hl (by decide) rfl (fun ls hl => ?_)
              refine lv_iload_n hx hb dX8_weakest_53 rfl (lv_at hl 0 rfl) ?_
              refine lv_if_eq (tgt := 61) hx hb dX8_weakest_54 (by decide) (fun c12 => absurd c12 (by decide)) (fun c12 => ?_)
              refine lv_iload_n hx hb dX8_weakest_57 rfl (lv_at hl 3 rfl) ?_
              refine lv_goto (tgt := 62) hx hb dX8_weakest_58 (by decide) ?_
              refine lv_istore_n (lv' := [(1, .int v1.2), (3, .int 1), (0, .ref h_d), (2, .int v1.2)]) hx hb dX8_weakest_62 rfl hl (by decide) rfl (fun ls hl => ?_)
              obtain ⟨x13, ex13⟩ : ∃ y : Int32, y = v1.2 + 1 := ⟨_, rfl⟩
              have h := h x13 ex13
              refine lv_iinc (v := x13) (lv' := [(2, .int x13), (1, .int v1.2), (3, .int 1), (0, .ref h_d)]) hx hb dX8_weakest_63 hl (k := 3) rfl (by rw [ex13]; rfl) (by decide) rfl (fun ls hl => ?_)
              refine lv_goto (tgt := 4) hx hb dX8_weakest_66 (by decide) ?_
              exact ih4 (v1.2, x13) ls (lv_sub hl [3, 1, 0] rfl) h
  obtain ⟨n, h⟩ := h
  exact P4 n (0, 1) ls (lv_sub hl [2, 1, 0] rfl) h
def wj_d_countKey_40 (d_counterKey : Nat → Int32) (d_counterCount : Nat → Int32) (d_counterError : Nat → Int32) (p1 : Int32) (post : ((Nat → Int32) × (Nat → Int32) × (Nat → Int32)) → Prop) (r4 : Int32) (v6 : Int32) : Prop := vp_in r4 12 ∧ (vp_in r4 12 ∧ (vp_in r4 12 ∧ (∀ x7 : Int32, x7 = (d_counterCount r4.toNatClampNeg) + 1 → vp_in r4 12 ∧ (post (upd d_counterKey r4.toNatClampNeg p1, upd d_counterCount r4.toNatClampNeg x7, upd d_counterError r4.toNatClampNeg v6)))))
def wp_d_countKey (p1 : Int32) (d_m : Int32) (d_counterKey : Nat → Int32) (d_counterCount : Nat → Int32) (d_counterError : Nat → Int32) (post : ((Nat → Int32) × (Nat → Int32) × (Nat → Int32)) → Prop) : Prop := wp_d_counterOf p1 d_m d_counterKey (fun (r1 : Int32) => (0 ≤ r1 → vp_in r1 12 ∧ (∀ x3 : Int32, x3 = (d_counterCount r1.toNatClampNeg) + 1 → vp_in r1 12 ∧ (post (d_counterKey, upd d_counterCount r1.toNatClampNeg x3, d_counterError)))) ∧ (¬ 0 ≤ r1 → wp_d_weakest d_m d_counterKey d_counterCount (fun (r4 : Int32) => vp_in r4 12 ∧ ((¬ (d_counterKey r4.toNatClampNeg) = (-1) → vp_in r4 12 ∧ (wj_d_countKey_40 d_counterKey d_counterCount d_counterError p1 post r4 (d_counterCount r4.toNatClampNeg))) ∧ ((d_counterKey r4.toNatClampNeg) = (-1) → wj_d_countKey_40 d_counterKey d_counterCount d_counterError p1 post r4 0)))))
theorem mm_d_countKey : hk_MV yX8_countKey cX8_countKey 3 none 1 := ⟨hw_953, hw_952, hw_66, hw_87, by decide +kernel⟩
set_option maxRecDepth 100000 in
set_option maxHeartbeats 4000000 in
theorem c_d_countKey (l : Launch) (D : va_G) (cI cJ cZ cM : ClassId) (h_d : Nat) (a_d : Nat → Nat) (sz : Nat) (d_p : Int32) (d_r : Int32) (d_t : Int32) (d_slack : Int32) (d_m : Int32) (d_folds : Int32) (d_kinds : Nat → Int32) (d_declared : Nat → Int32) (d_states : Nat → Int64) (d_lastRow : Nat → Int32) (d_lastValue : Nat → Int32) (d_hasValue : Nat → Int32) (d_touched : Nat → Int32) (d_parts : Nat → Int32) (d_rows : Int32) (d_inRound : Int32) (d_rounds : Int32) (d_flips : Int32) (d_passed : Int32) (d_matches : Int32) (d_moved : Int32) (d_time : Int32) (d_out : Int64) (d_loads : Nat → Int32) (d_counterKey : Nat → Int32) (d_counterCount : Nat → Int32) (d_counterError : Nat → Int32) (d_smalls : Int32) (d_smallKey : Nat → Int32) (d_smallWeight : Nat → Int32) (d_timers : Int32) (d_timerKey : Nat → Int32) (d_timerTime : Nat → Int32) (d_logged : Int32) (d_logKey : Nat → Int32) (d_logTime : Nat → Int32) (d_logState : Nat → Int64) (d_marks : Int32) (d_markState : Nat → Int64) (d_markValue : Nat → Int32) (d_markHas : Nat → Int32) (d_markSmalls : Nat → Int32) (d_markSmallKey : Nat → Int32) (d_markSmallWeight : Nat → Int32) (d_markTimers : Nat → Int32) (d_markTimerKey : Nat → Int32) (d_markTimerTime : Nat → Int32) (d_markTime : Nat → Int32) (d_markRows : Nat → Int32) (d_markMatches : Nat → Int32) (d_markOut : Nat → Int64) (d_comes : Nat → Int64) (p1 : Int32) (post : ((Nat → Int32) × (Nat → Int32) × (Nat → Int32)) → Prop) (h : wp_d_countKey p1 d_m d_counterKey d_counterCount d_counterError post) : Met l yX8_countKey (hk_ws yX8_countKey cX8_countKey 3 none) (hk_rm 1 23) (va_Pc [.ref h_d, .int p1] (hk_PM D (hk_ty cI cJ cZ cM) sz (wv_d cI cJ cZ cM h_d a_d d_p d_r d_t d_slack d_m d_folds d_kinds d_declared d_states d_lastRow d_lastValue d_hasValue d_touched d_parts d_rows d_inRound d_rounds d_flips d_passed d_matches d_moved d_time d_out d_loads d_counterKey d_counterCount d_counterError d_smalls d_smallKey d_smallWeight d_timers d_timerKey d_timerTime d_logged d_logKey d_logTime d_logState d_marks d_markState d_markValue d_markHas d_markSmalls d_markSmallKey d_markSmallWeight d_markTimers d_markTimerKey d_markTimerTime d_markTime d_markRows d_markMatches d_markOut d_comes))) (va_Qv post (hk_B D (va_A (wv_d cI cJ cZ cM h_d a_d d_p d_r d_t d_slack d_m d_folds d_kinds d_declared d_states d_lastRow d_lastValue d_hasValue d_touched d_parts d_rows d_inRound d_rounds d_flips d_passed d_matches d_moved d_time d_out d_loads d_counterKey d_counterCount d_counterError d_smalls d_smallKey d_smallWeight d_timers d_timerKey d_timerTime d_logged d_logKey d_logTime d_logState d_marks d_markState d_markValue d_markHas d_markSmalls d_markSmallKey d_markSmallWeight d_markTimers d_markTimerKey d_markTimerTime d_markTime d_markRows d_markMatches d_markOut d_comes) sz) (fun (u : (Nat → Int32) × (Nat → Int32) × (Nat → Int32)) => wv_d cI cJ cZ cM h_d a_d d_p d_r d_t d_slack d_m d_folds d_kinds d_declared d_states d_lastRow d_lastValue d_hasValue d_touched d_parts d_rows d_inRound d_rounds d_flips d_passed d_matches d_moved d_time d_out d_loads u.1 u.2.1 u.2.2 d_smalls d_smallKey d_smallWeight d_timers d_timerKey d_timerTime d_logged d_logKey d_logTime d_logState d_marks d_markState d_markValue d_markHas d_markSmalls d_markSmallKey d_markSmallWeight d_markTimers d_markTimerKey d_markTimerTime d_markTime d_markRows d_markMatches d_markOut d_comes)) (va_A (wv_d cI cJ cZ cM h_d a_d d_p d_r d_t d_slack d_m d_folds d_kinds d_declared d_states d_lastRow d_lastValue d_hasValue d_touched d_parts d_rows d_inRound d_rounds d_flips d_passed d_matches d_moved d_time d_out d_loads d_counterKey d_counterCount d_counterError d_smalls d_smallKey d_smallWeight d_timers d_timerKey d_timerTime d_logged d_logKey d_logTime d_logState d_marks d_markState d_markValue d_markHas d_markSmalls d_markSmallKey d_markSmallWeight d_markTimers d_markTimerKey d_markTimerTime d_markTime d_markRows d_markMatches d_markOut d_comes) sz)) 0 0 (va_A (wv_d cI cJ cZ cM h_d a_d d_p d_r d_t d_slack d_m d_folds d_kinds d_declared d_states d_lastRow d_lastValue d_hasValue d_touched d_parts d_rows d_inRound d_rounds d_flips d_passed d_matches d_moved d_time d_out d_loads d_counterKey d_counterCount d_counterError d_smalls d_smallKey d_smallWeight d_timers d_timerKey d_timerTime d_logged d_logKey d_logTime d_logState d_marks d_markState d_markValue d_markHas d_markSmalls d_markSmallKey d_markSmallWeight d_markTimers d_markTimerKey d_markTimerTime d_markTime d_markRows d_markMatches d_markOut d_comes) sz) := by
  refine Met.ofW (cc := cX8_countKey) (maxL := 3) (ret := none) (by decide) rfl ?_
  intro p e s m args below meth c s₁ B hml hv
  obtain ⟨rfl, hsz, hP, hK, hD0, hN⟩ := hv
  have hx := B.exec
  have hb := B.bytes
  have hr := B.returns
  have hts := atoms_spec (ws := hk_ws yX8_countKey cX8_countKey 3 none) B.pre
  have hta : ∀ w ∈ hk_all, w.before ([.ref h_d, .int p1] : List Value).toArray s = true := fun w hw => hts w (List.mem_cons_of_mem _ hw)
  have hown : s.vm.findClass RX8 = some m.cls := findClass_of_methodNamed B.named
  have hlocks := B.notSynchronized
  have S0 : CallFix p m c cX8_countKey 3 s ([.ref h_d, .int p1] : List Value).toArray hk_all RX8 := ⟨hx, hb, hml, hown, hta⟩
  subst hsz
  have hD := hD0.self (sz := s.heap.size)
  generalize hAe : va_A (wv_d cI cJ cZ cM h_d a_d d_p d_r d_t d_slack d_m d_folds d_kinds d_declared d_states d_lastRow d_lastValue d_hasValue d_touched d_parts d_rows d_inRound d_rounds d_flips d_passed d_matches d_moved d_time d_out d_loads d_counterKey d_counterCount d_counterError d_smalls d_smallKey d_smallWeight d_timers d_timerKey d_timerTime d_logged d_logKey d_logTime d_logState d_marks d_markState d_markValue d_markHas d_markSmalls d_markSmallKey d_markSmallWeight d_markTimers d_markTimerKey d_markTimerTime d_markTime d_markRows d_markMatches d_markOut d_comes) s.heap.size = A at hD ⊢
  have hA : ∀ q : Nat, s.heap.size ≤ q → A q := fun q h => by rw [← hAe]; exact Or.inr h
  have hS : va_S A s.heap s.heap [] := va_S.rf
  have hl := lv_entry ([.ref h_d, .int p1]) (n := 3) (Nat.le_of_ble_eq_true rfl)
  rw [lg_entry_eq]
  generalize (lg_sl ([.ref h_d, .int p1]) ++ List.replicate (3 - (lg_sl ([.ref h_d, .int p1])).length) Slot.unset).toArray = ls at hl ⊢
  have hl : lv_has ls 3 [(0, .ref h_d), (1, .int p1)] := hl
  unfold wp_d_countKey at h
  refine lv_aload_n hx hb dX8_countKey_0 rfl (lv_at hl 0 rfl) ?_
  refine lv_iload_n hx hb dX8_countKey_1 rfl (lv_at hl 1 rfl) ?_
  refine vp_callSi (hk_runV (As := [.int p1]) (rest := []) S0 mm_d_counterOf (c_d_counterOf l D cI cJ cZ cM h_d a_d d_p d_r d_t d_slack d_m d_folds d_kinds d_declared d_states d_lastRow d_lastValue d_hasValue d_touched d_parts d_rows d_inRound d_rounds d_flips d_passed d_matches d_moved d_time d_out d_loads d_counterKey d_counterCount d_counterError d_smalls d_smallKey d_smallWeight d_timers d_timerKey d_timerTime d_logged d_logKey d_logTime d_logState d_marks d_markState d_markValue d_markHas d_markSmalls d_markSmallKey d_markSmallWeight d_markTimers d_markTimerKey d_markTimerTime d_markTime d_markRows d_markMatches d_markOut d_comes p1 _ h) hw_954 hk_blR (hk_atR hP hK hN) (va_recv hK hP (ci := 8) (q0 := 0) rfl rfl) ⟨rfl, rfl, Nat.le_of_ble_eq_true rfl, Nat.le_of_ble_eq_true rfl⟩ rfl hl.1 rfl (Nat.le_of_ble_eq_true rfl) dX8_countKey_2 ⟨Nat.le_of_ble_eq_true rfl, Nat.le_of_ble_eq_true rfl⟩).run (fun r1 h => ?_)
  refine lv_istore_n (lv' := [(2, .int r1), (0, .ref h_d), (1, .int p1)]) hx hb dX8_countKey_5 rfl hl (by decide) rfl (fun ls hl => ?_)
  refine lv_iload_n hx hb dX8_countKey_6 rfl (lv_at hl 0 rfl) ?_
  refine lv_if_ge (tgt := 48) hx hb dX8_countKey_7 (by decide) (fun c2 => ?_) (fun c2 => ?_)
  · have h := h.1 c2
    refine lv_aload_n hx hb dX8_countKey_48 rfl (lv_at hl 1 rfl) ?_
    refine va_get (D := D) (ci := 8) (v := .ref (a_d 25)) (C := RX8) (T := TX8) (N := 52) hx hb hta ih_X8 hown hK hP 0 rfl rfl 25 (by decide) (hta _ hw_771) (fun _ h9 => h9) rfl dX8_countKey_49 ?_
    refine lv_iload_n hx hb dX8_countKey_52 rfl (lv_at hl 0 rfl) ?_
    refine lv_dup2_11 hx hb dX8_countKey_53 rfl rfl ?_
    refine va_iald hx hb hK hP 11 0 rfl rfl h.1 dX8_countKey_54 ?_
    have h := h.2
    refine lv_iconst (v := 1) hx hb dX8_countKey_55 (by decide) ?_
    refine lv_iadd hx hb dX8_countKey_56 ?_
    refine lv_topi (fun x3 ex3 => ?_)
    have h := h x3 ex3
    refine va_iast hx hb hK hP hD hS 11 0 rfl rfl h.1 dX8_countKey_57 (fun H locs hP hD hS => ?_)
    have h := h.2
    have hP : va_P D vwCl (wv_d cI cJ cZ cM h_d a_d d_p d_r d_t d_slack d_m d_folds d_kinds d_declared d_states d_lastRow d_lastValue d_hasValue d_touched d_parts d_rows d_inRound d_rounds d_flips d_passed d_matches d_moved d_time d_out d_loads d_counterKey (upd d_counterCount r1.toNatClampNeg x3) d_counterError d_smalls d_smallKey d_smallWeight d_timers d_timerKey d_timerTime d_logged d_logKey d_logTime d_logState d_marks d_markState d_markValue d_markHas d_markSmalls d_markSmallKey d_markSmallWeight d_markTimers d_markTimerKey d_markTimerTime d_markTime d_markRows d_markMatches d_markOut d_comes) H := hP
    have hD : va_D A (wv_d cI cJ cZ cM h_d a_d d_p d_r d_t d_slack d_m d_folds d_kinds d_declared d_states d_lastRow d_lastValue d_hasValue d_touched d_parts d_rows d_inRound d_rounds d_flips d_passed d_matches d_moved d_time d_out d_loads d_counterKey (upd d_counterCount r1.toNatClampNeg x3) d_counterError d_smalls d_smallKey d_smallWeight d_timers d_timerKey d_timerTime d_logged d_logKey d_logTime d_logState d_marks d_markState d_markValue d_markHas d_markSmalls d_markSmallKey d_markSmallWeight d_markTimers d_markTimerKey d_markTimerTime d_markTime d_markRows d_markMatches d_markOut d_comes) := hD
    exact W.vret hx hb hr (fun t ht hW => ⟨⟨(d_counterKey, upd d_counterCount r1.toNatClampNeg x3, d_counterError), rfl, h, by rw [ht]; exact hP, hD⟩, hS.F ht⟩) hS.2.2 dX8_countKey_58
  · have h := h.2 c2
    refine lv_aload_n hx hb dX8_countKey_10 rfl (lv_at hl 1 rfl) ?_
    refine vp_callSi (hk_runV (As := []) (rest := []) S0 mm_d_weakest (c_d_weakest l D cI cJ cZ cM h_d a_d d_p d_r d_t d_slack d_m d_folds d_kinds d_declared d_states d_lastRow d_lastValue d_hasValue d_touched d_parts d_rows d_inRound d_rounds d_flips d_passed d_matches d_moved d_time d_out d_loads d_counterKey d_counterCount d_counterError d_smalls d_smallKey d_smallWeight d_timers d_timerKey d_timerTime d_logged d_logKey d_logTime d_logState d_marks d_markState d_markValue d_markHas d_markSmalls d_markSmallKey d_markSmallWeight d_markTimers d_markTimerKey d_markTimerTime d_markTime d_markRows d_markMatches d_markOut d_comes _ h) hw_958 hk_blR (hk_atR hP hK hN) (va_recv hK hP (ci := 8) (q0 := 0) rfl rfl) ⟨rfl, rfl, Nat.le_of_ble_eq_true rfl, Nat.le_of_ble_eq_true rfl⟩ rfl hl.1 rfl (Nat.le_of_ble_eq_true rfl) dX8_countKey_11 ⟨Nat.le_of_ble_eq_true rfl, Nat.le_of_ble_eq_true rfl⟩).run (fun r4 h => ?_)
    refine lv_istore_n (lv' := [(2, .int r4), (0, .ref h_d), (1, .int p1)]) hx hb dX8_countKey_14 rfl hl (by decide) rfl (fun ls hl => ?_)
    refine lv_aload_n hx hb dX8_countKey_15 rfl (lv_at hl 1 rfl) ?_
    refine va_get (D := D) (ci := 8) (v := .ref (a_d 26)) (C := RX8) (T := TX8) (N := 52) hx hb hta ih_X8 hown hK hP 0 rfl rfl 26 (by decide) (hta _ hw_772) (fun _ h9 => h9) rfl dX8_countKey_16 ?_
    refine lv_iload_n hx hb dX8_countKey_19 rfl (lv_at hl 0 rfl) ?_
    refine lv_aload_n hx hb dX8_countKey_20 rfl (lv_at hl 1 rfl) ?_
    refine va_get (D := D) (ci := 8) (v := .ref (a_d 24)) (C := RX8) (T := TX8) (N := 52) hx hb hta ih_X8 hown hK hP 0 rfl rfl 24 (by decide) (hta _ hw_770) (fun _ h9 => h9) rfl dX8_countKey_21 ?_
    refine lv_iload_n hx hb dX8_countKey_24 rfl (lv_at hl 0 rfl) ?_
    refine va_iald hx hb hK hP 10 0 rfl rfl h.1 dX8_countKey_25 ?_
    have h := h.2
    refine lv_iconst (v := (-1)) hx hb dX8_countKey_26 (by decide) ?_
    have J40 : ∀ (v6 : Int32) (ls : Array Slot), lv_has ls 3 [(0, .ref h_d), (1, .int p1), (2, .int r4)] → wj_d_countKey_40 d_counterKey d_counterCount d_counterError p1 post r4 v6 → W p l e (headSpec (hk_ws yX8_countKey cX8_countKey 3 none) (hk_rm 1 23)).room s m ([.ref h_d, .int p1] : List Value).toArray below meth c s.heap [] 0 0 (MQ below (va_Qv post (hk_B D (A) (fun (u : (Nat → Int32) × (Nat → Int32) × (Nat → Int32)) => wv_d cI cJ cZ cM h_d a_d d_p d_r d_t d_slack d_m d_folds d_kinds d_declared d_states d_lastRow d_lastValue d_hasValue d_touched d_parts d_rows d_inRound d_rounds d_flips d_passed d_matches d_moved d_time d_out d_loads u.1 u.2.1 u.2.2 d_smalls d_smallKey d_smallWeight d_timers d_timerKey d_timerTime d_logged d_logKey d_logTime d_logState d_marks d_markState d_markValue d_markHas d_markSmalls d_markSmallKey d_markSmallWeight d_markTimers d_markTimerKey d_markTimerTime d_markTime d_markRows d_markMatches d_markOut d_comes)) (A)) ([.ref h_d, .int p1] : List Value).toArray s 0 0 A) (F0 m 40 ls [.int v6, .int r4, .ref (a_d 26)]) := by
      intro v6 ls hl h
      unfold wj_d_countKey_40 at h
      refine va_iast hx hb hK hP hD hS 12 0 rfl rfl h.1 dX8_countKey_40 (fun H locs hP hD hS => ?_)
      have h := h.2
      have hP : va_P D vwCl (wv_d cI cJ cZ cM h_d a_d d_p d_r d_t d_slack d_m d_folds d_kinds d_declared d_states d_lastRow d_lastValue d_hasValue d_touched d_parts d_rows d_inRound d_rounds d_flips d_passed d_matches d_moved d_time d_out d_loads d_counterKey d_counterCount (upd d_counterError r4.toNatClampNeg v6) d_smalls d_smallKey d_smallWeight d_timers d_timerKey d_timerTime d_logged d_logKey d_logTime d_logState d_marks d_markState d_markValue d_markHas d_markSmalls d_markSmallKey d_markSmallWeight d_markTimers d_markTimerKey d_markTimerTime d_markTime d_markRows d_markMatches d_markOut d_comes) H := hP
      have hD : va_D A (wv_d cI cJ cZ cM h_d a_d d_p d_r d_t d_slack d_m d_folds d_kinds d_declared d_states d_lastRow d_lastValue d_hasValue d_touched d_parts d_rows d_inRound d_rounds d_flips d_passed d_matches d_moved d_time d_out d_loads d_counterKey d_counterCount (upd d_counterError r4.toNatClampNeg v6) d_smalls d_smallKey d_smallWeight d_timers d_timerKey d_timerTime d_logged d_logKey d_logTime d_logState d_marks d_markState d_markValue d_markHas d_markSmalls d_markSmallKey d_markSmallWeight d_markTimers d_markTimerKey d_markTimerTime d_markTime d_markRows d_markMatches d_markOut d_comes) := hD
      refine lv_aload_n hx hb dX8_countKey_41 rfl (lv_at hl 0 rfl) ?_
      refine va_get (D := D) (ci := 8) (v := .ref (a_d 24)) (C := RX8) (T := TX8) (N := 52) hx hb hta ih_X8 hown hK hP 0 rfl rfl 24 (by decide) (hta _ hw_770) (fun _ h9 => h9) rfl dX8_countKey_42 ?_
      refine lv_iload_n hx hb dX8_countKey_45 rfl (lv_at hl 2 rfl) ?_
      refine lv_iload_n hx hb dX8_countKey_46 rfl (lv_at hl 1 rfl) ?_
      refine va_iast hx hb hK hP hD hS 10 0 rfl rfl h.1 dX8_countKey_47 (fun H locs hP hD hS => ?_)
      have h := h.2
      have hP : va_P D vwCl (wv_d cI cJ cZ cM h_d a_d d_p d_r d_t d_slack d_m d_folds d_kinds d_declared d_states d_lastRow d_lastValue d_hasValue d_touched d_parts d_rows d_inRound d_rounds d_flips d_passed d_matches d_moved d_time d_out d_loads (upd d_counterKey r4.toNatClampNeg p1) d_counterCount (upd d_counterError r4.toNatClampNeg v6) d_smalls d_smallKey d_smallWeight d_timers d_timerKey d_timerTime d_logged d_logKey d_logTime d_logState d_marks d_markState d_markValue d_markHas d_markSmalls d_markSmallKey d_markSmallWeight d_markTimers d_markTimerKey d_markTimerTime d_markTime d_markRows d_markMatches d_markOut d_comes) H := hP
      have hD : va_D A (wv_d cI cJ cZ cM h_d a_d d_p d_r d_t d_slack d_m d_folds d_kinds d_declared d_states d_lastRow d_lastValue d_hasValue d_touched d_parts d_rows d_inRound d_rounds d_flips d_passed d_matches d_moved d_time d_out d_loads (upd d_counterKey r4.toNatClampNeg p1) d_counterCount (upd d_counterError r4.toNatClampNeg v6) d_smalls d_smallKey d_smallWeight d_timers d_timerKey d_timerTime d_logged d_logKey d_logTime d_logState d_marks d_markState d_markValue d_markHas d_markSmalls d_markSmallKey d_markSmallWeight d_markTimers d_markTimerKey d_markTimerTime d_markTime d_markRows d_markMatches d_markOut d_comes) := hD
      refine lv_aload_n hx hb dX8_countKey_48 rfl (lv_at hl 0 rfl) ?_
      refine va_get (D := D) (ci := 8) (v := .ref (a_d 25)) (C := RX8) (T := TX8) (N := 52) hx hb hta ih_X8 hown hK hP 0 rfl rfl 25 (by decide) (hta _ hw_771) (fun _ h9 => h9) rfl dX8_countKey_49 ?_
      refine lv_iload_n hx hb dX8_countKey_52 rfl (lv_at hl 2 rfl) ?_
      refine lv_dup2_11 hx hb dX8_countKey_53 rfl rfl ?_
      refine va_iald hx hb hK hP 11 0 rfl rfl h.1 dX8_countKey_54 ?_
      have h := h.2
      refine lv_iconst (v := 1) hx hb dX8_countKey_55 (by decide) ?_
      refine lv_iadd hx hb dX8_countKey_56 ?_
      refine lv_topi (fun x7 ex7 => ?_)
      have h := h x7 ex7
      refine va_iast hx hb hK hP hD hS 11 0 rfl rfl h.1 dX8_countKey_57 (fun H locs hP hD hS => ?_)
      have h := h.2
      have hP : va_P D vwCl (wv_d cI cJ cZ cM h_d a_d d_p d_r d_t d_slack d_m d_folds d_kinds d_declared d_states d_lastRow d_lastValue d_hasValue d_touched d_parts d_rows d_inRound d_rounds d_flips d_passed d_matches d_moved d_time d_out d_loads (upd d_counterKey r4.toNatClampNeg p1) (upd d_counterCount r4.toNatClampNeg x7) (upd d_counterError r4.toNatClampNeg v6) d_smalls d_smallKey d_smallWeight d_timers d_timerKey d_timerTime d_logged d_logKey d_logTime d_logState d_marks d_markState d_markValue d_markHas d_markSmalls d_markSmallKey d_markSmallWeight d_markTimers d_markTimerKey d_markTimerTime d_markTime d_markRows d_markMatches d_markOut d_comes) H := hP
      have hD : va_D A (wv_d cI cJ cZ cM h_d a_d d_p d_r d_t d_slack d_m d_folds d_kinds d_declared d_states d_lastRow d_lastValue d_hasValue d_touched d_parts d_rows d_inRound d_rounds d_flips d_passed d_matches d_moved d_time d_out d_loads (upd d_counterKey r4.toNatClampNeg p1) (upd d_counterCount r4.toNatClampNeg x7) (upd d_counterError r4.toNatClampNeg v6) d_smalls d_smallKey d_smallWeight d_timers d_timerKey d_timerTime d_logged d_logKey d_logTime d_logState d_marks d_markState d_markValue d_markHas d_markSmalls d_markSmallKey d_markSmallWeight d_markTimers d_markTimerKey d_markTimerTime d_markTime d_markRows d_markMatches d_markOut d_comes) := hD
      exact W.vret hx hb hr (fun t ht hW => ⟨⟨(upd d_counterKey r4.toNatClampNeg p1, upd d_counterCount r4.toNatClampNeg x7, upd d_counterError r4.toNatClampNeg v6), rfl, h, by rw [ht]; exact hP, hD⟩, hS.F ht⟩) hS.2.2 dX8_countKey_58
    refine lv_icmp_ne (tgt := 34) hx hb dX8_countKey_27 (by decide) (fun c5 => ?_) (fun c5 => ?_)
    · have h := h.1 c5
      refine lv_aload_n hx hb dX8_countKey_34 rfl (lv_at hl 1 rfl) ?_
      refine va_get (D := D) (ci := 8) (v := .ref (a_d 25)) (C := RX8) (T := TX8) (N := 52) hx hb hta ih_X8 hown hK hP 0 rfl rfl 25 (by decide) (hta _ hw_771) (fun _ h9 => h9) rfl dX8_countKey_35 ?_
      refine lv_iload_n hx hb dX8_countKey_38 rfl (lv_at hl 0 rfl) ?_
      refine va_iald hx hb hK hP 11 0 rfl rfl h.1 dX8_countKey_39 ?_
      have h := h.2
      exact J40 (d_counterCount r4.toNatClampNeg) ls (lv_sub hl [1, 2, 0] rfl) h
    · have h := h.2 c5
      refine lv_iconst (v := 0) hx hb dX8_countKey_30 (by decide) ?_
      refine lv_goto (tgt := 40) hx hb dX8_countKey_31 (by decide) ?_
      exact J40 0 ls (lv_sub hl [1, 2, 0] rfl) h
def wb_d_canSplit_4 (d_folds : Int32) (d_kinds : Nat → Int32) (d_declared : Nat → Int32) (post : Int32 → Prop) (K4 : (Int32 × Int32) → Prop) (v1 : Int32 × Int32) : Prop := (d_folds ≤ v1.2 → (v1.1 = 0 ∨ v1.1 = 1) ∧ post v1.1) ∧ (¬ d_folds ≤ v1.2 → (v1.1 = 0 → ∀ x4 : Int32, x4 = v1.2 + 1 → K4 (0, x4)) ∧ (¬ v1.1 = 0 → vp_in v1.2 6 ∧ (((d_declared v1.2.toNatClampNeg) = 0 → ∀ x6 : Int32, x6 = v1.2 + 1 → K4 (0, x6)) ∧ (¬ (d_declared v1.2.toNatClampNeg) = 0 → vp_in v1.2 6 ∧ ((6 ≤ (d_kinds v1.2.toNatClampNeg) → ∀ x8 : Int32, x8 = v1.2 + 1 → K4 (0, x8)) ∧ (¬ 6 ≤ (d_kinds v1.2.toNatClampNeg) → ∀ x9 : Int32, x9 = v1.2 + 1 → K4 (1, x9)))))))
def wp_d_canSplit  (d_folds : Int32) (d_kinds : Nat → Int32) (d_declared : Nat → Int32) (post : Int32 → Prop) : Prop := ∃ n, hk_lp (wb_d_canSplit_4 d_folds d_kinds d_declared post) n (1, 0)
theorem mm_d_canSplit : hk_MV yX8_canSplit cX8_canSplit 3 (some .boolean) 0 := ⟨hw_969, hw_968, hw_70, hw_87, by decide +kernel⟩
set_option maxRecDepth 100000 in
set_option maxHeartbeats 4000000 in
theorem c_d_canSplit (l : Launch) (D : va_G) (cI cJ cZ cM : ClassId) (h_d : Nat) (a_d : Nat → Nat)  (d_p : Int32) (d_r : Int32) (d_t : Int32) (d_slack : Int32) (d_m : Int32) (d_folds : Int32) (d_kinds : Nat → Int32) (d_declared : Nat → Int32) (d_states : Nat → Int64) (d_lastRow : Nat → Int32) (d_lastValue : Nat → Int32) (d_hasValue : Nat → Int32) (d_touched : Nat → Int32) (d_parts : Nat → Int32) (d_rows : Int32) (d_inRound : Int32) (d_rounds : Int32) (d_flips : Int32) (d_passed : Int32) (d_matches : Int32) (d_moved : Int32) (d_time : Int32) (d_out : Int64) (d_loads : Nat → Int32) (d_counterKey : Nat → Int32) (d_counterCount : Nat → Int32) (d_counterError : Nat → Int32) (d_smalls : Int32) (d_smallKey : Nat → Int32) (d_smallWeight : Nat → Int32) (d_timers : Int32) (d_timerKey : Nat → Int32) (d_timerTime : Nat → Int32) (d_logged : Int32) (d_logKey : Nat → Int32) (d_logTime : Nat → Int32) (d_logState : Nat → Int64) (d_marks : Int32) (d_markState : Nat → Int64) (d_markValue : Nat → Int32) (d_markHas : Nat → Int32) (d_markSmalls : Nat → Int32) (d_markSmallKey : Nat → Int32) (d_markSmallWeight : Nat → Int32) (d_markTimers : Nat → Int32) (d_markTimerKey : Nat → Int32) (d_markTimerTime : Nat → Int32) (d_markTime : Nat → Int32) (d_markRows : Nat → Int32) (d_markMatches : Nat → Int32) (d_markOut : Nat → Int64) (d_comes : Nat → Int64)  (post : Int32 → Prop) (h : wp_d_canSplit d_folds d_kinds d_declared post) : Met l yX8_canSplit (hk_ws yX8_canSplit cX8_canSplit 3 (some .boolean)) (hk_rm 0 0) (va_Pc [.ref h_d] (hk_PR D (hk_ty cI cJ cZ cM) (wv_d cI cJ cZ cM h_d a_d d_p d_r d_t d_slack d_m d_folds d_kinds d_declared d_states d_lastRow d_lastValue d_hasValue d_touched d_parts d_rows d_inRound d_rounds d_flips d_passed d_matches d_moved d_time d_out d_loads d_counterKey d_counterCount d_counterError d_smalls d_smallKey d_smallWeight d_timers d_timerKey d_timerTime d_logged d_logKey d_logTime d_logState d_marks d_markState d_markValue d_markHas d_markSmalls d_markSmallKey d_markSmallWeight d_markTimers d_markTimerKey d_markTimerTime d_markTime d_markRows d_markMatches d_markOut d_comes))) (vp_Si post) 0 0 (fun _ => False) := by
  refine Met.ofW (cc := cX8_canSplit) (maxL := 3) (ret := (some .boolean)) (by decide) rfl ?_
  intro p e s m args below meth c s₁ B hml hv
  obtain ⟨rfl, hP, hK, hN⟩ := hv
  have hx := B.exec
  have hb := B.bytes
  have hr := B.returns
  have hts := atoms_spec (ws := hk_ws yX8_canSplit cX8_canSplit 3 (some .boolean)) B.pre
  have hta : ∀ w ∈ hk_all, w.before ([.ref h_d] : List Value).toArray s = true := fun w hw => hts w (List.mem_cons_of_mem _ hw)
  have hown : s.vm.findClass RX8 = some m.cls := findClass_of_methodNamed B.named
  have hlocks := B.notSynchronized
  have S0 : CallFix p m c cX8_canSplit 3 s ([.ref h_d] : List Value).toArray hk_all RX8 := ⟨hx, hb, hml, hown, hta⟩
  have hl := lv_entry ([.ref h_d]) (n := 3) (Nat.le_of_ble_eq_true rfl)
  rw [lg_entry_eq]
  generalize (lg_sl ([.ref h_d]) ++ List.replicate (3 - (lg_sl ([.ref h_d])).length) Slot.unset).toArray = ls at hl ⊢
  have hl : lv_has ls 3 [(0, .ref h_d)] := hl
  unfold wp_d_canSplit at h
  refine lv_iconst (v := 1) hx hb dX8_canSplit_0 (by decide) ?_
  refine lv_istore_n (lv' := [(1, .int 1), (0, .ref h_d)]) hx hb dX8_canSplit_1 rfl hl (by decide) rfl (fun ls hl => ?_)
  refine lv_iconst (v := 0) hx hb dX8_canSplit_2 (by decide) ?_
  refine lv_istore_n (lv' := [(2, .int 0), (1, .int 1), (0, .ref h_d)]) hx hb dX8_canSplit_3 rfl hl (by decide) rfl (fun ls hl => ?_)
  have P4 : ∀ (n : Nat) (v1 : Int32 × Int32) (ls : Array Slot), lv_has ls 3 [(0, .ref h_d), (1, .int v1.1), (2, .int v1.2)] → hk_lp (wb_d_canSplit_4 d_folds d_kinds d_declared post) n v1 → W p l e (headSpec (hk_ws yX8_canSplit cX8_canSplit 3 (some .boolean)) (hk_rm 0 0)).room s m ([.ref h_d] : List Value).toArray below meth c s.heap [] 0 0 (MQ below (vp_Si post) ([.ref h_d] : List Value).toArray s 0 0 (fun _ => False)) (F0 m 4 ls []) := by
    intro n
    induction n with
    | zero => intro v1 ls hl h; exact False.elim h
    | succ n ih4 =>
      intro v1 ls hl h
      have h : wb_d_canSplit_4 d_folds d_kinds d_declared post (hk_lp (wb_d_canSplit_4 d_folds d_kinds d_declared post) n) v1 := h
      generalize hk_lp (wb_d_canSplit_4 d_folds d_kinds d_declared post) n = K4 at h ih4
      unfold wb_d_canSplit_4 at h
      refine lv_iload_n hx hb dX8_canSplit_4 rfl (lv_at hl 2 rfl) ?_
      refine lv_aload_n hx hb dX8_canSplit_5 rfl (lv_at hl 0 rfl) ?_
      refine va_get (D := D) (ci := 8) (v := .int d_folds) (C := RX8) (T := TX8) (N := 52) hx hb hta ih_X8 hown hK hP 0 rfl rfl 5 (by decide) (hta _ hw_751) (fun _ h9 => h9) rfl dX8_canSplit_6 ?_
      refine lv_icmp_ge (tgt := 48) hx hb dX8_canSplit_9 (by decide) (fun c2 => ?_) (fun c2 => ?_)
      · have h := h.1 c2
        refine lv_iload_n hx hb dX8_canSplit_48 rfl (lv_at hl 1 rfl) ?_
        exact W.zret (ty := .boolean) (v := v1.1) hx hb hr (hk_nz h.1) (fun t ht hW => ⟨_, rfl, h.2, ht⟩) (fun _ hq => by cases hq) dX8_canSplit_49
      · have h := h.2 c2
        refine lv_iload_n hx hb dX8_canSplit_12 rfl (lv_at hl 1 rfl) ?_
        refine lv_if_eq (tgt := 40) hx hb dX8_canSplit_13 (by decide) (fun c3 => ?_) (fun c3 => ?_)
        · have h := h.1 c3
          refine lv_iconst (v := 0) hx hb dX8_canSplit_40 (by decide) ?_
          refine lv_istore_n (lv' := [(1, .int 0), (0, .ref h_d), (2, .int v1.2)]) hx hb dX8_canSplit_41 rfl hl (by decide) rfl (fun ls hl => ?_)
          obtain ⟨x4, ex4⟩ : ∃ y : Int32, y = v1.2 + 1 := ⟨_, rfl⟩
          have h := h x4 ex4
          refine lv_iinc (v := x4) (lv' := [(2, .int x4), (1, .int 0), (0, .ref h_d)]) hx hb dX8_canSplit_42 hl (k := 2) rfl (by rw [ex4]; rfl) (by decide) rfl (fun ls hl => ?_)
          refine lv_goto (tgt := 4) hx hb dX8_canSplit_45 (by decide) ?_
          exact ih4 (0, x4) ls (lv_sub hl [2, 1, 0] rfl) h
        · have h := h.2 c3
          refine lv_aload_n hx hb dX8_canSplit_16 rfl (lv_at hl 0 rfl) ?_
          refine va_get (D := D) (ci := 8) (v := .ref (a_d 7)) (C := RX8) (T := TX8) (N := 52) hx hb hta ih_X8 hown hK hP 0 rfl rfl 7 (by decide) (hta _ hw_753) (fun _ h9 => h9) rfl dX8_canSplit_17 ?_
          refine lv_iload_n hx hb dX8_canSplit_20 rfl (lv_at hl 2 rfl) ?_
          refine va_zald hx hb hK hP 2 2 rfl rfl h.1 dX8_canSplit_21 ?_
          have h := h.2
          refine lv_if_eq (tgt := 40) hx hb dX8_canSplit_22 (by decide) (fun c5 => ?_) (fun c5 => ?_)
          · have h := h.1 c5
            refine lv_iconst (v := 0) hx hb dX8_canSplit_40 (by decide) ?_
            refine lv_istore_n (lv' := [(1, .int 0), (0, .ref h_d), (2, .int v1.2)]) hx hb dX8_canSplit_41 rfl hl (by decide) rfl (fun ls hl => ?_)
            obtain ⟨x6, ex6⟩ : ∃ y : Int32, y = v1.2 + 1 := ⟨_, rfl⟩
            have h := h x6 ex6
            refine lv_iinc (v := x6) (lv' := [(2, .int x6), (1, .int 0), (0, .ref h_d)]) hx hb dX8_canSplit_42 hl (k := 2) rfl (by rw [ex6]; rfl) (by decide) rfl (fun ls hl => ?_)
            refine lv_goto (tgt := 4) hx hb dX8_canSplit_45 (by decide) ?_
            exact ih4 (0, x6) ls (lv_sub hl [2, 1, 0] rfl) h
          · have h := h.2 c5
            refine lv_aload_n hx hb dX8_canSplit_25 rfl (lv_at hl 0 rfl) ?_
            refine va_get (D := D) (ci := 8) (v := .ref (a_d 6)) (C := RX8) (T := TX8) (N := 52) hx hb hta ih_X8 hown hK hP 0 rfl rfl 6 (by decide) (hta _ hw_752) (fun _ h9 => h9) rfl dX8_canSplit_26 ?_
            refine lv_iload_n hx hb dX8_canSplit_29 rfl (lv_at hl 2 rfl) ?_
            refine va_iald hx hb hK hP 1 0 rfl rfl h.1 dX8_canSplit_30 ?_
            have h := h.2
            refine lv_bipush (v := 6) hx hb dX8_canSplit_31 (by decide) ?_
            refine lv_icmp_ge (tgt := 40) hx hb dX8_canSplit_33 (by decide) (fun c7 => ?_) (fun c7 => ?_)
            · have h := h.1 c7
              refine lv_iconst (v := 0) hx hb dX8_canSplit_40 (by decide) ?_
              refine lv_istore_n (lv' := [(1, .int 0), (0, .ref h_d), (2, .int v1.2)]) hx hb dX8_canSplit_41 rfl hl (by decide) rfl (fun ls hl => ?_)
              obtain ⟨x8, ex8⟩ : ∃ y : Int32, y = v1.2 + 1 := ⟨_, rfl⟩
              have h := h x8 ex8
              refine lv_iinc (v := x8) (lv' := [(2, .int x8), (1, .int 0), (0, .ref h_d)]) hx hb dX8_canSplit_42 hl (k := 2) rfl (by rw [ex8]; rfl) (by decide) rfl (fun ls hl => ?_)
              refine lv_goto (tgt := 4) hx hb dX8_canSplit_45 (by decide) ?_
              exact ih4 (0, x8) ls (lv_sub hl [2, 1, 0] rfl) h
            · have h := h.2 c7
              refine lv_iconst (v := 1) hx hb dX8_canSplit_36 (by decide) ?_
              refine lv_goto (tgt := 41) hx hb dX8_canSplit_37 (by decide) ?_
              refine lv_istore_n (lv' := [(1, .int 1), (0, .ref h_d), (2, .int v1.2)]) hx hb dX8_canSplit_41 rfl hl (by decide) rfl (fun ls hl => ?_)
              obtain ⟨x9, ex9⟩ : ∃ y : Int32, y = v1.2 + 1 := ⟨_, rfl⟩
              have h := h x9 ex9
              refine lv_iinc (v := x9) (lv' := [(2, .int x9), (1, .int 1), (0, .ref h_d)]) hx hb dX8_canSplit_42 hl (k := 2) rfl (by rw [ex9]; rfl) (by decide) rfl (fun ls hl => ?_)
              refine lv_goto (tgt := 4) hx hb dX8_canSplit_45 (by decide) ?_
              exact ih4 (1, x9) ls (lv_sub hl [2, 1, 0] rfl) h
  obtain ⟨n, h⟩ := h
  exact P4 n (1, 0) ls (lv_sub hl [2, 1, 0] rfl) h
def wb_d_makeParts_9 (d_folds : Int32) (d_kinds : Nat → Int32) (d_parts : Nat → Int32) (p1 : Int32) (p2 : Int32) (post : ((Nat → Int64) × (Nat → Int32) × (Nat → Int32) × (Nat → Int32) × (Nat → Int32)) → Prop) (K9 : (Int32 × (Nat → Int64) × (Nat → Int32) × (Nat → Int32) × (Nat → Int32)) → Prop) (v1 : Int32 × (Nat → Int64) × (Nat → Int32) × (Nat → Int32) × (Nat → Int32)) : Prop := (p2 ≤ v1.1 → post (v1.2.1, v1.2.2.1, v1.2.2.2.1, v1.2.2.2.2, upd d_parts p1.toNatClampNeg p2)) ∧ (¬ p2 ≤ v1.1 → wp_d_empty v1.1 p1 d_folds d_kinds v1.2.1 v1.2.2.1 v1.2.2.2.1 v1.2.2.2.2 (fun (w3 : (Nat → Int64) × (Nat → Int32) × (Nat → Int32) × (Nat → Int32)) => ∀ x4 : Int32, x4 = v1.1 + 1 → K9 (x4, w3.1, w3.2.1, w3.2.2.1, w3.2.2.2)))
def wp_d_makeParts (p1 : Int32) (p2 : Int32) (d_folds : Int32) (d_kinds : Nat → Int32) (d_states : Nat → Int64) (d_lastRow : Nat → Int32) (d_hasValue : Nat → Int32) (d_touched : Nat → Int32) (d_parts : Nat → Int32) (post : ((Nat → Int64) × (Nat → Int32) × (Nat → Int32) × (Nat → Int32) × (Nat → Int32)) → Prop) : Prop := vp_in p1 100 ∧ (∃ n, hk_lp (wb_d_makeParts_9 d_folds d_kinds d_parts p1 p2 post) n (1, d_states, d_lastRow, d_hasValue, d_touched))
theorem mm_d_makeParts : hk_MV yX8_makeParts cX8_makeParts 4 none 2 := ⟨hw_973, hw_972, hw_71, hw_87, by decide +kernel⟩
set_option maxRecDepth 100000 in
set_option maxHeartbeats 4000000 in
theorem c_d_makeParts (l : Launch) (D : va_G) (cI cJ cZ cM : ClassId) (h_d : Nat) (a_d : Nat → Nat) (sz : Nat) (d_p : Int32) (d_r : Int32) (d_t : Int32) (d_slack : Int32) (d_m : Int32) (d_folds : Int32) (d_kinds : Nat → Int32) (d_declared : Nat → Int32) (d_states : Nat → Int64) (d_lastRow : Nat → Int32) (d_lastValue : Nat → Int32) (d_hasValue : Nat → Int32) (d_touched : Nat → Int32) (d_parts : Nat → Int32) (d_rows : Int32) (d_inRound : Int32) (d_rounds : Int32) (d_flips : Int32) (d_passed : Int32) (d_matches : Int32) (d_moved : Int32) (d_time : Int32) (d_out : Int64) (d_loads : Nat → Int32) (d_counterKey : Nat → Int32) (d_counterCount : Nat → Int32) (d_counterError : Nat → Int32) (d_smalls : Int32) (d_smallKey : Nat → Int32) (d_smallWeight : Nat → Int32) (d_timers : Int32) (d_timerKey : Nat → Int32) (d_timerTime : Nat → Int32) (d_logged : Int32) (d_logKey : Nat → Int32) (d_logTime : Nat → Int32) (d_logState : Nat → Int64) (d_marks : Int32) (d_markState : Nat → Int64) (d_markValue : Nat → Int32) (d_markHas : Nat → Int32) (d_markSmalls : Nat → Int32) (d_markSmallKey : Nat → Int32) (d_markSmallWeight : Nat → Int32) (d_markTimers : Nat → Int32) (d_markTimerKey : Nat → Int32) (d_markTimerTime : Nat → Int32) (d_markTime : Nat → Int32) (d_markRows : Nat → Int32) (d_markMatches : Nat → Int32) (d_markOut : Nat → Int64) (d_comes : Nat → Int64) (p1 : Int32) (p2 : Int32) (post : ((Nat → Int64) × (Nat → Int32) × (Nat → Int32) × (Nat → Int32) × (Nat → Int32)) → Prop) (h : wp_d_makeParts p1 p2 d_folds d_kinds d_states d_lastRow d_hasValue d_touched d_parts post) : Met l yX8_makeParts (hk_ws yX8_makeParts cX8_makeParts 4 none) (hk_rm 2 46) (va_Pc [.ref h_d, .int p1, .int p2] (hk_PM D (hk_ty cI cJ cZ cM) sz (wv_d cI cJ cZ cM h_d a_d d_p d_r d_t d_slack d_m d_folds d_kinds d_declared d_states d_lastRow d_lastValue d_hasValue d_touched d_parts d_rows d_inRound d_rounds d_flips d_passed d_matches d_moved d_time d_out d_loads d_counterKey d_counterCount d_counterError d_smalls d_smallKey d_smallWeight d_timers d_timerKey d_timerTime d_logged d_logKey d_logTime d_logState d_marks d_markState d_markValue d_markHas d_markSmalls d_markSmallKey d_markSmallWeight d_markTimers d_markTimerKey d_markTimerTime d_markTime d_markRows d_markMatches d_markOut d_comes))) (va_Qv post (hk_B D (va_A (wv_d cI cJ cZ cM h_d a_d d_p d_r d_t d_slack d_m d_folds d_kinds d_declared d_states d_lastRow d_lastValue d_hasValue d_touched d_parts d_rows d_inRound d_rounds d_flips d_passed d_matches d_moved d_time d_out d_loads d_counterKey d_counterCount d_counterError d_smalls d_smallKey d_smallWeight d_timers d_timerKey d_timerTime d_logged d_logKey d_logTime d_logState d_marks d_markState d_markValue d_markHas d_markSmalls d_markSmallKey d_markSmallWeight d_markTimers d_markTimerKey d_markTimerTime d_markTime d_markRows d_markMatches d_markOut d_comes) sz) (fun (u : (Nat → Int64) × (Nat → Int32) × (Nat → Int32) × (Nat → Int32) × (Nat → Int32)) => wv_d cI cJ cZ cM h_d a_d d_p d_r d_t d_slack d_m d_folds d_kinds d_declared u.1 u.2.1 d_lastValue u.2.2.1 u.2.2.2.1 u.2.2.2.2 d_rows d_inRound d_rounds d_flips d_passed d_matches d_moved d_time d_out d_loads d_counterKey d_counterCount d_counterError d_smalls d_smallKey d_smallWeight d_timers d_timerKey d_timerTime d_logged d_logKey d_logTime d_logState d_marks d_markState d_markValue d_markHas d_markSmalls d_markSmallKey d_markSmallWeight d_markTimers d_markTimerKey d_markTimerTime d_markTime d_markRows d_markMatches d_markOut d_comes)) (va_A (wv_d cI cJ cZ cM h_d a_d d_p d_r d_t d_slack d_m d_folds d_kinds d_declared d_states d_lastRow d_lastValue d_hasValue d_touched d_parts d_rows d_inRound d_rounds d_flips d_passed d_matches d_moved d_time d_out d_loads d_counterKey d_counterCount d_counterError d_smalls d_smallKey d_smallWeight d_timers d_timerKey d_timerTime d_logged d_logKey d_logTime d_logState d_marks d_markState d_markValue d_markHas d_markSmalls d_markSmallKey d_markSmallWeight d_markTimers d_markTimerKey d_markTimerTime d_markTime d_markRows d_markMatches d_markOut d_comes) sz)) 0 0 (va_A (wv_d cI cJ cZ cM h_d a_d d_p d_r d_t d_slack d_m d_folds d_kinds d_declared d_states d_lastRow d_lastValue d_hasValue d_touched d_parts d_rows d_inRound d_rounds d_flips d_passed d_matches d_moved d_time d_out d_loads d_counterKey d_counterCount d_counterError d_smalls d_smallKey d_smallWeight d_timers d_timerKey d_timerTime d_logged d_logKey d_logTime d_logState d_marks d_markState d_markValue d_markHas d_markSmalls d_markSmallKey d_markSmallWeight d_markTimers d_markTimerKey d_markTimerTime d_markTime d_markRows d_markMatches d_markOut d_comes) sz) := by
  refine Met.ofW (cc := cX8_makeParts) (maxL := 4) (ret := none) (by decide) rfl ?_
  intro p e s m args below meth c s₁ B hml hv
  obtain ⟨rfl, hsz, hP, hK, hD0, hN⟩ := hv
  have hx := B.exec
  have hb := B.bytes
  have hr := B.returns
  have hts := atoms_spec (ws := hk_ws yX8_makeParts cX8_makeParts 4 none) B.pre
  have hta : ∀ w ∈ hk_all, w.before ([.ref h_d, .int p1, .int p2] : List Value).toArray s = true := fun w hw => hts w (List.mem_cons_of_mem _ hw)
  have hown : s.vm.findClass RX8 = some m.cls := findClass_of_methodNamed B.named
  have hlocks := B.notSynchronized
  have S0 : CallFix p m c cX8_makeParts 4 s ([.ref h_d, .int p1, .int p2] : List Value).toArray hk_all RX8 := ⟨hx, hb, hml, hown, hta⟩
  subst hsz
  have hD := hD0.self (sz := s.heap.size)
  generalize hAe : va_A (wv_d cI cJ cZ cM h_d a_d d_p d_r d_t d_slack d_m d_folds d_kinds d_declared d_states d_lastRow d_lastValue d_hasValue d_touched d_parts d_rows d_inRound d_rounds d_flips d_passed d_matches d_moved d_time d_out d_loads d_counterKey d_counterCount d_counterError d_smalls d_smallKey d_smallWeight d_timers d_timerKey d_timerTime d_logged d_logKey d_logTime d_logState d_marks d_markState d_markValue d_markHas d_markSmalls d_markSmallKey d_markSmallWeight d_markTimers d_markTimerKey d_markTimerTime d_markTime d_markRows d_markMatches d_markOut d_comes) s.heap.size = A at hD ⊢
  have hA : ∀ q : Nat, s.heap.size ≤ q → A q := fun q h => by rw [← hAe]; exact Or.inr h
  have hS : va_S A s.heap s.heap [] := va_S.rf
  have hl := lv_entry ([.ref h_d, .int p1, .int p2]) (n := 4) (Nat.le_of_ble_eq_true rfl)
  rw [lg_entry_eq]
  generalize (lg_sl ([.ref h_d, .int p1, .int p2]) ++ List.replicate (4 - (lg_sl ([.ref h_d, .int p1, .int p2])).length) Slot.unset).toArray = ls at hl ⊢
  have hl : lv_has ls 4 [(0, .ref h_d), (1, .int p1), (2, .int p2)] := hl
  unfold wp_d_makeParts at h
  refine lv_aload_n hx hb dX8_makeParts_0 rfl (lv_at hl 0 rfl) ?_
  refine va_get (D := D) (ci := 8) (v := .ref (a_d 13)) (C := RX8) (T := TX8) (N := 52) hx hb hta ih_X8 hown hK hP 0 rfl rfl 13 (by decide) (hta _ hw_759) (fun _ h9 => h9) rfl dX8_makeParts_1 ?_
  refine lv_iload_n hx hb dX8_makeParts_4 rfl (lv_at hl 1 rfl) ?_
  refine lv_iload_n hx hb dX8_makeParts_5 rfl (lv_at hl 2 rfl) ?_
  refine va_iast hx hb hK hP hD hS 8 0 rfl rfl h.1 dX8_makeParts_6 (fun H locs hP hD hS => ?_)
  have h := h.2
  have hP : va_P D vwCl (wv_d cI cJ cZ cM h_d a_d d_p d_r d_t d_slack d_m d_folds d_kinds d_declared d_states d_lastRow d_lastValue d_hasValue d_touched (upd d_parts p1.toNatClampNeg p2) d_rows d_inRound d_rounds d_flips d_passed d_matches d_moved d_time d_out d_loads d_counterKey d_counterCount d_counterError d_smalls d_smallKey d_smallWeight d_timers d_timerKey d_timerTime d_logged d_logKey d_logTime d_logState d_marks d_markState d_markValue d_markHas d_markSmalls d_markSmallKey d_markSmallWeight d_markTimers d_markTimerKey d_markTimerTime d_markTime d_markRows d_markMatches d_markOut d_comes) H := hP
  have hD : va_D A (wv_d cI cJ cZ cM h_d a_d d_p d_r d_t d_slack d_m d_folds d_kinds d_declared d_states d_lastRow d_lastValue d_hasValue d_touched (upd d_parts p1.toNatClampNeg p2) d_rows d_inRound d_rounds d_flips d_passed d_matches d_moved d_time d_out d_loads d_counterKey d_counterCount d_counterError d_smalls d_smallKey d_smallWeight d_timers d_timerKey d_timerTime d_logged d_logKey d_logTime d_logState d_marks d_markState d_markValue d_markHas d_markSmalls d_markSmallKey d_markSmallWeight d_markTimers d_markTimerKey d_markTimerTime d_markTime d_markRows d_markMatches d_markOut d_comes) := hD
  refine lv_iconst (v := 1) hx hb dX8_makeParts_7 (by decide) ?_
  refine lv_istore_n (lv' := [(3, .int 1), (0, .ref h_d), (1, .int p1), (2, .int p2)]) hx hb dX8_makeParts_8 rfl hl (by decide) rfl (fun ls hl => ?_)
  have P9 : ∀ (n : Nat) (v1 : Int32 × (Nat → Int64) × (Nat → Int32) × (Nat → Int32) × (Nat → Int32)) (H : Heap) (locs : List Loc) (ls : Array Slot), va_P D vwCl (wv_d cI cJ cZ cM h_d a_d d_p d_r d_t d_slack d_m d_folds d_kinds d_declared v1.2.1 v1.2.2.1 d_lastValue v1.2.2.2.1 v1.2.2.2.2 (upd d_parts p1.toNatClampNeg p2) d_rows d_inRound d_rounds d_flips d_passed d_matches d_moved d_time d_out d_loads d_counterKey d_counterCount d_counterError d_smalls d_smallKey d_smallWeight d_timers d_timerKey d_timerTime d_logged d_logKey d_logTime d_logState d_marks d_markState d_markValue d_markHas d_markSmalls d_markSmallKey d_markSmallWeight d_markTimers d_markTimerKey d_markTimerTime d_markTime d_markRows d_markMatches d_markOut d_comes) H → va_D A (wv_d cI cJ cZ cM h_d a_d d_p d_r d_t d_slack d_m d_folds d_kinds d_declared v1.2.1 v1.2.2.1 d_lastValue v1.2.2.2.1 v1.2.2.2.2 (upd d_parts p1.toNatClampNeg p2) d_rows d_inRound d_rounds d_flips d_passed d_matches d_moved d_time d_out d_loads d_counterKey d_counterCount d_counterError d_smalls d_smallKey d_smallWeight d_timers d_timerKey d_timerTime d_logged d_logKey d_logTime d_logState d_marks d_markState d_markValue d_markHas d_markSmalls d_markSmallKey d_markSmallWeight d_markTimers d_markTimerKey d_markTimerTime d_markTime d_markRows d_markMatches d_markOut d_comes) → va_S A s.heap H locs → lv_has ls 4 [(0, .ref h_d), (1, .int p1), (2, .int p2), (3, .int v1.1)] → hk_lp (wb_d_makeParts_9 d_folds d_kinds d_parts p1 p2 post) n v1 → W p l e (headSpec (hk_ws yX8_makeParts cX8_makeParts 4 none) (hk_rm 2 46)).room s m ([.ref h_d, .int p1, .int p2] : List Value).toArray below meth c H locs 0 0 (MQ below (va_Qv post (hk_B D (A) (fun (u : (Nat → Int64) × (Nat → Int32) × (Nat → Int32) × (Nat → Int32) × (Nat → Int32)) => wv_d cI cJ cZ cM h_d a_d d_p d_r d_t d_slack d_m d_folds d_kinds d_declared u.1 u.2.1 d_lastValue u.2.2.1 u.2.2.2.1 u.2.2.2.2 d_rows d_inRound d_rounds d_flips d_passed d_matches d_moved d_time d_out d_loads d_counterKey d_counterCount d_counterError d_smalls d_smallKey d_smallWeight d_timers d_timerKey d_timerTime d_logged d_logKey d_logTime d_logState d_marks d_markState d_markValue d_markHas d_markSmalls d_markSmallKey d_markSmallWeight d_markTimers d_markTimerKey d_markTimerTime d_markTime d_markRows d_markMatches d_markOut d_comes)) (A)) ([.ref h_d, .int p1, .int p2] : List Value).toArray s 0 0 A) (F0 m 9 ls []) := by
    intro n
    induction n with
    | zero => intro v1 H locs ls hP hD hS hl h; exact False.elim h
    | succ n ih9 =>
      intro v1 H locs ls hP hD hS hl h
      have h : wb_d_makeParts_9 d_folds d_kinds d_parts p1 p2 post (hk_lp (wb_d_makeParts_9 d_folds d_kinds d_parts p1 p2 post) n) v1 := h
      generalize hk_lp (wb_d_makeParts_9 d_folds d_kinds d_parts p1 p2 post) n = K9 at h ih9
      unfold wb_d_makeParts_9 at h
      refine lv_iload_n hx hb dX8_makeParts_9 rfl (lv_at hl 3 rfl) ?_
      refine lv_iload_n hx hb dX8_makeParts_10 rfl (lv_at hl 2 rfl) ?_
      refine lv_icmp_ge (tgt := 26) hx hb dX8_makeParts_11 (by decide) (fun c2 => ?_) (fun c2 => ?_)
      · have h := h.1 c2
        exact W.vret hx hb hr (fun t ht hW => ⟨⟨(v1.2.1, v1.2.2.1, v1.2.2.2.1, v1.2.2.2.2, upd d_parts p1.toNatClampNeg p2), rfl, h, by rw [ht]; exact hP, hD⟩, hS.F ht⟩) hS.2.2 dX8_makeParts_26
      · have h := h.2 c2
        refine lv_aload_n hx hb dX8_makeParts_14 rfl (lv_at hl 0 rfl) ?_
        refine lv_iload_n hx hb dX8_makeParts_15 rfl (lv_at hl 3 rfl) ?_
        refine lv_iload_n hx hb dX8_makeParts_16 rfl (lv_at hl 1 rfl) ?_
        refine hk_wv (hk_runV (As := [.int v1.1, .int p1]) (rest := []) S0 mm_d_empty (c_d_empty l D cI cJ cZ cM h_d a_d H.size d_p d_r d_t d_slack d_m d_folds d_kinds d_declared v1.2.1 v1.2.2.1 d_lastValue v1.2.2.2.1 v1.2.2.2.2 (upd d_parts p1.toNatClampNeg p2) d_rows d_inRound d_rounds d_flips d_passed d_matches d_moved d_time d_out d_loads d_counterKey d_counterCount d_counterError d_smalls d_smallKey d_smallWeight d_timers d_timerKey d_timerTime d_logged d_logKey d_logTime d_logState d_marks d_markState d_markValue d_markHas d_markSmalls d_markSmallKey d_markSmallWeight d_markTimers d_markTimerKey d_markTimerTime d_markTime d_markRows d_markMatches d_markOut d_comes v1.1 p1 _ h) hw_724 hk_blM (hk_atM hP hK hD hN) (va_recv hK hP (ci := 8) (q0 := 0) rfl rfl) ⟨rfl, rfl, Nat.le_of_ble_eq_true rfl, Nat.le_of_ble_eq_true rfl⟩ rfl hl.1 rfl (Nat.le_of_ble_eq_true rfl) dX8_makeParts_17 ⟨Nat.le_of_ble_eq_true rfl, Nat.le_of_ble_eq_true rfl⟩) hD hS hA (fun w3 H locs h hP hD hS => ?_)
        have hP : va_P D vwCl (wv_d cI cJ cZ cM h_d a_d d_p d_r d_t d_slack d_m d_folds d_kinds d_declared w3.1 w3.2.1 d_lastValue w3.2.2.1 w3.2.2.2 (upd d_parts p1.toNatClampNeg p2) d_rows d_inRound d_rounds d_flips d_passed d_matches d_moved d_time d_out d_loads d_counterKey d_counterCount d_counterError d_smalls d_smallKey d_smallWeight d_timers d_timerKey d_timerTime d_logged d_logKey d_logTime d_logState d_marks d_markState d_markValue d_markHas d_markSmalls d_markSmallKey d_markSmallWeight d_markTimers d_markTimerKey d_markTimerTime d_markTime d_markRows d_markMatches d_markOut d_comes) H := hP
        have hD : va_D A (wv_d cI cJ cZ cM h_d a_d d_p d_r d_t d_slack d_m d_folds d_kinds d_declared w3.1 w3.2.1 d_lastValue w3.2.2.1 w3.2.2.2 (upd d_parts p1.toNatClampNeg p2) d_rows d_inRound d_rounds d_flips d_passed d_matches d_moved d_time d_out d_loads d_counterKey d_counterCount d_counterError d_smalls d_smallKey d_smallWeight d_timers d_timerKey d_timerTime d_logged d_logKey d_logTime d_logState d_marks d_markState d_markValue d_markHas d_markSmalls d_markSmallKey d_markSmallWeight d_markTimers d_markTimerKey d_markTimerTime d_markTime d_markRows d_markMatches d_markOut d_comes) := hD
        obtain ⟨x4, ex4⟩ : ∃ y : Int32, y = v1.1 + 1 := ⟨_, rfl⟩
        have h := h x4 ex4
        refine lv_iinc (v := x4) (lv' := [(3, .int x4), (0, .ref h_d), (1, .int p1), (2, .int p2)]) hx hb dX8_makeParts_20 hl (k := 3) rfl (by rw [ex4]; rfl) (by decide) rfl (fun ls hl => ?_)
        refine lv_goto (tgt := 9) hx hb dX8_makeParts_23 (by decide) ?_
        exact ih9 (x4, w3.1, w3.2.1, w3.2.2.1, w3.2.2.2) H locs ls hP hD hS (lv_sub hl [1, 2, 3, 0] rfl) h
  obtain ⟨n, h⟩ := h
  exact P9 n (1, d_states, d_lastRow, d_hasValue, d_touched) H locs ls hP hD hS (lv_sub hl [1, 2, 3, 0] rfl) h
def wp_d_mostOf (p1 : Int32) (d_m : Int32) (d_counterKey : Nat → Int32) (d_counterCount : Nat → Int32) (post : Int32 → Prop) : Prop := wp_d_counterOf p1 d_m d_counterKey (fun (r1 : Int32) => wp_d_weakest d_m d_counterKey d_counterCount (fun (r2 : Int32) => (r1 < 0 → vp_in r2 12 ∧ ((¬ (d_counterKey r2.toNatClampNeg) = (-1) → vp_in r2 12 ∧ (post (d_counterCount r2.toNatClampNeg))) ∧ ((d_counterKey r2.toNatClampNeg) = (-1) → post 0))) ∧ (¬ r1 < 0 → vp_in r1 12 ∧ (post (d_counterCount r1.toNatClampNeg)))))
theorem mm_d_mostOf : hk_MV yX8_mostOf cX8_mostOf 4 (some .int) 1 := ⟨hw_977, hw_976, hw_72, hw_87, by decide +kernel⟩
set_option maxRecDepth 100000 in
set_option maxHeartbeats 4000000 in
theorem c_d_mostOf (l : Launch) (D : va_G) (cI cJ cZ cM : ClassId) (h_d : Nat) (a_d : Nat → Nat)  (d_p : Int32) (d_r : Int32) (d_t : Int32) (d_slack : Int32) (d_m : Int32) (d_folds : Int32) (d_kinds : Nat → Int32) (d_declared : Nat → Int32) (d_states : Nat → Int64) (d_lastRow : Nat → Int32) (d_lastValue : Nat → Int32) (d_hasValue : Nat → Int32) (d_touched : Nat → Int32) (d_parts : Nat → Int32) (d_rows : Int32) (d_inRound : Int32) (d_rounds : Int32) (d_flips : Int32) (d_passed : Int32) (d_matches : Int32) (d_moved : Int32) (d_time : Int32) (d_out : Int64) (d_loads : Nat → Int32) (d_counterKey : Nat → Int32) (d_counterCount : Nat → Int32) (d_counterError : Nat → Int32) (d_smalls : Int32) (d_smallKey : Nat → Int32) (d_smallWeight : Nat → Int32) (d_timers : Int32) (d_timerKey : Nat → Int32) (d_timerTime : Nat → Int32) (d_logged : Int32) (d_logKey : Nat → Int32) (d_logTime : Nat → Int32) (d_logState : Nat → Int64) (d_marks : Int32) (d_markState : Nat → Int64) (d_markValue : Nat → Int32) (d_markHas : Nat → Int32) (d_markSmalls : Nat → Int32) (d_markSmallKey : Nat → Int32) (d_markSmallWeight : Nat → Int32) (d_markTimers : Nat → Int32) (d_markTimerKey : Nat → Int32) (d_markTimerTime : Nat → Int32) (d_markTime : Nat → Int32) (d_markRows : Nat → Int32) (d_markMatches : Nat → Int32) (d_markOut : Nat → Int64) (d_comes : Nat → Int64) (p1 : Int32) (post : Int32 → Prop) (h : wp_d_mostOf p1 d_m d_counterKey d_counterCount post) : Met l yX8_mostOf (hk_ws yX8_mostOf cX8_mostOf 4 (some .int)) (hk_rm 1 23) (va_Pc [.ref h_d, .int p1] (hk_PR D (hk_ty cI cJ cZ cM) (wv_d cI cJ cZ cM h_d a_d d_p d_r d_t d_slack d_m d_folds d_kinds d_declared d_states d_lastRow d_lastValue d_hasValue d_touched d_parts d_rows d_inRound d_rounds d_flips d_passed d_matches d_moved d_time d_out d_loads d_counterKey d_counterCount d_counterError d_smalls d_smallKey d_smallWeight d_timers d_timerKey d_timerTime d_logged d_logKey d_logTime d_logState d_marks d_markState d_markValue d_markHas d_markSmalls d_markSmallKey d_markSmallWeight d_markTimers d_markTimerKey d_markTimerTime d_markTime d_markRows d_markMatches d_markOut d_comes))) (vp_Si post) 0 0 (fun _ => False) := by
  refine Met.ofW (cc := cX8_mostOf) (maxL := 4) (ret := (some .int)) (by decide) rfl ?_
  intro p e s m args below meth c s₁ B hml hv
  obtain ⟨rfl, hP, hK, hN⟩ := hv
  have hx := B.exec
  have hb := B.bytes
  have hr := B.returns
  have hts := atoms_spec (ws := hk_ws yX8_mostOf cX8_mostOf 4 (some .int)) B.pre
  have hta : ∀ w ∈ hk_all, w.before ([.ref h_d, .int p1] : List Value).toArray s = true := fun w hw => hts w (List.mem_cons_of_mem _ hw)
  have hown : s.vm.findClass RX8 = some m.cls := findClass_of_methodNamed B.named
  have hlocks := B.notSynchronized
  have S0 : CallFix p m c cX8_mostOf 4 s ([.ref h_d, .int p1] : List Value).toArray hk_all RX8 := ⟨hx, hb, hml, hown, hta⟩
  have hl := lv_entry ([.ref h_d, .int p1]) (n := 4) (Nat.le_of_ble_eq_true rfl)
  rw [lg_entry_eq]
  generalize (lg_sl ([.ref h_d, .int p1]) ++ List.replicate (4 - (lg_sl ([.ref h_d, .int p1])).length) Slot.unset).toArray = ls at hl ⊢
  have hl : lv_has ls 4 [(0, .ref h_d), (1, .int p1)] := hl
  unfold wp_d_mostOf at h
  refine lv_aload_n hx hb dX8_mostOf_0 rfl (lv_at hl 0 rfl) ?_
  refine lv_iload_n hx hb dX8_mostOf_1 rfl (lv_at hl 1 rfl) ?_
  refine vp_callSi (hk_runV (As := [.int p1]) (rest := []) S0 mm_d_counterOf (c_d_counterOf l D cI cJ cZ cM h_d a_d d_p d_r d_t d_slack d_m d_folds d_kinds d_declared d_states d_lastRow d_lastValue d_hasValue d_touched d_parts d_rows d_inRound d_rounds d_flips d_passed d_matches d_moved d_time d_out d_loads d_counterKey d_counterCount d_counterError d_smalls d_smallKey d_smallWeight d_timers d_timerKey d_timerTime d_logged d_logKey d_logTime d_logState d_marks d_markState d_markValue d_markHas d_markSmalls d_markSmallKey d_markSmallWeight d_markTimers d_markTimerKey d_markTimerTime d_markTime d_markRows d_markMatches d_markOut d_comes p1 _ h) hw_954 hk_blR (hk_atR hP hK hN) (va_recv hK hP (ci := 8) (q0 := 0) rfl rfl) ⟨rfl, rfl, Nat.le_of_ble_eq_true rfl, Nat.le_of_ble_eq_true rfl⟩ rfl hl.1 rfl (Nat.le_of_ble_eq_true rfl) dX8_mostOf_2 ⟨Nat.le_of_ble_eq_true rfl, Nat.le_of_ble_eq_true rfl⟩).run (fun r1 h => ?_)
  refine lv_istore_n (lv' := [(2, .int r1), (0, .ref h_d), (1, .int p1)]) hx hb dX8_mostOf_5 rfl hl (by decide) rfl (fun ls hl => ?_)
  refine lv_aload_n hx hb dX8_mostOf_6 rfl (lv_at hl 1 rfl) ?_
  refine vp_callSi (hk_runV (As := []) (rest := []) S0 mm_d_weakest (c_d_weakest l D cI cJ cZ cM h_d a_d d_p d_r d_t d_slack d_m d_folds d_kinds d_declared d_states d_lastRow d_lastValue d_hasValue d_touched d_parts d_rows d_inRound d_rounds d_flips d_passed d_matches d_moved d_time d_out d_loads d_counterKey d_counterCount d_counterError d_smalls d_smallKey d_smallWeight d_timers d_timerKey d_timerTime d_logged d_logKey d_logTime d_logState d_marks d_markState d_markValue d_markHas d_markSmalls d_markSmallKey d_markSmallWeight d_markTimers d_markTimerKey d_markTimerTime d_markTime d_markRows d_markMatches d_markOut d_comes _ h) hw_958 hk_blR (hk_atR hP hK hN) (va_recv hK hP (ci := 8) (q0 := 0) rfl rfl) ⟨rfl, rfl, Nat.le_of_ble_eq_true rfl, Nat.le_of_ble_eq_true rfl⟩ rfl hl.1 rfl (Nat.le_of_ble_eq_true rfl) dX8_mostOf_7 ⟨Nat.le_of_ble_eq_true rfl, Nat.le_of_ble_eq_true rfl⟩).run (fun r2 h => ?_)
  refine lv_istore_n (lv' := [(3, .int r2), (2, .int r1), (0, .ref h_d), (1, .int p1)]) hx hb dX8_mostOf_10 rfl hl (by decide) rfl (fun ls hl => ?_)
  refine lv_iload_n hx hb dX8_mostOf_11 rfl (lv_at hl 1 rfl) ?_
  refine lv_if_lt (tgt := 24) hx hb dX8_mostOf_12 (by decide) (fun c3 => ?_) (fun c3 => ?_)
  · have h := h.1 c3
    refine lv_aload_n hx hb dX8_mostOf_24 rfl (lv_at hl 2 rfl) ?_
    refine va_get (D := D) (ci := 8) (v := .ref (a_d 24)) (C := RX8) (T := TX8) (N := 52) hx hb hta ih_X8 hown hK hP 0 rfl rfl 24 (by decide) (hta _ hw_770) (fun _ h9 => h9) rfl dX8_mostOf_25 ?_
    refine lv_iload_n hx hb dX8_mostOf_28 rfl (lv_at hl 0 rfl) ?_
    refine va_iald hx hb hK hP 10 0 rfl rfl h.1 dX8_mostOf_29 ?_
    have h := h.2
    refine lv_iconst (v := (-1)) hx hb dX8_mostOf_30 (by decide) ?_
    refine lv_icmp_ne (tgt := 38) hx hb dX8_mostOf_31 (by decide) (fun c4 => ?_) (fun c4 => ?_)
    · have h := h.1 c4
      refine lv_aload_n hx hb dX8_mostOf_38 rfl (lv_at hl 2 rfl) ?_
      refine va_get (D := D) (ci := 8) (v := .ref (a_d 25)) (C := RX8) (T := TX8) (N := 52) hx hb hta ih_X8 hown hK hP 0 rfl rfl 25 (by decide) (hta _ hw_771) (fun _ h9 => h9) rfl dX8_mostOf_39 ?_
      refine lv_iload_n hx hb dX8_mostOf_42 rfl (lv_at hl 0 rfl) ?_
      refine va_iald hx hb hK hP 11 0 rfl rfl h.1 dX8_mostOf_43 ?_
      have h := h.2
      exact W.iret (v := d_counterCount r2.toNatClampNeg) hx hb hr (fun t ht hW => ⟨_, rfl, h, ht⟩) (fun _ hq => by cases hq) dX8_mostOf_44
    · have h := h.2 c4
      refine lv_iconst (v := 0) hx hb dX8_mostOf_34 (by decide) ?_
      refine lv_goto (tgt := 44) hx hb dX8_mostOf_35 (by decide) ?_
      exact W.iret (v := 0) hx hb hr (fun t ht hW => ⟨_, rfl, h, ht⟩) (fun _ hq => by cases hq) dX8_mostOf_44
  · have h := h.2 c3
    refine lv_aload_n hx hb dX8_mostOf_15 rfl (lv_at hl 2 rfl) ?_
    refine va_get (D := D) (ci := 8) (v := .ref (a_d 25)) (C := RX8) (T := TX8) (N := 52) hx hb hta ih_X8 hown hK hP 0 rfl rfl 25 (by decide) (hta _ hw_771) (fun _ h9 => h9) rfl dX8_mostOf_16 ?_
    refine lv_iload_n hx hb dX8_mostOf_19 rfl (lv_at hl 1 rfl) ?_
    refine va_iald hx hb hK hP 11 0 rfl rfl h.1 dX8_mostOf_20 ?_
    have h := h.2
    refine lv_goto (tgt := 44) hx hb dX8_mostOf_21 (by decide) ?_
    exact W.iret (v := d_counterCount r1.toNatClampNeg) hx hb hr (fun t ht hW => ⟨_, rfl, h, ht⟩) (fun _ hq => by cases hq) dX8_mostOf_44
