def wp_d_joinedOf (p1 : Int32) (p2 : Int64) (p3 : Int64) (p4 : Int32)  (post : Int64 → Prop) : Prop := ((lg_cmp p2 (-4000000000000)) = 0 → (¬ (lg_cmp p2 (-4000000000000)) = 0 → post p2) ∧ ((lg_cmp p2 (-4000000000000)) = 0 → post p3)) ∧ (¬ (lg_cmp p2 (-4000000000000)) = 0 → (¬ (lg_cmp p3 (-4000000000000)) = 0 → (p1 = 2 → (0 ≤ (lg_cmp p2 p3) → post p3) ∧ (¬ 0 ≤ (lg_cmp p2 p3) → post p2)) ∧ (¬ p1 = 2 → (p1 = 3 → ((lg_cmp p2 p3) ≤ 0 → post p3) ∧ (¬ (lg_cmp p2 p3) ≤ 0 → post p2)) ∧ (¬ p1 = 3 → (p1 = 4 → post (p2 ||| p3)) ∧ (¬ p1 = 4 → (p1 = 5 → (p4 = 0 → post p2) ∧ (¬ p4 = 0 → post p3)) ∧ (¬ p1 = 5 → post (p2 + p3)))))) ∧ ((lg_cmp p3 (-4000000000000)) = 0 → (¬ (lg_cmp p2 (-4000000000000)) = 0 → post p2) ∧ ((lg_cmp p2 (-4000000000000)) = 0 → post p3)))
theorem mm_d_joinedOf : hk_MS yX8_joinedOf cX8_joinedOf 6 (some .long) 4 := ⟨hw_988, hw_987, hw_87, by decide +kernel⟩
set_option maxRecDepth 100000 in
set_option maxHeartbeats 4000000 in
theorem c_d_joinedOf (l : Launch) (D : va_G) (cI cJ cZ cM : ClassId)    (p1 : Int32) (p2 : Int64) (p3 : Int64) (p4 : Int32) (post : Int64 → Prop) (h : wp_d_joinedOf p1 p2 p3 p4 post) : Met l yX8_joinedOf (hk_ws yX8_joinedOf cX8_joinedOf 6 (some .long)) (hk_rm 0 0) (va_Pc [.int p1, .long p2, .long p3, .int p4] (hk_PR D (hk_ty cI cJ cZ cM) (([] : va_W)))) (vp_Sl post) 0 0 (fun _ => False) := by
  refine Met.ofW (cc := cX8_joinedOf) (maxL := 6) (ret := (some .long)) (by decide) rfl ?_
  intro p e s m args below meth c s₁ B hml hv
  obtain ⟨rfl, hP, hK, hN⟩ := hv
  have hx := B.exec
  have hb := B.bytes
  have hr := B.returns
  have hts := atoms_spec (ws := hk_ws yX8_joinedOf cX8_joinedOf 6 (some .long)) B.pre
  have hta : ∀ w ∈ hk_all, w.before ([.int p1, .long p2, .long p3, .int p4] : List Value).toArray s = true := fun w hw => hts w (List.mem_cons_of_mem _ hw)
  have hown : s.vm.findClass RX8 = some m.cls := findClass_of_methodNamed B.named
  have hlocks := B.notSynchronized
  have S0 : CallFix p m c cX8_joinedOf 6 s ([.int p1, .long p2, .long p3, .int p4] : List Value).toArray hk_all RX8 := ⟨hx, hb, hml, hown, hta⟩
  have hl := lv_entry ([.int p1, .long p2, .long p3, .int p4]) (n := 6) (Nat.le_of_ble_eq_true rfl)
  rw [lg_entry_eq]
  generalize (lg_sl ([.int p1, .long p2, .long p3, .int p4]) ++ List.replicate (6 - (lg_sl ([.int p1, .long p2, .long p3, .int p4])).length) Slot.unset).toArray = ls at hl ⊢
  have hl : lv_has ls 6 [(0, .int p1), (1, .long p2), (3, .long p3), (5, .int p4)] := hl
  unfold wp_d_joinedOf at h
  refine lv_lload_n hx hb dX8_joinedOf_0 rfl (lv_at hl 1 rfl) ?_
  refine lv_ldc2 (v := (-4000000000000)) hx hb hown (hta _ hw_737) dX8_joinedOf_1 ?_
  refine W.lcmp hx hb dX8_joinedOf_4 ?_
  refine lv_if_eq (tgt := 16) hx hb dX8_joinedOf_5 (by decide) (fun c1 => ?_) (fun c1 => ?_)
  · have h := h.1 c1
    refine lv_lload_n hx hb dX8_joinedOf_16 rfl (lv_at hl 1 rfl) ?_
    refine lv_ldc2 (v := (-4000000000000)) hx hb hown (hta _ hw_737) dX8_joinedOf_17 ?_
    refine W.lcmp hx hb dX8_joinedOf_20 ?_
    refine lv_if_ne (tgt := 28) hx hb dX8_joinedOf_21 (by decide) (fun c2 => ?_) (fun c2 => ?_)
    · have h := h.1 c2
      refine lv_lload_n hx hb dX8_joinedOf_28 rfl (lv_at hl 1 rfl) ?_
      exact W.lret (v := p2) hx hb hr (fun t ht hW => ⟨_, rfl, h, ht⟩) (fun _ hq => by cases hq) dX8_joinedOf_29
    · have h := h.2 c2
      refine lv_lload_n hx hb dX8_joinedOf_24 rfl (lv_at hl 2 rfl) ?_
      refine lv_goto (tgt := 29) hx hb dX8_joinedOf_25 (by decide) ?_
      exact W.lret (v := p3) hx hb hr (fun t ht hW => ⟨_, rfl, h, ht⟩) (fun _ hq => by cases hq) dX8_joinedOf_29
  · have h := h.2 c1
    refine lv_lload_n hx hb dX8_joinedOf_8 rfl (lv_at hl 2 rfl) ?_
    refine lv_ldc2 (v := (-4000000000000)) hx hb hown (hta _ hw_737) dX8_joinedOf_9 ?_
    refine W.lcmp hx hb dX8_joinedOf_12 ?_
    refine lv_if_ne (tgt := 30) hx hb dX8_joinedOf_13 (by decide) (fun c3 => ?_) (fun c3 => ?_)
    · have h := h.1 c3
      refine lv_iload_n hx hb dX8_joinedOf_30 rfl (lv_at hl 0 rfl) ?_
      by_cases c7 : p1 = 2
      · have h := h.1 c7
        refine lv_tableIn (tgt := 60) hx hb dX8_joinedOf_31 (by rw [c7]; decide) (by rw [c7]; decide) (by rw [c7]; rfl) (by decide) ?_
        refine lv_lload_n hx hb dX8_joinedOf_60 rfl (lv_at hl 1 rfl) ?_
        refine lv_lload_n hx hb dX8_joinedOf_61 rfl (lv_at hl 2 rfl) ?_
        refine W.lcmp hx hb dX8_joinedOf_62 ?_
        refine lv_if_ge (tgt := 70) hx hb dX8_joinedOf_63 (by decide) (fun c4 => ?_) (fun c4 => ?_)
        · have h := h.1 c4
          refine lv_lload_n hx hb dX8_joinedOf_70 rfl (lv_at hl 2 rfl) ?_
          exact W.lret (v := p3) hx hb hr (fun t ht hW => ⟨_, rfl, h, ht⟩) (fun _ hq => by cases hq) dX8_joinedOf_71
        · have h := h.2 c4
          refine lv_lload_n hx hb dX8_joinedOf_66 rfl (lv_at hl 1 rfl) ?_
          refine lv_goto (tgt := 71) hx hb dX8_joinedOf_67 (by decide) ?_
          exact W.lret (v := p2) hx hb hr (fun t ht hW => ⟨_, rfl, h, ht⟩) (fun _ hq => by cases hq) dX8_joinedOf_71
      · have h := h.2 c7
        by_cases c8 : p1 = 3
        · have h := h.1 c8
          refine lv_tableIn (tgt := 72) hx hb dX8_joinedOf_31 (by rw [c8]; decide) (by rw [c8]; decide) (by rw [c8]; rfl) (by decide) ?_
          refine lv_lload_n hx hb dX8_joinedOf_72 rfl (lv_at hl 1 rfl) ?_
          refine lv_lload_n hx hb dX8_joinedOf_73 rfl (lv_at hl 2 rfl) ?_
          refine W.lcmp hx hb dX8_joinedOf_74 ?_
          refine lv_if_le (tgt := 82) hx hb dX8_joinedOf_75 (by decide) (fun c5 => ?_) (fun c5 => ?_)
          · have h := h.1 c5
            refine lv_lload_n hx hb dX8_joinedOf_82 rfl (lv_at hl 2 rfl) ?_
            exact W.lret (v := p3) hx hb hr (fun t ht hW => ⟨_, rfl, h, ht⟩) (fun _ hq => by cases hq) dX8_joinedOf_83
          · have h := h.2 c5
            refine lv_lload_n hx hb dX8_joinedOf_78 rfl (lv_at hl 1 rfl) ?_
            refine lv_goto (tgt := 83) hx hb dX8_joinedOf_79 (by decide) ?_
            exact W.lret (v := p2) hx hb hr (fun t ht hW => ⟨_, rfl, h, ht⟩) (fun _ hq => by cases hq) dX8_joinedOf_83
        · have h := h.2 c8
          by_cases c9 : p1 = 4
          · have h := h.1 c9
            refine lv_tableIn (tgt := 84) hx hb dX8_joinedOf_31 (by rw [c9]; decide) (by rw [c9]; decide) (by rw [c9]; rfl) (by decide) ?_
            refine lv_lload_n hx hb dX8_joinedOf_84 rfl (lv_at hl 1 rfl) ?_
            refine lv_lload_n hx hb dX8_joinedOf_85 rfl (lv_at hl 2 rfl) ?_
            refine lv_lor hx hb dX8_joinedOf_86 ?_
            exact W.lret (v := p2 ||| p3) hx hb hr (fun t ht hW => ⟨_, rfl, h, ht⟩) (fun _ hq => by cases hq) dX8_joinedOf_87
          · have h := h.2 c9
            by_cases c10 : p1 = 5
            · have h := h.1 c10
              refine lv_tableIn (tgt := 88) hx hb dX8_joinedOf_31 (by rw [c10]; decide) (by rw [c10]; decide) (by rw [c10]; rfl) (by decide) ?_
              refine lv_iload hx hb dX8_joinedOf_88 (lv_at hl 3 rfl) ?_
              refine lv_if_eq (tgt := 97) hx hb dX8_joinedOf_90 (by decide) (fun c6 => ?_) (fun c6 => ?_)
              · have h := h.1 c6
                refine lv_lload_n hx hb dX8_joinedOf_97 rfl (lv_at hl 1 rfl) ?_
                exact W.lret (v := p2) hx hb hr (fun t ht hW => ⟨_, rfl, h, ht⟩) (fun _ hq => by cases hq) dX8_joinedOf_98
              · have h := h.2 c6
                refine lv_lload_n hx hb dX8_joinedOf_93 rfl (lv_at hl 2 rfl) ?_
                refine lv_goto (tgt := 98) hx hb dX8_joinedOf_94 (by decide) ?_
                exact W.lret (v := p3) hx hb hr (fun t ht hW => ⟨_, rfl, h, ht⟩) (fun _ hq => by cases hq) dX8_joinedOf_98
            · have h := h.2 c10
              refine lv_tableOut (tgt := 99) hx hb dX8_joinedOf_31 (by have qc7 := lv_neT c7 (a := 2) rfl; have qc8 := lv_neT c8 (a := 3) rfl; have qc9 := lv_neT c9 (a := 4) rfl; have qc10 := lv_neT c10 (a := 5) rfl; omega) (by decide) ?_
              refine lv_lload_n hx hb dX8_joinedOf_99 rfl (lv_at hl 1 rfl) ?_
              refine lv_lload_n hx hb dX8_joinedOf_100 rfl (lv_at hl 2 rfl) ?_
              refine lv_ladd hx hb dX8_joinedOf_101 ?_
              exact W.lret (v := p2 + p3) hx hb hr (fun t ht hW => ⟨_, rfl, h, ht⟩) (fun _ hq => by cases hq) dX8_joinedOf_102
    · have h := h.2 c3
      refine lv_lload_n hx hb dX8_joinedOf_16 rfl (lv_at hl 1 rfl) ?_
      refine lv_ldc2 (v := (-4000000000000)) hx hb hown (hta _ hw_737) dX8_joinedOf_17 ?_
      refine W.lcmp hx hb dX8_joinedOf_20 ?_
      refine lv_if_ne (tgt := 28) hx hb dX8_joinedOf_21 (by decide) (fun c11 => ?_) (fun c11 => ?_)
      · have h := h.1 c11
        refine lv_lload_n hx hb dX8_joinedOf_28 rfl (lv_at hl 1 rfl) ?_
        exact W.lret (v := p2) hx hb hr (fun t ht hW => ⟨_, rfl, h, ht⟩) (fun _ hq => by cases hq) dX8_joinedOf_29
      · have h := h.2 c11
        refine lv_lload_n hx hb dX8_joinedOf_24 rfl (lv_at hl 2 rfl) ?_
        refine lv_goto (tgt := 29) hx hb dX8_joinedOf_25 (by decide) ?_
        exact W.lret (v := p3) hx hb hr (fun t ht hW => ⟨_, rfl, h, ht⟩) (fun _ hq => by cases hq) dX8_joinedOf_29
def wj_d_come_79 (d_kinds : Nat → Int32) (d_states : Nat → Int64) (d_lastRow : Nat → Int32) (p1 : Int32) (v3 : Int64 × Int32 × Int32) (r5 : Int32) (K23 : (Int64 × Int32 × Int32) → Prop) (v7 : Int32) : Prop := wp_d_joinedOf (d_kinds p1.toNatClampNeg) v3.1 (d_states ((6 * r5) + p1).toNatClampNeg) v7 (fun (r8 : Int64) => vp_in r5 800 ∧ (((d_lastRow r5.toNatClampNeg) ≤ v3.2.1 → ∀ x10 : Int32, x10 = v3.2.2 + 1 → K23 (r8, v3.2.1, x10)) ∧ (¬ (d_lastRow r5.toNatClampNeg) ≤ v3.2.1 → vp_in r5 800 ∧ (∀ x11 : Int32, x11 = d_lastRow r5.toNatClampNeg → ∀ x12 : Int32, x12 = v3.2.2 + 1 → K23 (r8, x11, x12)))))
def wb_d_come_23 (d_kinds : Nat → Int32) (d_states : Nat → Int64) (d_lastRow : Nat → Int32) (d_parts : Nat → Int32) (p1 : Int32) (p2 : Int32) (post : Int64 → Prop) (K23 : (Int64 × Int32 × Int32) → Prop) (v3 : Int64 × Int32 × Int32) : Prop := vp_in p2 100 ∧ (((d_parts p2.toNatClampNeg) ≤ v3.2.2 → post v3.1) ∧ (¬ (d_parts p2.toNatClampNeg) ≤ v3.2.2 → wp_d_slot v3.2.2 p2 (fun (r5 : Int32) => vp_in p1 6 ∧ (vp_in ((6 * r5) + p1) 4800 ∧ (vp_in r5 800 ∧ (((d_lastRow r5.toNatClampNeg) ≤ v3.2.1 → wj_d_come_79 d_kinds d_states d_lastRow p1 v3 r5 K23 0) ∧ (¬ (d_lastRow r5.toNatClampNeg) ≤ v3.2.1 → wj_d_come_79 d_kinds d_states d_lastRow p1 v3 r5 K23 1)))))))
def wp_d_come (p1 : Int32) (p2 : Int32) (d_kinds : Nat → Int32) (d_states : Nat → Int64) (d_lastRow : Nat → Int32) (d_parts : Nat → Int32) (post : Int64 → Prop) : Prop := vp_in ((6 * p2) + p1) 4800 ∧ (∀ x1 : Int64, x1 = d_states ((6 * p2) + p1).toNatClampNeg → vp_in p2 800 ∧ (∀ x2 : Int32, x2 = d_lastRow p2.toNatClampNeg → ∃ n, hk_lp (wb_d_come_23 d_kinds d_states d_lastRow d_parts p1 p2 post) n (x1, x2, 1)))
theorem mm_d_come : hk_MV yX8_come cX8_come 8 (some .long) 2 := ⟨hw_985, hw_984, hw_74, hw_87, by decide +kernel⟩
set_option maxRecDepth 100000 in
set_option maxHeartbeats 4000000 in
theorem c_d_come (l : Launch) (D : va_G) (cI cJ cZ cM : ClassId) (h_d : Nat) (a_d : Nat → Nat)  (d_p : Int32) (d_r : Int32) (d_t : Int32) (d_slack : Int32) (d_m : Int32) (d_folds : Int32) (d_kinds : Nat → Int32) (d_declared : Nat → Int32) (d_states : Nat → Int64) (d_lastRow : Nat → Int32) (d_lastValue : Nat → Int32) (d_hasValue : Nat → Int32) (d_touched : Nat → Int32) (d_parts : Nat → Int32) (d_rows : Int32) (d_inRound : Int32) (d_rounds : Int32) (d_flips : Int32) (d_passed : Int32) (d_matches : Int32) (d_moved : Int32) (d_time : Int32) (d_out : Int64) (d_loads : Nat → Int32) (d_counterKey : Nat → Int32) (d_counterCount : Nat → Int32) (d_counterError : Nat → Int32) (d_smalls : Int32) (d_smallKey : Nat → Int32) (d_smallWeight : Nat → Int32) (d_timers : Int32) (d_timerKey : Nat → Int32) (d_timerTime : Nat → Int32) (d_logged : Int32) (d_logKey : Nat → Int32) (d_logTime : Nat → Int32) (d_logState : Nat → Int64) (d_marks : Int32) (d_markState : Nat → Int64) (d_markValue : Nat → Int32) (d_markHas : Nat → Int32) (d_markSmalls : Nat → Int32) (d_markSmallKey : Nat → Int32) (d_markSmallWeight : Nat → Int32) (d_markTimers : Nat → Int32) (d_markTimerKey : Nat → Int32) (d_markTimerTime : Nat → Int32) (d_markTime : Nat → Int32) (d_markRows : Nat → Int32) (d_markMatches : Nat → Int32) (d_markOut : Nat → Int64) (d_comes : Nat → Int64) (p1 : Int32) (p2 : Int32) (post : Int64 → Prop) (h : wp_d_come p1 p2 d_kinds d_states d_lastRow d_parts post) : Met l yX8_come (hk_ws yX8_come cX8_come 8 (some .long)) (hk_rm 1 25) (va_Pc [.ref h_d, .int p1, .int p2] (hk_PR D (hk_ty cI cJ cZ cM) (wv_d cI cJ cZ cM h_d a_d d_p d_r d_t d_slack d_m d_folds d_kinds d_declared d_states d_lastRow d_lastValue d_hasValue d_touched d_parts d_rows d_inRound d_rounds d_flips d_passed d_matches d_moved d_time d_out d_loads d_counterKey d_counterCount d_counterError d_smalls d_smallKey d_smallWeight d_timers d_timerKey d_timerTime d_logged d_logKey d_logTime d_logState d_marks d_markState d_markValue d_markHas d_markSmalls d_markSmallKey d_markSmallWeight d_markTimers d_markTimerKey d_markTimerTime d_markTime d_markRows d_markMatches d_markOut d_comes))) (vp_Sl post) 0 0 (fun _ => False) := by
  refine Met.ofW (cc := cX8_come) (maxL := 8) (ret := (some .long)) (by decide) rfl ?_
  intro p e s m args below meth c s₁ B hml hv
  obtain ⟨rfl, hP, hK, hN⟩ := hv
  have hx := B.exec
  have hb := B.bytes
  have hr := B.returns
  have hts := atoms_spec (ws := hk_ws yX8_come cX8_come 8 (some .long)) B.pre
  have hta : ∀ w ∈ hk_all, w.before ([.ref h_d, .int p1, .int p2] : List Value).toArray s = true := fun w hw => hts w (List.mem_cons_of_mem _ hw)
  have hown : s.vm.findClass RX8 = some m.cls := findClass_of_methodNamed B.named
  have hlocks := B.notSynchronized
  have S0 : CallFix p m c cX8_come 8 s ([.ref h_d, .int p1, .int p2] : List Value).toArray hk_all RX8 := ⟨hx, hb, hml, hown, hta⟩
  have hl := lv_entry ([.ref h_d, .int p1, .int p2]) (n := 8) (Nat.le_of_ble_eq_true rfl)
  rw [lg_entry_eq]
  generalize (lg_sl ([.ref h_d, .int p1, .int p2]) ++ List.replicate (8 - (lg_sl ([.ref h_d, .int p1, .int p2])).length) Slot.unset).toArray = ls at hl ⊢
  have hl : lv_has ls 8 [(0, .ref h_d), (1, .int p1), (2, .int p2)] := hl
  unfold wp_d_come at h
  refine lv_aload_n hx hb dX8_come_0 rfl (lv_at hl 0 rfl) ?_
  refine va_get (D := D) (ci := 8) (v := .ref (a_d 8)) (C := RX8) (T := TX8) (N := 52) hx hb hta ih_X8 hown hK hP 0 rfl rfl 8 (by decide) (hta _ hw_754) (fun _ h9 => h9) rfl dX8_come_1 ?_
  refine lv_bipush (v := 6) hx hb dX8_come_4 (by decide) ?_
  refine lv_iload_n hx hb dX8_come_6 rfl (lv_at hl 2 rfl) ?_
  refine lv_imul hx hb dX8_come_7 ?_
  refine lv_iload_n hx hb dX8_come_8 rfl (lv_at hl 1 rfl) ?_
  refine lv_iadd hx hb dX8_come_9 ?_
  refine va_lald hx hb hK hP 3 1 rfl rfl h.1 dX8_come_10 ?_
  have h := h.2
  refine lv_topl (fun x1 ex1 => ?_)
  have h := h x1 ex1
  refine lv_lstore_n (lv' := [(3, .long x1), (0, .ref h_d), (1, .int p1), (2, .int p2)]) hx hb dX8_come_11 rfl hl (by decide) rfl (fun ls hl => ?_)
  refine lv_aload_n hx hb dX8_come_12 rfl (lv_at hl 1 rfl) ?_
  refine va_get (D := D) (ci := 8) (v := .ref (a_d 9)) (C := RX8) (T := TX8) (N := 52) hx hb hta ih_X8 hown hK hP 0 rfl rfl 9 (by decide) (hta _ hw_755) (fun _ h9 => h9) rfl dX8_come_13 ?_
  refine lv_iload_n hx hb dX8_come_16 rfl (lv_at hl 3 rfl) ?_
  refine va_iald hx hb hK hP 4 0 rfl rfl h.1 dX8_come_17 ?_
  have h := h.2
  refine lv_topi (fun x2 ex2 => ?_)
  have h := h x2 ex2
  refine lv_istore (lv' := [(5, .int x2), (3, .long x1), (0, .ref h_d), (1, .int p1), (2, .int p2)]) hx hb dX8_come_18 hl (by decide) rfl (fun ls hl => ?_)
  refine lv_iconst (v := 1) hx hb dX8_come_20 (by decide) ?_
  refine lv_istore (lv' := [(6, .int 1), (5, .int x2), (3, .long x1), (0, .ref h_d), (1, .int p1), (2, .int p2)]) hx hb dX8_come_21 hl (by decide) rfl (fun ls hl => ?_)
  have P23 : ∀ (n : Nat) (v3 : Int64 × Int32 × Int32) (ls : Array Slot), lv_has ls 8 [(0, .ref h_d), (1, .int p1), (2, .int p2), (3, .long v3.1), (5, .int v3.2.1), (6, .int v3.2.2)] → hk_lp (wb_d_come_23 d_kinds d_states d_lastRow d_parts p1 p2 post) n v3 → W p l e (headSpec (hk_ws yX8_come cX8_come 8 (some .long)) (hk_rm 1 25)).room s m ([.ref h_d, .int p1, .int p2] : List Value).toArray below meth c s.heap [] 0 0 (MQ below (vp_Sl post) ([.ref h_d, .int p1, .int p2] : List Value).toArray s 0 0 (fun _ => False)) (F0 m 23 ls []) := by
    intro n
    induction n with
    | zero => intro v3 ls hl h; exact False.elim h
    | succ n ih23 =>
      intro v3 ls hl h
      have h : wb_d_come_23 d_kinds d_states d_lastRow d_parts p1 p2 post (hk_lp (wb_d_come_23 d_kinds d_states d_lastRow d_parts p1 p2 post) n) v3 := h
      generalize hk_lp (wb_d_come_23 d_kinds d_states d_lastRow d_parts p1 p2 post) n = K23 at h ih23
      unfold wb_d_come_23 at h
      refine lv_iload hx hb dX8_come_23 (lv_at hl 5 rfl) ?_
      refine lv_aload_n hx hb dX8_come_25 rfl (lv_at hl 0 rfl) ?_
      refine va_get (D := D) (ci := 8) (v := .ref (a_d 13)) (C := RX8) (T := TX8) (N := 52) hx hb hta ih_X8 hown hK hP 0 rfl rfl 13 (by decide) (hta _ hw_759) (fun _ h9 => h9) rfl dX8_come_26 ?_
      refine lv_iload_n hx hb dX8_come_29 rfl (lv_at hl 2 rfl) ?_
      refine va_iald hx hb hK hP 8 0 rfl rfl h.1 dX8_come_30 ?_
      have h := h.2
      refine lv_icmp_ge (tgt := 115) hx hb dX8_come_31 (by decide) (fun c4 => ?_) (fun c4 => ?_)
      · have h := h.1 c4
        refine lv_lload_n hx hb dX8_come_115 rfl (lv_at hl 3 rfl) ?_
        exact W.lret (v := v3.1) hx hb hr (fun t ht hW => ⟨_, rfl, h, ht⟩) (fun _ hq => by cases hq) dX8_come_116
      · have h := h.2 c4
        refine lv_aload_n hx hb dX8_come_34 rfl (lv_at hl 0 rfl) ?_
        refine lv_iload hx hb dX8_come_35 (lv_at hl 5 rfl) ?_
        refine lv_iload_n hx hb dX8_come_37 rfl (lv_at hl 2 rfl) ?_
        refine vp_callSi (hk_runV (As := [.int v3.2.2, .int p2]) (rest := []) S0 mm_d_slot (c_d_slot l D cI cJ cZ cM h_d a_d d_p d_r d_t d_slack d_m d_folds d_kinds d_declared d_states d_lastRow d_lastValue d_hasValue d_touched d_parts d_rows d_inRound d_rounds d_flips d_passed d_matches d_moved d_time d_out d_loads d_counterKey d_counterCount d_counterError d_smalls d_smallKey d_smallWeight d_timers d_timerKey d_timerTime d_logged d_logKey d_logTime d_logState d_marks d_markState d_markValue d_markHas d_markSmalls d_markSmallKey d_markSmallWeight d_markTimers d_markTimerKey d_markTimerTime d_markTime d_markRows d_markMatches d_markOut d_comes v3.2.2 p2 _ h) hw_728 hk_blR (hk_atR hP hK hN) (va_recv hK hP (ci := 8) (q0 := 0) rfl rfl) ⟨rfl, rfl, Nat.le_of_ble_eq_true rfl, Nat.le_of_ble_eq_true rfl⟩ rfl hl.1 rfl (Nat.le_of_ble_eq_true rfl) dX8_come_38 ⟨Nat.le_of_ble_eq_true rfl, Nat.le_of_ble_eq_true rfl⟩).run (fun r5 h => ?_)
        refine lv_istore (lv' := [(7, .int r5), (0, .ref h_d), (1, .int p1), (2, .int p2), (3, .long v3.1), (5, .int v3.2.1), (6, .int v3.2.2)]) hx hb dX8_come_41 hl (by decide) rfl (fun ls hl => ?_)
        refine lv_aload_n hx hb dX8_come_43 rfl (lv_at hl 1 rfl) ?_
        refine va_get (D := D) (ci := 8) (v := .ref (a_d 6)) (C := RX8) (T := TX8) (N := 52) hx hb hta ih_X8 hown hK hP 0 rfl rfl 6 (by decide) (hta _ hw_752) (fun _ h9 => h9) rfl dX8_come_44 ?_
        refine lv_iload_n hx hb dX8_come_47 rfl (lv_at hl 2 rfl) ?_
        refine va_iald hx hb hK hP 1 0 rfl rfl h.1 dX8_come_48 ?_
        have h := h.2
        refine lv_lload_n hx hb dX8_come_49 rfl (lv_at hl 4 rfl) ?_
        refine lv_aload_n hx hb dX8_come_50 rfl (lv_at hl 1 rfl) ?_
        refine va_get (D := D) (ci := 8) (v := .ref (a_d 8)) (C := RX8) (T := TX8) (N := 52) hx hb hta ih_X8 hown hK hP 0 rfl rfl 8 (by decide) (hta _ hw_754) (fun _ h9 => h9) rfl dX8_come_51 ?_
        refine lv_bipush (v := 6) hx hb dX8_come_54 (by decide) ?_
        refine lv_iload hx hb dX8_come_56 (lv_at hl 0 rfl) ?_
        refine lv_imul hx hb dX8_come_58 ?_
        refine lv_iload_n hx hb dX8_come_59 rfl (lv_at hl 2 rfl) ?_
        refine lv_iadd hx hb dX8_come_60 ?_
        refine va_lald hx hb hK hP 3 1 rfl rfl h.1 dX8_come_61 ?_
        have h := h.2
        refine lv_aload_n hx hb dX8_come_62 rfl (lv_at hl 1 rfl) ?_
        refine va_get (D := D) (ci := 8) (v := .ref (a_d 9)) (C := RX8) (T := TX8) (N := 52) hx hb hta ih_X8 hown hK hP 0 rfl rfl 9 (by decide) (hta _ hw_755) (fun _ h9 => h9) rfl dX8_come_63 ?_
        refine lv_iload hx hb dX8_come_66 (lv_at hl 0 rfl) ?_
        refine va_iald hx hb hK hP 4 0 rfl rfl h.1 dX8_come_68 ?_
        have h := h.2
        refine lv_iload hx hb dX8_come_69 (lv_at hl 5 rfl) ?_
        have J79 : ∀ (v7 : Int32) (ls : Array Slot), lv_has ls 8 [(0, .ref h_d), (1, .int p1), (2, .int p2), (3, .long v3.1), (5, .int v3.2.1), (6, .int v3.2.2), (7, .int r5)] → wj_d_come_79 d_kinds d_states d_lastRow p1 v3 r5 K23 v7 → W p l e (headSpec (hk_ws yX8_come cX8_come 8 (some .long)) (hk_rm 1 25)).room s m ([.ref h_d, .int p1, .int p2] : List Value).toArray below meth c s.heap [] 0 0 (MQ below (vp_Sl post) ([.ref h_d, .int p1, .int p2] : List Value).toArray s 0 0 (fun _ => False)) (F0 m 79 ls [.int v7, .long (d_states ((6 * r5) + p1).toNatClampNeg), .long v3.1, .int (d_kinds p1.toNatClampNeg)]) := by
          intro v7 ls hl h
          unfold wj_d_come_79 at h
          refine vp_callSl (hk_runS (As := [.int (d_kinds p1.toNatClampNeg), .long v3.1, .long (d_states ((6 * r5) + p1).toNatClampNeg), .int v7]) (rest := []) S0 mm_d_joinedOf (c_d_joinedOf l D cI cJ cZ cM (d_kinds p1.toNatClampNeg) v3.1 (d_states ((6 * r5) + p1).toNatClampNeg) v7 _ h) hw_986 hk_blR (hk_atR (hP.sub (ws' := ([] : va_W)) [] rfl) hK hN) ⟨rfl, rfl, Nat.le_of_ble_eq_true rfl, Nat.le_of_ble_eq_true rfl⟩ rfl hl.1 rfl (Nat.le_of_ble_eq_true rfl) dX8_come_79 ⟨Nat.le_of_ble_eq_true rfl, Nat.le_of_ble_eq_true rfl⟩).run (fun r8 h => ?_)
          refine lv_lstore_n (lv' := [(3, .long r8), (0, .ref h_d), (1, .int p1), (2, .int p2), (5, .int v3.2.1), (6, .int v3.2.2), (7, .int r5)]) hx hb dX8_come_82 rfl hl (by decide) rfl (fun ls hl => ?_)
          refine lv_aload_n hx hb dX8_come_83 rfl (lv_at hl 1 rfl) ?_
          refine va_get (D := D) (ci := 8) (v := .ref (a_d 9)) (C := RX8) (T := TX8) (N := 52) hx hb hta ih_X8 hown hK hP 0 rfl rfl 9 (by decide) (hta _ hw_755) (fun _ h9 => h9) rfl dX8_come_84 ?_
          refine lv_iload hx hb dX8_come_87 (lv_at hl 6 rfl) ?_
          refine va_iald hx hb hK hP 4 0 rfl rfl h.1 dX8_come_89 ?_
          have h := h.2
          refine lv_iload hx hb dX8_come_90 (lv_at hl 4 rfl) ?_
          refine lv_icmp_le (tgt := 105) hx hb dX8_come_92 (by decide) (fun c9 => ?_) (fun c9 => ?_)
          · have h := h.1 c9
            refine lv_iload hx hb dX8_come_105 (lv_at hl 4 rfl) ?_
            refine lv_istore (lv' := [(5, .int v3.2.1), (3, .long r8), (0, .ref h_d), (1, .int p1), (2, .int p2), (6, .int v3.2.2), (7, .int r5)]) hx hb dX8_come_107 hl (by decide) rfl (fun ls hl => ?_)
            obtain ⟨x10, ex10⟩ : ∃ y : Int32, y = v3.2.2 + 1 := ⟨_, rfl⟩
            have h := h x10 ex10
            refine lv_iinc (v := x10) (lv' := [(6, .int x10), (5, .int v3.2.1), (3, .long r8), (0, .ref h_d), (1, .int p1), (2, .int p2), (7, .int r5)]) hx hb dX8_come_109 hl (k := 5) rfl (by rw [ex10]; rfl) (by decide) rfl (fun ls hl => ?_)
            refine lv_goto (tgt := 23) hx hb dX8_come_112 (by decide) ?_
            exact ih23 (r8, v3.2.1, x10) ls (lv_sub hl [3, 4, 5, 2, 1, 0] rfl) h
          · have h := h.2 c9
            refine lv_aload_n hx hb dX8_come_95 rfl (lv_at hl 1 rfl) ?_
            refine va_get (D := D) (ci := 8) (v := .ref (a_d 9)) (C := RX8) (T := TX8) (N := 52) hx hb hta ih_X8 hown hK hP 0 rfl rfl 9 (by decide) (hta _ hw_755) (fun _ h9 => h9) rfl dX8_come_96 ?_
            refine lv_iload hx hb dX8_come_99 (lv_at hl 6 rfl) ?_
            refine va_iald hx hb hK hP 4 0 rfl rfl h.1 dX8_come_101 ?_
            have h := h.2
            refine lv_goto (tgt := 107) hx hb dX8_come_102 (by decide) ?_
            refine lv_topi (fun x11 ex11 => ?_)
            have h := h x11 ex11
            refine lv_istore (lv' := [(5, .int x11), (3, .long r8), (0, .ref h_d), (1, .int p1), (2, .int p2), (6, .int v3.2.2), (7, .int r5)]) hx hb dX8_come_107 hl (by decide) rfl (fun ls hl => ?_)
            obtain ⟨x12, ex12⟩ : ∃ y : Int32, y = v3.2.2 + 1 := ⟨_, rfl⟩
            have h := h x12 ex12
            refine lv_iinc (v := x12) (lv' := [(6, .int x12), (5, .int x11), (3, .long r8), (0, .ref h_d), (1, .int p1), (2, .int p2), (7, .int r5)]) hx hb dX8_come_109 hl (k := 5) rfl (by rw [ex12]; rfl) (by decide) rfl (fun ls hl => ?_)
            refine lv_goto (tgt := 23) hx hb dX8_come_112 (by decide) ?_
            exact ih23 (r8, x11, x12) ls (lv_sub hl [3, 4, 5, 2, 1, 0] rfl) h
        refine lv_icmp_le (tgt := 78) hx hb dX8_come_71 (by decide) (fun c6 => ?_) (fun c6 => ?_)
        · have h := h.1 c6
          refine lv_iconst (v := 0) hx hb dX8_come_78 (by decide) ?_
          exact J79 0 ls (lv_sub hl [1, 2, 3, 4, 5, 6, 0] rfl) h
        · have h := h.2 c6
          refine lv_iconst (v := 1) hx hb dX8_come_74 (by decide) ?_
          refine lv_goto (tgt := 79) hx hb dX8_come_75 (by decide) ?_
          exact J79 1 ls (lv_sub hl [1, 2, 3, 4, 5, 6, 0] rfl) h
  obtain ⟨n, h⟩ := h
  exact P23 n (x1, x2, 1) ls (lv_sub hl [3, 4, 5, 2, 1, 0] rfl) h
def wb_d_joinBack_114 (d_folds : Int32) (d_lastRow : Nat → Int32) (d_parts : Nat → Int32) (d_moved : Int32) (p1 : Int32) (post : Int32 → ((Nat → Int64) × (Nat → Int32) × (Nat → Int32) × Int32 × (Nat → Int64)) → Prop) (v2 : Int32 × (Nat → Int64)) (v4 : Int32 × Int32 × Int32) (K114 : (Int32 × (Nat → Int64)) → Prop) (v6 : Int32 × (Nat → Int64)) : Prop := (d_folds ≤ v6.1 → vp_in p1 800 ∧ (vp_in p1 100 ∧ (∀ x8 : Int32, x8 = d_moved + v4.1 → post v4.1 (v6.2, upd d_lastRow p1.toNatClampNeg v4.2.1, upd d_parts p1.toNatClampNeg 1, x8, v2.2)))) ∧ (¬ d_folds ≤ v6.1 → vp_in v6.1 6 ∧ (∀ x9 : Int64, x9 = v2.2 v6.1.toNatClampNeg → vp_in ((6 * p1) + v6.1) 4800 ∧ (∀ x10 : Int32, x10 = v6.1 + 1 → K114 (x10, vp_updL v6.2 ((6 * p1) + v6.1).toNatClampNeg x9))))
def wj_d_joinBack_80 (d_lastRow : Nat → Int32) (v4 : Int32 × Int32 × Int32) (r11 : Int32) (K44 : (Int32 × Int32 × Int32) → Prop) (v13 : Int32) : Prop := ∀ x14 : Int32, x14 = v4.1 + v13 → vp_in r11 800 ∧ (((d_lastRow r11.toNatClampNeg) ≤ v4.2.1 → ∀ x16 : Int32, x16 = v4.2.2 + 1 → K44 (x14, v4.2.1, x16)) ∧ (¬ (d_lastRow r11.toNatClampNeg) ≤ v4.2.1 → vp_in r11 800 ∧ (∀ x17 : Int32, x17 = d_lastRow r11.toNatClampNeg → ∀ x18 : Int32, x18 = v4.2.2 + 1 → K44 (x14, x17, x18))))
def wb_d_joinBack_44 (d_folds : Int32) (d_states : Nat → Int64) (d_lastRow : Nat → Int32) (d_touched : Nat → Int32) (d_parts : Nat → Int32) (d_moved : Int32) (p1 : Int32) (post : Int32 → ((Nat → Int64) × (Nat → Int32) × (Nat → Int32) × Int32 × (Nat → Int64)) → Prop) (v2 : Int32 × (Nat → Int64)) (K44 : (Int32 × Int32 × Int32) → Prop) (v4 : Int32 × Int32 × Int32) : Prop := vp_in p1 100 ∧ (((d_parts p1.toNatClampNeg) ≤ v4.2.2 → ∃ n, hk_lp (wb_d_joinBack_114 d_folds d_lastRow d_parts d_moved p1 post v2 v4) n (0, d_states)) ∧ (¬ (d_parts p1.toNatClampNeg) ≤ v4.2.2 → wp_d_slot v4.2.2 p1 (fun (r11 : Int32) => vp_in r11 800 ∧ (((d_touched r11.toNatClampNeg) = 0 → wj_d_joinBack_80 d_lastRow v4 r11 K44 0) ∧ (¬ (d_touched r11.toNatClampNeg) = 0 → wj_d_joinBack_80 d_lastRow v4 r11 K44 1)))))
def wb_d_joinBack_12 (d_folds : Int32) (d_kinds : Nat → Int32) (d_states : Nat → Int64) (d_lastRow : Nat → Int32) (d_touched : Nat → Int32) (d_parts : Nat → Int32) (d_moved : Int32) (p1 : Int32) (post : Int32 → ((Nat → Int64) × (Nat → Int32) × (Nat → Int32) × Int32 × (Nat → Int64)) → Prop) (x1 : Int32) (K12 : (Int32 × (Nat → Int64)) → Prop) (v2 : Int32 × (Nat → Int64)) : Prop := (d_folds ≤ v2.1 → ∃ n, hk_lp (wb_d_joinBack_44 d_folds d_states d_lastRow d_touched d_parts d_moved p1 post v2) n (0, x1, 1)) ∧ (¬ d_folds ≤ v2.1 → wp_d_come v2.1 p1 d_kinds d_states d_lastRow d_parts (fun (r19 : Int64) => vp_in v2.1 6 ∧ (∀ x20 : Int32, x20 = v2.1 + 1 → K12 (x20, vp_updL v2.2 v2.1.toNatClampNeg r19))))
def wp_d_joinBack (p1 : Int32) (d_folds : Int32) (d_kinds : Nat → Int32) (d_states : Nat → Int64) (d_lastRow : Nat → Int32) (d_touched : Nat → Int32) (d_parts : Nat → Int32) (d_moved : Int32) (d_comes : Nat → Int64) (post : Int32 → ((Nat → Int64) × (Nat → Int32) × (Nat → Int32) × Int32 × (Nat → Int64)) → Prop) : Prop := vp_in p1 800 ∧ (∀ x1 : Int32, x1 = d_lastRow p1.toNatClampNeg → ∃ n, hk_lp (wb_d_joinBack_12 d_folds d_kinds d_states d_lastRow d_touched d_parts d_moved p1 post x1) n (0, d_comes))
theorem mm_d_joinBack : hk_MV yX8_joinBack cX8_joinBack 6 (some .int) 1 := ⟨hw_981, hw_980, hw_73, hw_87, by decide +kernel⟩
set_option maxRecDepth 100000 in
set_option maxHeartbeats 4000000 in
theorem c_d_joinBack (l : Launch) (D : va_G) (cI cJ cZ cM : ClassId) (h_d : Nat) (a_d : Nat → Nat) (sz : Nat) (d_p : Int32) (d_r : Int32) (d_t : Int32) (d_slack : Int32) (d_m : Int32) (d_folds : Int32) (d_kinds : Nat → Int32) (d_declared : Nat → Int32) (d_states : Nat → Int64) (d_lastRow : Nat → Int32) (d_lastValue : Nat → Int32) (d_hasValue : Nat → Int32) (d_touched : Nat → Int32) (d_parts : Nat → Int32) (d_rows : Int32) (d_inRound : Int32) (d_rounds : Int32) (d_flips : Int32) (d_passed : Int32) (d_matches : Int32) (d_moved : Int32) (d_time : Int32) (d_out : Int64) (d_loads : Nat → Int32) (d_counterKey : Nat → Int32) (d_counterCount : Nat → Int32) (d_counterError : Nat → Int32) (d_smalls : Int32) (d_smallKey : Nat → Int32) (d_smallWeight : Nat → Int32) (d_timers : Int32) (d_timerKey : Nat → Int32) (d_timerTime : Nat → Int32) (d_logged : Int32) (d_logKey : Nat → Int32) (d_logTime : Nat → Int32) (d_logState : Nat → Int64) (d_marks : Int32) (d_markState : Nat → Int64) (d_markValue : Nat → Int32) (d_markHas : Nat → Int32) (d_markSmalls : Nat → Int32) (d_markSmallKey : Nat → Int32) (d_markSmallWeight : Nat → Int32) (d_markTimers : Nat → Int32) (d_markTimerKey : Nat → Int32) (d_markTimerTime : Nat → Int32) (d_markTime : Nat → Int32) (d_markRows : Nat → Int32) (d_markMatches : Nat → Int32) (d_markOut : Nat → Int64) (d_comes : Nat → Int64) (p1 : Int32) (post : Int32 → ((Nat → Int64) × (Nat → Int32) × (Nat → Int32) × Int32 × (Nat → Int64)) → Prop) (h : wp_d_joinBack p1 d_folds d_kinds d_states d_lastRow d_touched d_parts d_moved d_comes post) : Met l yX8_joinBack (hk_ws yX8_joinBack cX8_joinBack 6 (some .int)) (hk_rm 2 52) (va_Pc [.ref h_d, .int p1] (hk_PM D (hk_ty cI cJ cZ cM) sz (wv_d cI cJ cZ cM h_d a_d d_p d_r d_t d_slack d_m d_folds d_kinds d_declared d_states d_lastRow d_lastValue d_hasValue d_touched d_parts d_rows d_inRound d_rounds d_flips d_passed d_matches d_moved d_time d_out d_loads d_counterKey d_counterCount d_counterError d_smalls d_smallKey d_smallWeight d_timers d_timerKey d_timerTime d_logged d_logKey d_logTime d_logState d_marks d_markState d_markValue d_markHas d_markSmalls d_markSmallKey d_markSmallWeight d_markTimers d_markTimerKey d_markTimerTime d_markTime d_markRows d_markMatches d_markOut d_comes))) (va_Qi post (hk_B D (va_A (wv_d cI cJ cZ cM h_d a_d d_p d_r d_t d_slack d_m d_folds d_kinds d_declared d_states d_lastRow d_lastValue d_hasValue d_touched d_parts d_rows d_inRound d_rounds d_flips d_passed d_matches d_moved d_time d_out d_loads d_counterKey d_counterCount d_counterError d_smalls d_smallKey d_smallWeight d_timers d_timerKey d_timerTime d_logged d_logKey d_logTime d_logState d_marks d_markState d_markValue d_markHas d_markSmalls d_markSmallKey d_markSmallWeight d_markTimers d_markTimerKey d_markTimerTime d_markTime d_markRows d_markMatches d_markOut d_comes) sz) (fun (u : (Nat → Int64) × (Nat → Int32) × (Nat → Int32) × Int32 × (Nat → Int64)) => wv_d cI cJ cZ cM h_d a_d d_p d_r d_t d_slack d_m d_folds d_kinds d_declared u.1 u.2.1 d_lastValue d_hasValue d_touched u.2.2.1 d_rows d_inRound d_rounds d_flips d_passed d_matches u.2.2.2.1 d_time d_out d_loads d_counterKey d_counterCount d_counterError d_smalls d_smallKey d_smallWeight d_timers d_timerKey d_timerTime d_logged d_logKey d_logTime d_logState d_marks d_markState d_markValue d_markHas d_markSmalls d_markSmallKey d_markSmallWeight d_markTimers d_markTimerKey d_markTimerTime d_markTime d_markRows d_markMatches d_markOut u.2.2.2.2)) (va_A (wv_d cI cJ cZ cM h_d a_d d_p d_r d_t d_slack d_m d_folds d_kinds d_declared d_states d_lastRow d_lastValue d_hasValue d_touched d_parts d_rows d_inRound d_rounds d_flips d_passed d_matches d_moved d_time d_out d_loads d_counterKey d_counterCount d_counterError d_smalls d_smallKey d_smallWeight d_timers d_timerKey d_timerTime d_logged d_logKey d_logTime d_logState d_marks d_markState d_markValue d_markHas d_markSmalls d_markSmallKey d_markSmallWeight d_markTimers d_markTimerKey d_markTimerTime d_markTime d_markRows d_markMatches d_markOut d_comes) sz)) 0 0 (va_A (wv_d cI cJ cZ cM h_d a_d d_p d_r d_t d_slack d_m d_folds d_kinds d_declared d_states d_lastRow d_lastValue d_hasValue d_touched d_parts d_rows d_inRound d_rounds d_flips d_passed d_matches d_moved d_time d_out d_loads d_counterKey d_counterCount d_counterError d_smalls d_smallKey d_smallWeight d_timers d_timerKey d_timerTime d_logged d_logKey d_logTime d_logState d_marks d_markState d_markValue d_markHas d_markSmalls d_markSmallKey d_markSmallWeight d_markTimers d_markTimerKey d_markTimerTime d_markTime d_markRows d_markMatches d_markOut d_comes) sz) := by
  refine Met.ofW (cc := cX8_joinBack) (maxL := 6) (ret := (some .int)) (by decide) rfl ?_
  intro p e s m args below meth c s₁ B hml hv
  obtain ⟨rfl, hsz, hP, hK, hD0, hN⟩ := hv
  have hx := B.exec
  have hb := B.bytes
  have hr := B.returns
  have hts := atoms_spec (ws := hk_ws yX8_joinBack cX8_joinBack 6 (some .int)) B.pre
  have hta : ∀ w ∈ hk_all, w.before ([.ref h_d, .int p1] : List Value).toArray s = true := fun w hw => hts w (List.mem_cons_of_mem _ hw)
  have hown : s.vm.findClass RX8 = some m.cls := findClass_of_methodNamed B.named
  have hlocks := B.notSynchronized
  have S0 : CallFix p m c cX8_joinBack 6 s ([.ref h_d, .int p1] : List Value).toArray hk_all RX8 := ⟨hx, hb, hml, hown, hta⟩
  subst hsz
  have hD := hD0.self (sz := s.heap.size)
  generalize hAe : va_A (wv_d cI cJ cZ cM h_d a_d d_p d_r d_t d_slack d_m d_folds d_kinds d_declared d_states d_lastRow d_lastValue d_hasValue d_touched d_parts d_rows d_inRound d_rounds d_flips d_passed d_matches d_moved d_time d_out d_loads d_counterKey d_counterCount d_counterError d_smalls d_smallKey d_smallWeight d_timers d_timerKey d_timerTime d_logged d_logKey d_logTime d_logState d_marks d_markState d_markValue d_markHas d_markSmalls d_markSmallKey d_markSmallWeight d_markTimers d_markTimerKey d_markTimerTime d_markTime d_markRows d_markMatches d_markOut d_comes) s.heap.size = A at hD ⊢
  have hA : ∀ q : Nat, s.heap.size ≤ q → A q := fun q h => by rw [← hAe]; exact Or.inr h
  have hS : va_S A s.heap s.heap [] := va_S.rf
  have hl := lv_entry ([.ref h_d, .int p1]) (n := 6) (Nat.le_of_ble_eq_true rfl)
  rw [lg_entry_eq]
  generalize (lg_sl ([.ref h_d, .int p1]) ++ List.replicate (6 - (lg_sl ([.ref h_d, .int p1])).length) Slot.unset).toArray = ls at hl ⊢
  have hl : lv_has ls 6 [(0, .ref h_d), (1, .int p1)] := hl
  unfold wp_d_joinBack at h
  refine lv_iconst (v := 0) hx hb dX8_joinBack_0 (by decide) ?_
  refine lv_istore_n (lv' := [(2, .int 0), (0, .ref h_d), (1, .int p1)]) hx hb dX8_joinBack_1 rfl hl (by decide) rfl (fun ls hl => ?_)
  refine lv_aload_n hx hb dX8_joinBack_2 rfl (lv_at hl 1 rfl) ?_
  refine va_get (D := D) (ci := 8) (v := .ref (a_d 9)) (C := RX8) (T := TX8) (N := 52) hx hb hta ih_X8 hown hK hP 0 rfl rfl 9 (by decide) (hta _ hw_755) (fun _ h9 => h9) rfl dX8_joinBack_3 ?_
  refine lv_iload_n hx hb dX8_joinBack_6 rfl (lv_at hl 2 rfl) ?_
  refine va_iald hx hb hK hP 4 0 rfl rfl h.1 dX8_joinBack_7 ?_
  have h := h.2
  refine lv_topi (fun x1 ex1 => ?_)
  have h := h x1 ex1
  refine lv_istore_n (lv' := [(3, .int x1), (2, .int 0), (0, .ref h_d), (1, .int p1)]) hx hb dX8_joinBack_8 rfl hl (by decide) rfl (fun ls hl => ?_)
  refine lv_iconst (v := 0) hx hb dX8_joinBack_9 (by decide) ?_
  refine lv_istore (lv' := [(4, .int 0), (3, .int x1), (2, .int 0), (0, .ref h_d), (1, .int p1)]) hx hb dX8_joinBack_10 hl (by decide) rfl (fun ls hl => ?_)
  have P12 : ∀ (n : Nat) (v2 : Int32 × (Nat → Int64)) (H : Heap) (locs : List Loc) (ls : Array Slot), va_P D vwCl (wv_d cI cJ cZ cM h_d a_d d_p d_r d_t d_slack d_m d_folds d_kinds d_declared d_states d_lastRow d_lastValue d_hasValue d_touched d_parts d_rows d_inRound d_rounds d_flips d_passed d_matches d_moved d_time d_out d_loads d_counterKey d_counterCount d_counterError d_smalls d_smallKey d_smallWeight d_timers d_timerKey d_timerTime d_logged d_logKey d_logTime d_logState d_marks d_markState d_markValue d_markHas d_markSmalls d_markSmallKey d_markSmallWeight d_markTimers d_markTimerKey d_markTimerTime d_markTime d_markRows d_markMatches d_markOut v2.2) H → va_D A (wv_d cI cJ cZ cM h_d a_d d_p d_r d_t d_slack d_m d_folds d_kinds d_declared d_states d_lastRow d_lastValue d_hasValue d_touched d_parts d_rows d_inRound d_rounds d_flips d_passed d_matches d_moved d_time d_out d_loads d_counterKey d_counterCount d_counterError d_smalls d_smallKey d_smallWeight d_timers d_timerKey d_timerTime d_logged d_logKey d_logTime d_logState d_marks d_markState d_markValue d_markHas d_markSmalls d_markSmallKey d_markSmallWeight d_markTimers d_markTimerKey d_markTimerTime d_markTime d_markRows d_markMatches d_markOut v2.2) → va_S A s.heap H locs → lv_has ls 6 [(0, .ref h_d), (1, .int p1), (2, .int 0), (3, .int x1), (4, .int v2.1)] → hk_lp (wb_d_joinBack_12 d_folds d_kinds d_states d_lastRow d_touched d_parts d_moved p1 post x1) n v2 → W p l e (headSpec (hk_ws yX8_joinBack cX8_joinBack 6 (some .int)) (hk_rm 2 52)).room s m ([.ref h_d, .int p1] : List Value).toArray below meth c H locs 0 0 (MQ below (va_Qi post (hk_B D (A) (fun (u : (Nat → Int64) × (Nat → Int32) × (Nat → Int32) × Int32 × (Nat → Int64)) => wv_d cI cJ cZ cM h_d a_d d_p d_r d_t d_slack d_m d_folds d_kinds d_declared u.1 u.2.1 d_lastValue d_hasValue d_touched u.2.2.1 d_rows d_inRound d_rounds d_flips d_passed d_matches u.2.2.2.1 d_time d_out d_loads d_counterKey d_counterCount d_counterError d_smalls d_smallKey d_smallWeight d_timers d_timerKey d_timerTime d_logged d_logKey d_logTime d_logState d_marks d_markState d_markValue d_markHas d_markSmalls d_markSmallKey d_markSmallWeight d_markTimers d_markTimerKey d_markTimerTime d_markTime d_markRows d_markMatches d_markOut u.2.2.2.2)) (A)) ([.ref h_d, .int p1] : List Value).toArray s 0 0 A) (F0 m 12 ls []) := by
    intro n
    induction n with
    | zero => intro v2 H locs ls hP hD hS hl h; exact False.elim h
    | succ n ih12 =>
      intro v2 H locs ls hP hD hS hl h
      have h : wb_d_joinBack_12 d_folds d_kinds d_states d_lastRow d_touched d_parts d_moved p1 post x1 (hk_lp (wb_d_joinBack_12 d_folds d_kinds d_states d_lastRow d_touched d_parts d_moved p1 post x1) n) v2 := h
      generalize hk_lp (wb_d_joinBack_12 d_folds d_kinds d_states d_lastRow d_touched d_parts d_moved p1 post x1) n = K12 at h ih12
      unfold wb_d_joinBack_12 at h
      refine lv_iload hx hb dX8_joinBack_12 (lv_at hl 4 rfl) ?_
      refine lv_aload_n hx hb dX8_joinBack_14 rfl (lv_at hl 0 rfl) ?_
      refine va_get (D := D) (ci := 8) (v := .int d_folds) (C := RX8) (T := TX8) (N := 52) hx hb hta ih_X8 hown hK hP 0 rfl rfl 5 (by decide) (hta _ hw_751) (fun _ h9 => h9) rfl dX8_joinBack_15 ?_
      refine lv_icmp_ge (tgt := 41) hx hb dX8_joinBack_18 (by decide) (fun c3 => ?_) (fun c3 => ?_)
      · have h := h.1 c3
        refine lv_iconst (v := 1) hx hb dX8_joinBack_41 (by decide) ?_
        refine lv_istore (lv' := [(4, .int 1), (0, .ref h_d), (1, .int p1), (2, .int 0), (3, .int x1)]) hx hb dX8_joinBack_42 hl (by decide) rfl (fun ls hl => ?_)
        have P44 : ∀ (n : Nat) (v4 : Int32 × Int32 × Int32) (H : Heap) (locs : List Loc) (ls : Array Slot), va_P D vwCl (wv_d cI cJ cZ cM h_d a_d d_p d_r d_t d_slack d_m d_folds d_kinds d_declared d_states d_lastRow d_lastValue d_hasValue d_touched d_parts d_rows d_inRound d_rounds d_flips d_passed d_matches d_moved d_time d_out d_loads d_counterKey d_counterCount d_counterError d_smalls d_smallKey d_smallWeight d_timers d_timerKey d_timerTime d_logged d_logKey d_logTime d_logState d_marks d_markState d_markValue d_markHas d_markSmalls d_markSmallKey d_markSmallWeight d_markTimers d_markTimerKey d_markTimerTime d_markTime d_markRows d_markMatches d_markOut v2.2) H → va_D A (wv_d cI cJ cZ cM h_d a_d d_p d_r d_t d_slack d_m d_folds d_kinds d_declared d_states d_lastRow d_lastValue d_hasValue d_touched d_parts d_rows d_inRound d_rounds d_flips d_passed d_matches d_moved d_time d_out d_loads d_counterKey d_counterCount d_counterError d_smalls d_smallKey d_smallWeight d_timers d_timerKey d_timerTime d_logged d_logKey d_logTime d_logState d_marks d_markState d_markValue d_markHas d_markSmalls d_markSmallKey d_markSmallWeight d_markTimers d_markTimerKey d_markTimerTime d_markTime d_markRows d_markMatches d_markOut v2.2) → va_S A s.heap H locs → lv_has ls 6 [(0, .ref h_d), (1, .int p1), (2, .int v4.1), (3, .int v4.2.1), (4, .int v4.2.2)] → hk_lp (wb_d_joinBack_44 d_folds d_states d_lastRow d_touched d_parts d_moved p1 post v2) n v4 → W p l e (headSpec (hk_ws yX8_joinBack cX8_joinBack 6 (some .int)) (hk_rm 2 52)).room s m ([.ref h_d, .int p1] : List Value).toArray below meth c H locs 0 0 (MQ below (va_Qi post (hk_B D (A) (fun (u : (Nat → Int64) × (Nat → Int32) × (Nat → Int32) × Int32 × (Nat → Int64)) => wv_d cI cJ cZ cM h_d a_d d_p d_r d_t d_slack d_m d_folds d_kinds d_declared u.1 u.2.1 d_lastValue d_hasValue d_touched u.2.2.1 d_rows d_inRound d_rounds d_flips d_passed d_matches u.2.2.2.1 d_time d_out d_loads d_counterKey d_counterCount d_counterError d_smalls d_smallKey d_smallWeight d_timers d_timerKey d_timerTime d_logged d_logKey d_logTime d_logState d_marks d_markState d_markValue d_markHas d_markSmalls d_markSmallKey d_markSmallWeight d_markTimers d_markTimerKey d_markTimerTime d_markTime d_markRows d_markMatches d_markOut u.2.2.2.2)) (A)) ([.ref h_d, .int p1] : List Value).toArray s 0 0 A) (F0 m 44 ls []) := by
          intro n
          induction n with
          | zero => intro v4 H locs ls hP hD hS hl h; exact False.elim h
          | succ n ih44 =>
            intro v4 H locs ls hP hD hS hl h
            have h : wb_d_joinBack_44 d_folds d_states d_lastRow d_touched d_parts d_moved p1 post v2 (hk_lp (wb_d_joinBack_44 d_folds d_states d_lastRow d_touched d_parts d_moved p1 post v2) n) v4 := h
            generalize hk_lp (wb_d_joinBack_44 d_folds d_states d_lastRow d_touched d_parts d_moved p1 post v2) n = K44 at h ih44
            unfold wb_d_joinBack_44 at h
            refine lv_iload hx hb dX8_joinBack_44 (lv_at hl 4 rfl) ?_
            refine lv_aload_n hx hb dX8_joinBack_46 rfl (lv_at hl 0 rfl) ?_
            refine va_get (D := D) (ci := 8) (v := .ref (a_d 13)) (C := RX8) (T := TX8) (N := 52) hx hb hta ih_X8 hown hK hP 0 rfl rfl 13 (by decide) (hta _ hw_759) (fun _ h9 => h9) rfl dX8_joinBack_47 ?_
            refine lv_iload_n hx hb dX8_joinBack_50 rfl (lv_at hl 1 rfl) ?_
            refine va_iald hx hb hK hP 8 0 rfl rfl h.1 dX8_joinBack_51 ?_
            have h := h.2
            refine lv_icmp_ge (tgt := 111) hx hb dX8_joinBack_52 (by decide) (fun c5 => ?_) (fun c5 => ?_)
            · have h := h.1 c5
              refine lv_iconst (v := 0) hx hb dX8_joinBack_111 (by decide) ?_
              refine lv_istore (lv' := [(4, .int 0), (0, .ref h_d), (1, .int p1), (2, .int v4.1), (3, .int v4.2.1)]) hx hb dX8_joinBack_112 hl (by decide) rfl (fun ls hl => ?_)
              have P114 : ∀ (n : Nat) (v6 : Int32 × (Nat → Int64)) (H : Heap) (locs : List Loc) (ls : Array Slot), va_P D vwCl (wv_d cI cJ cZ cM h_d a_d d_p d_r d_t d_slack d_m d_folds d_kinds d_declared v6.2 d_lastRow d_lastValue d_hasValue d_touched d_parts d_rows d_inRound d_rounds d_flips d_passed d_matches d_moved d_time d_out d_loads d_counterKey d_counterCount d_counterError d_smalls d_smallKey d_smallWeight d_timers d_timerKey d_timerTime d_logged d_logKey d_logTime d_logState d_marks d_markState d_markValue d_markHas d_markSmalls d_markSmallKey d_markSmallWeight d_markTimers d_markTimerKey d_markTimerTime d_markTime d_markRows d_markMatches d_markOut v2.2) H → va_D A (wv_d cI cJ cZ cM h_d a_d d_p d_r d_t d_slack d_m d_folds d_kinds d_declared v6.2 d_lastRow d_lastValue d_hasValue d_touched d_parts d_rows d_inRound d_rounds d_flips d_passed d_matches d_moved d_time d_out d_loads d_counterKey d_counterCount d_counterError d_smalls d_smallKey d_smallWeight d_timers d_timerKey d_timerTime d_logged d_logKey d_logTime d_logState d_marks d_markState d_markValue d_markHas d_markSmalls d_markSmallKey d_markSmallWeight d_markTimers d_markTimerKey d_markTimerTime d_markTime d_markRows d_markMatches d_markOut v2.2) → va_S A s.heap H locs → lv_has ls 6 [(0, .ref h_d), (1, .int p1), (2, .int v4.1), (3, .int v4.2.1), (4, .int v6.1)] → hk_lp (wb_d_joinBack_114 d_folds d_lastRow d_parts d_moved p1 post v2 v4) n v6 → W p l e (headSpec (hk_ws yX8_joinBack cX8_joinBack 6 (some .int)) (hk_rm 2 52)).room s m ([.ref h_d, .int p1] : List Value).toArray below meth c H locs 0 0 (MQ below (va_Qi post (hk_B D (A) (fun (u : (Nat → Int64) × (Nat → Int32) × (Nat → Int32) × Int32 × (Nat → Int64)) => wv_d cI cJ cZ cM h_d a_d d_p d_r d_t d_slack d_m d_folds d_kinds d_declared u.1 u.2.1 d_lastValue d_hasValue d_touched u.2.2.1 d_rows d_inRound d_rounds d_flips d_passed d_matches u.2.2.2.1 d_time d_out d_loads d_counterKey d_counterCount d_counterError d_smalls d_smallKey d_smallWeight d_timers d_timerKey d_timerTime d_logged d_logKey d_logTime d_logState d_marks d_markState d_markValue d_markHas d_markSmalls d_markSmallKey d_markSmallWeight d_markTimers d_markTimerKey d_markTimerTime d_markTime d_markRows d_markMatches d_markOut u.2.2.2.2)) (A)) ([.ref h_d, .int p1] : List Value).toArray s 0 0 A) (F0 m 114 ls []) := by
                intro n
                induction n with
                | zero => intro v6 H locs ls hP hD hS hl h; exact False.elim h
                | succ n ih114 =>
                  intro v6 H locs ls hP hD hS hl h
                  have h : wb_d_joinBack_114 d_folds d_lastRow d_parts d_moved p1 post v2 v4 (hk_lp (wb_d_joinBack_114 d_folds d_lastRow d_parts d_moved p1 post v2 v4) n) v6 := h
                  generalize hk_lp (wb_d_joinBack_114 d_folds d_lastRow d_parts d_moved p1 post v2 v4) n = K114 at h ih114
                  unfold wb_d_joinBack_114 at h
                  refine lv_iload hx hb dX8_joinBack_114 (lv_at hl 4 rfl) ?_
                  refine lv_aload_n hx hb dX8_joinBack_116 rfl (lv_at hl 0 rfl) ?_
                  refine va_get (D := D) (ci := 8) (v := .int d_folds) (C := RX8) (T := TX8) (N := 52) hx hb hta ih_X8 hown hK hP 0 rfl rfl 5 (by decide) (hta _ hw_751) (fun _ h9 => h9) rfl dX8_joinBack_117 ?_
                  refine lv_icmp_ge (tgt := 148) hx hb dX8_joinBack_120 (by decide) (fun c7 => ?_) (fun c7 => ?_)
                  · have h := h.1 c7
                    refine lv_aload_n hx hb dX8_joinBack_148 rfl (lv_at hl 0 rfl) ?_
                    refine va_get (D := D) (ci := 8) (v := .ref (a_d 9)) (C := RX8) (T := TX8) (N := 52) hx hb hta ih_X8 hown hK hP 0 rfl rfl 9 (by decide) (hta _ hw_755) (fun _ h9 => h9) rfl dX8_joinBack_149 ?_
                    refine lv_iload_n hx hb dX8_joinBack_152 rfl (lv_at hl 1 rfl) ?_
                    refine lv_iload_n hx hb dX8_joinBack_153 rfl (lv_at hl 3 rfl) ?_
                    refine va_iast hx hb hK hP hD hS 4 0 rfl rfl h.1 dX8_joinBack_154 (fun H locs hP hD hS => ?_)
                    have h := h.2
                    have hP : va_P D vwCl (wv_d cI cJ cZ cM h_d a_d d_p d_r d_t d_slack d_m d_folds d_kinds d_declared v6.2 (upd d_lastRow p1.toNatClampNeg v4.2.1) d_lastValue d_hasValue d_touched d_parts d_rows d_inRound d_rounds d_flips d_passed d_matches d_moved d_time d_out d_loads d_counterKey d_counterCount d_counterError d_smalls d_smallKey d_smallWeight d_timers d_timerKey d_timerTime d_logged d_logKey d_logTime d_logState d_marks d_markState d_markValue d_markHas d_markSmalls d_markSmallKey d_markSmallWeight d_markTimers d_markTimerKey d_markTimerTime d_markTime d_markRows d_markMatches d_markOut v2.2) H := hP
                    have hD : va_D A (wv_d cI cJ cZ cM h_d a_d d_p d_r d_t d_slack d_m d_folds d_kinds d_declared v6.2 (upd d_lastRow p1.toNatClampNeg v4.2.1) d_lastValue d_hasValue d_touched d_parts d_rows d_inRound d_rounds d_flips d_passed d_matches d_moved d_time d_out d_loads d_counterKey d_counterCount d_counterError d_smalls d_smallKey d_smallWeight d_timers d_timerKey d_timerTime d_logged d_logKey d_logTime d_logState d_marks d_markState d_markValue d_markHas d_markSmalls d_markSmallKey d_markSmallWeight d_markTimers d_markTimerKey d_markTimerTime d_markTime d_markRows d_markMatches d_markOut v2.2) := hD
                    refine lv_aload_n hx hb dX8_joinBack_155 rfl (lv_at hl 0 rfl) ?_
                    refine va_get (D := D) (ci := 8) (v := .ref (a_d 13)) (C := RX8) (T := TX8) (N := 52) hx hb hta ih_X8 hown hK hP 0 rfl rfl 13 (by decide) (hta _ hw_759) (fun _ h9 => h9) rfl dX8_joinBack_156 ?_
                    refine lv_iload_n hx hb dX8_joinBack_159 rfl (lv_at hl 1 rfl) ?_
                    refine lv_iconst (v := 1) hx hb dX8_joinBack_160 (by decide) ?_
                    refine va_iast hx hb hK hP hD hS 8 0 rfl rfl h.1 dX8_joinBack_161 (fun H locs hP hD hS => ?_)
                    have h := h.2
                    have hP : va_P D vwCl (wv_d cI cJ cZ cM h_d a_d d_p d_r d_t d_slack d_m d_folds d_kinds d_declared v6.2 (upd d_lastRow p1.toNatClampNeg v4.2.1) d_lastValue d_hasValue d_touched (upd d_parts p1.toNatClampNeg 1) d_rows d_inRound d_rounds d_flips d_passed d_matches d_moved d_time d_out d_loads d_counterKey d_counterCount d_counterError d_smalls d_smallKey d_smallWeight d_timers d_timerKey d_timerTime d_logged d_logKey d_logTime d_logState d_marks d_markState d_markValue d_markHas d_markSmalls d_markSmallKey d_markSmallWeight d_markTimers d_markTimerKey d_markTimerTime d_markTime d_markRows d_markMatches d_markOut v2.2) H := hP
                    have hD : va_D A (wv_d cI cJ cZ cM h_d a_d d_p d_r d_t d_slack d_m d_folds d_kinds d_declared v6.2 (upd d_lastRow p1.toNatClampNeg v4.2.1) d_lastValue d_hasValue d_touched (upd d_parts p1.toNatClampNeg 1) d_rows d_inRound d_rounds d_flips d_passed d_matches d_moved d_time d_out d_loads d_counterKey d_counterCount d_counterError d_smalls d_smallKey d_smallWeight d_timers d_timerKey d_timerTime d_logged d_logKey d_logTime d_logState d_marks d_markState d_markValue d_markHas d_markSmalls d_markSmallKey d_markSmallWeight d_markTimers d_markTimerKey d_markTimerTime d_markTime d_markRows d_markMatches d_markOut v2.2) := hD
                    refine lv_aload_n hx hb dX8_joinBack_162 rfl (lv_at hl 0 rfl) ?_
                    refine lv_dup hx hb dX8_joinBack_163 rfl ?_
                    refine va_get (D := D) (ci := 8) (v := .int d_moved) (C := RX8) (T := TX8) (N := 52) hx hb hta ih_X8 hown hK hP 0 rfl rfl 20 (by decide) (hta _ hw_766) (fun _ h9 => h9) rfl dX8_joinBack_164 ?_
                    refine lv_iload_n hx hb dX8_joinBack_167 rfl (lv_at hl 2 rfl) ?_
                    refine lv_iadd hx hb dX8_joinBack_168 ?_
                    refine lv_topi (fun x8 ex8 => ?_)
                    have h := h x8 ex8
                    refine va_put (D := D) (ci := 8) (v := .int x8) (ty := .int) (C := RX8) (T := TX8) (N := 52) hx hb hta ih_X8 tyX8 tyX8_ok nmX8 hown hK hP hD hS 0 rfl rfl 20 (by decide) (hta _ hw_766) (fun _ h9 => h9) rfl (by decide +kernel) rfl rfl (Nat.le_of_ble_eq_true rfl) dX8_joinBack_169 (fun H locs hP hD hS => ?_)
                    have hP : va_P D vwCl (wv_d cI cJ cZ cM h_d a_d d_p d_r d_t d_slack d_m d_folds d_kinds d_declared v6.2 (upd d_lastRow p1.toNatClampNeg v4.2.1) d_lastValue d_hasValue d_touched (upd d_parts p1.toNatClampNeg 1) d_rows d_inRound d_rounds d_flips d_passed d_matches x8 d_time d_out d_loads d_counterKey d_counterCount d_counterError d_smalls d_smallKey d_smallWeight d_timers d_timerKey d_timerTime d_logged d_logKey d_logTime d_logState d_marks d_markState d_markValue d_markHas d_markSmalls d_markSmallKey d_markSmallWeight d_markTimers d_markTimerKey d_markTimerTime d_markTime d_markRows d_markMatches d_markOut v2.2) H := hP
                    have hD : va_D A (wv_d cI cJ cZ cM h_d a_d d_p d_r d_t d_slack d_m d_folds d_kinds d_declared v6.2 (upd d_lastRow p1.toNatClampNeg v4.2.1) d_lastValue d_hasValue d_touched (upd d_parts p1.toNatClampNeg 1) d_rows d_inRound d_rounds d_flips d_passed d_matches x8 d_time d_out d_loads d_counterKey d_counterCount d_counterError d_smalls d_smallKey d_smallWeight d_timers d_timerKey d_timerTime d_logged d_logKey d_logTime d_logState d_marks d_markState d_markValue d_markHas d_markSmalls d_markSmallKey d_markSmallWeight d_markTimers d_markTimerKey d_markTimerTime d_markTime d_markRows d_markMatches d_markOut v2.2) := hD
                    refine lv_iload_n hx hb dX8_joinBack_172 rfl (lv_at hl 2 rfl) ?_
                    exact W.iret (v := v4.1) hx hb hr (fun t ht hW => ⟨⟨v4.1, (v6.2, upd d_lastRow p1.toNatClampNeg v4.2.1, upd d_parts p1.toNatClampNeg 1, x8, v2.2), rfl, h, by rw [ht]; exact hP, hD⟩, hS.F ht⟩) hS.2.2 dX8_joinBack_173
                  · have h := h.2 c7
                    refine lv_aload_n hx hb dX8_joinBack_123 rfl (lv_at hl 0 rfl) ?_
                    refine va_get (D := D) (ci := 8) (v := .ref (a_d 8)) (C := RX8) (T := TX8) (N := 52) hx hb hta ih_X8 hown hK hP 0 rfl rfl 8 (by decide) (hta _ hw_754) (fun _ h9 => h9) rfl dX8_joinBack_124 ?_
                    refine lv_bipush (v := 6) hx hb dX8_joinBack_127 (by decide) ?_
                    refine lv_iload_n hx hb dX8_joinBack_129 rfl (lv_at hl 1 rfl) ?_
                    refine lv_imul hx hb dX8_joinBack_130 ?_
                    refine lv_iload hx hb dX8_joinBack_131 (lv_at hl 4 rfl) ?_
                    refine lv_iadd hx hb dX8_joinBack_133 ?_
                    refine lv_aload_n hx hb dX8_joinBack_134 rfl (lv_at hl 0 rfl) ?_
                    refine va_get (D := D) (ci := 8) (v := .ref (a_d 51)) (C := RX8) (T := TX8) (N := 52) hx hb hta ih_X8 hown hK hP 0 rfl rfl 51 (by decide) (hta _ hw_797) (fun _ h9 => h9) rfl dX8_joinBack_135 ?_
                    refine lv_iload hx hb dX8_joinBack_138 (lv_at hl 4 rfl) ?_
                    refine va_lald hx hb hK hP 33 1 rfl rfl h.1 dX8_joinBack_140 ?_
                    have h := h.2
                    refine lv_topl (fun x9 ex9 => ?_)
                    have h := h x9 ex9
                    refine va_last hx hb hK hP hD hS 3 1 rfl rfl h.1 dX8_joinBack_141 (fun H locs hP hD hS => ?_)
                    have h := h.2
                    have hP : va_P D vwCl (wv_d cI cJ cZ cM h_d a_d d_p d_r d_t d_slack d_m d_folds d_kinds d_declared (vp_updL v6.2 ((6 * p1) + v6.1).toNatClampNeg x9) d_lastRow d_lastValue d_hasValue d_touched d_parts d_rows d_inRound d_rounds d_flips d_passed d_matches d_moved d_time d_out d_loads d_counterKey d_counterCount d_counterError d_smalls d_smallKey d_smallWeight d_timers d_timerKey d_timerTime d_logged d_logKey d_logTime d_logState d_marks d_markState d_markValue d_markHas d_markSmalls d_markSmallKey d_markSmallWeight d_markTimers d_markTimerKey d_markTimerTime d_markTime d_markRows d_markMatches d_markOut v2.2) H := hP
                    have hD : va_D A (wv_d cI cJ cZ cM h_d a_d d_p d_r d_t d_slack d_m d_folds d_kinds d_declared (vp_updL v6.2 ((6 * p1) + v6.1).toNatClampNeg x9) d_lastRow d_lastValue d_hasValue d_touched d_parts d_rows d_inRound d_rounds d_flips d_passed d_matches d_moved d_time d_out d_loads d_counterKey d_counterCount d_counterError d_smalls d_smallKey d_smallWeight d_timers d_timerKey d_timerTime d_logged d_logKey d_logTime d_logState d_marks d_markState d_markValue d_markHas d_markSmalls d_markSmallKey d_markSmallWeight d_markTimers d_markTimerKey d_markTimerTime d_markTime d_markRows d_markMatches d_markOut v2.2) := hD
                    obtain ⟨x10, ex10⟩ : ∃ y : Int32, y = v6.1 + 1 := ⟨_, rfl⟩
                    have h := h x10 ex10
                    refine lv_iinc (v := x10) (lv' := [(4, .int x10), (0, .ref h_d), (1, .int p1), (2, .int v4.1), (3, .int v4.2.1)]) hx hb dX8_joinBack_142 hl (k := 4) rfl (by rw [ex10]; rfl) (by decide) rfl (fun ls hl => ?_)
                    refine lv_goto (tgt := 114) hx hb dX8_joinBack_145 (by decide) ?_
                    exact ih114 (x10, vp_updL v6.2 ((6 * p1) + v6.1).toNatClampNeg x9) H locs ls hP hD hS (lv_sub hl [1, 2, 3, 4, 0] rfl) h
              obtain ⟨n, h⟩ := h
              exact P114 n (0, d_states) H locs ls hP hD hS (lv_sub hl [1, 2, 3, 4, 0] rfl) h
            · have h := h.2 c5
              refine lv_aload_n hx hb dX8_joinBack_55 rfl (lv_at hl 0 rfl) ?_
              refine lv_iload hx hb dX8_joinBack_56 (lv_at hl 4 rfl) ?_
              refine lv_iload_n hx hb dX8_joinBack_58 rfl (lv_at hl 1 rfl) ?_
              refine vp_callSi (hk_runV (As := [.int v4.2.2, .int p1]) (rest := []) S0 mm_d_slot (c_d_slot l D cI cJ cZ cM h_d a_d d_p d_r d_t d_slack d_m d_folds d_kinds d_declared d_states d_lastRow d_lastValue d_hasValue d_touched d_parts d_rows d_inRound d_rounds d_flips d_passed d_matches d_moved d_time d_out d_loads d_counterKey d_counterCount d_counterError d_smalls d_smallKey d_smallWeight d_timers d_timerKey d_timerTime d_logged d_logKey d_logTime d_logState d_marks d_markState d_markValue d_markHas d_markSmalls d_markSmallKey d_markSmallWeight d_markTimers d_markTimerKey d_markTimerTime d_markTime d_markRows d_markMatches d_markOut v2.2 v4.2.2 p1 _ h) hw_728 hk_blR (hk_atR hP hK hN) (va_recv hK hP (ci := 8) (q0 := 0) rfl rfl) ⟨rfl, rfl, Nat.le_of_ble_eq_true rfl, Nat.le_of_ble_eq_true rfl⟩ rfl hl.1 rfl (Nat.le_of_ble_eq_true rfl) dX8_joinBack_59 ⟨Nat.le_of_ble_eq_true rfl, Nat.le_of_ble_eq_true rfl⟩).run (fun r11 h => ?_)
              refine lv_istore (lv' := [(5, .int r11), (0, .ref h_d), (1, .int p1), (2, .int v4.1), (3, .int v4.2.1), (4, .int v4.2.2)]) hx hb dX8_joinBack_62 hl (by decide) rfl (fun ls hl => ?_)
              refine lv_iload_n hx hb dX8_joinBack_64 rfl (lv_at hl 3 rfl) ?_
              refine lv_aload_n hx hb dX8_joinBack_65 rfl (lv_at hl 1 rfl) ?_
              refine va_get (D := D) (ci := 8) (v := .ref (a_d 12)) (C := RX8) (T := TX8) (N := 52) hx hb hta ih_X8 hown hK hP 0 rfl rfl 12 (by decide) (hta _ hw_758) (fun _ h9 => h9) rfl dX8_joinBack_66 ?_
              refine lv_iload hx hb dX8_joinBack_69 (lv_at hl 0 rfl) ?_
              refine va_zald hx hb hK hP 7 2 rfl rfl h.1 dX8_joinBack_71 ?_
              have h := h.2
              have J80 : ∀ (v13 : Int32) (H : Heap) (locs : List Loc) (ls : Array Slot), va_P D vwCl (wv_d cI cJ cZ cM h_d a_d d_p d_r d_t d_slack d_m d_folds d_kinds d_declared d_states d_lastRow d_lastValue d_hasValue d_touched d_parts d_rows d_inRound d_rounds d_flips d_passed d_matches d_moved d_time d_out d_loads d_counterKey d_counterCount d_counterError d_smalls d_smallKey d_smallWeight d_timers d_timerKey d_timerTime d_logged d_logKey d_logTime d_logState d_marks d_markState d_markValue d_markHas d_markSmalls d_markSmallKey d_markSmallWeight d_markTimers d_markTimerKey d_markTimerTime d_markTime d_markRows d_markMatches d_markOut v2.2) H → va_D A (wv_d cI cJ cZ cM h_d a_d d_p d_r d_t d_slack d_m d_folds d_kinds d_declared d_states d_lastRow d_lastValue d_hasValue d_touched d_parts d_rows d_inRound d_rounds d_flips d_passed d_matches d_moved d_time d_out d_loads d_counterKey d_counterCount d_counterError d_smalls d_smallKey d_smallWeight d_timers d_timerKey d_timerTime d_logged d_logKey d_logTime d_logState d_marks d_markState d_markValue d_markHas d_markSmalls d_markSmallKey d_markSmallWeight d_markTimers d_markTimerKey d_markTimerTime d_markTime d_markRows d_markMatches d_markOut v2.2) → va_S A s.heap H locs → lv_has ls 6 [(0, .ref h_d), (1, .int p1), (2, .int v4.1), (3, .int v4.2.1), (4, .int v4.2.2), (5, .int r11)] → wj_d_joinBack_80 d_lastRow v4 r11 K44 v13 → W p l e (headSpec (hk_ws yX8_joinBack cX8_joinBack 6 (some .int)) (hk_rm 2 52)).room s m ([.ref h_d, .int p1] : List Value).toArray below meth c H locs 0 0 (MQ below (va_Qi post (hk_B D (A) (fun (u : (Nat → Int64) × (Nat → Int32) × (Nat → Int32) × Int32 × (Nat → Int64)) => wv_d cI cJ cZ cM h_d a_d d_p d_r d_t d_slack d_m d_folds d_kinds d_declared u.1 u.2.1 d_lastValue d_hasValue d_touched u.2.2.1 d_rows d_inRound d_rounds d_flips d_passed d_matches u.2.2.2.1 d_time d_out d_loads d_counterKey d_counterCount d_counterError d_smalls d_smallKey d_smallWeight d_timers d_timerKey d_timerTime d_logged d_logKey d_logTime d_logState d_marks d_markState d_markValue d_markHas d_markSmalls d_markSmallKey d_markSmallWeight d_markTimers d_markTimerKey d_markTimerTime d_markTime d_markRows d_markMatches d_markOut u.2.2.2.2)) (A)) ([.ref h_d, .int p1] : List Value).toArray s 0 0 A) (F0 m 80 ls [.int v13, .int v4.1]) := by
                intro v13 H locs ls hP hD hS hl h
                unfold wj_d_joinBack_80 at h
                refine lv_iadd hx hb dX8_joinBack_80 ?_
                refine lv_topi (fun x14 ex14 => ?_)
                have h := h x14 ex14
                refine lv_istore_n (lv' := [(2, .int x14), (0, .ref h_d), (1, .int p1), (3, .int v4.2.1), (4, .int v4.2.2), (5, .int r11)]) hx hb dX8_joinBack_81 rfl hl (by decide) rfl (fun ls hl => ?_)
                refine lv_aload_n hx hb dX8_joinBack_82 rfl (lv_at hl 1 rfl) ?_
                refine va_get (D := D) (ci := 8) (v := .ref (a_d 9)) (C := RX8) (T := TX8) (N := 52) hx hb hta ih_X8 hown hK hP 0 rfl rfl 9 (by decide) (hta _ hw_755) (fun _ h9 => h9) rfl dX8_joinBack_83 ?_
                refine lv_iload hx hb dX8_joinBack_86 (lv_at hl 5 rfl) ?_
                refine va_iald hx hb hK hP 4 0 rfl rfl h.1 dX8_joinBack_88 ?_
                have h := h.2
                refine lv_iload_n hx hb dX8_joinBack_89 rfl (lv_at hl 3 rfl) ?_
                refine lv_icmp_le (tgt := 103) hx hb dX8_joinBack_90 (by decide) (fun c15 => ?_) (fun c15 => ?_)
                · have h := h.1 c15
                  refine lv_iload_n hx hb dX8_joinBack_103 rfl (lv_at hl 3 rfl) ?_
                  refine lv_istore_n (lv' := [(3, .int v4.2.1), (2, .int x14), (0, .ref h_d), (1, .int p1), (4, .int v4.2.2), (5, .int r11)]) hx hb dX8_joinBack_104 rfl hl (by decide) rfl (fun ls hl => ?_)
                  obtain ⟨x16, ex16⟩ : ∃ y : Int32, y = v4.2.2 + 1 := ⟨_, rfl⟩
                  have h := h x16 ex16
                  refine lv_iinc (v := x16) (lv' := [(4, .int x16), (3, .int v4.2.1), (2, .int x14), (0, .ref h_d), (1, .int p1), (5, .int r11)]) hx hb dX8_joinBack_105 hl (k := 4) rfl (by rw [ex16]; rfl) (by decide) rfl (fun ls hl => ?_)
                  refine lv_goto (tgt := 44) hx hb dX8_joinBack_108 (by decide) ?_
                  exact ih44 (x14, v4.2.1, x16) H locs ls hP hD hS (lv_sub hl [3, 4, 2, 1, 0] rfl) h
                · have h := h.2 c15
                  refine lv_aload_n hx hb dX8_joinBack_93 rfl (lv_at hl 1 rfl) ?_
                  refine va_get (D := D) (ci := 8) (v := .ref (a_d 9)) (C := RX8) (T := TX8) (N := 52) hx hb hta ih_X8 hown hK hP 0 rfl rfl 9 (by decide) (hta _ hw_755) (fun _ h9 => h9) rfl dX8_joinBack_94 ?_
                  refine lv_iload hx hb dX8_joinBack_97 (lv_at hl 5 rfl) ?_
                  refine va_iald hx hb hK hP 4 0 rfl rfl h.1 dX8_joinBack_99 ?_
                  have h := h.2
                  refine lv_goto (tgt := 104) hx hb dX8_joinBack_100 (by decide) ?_
                  refine lv_topi (fun x17 ex17 => ?_)
                  have h := h x17 ex17
                  refine lv_istore_n (lv' := [(3, .int x17), (2, .int x14), (0, .ref h_d), (1, .int p1), (4, .int v4.2.2), (5, .int r11)]) hx hb dX8_joinBack_104 rfl hl (by decide) rfl (fun ls hl => ?_)
                  obtain ⟨x18, ex18⟩ : ∃ y : Int32, y = v4.2.2 + 1 := ⟨_, rfl⟩
                  have h := h x18 ex18
                  refine lv_iinc (v := x18) (lv' := [(4, .int x18), (3, .int x17), (2, .int x14), (0, .ref h_d), (1, .int p1), (5, .int r11)]) hx hb dX8_joinBack_105 hl (k := 4) rfl (by rw [ex18]; rfl) (by decide) rfl (fun ls hl => ?_)
                  refine lv_goto (tgt := 44) hx hb dX8_joinBack_108 (by decide) ?_
                  exact ih44 (x14, x17, x18) H locs ls hP hD hS (lv_sub hl [3, 4, 2, 1, 0] rfl) h
              refine lv_if_eq (tgt := 79) hx hb dX8_joinBack_72 (by decide) (fun c12 => ?_) (fun c12 => ?_)
              · have h := h.1 c12
                refine lv_iconst (v := 0) hx hb dX8_joinBack_79 (by decide) ?_
                exact J80 0 H locs ls hP hD hS (lv_sub hl [1, 2, 3, 4, 5, 0] rfl) h
              · have h := h.2 c12
                refine lv_iconst (v := 1) hx hb dX8_joinBack_75 (by decide) ?_
                refine lv_goto (tgt := 80) hx hb dX8_joinBack_76 (by decide) ?_
                exact J80 1 H locs ls hP hD hS (lv_sub hl [1, 2, 3, 4, 5, 0] rfl) h
        obtain ⟨n, h⟩ := h
        exact P44 n (0, x1, 1) H locs ls hP hD hS (lv_sub hl [1, 2, 3, 4, 0] rfl) h
      · have h := h.2 c3
        refine lv_aload_n hx hb dX8_joinBack_21 rfl (lv_at hl 0 rfl) ?_
        refine va_get (D := D) (ci := 8) (v := .ref (a_d 51)) (C := RX8) (T := TX8) (N := 52) hx hb hta ih_X8 hown hK hP 0 rfl rfl 51 (by decide) (hta _ hw_797) (fun _ h9 => h9) rfl dX8_joinBack_22 ?_
        refine lv_iload hx hb dX8_joinBack_25 (lv_at hl 4 rfl) ?_
        refine lv_aload_n hx hb dX8_joinBack_27 rfl (lv_at hl 0 rfl) ?_
        refine lv_iload hx hb dX8_joinBack_28 (lv_at hl 4 rfl) ?_
        refine lv_iload_n hx hb dX8_joinBack_30 rfl (lv_at hl 1 rfl) ?_
        refine vp_callSl (hk_runV (As := [.int v2.1, .int p1]) (rest := [.int v2.1, .ref (a_d 51)]) S0 mm_d_come (c_d_come l D cI cJ cZ cM h_d a_d d_p d_r d_t d_slack d_m d_folds d_kinds d_declared d_states d_lastRow d_lastValue d_hasValue d_touched d_parts d_rows d_inRound d_rounds d_flips d_passed d_matches d_moved d_time d_out d_loads d_counterKey d_counterCount d_counterError d_smalls d_smallKey d_smallWeight d_timers d_timerKey d_timerTime d_logged d_logKey d_logTime d_logState d_marks d_markState d_markValue d_markHas d_markSmalls d_markSmallKey d_markSmallWeight d_markTimers d_markTimerKey d_markTimerTime d_markTime d_markRows d_markMatches d_markOut v2.2 v2.1 p1 _ h) hw_982 hk_blR (hk_atR hP hK hN) (va_recv hK hP (ci := 8) (q0 := 0) rfl rfl) ⟨rfl, rfl, Nat.le_of_ble_eq_true rfl, Nat.le_of_ble_eq_true rfl⟩ rfl hl.1 rfl (Nat.le_of_ble_eq_true rfl) dX8_joinBack_31 ⟨Nat.le_of_ble_eq_true rfl, Nat.le_of_ble_eq_true rfl⟩).run (fun r19 h => ?_)
        refine va_last hx hb hK hP hD hS 33 1 rfl rfl h.1 dX8_joinBack_34 (fun H locs hP hD hS => ?_)
        have h := h.2
        have hP : va_P D vwCl (wv_d cI cJ cZ cM h_d a_d d_p d_r d_t d_slack d_m d_folds d_kinds d_declared d_states d_lastRow d_lastValue d_hasValue d_touched d_parts d_rows d_inRound d_rounds d_flips d_passed d_matches d_moved d_time d_out d_loads d_counterKey d_counterCount d_counterError d_smalls d_smallKey d_smallWeight d_timers d_timerKey d_timerTime d_logged d_logKey d_logTime d_logState d_marks d_markState d_markValue d_markHas d_markSmalls d_markSmallKey d_markSmallWeight d_markTimers d_markTimerKey d_markTimerTime d_markTime d_markRows d_markMatches d_markOut (vp_updL v2.2 v2.1.toNatClampNeg r19)) H := hP
        have hD : va_D A (wv_d cI cJ cZ cM h_d a_d d_p d_r d_t d_slack d_m d_folds d_kinds d_declared d_states d_lastRow d_lastValue d_hasValue d_touched d_parts d_rows d_inRound d_rounds d_flips d_passed d_matches d_moved d_time d_out d_loads d_counterKey d_counterCount d_counterError d_smalls d_smallKey d_smallWeight d_timers d_timerKey d_timerTime d_logged d_logKey d_logTime d_logState d_marks d_markState d_markValue d_markHas d_markSmalls d_markSmallKey d_markSmallWeight d_markTimers d_markTimerKey d_markTimerTime d_markTime d_markRows d_markMatches d_markOut (vp_updL v2.2 v2.1.toNatClampNeg r19)) := hD
        obtain ⟨x20, ex20⟩ : ∃ y : Int32, y = v2.1 + 1 := ⟨_, rfl⟩
        have h := h x20 ex20
        refine lv_iinc (v := x20) (lv' := [(4, .int x20), (0, .ref h_d), (1, .int p1), (2, .int 0), (3, .int x1)]) hx hb dX8_joinBack_35 hl (k := 4) rfl (by rw [ex20]; rfl) (by decide) rfl (fun ls hl => ?_)
        refine lv_goto (tgt := 12) hx hb dX8_joinBack_38 (by decide) ?_
        exact ih12 (x20, vp_updL v2.2 v2.1.toNatClampNeg r19) H locs ls hP hD hS (lv_sub hl [1, 2, 3, 4, 0] rfl) h
  obtain ⟨n, h⟩ := h
  exact P12 n (0, d_comes) s.heap [] ls hP hD hS (lv_sub hl [3, 4, 2, 1, 0] rfl) h
def wb_d_endRound_125 (d_t : Int32) (d_slack : Int32) (d_m : Int32) (d_folds : Int32) (d_kinds : Nat → Int32) (d_rounds : Int32) (d_counterKey : Nat → Int32) (d_counterCount : Nat → Int32) (d_counterError : Nat → Int32) (post : ((Nat → Int64) × (Nat → Int32) × (Nat → Int32) × (Nat → Int32) × (Nat → Int32) × Int32 × Int32 × Int32 × Int32 × Int32 × (Nat → Int32) × (Nat → Int32) × (Nat → Int32) × (Nat → Int64)) → Prop) (v1 : Int32 × (Nat → Int64) × (Nat → Int32) × (Nat → Int32) × (Nat → Int32) × (Nat → Int32) × Int32 × Int32) (K125 : (Int32 × (Nat → Int64) × (Nat → Int32) × (Nat → Int32) × Int32 × Int32 × (Nat → Int64)) → Prop) (v3 : Int32 × (Nat → Int64) × (Nat → Int32) × (Nat → Int32) × Int32 × Int32 × (Nat → Int64)) : Prop := (100 ≤ v3.1 → wp_d_freshRound d_counterKey d_counterCount d_counterError (fun (w5 : Int32 × (Nat → Int32) × (Nat → Int32) × (Nat → Int32)) => ∀ x6 : Int32, x6 = d_rounds + 1 → post (v3.2.1, v3.2.2.1, v1.2.2.2.1, v1.2.2.2.2.1, v3.2.2.2.1, w5.1, x6, v3.2.2.2.2.1, v1.2.2.2.2.2.2.2, v3.2.2.2.2.2.1, w5.2.1, w5.2.2.1, w5.2.2.2, v3.2.2.2.2.2.2))) ∧ (¬ 100 ≤ v3.1 → vp_in v3.1 100 ∧ (((v3.2.2.2.1 v3.1.toNatClampNeg) ≤ 1 → ∀ x8 : Int32, x8 = v3.1 + 1 → K125 (x8, v3.2.1, v3.2.2.1, v3.2.2.2.1, v3.2.2.2.2.1, v3.2.2.2.2.2.1, v3.2.2.2.2.2.2)) ∧ (¬ (v3.2.2.2.1 v3.1.toNatClampNeg) ≤ 1 → wp_d_mostOf v3.1 d_m d_counterKey d_counterCount (fun (r9 : Int32) => ((d_t - d_slack) ≤ r9 → ∀ x11 : Int32, x11 = v3.1 + 1 → K125 (x11, v3.2.1, v3.2.2.1, v3.2.2.2.1, v3.2.2.2.2.1, v3.2.2.2.2.2.1, v3.2.2.2.2.2.2)) ∧ (¬ (d_t - d_slack) ≤ r9 → wp_d_joinBack v3.1 d_folds d_kinds v3.2.1 v3.2.2.1 v1.2.2.2.2.1 v3.2.2.2.1 v3.2.2.2.2.2.1 v3.2.2.2.2.2.2 (fun (r12 : Int32) (w13 : (Nat → Int64) × (Nat → Int32) × (Nat → Int32) × Int32 × (Nat → Int64)) => ∀ x14 : Int32, x14 = v3.2.2.2.2.1 + 1 → ∀ x15 : Int32, x15 = v3.1 + 1 → K125 (x15, w13.1, w13.2.1, w13.2.2.1, x14, w13.2.2.2.1, w13.2.2.2.2)))))))
def wb_d_endRound_2 (d_p : Int32) (d_t : Int32) (d_slack : Int32) (d_m : Int32) (d_folds : Int32) (d_kinds : Nat → Int32) (d_declared : Nat → Int32) (d_rounds : Int32) (d_moved : Int32) (d_counterKey : Nat → Int32) (d_counterCount : Nat → Int32) (d_counterError : Nat → Int32) (d_comes : Nat → Int64) (post : ((Nat → Int64) × (Nat → Int32) × (Nat → Int32) × (Nat → Int32) × (Nat → Int32) × Int32 × Int32 × Int32 × Int32 × Int32 × (Nat → Int32) × (Nat → Int32) × (Nat → Int32) × (Nat → Int64)) → Prop) (K2 : (Int32 × (Nat → Int64) × (Nat → Int32) × (Nat → Int32) × (Nat → Int32) × (Nat → Int32) × Int32 × Int32) → Prop) (v1 : Int32 × (Nat → Int64) × (Nat → Int32) × (Nat → Int32) × (Nat → Int32) × (Nat → Int32) × Int32 × Int32) : Prop := (d_m ≤ v1.1 → ∃ n, hk_lp (wb_d_endRound_125 d_t d_slack d_m d_folds d_kinds d_rounds d_counterKey d_counterCount d_counterError post v1) n (0, v1.2.1, v1.2.2.1, v1.2.2.2.2.2.1, v1.2.2.2.2.2.2.1, d_moved, d_comes)) ∧ (¬ d_m ≤ v1.1 → vp_in v1.1 12 ∧ (∀ x16 : Int32, x16 = d_counterKey v1.1.toNatClampNeg → (x16 = (-1) → ∀ x18 : Int32, x18 = v1.1 + 1 → K2 (x18, v1.2.1, v1.2.2.1, v1.2.2.2.1, v1.2.2.2.2.1, v1.2.2.2.2.2.1, v1.2.2.2.2.2.2.1, v1.2.2.2.2.2.2.2)) ∧ (¬ x16 = (-1) → vp_in v1.1 12 ∧ (vp_in v1.1 12 ∧ ((((d_counterCount v1.1.toNatClampNeg) - (d_counterError v1.1.toNatClampNeg)) < d_t → ∀ x20 : Int32, x20 = v1.1 + 1 → K2 (x20, v1.2.1, v1.2.2.1, v1.2.2.2.1, v1.2.2.2.2.1, v1.2.2.2.2.2.1, v1.2.2.2.2.2.2.1, v1.2.2.2.2.2.2.2)) ∧ (¬ ((d_counterCount v1.1.toNatClampNeg) - (d_counterError v1.1.toNatClampNeg)) < d_t → vp_in x16 100 ∧ ((¬ (v1.2.2.2.2.2.1 x16.toNatClampNeg) = 1 → ∀ x22 : Int32, x22 = v1.1 + 1 → K2 (x22, v1.2.1, v1.2.2.1, v1.2.2.2.1, v1.2.2.2.2.1, v1.2.2.2.2.2.1, v1.2.2.2.2.2.2.1, v1.2.2.2.2.2.2.2)) ∧ ((v1.2.2.2.2.2.1 x16.toNatClampNeg) = 1 → vp_in v1.1 12 ∧ (¬ d_t = 0 ∧ (∀ x23 : Int32, x23 = ((d_counterCount v1.1.toNatClampNeg) / d_t) + 1 → wp_d_canSplit d_folds d_kinds d_declared (fun (r24 : Int32) => (r24 = 0 → ∀ x26 : Int32, x26 = v1.2.2.2.2.2.2.2 + 1 → ∀ x27 : Int32, x27 = v1.1 + 1 → K2 (x27, v1.2.1, v1.2.2.1, v1.2.2.2.1, v1.2.2.2.2.1, v1.2.2.2.2.2.1, v1.2.2.2.2.2.2.1, x26)) ∧ (¬ r24 = 0 → (d_p ≤ x23 → wp_d_makeParts x16 d_p d_folds d_kinds v1.2.1 v1.2.2.1 v1.2.2.2.1 v1.2.2.2.2.1 v1.2.2.2.2.2.1 (fun (w29 : (Nat → Int64) × (Nat → Int32) × (Nat → Int32) × (Nat → Int32) × (Nat → Int32)) => ∀ x30 : Int32, x30 = v1.2.2.2.2.2.2.1 + 1 → ∀ x31 : Int32, x31 = v1.1 + 1 → K2 (x31, w29.1, w29.2.1, w29.2.2.1, w29.2.2.2.1, w29.2.2.2.2, x30, v1.2.2.2.2.2.2.2))) ∧ (¬ d_p ≤ x23 → wp_d_makeParts x16 x23 d_folds d_kinds v1.2.1 v1.2.2.1 v1.2.2.2.1 v1.2.2.2.2.1 v1.2.2.2.2.2.1 (fun (w32 : (Nat → Int64) × (Nat → Int32) × (Nat → Int32) × (Nat → Int32) × (Nat → Int32)) => ∀ x33 : Int32, x33 = v1.2.2.2.2.2.2.1 + 1 → ∀ x34 : Int32, x34 = v1.1 + 1 → K2 (x34, w32.1, w32.2.1, w32.2.2.1, w32.2.2.2.1, w32.2.2.2.2, x33, v1.2.2.2.2.2.2.2)))))))))))))))
def wp_d_endRound  (d_p : Int32) (d_t : Int32) (d_slack : Int32) (d_m : Int32) (d_folds : Int32) (d_kinds : Nat → Int32) (d_declared : Nat → Int32) (d_states : Nat → Int64) (d_lastRow : Nat → Int32) (d_hasValue : Nat → Int32) (d_touched : Nat → Int32) (d_parts : Nat → Int32) (d_rounds : Int32) (d_flips : Int32) (d_passed : Int32) (d_moved : Int32) (d_counterKey : Nat → Int32) (d_counterCount : Nat → Int32) (d_counterError : Nat → Int32) (d_comes : Nat → Int64) (post : ((Nat → Int64) × (Nat → Int32) × (Nat → Int32) × (Nat → Int32) × (Nat → Int32) × Int32 × Int32 × Int32 × Int32 × Int32 × (Nat → Int32) × (Nat → Int32) × (Nat → Int32) × (Nat → Int64)) → Prop) : Prop := ∃ n, hk_lp (wb_d_endRound_2 d_p d_t d_slack d_m d_folds d_kinds d_declared d_rounds d_moved d_counterKey d_counterCount d_counterError d_comes post) n (0, d_states, d_lastRow, d_hasValue, d_touched, d_parts, d_flips, d_passed)
theorem mm_d_endRound : hk_MV yX8_endRound cX8_endRound 4 none 0 := ⟨hw_965, hw_964, hw_69, hw_87, by decide +kernel⟩
set_option maxRecDepth 100000 in
set_option maxHeartbeats 4000000 in
theorem c_d_endRound (l : Launch) (D : va_G) (cI cJ cZ cM : ClassId) (h_d : Nat) (a_d : Nat → Nat) (sz : Nat) (d_p : Int32) (d_r : Int32) (d_t : Int32) (d_slack : Int32) (d_m : Int32) (d_folds : Int32) (d_kinds : Nat → Int32) (d_declared : Nat → Int32) (d_states : Nat → Int64) (d_lastRow : Nat → Int32) (d_lastValue : Nat → Int32) (d_hasValue : Nat → Int32) (d_touched : Nat → Int32) (d_parts : Nat → Int32) (d_rows : Int32) (d_inRound : Int32) (d_rounds : Int32) (d_flips : Int32) (d_passed : Int32) (d_matches : Int32) (d_moved : Int32) (d_time : Int32) (d_out : Int64) (d_loads : Nat → Int32) (d_counterKey : Nat → Int32) (d_counterCount : Nat → Int32) (d_counterError : Nat → Int32) (d_smalls : Int32) (d_smallKey : Nat → Int32) (d_smallWeight : Nat → Int32) (d_timers : Int32) (d_timerKey : Nat → Int32) (d_timerTime : Nat → Int32) (d_logged : Int32) (d_logKey : Nat → Int32) (d_logTime : Nat → Int32) (d_logState : Nat → Int64) (d_marks : Int32) (d_markState : Nat → Int64) (d_markValue : Nat → Int32) (d_markHas : Nat → Int32) (d_markSmalls : Nat → Int32) (d_markSmallKey : Nat → Int32) (d_markSmallWeight : Nat → Int32) (d_markTimers : Nat → Int32) (d_markTimerKey : Nat → Int32) (d_markTimerTime : Nat → Int32) (d_markTime : Nat → Int32) (d_markRows : Nat → Int32) (d_markMatches : Nat → Int32) (d_markOut : Nat → Int64) (d_comes : Nat → Int64)  (post : ((Nat → Int64) × (Nat → Int32) × (Nat → Int32) × (Nat → Int32) × (Nat → Int32) × Int32 × Int32 × Int32 × Int32 × Int32 × (Nat → Int32) × (Nat → Int32) × (Nat → Int32) × (Nat → Int64)) → Prop) (h : wp_d_endRound d_p d_t d_slack d_m d_folds d_kinds d_declared d_states d_lastRow d_hasValue d_touched d_parts d_rounds d_flips d_passed d_moved d_counterKey d_counterCount d_counterError d_comes post) : Met l yX8_endRound (hk_ws yX8_endRound cX8_endRound 4 none) (hk_rm 3 77) (va_Pc [.ref h_d] (hk_PM D (hk_ty cI cJ cZ cM) sz (wv_d cI cJ cZ cM h_d a_d d_p d_r d_t d_slack d_m d_folds d_kinds d_declared d_states d_lastRow d_lastValue d_hasValue d_touched d_parts d_rows d_inRound d_rounds d_flips d_passed d_matches d_moved d_time d_out d_loads d_counterKey d_counterCount d_counterError d_smalls d_smallKey d_smallWeight d_timers d_timerKey d_timerTime d_logged d_logKey d_logTime d_logState d_marks d_markState d_markValue d_markHas d_markSmalls d_markSmallKey d_markSmallWeight d_markTimers d_markTimerKey d_markTimerTime d_markTime d_markRows d_markMatches d_markOut d_comes))) (va_Qv post (hk_B D (va_A (wv_d cI cJ cZ cM h_d a_d d_p d_r d_t d_slack d_m d_folds d_kinds d_declared d_states d_lastRow d_lastValue d_hasValue d_touched d_parts d_rows d_inRound d_rounds d_flips d_passed d_matches d_moved d_time d_out d_loads d_counterKey d_counterCount d_counterError d_smalls d_smallKey d_smallWeight d_timers d_timerKey d_timerTime d_logged d_logKey d_logTime d_logState d_marks d_markState d_markValue d_markHas d_markSmalls d_markSmallKey d_markSmallWeight d_markTimers d_markTimerKey d_markTimerTime d_markTime d_markRows d_markMatches d_markOut d_comes) sz) (fun (u : (Nat → Int64) × (Nat → Int32) × (Nat → Int32) × (Nat → Int32) × (Nat → Int32) × Int32 × Int32 × Int32 × Int32 × Int32 × (Nat → Int32) × (Nat → Int32) × (Nat → Int32) × (Nat → Int64)) => wv_d cI cJ cZ cM h_d a_d d_p d_r d_t d_slack d_m d_folds d_kinds d_declared u.1 u.2.1 d_lastValue u.2.2.1 u.2.2.2.1 u.2.2.2.2.1 d_rows u.2.2.2.2.2.1 u.2.2.2.2.2.2.1 u.2.2.2.2.2.2.2.1 u.2.2.2.2.2.2.2.2.1 d_matches u.2.2.2.2.2.2.2.2.2.1 d_time d_out d_loads u.2.2.2.2.2.2.2.2.2.2.1 u.2.2.2.2.2.2.2.2.2.2.2.1 u.2.2.2.2.2.2.2.2.2.2.2.2.1 d_smalls d_smallKey d_smallWeight d_timers d_timerKey d_timerTime d_logged d_logKey d_logTime d_logState d_marks d_markState d_markValue d_markHas d_markSmalls d_markSmallKey d_markSmallWeight d_markTimers d_markTimerKey d_markTimerTime d_markTime d_markRows d_markMatches d_markOut u.2.2.2.2.2.2.2.2.2.2.2.2.2)) (va_A (wv_d cI cJ cZ cM h_d a_d d_p d_r d_t d_slack d_m d_folds d_kinds d_declared d_states d_lastRow d_lastValue d_hasValue d_touched d_parts d_rows d_inRound d_rounds d_flips d_passed d_matches d_moved d_time d_out d_loads d_counterKey d_counterCount d_counterError d_smalls d_smallKey d_smallWeight d_timers d_timerKey d_timerTime d_logged d_logKey d_logTime d_logState d_marks d_markState d_markValue d_markHas d_markSmalls d_markSmallKey d_markSmallWeight d_markTimers d_markTimerKey d_markTimerTime d_markTime d_markRows d_markMatches d_markOut d_comes) sz)) 0 0 (va_A (wv_d cI cJ cZ cM h_d a_d d_p d_r d_t d_slack d_m d_folds d_kinds d_declared d_states d_lastRow d_lastValue d_hasValue d_touched d_parts d_rows d_inRound d_rounds d_flips d_passed d_matches d_moved d_time d_out d_loads d_counterKey d_counterCount d_counterError d_smalls d_smallKey d_smallWeight d_timers d_timerKey d_timerTime d_logged d_logKey d_logTime d_logState d_marks d_markState d_markValue d_markHas d_markSmalls d_markSmallKey d_markSmallWeight d_markTimers d_markTimerKey d_markTimerTime d_markTime d_markRows d_markMatches d_markOut d_comes) sz) := by
  refine Met.ofW (cc := cX8_endRound) (maxL := 4) (ret := none) (by decide) rfl ?_
  intro p e s m args below meth c s₁ B hml hv
  obtain ⟨rfl, hsz, hP, hK, hD0, hN⟩ := hv
  have hx := B.exec
  have hb := B.bytes
  have hr := B.returns
  have hts := atoms_spec (ws := hk_ws yX8_endRound cX8_endRound 4 none) B.pre
  have hta : ∀ w ∈ hk_all, w.before ([.ref h_d] : List Value).toArray s = true := fun w hw => hts w (List.mem_cons_of_mem _ hw)
  have hown : s.vm.findClass RX8 = some m.cls := findClass_of_methodNamed B.named
  have hlocks := B.notSynchronized
  have S0 : CallFix p m c cX8_endRound 4 s ([.ref h_d] : List Value).toArray hk_all RX8 := ⟨hx, hb, hml, hown, hta⟩
  subst hsz
  have hD := hD0.self (sz := s.heap.size)
  generalize hAe : va_A (wv_d cI cJ cZ cM h_d a_d d_p d_r d_t d_slack d_m d_folds d_kinds d_declared d_states d_lastRow d_lastValue d_hasValue d_touched d_parts d_rows d_inRound d_rounds d_flips d_passed d_matches d_moved d_time d_out d_loads d_counterKey d_counterCount d_counterError d_smalls d_smallKey d_smallWeight d_timers d_timerKey d_timerTime d_logged d_logKey d_logTime d_logState d_marks d_markState d_markValue d_markHas d_markSmalls d_markSmallKey d_markSmallWeight d_markTimers d_markTimerKey d_markTimerTime d_markTime d_markRows d_markMatches d_markOut d_comes) s.heap.size = A at hD ⊢
  have hA : ∀ q : Nat, s.heap.size ≤ q → A q := fun q h => by rw [← hAe]; exact Or.inr h
  have hS : va_S A s.heap s.heap [] := va_S.rf
  have hl := lv_entry ([.ref h_d]) (n := 4) (Nat.le_of_ble_eq_true rfl)
  rw [lg_entry_eq]
  generalize (lg_sl ([.ref h_d]) ++ List.replicate (4 - (lg_sl ([.ref h_d])).length) Slot.unset).toArray = ls at hl ⊢
  have hl : lv_has ls 4 [(0, .ref h_d)] := hl
  unfold wp_d_endRound at h
  refine lv_iconst (v := 0) hx hb dX8_endRound_0 (by decide) ?_
  refine lv_istore_n (lv' := [(1, .int 0), (0, .ref h_d)]) hx hb dX8_endRound_1 rfl hl (by decide) rfl (fun ls hl => ?_)
  have P2 : ∀ (n : Nat) (v1 : Int32 × (Nat → Int64) × (Nat → Int32) × (Nat → Int32) × (Nat → Int32) × (Nat → Int32) × Int32 × Int32) (H : Heap) (locs : List Loc) (ls : Array Slot), va_P D vwCl (wv_d cI cJ cZ cM h_d a_d d_p d_r d_t d_slack d_m d_folds d_kinds d_declared v1.2.1 v1.2.2.1 d_lastValue v1.2.2.2.1 v1.2.2.2.2.1 v1.2.2.2.2.2.1 d_rows d_inRound d_rounds v1.2.2.2.2.2.2.1 v1.2.2.2.2.2.2.2 d_matches d_moved d_time d_out d_loads d_counterKey d_counterCount d_counterError d_smalls d_smallKey d_smallWeight d_timers d_timerKey d_timerTime d_logged d_logKey d_logTime d_logState d_marks d_markState d_markValue d_markHas d_markSmalls d_markSmallKey d_markSmallWeight d_markTimers d_markTimerKey d_markTimerTime d_markTime d_markRows d_markMatches d_markOut d_comes) H → va_D A (wv_d cI cJ cZ cM h_d a_d d_p d_r d_t d_slack d_m d_folds d_kinds d_declared v1.2.1 v1.2.2.1 d_lastValue v1.2.2.2.1 v1.2.2.2.2.1 v1.2.2.2.2.2.1 d_rows d_inRound d_rounds v1.2.2.2.2.2.2.1 v1.2.2.2.2.2.2.2 d_matches d_moved d_time d_out d_loads d_counterKey d_counterCount d_counterError d_smalls d_smallKey d_smallWeight d_timers d_timerKey d_timerTime d_logged d_logKey d_logTime d_logState d_marks d_markState d_markValue d_markHas d_markSmalls d_markSmallKey d_markSmallWeight d_markTimers d_markTimerKey d_markTimerTime d_markTime d_markRows d_markMatches d_markOut d_comes) → va_S A s.heap H locs → lv_has ls 4 [(0, .ref h_d), (1, .int v1.1)] → hk_lp (wb_d_endRound_2 d_p d_t d_slack d_m d_folds d_kinds d_declared d_rounds d_moved d_counterKey d_counterCount d_counterError d_comes post) n v1 → W p l e (headSpec (hk_ws yX8_endRound cX8_endRound 4 none) (hk_rm 3 77)).room s m ([.ref h_d] : List Value).toArray below meth c H locs 0 0 (MQ below (va_Qv post (hk_B D (A) (fun (u : (Nat → Int64) × (Nat → Int32) × (Nat → Int32) × (Nat → Int32) × (Nat → Int32) × Int32 × Int32 × Int32 × Int32 × Int32 × (Nat → Int32) × (Nat → Int32) × (Nat → Int32) × (Nat → Int64)) => wv_d cI cJ cZ cM h_d a_d d_p d_r d_t d_slack d_m d_folds d_kinds d_declared u.1 u.2.1 d_lastValue u.2.2.1 u.2.2.2.1 u.2.2.2.2.1 d_rows u.2.2.2.2.2.1 u.2.2.2.2.2.2.1 u.2.2.2.2.2.2.2.1 u.2.2.2.2.2.2.2.2.1 d_matches u.2.2.2.2.2.2.2.2.2.1 d_time d_out d_loads u.2.2.2.2.2.2.2.2.2.2.1 u.2.2.2.2.2.2.2.2.2.2.2.1 u.2.2.2.2.2.2.2.2.2.2.2.2.1 d_smalls d_smallKey d_smallWeight d_timers d_timerKey d_timerTime d_logged d_logKey d_logTime d_logState d_marks d_markState d_markValue d_markHas d_markSmalls d_markSmallKey d_markSmallWeight d_markTimers d_markTimerKey d_markTimerTime d_markTime d_markRows d_markMatches d_markOut u.2.2.2.2.2.2.2.2.2.2.2.2.2)) (A)) ([.ref h_d] : List Value).toArray s 0 0 A) (F0 m 2 ls []) := by
    intro n
    induction n with
    | zero => intro v1 H locs ls hP hD hS hl h; exact False.elim h
    | succ n ih2 =>
      intro v1 H locs ls hP hD hS hl h
      have h : wb_d_endRound_2 d_p d_t d_slack d_m d_folds d_kinds d_declared d_rounds d_moved d_counterKey d_counterCount d_counterError d_comes post (hk_lp (wb_d_endRound_2 d_p d_t d_slack d_m d_folds d_kinds d_declared d_rounds d_moved d_counterKey d_counterCount d_counterError d_comes post) n) v1 := h
      generalize hk_lp (wb_d_endRound_2 d_p d_t d_slack d_m d_folds d_kinds d_declared d_rounds d_moved d_counterKey d_counterCount d_counterError d_comes post) n = K2 at h ih2
      unfold wb_d_endRound_2 at h
      refine lv_iload_n hx hb dX8_endRound_2 rfl (lv_at hl 1 rfl) ?_
      refine lv_aload_n hx hb dX8_endRound_3 rfl (lv_at hl 0 rfl) ?_
      refine va_get (D := D) (ci := 8) (v := .int d_m) (C := RX8) (T := TX8) (N := 52) hx hb hta ih_X8 hown hK hP 0 rfl rfl 4 (by decide) (hta _ hw_750) (fun _ h9 => h9) rfl dX8_endRound_4 ?_
      refine lv_icmp_ge (tgt := 123) hx hb dX8_endRound_7 (by decide) (fun c2 => ?_) (fun c2 => ?_)
      · have h := h.1 c2
        refine lv_iconst (v := 0) hx hb dX8_endRound_123 (by decide) ?_
        refine lv_istore_n (lv' := [(1, .int 0), (0, .ref h_d)]) hx hb dX8_endRound_124 rfl hl (by decide) rfl (fun ls hl => ?_)
        have P125 : ∀ (n : Nat) (v3 : Int32 × (Nat → Int64) × (Nat → Int32) × (Nat → Int32) × Int32 × Int32 × (Nat → Int64)) (H : Heap) (locs : List Loc) (ls : Array Slot), va_P D vwCl (wv_d cI cJ cZ cM h_d a_d d_p d_r d_t d_slack d_m d_folds d_kinds d_declared v3.2.1 v3.2.2.1 d_lastValue v1.2.2.2.1 v1.2.2.2.2.1 v3.2.2.2.1 d_rows d_inRound d_rounds v3.2.2.2.2.1 v1.2.2.2.2.2.2.2 d_matches v3.2.2.2.2.2.1 d_time d_out d_loads d_counterKey d_counterCount d_counterError d_smalls d_smallKey d_smallWeight d_timers d_timerKey d_timerTime d_logged d_logKey d_logTime d_logState d_marks d_markState d_markValue d_markHas d_markSmalls d_markSmallKey d_markSmallWeight d_markTimers d_markTimerKey d_markTimerTime d_markTime d_markRows d_markMatches d_markOut v3.2.2.2.2.2.2) H → va_D A (wv_d cI cJ cZ cM h_d a_d d_p d_r d_t d_slack d_m d_folds d_kinds d_declared v3.2.1 v3.2.2.1 d_lastValue v1.2.2.2.1 v1.2.2.2.2.1 v3.2.2.2.1 d_rows d_inRound d_rounds v3.2.2.2.2.1 v1.2.2.2.2.2.2.2 d_matches v3.2.2.2.2.2.1 d_time d_out d_loads d_counterKey d_counterCount d_counterError d_smalls d_smallKey d_smallWeight d_timers d_timerKey d_timerTime d_logged d_logKey d_logTime d_logState d_marks d_markState d_markValue d_markHas d_markSmalls d_markSmallKey d_markSmallWeight d_markTimers d_markTimerKey d_markTimerTime d_markTime d_markRows d_markMatches d_markOut v3.2.2.2.2.2.2) → va_S A s.heap H locs → lv_has ls 4 [(0, .ref h_d), (1, .int v3.1)] → hk_lp (wb_d_endRound_125 d_t d_slack d_m d_folds d_kinds d_rounds d_counterKey d_counterCount d_counterError post v1) n v3 → W p l e (headSpec (hk_ws yX8_endRound cX8_endRound 4 none) (hk_rm 3 77)).room s m ([.ref h_d] : List Value).toArray below meth c H locs 0 0 (MQ below (va_Qv post (hk_B D (A) (fun (u : (Nat → Int64) × (Nat → Int32) × (Nat → Int32) × (Nat → Int32) × (Nat → Int32) × Int32 × Int32 × Int32 × Int32 × Int32 × (Nat → Int32) × (Nat → Int32) × (Nat → Int32) × (Nat → Int64)) => wv_d cI cJ cZ cM h_d a_d d_p d_r d_t d_slack d_m d_folds d_kinds d_declared u.1 u.2.1 d_lastValue u.2.2.1 u.2.2.2.1 u.2.2.2.2.1 d_rows u.2.2.2.2.2.1 u.2.2.2.2.2.2.1 u.2.2.2.2.2.2.2.1 u.2.2.2.2.2.2.2.2.1 d_matches u.2.2.2.2.2.2.2.2.2.1 d_time d_out d_loads u.2.2.2.2.2.2.2.2.2.2.1 u.2.2.2.2.2.2.2.2.2.2.2.1 u.2.2.2.2.2.2.2.2.2.2.2.2.1 d_smalls d_smallKey d_smallWeight d_timers d_timerKey d_timerTime d_logged d_logKey d_logTime d_logState d_marks d_markState d_markValue d_markHas d_markSmalls d_markSmallKey d_markSmallWeight d_markTimers d_markTimerKey d_markTimerTime d_markTime d_markRows d_markMatches d_markOut u.2.2.2.2.2.2.2.2.2.2.2.2.2)) (A)) ([.ref h_d] : List Value).toArray s 0 0 A) (F0 m 125 ls []) := by
          intro n
          induction n with
          | zero => intro v3 H locs ls hP hD hS hl h; exact False.elim h
          | succ n ih125 =>
            intro v3 H locs ls hP hD hS hl h
            have h : wb_d_endRound_125 d_t d_slack d_m d_folds d_kinds d_rounds d_counterKey d_counterCount d_counterError post v1 (hk_lp (wb_d_endRound_125 d_t d_slack d_m d_folds d_kinds d_rounds d_counterKey d_counterCount d_counterError post v1) n) v3 := h
            generalize hk_lp (wb_d_endRound_125 d_t d_slack d_m d_folds d_kinds d_rounds d_counterKey d_counterCount d_counterError post v1) n = K125 at h ih125
            unfold wb_d_endRound_125 at h
            refine lv_iload_n hx hb dX8_endRound_125 rfl (lv_at hl 1 rfl) ?_
            refine lv_bipush (v := 100) hx hb dX8_endRound_126 (by decide) ?_
            refine lv_icmp_ge (tgt := 180) hx hb dX8_endRound_128 (by decide) (fun c4 => ?_) (fun c4 => ?_)
            · have h := h.1 c4
              refine lv_aload_n hx hb dX8_endRound_180 rfl (lv_at hl 0 rfl) ?_
              refine hk_wv (hk_runV (As := []) (rest := []) S0 mm_d_freshRound (c_d_freshRound l D cI cJ cZ cM h_d a_d H.size d_p d_r d_t d_slack d_m d_folds d_kinds d_declared v3.2.1 v3.2.2.1 d_lastValue v1.2.2.2.1 v1.2.2.2.2.1 v3.2.2.2.1 d_rows d_inRound d_rounds v3.2.2.2.2.1 v1.2.2.2.2.2.2.2 d_matches v3.2.2.2.2.2.1 d_time d_out d_loads d_counterKey d_counterCount d_counterError d_smalls d_smallKey d_smallWeight d_timers d_timerKey d_timerTime d_logged d_logKey d_logTime d_logState d_marks d_markState d_markValue d_markHas d_markSmalls d_markSmallKey d_markSmallWeight d_markTimers d_markTimerKey d_markTimerTime d_markTime d_markRows d_markMatches d_markOut v3.2.2.2.2.2.2 _ h) hw_742 hk_blM (hk_atM hP hK hD hN) (va_recv hK hP (ci := 8) (q0 := 0) rfl rfl) ⟨rfl, rfl, Nat.le_of_ble_eq_true rfl, Nat.le_of_ble_eq_true rfl⟩ rfl hl.1 rfl (Nat.le_of_ble_eq_true rfl) dX8_endRound_181 ⟨Nat.le_of_ble_eq_true rfl, Nat.le_of_ble_eq_true rfl⟩) hD hS hA (fun w5 H locs h hP hD hS => ?_)
              have hP : va_P D vwCl (wv_d cI cJ cZ cM h_d a_d d_p d_r d_t d_slack d_m d_folds d_kinds d_declared v3.2.1 v3.2.2.1 d_lastValue v1.2.2.2.1 v1.2.2.2.2.1 v3.2.2.2.1 d_rows w5.1 d_rounds v3.2.2.2.2.1 v1.2.2.2.2.2.2.2 d_matches v3.2.2.2.2.2.1 d_time d_out d_loads w5.2.1 w5.2.2.1 w5.2.2.2 d_smalls d_smallKey d_smallWeight d_timers d_timerKey d_timerTime d_logged d_logKey d_logTime d_logState d_marks d_markState d_markValue d_markHas d_markSmalls d_markSmallKey d_markSmallWeight d_markTimers d_markTimerKey d_markTimerTime d_markTime d_markRows d_markMatches d_markOut v3.2.2.2.2.2.2) H := hP
              have hD : va_D A (wv_d cI cJ cZ cM h_d a_d d_p d_r d_t d_slack d_m d_folds d_kinds d_declared v3.2.1 v3.2.2.1 d_lastValue v1.2.2.2.1 v1.2.2.2.2.1 v3.2.2.2.1 d_rows w5.1 d_rounds v3.2.2.2.2.1 v1.2.2.2.2.2.2.2 d_matches v3.2.2.2.2.2.1 d_time d_out d_loads w5.2.1 w5.2.2.1 w5.2.2.2 d_smalls d_smallKey d_smallWeight d_timers d_timerKey d_timerTime d_logged d_logKey d_logTime d_logState d_marks d_markState d_markValue d_markHas d_markSmalls d_markSmallKey d_markSmallWeight d_markTimers d_markTimerKey d_markTimerTime d_markTime d_markRows d_markMatches d_markOut v3.2.2.2.2.2.2) := hD
              refine lv_aload_n hx hb dX8_endRound_184 rfl (lv_at hl 0 rfl) ?_
              refine lv_dup hx hb dX8_endRound_185 rfl ?_
              refine va_get (D := D) (ci := 8) (v := .int d_rounds) (C := RX8) (T := TX8) (N := 52) hx hb hta ih_X8 hown hK hP 0 rfl rfl 16 (by decide) (hta _ hw_762) (fun _ h9 => h9) rfl dX8_endRound_186 ?_
              refine lv_iconst (v := 1) hx hb dX8_endRound_189 (by decide) ?_
              refine lv_iadd hx hb dX8_endRound_190 ?_
              refine lv_topi (fun x6 ex6 => ?_)
              have h := h x6 ex6
              refine va_put (D := D) (ci := 8) (v := .int x6) (ty := .int) (C := RX8) (T := TX8) (N := 52) hx hb hta ih_X8 tyX8 tyX8_ok nmX8 hown hK hP hD hS 0 rfl rfl 16 (by decide) (hta _ hw_762) (fun _ h9 => h9) rfl (by decide +kernel) rfl rfl (Nat.le_of_ble_eq_true rfl) dX8_endRound_191 (fun H locs hP hD hS => ?_)
              have hP : va_P D vwCl (wv_d cI cJ cZ cM h_d a_d d_p d_r d_t d_slack d_m d_folds d_kinds d_declared v3.2.1 v3.2.2.1 d_lastValue v1.2.2.2.1 v1.2.2.2.2.1 v3.2.2.2.1 d_rows w5.1 x6 v3.2.2.2.2.1 v1.2.2.2.2.2.2.2 d_matches v3.2.2.2.2.2.1 d_time d_out d_loads w5.2.1 w5.2.2.1 w5.2.2.2 d_smalls d_smallKey d_smallWeight d_timers d_timerKey d_timerTime d_logged d_logKey d_logTime d_logState d_marks d_markState d_markValue d_markHas d_markSmalls d_markSmallKey d_markSmallWeight d_markTimers d_markTimerKey d_markTimerTime d_markTime d_markRows d_markMatches d_markOut v3.2.2.2.2.2.2) H := hP
              have hD : va_D A (wv_d cI cJ cZ cM h_d a_d d_p d_r d_t d_slack d_m d_folds d_kinds d_declared v3.2.1 v3.2.2.1 d_lastValue v1.2.2.2.1 v1.2.2.2.2.1 v3.2.2.2.1 d_rows w5.1 x6 v3.2.2.2.2.1 v1.2.2.2.2.2.2.2 d_matches v3.2.2.2.2.2.1 d_time d_out d_loads w5.2.1 w5.2.2.1 w5.2.2.2 d_smalls d_smallKey d_smallWeight d_timers d_timerKey d_timerTime d_logged d_logKey d_logTime d_logState d_marks d_markState d_markValue d_markHas d_markSmalls d_markSmallKey d_markSmallWeight d_markTimers d_markTimerKey d_markTimerTime d_markTime d_markRows d_markMatches d_markOut v3.2.2.2.2.2.2) := hD
              exact W.vret hx hb hr (fun t ht hW => ⟨⟨(v3.2.1, v3.2.2.1, v1.2.2.2.1, v1.2.2.2.2.1, v3.2.2.2.1, w5.1, x6, v3.2.2.2.2.1, v1.2.2.2.2.2.2.2, v3.2.2.2.2.2.1, w5.2.1, w5.2.2.1, w5.2.2.2, v3.2.2.2.2.2.2), rfl, h, by rw [ht]; exact hP, hD⟩, hS.F ht⟩) hS.2.2 dX8_endRound_194
            · have h := h.2 c4
              refine lv_aload_n hx hb dX8_endRound_131 rfl (lv_at hl 0 rfl) ?_
              refine va_get (D := D) (ci := 8) (v := .ref (a_d 13)) (C := RX8) (T := TX8) (N := 52) hx hb hta ih_X8 hown hK hP 0 rfl rfl 13 (by decide) (hta _ hw_759) (fun _ h9 => h9) rfl dX8_endRound_132 ?_
              refine lv_iload_n hx hb dX8_endRound_135 rfl (lv_at hl 1 rfl) ?_
              refine va_iald hx hb hK hP 8 0 rfl rfl h.1 dX8_endRound_136 ?_
              have h := h.2
              refine lv_iconst (v := 1) hx hb dX8_endRound_137 (by decide) ?_
              refine lv_icmp_le (tgt := 174) hx hb dX8_endRound_138 (by decide) (fun c7 => ?_) (fun c7 => ?_)
              · have h := h.1 c7
                obtain ⟨x8, ex8⟩ : ∃ y : Int32, y = v3.1 + 1 := ⟨_, rfl⟩
                have h := h x8 ex8
                refine lv_iinc (v := x8) (lv' := [(1, .int x8), (0, .ref h_d)]) hx hb dX8_endRound_174 hl (k := 1) rfl (by rw [ex8]; rfl) (by decide) rfl (fun ls hl => ?_)
                refine lv_goto (tgt := 125) hx hb dX8_endRound_177 (by decide) ?_
                exact ih125 (x8, v3.2.1, v3.2.2.1, v3.2.2.2.1, v3.2.2.2.2.1, v3.2.2.2.2.2.1, v3.2.2.2.2.2.2) H locs ls hP hD hS (lv_sub hl [1, 0] rfl) h
              · have h := h.2 c7
                refine lv_aload_n hx hb dX8_endRound_141 rfl (lv_at hl 0 rfl) ?_
                refine lv_iload_n hx hb dX8_endRound_142 rfl (lv_at hl 1 rfl) ?_
                refine vp_callSi (hk_runV (As := [.int v3.1]) (rest := []) S0 mm_d_mostOf (c_d_mostOf l D cI cJ cZ cM h_d a_d d_p d_r d_t d_slack d_m d_folds d_kinds d_declared v3.2.1 v3.2.2.1 d_lastValue v1.2.2.2.1 v1.2.2.2.2.1 v3.2.2.2.1 d_rows d_inRound d_rounds v3.2.2.2.2.1 v1.2.2.2.2.2.2.2 d_matches v3.2.2.2.2.2.1 d_time d_out d_loads d_counterKey d_counterCount d_counterError d_smalls d_smallKey d_smallWeight d_timers d_timerKey d_timerTime d_logged d_logKey d_logTime d_logState d_marks d_markState d_markValue d_markHas d_markSmalls d_markSmallKey d_markSmallWeight d_markTimers d_markTimerKey d_markTimerTime d_markTime d_markRows d_markMatches d_markOut v3.2.2.2.2.2.2 v3.1 _ h) hw_974 hk_blR (hk_atR hP hK hN) (va_recv hK hP (ci := 8) (q0 := 0) rfl rfl) ⟨rfl, rfl, Nat.le_of_ble_eq_true rfl, Nat.le_of_ble_eq_true rfl⟩ rfl hl.1 rfl (Nat.le_of_ble_eq_true rfl) dX8_endRound_143 ⟨Nat.le_of_ble_eq_true rfl, Nat.le_of_ble_eq_true rfl⟩).run (fun r9 h => ?_)
                refine lv_aload_n hx hb dX8_endRound_146 rfl (lv_at hl 0 rfl) ?_
                refine va_get (D := D) (ci := 8) (v := .int d_t) (C := RX8) (T := TX8) (N := 52) hx hb hta ih_X8 hown hK hP 0 rfl rfl 2 (by decide) (hta _ hw_748) (fun _ h9 => h9) rfl dX8_endRound_147 ?_
                refine lv_aload_n hx hb dX8_endRound_150 rfl (lv_at hl 0 rfl) ?_
                refine va_get (D := D) (ci := 8) (v := .int d_slack) (C := RX8) (T := TX8) (N := 52) hx hb hta ih_X8 hown hK hP 0 rfl rfl 3 (by decide) (hta _ hw_749) (fun _ h9 => h9) rfl dX8_endRound_151 ?_
                refine lv_isub hx hb dX8_endRound_154 ?_
                refine lv_icmp_ge (tgt := 174) hx hb dX8_endRound_155 (by decide) (fun c10 => ?_) (fun c10 => ?_)
                · have h := h.1 c10
                  obtain ⟨x11, ex11⟩ : ∃ y : Int32, y = v3.1 + 1 := ⟨_, rfl⟩
                  have h := h x11 ex11
                  refine lv_iinc (v := x11) (lv' := [(1, .int x11), (0, .ref h_d)]) hx hb dX8_endRound_174 hl (k := 1) rfl (by rw [ex11]; rfl) (by decide) rfl (fun ls hl => ?_)
                  refine lv_goto (tgt := 125) hx hb dX8_endRound_177 (by decide) ?_
                  exact ih125 (x11, v3.2.1, v3.2.2.1, v3.2.2.2.1, v3.2.2.2.2.1, v3.2.2.2.2.2.1, v3.2.2.2.2.2.2) H locs ls hP hD hS (lv_sub hl [1, 0] rfl) h
                · have h := h.2 c10
                  refine lv_aload_n hx hb dX8_endRound_158 rfl (lv_at hl 0 rfl) ?_
                  refine lv_iload_n hx hb dX8_endRound_159 rfl (lv_at hl 1 rfl) ?_
                  refine hk_wi (hk_runV (As := [.int v3.1]) (rest := []) S0 mm_d_joinBack (c_d_joinBack l D cI cJ cZ cM h_d a_d H.size d_p d_r d_t d_slack d_m d_folds d_kinds d_declared v3.2.1 v3.2.2.1 d_lastValue v1.2.2.2.1 v1.2.2.2.2.1 v3.2.2.2.1 d_rows d_inRound d_rounds v3.2.2.2.2.1 v1.2.2.2.2.2.2.2 d_matches v3.2.2.2.2.2.1 d_time d_out d_loads d_counterKey d_counterCount d_counterError d_smalls d_smallKey d_smallWeight d_timers d_timerKey d_timerTime d_logged d_logKey d_logTime d_logState d_marks d_markState d_markValue d_markHas d_markSmalls d_markSmallKey d_markSmallWeight d_markTimers d_markTimerKey d_markTimerTime d_markTime d_markRows d_markMatches d_markOut v3.2.2.2.2.2.2 v3.1 _ h) hw_978 hk_blM (hk_atM hP hK hD hN) (va_recv hK hP (ci := 8) (q0 := 0) rfl rfl) ⟨rfl, rfl, Nat.le_of_ble_eq_true rfl, Nat.le_of_ble_eq_true rfl⟩ rfl hl.1 rfl (Nat.le_of_ble_eq_true rfl) dX8_endRound_160 ⟨Nat.le_of_ble_eq_true rfl, Nat.le_of_ble_eq_true rfl⟩) hD hS hA (fun r12 w13 H locs h hP hD hS => ?_)
                  have hP : va_P D vwCl (wv_d cI cJ cZ cM h_d a_d d_p d_r d_t d_slack d_m d_folds d_kinds d_declared w13.1 w13.2.1 d_lastValue v1.2.2.2.1 v1.2.2.2.2.1 w13.2.2.1 d_rows d_inRound d_rounds v3.2.2.2.2.1 v1.2.2.2.2.2.2.2 d_matches w13.2.2.2.1 d_time d_out d_loads d_counterKey d_counterCount d_counterError d_smalls d_smallKey d_smallWeight d_timers d_timerKey d_timerTime d_logged d_logKey d_logTime d_logState d_marks d_markState d_markValue d_markHas d_markSmalls d_markSmallKey d_markSmallWeight d_markTimers d_markTimerKey d_markTimerTime d_markTime d_markRows d_markMatches d_markOut w13.2.2.2.2) H := hP
                  have hD : va_D A (wv_d cI cJ cZ cM h_d a_d d_p d_r d_t d_slack d_m d_folds d_kinds d_declared w13.1 w13.2.1 d_lastValue v1.2.2.2.1 v1.2.2.2.2.1 w13.2.2.1 d_rows d_inRound d_rounds v3.2.2.2.2.1 v1.2.2.2.2.2.2.2 d_matches w13.2.2.2.1 d_time d_out d_loads d_counterKey d_counterCount d_counterError d_smalls d_smallKey d_smallWeight d_timers d_timerKey d_timerTime d_logged d_logKey d_logTime d_logState d_marks d_markState d_markValue d_markHas d_markSmalls d_markSmallKey d_markSmallWeight d_markTimers d_markTimerKey d_markTimerTime d_markTime d_markRows d_markMatches d_markOut w13.2.2.2.2) := hD
                  refine lv_istore_n (lv' := [(2, .int r12), (0, .ref h_d), (1, .int v3.1)]) hx hb dX8_endRound_163 rfl hl (by decide) rfl (fun ls hl => ?_)
                  refine lv_aload_n hx hb dX8_endRound_164 rfl (lv_at hl 1 rfl) ?_
                  refine lv_dup hx hb dX8_endRound_165 rfl ?_
                  refine va_get (D := D) (ci := 8) (v := .int v3.2.2.2.2.1) (C := RX8) (T := TX8) (N := 52) hx hb hta ih_X8 hown hK hP 0 rfl rfl 17 (by decide) (hta _ hw_763) (fun _ h9 => h9) rfl dX8_endRound_166 ?_
                  refine lv_iconst (v := 1) hx hb dX8_endRound_169 (by decide) ?_
                  refine lv_iadd hx hb dX8_endRound_170 ?_
                  refine lv_topi (fun x14 ex14 => ?_)
                  have h := h x14 ex14
                  refine va_put (D := D) (ci := 8) (v := .int x14) (ty := .int) (C := RX8) (T := TX8) (N := 52) hx hb hta ih_X8 tyX8 tyX8_ok nmX8 hown hK hP hD hS 0 rfl rfl 17 (by decide) (hta _ hw_763) (fun _ h9 => h9) rfl (by decide +kernel) rfl rfl (Nat.le_of_ble_eq_true rfl) dX8_endRound_171 (fun H locs hP hD hS => ?_)
                  have hP : va_P D vwCl (wv_d cI cJ cZ cM h_d a_d d_p d_r d_t d_slack d_m d_folds d_kinds d_declared w13.1 w13.2.1 d_lastValue v1.2.2.2.1 v1.2.2.2.2.1 w13.2.2.1 d_rows d_inRound d_rounds x14 v1.2.2.2.2.2.2.2 d_matches w13.2.2.2.1 d_time d_out d_loads d_counterKey d_counterCount d_counterError d_smalls d_smallKey d_smallWeight d_timers d_timerKey d_timerTime d_logged d_logKey d_logTime d_logState d_marks d_markState d_markValue d_markHas d_markSmalls d_markSmallKey d_markSmallWeight d_markTimers d_markTimerKey d_markTimerTime d_markTime d_markRows d_markMatches d_markOut w13.2.2.2.2) H := hP
                  have hD : va_D A (wv_d cI cJ cZ cM h_d a_d d_p d_r d_t d_slack d_m d_folds d_kinds d_declared w13.1 w13.2.1 d_lastValue v1.2.2.2.1 v1.2.2.2.2.1 w13.2.2.1 d_rows d_inRound d_rounds x14 v1.2.2.2.2.2.2.2 d_matches w13.2.2.2.1 d_time d_out d_loads d_counterKey d_counterCount d_counterError d_smalls d_smallKey d_smallWeight d_timers d_timerKey d_timerTime d_logged d_logKey d_logTime d_logState d_marks d_markState d_markValue d_markHas d_markSmalls d_markSmallKey d_markSmallWeight d_markTimers d_markTimerKey d_markTimerTime d_markTime d_markRows d_markMatches d_markOut w13.2.2.2.2) := hD
                  obtain ⟨x15, ex15⟩ : ∃ y : Int32, y = v3.1 + 1 := ⟨_, rfl⟩
                  have h := h x15 ex15
                  refine lv_iinc (v := x15) (lv' := [(1, .int x15), (2, .int r12), (0, .ref h_d)]) hx hb dX8_endRound_174 hl (k := 2) rfl (by rw [ex15]; rfl) (by decide) rfl (fun ls hl => ?_)
                  refine lv_goto (tgt := 125) hx hb dX8_endRound_177 (by decide) ?_
                  exact ih125 (x15, w13.1, w13.2.1, w13.2.2.1, x14, w13.2.2.2.1, w13.2.2.2.2) H locs ls hP hD hS (lv_sub hl [2, 0] rfl) h
        obtain ⟨n, h⟩ := h
        exact P125 n (0, v1.2.1, v1.2.2.1, v1.2.2.2.2.2.1, v1.2.2.2.2.2.2.1, d_moved, d_comes) H locs ls hP hD hS (lv_sub hl [1, 0] rfl) h
      · have h := h.2 c2
        refine lv_aload_n hx hb dX8_endRound_10 rfl (lv_at hl 0 rfl) ?_
        refine va_get (D := D) (ci := 8) (v := .ref (a_d 24)) (C := RX8) (T := TX8) (N := 52) hx hb hta ih_X8 hown hK hP 0 rfl rfl 24 (by decide) (hta _ hw_770) (fun _ h9 => h9) rfl dX8_endRound_11 ?_
        refine lv_iload_n hx hb dX8_endRound_14 rfl (lv_at hl 1 rfl) ?_
        refine va_iald hx hb hK hP 10 0 rfl rfl h.1 dX8_endRound_15 ?_
        have h := h.2
        refine lv_topi (fun x16 ex16 => ?_)
        have h := h x16 ex16
        refine lv_istore_n (lv' := [(2, .int x16), (0, .ref h_d), (1, .int v1.1)]) hx hb dX8_endRound_16 rfl hl (by decide) rfl (fun ls hl => ?_)
        refine lv_iload_n hx hb dX8_endRound_17 rfl (lv_at hl 0 rfl) ?_
        refine lv_iconst (v := (-1)) hx hb dX8_endRound_18 (by decide) ?_
        refine lv_icmp_eq (tgt := 117) hx hb dX8_endRound_19 (by decide) (fun c17 => ?_) (fun c17 => ?_)
        · have h := h.1 c17
          obtain ⟨x18, ex18⟩ : ∃ y : Int32, y = v1.1 + 1 := ⟨_, rfl⟩
          have h := h x18 ex18
          refine lv_iinc (v := x18) (lv' := [(1, .int x18), (2, .int x16), (0, .ref h_d)]) hx hb dX8_endRound_117 hl (k := 2) rfl (by rw [ex18]; rfl) (by decide) rfl (fun ls hl => ?_)
          refine lv_goto (tgt := 2) hx hb dX8_endRound_120 (by decide) ?_
          exact ih2 (x18, v1.2.1, v1.2.2.1, v1.2.2.2.1, v1.2.2.2.2.1, v1.2.2.2.2.2.1, v1.2.2.2.2.2.2.1, v1.2.2.2.2.2.2.2) H locs ls hP hD hS (lv_sub hl [2, 0] rfl) h
        · have h := h.2 c17
          refine lv_aload_n hx hb dX8_endRound_22 rfl (lv_at hl 1 rfl) ?_
          refine va_get (D := D) (ci := 8) (v := .ref (a_d 25)) (C := RX8) (T := TX8) (N := 52) hx hb hta ih_X8 hown hK hP 0 rfl rfl 25 (by decide) (hta _ hw_771) (fun _ h9 => h9) rfl dX8_endRound_23 ?_
          refine lv_iload_n hx hb dX8_endRound_26 rfl (lv_at hl 2 rfl) ?_
          refine va_iald hx hb hK hP 11 0 rfl rfl h.1 dX8_endRound_27 ?_
          have h := h.2
          refine lv_aload_n hx hb dX8_endRound_28 rfl (lv_at hl 1 rfl) ?_
          refine va_get (D := D) (ci := 8) (v := .ref (a_d 26)) (C := RX8) (T := TX8) (N := 52) hx hb hta ih_X8 hown hK hP 0 rfl rfl 26 (by decide) (hta _ hw_772) (fun _ h9 => h9) rfl dX8_endRound_29 ?_
          refine lv_iload_n hx hb dX8_endRound_32 rfl (lv_at hl 2 rfl) ?_
          refine va_iald hx hb hK hP 12 0 rfl rfl h.1 dX8_endRound_33 ?_
          have h := h.2
          refine lv_isub hx hb dX8_endRound_34 ?_
          refine lv_aload_n hx hb dX8_endRound_35 rfl (lv_at hl 1 rfl) ?_
          refine va_get (D := D) (ci := 8) (v := .int d_t) (C := RX8) (T := TX8) (N := 52) hx hb hta ih_X8 hown hK hP 0 rfl rfl 2 (by decide) (hta _ hw_748) (fun _ h9 => h9) rfl dX8_endRound_36 ?_
          refine lv_icmp_lt (tgt := 117) hx hb dX8_endRound_39 (by decide) (fun c19 => ?_) (fun c19 => ?_)
          · have h := h.1 c19
            obtain ⟨x20, ex20⟩ : ∃ y : Int32, y = v1.1 + 1 := ⟨_, rfl⟩
            have h := h x20 ex20
            refine lv_iinc (v := x20) (lv' := [(1, .int x20), (2, .int x16), (0, .ref h_d)]) hx hb dX8_endRound_117 hl (k := 2) rfl (by rw [ex20]; rfl) (by decide) rfl (fun ls hl => ?_)
            refine lv_goto (tgt := 2) hx hb dX8_endRound_120 (by decide) ?_
            exact ih2 (x20, v1.2.1, v1.2.2.1, v1.2.2.2.1, v1.2.2.2.2.1, v1.2.2.2.2.2.1, v1.2.2.2.2.2.2.1, v1.2.2.2.2.2.2.2) H locs ls hP hD hS (lv_sub hl [2, 0] rfl) h
          · have h := h.2 c19
            refine lv_aload_n hx hb dX8_endRound_42 rfl (lv_at hl 1 rfl) ?_
            refine va_get (D := D) (ci := 8) (v := .ref (a_d 13)) (C := RX8) (T := TX8) (N := 52) hx hb hta ih_X8 hown hK hP 0 rfl rfl 13 (by decide) (hta _ hw_759) (fun _ h9 => h9) rfl dX8_endRound_43 ?_
            refine lv_iload_n hx hb dX8_endRound_46 rfl (lv_at hl 0 rfl) ?_
            refine va_iald hx hb hK hP 8 0 rfl rfl h.1 dX8_endRound_47 ?_
            have h := h.2
            refine lv_iconst (v := 1) hx hb dX8_endRound_48 (by decide) ?_
            refine lv_icmp_ne (tgt := 117) hx hb dX8_endRound_49 (by decide) (fun c21 => ?_) (fun c21 => ?_)
            · have h := h.1 c21
              obtain ⟨x22, ex22⟩ : ∃ y : Int32, y = v1.1 + 1 := ⟨_, rfl⟩
              have h := h x22 ex22
              refine lv_iinc (v := x22) (lv' := [(1, .int x22), (2, .int x16), (0, .ref h_d)]) hx hb dX8_endRound_117 hl (k := 2) rfl (by rw [ex22]; rfl) (by decide) rfl (fun ls hl => ?_)
              refine lv_goto (tgt := 2) hx hb dX8_endRound_120 (by decide) ?_
              exact ih2 (x22, v1.2.1, v1.2.2.1, v1.2.2.2.1, v1.2.2.2.2.1, v1.2.2.2.2.2.1, v1.2.2.2.2.2.2.1, v1.2.2.2.2.2.2.2) H locs ls hP hD hS (lv_sub hl [2, 0] rfl) h
            · have h := h.2 c21
              refine lv_aload_n hx hb dX8_endRound_52 rfl (lv_at hl 1 rfl) ?_
              refine va_get (D := D) (ci := 8) (v := .ref (a_d 25)) (C := RX8) (T := TX8) (N := 52) hx hb hta ih_X8 hown hK hP 0 rfl rfl 25 (by decide) (hta _ hw_771) (fun _ h9 => h9) rfl dX8_endRound_53 ?_
              refine lv_iload_n hx hb dX8_endRound_56 rfl (lv_at hl 2 rfl) ?_
              refine va_iald hx hb hK hP 11 0 rfl rfl h.1 dX8_endRound_57 ?_
              have h := h.2
              refine lv_aload_n hx hb dX8_endRound_58 rfl (lv_at hl 1 rfl) ?_
              refine va_get (D := D) (ci := 8) (v := .int d_t) (C := RX8) (T := TX8) (N := 52) hx hb hta ih_X8 hown hK hP 0 rfl rfl 2 (by decide) (hta _ hw_748) (fun _ h9 => h9) rfl dX8_endRound_59 ?_
              refine lv_idiv hx hb dX8_endRound_62 h.1 ?_
              have h := h.2
              refine lv_iconst (v := 1) hx hb dX8_endRound_63 (by decide) ?_
              refine lv_iadd hx hb dX8_endRound_64 ?_
              refine lv_topi (fun x23 ex23 => ?_)
              have h := h x23 ex23
              refine lv_istore_n (lv' := [(3, .int x23), (2, .int x16), (0, .ref h_d), (1, .int v1.1)]) hx hb dX8_endRound_65 rfl hl (by decide) rfl (fun ls hl => ?_)
              refine lv_aload_n hx hb dX8_endRound_66 rfl (lv_at hl 2 rfl) ?_
              refine vp_callSi (hk_runV (As := []) (rest := []) S0 mm_d_canSplit (c_d_canSplit l D cI cJ cZ cM h_d a_d d_p d_r d_t d_slack d_m d_folds d_kinds d_declared v1.2.1 v1.2.2.1 d_lastValue v1.2.2.2.1 v1.2.2.2.2.1 v1.2.2.2.2.2.1 d_rows d_inRound d_rounds v1.2.2.2.2.2.2.1 v1.2.2.2.2.2.2.2 d_matches d_moved d_time d_out d_loads d_counterKey d_counterCount d_counterError d_smalls d_smallKey d_smallWeight d_timers d_timerKey d_timerTime d_logged d_logKey d_logTime d_logState d_marks d_markState d_markValue d_markHas d_markSmalls d_markSmallKey d_markSmallWeight d_markTimers d_markTimerKey d_markTimerTime d_markTime d_markRows d_markMatches d_markOut d_comes _ h) hw_966 hk_blR (hk_atR hP hK hN) (va_recv hK hP (ci := 8) (q0 := 0) rfl rfl) ⟨rfl, rfl, Nat.le_of_ble_eq_true rfl, Nat.le_of_ble_eq_true rfl⟩ rfl hl.1 rfl (Nat.le_of_ble_eq_true rfl) dX8_endRound_67 ⟨Nat.le_of_ble_eq_true rfl, Nat.le_of_ble_eq_true rfl⟩).run (fun r24 h => ?_)
              refine lv_if_eq (tgt := 107) hx hb dX8_endRound_70 (by decide) (fun c25 => ?_) (fun c25 => ?_)
              · have h := h.1 c25
                refine lv_aload_n hx hb dX8_endRound_107 rfl (lv_at hl 2 rfl) ?_
                refine lv_dup hx hb dX8_endRound_108 rfl ?_
                refine va_get (D := D) (ci := 8) (v := .int v1.2.2.2.2.2.2.2) (C := RX8) (T := TX8) (N := 52) hx hb hta ih_X8 hown hK hP 0 rfl rfl 18 (by decide) (hta _ hw_764) (fun _ h9 => h9) rfl dX8_endRound_109 ?_
                refine lv_iconst (v := 1) hx hb dX8_endRound_112 (by decide) ?_
                refine lv_iadd hx hb dX8_endRound_113 ?_
                refine lv_topi (fun x26 ex26 => ?_)
                have h := h x26 ex26
                refine va_put (D := D) (ci := 8) (v := .int x26) (ty := .int) (C := RX8) (T := TX8) (N := 52) hx hb hta ih_X8 tyX8 tyX8_ok nmX8 hown hK hP hD hS 0 rfl rfl 18 (by decide) (hta _ hw_764) (fun _ h9 => h9) rfl (by decide +kernel) rfl rfl (Nat.le_of_ble_eq_true rfl) dX8_endRound_114 (fun H locs hP hD hS => ?_)
                have hP : va_P D vwCl (wv_d cI cJ cZ cM h_d a_d d_p d_r d_t d_slack d_m d_folds d_kinds d_declared v1.2.1 v1.2.2.1 d_lastValue v1.2.2.2.1 v1.2.2.2.2.1 v1.2.2.2.2.2.1 d_rows d_inRound d_rounds v1.2.2.2.2.2.2.1 x26 d_matches d_moved d_time d_out d_loads d_counterKey d_counterCount d_counterError d_smalls d_smallKey d_smallWeight d_timers d_timerKey d_timerTime d_logged d_logKey d_logTime d_logState d_marks d_markState d_markValue d_markHas d_markSmalls d_markSmallKey d_markSmallWeight d_markTimers d_markTimerKey d_markTimerTime d_markTime d_markRows d_markMatches d_markOut d_comes) H := hP
                have hD : va_D A (wv_d cI cJ cZ cM h_d a_d d_p d_r d_t d_slack d_m d_folds d_kinds d_declared v1.2.1 v1.2.2.1 d_lastValue v1.2.2.2.1 v1.2.2.2.2.1 v1.2.2.2.2.2.1 d_rows d_inRound d_rounds v1.2.2.2.2.2.2.1 x26 d_matches d_moved d_time d_out d_loads d_counterKey d_counterCount d_counterError d_smalls d_smallKey d_smallWeight d_timers d_timerKey d_timerTime d_logged d_logKey d_logTime d_logState d_marks d_markState d_markValue d_markHas d_markSmalls d_markSmallKey d_markSmallWeight d_markTimers d_markTimerKey d_markTimerTime d_markTime d_markRows d_markMatches d_markOut d_comes) := hD
                obtain ⟨x27, ex27⟩ : ∃ y : Int32, y = v1.1 + 1 := ⟨_, rfl⟩
                have h := h x27 ex27
                refine lv_iinc (v := x27) (lv' := [(1, .int x27), (3, .int x23), (2, .int x16), (0, .ref h_d)]) hx hb dX8_endRound_117 hl (k := 3) rfl (by rw [ex27]; rfl) (by decide) rfl (fun ls hl => ?_)
                refine lv_goto (tgt := 2) hx hb dX8_endRound_120 (by decide) ?_
                exact ih2 (x27, v1.2.1, v1.2.2.1, v1.2.2.2.1, v1.2.2.2.2.1, v1.2.2.2.2.2.1, v1.2.2.2.2.2.2.1, x26) H locs ls hP hD hS (lv_sub hl [3, 0] rfl) h
              · have h := h.2 c25
                refine lv_aload_n hx hb dX8_endRound_73 rfl (lv_at hl 2 rfl) ?_
                refine lv_iload_n hx hb dX8_endRound_74 rfl (lv_at hl 1 rfl) ?_
                refine lv_iload_n hx hb dX8_endRound_75 rfl (lv_at hl 0 rfl) ?_
                refine lv_aload_n hx hb dX8_endRound_76 rfl (lv_at hl 2 rfl) ?_
                refine va_get (D := D) (ci := 8) (v := .int d_p) (C := RX8) (T := TX8) (N := 52) hx hb hta ih_X8 hown hK hP 0 rfl rfl 0 (by decide) (hta _ hw_746) (fun _ h9 => h9) rfl dX8_endRound_77 ?_
                refine lv_icmp_ge (tgt := 87) hx hb dX8_endRound_80 (by decide) (fun c28 => ?_) (fun c28 => ?_)
                · have h := h.1 c28
                  refine lv_aload_n hx hb dX8_endRound_87 rfl (lv_at hl 2 rfl) ?_
                  refine va_get (D := D) (ci := 8) (v := .int d_p) (C := RX8) (T := TX8) (N := 52) hx hb hta ih_X8 hown hK hP 0 rfl rfl 0 (by decide) (hta _ hw_746) (fun _ h9 => h9) rfl dX8_endRound_88 ?_
                  refine hk_wv (hk_runV (As := [.int x16, .int d_p]) (rest := []) S0 mm_d_makeParts (c_d_makeParts l D cI cJ cZ cM h_d a_d H.size d_p d_r d_t d_slack d_m d_folds d_kinds d_declared v1.2.1 v1.2.2.1 d_lastValue v1.2.2.2.1 v1.2.2.2.2.1 v1.2.2.2.2.2.1 d_rows d_inRound d_rounds v1.2.2.2.2.2.2.1 v1.2.2.2.2.2.2.2 d_matches d_moved d_time d_out d_loads d_counterKey d_counterCount d_counterError d_smalls d_smallKey d_smallWeight d_timers d_timerKey d_timerTime d_logged d_logKey d_logTime d_logState d_marks d_markState d_markValue d_markHas d_markSmalls d_markSmallKey d_markSmallWeight d_markTimers d_markTimerKey d_markTimerTime d_markTime d_markRows d_markMatches d_markOut d_comes x16 d_p _ h) hw_970 hk_blM (hk_atM hP hK hD hN) (va_recv hK hP (ci := 8) (q0 := 0) rfl rfl) ⟨rfl, rfl, Nat.le_of_ble_eq_true rfl, Nat.le_of_ble_eq_true rfl⟩ rfl hl.1 rfl (Nat.le_of_ble_eq_true rfl) dX8_endRound_91 ⟨Nat.le_of_ble_eq_true rfl, Nat.le_of_ble_eq_true rfl⟩) hD hS hA (fun w29 H locs h hP hD hS => ?_)
                  have hP : va_P D vwCl (wv_d cI cJ cZ cM h_d a_d d_p d_r d_t d_slack d_m d_folds d_kinds d_declared w29.1 w29.2.1 d_lastValue w29.2.2.1 w29.2.2.2.1 w29.2.2.2.2 d_rows d_inRound d_rounds v1.2.2.2.2.2.2.1 v1.2.2.2.2.2.2.2 d_matches d_moved d_time d_out d_loads d_counterKey d_counterCount d_counterError d_smalls d_smallKey d_smallWeight d_timers d_timerKey d_timerTime d_logged d_logKey d_logTime d_logState d_marks d_markState d_markValue d_markHas d_markSmalls d_markSmallKey d_markSmallWeight d_markTimers d_markTimerKey d_markTimerTime d_markTime d_markRows d_markMatches d_markOut d_comes) H := hP
                  have hD : va_D A (wv_d cI cJ cZ cM h_d a_d d_p d_r d_t d_slack d_m d_folds d_kinds d_declared w29.1 w29.2.1 d_lastValue w29.2.2.1 w29.2.2.2.1 w29.2.2.2.2 d_rows d_inRound d_rounds v1.2.2.2.2.2.2.1 v1.2.2.2.2.2.2.2 d_matches d_moved d_time d_out d_loads d_counterKey d_counterCount d_counterError d_smalls d_smallKey d_smallWeight d_timers d_timerKey d_timerTime d_logged d_logKey d_logTime d_logState d_marks d_markState d_markValue d_markHas d_markSmalls d_markSmallKey d_markSmallWeight d_markTimers d_markTimerKey d_markTimerTime d_markTime d_markRows d_markMatches d_markOut d_comes) := hD
                  refine lv_aload_n hx hb dX8_endRound_94 rfl (lv_at hl 2 rfl) ?_
                  refine lv_dup hx hb dX8_endRound_95 rfl ?_
                  refine va_get (D := D) (ci := 8) (v := .int v1.2.2.2.2.2.2.1) (C := RX8) (T := TX8) (N := 52) hx hb hta ih_X8 hown hK hP 0 rfl rfl 17 (by decide) (hta _ hw_763) (fun _ h9 => h9) rfl dX8_endRound_96 ?_
                  refine lv_iconst (v := 1) hx hb dX8_endRound_99 (by decide) ?_
                  refine lv_iadd hx hb dX8_endRound_100 ?_
                  refine lv_topi (fun x30 ex30 => ?_)
                  have h := h x30 ex30
                  refine va_put (D := D) (ci := 8) (v := .int x30) (ty := .int) (C := RX8) (T := TX8) (N := 52) hx hb hta ih_X8 tyX8 tyX8_ok nmX8 hown hK hP hD hS 0 rfl rfl 17 (by decide) (hta _ hw_763) (fun _ h9 => h9) rfl (by decide +kernel) rfl rfl (Nat.le_of_ble_eq_true rfl) dX8_endRound_101 (fun H locs hP hD hS => ?_)
                  have hP : va_P D vwCl (wv_d cI cJ cZ cM h_d a_d d_p d_r d_t d_slack d_m d_folds d_kinds d_declared w29.1 w29.2.1 d_lastValue w29.2.2.1 w29.2.2.2.1 w29.2.2.2.2 d_rows d_inRound d_rounds x30 v1.2.2.2.2.2.2.2 d_matches d_moved d_time d_out d_loads d_counterKey d_counterCount d_counterError d_smalls d_smallKey d_smallWeight d_timers d_timerKey d_timerTime d_logged d_logKey d_logTime d_logState d_marks d_markState d_markValue d_markHas d_markSmalls d_markSmallKey d_markSmallWeight d_markTimers d_markTimerKey d_markTimerTime d_markTime d_markRows d_markMatches d_markOut d_comes) H := hP
                  have hD : va_D A (wv_d cI cJ cZ cM h_d a_d d_p d_r d_t d_slack d_m d_folds d_kinds d_declared w29.1 w29.2.1 d_lastValue w29.2.2.1 w29.2.2.2.1 w29.2.2.2.2 d_rows d_inRound d_rounds x30 v1.2.2.2.2.2.2.2 d_matches d_moved d_time d_out d_loads d_counterKey d_counterCount d_counterError d_smalls d_smallKey d_smallWeight d_timers d_timerKey d_timerTime d_logged d_logKey d_logTime d_logState d_marks d_markState d_markValue d_markHas d_markSmalls d_markSmallKey d_markSmallWeight d_markTimers d_markTimerKey d_markTimerTime d_markTime d_markRows d_markMatches d_markOut d_comes) := hD
                  refine lv_goto (tgt := 117) hx hb dX8_endRound_104 (by decide) ?_
                  obtain ⟨x31, ex31⟩ : ∃ y : Int32, y = v1.1 + 1 := ⟨_, rfl⟩
                  have h := h x31 ex31
                  refine lv_iinc (v := x31) (lv' := [(1, .int x31), (3, .int x23), (2, .int x16), (0, .ref h_d)]) hx hb dX8_endRound_117 hl (k := 3) rfl (by rw [ex31]; rfl) (by decide) rfl (fun ls hl => ?_)
                  refine lv_goto (tgt := 2) hx hb dX8_endRound_120 (by decide) ?_
                  exact ih2 (x31, w29.1, w29.2.1, w29.2.2.1, w29.2.2.2.1, w29.2.2.2.2, x30, v1.2.2.2.2.2.2.2) H locs ls hP hD hS (lv_sub hl [3, 0] rfl) h
                · have h := h.2 c28
                  refine lv_iload_n hx hb dX8_endRound_83 rfl (lv_at hl 0 rfl) ?_
                  refine lv_goto (tgt := 91) hx hb dX8_endRound_84 (by decide) ?_
                  refine hk_wv (hk_runV (As := [.int x16, .int x23]) (rest := []) S0 mm_d_makeParts (c_d_makeParts l D cI cJ cZ cM h_d a_d H.size d_p d_r d_t d_slack d_m d_folds d_kinds d_declared v1.2.1 v1.2.2.1 d_lastValue v1.2.2.2.1 v1.2.2.2.2.1 v1.2.2.2.2.2.1 d_rows d_inRound d_rounds v1.2.2.2.2.2.2.1 v1.2.2.2.2.2.2.2 d_matches d_moved d_time d_out d_loads d_counterKey d_counterCount d_counterError d_smalls d_smallKey d_smallWeight d_timers d_timerKey d_timerTime d_logged d_logKey d_logTime d_logState d_marks d_markState d_markValue d_markHas d_markSmalls d_markSmallKey d_markSmallWeight d_markTimers d_markTimerKey d_markTimerTime d_markTime d_markRows d_markMatches d_markOut d_comes x16 x23 _ h) hw_970 hk_blM (hk_atM hP hK hD hN) (va_recv hK hP (ci := 8) (q0 := 0) rfl rfl) ⟨rfl, rfl, Nat.le_of_ble_eq_true rfl, Nat.le_of_ble_eq_true rfl⟩ rfl hl.1 rfl (Nat.le_of_ble_eq_true rfl) dX8_endRound_91 ⟨Nat.le_of_ble_eq_true rfl, Nat.le_of_ble_eq_true rfl⟩) hD hS hA (fun w32 H locs h hP hD hS => ?_)
                  have hP : va_P D vwCl (wv_d cI cJ cZ cM h_d a_d d_p d_r d_t d_slack d_m d_folds d_kinds d_declared w32.1 w32.2.1 d_lastValue w32.2.2.1 w32.2.2.2.1 w32.2.2.2.2 d_rows d_inRound d_rounds v1.2.2.2.2.2.2.1 v1.2.2.2.2.2.2.2 d_matches d_moved d_time d_out d_loads d_counterKey d_counterCount d_counterError d_smalls d_smallKey d_smallWeight d_timers d_timerKey d_timerTime d_logged d_logKey d_logTime d_logState d_marks d_markState d_markValue d_markHas d_markSmalls d_markSmallKey d_markSmallWeight d_markTimers d_markTimerKey d_markTimerTime d_markTime d_markRows d_markMatches d_markOut d_comes) H := hP
                  have hD : va_D A (wv_d cI cJ cZ cM h_d a_d d_p d_r d_t d_slack d_m d_folds d_kinds d_declared w32.1 w32.2.1 d_lastValue w32.2.2.1 w32.2.2.2.1 w32.2.2.2.2 d_rows d_inRound d_rounds v1.2.2.2.2.2.2.1 v1.2.2.2.2.2.2.2 d_matches d_moved d_time d_out d_loads d_counterKey d_counterCount d_counterError d_smalls d_smallKey d_smallWeight d_timers d_timerKey d_timerTime d_logged d_logKey d_logTime d_logState d_marks d_markState d_markValue d_markHas d_markSmalls d_markSmallKey d_markSmallWeight d_markTimers d_markTimerKey d_markTimerTime d_markTime d_markRows d_markMatches d_markOut d_comes) := hD
                  refine lv_aload_n hx hb dX8_endRound_94 rfl (lv_at hl 2 rfl) ?_
                  refine lv_dup hx hb dX8_endRound_95 rfl ?_
                  refine va_get (D := D) (ci := 8) (v := .int v1.2.2.2.2.2.2.1) (C := RX8) (T := TX8) (N := 52) hx hb hta ih_X8 hown hK hP 0 rfl rfl 17 (by decide) (hta _ hw_763) (fun _ h9 => h9) rfl dX8_endRound_96 ?_
                  refine lv_iconst (v := 1) hx hb dX8_endRound_99 (by decide) ?_
                  refine lv_iadd hx hb dX8_endRound_100 ?_
                  refine lv_topi (fun x33 ex33 => ?_)
                  have h := h x33 ex33
                  refine va_put (D := D) (ci := 8) (v := .int x33) (ty := .int) (C := RX8) (T := TX8) (N := 52) hx hb hta ih_X8 tyX8 tyX8_ok nmX8 hown hK hP hD hS 0 rfl rfl 17 (by decide) (hta _ hw_763) (fun _ h9 => h9) rfl (by decide +kernel) rfl rfl (Nat.le_of_ble_eq_true rfl) dX8_endRound_101 (fun H locs hP hD hS => ?_)
                  have hP : va_P D vwCl (wv_d cI cJ cZ cM h_d a_d d_p d_r d_t d_slack d_m d_folds d_kinds d_declared w32.1 w32.2.1 d_lastValue w32.2.2.1 w32.2.2.2.1 w32.2.2.2.2 d_rows d_inRound d_rounds x33 v1.2.2.2.2.2.2.2 d_matches d_moved d_time d_out d_loads d_counterKey d_counterCount d_counterError d_smalls d_smallKey d_smallWeight d_timers d_timerKey d_timerTime d_logged d_logKey d_logTime d_logState d_marks d_markState d_markValue d_markHas d_markSmalls d_markSmallKey d_markSmallWeight d_markTimers d_markTimerKey d_markTimerTime d_markTime d_markRows d_markMatches d_markOut d_comes) H := hP
                  have hD : va_D A (wv_d cI cJ cZ cM h_d a_d d_p d_r d_t d_slack d_m d_folds d_kinds d_declared w32.1 w32.2.1 d_lastValue w32.2.2.1 w32.2.2.2.1 w32.2.2.2.2 d_rows d_inRound d_rounds x33 v1.2.2.2.2.2.2.2 d_matches d_moved d_time d_out d_loads d_counterKey d_counterCount d_counterError d_smalls d_smallKey d_smallWeight d_timers d_timerKey d_timerTime d_logged d_logKey d_logTime d_logState d_marks d_markState d_markValue d_markHas d_markSmalls d_markSmallKey d_markSmallWeight d_markTimers d_markTimerKey d_markTimerTime d_markTime d_markRows d_markMatches d_markOut d_comes) := hD
                  refine lv_goto (tgt := 117) hx hb dX8_endRound_104 (by decide) ?_
                  obtain ⟨x34, ex34⟩ : ∃ y : Int32, y = v1.1 + 1 := ⟨_, rfl⟩
                  have h := h x34 ex34
                  refine lv_iinc (v := x34) (lv' := [(1, .int x34), (3, .int x23), (2, .int x16), (0, .ref h_d)]) hx hb dX8_endRound_117 hl (k := 3) rfl (by rw [ex34]; rfl) (by decide) rfl (fun ls hl => ?_)
                  refine lv_goto (tgt := 2) hx hb dX8_endRound_120 (by decide) ?_
                  exact ih2 (x34, w32.1, w32.2.1, w32.2.2.1, w32.2.2.2.1, w32.2.2.2.2, x33, v1.2.2.2.2.2.2.2) H locs ls hP hD hS (lv_sub hl [3, 0] rfl) h
  obtain ⟨n, h⟩ := h
  exact P2 n (0, d_states, d_lastRow, d_hasValue, d_touched, d_parts, d_flips, d_passed) s.heap [] ls hP hD hS (lv_sub hl [1, 0] rfl) h
