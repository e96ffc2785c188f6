def wb_d_copies_34 (d_p : Int32) (d_parts : Nat → Int32) (d_smallKey : Nat → Int32) (p1 : Int32) (v3 : Int32 × Int32) (K23 : (Int32 × Int32) → Prop) (K34 : (Int32 × Int32) → Prop) (v5 : Int32 × Int32) : Prop := vp_in v3.2 60 ∧ (vp_in (d_smallKey v3.2.toNatClampNeg) 100 ∧ (((d_parts (d_smallKey v3.2.toNatClampNeg).toNatClampNeg) ≤ v5.2 → ∀ x7 : Int32, x7 = v3.2 + 1 → K23 (v5.1, x7)) ∧ (¬ (d_parts (d_smallKey v3.2.toNatClampNeg).toNatClampNeg) ≤ v5.2 → vp_in v3.2 60 ∧ (wp_d_placeOf (d_smallKey v3.2.toNatClampNeg) v5.2 d_p (fun (r8 : Int32) => (¬ r8 = p1 → ∀ x10 : Int32, x10 = v5.1 + 0 → ∀ x11 : Int32, x11 = v5.2 + 1 → K34 (x10, x11)) ∧ (r8 = p1 → ∀ x12 : Int32, x12 = v5.1 + 1 → ∀ x13 : Int32, x13 = v5.2 + 1 → K34 (x12, x13)))))))
def wb_d_copies_23 (d_p : Int32) (d_parts : Nat → Int32) (d_smalls : Int32) (d_smallKey : Nat → Int32) (p1 : Int32) (post : Int32 → Prop) (K23 : (Int32 × Int32) → Prop) (v3 : Int32 × Int32) : Prop := (d_smalls ≤ v3.2 → post v3.1) ∧ (¬ d_smalls ≤ v3.2 → ∃ n, hk_lp (wb_d_copies_34 d_p d_parts d_smallKey p1 v3 K23) n (v3.1, 0))
def wp_d_copies (p1 : Int32) (d_p : Int32) (d_parts : Nat → Int32) (d_smalls : Int32) (d_smallKey : Nat → Int32) (post : Int32 → Prop) : Prop := wp_d_in p1.toInt64 0 ((d_p - 1).toInt64) (fun (r1 : Int32) => (¬ r1 = 0 → ∃ n, hk_lp (wb_d_copies_23 d_p d_parts d_smalls d_smallKey p1 post) n (0, 0)) ∧ (r1 = 0 → post (-101)))
theorem mm_d_copies : hk_MV yX8_copies cX8_copies 5 (some .int) 1 := ⟨hw_1040, hw_1038, hw_1039, hw_87, by decide +kernel⟩
set_option maxRecDepth 100000 in
set_option maxHeartbeats 4000000 in
theorem c_d_copies (l : Launch) (D : va_G) (cI cJ cZ cM : ClassId) (h_d : Nat) (a_d : Nat → Nat)  (d_p : Int32) (d_r : Int32) (d_t : Int32) (d_slack : Int32) (d_m : Int32) (d_folds : Int32) (d_kinds : Nat → Int32) (d_declared : Nat → Int32) (d_states : Nat → Int64) (d_lastRow : Nat → Int32) (d_lastValue : Nat → Int32) (d_hasValue : Nat → Int32) (d_touched : Nat → Int32) (d_parts : Nat → Int32) (d_rows : Int32) (d_inRound : Int32) (d_rounds : Int32) (d_flips : Int32) (d_passed : Int32) (d_matches : Int32) (d_moved : Int32) (d_time : Int32) (d_out : Int64) (d_loads : Nat → Int32) (d_counterKey : Nat → Int32) (d_counterCount : Nat → Int32) (d_counterError : Nat → Int32) (d_smalls : Int32) (d_smallKey : Nat → Int32) (d_smallWeight : Nat → Int32) (d_timers : Int32) (d_timerKey : Nat → Int32) (d_timerTime : Nat → Int32) (d_logged : Int32) (d_logKey : Nat → Int32) (d_logTime : Nat → Int32) (d_logState : Nat → Int64) (d_marks : Int32) (d_markState : Nat → Int64) (d_markValue : Nat → Int32) (d_markHas : Nat → Int32) (d_markSmalls : Nat → Int32) (d_markSmallKey : Nat → Int32) (d_markSmallWeight : Nat → Int32) (d_markTimers : Nat → Int32) (d_markTimerKey : Nat → Int32) (d_markTimerTime : Nat → Int32) (d_markTime : Nat → Int32) (d_markRows : Nat → Int32) (d_markMatches : Nat → Int32) (d_markOut : Nat → Int64) (d_comes : Nat → Int64) (p1 : Int32) (post : Int32 → Prop) (h : wp_d_copies p1 d_p d_parts d_smalls d_smallKey post) : Met l yX8_copies (hk_ws yX8_copies cX8_copies 5 (some .int)) (hk_rm 2 43) (va_Pc [.ref h_d, .int p1] (hk_PR D (hk_ty cI cJ cZ cM) (wv_d cI cJ cZ cM h_d a_d d_p d_r d_t d_slack d_m d_folds d_kinds d_declared d_states d_lastRow d_lastValue d_hasValue d_touched d_parts d_rows d_inRound d_rounds d_flips d_passed d_matches d_moved d_time d_out d_loads d_counterKey d_counterCount d_counterError d_smalls d_smallKey d_smallWeight d_timers d_timerKey d_timerTime d_logged d_logKey d_logTime d_logState d_marks d_markState d_markValue d_markHas d_markSmalls d_markSmallKey d_markSmallWeight d_markTimers d_markTimerKey d_markTimerTime d_markTime d_markRows d_markMatches d_markOut d_comes))) (vp_Si post) 0 0 (fun _ => False) := by
  refine Met.ofW (cc := cX8_copies) (maxL := 5) (ret := (some .int)) (by decide) rfl ?_
  intro p e s m args below meth c s₁ B hml hv
  obtain ⟨rfl, hP, hK, hN⟩ := hv
  have hx := B.exec
  have hb := B.bytes
  have hr := B.returns
  have hts := atoms_spec (ws := hk_ws yX8_copies cX8_copies 5 (some .int)) B.pre
  have hta : ∀ w ∈ hk_all, w.before ([.ref h_d, .int p1] : List Value).toArray s = true := fun w hw => hts w (List.mem_cons_of_mem _ hw)
  have hown : s.vm.findClass RX8 = some m.cls := findClass_of_methodNamed B.named
  have hlocks := B.notSynchronized
  have S0 : CallFix p m c cX8_copies 5 s ([.ref h_d, .int p1] : List Value).toArray hk_all RX8 := ⟨hx, hb, hml, hown, hta⟩
  have hl := lv_entry ([.ref h_d, .int p1]) (n := 5) (Nat.le_of_ble_eq_true rfl)
  rw [lg_entry_eq]
  generalize (lg_sl ([.ref h_d, .int p1]) ++ List.replicate (5 - (lg_sl ([.ref h_d, .int p1])).length) Slot.unset).toArray = ls at hl ⊢
  have hl : lv_has ls 5 [(0, .ref h_d), (1, .int p1)] := hl
  unfold wp_d_copies at h
  refine lv_iload_n hx hb dX8_copies_0 rfl (lv_at hl 1 rfl) ?_
  refine lv_i2l (v := p1.toInt64) hx hb dX8_copies_1 rfl ?_
  refine lv_lconst (v := 0) hx hb dX8_copies_2 (by decide) ?_
  refine lv_aload_n hx hb dX8_copies_3 rfl (lv_at hl 0 rfl) ?_
  refine va_get (D := D) (ci := 8) (v := .int d_p) (C := RX8) (T := TX8) (N := 52) hx hb hta ih_X8 hown hK hP 0 rfl rfl 0 (by decide) (hta _ hw_746) (fun _ h9 => h9) rfl dX8_copies_4 ?_
  refine lv_iconst (v := 1) hx hb dX8_copies_7 (by decide) ?_
  refine lv_isub hx hb dX8_copies_8 ?_
  refine lv_i2l (v := (d_p - 1).toInt64) hx hb dX8_copies_9 rfl ?_
  refine vp_callSi (hk_runS (As := [.long p1.toInt64, .long 0, .long ((d_p - 1).toInt64)]) (rest := []) S0 mm_d_in (c_d_in l D cI cJ cZ cM p1.toInt64 0 ((d_p - 1).toInt64) _ h) hw_909 hk_blR (hk_atR (hP.sub (ws' := ([] : va_W)) [] rfl) hK hN) ⟨rfl, rfl, Nat.le_of_ble_eq_true rfl, Nat.le_of_ble_eq_true rfl⟩ rfl hl.1 rfl (Nat.le_of_ble_eq_true rfl) dX8_copies_10 ⟨Nat.le_of_ble_eq_true rfl, Nat.le_of_ble_eq_true rfl⟩).run (fun r1 h => ?_)
  refine lv_if_ne (tgt := 19) hx hb dX8_copies_13 (by decide) (fun c2 => ?_) (fun c2 => ?_)
  · have h := h.1 c2
    refine lv_iconst (v := 0) hx hb dX8_copies_19 (by decide) ?_
    refine lv_istore_n (lv' := [(2, .int 0), (0, .ref h_d), (1, .int p1)]) hx hb dX8_copies_20 rfl hl (by decide) rfl (fun ls hl => ?_)
    refine lv_iconst (v := 0) hx hb dX8_copies_21 (by decide) ?_
    refine lv_istore_n (lv' := [(3, .int 0), (2, .int 0), (0, .ref h_d), (1, .int p1)]) hx hb dX8_copies_22 rfl hl (by decide) rfl (fun ls hl => ?_)
    have P23 : ∀ (n : Nat) (v3 : Int32 × Int32) (ls : Array Slot), lv_has ls 5 [(0, .ref h_d), (1, .int p1), (2, .int v3.1), (3, .int v3.2)] → hk_lp (wb_d_copies_23 d_p d_parts d_smalls d_smallKey p1 post) n v3 → W p l e (headSpec (hk_ws yX8_copies cX8_copies 5 (some .int)) (hk_rm 2 43)).room s m ([.ref h_d, .int p1] : List Value).toArray below meth c s.heap [] 0 0 (MQ below (vp_Si post) ([.ref h_d, .int p1] : List Value).toArray s 0 0 (fun _ => False)) (F0 m 23 ls []) := by
      intro n
      induction n with
      | zero => intro v3 ls hl h; exact False.elim h
      | succ n ih23 =>
        intro v3 ls hl h
        have h : wb_d_copies_23 d_p d_parts d_smalls d_smallKey p1 post (hk_lp (wb_d_copies_23 d_p d_parts d_smalls d_smallKey p1 post) n) v3 := h
        generalize hk_lp (wb_d_copies_23 d_p d_parts d_smalls d_smallKey p1 post) n = K23 at h ih23
        unfold wb_d_copies_23 at h
        refine lv_iload_n hx hb dX8_copies_23 rfl (lv_at hl 3 rfl) ?_
        refine lv_aload_n hx hb dX8_copies_24 rfl (lv_at hl 0 rfl) ?_
        refine va_get (D := D) (ci := 8) (v := .int d_smalls) (C := RX8) (T := TX8) (N := 52) hx hb hta ih_X8 hown hK hP 0 rfl rfl 27 (by decide) (hta _ hw_773) (fun _ h9 => h9) rfl dX8_copies_25 ?_
        refine lv_icmp_ge (tgt := 86) hx hb dX8_copies_28 (by decide) (fun c4 => ?_) (fun c4 => ?_)
        · have h := h.1 c4
          refine lv_iload_n hx hb dX8_copies_86 rfl (lv_at hl 2 rfl) ?_
          exact W.iret (v := v3.1) hx hb hr (fun t ht hW => ⟨_, rfl, h, ht⟩) (fun _ hq => by cases hq) dX8_copies_87
        · have h := h.2 c4
          refine lv_iconst (v := 0) hx hb dX8_copies_31 (by decide) ?_
          refine lv_istore (lv' := [(4, .int 0), (0, .ref h_d), (1, .int p1), (2, .int v3.1), (3, .int v3.2)]) hx hb dX8_copies_32 hl (by decide) rfl (fun ls hl => ?_)
          have P34 : ∀ (n : Nat) (v5 : Int32 × Int32) (ls : Array Slot), lv_has ls 5 [(0, .ref h_d), (1, .int p1), (2, .int v5.1), (3, .int v3.2), (4, .int v5.2)] → hk_lp (wb_d_copies_34 d_p d_parts d_smallKey p1 v3 K23) n v5 → W p l e (headSpec (hk_ws yX8_copies cX8_copies 5 (some .int)) (hk_rm 2 43)).room s m ([.ref h_d, .int p1] : List Value).toArray below meth c s.heap [] 0 0 (MQ below (vp_Si post) ([.ref h_d, .int p1] : List Value).toArray s 0 0 (fun _ => False)) (F0 m 34 ls []) := by
            intro n
            induction n with
            | zero => intro v5 ls hl h; exact False.elim h
            | succ n ih34 =>
              intro v5 ls hl h
              have h : wb_d_copies_34 d_p d_parts d_smallKey p1 v3 K23 (hk_lp (wb_d_copies_34 d_p d_parts d_smallKey p1 v3 K23) n) v5 := h
              generalize hk_lp (wb_d_copies_34 d_p d_parts d_smallKey p1 v3 K23) n = K34 at h ih34
              unfold wb_d_copies_34 at h
              refine lv_iload hx hb dX8_copies_34 (lv_at hl 4 rfl) ?_
              refine lv_aload_n hx hb dX8_copies_36 rfl (lv_at hl 0 rfl) ?_
              refine va_get (D := D) (ci := 8) (v := .ref (a_d 13)) (C := RX8) (T := TX8) (N := 52) hx hb hta ih_X8 hown hK hP 0 rfl rfl 13 (by decide) (hta _ hw_759) (fun _ h9 => h9) rfl dX8_copies_37 ?_
              refine lv_aload_n hx hb dX8_copies_40 rfl (lv_at hl 0 rfl) ?_
              refine va_get (D := D) (ci := 8) (v := .ref (a_d 28)) (C := RX8) (T := TX8) (N := 52) hx hb hta ih_X8 hown hK hP 0 rfl rfl 28 (by decide) (hta _ hw_774) (fun _ h9 => h9) rfl dX8_copies_41 ?_
              refine lv_iload_n hx hb dX8_copies_44 rfl (lv_at hl 3 rfl) ?_
              refine va_iald hx hb hK hP 13 0 rfl rfl h.1 dX8_copies_45 ?_
              have h := h.2
              refine va_iald hx hb hK hP 8 0 rfl rfl h.1 dX8_copies_46 ?_
              have h := h.2
              refine lv_icmp_ge (tgt := 80) hx hb dX8_copies_47 (by decide) (fun c6 => ?_) (fun c6 => ?_)
              · have h := h.1 c6
                obtain ⟨x7, ex7⟩ : ∃ y : Int32, y = v3.2 + 1 := ⟨_, rfl⟩
                have h := h x7 ex7
                refine lv_iinc (v := x7) (lv' := [(3, .int x7), (0, .ref h_d), (1, .int p1), (2, .int v5.1), (4, .int v5.2)]) hx hb dX8_copies_80 hl (k := 3) rfl (by rw [ex7]; rfl) (by decide) rfl (fun ls hl => ?_)
                refine lv_goto (tgt := 23) hx hb dX8_copies_83 (by decide) ?_
                exact ih23 (v5.1, x7) ls (lv_sub hl [1, 2, 3, 0] rfl) h
              · have h := h.2 c6
                refine lv_iload_n hx hb dX8_copies_50 rfl (lv_at hl 2 rfl) ?_
                refine lv_aload_n hx hb dX8_copies_51 rfl (lv_at hl 0 rfl) ?_
                refine lv_aload_n hx hb dX8_copies_52 rfl (lv_at hl 0 rfl) ?_
                refine va_get (D := D) (ci := 8) (v := .ref (a_d 28)) (C := RX8) (T := TX8) (N := 52) hx hb hta ih_X8 hown hK hP 0 rfl rfl 28 (by decide) (hta _ hw_774) (fun _ h9 => h9) rfl dX8_copies_53 ?_
                refine lv_iload_n hx hb dX8_copies_56 rfl (lv_at hl 3 rfl) ?_
                refine va_iald hx hb hK hP 13 0 rfl rfl h.1 dX8_copies_57 ?_
                have h := h.2
                refine lv_iload hx hb dX8_copies_58 (lv_at hl 4 rfl) ?_
                refine vp_callSi (hk_runV (As := [.int (d_smallKey v3.2.toNatClampNeg), .int v5.2]) (rest := [.int v5.1]) S0 mm_d_placeOf (c_d_placeOf l D cI cJ cZ cM h_d a_d d_p d_r d_t d_slack d_m d_folds d_kinds d_declared d_states d_lastRow d_lastValue d_hasValue d_touched d_parts d_rows d_inRound d_rounds d_flips d_passed d_matches d_moved d_time d_out d_loads d_counterKey d_counterCount d_counterError d_smalls d_smallKey d_smallWeight d_timers d_timerKey d_timerTime d_logged d_logKey d_logTime d_logState d_marks d_markState d_markValue d_markHas d_markSmalls d_markSmallKey d_markSmallWeight d_markTimers d_markTimerKey d_markTimerTime d_markTime d_markRows d_markMatches d_markOut d_comes (d_smallKey v3.2.toNatClampNeg) v5.2 _ h) hw_942 hk_blR (hk_atR hP hK hN) (va_recv hK hP (ci := 8) (q0 := 0) rfl rfl) ⟨rfl, rfl, Nat.le_of_ble_eq_true rfl, Nat.le_of_ble_eq_true rfl⟩ rfl hl.1 rfl (Nat.le_of_ble_eq_true rfl) dX8_copies_60 ⟨Nat.le_of_ble_eq_true rfl, Nat.le_of_ble_eq_true rfl⟩).run (fun r8 h => ?_)
                refine lv_iload_n hx hb dX8_copies_63 rfl (lv_at hl 1 rfl) ?_
                refine lv_icmp_ne (tgt := 71) hx hb dX8_copies_64 (by decide) (fun c9 => ?_) (fun c9 => ?_)
                · have h := h.1 c9
                  refine lv_iconst (v := 0) hx hb dX8_copies_71 (by decide) ?_
                  refine lv_iadd hx hb dX8_copies_72 ?_
                  refine lv_topi (fun x10 ex10 => ?_)
                  have h := h x10 ex10
                  refine lv_istore_n (lv' := [(2, .int x10), (0, .ref h_d), (1, .int p1), (3, .int v3.2), (4, .int v5.2)]) hx hb dX8_copies_73 rfl hl (by decide) rfl (fun ls hl => ?_)
                  obtain ⟨x11, ex11⟩ : ∃ y : Int32, y = v5.2 + 1 := ⟨_, rfl⟩
                  have h := h x11 ex11
                  refine lv_iinc (v := x11) (lv' := [(4, .int x11), (2, .int x10), (0, .ref h_d), (1, .int p1), (3, .int v3.2)]) hx hb dX8_copies_74 hl (k := 4) rfl (by rw [ex11]; rfl) (by decide) rfl (fun ls hl => ?_)
                  refine lv_goto (tgt := 34) hx hb dX8_copies_77 (by decide) ?_
                  exact ih34 (x10, x11) ls (lv_sub hl [2, 3, 1, 4, 0] rfl) h
                · have h := h.2 c9
                  refine lv_iconst (v := 1) hx hb dX8_copies_67 (by decide) ?_
                  refine lv_goto (tgt := 72) hx hb dX8_copies_68 (by decide) ?_
                  refine lv_iadd hx hb dX8_copies_72 ?_
                  refine lv_topi (fun x12 ex12 => ?_)
                  have h := h x12 ex12
                  refine lv_istore_n (lv' := [(2, .int x12), (0, .ref h_d), (1, .int p1), (3, .int v3.2), (4, .int v5.2)]) hx hb dX8_copies_73 rfl hl (by decide) rfl (fun ls hl => ?_)
                  obtain ⟨x13, ex13⟩ : ∃ y : Int32, y = v5.2 + 1 := ⟨_, rfl⟩
                  have h := h x13 ex13
                  refine lv_iinc (v := x13) (lv' := [(4, .int x13), (2, .int x12), (0, .ref h_d), (1, .int p1), (3, .int v3.2)]) hx hb dX8_copies_74 hl (k := 4) rfl (by rw [ex13]; rfl) (by decide) rfl (fun ls hl => ?_)
                  refine lv_goto (tgt := 34) hx hb dX8_copies_77 (by decide) ?_
                  exact ih34 (x12, x13) ls (lv_sub hl [2, 3, 1, 4, 0] rfl) h
          obtain ⟨n, h⟩ := h
          exact P34 n (v3.1, 0) ls (lv_sub hl [1, 2, 3, 4, 0] rfl) h
    obtain ⟨n, h⟩ := h
    exact P23 n (0, 0) ls (lv_sub hl [2, 3, 1, 0] rfl) h
  · have h := h.2 c2
    refine lv_bipush (v := (-101)) hx hb dX8_copies_16 (by decide) ?_
    exact W.iret (v := (-101)) hx hb hr (fun t ht hW => ⟨_, rfl, h, ht⟩) (fun _ hq => by cases hq) dX8_copies_18
def wp_d_out  (d_out : Int64) (post : Int64 → Prop) : Prop := post d_out
theorem mm_d_out : hk_MV yX8_out cX8_out 1 (some .long) 0 := ⟨hw_1044, hw_1042, hw_1043, hw_87, by decide +kernel⟩
set_option maxRecDepth 100000 in
set_option maxHeartbeats 4000000 in
theorem c_d_out (l : Launch) (D : va_G) (cI cJ cZ cM : ClassId) (h_d : Nat) (a_d : Nat → Nat)  (d_p : Int32) (d_r : Int32) (d_t : Int32) (d_slack : Int32) (d_m : Int32) (d_folds : Int32) (d_kinds : Nat → Int32) (d_declared : Nat → Int32) (d_states : Nat → Int64) (d_lastRow : Nat → Int32) (d_lastValue : Nat → Int32) (d_hasValue : Nat → Int32) (d_touched : Nat → Int32) (d_parts : Nat → Int32) (d_rows : Int32) (d_inRound : Int32) (d_rounds : Int32) (d_flips : Int32) (d_passed : Int32) (d_matches : Int32) (d_moved : Int32) (d_time : Int32) (d_out : Int64) (d_loads : Nat → Int32) (d_counterKey : Nat → Int32) (d_counterCount : Nat → Int32) (d_counterError : Nat → Int32) (d_smalls : Int32) (d_smallKey : Nat → Int32) (d_smallWeight : Nat → Int32) (d_timers : Int32) (d_timerKey : Nat → Int32) (d_timerTime : Nat → Int32) (d_logged : Int32) (d_logKey : Nat → Int32) (d_logTime : Nat → Int32) (d_logState : Nat → Int64) (d_marks : Int32) (d_markState : Nat → Int64) (d_markValue : Nat → Int32) (d_markHas : Nat → Int32) (d_markSmalls : Nat → Int32) (d_markSmallKey : Nat → Int32) (d_markSmallWeight : Nat → Int32) (d_markTimers : Nat → Int32) (d_markTimerKey : Nat → Int32) (d_markTimerTime : Nat → Int32) (d_markTime : Nat → Int32) (d_markRows : Nat → Int32) (d_markMatches : Nat → Int32) (d_markOut : Nat → Int64) (d_comes : Nat → Int64)  (post : Int64 → Prop) (h : wp_d_out d_out post) : Met l yX8_out (hk_ws yX8_out cX8_out 1 (some .long)) (hk_rm 0 0) (va_Pc [.ref h_d] (hk_PR D (hk_ty cI cJ cZ cM) (wv_d cI cJ cZ cM h_d a_d d_p d_r d_t d_slack d_m d_folds d_kinds d_declared d_states d_lastRow d_lastValue d_hasValue d_touched d_parts d_rows d_inRound d_rounds d_flips d_passed d_matches d_moved d_time d_out d_loads d_counterKey d_counterCount d_counterError d_smalls d_smallKey d_smallWeight d_timers d_timerKey d_timerTime d_logged d_logKey d_logTime d_logState d_marks d_markState d_markValue d_markHas d_markSmalls d_markSmallKey d_markSmallWeight d_markTimers d_markTimerKey d_markTimerTime d_markTime d_markRows d_markMatches d_markOut d_comes))) (vp_Sl post) 0 0 (fun _ => False) := by
  refine Met.ofW (cc := cX8_out) (maxL := 1) (ret := (some .long)) (by decide) rfl ?_
  intro p e s m args below meth c s₁ B hml hv
  obtain ⟨rfl, hP, hK, hN⟩ := hv
  have hx := B.exec
  have hb := B.bytes
  have hr := B.returns
  have hts := atoms_spec (ws := hk_ws yX8_out cX8_out 1 (some .long)) B.pre
  have hta : ∀ w ∈ hk_all, w.before ([.ref h_d] : List Value).toArray s = true := fun w hw => hts w (List.mem_cons_of_mem _ hw)
  have hown : s.vm.findClass RX8 = some m.cls := findClass_of_methodNamed B.named
  have hlocks := B.notSynchronized
  have S0 : CallFix p m c cX8_out 1 s ([.ref h_d] : List Value).toArray hk_all RX8 := ⟨hx, hb, hml, hown, hta⟩
  have hl := lv_entry ([.ref h_d]) (n := 1) (Nat.le_of_ble_eq_true rfl)
  rw [lg_entry_eq]
  generalize (lg_sl ([.ref h_d]) ++ List.replicate (1 - (lg_sl ([.ref h_d])).length) Slot.unset).toArray = ls at hl ⊢
  have hl : lv_has ls 1 [(0, .ref h_d)] := hl
  unfold wp_d_out at h
  refine lv_aload_n hx hb dX8_out_0 rfl (lv_at hl 0 rfl) ?_
  refine va_get (D := D) (ci := 8) (v := .long d_out) (C := RX8) (T := TX8) (N := 52) hx hb hta ih_X8 hown hK hP 0 rfl rfl 22 (by decide) (hta _ hw_768) (fun _ h9 => h9) rfl dX8_out_1 ?_
  exact W.lret (v := d_out) hx hb hr (fun t ht hW => ⟨_, rfl, h, ht⟩) (fun _ hq => by cases hq) dX8_out_4
def wp_d_timer (p1 : Int32) (p2 : Int32) (d_time : Int32) (d_timers : Int32) (d_timerKey : Nat → Int32) (d_timerTime : Nat → Int32) (post : Int32 → (Int32 × (Nat → Int32) × (Nat → Int32)) → Prop) : Prop := wp_d_noKey p1 (fun (r1 : Int32) => (r1 = 0 → (p2 ≤ d_time → post (-102) (d_timers, d_timerKey, d_timerTime)) ∧ (¬ p2 ≤ d_time → (p2 ≤ 1000000 → (¬ d_timers = 40 → vp_in d_timers 40 ∧ (vp_in d_timers 40 ∧ (∀ x6 : Int32, x6 = d_timers + 1 → post x6 (x6, upd d_timerKey d_timers.toNatClampNeg p1, upd d_timerTime d_timers.toNatClampNeg p2)))) ∧ (d_timers = 40 → post (-104) (d_timers, d_timerKey, d_timerTime))) ∧ (¬ p2 ≤ 1000000 → post (-102) (d_timers, d_timerKey, d_timerTime)))) ∧ (¬ r1 = 0 → post (-101) (d_timers, d_timerKey, d_timerTime)))
theorem mm_d_timer : hk_MV yX8_timer cX8_timer 3 (some .int) 2 := ⟨hw_1048, hw_1046, hw_1047, hw_87, by decide +kernel⟩
set_option maxRecDepth 100000 in
set_option maxHeartbeats 4000000 in
theorem c_d_timer (l : Launch) (D : va_G) (cI cJ cZ cM : ClassId) (h_d : Nat) (a_d : Nat → Nat) (sz : Nat) (d_p : Int32) (d_r : Int32) (d_t : Int32) (d_slack : Int32) (d_m : Int32) (d_folds : Int32) (d_kinds : Nat → Int32) (d_declared : Nat → Int32) (d_states : Nat → Int64) (d_lastRow : Nat → Int32) (d_lastValue : Nat → Int32) (d_hasValue : Nat → Int32) (d_touched : Nat → Int32) (d_parts : Nat → Int32) (d_rows : Int32) (d_inRound : Int32) (d_rounds : Int32) (d_flips : Int32) (d_passed : Int32) (d_matches : Int32) (d_moved : Int32) (d_time : Int32) (d_out : Int64) (d_loads : Nat → Int32) (d_counterKey : Nat → Int32) (d_counterCount : Nat → Int32) (d_counterError : Nat → Int32) (d_smalls : Int32) (d_smallKey : Nat → Int32) (d_smallWeight : Nat → Int32) (d_timers : Int32) (d_timerKey : Nat → Int32) (d_timerTime : Nat → Int32) (d_logged : Int32) (d_logKey : Nat → Int32) (d_logTime : Nat → Int32) (d_logState : Nat → Int64) (d_marks : Int32) (d_markState : Nat → Int64) (d_markValue : Nat → Int32) (d_markHas : Nat → Int32) (d_markSmalls : Nat → Int32) (d_markSmallKey : Nat → Int32) (d_markSmallWeight : Nat → Int32) (d_markTimers : Nat → Int32) (d_markTimerKey : Nat → Int32) (d_markTimerTime : Nat → Int32) (d_markTime : Nat → Int32) (d_markRows : Nat → Int32) (d_markMatches : Nat → Int32) (d_markOut : Nat → Int64) (d_comes : Nat → Int64) (p1 : Int32) (p2 : Int32) (post : Int32 → (Int32 × (Nat → Int32) × (Nat → Int32)) → Prop) (h : wp_d_timer p1 p2 d_time d_timers d_timerKey d_timerTime post) : Met l yX8_timer (hk_ws yX8_timer cX8_timer 3 (some .int)) (hk_rm 2 46) (va_Pc [.ref h_d, .int p1, .int p2] (hk_PM D (hk_ty cI cJ cZ cM) sz (wv_d cI cJ cZ cM h_d a_d d_p d_r d_t d_slack d_m d_folds d_kinds d_declared d_states d_lastRow d_lastValue d_hasValue d_touched d_parts d_rows d_inRound d_rounds d_flips d_passed d_matches d_moved d_time d_out d_loads d_counterKey d_counterCount d_counterError d_smalls d_smallKey d_smallWeight d_timers d_timerKey d_timerTime d_logged d_logKey d_logTime d_logState d_marks d_markState d_markValue d_markHas d_markSmalls d_markSmallKey d_markSmallWeight d_markTimers d_markTimerKey d_markTimerTime d_markTime d_markRows d_markMatches d_markOut d_comes))) (va_Qi post (hk_B D (va_A (wv_d cI cJ cZ cM h_d a_d d_p d_r d_t d_slack d_m d_folds d_kinds d_declared d_states d_lastRow d_lastValue d_hasValue d_touched d_parts d_rows d_inRound d_rounds d_flips d_passed d_matches d_moved d_time d_out d_loads d_counterKey d_counterCount d_counterError d_smalls d_smallKey d_smallWeight d_timers d_timerKey d_timerTime d_logged d_logKey d_logTime d_logState d_marks d_markState d_markValue d_markHas d_markSmalls d_markSmallKey d_markSmallWeight d_markTimers d_markTimerKey d_markTimerTime d_markTime d_markRows d_markMatches d_markOut d_comes) sz) (fun (u : Int32 × (Nat → Int32) × (Nat → Int32)) => wv_d cI cJ cZ cM h_d a_d d_p d_r d_t d_slack d_m d_folds d_kinds d_declared d_states d_lastRow d_lastValue d_hasValue d_touched d_parts d_rows d_inRound d_rounds d_flips d_passed d_matches d_moved d_time d_out d_loads d_counterKey d_counterCount d_counterError d_smalls d_smallKey d_smallWeight u.1 u.2.1 u.2.2 d_logged d_logKey d_logTime d_logState d_marks d_markState d_markValue d_markHas d_markSmalls d_markSmallKey d_markSmallWeight d_markTimers d_markTimerKey d_markTimerTime d_markTime d_markRows d_markMatches d_markOut d_comes)) (va_A (wv_d cI cJ cZ cM h_d a_d d_p d_r d_t d_slack d_m d_folds d_kinds d_declared d_states d_lastRow d_lastValue d_hasValue d_touched d_parts d_rows d_inRound d_rounds d_flips d_passed d_matches d_moved d_time d_out d_loads d_counterKey d_counterCount d_counterError d_smalls d_smallKey d_smallWeight d_timers d_timerKey d_timerTime d_logged d_logKey d_logTime d_logState d_marks d_markState d_markValue d_markHas d_markSmalls d_markSmallKey d_markSmallWeight d_markTimers d_markTimerKey d_markTimerTime d_markTime d_markRows d_markMatches d_markOut d_comes) sz)) 0 0 (va_A (wv_d cI cJ cZ cM h_d a_d d_p d_r d_t d_slack d_m d_folds d_kinds d_declared d_states d_lastRow d_lastValue d_hasValue d_touched d_parts d_rows d_inRound d_rounds d_flips d_passed d_matches d_moved d_time d_out d_loads d_counterKey d_counterCount d_counterError d_smalls d_smallKey d_smallWeight d_timers d_timerKey d_timerTime d_logged d_logKey d_logTime d_logState d_marks d_markState d_markValue d_markHas d_markSmalls d_markSmallKey d_markSmallWeight d_markTimers d_markTimerKey d_markTimerTime d_markTime d_markRows d_markMatches d_markOut d_comes) sz) := by
  refine Met.ofW (cc := cX8_timer) (maxL := 3) (ret := (some .int)) (by decide) rfl ?_
  intro p e s m args below meth c s₁ B hml hv
  obtain ⟨rfl, hsz, hP, hK, hD0, hN⟩ := hv
  have hx := B.exec
  have hb := B.bytes
  have hr := B.returns
  have hts := atoms_spec (ws := hk_ws yX8_timer cX8_timer 3 (some .int)) B.pre
  have hta : ∀ w ∈ hk_all, w.before ([.ref h_d, .int p1, .int p2] : List Value).toArray s = true := fun w hw => hts w (List.mem_cons_of_mem _ hw)
  have hown : s.vm.findClass RX8 = some m.cls := findClass_of_methodNamed B.named
  have hlocks := B.notSynchronized
  have S0 : CallFix p m c cX8_timer 3 s ([.ref h_d, .int p1, .int p2] : List Value).toArray hk_all RX8 := ⟨hx, hb, hml, hown, hta⟩
  subst hsz
  have hD := hD0.self (sz := s.heap.size)
  generalize hAe : va_A (wv_d cI cJ cZ cM h_d a_d d_p d_r d_t d_slack d_m d_folds d_kinds d_declared d_states d_lastRow d_lastValue d_hasValue d_touched d_parts d_rows d_inRound d_rounds d_flips d_passed d_matches d_moved d_time d_out d_loads d_counterKey d_counterCount d_counterError d_smalls d_smallKey d_smallWeight d_timers d_timerKey d_timerTime d_logged d_logKey d_logTime d_logState d_marks d_markState d_markValue d_markHas d_markSmalls d_markSmallKey d_markSmallWeight d_markTimers d_markTimerKey d_markTimerTime d_markTime d_markRows d_markMatches d_markOut d_comes) s.heap.size = A at hD ⊢
  have hA : ∀ q : Nat, s.heap.size ≤ q → A q := fun q h => by rw [← hAe]; exact Or.inr h
  have hS : va_S A s.heap s.heap [] := va_S.rf
  have hl := lv_entry ([.ref h_d, .int p1, .int p2]) (n := 3) (Nat.le_of_ble_eq_true rfl)
  rw [lg_entry_eq]
  generalize (lg_sl ([.ref h_d, .int p1, .int p2]) ++ List.replicate (3 - (lg_sl ([.ref h_d, .int p1, .int p2])).length) Slot.unset).toArray = ls at hl ⊢
  have hl : lv_has ls 3 [(0, .ref h_d), (1, .int p1), (2, .int p2)] := hl
  unfold wp_d_timer at h
  refine lv_aload_n hx hb dX8_timer_0 rfl (lv_at hl 0 rfl) ?_
  refine lv_iload_n hx hb dX8_timer_1 rfl (lv_at hl 1 rfl) ?_
  refine vp_callSi (hk_runV (As := [.int p1]) (rest := []) S0 mm_d_noKey (c_d_noKey l D cI cJ cZ cM h_d a_d d_p d_r d_t d_slack d_m d_folds d_kinds d_declared d_states d_lastRow d_lastValue d_hasValue d_touched d_parts d_rows d_inRound d_rounds d_flips d_passed d_matches d_moved d_time d_out d_loads d_counterKey d_counterCount d_counterError d_smalls d_smallKey d_smallWeight d_timers d_timerKey d_timerTime d_logged d_logKey d_logTime d_logState d_marks d_markState d_markValue d_markHas d_markSmalls d_markSmallKey d_markSmallWeight d_markTimers d_markTimerKey d_markTimerTime d_markTime d_markRows d_markMatches d_markOut d_comes p1 _ h) hw_926 hk_blR (hk_atR hP hK hN) (va_recv hK hP (ci := 8) (q0 := 0) rfl rfl) ⟨rfl, rfl, Nat.le_of_ble_eq_true rfl, Nat.le_of_ble_eq_true rfl⟩ rfl hl.1 rfl (Nat.le_of_ble_eq_true rfl) dX8_timer_2 ⟨Nat.le_of_ble_eq_true rfl, Nat.le_of_ble_eq_true rfl⟩).run (fun r1 h => ?_)
  refine lv_if_eq (tgt := 11) hx hb dX8_timer_5 (by decide) (fun c2 => ?_) (fun c2 => ?_)
  · have h := h.1 c2
    refine lv_iload_n hx hb dX8_timer_11 rfl (lv_at hl 2 rfl) ?_
    refine lv_aload_n hx hb dX8_timer_12 rfl (lv_at hl 0 rfl) ?_
    refine va_get (D := D) (ci := 8) (v := .int d_time) (C := RX8) (T := TX8) (N := 52) hx hb hta ih_X8 hown hK hP 0 rfl rfl 21 (by decide) (hta _ hw_767) (fun _ h9 => h9) rfl dX8_timer_13 ?_
    refine lv_icmp_le (tgt := 26) hx hb dX8_timer_16 (by decide) (fun c3 => ?_) (fun c3 => ?_)
    · have h := h.1 c3
      refine lv_bipush (v := (-102)) hx hb dX8_timer_26 (by decide) ?_
      exact W.iret (v := (-102)) hx hb hr (fun t ht hW => ⟨⟨(-102), (d_timers, d_timerKey, d_timerTime), rfl, h, by rw [ht]; exact hP, hD⟩, hS.F ht⟩) hS.2.2 dX8_timer_28
    · have h := h.2 c3
      refine lv_iload_n hx hb dX8_timer_19 rfl (lv_at hl 2 rfl) ?_
      refine lv_ldcw (v := 1000000) hx hb hown (hta _ hw_1049) dX8_timer_20 ?_
      refine lv_icmp_le (tgt := 29) hx hb dX8_timer_23 (by decide) (fun c4 => ?_) (fun c4 => ?_)
      · have h := h.1 c4
        refine lv_aload_n hx hb dX8_timer_29 rfl (lv_at hl 0 rfl) ?_
        refine va_get (D := D) (ci := 8) (v := .int d_timers) (C := RX8) (T := TX8) (N := 52) hx hb hta ih_X8 hown hK hP 0 rfl rfl 30 (by decide) (hta _ hw_776) (fun _ h9 => h9) rfl dX8_timer_30 ?_
        refine lv_bipush (v := 40) hx hb dX8_timer_33 (by decide) ?_
        refine lv_icmp_ne (tgt := 41) hx hb dX8_timer_35 (by decide) (fun c5 => ?_) (fun c5 => ?_)
        · have h := h.1 c5
          refine lv_aload_n hx hb dX8_timer_41 rfl (lv_at hl 0 rfl) ?_
          refine va_get (D := D) (ci := 8) (v := .ref (a_d 31)) (C := RX8) (T := TX8) (N := 52) hx hb hta ih_X8 hown hK hP 0 rfl rfl 31 (by decide) (hta _ hw_777) (fun _ h9 => h9) rfl dX8_timer_42 ?_
          refine lv_aload_n hx hb dX8_timer_45 rfl (lv_at hl 0 rfl) ?_
          refine va_get (D := D) (ci := 8) (v := .int d_timers) (C := RX8) (T := TX8) (N := 52) hx hb hta ih_X8 hown hK hP 0 rfl rfl 30 (by decide) (hta _ hw_776) (fun _ h9 => h9) rfl dX8_timer_46 ?_
          refine lv_iload_n hx hb dX8_timer_49 rfl (lv_at hl 1 rfl) ?_
          refine va_iast hx hb hK hP hD hS 15 0 rfl rfl h.1 dX8_timer_50 (fun H locs hP hD hS => ?_)
          have h := h.2
          have hP : va_P D vwCl (wv_d cI cJ cZ cM h_d a_d d_p d_r d_t d_slack d_m d_folds d_kinds d_declared d_states d_lastRow d_lastValue d_hasValue d_touched d_parts d_rows d_inRound d_rounds d_flips d_passed d_matches d_moved d_time d_out d_loads d_counterKey d_counterCount d_counterError d_smalls d_smallKey d_smallWeight d_timers (upd d_timerKey d_timers.toNatClampNeg p1) d_timerTime d_logged d_logKey d_logTime d_logState d_marks d_markState d_markValue d_markHas d_markSmalls d_markSmallKey d_markSmallWeight d_markTimers d_markTimerKey d_markTimerTime d_markTime d_markRows d_markMatches d_markOut d_comes) H := hP
          have hD : va_D A (wv_d cI cJ cZ cM h_d a_d d_p d_r d_t d_slack d_m d_folds d_kinds d_declared d_states d_lastRow d_lastValue d_hasValue d_touched d_parts d_rows d_inRound d_rounds d_flips d_passed d_matches d_moved d_time d_out d_loads d_counterKey d_counterCount d_counterError d_smalls d_smallKey d_smallWeight d_timers (upd d_timerKey d_timers.toNatClampNeg p1) d_timerTime d_logged d_logKey d_logTime d_logState d_marks d_markState d_markValue d_markHas d_markSmalls d_markSmallKey d_markSmallWeight d_markTimers d_markTimerKey d_markTimerTime d_markTime d_markRows d_markMatches d_markOut d_comes) := hD
          refine lv_aload_n hx hb dX8_timer_51 rfl (lv_at hl 0 rfl) ?_
          refine va_get (D := D) (ci := 8) (v := .ref (a_d 32)) (C := RX8) (T := TX8) (N := 52) hx hb hta ih_X8 hown hK hP 0 rfl rfl 32 (by decide) (hta _ hw_778) (fun _ h9 => h9) rfl dX8_timer_52 ?_
          refine lv_aload_n hx hb dX8_timer_55 rfl (lv_at hl 0 rfl) ?_
          refine va_get (D := D) (ci := 8) (v := .int d_timers) (C := RX8) (T := TX8) (N := 52) hx hb hta ih_X8 hown hK hP 0 rfl rfl 30 (by decide) (hta _ hw_776) (fun _ h9 => h9) rfl dX8_timer_56 ?_
          refine lv_iload_n hx hb dX8_timer_59 rfl (lv_at hl 2 rfl) ?_
          refine va_iast hx hb hK hP hD hS 16 0 rfl rfl h.1 dX8_timer_60 (fun H locs hP hD hS => ?_)
          have h := h.2
          have hP : va_P D vwCl (wv_d cI cJ cZ cM h_d a_d d_p d_r d_t d_slack d_m d_folds d_kinds d_declared d_states d_lastRow d_lastValue d_hasValue d_touched d_parts d_rows d_inRound d_rounds d_flips d_passed d_matches d_moved d_time d_out d_loads d_counterKey d_counterCount d_counterError d_smalls d_smallKey d_smallWeight d_timers (upd d_timerKey d_timers.toNatClampNeg p1) (upd d_timerTime d_timers.toNatClampNeg p2) d_logged d_logKey d_logTime d_logState d_marks d_markState d_markValue d_markHas d_markSmalls d_markSmallKey d_markSmallWeight d_markTimers d_markTimerKey d_markTimerTime d_markTime d_markRows d_markMatches d_markOut d_comes) H := hP
          have hD : va_D A (wv_d cI cJ cZ cM h_d a_d d_p d_r d_t d_slack d_m d_folds d_kinds d_declared d_states d_lastRow d_lastValue d_hasValue d_touched d_parts d_rows d_inRound d_rounds d_flips d_passed d_matches d_moved d_time d_out d_loads d_counterKey d_counterCount d_counterError d_smalls d_smallKey d_smallWeight d_timers (upd d_timerKey d_timers.toNatClampNeg p1) (upd d_timerTime d_timers.toNatClampNeg p2) d_logged d_logKey d_logTime d_logState d_marks d_markState d_markValue d_markHas d_markSmalls d_markSmallKey d_markSmallWeight d_markTimers d_markTimerKey d_markTimerTime d_markTime d_markRows d_markMatches d_markOut d_comes) := hD
          refine lv_aload_n hx hb dX8_timer_61 rfl (lv_at hl 0 rfl) ?_
          refine lv_dup hx hb dX8_timer_62 rfl ?_
          refine va_get (D := D) (ci := 8) (v := .int d_timers) (C := RX8) (T := TX8) (N := 52) hx hb hta ih_X8 hown hK hP 0 rfl rfl 30 (by decide) (hta _ hw_776) (fun _ h9 => h9) rfl dX8_timer_63 ?_
          refine lv_iconst (v := 1) hx hb dX8_timer_66 (by decide) ?_
          refine lv_iadd hx hb dX8_timer_67 ?_
          refine lv_topi (fun x6 ex6 => ?_)
          have h := h x6 ex6
          refine va_put (D := D) (ci := 8) (v := .int x6) (ty := .int) (C := RX8) (T := TX8) (N := 52) hx hb hta ih_X8 tyX8 tyX8_ok nmX8 hown hK hP hD hS 0 rfl rfl 30 (by decide) (hta _ hw_776) (fun _ h9 => h9) rfl (by decide +kernel) rfl rfl (Nat.le_of_ble_eq_true rfl) dX8_timer_68 (fun H locs hP hD hS => ?_)
          have hP : va_P D vwCl (wv_d cI cJ cZ cM h_d a_d d_p d_r d_t d_slack d_m d_folds d_kinds d_declared d_states d_lastRow d_lastValue d_hasValue d_touched d_parts d_rows d_inRound d_rounds d_flips d_passed d_matches d_moved d_time d_out d_loads d_counterKey d_counterCount d_counterError d_smalls d_smallKey d_smallWeight x6 (upd d_timerKey d_timers.toNatClampNeg p1) (upd d_timerTime d_timers.toNatClampNeg p2) d_logged d_logKey d_logTime d_logState d_marks d_markState d_markValue d_markHas d_markSmalls d_markSmallKey d_markSmallWeight d_markTimers d_markTimerKey d_markTimerTime d_markTime d_markRows d_markMatches d_markOut d_comes) H := hP
          have hD : va_D A (wv_d cI cJ cZ cM h_d a_d d_p d_r d_t d_slack d_m d_folds d_kinds d_declared d_states d_lastRow d_lastValue d_hasValue d_touched d_parts d_rows d_inRound d_rounds d_flips d_passed d_matches d_moved d_time d_out d_loads d_counterKey d_counterCount d_counterError d_smalls d_smallKey d_smallWeight x6 (upd d_timerKey d_timers.toNatClampNeg p1) (upd d_timerTime d_timers.toNatClampNeg p2) d_logged d_logKey d_logTime d_logState d_marks d_markState d_markValue d_markHas d_markSmalls d_markSmallKey d_markSmallWeight d_markTimers d_markTimerKey d_markTimerTime d_markTime d_markRows d_markMatches d_markOut d_comes) := hD
          refine lv_aload_n hx hb dX8_timer_71 rfl (lv_at hl 0 rfl) ?_
          refine va_get (D := D) (ci := 8) (v := .int x6) (C := RX8) (T := TX8) (N := 52) hx hb hta ih_X8 hown hK hP 0 rfl rfl 30 (by decide) (hta _ hw_776) (fun _ h9 => h9) rfl dX8_timer_72 ?_
          exact W.iret (v := x6) hx hb hr (fun t ht hW => ⟨⟨x6, (x6, upd d_timerKey d_timers.toNatClampNeg p1, upd d_timerTime d_timers.toNatClampNeg p2), rfl, h, by rw [ht]; exact hP, hD⟩, hS.F ht⟩) hS.2.2 dX8_timer_75
        · have h := h.2 c5
          refine lv_bipush (v := (-104)) hx hb dX8_timer_38 (by decide) ?_
          exact W.iret (v := (-104)) hx hb hr (fun t ht hW => ⟨⟨(-104), (d_timers, d_timerKey, d_timerTime), rfl, h, by rw [ht]; exact hP, hD⟩, hS.F ht⟩) hS.2.2 dX8_timer_40
      · have h := h.2 c4
        refine lv_bipush (v := (-102)) hx hb dX8_timer_26 (by decide) ?_
        exact W.iret (v := (-102)) hx hb hr (fun t ht hW => ⟨⟨(-102), (d_timers, d_timerKey, d_timerTime), rfl, h, by rw [ht]; exact hP, hD⟩, hS.F ht⟩) hS.2.2 dX8_timer_28
  · have h := h.2 c2
    refine lv_bipush (v := (-101)) hx hb dX8_timer_8 (by decide) ?_
    exact W.iret (v := (-101)) hx hb hr (fun t ht hW => ⟨⟨(-101), (d_timers, d_timerKey, d_timerTime), rfl, h, by rw [ht]; exact hP, hD⟩, hS.F ht⟩) hS.2.2 dX8_timer_10
def wj_d_due_45 (d_timerTime : Nat → Int32) (v1 : Int32 × Int32) (K4 : (Int32 × Int32) → Prop) (v10 : Int32) : Prop := vp_in v10 40 ∧ (((d_timerTime v10.toNatClampNeg) ≤ (d_timerTime v1.2.toNatClampNeg) → ∀ x13 : Int32, x13 = v1.2 + 1 → K4 (v1.1, x13)) ∧ (¬ (d_timerTime v10.toNatClampNeg) ≤ (d_timerTime v1.2.toNatClampNeg) → ∀ x15 : Int32, x15 = v1.2 + 1 → K4 (v1.2, x15)))
def wb_d_due_4 (d_timers : Int32) (d_timerTime : Nat → Int32) (p1 : Int32) (post : Int32 → Prop) (K4 : (Int32 × Int32) → Prop) (v1 : Int32 × Int32) : Prop := (d_timers ≤ v1.2 → post v1.1) ∧ (¬ d_timers ≤ v1.2 → vp_in v1.2 40 ∧ ((p1 < (d_timerTime v1.2.toNatClampNeg) → ∀ x5 : Int32, x5 = v1.2 + 1 → K4 (v1.1, x5)) ∧ (¬ p1 < (d_timerTime v1.2.toNatClampNeg) → (v1.1 < 0 → ∀ x8 : Int32, x8 = v1.2 + 1 → K4 (v1.2, x8)) ∧ (¬ v1.1 < 0 → vp_in v1.2 40 ∧ ((0 ≤ v1.1 → wj_d_due_45 d_timerTime v1 K4 v1.1) ∧ (¬ 0 ≤ v1.1 → wj_d_due_45 d_timerTime v1 K4 0))))))
def wp_d_due (p1 : Int32) (d_timers : Int32) (d_timerTime : Nat → Int32) (post : Int32 → Prop) : Prop := ∃ n, hk_lp (wb_d_due_4 d_timers d_timerTime p1 post) n ((-1), 0)
theorem mm_d_due : hk_MV yX8_due cX8_due 5 (some .int) 1 := ⟨hw_1057, hw_1056, hw_75, hw_87, by decide +kernel⟩
set_option maxRecDepth 100000 in
set_option maxHeartbeats 4000000 in
theorem c_d_due (l : Launch) (D : va_G) (cI cJ cZ cM : ClassId) (h_d : Nat) (a_d : Nat → Nat)  (d_p : Int32) (d_r : Int32) (d_t : Int32) (d_slack : Int32) (d_m : Int32) (d_folds : Int32) (d_kinds : Nat → Int32) (d_declared : Nat → Int32) (d_states : Nat → Int64) (d_lastRow : Nat → Int32) (d_lastValue : Nat → Int32) (d_hasValue : Nat → Int32) (d_touched : Nat → Int32) (d_parts : Nat → Int32) (d_rows : Int32) (d_inRound : Int32) (d_rounds : Int32) (d_flips : Int32) (d_passed : Int32) (d_matches : Int32) (d_moved : Int32) (d_time : Int32) (d_out : Int64) (d_loads : Nat → Int32) (d_counterKey : Nat → Int32) (d_counterCount : Nat → Int32) (d_counterError : Nat → Int32) (d_smalls : Int32) (d_smallKey : Nat → Int32) (d_smallWeight : Nat → Int32) (d_timers : Int32) (d_timerKey : Nat → Int32) (d_timerTime : Nat → Int32) (d_logged : Int32) (d_logKey : Nat → Int32) (d_logTime : Nat → Int32) (d_logState : Nat → Int64) (d_marks : Int32) (d_markState : Nat → Int64) (d_markValue : Nat → Int32) (d_markHas : Nat → Int32) (d_markSmalls : Nat → Int32) (d_markSmallKey : Nat → Int32) (d_markSmallWeight : Nat → Int32) (d_markTimers : Nat → Int32) (d_markTimerKey : Nat → Int32) (d_markTimerTime : Nat → Int32) (d_markTime : Nat → Int32) (d_markRows : Nat → Int32) (d_markMatches : Nat → Int32) (d_markOut : Nat → Int64) (d_comes : Nat → Int64) (p1 : Int32) (post : Int32 → Prop) (h : wp_d_due p1 d_timers d_timerTime post) : Met l yX8_due (hk_ws yX8_due cX8_due 5 (some .int)) (hk_rm 0 0) (va_Pc [.ref h_d, .int p1] (hk_PR D (hk_ty cI cJ cZ cM) (wv_d cI cJ cZ cM h_d a_d d_p d_r d_t d_slack d_m d_folds d_kinds d_declared d_states d_lastRow d_lastValue d_hasValue d_touched d_parts d_rows d_inRound d_rounds d_flips d_passed d_matches d_moved d_time d_out d_loads d_counterKey d_counterCount d_counterError d_smalls d_smallKey d_smallWeight d_timers d_timerKey d_timerTime d_logged d_logKey d_logTime d_logState d_marks d_markState d_markValue d_markHas d_markSmalls d_markSmallKey d_markSmallWeight d_markTimers d_markTimerKey d_markTimerTime d_markTime d_markRows d_markMatches d_markOut d_comes))) (vp_Si post) 0 0 (fun _ => False) := by
  refine Met.ofW (cc := cX8_due) (maxL := 5) (ret := (some .int)) (by decide) rfl ?_
  intro p e s m args below meth c s₁ B hml hv
  obtain ⟨rfl, hP, hK, hN⟩ := hv
  have hx := B.exec
  have hb := B.bytes
  have hr := B.returns
  have hts := atoms_spec (ws := hk_ws yX8_due cX8_due 5 (some .int)) B.pre
  have hta : ∀ w ∈ hk_all, w.before ([.ref h_d, .int p1] : List Value).toArray s = true := fun w hw => hts w (List.mem_cons_of_mem _ hw)
  have hown : s.vm.findClass RX8 = some m.cls := findClass_of_methodNamed B.named
  have hlocks := B.notSynchronized
  have S0 : CallFix p m c cX8_due 5 s ([.ref h_d, .int p1] : List Value).toArray hk_all RX8 := ⟨hx, hb, hml, hown, hta⟩
  have hl := lv_entry ([.ref h_d, .int p1]) (n := 5) (Nat.le_of_ble_eq_true rfl)
  rw [lg_entry_eq]
  generalize (lg_sl ([.ref h_d, .int p1]) ++ List.replicate (5 - (lg_sl ([.ref h_d, .int p1])).length) Slot.unset).toArray = ls at hl ⊢
  have hl : lv_has ls 5 [(0, .ref h_d), (1, .int p1)] := hl
  unfold wp_d_due at h
  refine lv_iconst (v := (-1)) hx hb dX8_due_0 (by decide) ?_
  refine lv_istore_n (lv' := [(2, .int (-1)), (0, .ref h_d), (1, .int p1)]) hx hb dX8_due_1 rfl hl (by decide) rfl (fun ls hl => ?_)
  refine lv_iconst (v := 0) hx hb dX8_due_2 (by decide) ?_
  refine lv_istore_n (lv' := [(3, .int 0), (2, .int (-1)), (0, .ref h_d), (1, .int p1)]) hx hb dX8_due_3 rfl hl (by decide) rfl (fun ls hl => ?_)
  have P4 : ∀ (n : Nat) (v1 : Int32 × Int32) (ls : Array Slot), lv_has ls 5 [(0, .ref h_d), (1, .int p1), (2, .int v1.1), (3, .int v1.2)] → hk_lp (wb_d_due_4 d_timers d_timerTime p1 post) n v1 → W p l e (headSpec (hk_ws yX8_due cX8_due 5 (some .int)) (hk_rm 0 0)).room s m ([.ref h_d, .int p1] : List Value).toArray below meth c s.heap [] 0 0 (MQ below (vp_Si post) ([.ref h_d, .int p1] : List Value).toArray s 0 0 (fun _ => False)) (F0 m 4 ls []) := by
    intro n
    induction n with
    | zero => intro v1 ls hl h; exact False.elim h
    | succ n ih4 =>
      intro v1 ls hl h
      have h : wb_d_due_4 d_timers d_timerTime p1 post (hk_lp (wb_d_due_4 d_timers d_timerTime p1 post) n) v1 := h
      generalize hk_lp (wb_d_due_4 d_timers d_timerTime p1 post) n = K4 at h ih4
      unfold wb_d_due_4 at h
      refine lv_iload_n hx hb dX8_due_4 rfl (lv_at hl 3 rfl) ?_
      refine lv_aload_n hx hb dX8_due_5 rfl (lv_at hl 0 rfl) ?_
      refine va_get (D := D) (ci := 8) (v := .int d_timers) (C := RX8) (T := TX8) (N := 52) hx hb hta ih_X8 hown hK hP 0 rfl rfl 30 (by decide) (hta _ hw_776) (fun _ h9 => h9) rfl dX8_due_6 ?_
      refine lv_icmp_ge (tgt := 73) hx hb dX8_due_9 (by decide) (fun c2 => ?_) (fun c2 => ?_)
      · have h := h.1 c2
        refine lv_iload_n hx hb dX8_due_73 rfl (lv_at hl 2 rfl) ?_
        exact W.iret (v := v1.1) hx hb hr (fun t ht hW => ⟨_, rfl, h, ht⟩) (fun _ hq => by cases hq) dX8_due_74
      · have h := h.2 c2
        refine lv_aload_n hx hb dX8_due_12 rfl (lv_at hl 0 rfl) ?_
        refine va_get (D := D) (ci := 8) (v := .ref (a_d 32)) (C := RX8) (T := TX8) (N := 52) hx hb hta ih_X8 hown hK hP 0 rfl rfl 32 (by decide) (hta _ hw_778) (fun _ h9 => h9) rfl dX8_due_13 ?_
        refine lv_iload_n hx hb dX8_due_16 rfl (lv_at hl 3 rfl) ?_
        refine va_iald hx hb hK hP 16 0 rfl rfl h.1 dX8_due_17 ?_
        have h := h.2
        refine lv_iload_n hx hb dX8_due_18 rfl (lv_at hl 1 rfl) ?_
        refine lv_icmp_gt (tgt := 53) hx hb dX8_due_19 (by decide) (fun c3 => ?_) (fun c3 => ?_)
        · have h := h.1 c3
          refine lv_iconst (v := 0) hx hb dX8_due_53 (by decide) ?_
          refine lv_istore (lv' := [(4, .int 0), (0, .ref h_d), (1, .int p1), (2, .int v1.1), (3, .int v1.2)]) hx hb dX8_due_54 hl (by decide) rfl (fun ls hl => ?_)
          refine lv_iload hx hb dX8_due_56 (lv_at hl 0 rfl) ?_
          refine lv_if_eq (tgt := 65) hx hb dX8_due_58 (by decide) (fun c4 => ?_) (fun c4 => absurd (by decide) c4)
          refine lv_iload_n hx hb dX8_due_65 rfl (lv_at hl 3 rfl) ?_
          refine lv_istore_n (lv' := [(2, .int v1.1), (4, .int 0), (0, .ref h_d), (1, .int p1), (3, .int v1.2)]) hx hb dX8_due_66 rfl hl (by decide) rfl (fun ls hl => ?_)
          obtain ⟨x5, ex5⟩ : ∃ y : Int32, y = v1.2 + 1 := ⟨_, rfl⟩
          have h := h x5 ex5
          refine lv_iinc (v := x5) (lv' := [(3, .int x5), (2, .int v1.1), (4, .int 0), (0, .ref h_d), (1, .int p1)]) hx hb dX8_due_67 hl (k := 4) rfl (by rw [ex5]; rfl) (by decide) rfl (fun ls hl => ?_)
          refine lv_goto (tgt := 4) hx hb dX8_due_70 (by decide) ?_
          exact ih4 (v1.1, x5) ls (lv_sub hl [3, 4, 1, 0] rfl) h
        · have h := h.2 c3
          refine lv_iload_n hx hb dX8_due_22 rfl (lv_at hl 2 rfl) ?_
          refine lv_if_lt (tgt := 49) hx hb dX8_due_23 (by decide) (fun c6 => ?_) (fun c6 => ?_)
          · have h := h.1 c6
            refine lv_iconst (v := 1) hx hb dX8_due_49 (by decide) ?_
            refine lv_goto (tgt := 54) hx hb dX8_due_50 (by decide) ?_
            refine lv_istore (lv' := [(4, .int 1), (0, .ref h_d), (1, .int p1), (2, .int v1.1), (3, .int v1.2)]) hx hb dX8_due_54 hl (by decide) rfl (fun ls hl => ?_)
            refine lv_iload hx hb dX8_due_56 (lv_at hl 0 rfl) ?_
            refine lv_if_eq (tgt := 65) hx hb dX8_due_58 (by decide) (fun c7 => absurd c7 (by decide)) (fun c7 => ?_)
            refine lv_iload_n hx hb dX8_due_61 rfl (lv_at hl 4 rfl) ?_
            refine lv_goto (tgt := 66) hx hb dX8_due_62 (by decide) ?_
            refine lv_istore_n (lv' := [(2, .int v1.2), (4, .int 1), (0, .ref h_d), (1, .int p1), (3, .int v1.2)]) hx hb dX8_due_66 rfl hl (by decide) rfl (fun ls hl => ?_)
            obtain ⟨x8, ex8⟩ : ∃ y : Int32, y = v1.2 + 1 := ⟨_, rfl⟩
            have h := h x8 ex8
            refine lv_iinc (v := x8) (lv' := [(3, .int x8), (2, .int v1.2), (4, .int 1), (0, .ref h_d), (1, .int p1)]) hx hb dX8_due_67 hl (k := 4) rfl (by rw [ex8]; rfl) (by decide) rfl (fun ls hl => ?_)
            refine lv_goto (tgt := 4) hx hb dX8_due_70 (by decide) ?_
            exact ih4 (v1.2, x8) ls (lv_sub hl [3, 4, 1, 0] rfl) h
          · have h := h.2 c6
            refine lv_aload_n hx hb dX8_due_26 rfl (lv_at hl 0 rfl) ?_
            refine va_get (D := D) (ci := 8) (v := .ref (a_d 32)) (C := RX8) (T := TX8) (N := 52) hx hb hta ih_X8 hown hK hP 0 rfl rfl 32 (by decide) (hta _ hw_778) (fun _ h9 => h9) rfl dX8_due_27 ?_
            refine lv_iload_n hx hb dX8_due_30 rfl (lv_at hl 3 rfl) ?_
            refine va_iald hx hb hK hP 16 0 rfl rfl h.1 dX8_due_31 ?_
            have h := h.2
            refine lv_aload_n hx hb dX8_due_32 rfl (lv_at hl 0 rfl) ?_
            refine va_get (D := D) (ci := 8) (v := .ref (a_d 32)) (C := RX8) (T := TX8) (N := 52) hx hb hta ih_X8 hown hK hP 0 rfl rfl 32 (by decide) (hta _ hw_778) (fun _ h9 => h9) rfl dX8_due_33 ?_
            refine lv_iload_n hx hb dX8_due_36 rfl (lv_at hl 2 rfl) ?_
            have J45 : ∀ (v10 : Int32) (ls : Array Slot), lv_has ls 5 [(0, .ref h_d), (1, .int p1), (2, .int v1.1), (3, .int v1.2)] → wj_d_due_45 d_timerTime v1 K4 v10 → W p l e (headSpec (hk_ws yX8_due cX8_due 5 (some .int)) (hk_rm 0 0)).room s m ([.ref h_d, .int p1] : List Value).toArray below meth c s.heap [] 0 0 (MQ below (vp_Si post) ([.ref h_d, .int p1] : List Value).toArray s 0 0 (fun _ => False)) (F0 m 45 ls [.int v10, .ref (a_d 32), .int (d_timerTime v1.2.toNatClampNeg)]) := by
              intro v10 ls hl h
              unfold wj_d_due_45 at h
              refine va_iald hx hb hK hP 16 0 rfl rfl h.1 dX8_due_45 ?_
              have h := h.2
              refine lv_icmp_ge (tgt := 53) hx hb dX8_due_46 (by decide) (fun c11 => ?_) (fun c11 => ?_)
              · have h := h.1 c11
                refine lv_iconst (v := 0) hx hb dX8_due_53 (by decide) ?_
                refine lv_istore (lv' := [(4, .int 0), (0, .ref h_d), (1, .int p1), (2, .int v1.1), (3, .int v1.2)]) hx hb dX8_due_54 hl (by decide) rfl (fun ls hl => ?_)
                refine lv_iload hx hb dX8_due_56 (lv_at hl 0 rfl) ?_
                refine lv_if_eq (tgt := 65) hx hb dX8_due_58 (by decide) (fun c12 => ?_) (fun c12 => absurd (by decide) c12)
                refine lv_iload_n hx hb dX8_due_65 rfl (lv_at hl 3 rfl) ?_
                refine lv_istore_n (lv' := [(2, .int v1.1), (4, .int 0), (0, .ref h_d), (1, .int p1), (3, .int v1.2)]) hx hb dX8_due_66 rfl hl (by decide) rfl (fun ls hl => ?_)
                obtain ⟨x13, ex13⟩ : ∃ y : Int32, y = v1.2 + 1 := ⟨_, rfl⟩
                have h := h x13 ex13
                refine lv_iinc (v := x13) (lv' := [(3, .int x13), (2, .int v1.1), (4, .int 0), (0, .ref h_d), (1, .int p1)]) hx hb dX8_due_67 hl (k := 4) rfl (by rw [ex13]; rfl) (by decide) rfl (fun ls hl => ?_)
                refine lv_goto (tgt := 4) hx hb dX8_due_70 (by decide) ?_
                exact ih4 (v1.1, x13) ls (lv_sub hl [3, 4, 1, 0] rfl) h
              · have h := h.2 c11
                refine lv_iconst (v := 1) hx hb dX8_due_49 (by decide) ?_
                refine lv_goto (tgt := 54) hx hb dX8_due_50 (by decide) ?_
                refine lv_istore (lv' := [(4, .int 1), (0, .ref h_d), (1, .int p1), (2, .int v1.1), (3, .int v1.2)]) hx hb dX8_due_54 hl (by decide) rfl (fun ls hl => ?_)
                refine lv_iload hx hb dX8_due_56 (lv_at hl 0 rfl) ?_
                refine lv_if_eq (tgt := 65) hx hb dX8_due_58 (by decide) (fun c14 => absurd c14 (by decide)) (fun c14 => ?_)
                refine lv_iload_n hx hb dX8_due_61 rfl (lv_at hl 4 rfl) ?_
                refine lv_goto (tgt := 66) hx hb dX8_due_62 (by decide) ?_
                refine lv_istore_n (lv' := [(2, .int v1.2), (4, .int 1), (0, .ref h_d), (1, .int p1), (3, .int v1.2)]) hx hb dX8_due_66 rfl hl (by decide) rfl (fun ls hl => ?_)
                obtain ⟨x15, ex15⟩ : ∃ y : Int32, y = v1.2 + 1 := ⟨_, rfl⟩
                have h := h x15 ex15
                refine lv_iinc (v := x15) (lv' := [(3, .int x15), (2, .int v1.2), (4, .int 1), (0, .ref h_d), (1, .int p1)]) hx hb dX8_due_67 hl (k := 4) rfl (by rw [ex15]; rfl) (by decide) rfl (fun ls hl => ?_)
                refine lv_goto (tgt := 4) hx hb dX8_due_70 (by decide) ?_
                exact ih4 (v1.2, x15) ls (lv_sub hl [3, 4, 1, 0] rfl) h
            refine lv_if_ge (tgt := 44) hx hb dX8_due_37 (by decide) (fun c9 => ?_) (fun c9 => ?_)
            · have h := h.1 c9
              refine lv_iload_n hx hb dX8_due_44 rfl (lv_at hl 2 rfl) ?_
              exact J45 v1.1 ls (lv_sub hl [0, 1, 2, 3] rfl) h
            · have h := h.2 c9
              refine lv_iconst (v := 0) hx hb dX8_due_40 (by decide) ?_
              refine lv_goto (tgt := 45) hx hb dX8_due_41 (by decide) ?_
              exact J45 0 ls (lv_sub hl [0, 1, 2, 3] rfl) h
  obtain ⟨n, h⟩ := h
  exact P4 n ((-1), 0) ls (lv_sub hl [2, 3, 1, 0] rfl) h
def wb_d_ring_134 (d_logKey : Nat → Int32) (d_logTime : Nat → Int32) (post : ((Nat → Int64) × (Nat → Int32) × (Nat → Int32) × (Nat → Int32) × Int32 × (Nat → Int32) × (Nat → Int32) × Int32 × (Nat → Int32) × (Nat → Int32) × (Nat → Int64)) → Prop) (x1 : Int32) (x2 : Int32) (x3 : Int32) (v4 : Int32 × (Nat → Int64)) (x6 : Int32) (v7 : Int32 × (Nat → Int64) × (Nat → Int32) × (Nat → Int32) × (Nat → Int32)) (x9 : Int32) (K134 : (Int32 × (Nat → Int32) × (Nat → Int32)) → Prop) (v10 : Int32 × (Nat → Int32) × (Nat → Int32)) : Prop := (x9 ≤ v10.1 → post (v7.2.1, v7.2.2.1, v7.2.2.2.1, v7.2.2.2.2, x9, v10.2.1, v10.2.2, x6, upd d_logKey x2.toNatClampNeg x1, upd d_logTime x2.toNatClampNeg x3, v4.2)) ∧ (¬ x9 ≤ v10.1 → vp_in (v10.1 + 1) 40 ∧ (∀ x12 : Int32, x12 = v10.2.1 (v10.1 + 1).toNatClampNeg → vp_in v10.1 40 ∧ (vp_in (v10.1 + 1) 40 ∧ (∀ x13 : Int32, x13 = v10.2.2 (v10.1 + 1).toNatClampNeg → vp_in v10.1 40 ∧ (∀ x14 : Int32, x14 = v10.1 + 1 → K134 (x14, upd v10.2.1 v10.1.toNatClampNeg x12, upd v10.2.2 v10.1.toNatClampNeg x13))))))
def wb_d_ring_97 (d_folds : Int32) (d_kinds : Nat → Int32) (d_parts : Nat → Int32) (d_timers : Int32) (d_timerKey : Nat → Int32) (d_timerTime : Nat → Int32) (d_logKey : Nat → Int32) (d_logTime : Nat → Int32) (p1 : Int32) (post : ((Nat → Int64) × (Nat → Int32) × (Nat → Int32) × (Nat → Int32) × Int32 × (Nat → Int32) × (Nat → Int32) × Int32 × (Nat → Int32) × (Nat → Int32) × (Nat → Int64)) → Prop) (x1 : Int32) (x2 : Int32) (x3 : Int32) (v4 : Int32 × (Nat → Int64)) (x6 : Int32) (K97 : (Int32 × (Nat → Int64) × (Nat → Int32) × (Nat → Int32) × (Nat → Int32)) → Prop) (v7 : Int32 × (Nat → Int64) × (Nat → Int32) × (Nat → Int32) × (Nat → Int32)) : Prop := vp_in x1 100 ∧ (((d_parts x1.toNatClampNeg) ≤ v7.1 → ∀ x9 : Int32, x9 = d_timers - 1 → ∃ n, hk_lp (wb_d_ring_134 d_logKey d_logTime post x1 x2 x3 v4 x6 v7 x9) n (p1, d_timerKey, d_timerTime)) ∧ (¬ (d_parts x1.toNatClampNeg) ≤ v7.1 → wp_d_empty v7.1 x1 d_folds d_kinds v7.2.1 v7.2.2.1 v7.2.2.2.1 v7.2.2.2.2 (fun (w15 : (Nat → Int64) × (Nat → Int32) × (Nat → Int32) × (Nat → Int32)) => ∀ x16 : Int32, x16 = v7.1 + 1 → K97 (x16, w15.1, w15.2.1, w15.2.2.1, w15.2.2.2))))
def wb_d_ring_37 (d_folds : Int32) (d_kinds : Nat → Int32) (d_states : Nat → Int64) (d_lastRow : Nat → Int32) (d_hasValue : Nat → Int32) (d_touched : Nat → Int32) (d_parts : Nat → Int32) (d_timers : Int32) (d_timerKey : Nat → Int32) (d_timerTime : Nat → Int32) (d_logged : Int32) (d_logKey : Nat → Int32) (d_logTime : Nat → Int32) (p1 : Int32) (post : ((Nat → Int64) × (Nat → Int32) × (Nat → Int32) × (Nat → Int32) × Int32 × (Nat → Int32) × (Nat → Int32) × Int32 × (Nat → Int32) × (Nat → Int32) × (Nat → Int64)) → Prop) (x1 : Int32) (x2 : Int32) (x3 : Int32) (K37 : (Int32 × (Nat → Int64)) → Prop) (v4 : Int32 × (Nat → Int64)) : Prop := (6 ≤ v4.1 → ∀ x6 : Int32, x6 = d_logged + 1 → ∃ n, hk_lp (wb_d_ring_97 d_folds d_kinds d_parts d_timers d_timerKey d_timerTime d_logKey d_logTime p1 post x1 x2 x3 v4 x6) n (0, d_states, d_lastRow, d_hasValue, d_touched)) ∧ (¬ 6 ≤ v4.1 → (d_folds ≤ v4.1 → vp_in ((6 * x2) + v4.1) 384 ∧ (∀ x18 : Int32, x18 = v4.1 + 1 → K37 (x18, vp_updL v4.2 ((6 * x2) + v4.1).toNatClampNeg (-4000000000000)))) ∧ (¬ d_folds ≤ v4.1 → wp_d_come v4.1 x1 d_kinds d_states d_lastRow d_parts (fun (r19 : Int64) => vp_in ((6 * x2) + v4.1) 384 ∧ (∀ x20 : Int32, x20 = v4.1 + 1 → K37 (x20, vp_updL v4.2 ((6 * x2) + v4.1).toNatClampNeg r19)))))
def wp_d_ring (p1 : Int32) (d_folds : Int32) (d_kinds : Nat → Int32) (d_states : Nat → Int64) (d_lastRow : Nat → Int32) (d_hasValue : Nat → Int32) (d_touched : Nat → Int32) (d_parts : Nat → Int32) (d_timers : Int32) (d_timerKey : Nat → Int32) (d_timerTime : Nat → Int32) (d_logged : Int32) (d_logKey : Nat → Int32) (d_logTime : Nat → Int32) (d_logState : Nat → Int64) (post : ((Nat → Int64) × (Nat → Int32) × (Nat → Int32) × (Nat → Int32) × Int32 × (Nat → Int32) × (Nat → Int32) × Int32 × (Nat → Int32) × (Nat → Int32) × (Nat → Int64)) → Prop) : Prop := vp_in p1 40 ∧ (∀ x1 : Int32, x1 = d_timerKey p1.toNatClampNeg → ∀ x2 : Int32, x2 = d_logged - d_logged / 64 * 64 → vp_in x2 64 ∧ (vp_in p1 40 ∧ (∀ x3 : Int32, x3 = d_timerTime p1.toNatClampNeg → vp_in x2 64 ∧ (∃ n, hk_lp (wb_d_ring_37 d_folds d_kinds d_states d_lastRow d_hasValue d_touched d_parts d_timers d_timerKey d_timerTime d_logged d_logKey d_logTime p1 post x1 x2 x3) n (0, d_logState)))))
theorem mm_d_ring : hk_MV yX8_ring cX8_ring 5 none 1 := ⟨hw_1061, hw_1060, hw_76, hw_87, by decide +kernel⟩
set_option maxRecDepth 100000 in
set_option maxHeartbeats 4000000 in
theorem c_d_ring (l : Launch) (D : va_G) (cI cJ cZ cM : ClassId) (h_d : Nat) (a_d : Nat → Nat) (sz : Nat) (d_p : Int32) (d_r : Int32) (d_t : Int32) (d_slack : Int32) (d_m : Int32) (d_folds : Int32) (d_kinds : Nat → Int32) (d_declared : Nat → Int32) (d_states : Nat → Int64) (d_lastRow : Nat → Int32) (d_lastValue : Nat → Int32) (d_hasValue : Nat → Int32) (d_touched : Nat → Int32) (d_parts : Nat → Int32) (d_rows : Int32) (d_inRound : Int32) (d_rounds : Int32) (d_flips : Int32) (d_passed : Int32) (d_matches : Int32) (d_moved : Int32) (d_time : Int32) (d_out : Int64) (d_loads : Nat → Int32) (d_counterKey : Nat → Int32) (d_counterCount : Nat → Int32) (d_counterError : Nat → Int32) (d_smalls : Int32) (d_smallKey : Nat → Int32) (d_smallWeight : Nat → Int32) (d_timers : Int32) (d_timerKey : Nat → Int32) (d_timerTime : Nat → Int32) (d_logged : Int32) (d_logKey : Nat → Int32) (d_logTime : Nat → Int32) (d_logState : Nat → Int64) (d_marks : Int32) (d_markState : Nat → Int64) (d_markValue : Nat → Int32) (d_markHas : Nat → Int32) (d_markSmalls : Nat → Int32) (d_markSmallKey : Nat → Int32) (d_markSmallWeight : Nat → Int32) (d_markTimers : Nat → Int32) (d_markTimerKey : Nat → Int32) (d_markTimerTime : Nat → Int32) (d_markTime : Nat → Int32) (d_markRows : Nat → Int32) (d_markMatches : Nat → Int32) (d_markOut : Nat → Int64) (d_comes : Nat → Int64) (p1 : Int32) (post : ((Nat → Int64) × (Nat → Int32) × (Nat → Int32) × (Nat → Int32) × Int32 × (Nat → Int32) × (Nat → Int32) × Int32 × (Nat → Int32) × (Nat → Int32) × (Nat → Int64)) → Prop) (h : wp_d_ring p1 d_folds d_kinds d_states d_lastRow d_hasValue d_touched d_parts d_timers d_timerKey d_timerTime d_logged d_logKey d_logTime d_logState post) : Met l yX8_ring (hk_ws yX8_ring cX8_ring 5 none) (hk_rm 2 52) (va_Pc [.ref h_d, .int p1] (hk_PM D (hk_ty cI cJ cZ cM) sz (wv_d cI cJ cZ cM h_d a_d d_p d_r d_t d_slack d_m d_folds d_kinds d_declared d_states d_lastRow d_lastValue d_hasValue d_touched d_parts d_rows d_inRound d_rounds d_flips d_passed d_matches d_moved d_time d_out d_loads d_counterKey d_counterCount d_counterError d_smalls d_smallKey d_smallWeight d_timers d_timerKey d_timerTime d_logged d_logKey d_logTime d_logState d_marks d_markState d_markValue d_markHas d_markSmalls d_markSmallKey d_markSmallWeight d_markTimers d_markTimerKey d_markTimerTime d_markTime d_markRows d_markMatches d_markOut d_comes))) (va_Qv post (hk_B D (va_A (wv_d cI cJ cZ cM h_d a_d d_p d_r d_t d_slack d_m d_folds d_kinds d_declared d_states d_lastRow d_lastValue d_hasValue d_touched d_parts d_rows d_inRound d_rounds d_flips d_passed d_matches d_moved d_time d_out d_loads d_counterKey d_counterCount d_counterError d_smalls d_smallKey d_smallWeight d_timers d_timerKey d_timerTime d_logged d_logKey d_logTime d_logState d_marks d_markState d_markValue d_markHas d_markSmalls d_markSmallKey d_markSmallWeight d_markTimers d_markTimerKey d_markTimerTime d_markTime d_markRows d_markMatches d_markOut d_comes) sz) (fun (u : (Nat → Int64) × (Nat → Int32) × (Nat → Int32) × (Nat → Int32) × Int32 × (Nat → Int32) × (Nat → Int32) × Int32 × (Nat → Int32) × (Nat → Int32) × (Nat → Int64)) => wv_d cI cJ cZ cM h_d a_d d_p d_r d_t d_slack d_m d_folds d_kinds d_declared u.1 u.2.1 d_lastValue u.2.2.1 u.2.2.2.1 d_parts d_rows d_inRound d_rounds d_flips d_passed d_matches d_moved d_time d_out d_loads d_counterKey d_counterCount d_counterError d_smalls d_smallKey d_smallWeight u.2.2.2.2.1 u.2.2.2.2.2.1 u.2.2.2.2.2.2.1 u.2.2.2.2.2.2.2.1 u.2.2.2.2.2.2.2.2.1 u.2.2.2.2.2.2.2.2.2.1 u.2.2.2.2.2.2.2.2.2.2 d_marks d_markState d_markValue d_markHas d_markSmalls d_markSmallKey d_markSmallWeight d_markTimers d_markTimerKey d_markTimerTime d_markTime d_markRows d_markMatches d_markOut d_comes)) (va_A (wv_d cI cJ cZ cM h_d a_d d_p d_r d_t d_slack d_m d_folds d_kinds d_declared d_states d_lastRow d_lastValue d_hasValue d_touched d_parts d_rows d_inRound d_rounds d_flips d_passed d_matches d_moved d_time d_out d_loads d_counterKey d_counterCount d_counterError d_smalls d_smallKey d_smallWeight d_timers d_timerKey d_timerTime d_logged d_logKey d_logTime d_logState d_marks d_markState d_markValue d_markHas d_markSmalls d_markSmallKey d_markSmallWeight d_markTimers d_markTimerKey d_markTimerTime d_markTime d_markRows d_markMatches d_markOut d_comes) sz)) 0 0 (va_A (wv_d cI cJ cZ cM h_d a_d d_p d_r d_t d_slack d_m d_folds d_kinds d_declared d_states d_lastRow d_lastValue d_hasValue d_touched d_parts d_rows d_inRound d_rounds d_flips d_passed d_matches d_moved d_time d_out d_loads d_counterKey d_counterCount d_counterError d_smalls d_smallKey d_smallWeight d_timers d_timerKey d_timerTime d_logged d_logKey d_logTime d_logState d_marks d_markState d_markValue d_markHas d_markSmalls d_markSmallKey d_markSmallWeight d_markTimers d_markTimerKey d_markTimerTime d_markTime d_markRows d_markMatches d_markOut d_comes) sz) := by
  refine Met.ofW (cc := cX8_ring) (maxL := 5) (ret := none) (by decide) rfl ?_
  intro p e s m args below meth c s₁ B hml hv
  obtain ⟨rfl, hsz, hP, hK, hD0, hN⟩ := hv
  have hx := B.exec
  have hb := B.bytes
  have hr := B.returns
  have hts := atoms_spec (ws := hk_ws yX8_ring cX8_ring 5 none) B.pre
  have hta : ∀ w ∈ hk_all, w.before ([.ref h_d, .int p1] : List Value).toArray s = true := fun w hw => hts w (List.mem_cons_of_mem _ hw)
  have hown : s.vm.findClass RX8 = some m.cls := findClass_of_methodNamed B.named
  have hlocks := B.notSynchronized
  have S0 : CallFix p m c cX8_ring 5 s ([.ref h_d, .int p1] : List Value).toArray hk_all RX8 := ⟨hx, hb, hml, hown, hta⟩
  subst hsz
  have hD := hD0.self (sz := s.heap.size)
  generalize hAe : va_A (wv_d cI cJ cZ cM h_d a_d d_p d_r d_t d_slack d_m d_folds d_kinds d_declared d_states d_lastRow d_lastValue d_hasValue d_touched d_parts d_rows d_inRound d_rounds d_flips d_passed d_matches d_moved d_time d_out d_loads d_counterKey d_counterCount d_counterError d_smalls d_smallKey d_smallWeight d_timers d_timerKey d_timerTime d_logged d_logKey d_logTime d_logState d_marks d_markState d_markValue d_markHas d_markSmalls d_markSmallKey d_markSmallWeight d_markTimers d_markTimerKey d_markTimerTime d_markTime d_markRows d_markMatches d_markOut d_comes) s.heap.size = A at hD ⊢
  have hA : ∀ q : Nat, s.heap.size ≤ q → A q := fun q h => by rw [← hAe]; exact Or.inr h
  have hS : va_S A s.heap s.heap [] := va_S.rf
  have hl := lv_entry ([.ref h_d, .int p1]) (n := 5) (Nat.le_of_ble_eq_true rfl)
  rw [lg_entry_eq]
  generalize (lg_sl ([.ref h_d, .int p1]) ++ List.replicate (5 - (lg_sl ([.ref h_d, .int p1])).length) Slot.unset).toArray = ls at hl ⊢
  have hl : lv_has ls 5 [(0, .ref h_d), (1, .int p1)] := hl
  unfold wp_d_ring at h
  refine lv_aload_n hx hb dX8_ring_0 rfl (lv_at hl 0 rfl) ?_
  refine va_get (D := D) (ci := 8) (v := .ref (a_d 31)) (C := RX8) (T := TX8) (N := 52) hx hb hta ih_X8 hown hK hP 0 rfl rfl 31 (by decide) (hta _ hw_777) (fun _ h9 => h9) rfl dX8_ring_1 ?_
  refine lv_iload_n hx hb dX8_ring_4 rfl (lv_at hl 1 rfl) ?_
  refine va_iald hx hb hK hP 15 0 rfl rfl h.1 dX8_ring_5 ?_
  have h := h.2
  refine lv_topi (fun x1 ex1 => ?_)
  have h := h x1 ex1
  refine lv_istore_n (lv' := [(2, .int x1), (0, .ref h_d), (1, .int p1)]) hx hb dX8_ring_6 rfl hl (by decide) rfl (fun ls hl => ?_)
  refine lv_aload_n hx hb dX8_ring_7 rfl (lv_at hl 1 rfl) ?_
  refine va_get (D := D) (ci := 8) (v := .int d_logged) (C := RX8) (T := TX8) (N := 52) hx hb hta ih_X8 hown hK hP 0 rfl rfl 33 (by decide) (hta _ hw_779) (fun _ h9 => h9) rfl dX8_ring_8 ?_
  refine lv_bipush (v := 64) hx hb dX8_ring_11 (by decide) ?_
  refine lv_irem hx hb dX8_ring_13 (by decide) ?_
  refine lv_topi (fun x2 ex2 => ?_)
  have h := h x2 ex2
  refine lv_istore_n (lv' := [(3, .int x2), (2, .int x1), (0, .ref h_d), (1, .int p1)]) hx hb dX8_ring_14 rfl hl (by decide) rfl (fun ls hl => ?_)
  refine lv_aload_n hx hb dX8_ring_15 rfl (lv_at hl 2 rfl) ?_
  refine va_get (D := D) (ci := 8) (v := .ref (a_d 34)) (C := RX8) (T := TX8) (N := 52) hx hb hta ih_X8 hown hK hP 0 rfl rfl 34 (by decide) (hta _ hw_780) (fun _ h9 => h9) rfl dX8_ring_16 ?_
  refine lv_iload_n hx hb dX8_ring_19 rfl (lv_at hl 0 rfl) ?_
  refine lv_iload_n hx hb dX8_ring_20 rfl (lv_at hl 1 rfl) ?_
  refine va_iast hx hb hK hP hD hS 17 0 rfl rfl h.1 dX8_ring_21 (fun H locs hP hD hS => ?_)
  have h := h.2
  have hP : va_P D vwCl (wv_d cI cJ cZ cM h_d a_d d_p d_r d_t d_slack d_m d_folds d_kinds d_declared d_states d_lastRow d_lastValue d_hasValue d_touched d_parts d_rows d_inRound d_rounds d_flips d_passed d_matches d_moved d_time d_out d_loads d_counterKey d_counterCount d_counterError d_smalls d_smallKey d_smallWeight d_timers d_timerKey d_timerTime d_logged (upd d_logKey x2.toNatClampNeg x1) d_logTime d_logState d_marks d_markState d_markValue d_markHas d_markSmalls d_markSmallKey d_markSmallWeight d_markTimers d_markTimerKey d_markTimerTime d_markTime d_markRows d_markMatches d_markOut d_comes) H := hP
  have hD : va_D A (wv_d cI cJ cZ cM h_d a_d d_p d_r d_t d_slack d_m d_folds d_kinds d_declared d_states d_lastRow d_lastValue d_hasValue d_touched d_parts d_rows d_inRound d_rounds d_flips d_passed d_matches d_moved d_time d_out d_loads d_counterKey d_counterCount d_counterError d_smalls d_smallKey d_smallWeight d_timers d_timerKey d_timerTime d_logged (upd d_logKey x2.toNatClampNeg x1) d_logTime d_logState d_marks d_markState d_markValue d_markHas d_markSmalls d_markSmallKey d_markSmallWeight d_markTimers d_markTimerKey d_markTimerTime d_markTime d_markRows d_markMatches d_markOut d_comes) := hD
  refine lv_aload_n hx hb dX8_ring_22 rfl (lv_at hl 2 rfl) ?_
  refine va_get (D := D) (ci := 8) (v := .ref (a_d 35)) (C := RX8) (T := TX8) (N := 52) hx hb hta ih_X8 hown hK hP 0 rfl rfl 35 (by decide) (hta _ hw_781) (fun _ h9 => h9) rfl dX8_ring_23 ?_
  refine lv_iload_n hx hb dX8_ring_26 rfl (lv_at hl 0 rfl) ?_
  refine lv_aload_n hx hb dX8_ring_27 rfl (lv_at hl 2 rfl) ?_
  refine va_get (D := D) (ci := 8) (v := .ref (a_d 32)) (C := RX8) (T := TX8) (N := 52) hx hb hta ih_X8 hown hK hP 0 rfl rfl 32 (by decide) (hta _ hw_778) (fun _ h9 => h9) rfl dX8_ring_28 ?_
  refine lv_iload_n hx hb dX8_ring_31 rfl (lv_at hl 3 rfl) ?_
  refine va_iald hx hb hK hP 16 0 rfl rfl h.1 dX8_ring_32 ?_
  have h := h.2
  refine lv_topi (fun x3 ex3 => ?_)
  have h := h x3 ex3
  refine va_iast hx hb hK hP hD hS 18 0 rfl rfl h.1 dX8_ring_33 (fun H locs hP hD hS => ?_)
  have h := h.2
  have hP : va_P D vwCl (wv_d cI cJ cZ cM h_d a_d d_p d_r d_t d_slack d_m d_folds d_kinds d_declared d_states d_lastRow d_lastValue d_hasValue d_touched d_parts d_rows d_inRound d_rounds d_flips d_passed d_matches d_moved d_time d_out d_loads d_counterKey d_counterCount d_counterError d_smalls d_smallKey d_smallWeight d_timers d_timerKey d_timerTime d_logged (upd d_logKey x2.toNatClampNeg x1) (upd d_logTime x2.toNatClampNeg x3) d_logState d_marks d_markState d_markValue d_markHas d_markSmalls d_markSmallKey d_markSmallWeight d_markTimers d_markTimerKey d_markTimerTime d_markTime d_markRows d_markMatches d_markOut d_comes) H := hP
  have hD : va_D A (wv_d cI cJ cZ cM h_d a_d d_p d_r d_t d_slack d_m d_folds d_kinds d_declared d_states d_lastRow d_lastValue d_hasValue d_touched d_parts d_rows d_inRound d_rounds d_flips d_passed d_matches d_moved d_time d_out d_loads d_counterKey d_counterCount d_counterError d_smalls d_smallKey d_smallWeight d_timers d_timerKey d_timerTime d_logged (upd d_logKey x2.toNatClampNeg x1) (upd d_logTime x2.toNatClampNeg x3) d_logState d_marks d_markState d_markValue d_markHas d_markSmalls d_markSmallKey d_markSmallWeight d_markTimers d_markTimerKey d_markTimerTime d_markTime d_markRows d_markMatches d_markOut d_comes) := hD
  refine lv_iconst (v := 0) hx hb dX8_ring_34 (by decide) ?_
  refine lv_istore (lv' := [(4, .int 0), (3, .int x2), (2, .int x1), (0, .ref h_d), (1, .int p1)]) hx hb dX8_ring_35 hl (by decide) rfl (fun ls hl => ?_)
  have P37 : ∀ (n : Nat) (v4 : Int32 × (Nat → Int64)) (H : Heap) (locs : List Loc) (ls : Array Slot), va_P D vwCl (wv_d cI cJ cZ cM h_d a_d d_p d_r d_t d_slack d_m d_folds d_kinds d_declared d_states d_lastRow d_lastValue d_hasValue d_touched d_parts d_rows d_inRound d_rounds d_flips d_passed d_matches d_moved d_time d_out d_loads d_counterKey d_counterCount d_counterError d_smalls d_smallKey d_smallWeight d_timers d_timerKey d_timerTime d_logged (upd d_logKey x2.toNatClampNeg x1) (upd d_logTime x2.toNatClampNeg x3) v4.2 d_marks d_markState d_markValue d_markHas d_markSmalls d_markSmallKey d_markSmallWeight d_markTimers d_markTimerKey d_markTimerTime d_markTime d_markRows d_markMatches d_markOut d_comes) H → va_D A (wv_d cI cJ cZ cM h_d a_d d_p d_r d_t d_slack d_m d_folds d_kinds d_declared d_states d_lastRow d_lastValue d_hasValue d_touched d_parts d_rows d_inRound d_rounds d_flips d_passed d_matches d_moved d_time d_out d_loads d_counterKey d_counterCount d_counterError d_smalls d_smallKey d_smallWeight d_timers d_timerKey d_timerTime d_logged (upd d_logKey x2.toNatClampNeg x1) (upd d_logTime x2.toNatClampNeg x3) v4.2 d_marks d_markState d_markValue d_markHas d_markSmalls d_markSmallKey d_markSmallWeight d_markTimers d_markTimerKey d_markTimerTime d_markTime d_markRows d_markMatches d_markOut d_comes) → va_S A s.heap H locs → lv_has ls 5 [(0, .ref h_d), (1, .int p1), (2, .int x1), (3, .int x2), (4, .int v4.1)] → hk_lp (wb_d_ring_37 d_folds d_kinds d_states d_lastRow d_hasValue d_touched d_parts d_timers d_timerKey d_timerTime d_logged d_logKey d_logTime p1 post x1 x2 x3) n v4 → W p l e (headSpec (hk_ws yX8_ring cX8_ring 5 none) (hk_rm 2 52)).room s m ([.ref h_d, .int p1] : List Value).toArray below meth c H locs 0 0 (MQ below (va_Qv post (hk_B D (A) (fun (u : (Nat → Int64) × (Nat → Int32) × (Nat → Int32) × (Nat → Int32) × Int32 × (Nat → Int32) × (Nat → Int32) × Int32 × (Nat → Int32) × (Nat → Int32) × (Nat → Int64)) => wv_d cI cJ cZ cM h_d a_d d_p d_r d_t d_slack d_m d_folds d_kinds d_declared u.1 u.2.1 d_lastValue u.2.2.1 u.2.2.2.1 d_parts d_rows d_inRound d_rounds d_flips d_passed d_matches d_moved d_time d_out d_loads d_counterKey d_counterCount d_counterError d_smalls d_smallKey d_smallWeight u.2.2.2.2.1 u.2.2.2.2.2.1 u.2.2.2.2.2.2.1 u.2.2.2.2.2.2.2.1 u.2.2.2.2.2.2.2.2.1 u.2.2.2.2.2.2.2.2.2.1 u.2.2.2.2.2.2.2.2.2.2 d_marks d_markState d_markValue d_markHas d_markSmalls d_markSmallKey d_markSmallWeight d_markTimers d_markTimerKey d_markTimerTime d_markTime d_markRows d_markMatches d_markOut d_comes)) (A)) ([.ref h_d, .int p1] : List Value).toArray s 0 0 A) (F0 m 37 ls []) := by
    intro n
    induction n with
    | zero => intro v4 H locs ls hP hD hS hl h; exact False.elim h
    | succ n ih37 =>
      intro v4 H locs ls hP hD hS hl h
      have h : wb_d_ring_37 d_folds d_kinds d_states d_lastRow d_hasValue d_touched d_parts d_timers d_timerKey d_timerTime d_logged d_logKey d_logTime p1 post x1 x2 x3 (hk_lp (wb_d_ring_37 d_folds d_kinds d_states d_lastRow d_hasValue d_touched d_parts d_timers d_timerKey d_timerTime d_logged d_logKey d_logTime p1 post x1 x2 x3) n) v4 := h
      generalize hk_lp (wb_d_ring_37 d_folds d_kinds d_states d_lastRow d_hasValue d_touched d_parts d_timers d_timerKey d_timerTime d_logged d_logKey d_logTime p1 post x1 x2 x3) n = K37 at h ih37
      unfold wb_d_ring_37 at h
      refine lv_iload hx hb dX8_ring_37 (lv_at hl 4 rfl) ?_
      refine lv_bipush (v := 6) hx hb dX8_ring_39 (by decide) ?_
      refine lv_icmp_ge (tgt := 84) hx hb dX8_ring_41 (by decide) (fun c5 => ?_) (fun c5 => ?_)
      · have h := h.1 c5
        refine lv_aload_n hx hb dX8_ring_84 rfl (lv_at hl 0 rfl) ?_
        refine lv_dup hx hb dX8_ring_85 rfl ?_
        refine va_get (D := D) (ci := 8) (v := .int d_logged) (C := RX8) (T := TX8) (N := 52) hx hb hta ih_X8 hown hK hP 0 rfl rfl 33 (by decide) (hta _ hw_779) (fun _ h9 => h9) rfl dX8_ring_86 ?_
        refine lv_iconst (v := 1) hx hb dX8_ring_89 (by decide) ?_
        refine lv_iadd hx hb dX8_ring_90 ?_
        refine lv_topi (fun x6 ex6 => ?_)
        have h := h x6 ex6
        refine va_put (D := D) (ci := 8) (v := .int x6) (ty := .int) (C := RX8) (T := TX8) (N := 52) hx hb hta ih_X8 tyX8 tyX8_ok nmX8 hown hK hP hD hS 0 rfl rfl 33 (by decide) (hta _ hw_779) (fun _ h9 => h9) rfl (by decide +kernel) rfl rfl (Nat.le_of_ble_eq_true rfl) dX8_ring_91 (fun H locs hP hD hS => ?_)
        have hP : va_P D vwCl (wv_d cI cJ cZ cM h_d a_d d_p d_r d_t d_slack d_m d_folds d_kinds d_declared d_states d_lastRow d_lastValue d_hasValue d_touched d_parts d_rows d_inRound d_rounds d_flips d_passed d_matches d_moved d_time d_out d_loads d_counterKey d_counterCount d_counterError d_smalls d_smallKey d_smallWeight d_timers d_timerKey d_timerTime x6 (upd d_logKey x2.toNatClampNeg x1) (upd d_logTime x2.toNatClampNeg x3) v4.2 d_marks d_markState d_markValue d_markHas d_markSmalls d_markSmallKey d_markSmallWeight d_markTimers d_markTimerKey d_markTimerTime d_markTime d_markRows d_markMatches d_markOut d_comes) H := hP
        have hD : va_D A (wv_d cI cJ cZ cM h_d a_d d_p d_r d_t d_slack d_m d_folds d_kinds d_declared d_states d_lastRow d_lastValue d_hasValue d_touched d_parts d_rows d_inRound d_rounds d_flips d_passed d_matches d_moved d_time d_out d_loads d_counterKey d_counterCount d_counterError d_smalls d_smallKey d_smallWeight d_timers d_timerKey d_timerTime x6 (upd d_logKey x2.toNatClampNeg x1) (upd d_logTime x2.toNatClampNeg x3) v4.2 d_marks d_markState d_markValue d_markHas d_markSmalls d_markSmallKey d_markSmallWeight d_markTimers d_markTimerKey d_markTimerTime d_markTime d_markRows d_markMatches d_markOut d_comes) := hD
        refine lv_iconst (v := 0) hx hb dX8_ring_94 (by decide) ?_
        refine lv_istore (lv' := [(4, .int 0), (0, .ref h_d), (1, .int p1), (2, .int x1), (3, .int x2)]) hx hb dX8_ring_95 hl (by decide) rfl (fun ls hl => ?_)
        have P97 : ∀ (n : Nat) (v7 : Int32 × (Nat → Int64) × (Nat → Int32) × (Nat → Int32) × (Nat → Int32)) (H : Heap) (locs : List Loc) (ls : Array Slot), va_P D vwCl (wv_d cI cJ cZ cM h_d a_d d_p d_r d_t d_slack d_m d_folds d_kinds d_declared v7.2.1 v7.2.2.1 d_lastValue v7.2.2.2.1 v7.2.2.2.2 d_parts d_rows d_inRound d_rounds d_flips d_passed d_matches d_moved d_time d_out d_loads d_counterKey d_counterCount d_counterError d_smalls d_smallKey d_smallWeight d_timers d_timerKey d_timerTime x6 (upd d_logKey x2.toNatClampNeg x1) (upd d_logTime x2.toNatClampNeg x3) v4.2 d_marks d_markState d_markValue d_markHas d_markSmalls d_markSmallKey d_markSmallWeight d_markTimers d_markTimerKey d_markTimerTime d_markTime d_markRows d_markMatches d_markOut d_comes) H → va_D A (wv_d cI cJ cZ cM h_d a_d d_p d_r d_t d_slack d_m d_folds d_kinds d_declared v7.2.1 v7.2.2.1 d_lastValue v7.2.2.2.1 v7.2.2.2.2 d_parts d_rows d_inRound d_rounds d_flips d_passed d_matches d_moved d_time d_out d_loads d_counterKey d_counterCount d_counterError d_smalls d_smallKey d_smallWeight d_timers d_timerKey d_timerTime x6 (upd d_logKey x2.toNatClampNeg x1) (upd d_logTime x2.toNatClampNeg x3) v4.2 d_marks d_markState d_markValue d_markHas d_markSmalls d_markSmallKey d_markSmallWeight d_markTimers d_markTimerKey d_markTimerTime d_markTime d_markRows d_markMatches d_markOut d_comes) → va_S A s.heap H locs → lv_has ls 5 [(0, .ref h_d), (1, .int p1), (2, .int x1), (3, .int x2), (4, .int v7.1)] → hk_lp (wb_d_ring_97 d_folds d_kinds d_parts d_timers d_timerKey d_timerTime d_logKey d_logTime p1 post x1 x2 x3 v4 x6) n v7 → W p l e (headSpec (hk_ws yX8_ring cX8_ring 5 none) (hk_rm 2 52)).room s m ([.ref h_d, .int p1] : List Value).toArray below meth c H locs 0 0 (MQ below (va_Qv post (hk_B D (A) (fun (u : (Nat → Int64) × (Nat → Int32) × (Nat → Int32) × (Nat → Int32) × Int32 × (Nat → Int32) × (Nat → Int32) × Int32 × (Nat → Int32) × (Nat → Int32) × (Nat → Int64)) => wv_d cI cJ cZ cM h_d a_d d_p d_r d_t d_slack d_m d_folds d_kinds d_declared u.1 u.2.1 d_lastValue u.2.2.1 u.2.2.2.1 d_parts d_rows d_inRound d_rounds d_flips d_passed d_matches d_moved d_time d_out d_loads d_counterKey d_counterCount d_counterError d_smalls d_smallKey d_smallWeight u.2.2.2.2.1 u.2.2.2.2.2.1 u.2.2.2.2.2.2.1 u.2.2.2.2.2.2.2.1 u.2.2.2.2.2.2.2.2.1 u.2.2.2.2.2.2.2.2.2.1 u.2.2.2.2.2.2.2.2.2.2 d_marks d_markState d_markValue d_markHas d_markSmalls d_markSmallKey d_markSmallWeight d_markTimers d_markTimerKey d_markTimerTime d_markTime d_markRows d_markMatches d_markOut d_comes)) (A)) ([.ref h_d, .int p1] : List Value).toArray s 0 0 A) (F0 m 97 ls []) := by
          intro n
          induction n with
          | zero => intro v7 H locs ls hP hD hS hl h; exact False.elim h
          | succ n ih97 =>
            intro v7 H locs ls hP hD hS hl h
            have h : wb_d_ring_97 d_folds d_kinds d_parts d_timers d_timerKey d_timerTime d_logKey d_logTime p1 post x1 x2 x3 v4 x6 (hk_lp (wb_d_ring_97 d_folds d_kinds d_parts d_timers d_timerKey d_timerTime d_logKey d_logTime p1 post x1 x2 x3 v4 x6) n) v7 := h
            generalize hk_lp (wb_d_ring_97 d_folds d_kinds d_parts d_timers d_timerKey d_timerTime d_logKey d_logTime p1 post x1 x2 x3 v4 x6) n = K97 at h ih97
            unfold wb_d_ring_97 at h
            refine lv_iload hx hb dX8_ring_97 (lv_at hl 4 rfl) ?_
            refine lv_aload_n hx hb dX8_ring_99 rfl (lv_at hl 0 rfl) ?_
            refine va_get (D := D) (ci := 8) (v := .ref (a_d 13)) (C := RX8) (T := TX8) (N := 52) hx hb hta ih_X8 hown hK hP 0 rfl rfl 13 (by decide) (hta _ hw_759) (fun _ h9 => h9) rfl dX8_ring_100 ?_
            refine lv_iload_n hx hb dX8_ring_103 rfl (lv_at hl 2 rfl) ?_
            refine va_iald hx hb hK hP 8 0 rfl rfl h.1 dX8_ring_104 ?_
            have h := h.2
            refine lv_icmp_ge (tgt := 121) hx hb dX8_ring_105 (by decide) (fun c8 => ?_) (fun c8 => ?_)
            · have h := h.1 c8
              refine lv_aload_n hx hb dX8_ring_121 rfl (lv_at hl 0 rfl) ?_
              refine lv_dup hx hb dX8_ring_122 rfl ?_
              refine va_get (D := D) (ci := 8) (v := .int d_timers) (C := RX8) (T := TX8) (N := 52) hx hb hta ih_X8 hown hK hP 0 rfl rfl 30 (by decide) (hta _ hw_776) (fun _ h9 => h9) rfl dX8_ring_123 ?_
              refine lv_iconst (v := 1) hx hb dX8_ring_126 (by decide) ?_
              refine lv_isub hx hb dX8_ring_127 ?_
              refine lv_topi (fun x9 ex9 => ?_)
              have h := h x9 ex9
              refine va_put (D := D) (ci := 8) (v := .int x9) (ty := .int) (C := RX8) (T := TX8) (N := 52) hx hb hta ih_X8 tyX8 tyX8_ok nmX8 hown hK hP hD hS 0 rfl rfl 30 (by decide) (hta _ hw_776) (fun _ h9 => h9) rfl (by decide +kernel) rfl rfl (Nat.le_of_ble_eq_true rfl) dX8_ring_128 (fun H locs hP hD hS => ?_)
              have hP : va_P D vwCl (wv_d cI cJ cZ cM h_d a_d d_p d_r d_t d_slack d_m d_folds d_kinds d_declared v7.2.1 v7.2.2.1 d_lastValue v7.2.2.2.1 v7.2.2.2.2 d_parts d_rows d_inRound d_rounds d_flips d_passed d_matches d_moved d_time d_out d_loads d_counterKey d_counterCount d_counterError d_smalls d_smallKey d_smallWeight x9 d_timerKey d_timerTime x6 (upd d_logKey x2.toNatClampNeg x1) (upd d_logTime x2.toNatClampNeg x3) v4.2 d_marks d_markState d_markValue d_markHas d_markSmalls d_markSmallKey d_markSmallWeight d_markTimers d_markTimerKey d_markTimerTime d_markTime d_markRows d_markMatches d_markOut d_comes) H := hP
              have hD : va_D A (wv_d cI cJ cZ cM h_d a_d d_p d_r d_t d_slack d_m d_folds d_kinds d_declared v7.2.1 v7.2.2.1 d_lastValue v7.2.2.2.1 v7.2.2.2.2 d_parts d_rows d_inRound d_rounds d_flips d_passed d_matches d_moved d_time d_out d_loads d_counterKey d_counterCount d_counterError d_smalls d_smallKey d_smallWeight x9 d_timerKey d_timerTime x6 (upd d_logKey x2.toNatClampNeg x1) (upd d_logTime x2.toNatClampNeg x3) v4.2 d_marks d_markState d_markValue d_markHas d_markSmalls d_markSmallKey d_markSmallWeight d_markTimers d_markTimerKey d_markTimerTime d_markTime d_markRows d_markMatches d_markOut d_comes) := hD
              refine lv_iload_n hx hb dX8_ring_131 rfl (lv_at hl 1 rfl) ?_
              refine lv_istore (lv' := [(4, .int p1), (0, .ref h_d), (1, .int p1), (2, .int x1), (3, .int x2)]) hx hb dX8_ring_132 hl (by decide) rfl (fun ls hl => ?_)
              have P134 : ∀ (n : Nat) (v10 : Int32 × (Nat → Int32) × (Nat → Int32)) (H : Heap) (locs : List Loc) (ls : Array Slot), va_P D vwCl (wv_d cI cJ cZ cM h_d a_d d_p d_r d_t d_slack d_m d_folds d_kinds d_declared v7.2.1 v7.2.2.1 d_lastValue v7.2.2.2.1 v7.2.2.2.2 d_parts d_rows d_inRound d_rounds d_flips d_passed d_matches d_moved d_time d_out d_loads d_counterKey d_counterCount d_counterError d_smalls d_smallKey d_smallWeight x9 v10.2.1 v10.2.2 x6 (upd d_logKey x2.toNatClampNeg x1) (upd d_logTime x2.toNatClampNeg x3) v4.2 d_marks d_markState d_markValue d_markHas d_markSmalls d_markSmallKey d_markSmallWeight d_markTimers d_markTimerKey d_markTimerTime d_markTime d_markRows d_markMatches d_markOut d_comes) H → va_D A (wv_d cI cJ cZ cM h_d a_d d_p d_r d_t d_slack d_m d_folds d_kinds d_declared v7.2.1 v7.2.2.1 d_lastValue v7.2.2.2.1 v7.2.2.2.2 d_parts d_rows d_inRound d_rounds d_flips d_passed d_matches d_moved d_time d_out d_loads d_counterKey d_counterCount d_counterError d_smalls d_smallKey d_smallWeight x9 v10.2.1 v10.2.2 x6 (upd d_logKey x2.toNatClampNeg x1) (upd d_logTime x2.toNatClampNeg x3) v4.2 d_marks d_markState d_markValue d_markHas d_markSmalls d_markSmallKey d_markSmallWeight d_markTimers d_markTimerKey d_markTimerTime d_markTime d_markRows d_markMatches d_markOut d_comes) → va_S A s.heap H locs → lv_has ls 5 [(0, .ref h_d), (1, .int p1), (2, .int x1), (3, .int x2), (4, .int v10.1)] → hk_lp (wb_d_ring_134 d_logKey d_logTime post x1 x2 x3 v4 x6 v7 x9) n v10 → W p l e (headSpec (hk_ws yX8_ring cX8_ring 5 none) (hk_rm 2 52)).room s m ([.ref h_d, .int p1] : List Value).toArray below meth c H locs 0 0 (MQ below (va_Qv post (hk_B D (A) (fun (u : (Nat → Int64) × (Nat → Int32) × (Nat → Int32) × (Nat → Int32) × Int32 × (Nat → Int32) × (Nat → Int32) × Int32 × (Nat → Int32) × (Nat → Int32) × (Nat → Int64)) => wv_d cI cJ cZ cM h_d a_d d_p d_r d_t d_slack d_m d_folds d_kinds d_declared u.1 u.2.1 d_lastValue u.2.2.1 u.2.2.2.1 d_parts d_rows d_inRound d_rounds d_flips d_passed d_matches d_moved d_time d_out d_loads d_counterKey d_counterCount d_counterError d_smalls d_smallKey d_smallWeight u.2.2.2.2.1 u.2.2.2.2.2.1 u.2.2.2.2.2.2.1 u.2.2.2.2.2.2.2.1 u.2.2.2.2.2.2.2.2.1 u.2.2.2.2.2.2.2.2.2.1 u.2.2.2.2.2.2.2.2.2.2 d_marks d_markState d_markValue d_markHas d_markSmalls d_markSmallKey d_markSmallWeight d_markTimers d_markTimerKey d_markTimerTime d_markTime d_markRows d_markMatches d_markOut d_comes)) (A)) ([.ref h_d, .int p1] : List Value).toArray s 0 0 A) (F0 m 134 ls []) := by
                intro n
                induction n with
                | zero => intro v10 H locs ls hP hD hS hl h; exact False.elim h
                | succ n ih134 =>
                  intro v10 H locs ls hP hD hS hl h
                  have h : wb_d_ring_134 d_logKey d_logTime post x1 x2 x3 v4 x6 v7 x9 (hk_lp (wb_d_ring_134 d_logKey d_logTime post x1 x2 x3 v4 x6 v7 x9) n) v10 := h
                  generalize hk_lp (wb_d_ring_134 d_logKey d_logTime post x1 x2 x3 v4 x6 v7 x9) n = K134 at h ih134
                  unfold wb_d_ring_134 at h
                  refine lv_iload hx hb dX8_ring_134 (lv_at hl 4 rfl) ?_
                  refine lv_aload_n hx hb dX8_ring_136 rfl (lv_at hl 0 rfl) ?_
                  refine va_get (D := D) (ci := 8) (v := .int x9) (C := RX8) (T := TX8) (N := 52) hx hb hta ih_X8 hown hK hP 0 rfl rfl 30 (by decide) (hta _ hw_776) (fun _ h9 => h9) rfl dX8_ring_137 ?_
                  refine lv_icmp_ge (tgt := 181) hx hb dX8_ring_140 (by decide) (fun c11 => ?_) (fun c11 => ?_)
                  · have h := h.1 c11
                    exact W.vret hx hb hr (fun t ht hW => ⟨⟨(v7.2.1, v7.2.2.1, v7.2.2.2.1, v7.2.2.2.2, x9, v10.2.1, v10.2.2, x6, upd d_logKey x2.toNatClampNeg x1, upd d_logTime x2.toNatClampNeg x3, v4.2), rfl, h, by rw [ht]; exact hP, hD⟩, hS.F ht⟩) hS.2.2 dX8_ring_181
                  · have h := h.2 c11
                    refine lv_aload_n hx hb dX8_ring_143 rfl (lv_at hl 0 rfl) ?_
                    refine va_get (D := D) (ci := 8) (v := .ref (a_d 31)) (C := RX8) (T := TX8) (N := 52) hx hb hta ih_X8 hown hK hP 0 rfl rfl 31 (by decide) (hta _ hw_777) (fun _ h9 => h9) rfl dX8_ring_144 ?_
                    refine lv_iload hx hb dX8_ring_147 (lv_at hl 4 rfl) ?_
                    refine lv_aload_n hx hb dX8_ring_149 rfl (lv_at hl 0 rfl) ?_
                    refine va_get (D := D) (ci := 8) (v := .ref (a_d 31)) (C := RX8) (T := TX8) (N := 52) hx hb hta ih_X8 hown hK hP 0 rfl rfl 31 (by decide) (hta _ hw_777) (fun _ h9 => h9) rfl dX8_ring_150 ?_
                    refine lv_iload hx hb dX8_ring_153 (lv_at hl 4 rfl) ?_
                    refine lv_iconst (v := 1) hx hb dX8_ring_155 (by decide) ?_
                    refine lv_iadd hx hb dX8_ring_156 ?_
                    refine va_iald hx hb hK hP 15 0 rfl rfl h.1 dX8_ring_157 ?_
                    have h := h.2
                    refine lv_topi (fun x12 ex12 => ?_)
                    have h := h x12 ex12
                    refine va_iast hx hb hK hP hD hS 15 0 rfl rfl h.1 dX8_ring_158 (fun H locs hP hD hS => ?_)
                    have h := h.2
                    have hP : va_P D vwCl (wv_d cI cJ cZ cM h_d a_d d_p d_r d_t d_slack d_m d_folds d_kinds d_declared v7.2.1 v7.2.2.1 d_lastValue v7.2.2.2.1 v7.2.2.2.2 d_parts d_rows d_inRound d_rounds d_flips d_passed d_matches d_moved d_time d_out d_loads d_counterKey d_counterCount d_counterError d_smalls d_smallKey d_smallWeight x9 (upd v10.2.1 v10.1.toNatClampNeg x12) v10.2.2 x6 (upd d_logKey x2.toNatClampNeg x1) (upd d_logTime x2.toNatClampNeg x3) v4.2 d_marks d_markState d_markValue d_markHas d_markSmalls d_markSmallKey d_markSmallWeight d_markTimers d_markTimerKey d_markTimerTime d_markTime d_markRows d_markMatches d_markOut d_comes) H := hP
                    have hD : va_D A (wv_d cI cJ cZ cM h_d a_d d_p d_r d_t d_slack d_m d_folds d_kinds d_declared v7.2.1 v7.2.2.1 d_lastValue v7.2.2.2.1 v7.2.2.2.2 d_parts d_rows d_inRound d_rounds d_flips d_passed d_matches d_moved d_time d_out d_loads d_counterKey d_counterCount d_counterError d_smalls d_smallKey d_smallWeight x9 (upd v10.2.1 v10.1.toNatClampNeg x12) v10.2.2 x6 (upd d_logKey x2.toNatClampNeg x1) (upd d_logTime x2.toNatClampNeg x3) v4.2 d_marks d_markState d_markValue d_markHas d_markSmalls d_markSmallKey d_markSmallWeight d_markTimers d_markTimerKey d_markTimerTime d_markTime d_markRows d_markMatches d_markOut d_comes) := hD
                    refine lv_aload_n hx hb dX8_ring_159 rfl (lv_at hl 0 rfl) ?_
                    refine va_get (D := D) (ci := 8) (v := .ref (a_d 32)) (C := RX8) (T := TX8) (N := 52) hx hb hta ih_X8 hown hK hP 0 rfl rfl 32 (by decide) (hta _ hw_778) (fun _ h9 => h9) rfl dX8_ring_160 ?_
                    refine lv_iload hx hb dX8_ring_163 (lv_at hl 4 rfl) ?_
                    refine lv_aload_n hx hb dX8_ring_165 rfl (lv_at hl 0 rfl) ?_
                    refine va_get (D := D) (ci := 8) (v := .ref (a_d 32)) (C := RX8) (T := TX8) (N := 52) hx hb hta ih_X8 hown hK hP 0 rfl rfl 32 (by decide) (hta _ hw_778) (fun _ h9 => h9) rfl dX8_ring_166 ?_
                    refine lv_iload hx hb dX8_ring_169 (lv_at hl 4 rfl) ?_
                    refine lv_iconst (v := 1) hx hb dX8_ring_171 (by decide) ?_
                    refine lv_iadd hx hb dX8_ring_172 ?_
                    refine va_iald hx hb hK hP 16 0 rfl rfl h.1 dX8_ring_173 ?_
                    have h := h.2
                    refine lv_topi (fun x13 ex13 => ?_)
                    have h := h x13 ex13
                    refine va_iast hx hb hK hP hD hS 16 0 rfl rfl h.1 dX8_ring_174 (fun H locs hP hD hS => ?_)
                    have h := h.2
                    have hP : va_P D vwCl (wv_d cI cJ cZ cM h_d a_d d_p d_r d_t d_slack d_m d_folds d_kinds d_declared v7.2.1 v7.2.2.1 d_lastValue v7.2.2.2.1 v7.2.2.2.2 d_parts d_rows d_inRound d_rounds d_flips d_passed d_matches d_moved d_time d_out d_loads d_counterKey d_counterCount d_counterError d_smalls d_smallKey d_smallWeight x9 (upd v10.2.1 v10.1.toNatClampNeg x12) (upd v10.2.2 v10.1.toNatClampNeg x13) x6 (upd d_logKey x2.toNatClampNeg x1) (upd d_logTime x2.toNatClampNeg x3) v4.2 d_marks d_markState d_markValue d_markHas d_markSmalls d_markSmallKey d_markSmallWeight d_markTimers d_markTimerKey d_markTimerTime d_markTime d_markRows d_markMatches d_markOut d_comes) H := hP
                    have hD : va_D A (wv_d cI cJ cZ cM h_d a_d d_p d_r d_t d_slack d_m d_folds d_kinds d_declared v7.2.1 v7.2.2.1 d_lastValue v7.2.2.2.1 v7.2.2.2.2 d_parts d_rows d_inRound d_rounds d_flips d_passed d_matches d_moved d_time d_out d_loads d_counterKey d_counterCount d_counterError d_smalls d_smallKey d_smallWeight x9 (upd v10.2.1 v10.1.toNatClampNeg x12) (upd v10.2.2 v10.1.toNatClampNeg x13) x6 (upd d_logKey x2.toNatClampNeg x1) (upd d_logTime x2.toNatClampNeg x3) v4.2 d_marks d_markState d_markValue d_markHas d_markSmalls d_markSmallKey d_markSmallWeight d_markTimers d_markTimerKey d_markTimerTime d_markTime d_markRows d_markMatches d_markOut d_comes) := hD
                    obtain ⟨x14, ex14⟩ : ∃ y : Int32, y = v10.1 + 1 := ⟨_, rfl⟩
                    have h := h x14 ex14
                    refine lv_iinc (v := x14) (lv' := [(4, .int x14), (0, .ref h_d), (1, .int p1), (2, .int x1), (3, .int x2)]) hx hb dX8_ring_175 hl (k := 4) rfl (by rw [ex14]; rfl) (by decide) rfl (fun ls hl => ?_)
                    refine lv_goto (tgt := 134) hx hb dX8_ring_178 (by decide) ?_
                    exact ih134 (x14, upd v10.2.1 v10.1.toNatClampNeg x12, upd v10.2.2 v10.1.toNatClampNeg x13) H locs ls hP hD hS (lv_sub hl [1, 2, 3, 4, 0] rfl) h
              obtain ⟨n, h⟩ := h
              exact P134 n (p1, d_timerKey, d_timerTime) H locs ls hP hD hS (lv_sub hl [1, 2, 3, 4, 0] rfl) h
            · have h := h.2 c8
              refine lv_aload_n hx hb dX8_ring_108 rfl (lv_at hl 0 rfl) ?_
              refine lv_iload hx hb dX8_ring_109 (lv_at hl 4 rfl) ?_
              refine lv_iload_n hx hb dX8_ring_111 rfl (lv_at hl 2 rfl) ?_
              refine hk_wv (hk_runV (As := [.int v7.1, .int x1]) (rest := []) S0 mm_d_empty (c_d_empty l D cI cJ cZ cM h_d a_d H.size d_p d_r d_t d_slack d_m d_folds d_kinds d_declared v7.2.1 v7.2.2.1 d_lastValue v7.2.2.2.1 v7.2.2.2.2 d_parts d_rows d_inRound d_rounds d_flips d_passed d_matches d_moved d_time d_out d_loads d_counterKey d_counterCount d_counterError d_smalls d_smallKey d_smallWeight d_timers d_timerKey d_timerTime x6 (upd d_logKey x2.toNatClampNeg x1) (upd d_logTime x2.toNatClampNeg x3) v4.2 d_marks d_markState d_markValue d_markHas d_markSmalls d_markSmallKey d_markSmallWeight d_markTimers d_markTimerKey d_markTimerTime d_markTime d_markRows d_markMatches d_markOut d_comes v7.1 x1 _ h) hw_724 hk_blM (hk_atM hP hK hD hN) (va_recv hK hP (ci := 8) (q0 := 0) rfl rfl) ⟨rfl, rfl, Nat.le_of_ble_eq_true rfl, Nat.le_of_ble_eq_true rfl⟩ rfl hl.1 rfl (Nat.le_of_ble_eq_true rfl) dX8_ring_112 ⟨Nat.le_of_ble_eq_true rfl, Nat.le_of_ble_eq_true rfl⟩) hD hS hA (fun w15 H locs h hP hD hS => ?_)
              have hP : va_P D vwCl (wv_d cI cJ cZ cM h_d a_d d_p d_r d_t d_slack d_m d_folds d_kinds d_declared w15.1 w15.2.1 d_lastValue w15.2.2.1 w15.2.2.2 d_parts d_rows d_inRound d_rounds d_flips d_passed d_matches d_moved d_time d_out d_loads d_counterKey d_counterCount d_counterError d_smalls d_smallKey d_smallWeight d_timers d_timerKey d_timerTime x6 (upd d_logKey x2.toNatClampNeg x1) (upd d_logTime x2.toNatClampNeg x3) v4.2 d_marks d_markState d_markValue d_markHas d_markSmalls d_markSmallKey d_markSmallWeight d_markTimers d_markTimerKey d_markTimerTime d_markTime d_markRows d_markMatches d_markOut d_comes) H := hP
              have hD : va_D A (wv_d cI cJ cZ cM h_d a_d d_p d_r d_t d_slack d_m d_folds d_kinds d_declared w15.1 w15.2.1 d_lastValue w15.2.2.1 w15.2.2.2 d_parts d_rows d_inRound d_rounds d_flips d_passed d_matches d_moved d_time d_out d_loads d_counterKey d_counterCount d_counterError d_smalls d_smallKey d_smallWeight d_timers d_timerKey d_timerTime x6 (upd d_logKey x2.toNatClampNeg x1) (upd d_logTime x2.toNatClampNeg x3) v4.2 d_marks d_markState d_markValue d_markHas d_markSmalls d_markSmallKey d_markSmallWeight d_markTimers d_markTimerKey d_markTimerTime d_markTime d_markRows d_markMatches d_markOut d_comes) := hD
              obtain ⟨x16, ex16⟩ : ∃ y : Int32, y = v7.1 + 1 := ⟨_, rfl⟩
              have h := h x16 ex16
              refine lv_iinc (v := x16) (lv' := [(4, .int x16), (0, .ref h_d), (1, .int p1), (2, .int x1), (3, .int x2)]) hx hb dX8_ring_115 hl (k := 4) rfl (by rw [ex16]; rfl) (by decide) rfl (fun ls hl => ?_)
              refine lv_goto (tgt := 97) hx hb dX8_ring_118 (by decide) ?_
              exact ih97 (x16, w15.1, w15.2.1, w15.2.2.1, w15.2.2.2) H locs ls hP hD hS (lv_sub hl [1, 2, 3, 4, 0] rfl) h
        obtain ⟨n, h⟩ := h
        exact P97 n (0, d_states, d_lastRow, d_hasValue, d_touched) H locs ls hP hD hS (lv_sub hl [1, 2, 3, 4, 0] rfl) h
      · have h := h.2 c5
        refine lv_aload_n hx hb dX8_ring_44 rfl (lv_at hl 0 rfl) ?_
        refine va_get (D := D) (ci := 8) (v := .ref (a_d 36)) (C := RX8) (T := TX8) (N := 52) hx hb hta ih_X8 hown hK hP 0 rfl rfl 36 (by decide) (hta _ hw_782) (fun _ h9 => h9) rfl dX8_ring_45 ?_
        refine lv_bipush (v := 6) hx hb dX8_ring_48 (by decide) ?_
        refine lv_iload_n hx hb dX8_ring_50 rfl (lv_at hl 3 rfl) ?_
        refine lv_imul hx hb dX8_ring_51 ?_
        refine lv_iload hx hb dX8_ring_52 (lv_at hl 4 rfl) ?_
        refine lv_iadd hx hb dX8_ring_54 ?_
        refine lv_iload hx hb dX8_ring_55 (lv_at hl 4 rfl) ?_
        refine lv_aload_n hx hb dX8_ring_57 rfl (lv_at hl 0 rfl) ?_
        refine va_get (D := D) (ci := 8) (v := .int d_folds) (C := RX8) (T := TX8) (N := 52) hx hb hta ih_X8 hown hK hP 0 rfl rfl 5 (by decide) (hta _ hw_751) (fun _ h9 => h9) rfl dX8_ring_58 ?_
        refine lv_icmp_ge (tgt := 74) hx hb dX8_ring_61 (by decide) (fun c17 => ?_) (fun c17 => ?_)
        · have h := h.1 c17
          refine lv_ldc2 (v := (-4000000000000)) hx hb hown (hta _ hw_737) dX8_ring_74 ?_
          refine va_last hx hb hK hP hD hS 19 1 rfl rfl h.1 dX8_ring_77 (fun H locs hP hD hS => ?_)
          have h := h.2
          have hP : va_P D vwCl (wv_d cI cJ cZ cM h_d a_d d_p d_r d_t d_slack d_m d_folds d_kinds d_declared d_states d_lastRow d_lastValue d_hasValue d_touched d_parts d_rows d_inRound d_rounds d_flips d_passed d_matches d_moved d_time d_out d_loads d_counterKey d_counterCount d_counterError d_smalls d_smallKey d_smallWeight d_timers d_timerKey d_timerTime d_logged (upd d_logKey x2.toNatClampNeg x1) (upd d_logTime x2.toNatClampNeg x3) (vp_updL v4.2 ((6 * x2) + v4.1).toNatClampNeg (-4000000000000)) d_marks d_markState d_markValue d_markHas d_markSmalls d_markSmallKey d_markSmallWeight d_markTimers d_markTimerKey d_markTimerTime d_markTime d_markRows d_markMatches d_markOut d_comes) H := hP
          have hD : va_D A (wv_d cI cJ cZ cM h_d a_d d_p d_r d_t d_slack d_m d_folds d_kinds d_declared d_states d_lastRow d_lastValue d_hasValue d_touched d_parts d_rows d_inRound d_rounds d_flips d_passed d_matches d_moved d_time d_out d_loads d_counterKey d_counterCount d_counterError d_smalls d_smallKey d_smallWeight d_timers d_timerKey d_timerTime d_logged (upd d_logKey x2.toNatClampNeg x1) (upd d_logTime x2.toNatClampNeg x3) (vp_updL v4.2 ((6 * x2) + v4.1).toNatClampNeg (-4000000000000)) d_marks d_markState d_markValue d_markHas d_markSmalls d_markSmallKey d_markSmallWeight d_markTimers d_markTimerKey d_markTimerTime d_markTime d_markRows d_markMatches d_markOut d_comes) := hD
          obtain ⟨x18, ex18⟩ : ∃ y : Int32, y = v4.1 + 1 := ⟨_, rfl⟩
          have h := h x18 ex18
          refine lv_iinc (v := x18) (lv' := [(4, .int x18), (0, .ref h_d), (1, .int p1), (2, .int x1), (3, .int x2)]) hx hb dX8_ring_78 hl (k := 4) rfl (by rw [ex18]; rfl) (by decide) rfl (fun ls hl => ?_)
          refine lv_goto (tgt := 37) hx hb dX8_ring_81 (by decide) ?_
          exact ih37 (x18, vp_updL v4.2 ((6 * x2) + v4.1).toNatClampNeg (-4000000000000)) H locs ls hP hD hS (lv_sub hl [1, 2, 3, 4, 0] rfl) h
        · have h := h.2 c17
          refine lv_aload_n hx hb dX8_ring_64 rfl (lv_at hl 0 rfl) ?_
          refine lv_iload hx hb dX8_ring_65 (lv_at hl 4 rfl) ?_
          refine lv_iload_n hx hb dX8_ring_67 rfl (lv_at hl 2 rfl) ?_
          refine vp_callSl (hk_runV (As := [.int v4.1, .int x1]) (rest := [.int ((6 * x2) + v4.1), .ref (a_d 36)]) S0 mm_d_come (c_d_come l D cI cJ cZ cM h_d a_d d_p d_r d_t d_slack d_m d_folds d_kinds d_declared d_states d_lastRow d_lastValue d_hasValue d_touched d_parts d_rows d_inRound d_rounds d_flips d_passed d_matches d_moved d_time d_out d_loads d_counterKey d_counterCount d_counterError d_smalls d_smallKey d_smallWeight d_timers d_timerKey d_timerTime d_logged (upd d_logKey x2.toNatClampNeg x1) (upd d_logTime x2.toNatClampNeg x3) v4.2 d_marks d_markState d_markValue d_markHas d_markSmalls d_markSmallKey d_markSmallWeight d_markTimers d_markTimerKey d_markTimerTime d_markTime d_markRows d_markMatches d_markOut d_comes v4.1 x1 _ h) hw_982 hk_blR (hk_atR hP hK hN) (va_recv hK hP (ci := 8) (q0 := 0) rfl rfl) ⟨rfl, rfl, Nat.le_of_ble_eq_true rfl, Nat.le_of_ble_eq_true rfl⟩ rfl hl.1 rfl (Nat.le_of_ble_eq_true rfl) dX8_ring_68 ⟨Nat.le_of_ble_eq_true rfl, Nat.le_of_ble_eq_true rfl⟩).run (fun r19 h => ?_)
          refine lv_goto (tgt := 77) hx hb dX8_ring_71 (by decide) ?_
          refine va_last hx hb hK hP hD hS 19 1 rfl rfl h.1 dX8_ring_77 (fun H locs hP hD hS => ?_)
          have h := h.2
          have hP : va_P D vwCl (wv_d cI cJ cZ cM h_d a_d d_p d_r d_t d_slack d_m d_folds d_kinds d_declared d_states d_lastRow d_lastValue d_hasValue d_touched d_parts d_rows d_inRound d_rounds d_flips d_passed d_matches d_moved d_time d_out d_loads d_counterKey d_counterCount d_counterError d_smalls d_smallKey d_smallWeight d_timers d_timerKey d_timerTime d_logged (upd d_logKey x2.toNatClampNeg x1) (upd d_logTime x2.toNatClampNeg x3) (vp_updL v4.2 ((6 * x2) + v4.1).toNatClampNeg r19) d_marks d_markState d_markValue d_markHas d_markSmalls d_markSmallKey d_markSmallWeight d_markTimers d_markTimerKey d_markTimerTime d_markTime d_markRows d_markMatches d_markOut d_comes) H := hP
          have hD : va_D A (wv_d cI cJ cZ cM h_d a_d d_p d_r d_t d_slack d_m d_folds d_kinds d_declared d_states d_lastRow d_lastValue d_hasValue d_touched d_parts d_rows d_inRound d_rounds d_flips d_passed d_matches d_moved d_time d_out d_loads d_counterKey d_counterCount d_counterError d_smalls d_smallKey d_smallWeight d_timers d_timerKey d_timerTime d_logged (upd d_logKey x2.toNatClampNeg x1) (upd d_logTime x2.toNatClampNeg x3) (vp_updL v4.2 ((6 * x2) + v4.1).toNatClampNeg r19) d_marks d_markState d_markValue d_markHas d_markSmalls d_markSmallKey d_markSmallWeight d_markTimers d_markTimerKey d_markTimerTime d_markTime d_markRows d_markMatches d_markOut d_comes) := hD
          obtain ⟨x20, ex20⟩ : ∃ y : Int32, y = v4.1 + 1 := ⟨_, rfl⟩
          have h := h x20 ex20
          refine lv_iinc (v := x20) (lv' := [(4, .int x20), (0, .ref h_d), (1, .int p1), (2, .int x1), (3, .int x2)]) hx hb dX8_ring_78 hl (k := 4) rfl (by rw [ex20]; rfl) (by decide) rfl (fun ls hl => ?_)
          refine lv_goto (tgt := 37) hx hb dX8_ring_81 (by decide) ?_
          exact ih37 (x20, vp_updL v4.2 ((6 * x2) + v4.1).toNatClampNeg r19) H locs ls hP hD hS (lv_sub hl [1, 2, 3, 4, 0] rfl) h
  obtain ⟨n, h⟩ := h
  exact P37 n (0, d_logState) H locs ls hP hD hS (lv_sub hl [3, 4, 2, 1, 0] rfl) h
def wb_d_tick_26 (d_folds : Int32) (d_kinds : Nat → Int32) (d_parts : Nat → Int32) (p1 : Int32) (post : Int32 → ((Nat → Int64) × (Nat → Int32) × (Nat → Int32) × (Nat → Int32) × Int32 × Int32 × (Nat → Int32) × (Nat → Int32) × Int32 × (Nat → Int32) × (Nat → Int32) × (Nat → Int64)) → Prop) (K26 : (Int32 × Int32 × (Nat → Int64) × (Nat → Int32) × (Nat → Int32) × (Nat → Int32) × Int32 × (Nat → Int32) × (Nat → Int32) × Int32 × (Nat → Int32) × (Nat → Int32) × (Nat → Int64)) → Prop) (v4 : Int32 × Int32 × (Nat → Int64) × (Nat → Int32) × (Nat → Int32) × (Nat → Int32) × Int32 × (Nat → Int32) × (Nat → Int32) × Int32 × (Nat → Int32) × (Nat → Int32) × (Nat → Int64)) : Prop := (v4.2.1 < 0 → post v4.1 (v4.2.2.1, v4.2.2.2.1, v4.2.2.2.2.1, v4.2.2.2.2.2.1, p1, v4.2.2.2.2.2.2.1, v4.2.2.2.2.2.2.2.1, v4.2.2.2.2.2.2.2.2.1, v4.2.2.2.2.2.2.2.2.2.1, v4.2.2.2.2.2.2.2.2.2.2.1, v4.2.2.2.2.2.2.2.2.2.2.2.1, v4.2.2.2.2.2.2.2.2.2.2.2.2)) ∧ (¬ v4.2.1 < 0 → wp_d_ring v4.2.1 d_folds d_kinds v4.2.2.1 v4.2.2.2.1 v4.2.2.2.2.1 v4.2.2.2.2.2.1 d_parts v4.2.2.2.2.2.2.1 v4.2.2.2.2.2.2.2.1 v4.2.2.2.2.2.2.2.2.1 v4.2.2.2.2.2.2.2.2.2.1 v4.2.2.2.2.2.2.2.2.2.2.1 v4.2.2.2.2.2.2.2.2.2.2.2.1 v4.2.2.2.2.2.2.2.2.2.2.2.2 (fun (w6 : (Nat → Int64) × (Nat → Int32) × (Nat → Int32) × (Nat → Int32) × Int32 × (Nat → Int32) × (Nat → Int32) × Int32 × (Nat → Int32) × (Nat → Int32) × (Nat → Int64)) => ∀ x7 : Int32, x7 = v4.1 + 1 → wp_d_due p1 w6.2.2.2.2.1 w6.2.2.2.2.2.2.1 (fun (r8 : Int32) => K26 (x7, r8, w6.1, w6.2.1, w6.2.2.1, w6.2.2.2.1, w6.2.2.2.2.1, w6.2.2.2.2.2.1, w6.2.2.2.2.2.2.1, w6.2.2.2.2.2.2.2.1, w6.2.2.2.2.2.2.2.2.1, w6.2.2.2.2.2.2.2.2.2.1, w6.2.2.2.2.2.2.2.2.2.2))))
def wp_d_tick (p1 : Int32) (d_folds : Int32) (d_kinds : Nat → Int32) (d_states : Nat → Int64) (d_lastRow : Nat → Int32) (d_hasValue : Nat → Int32) (d_touched : Nat → Int32) (d_parts : Nat → Int32) (d_time : Int32) (d_timers : Int32) (d_timerKey : Nat → Int32) (d_timerTime : Nat → Int32) (d_logged : Int32) (d_logKey : Nat → Int32) (d_logTime : Nat → Int32) (d_logState : Nat → Int64) (post : Int32 → ((Nat → Int64) × (Nat → Int32) × (Nat → Int32) × (Nat → Int32) × Int32 × Int32 × (Nat → Int32) × (Nat → Int32) × Int32 × (Nat → Int32) × (Nat → Int32) × (Nat → Int64)) → Prop) : Prop := (p1 < d_time → post (-102) (d_states, d_lastRow, d_hasValue, d_touched, d_time, d_timers, d_timerKey, d_timerTime, d_logged, d_logKey, d_logTime, d_logState)) ∧ (¬ p1 < d_time → (p1 ≤ 1000000 → wp_d_due p1 d_timers d_timerTime (fun (r3 : Int32) => ∃ n, hk_lp (wb_d_tick_26 d_folds d_kinds d_parts p1 post) n (0, r3, d_states, d_lastRow, d_hasValue, d_touched, d_timers, d_timerKey, d_timerTime, d_logged, d_logKey, d_logTime, d_logState))) ∧ (¬ p1 ≤ 1000000 → post (-102) (d_states, d_lastRow, d_hasValue, d_touched, d_time, d_timers, d_timerKey, d_timerTime, d_logged, d_logKey, d_logTime, d_logState)))
theorem mm_d_tick : hk_MV yX8_tick cX8_tick 4 (some .int) 1 := ⟨hw_1053, hw_1051, hw_1052, hw_87, by decide +kernel⟩
set_option maxRecDepth 100000 in
set_option maxHeartbeats 4000000 in
theorem c_d_tick (l : Launch) (D : va_G) (cI cJ cZ cM : ClassId) (h_d : Nat) (a_d : Nat → Nat) (sz : Nat) (d_p : Int32) (d_r : Int32) (d_t : Int32) (d_slack : Int32) (d_m : Int32) (d_folds : Int32) (d_kinds : Nat → Int32) (d_declared : Nat → Int32) (d_states : Nat → Int64) (d_lastRow : Nat → Int32) (d_lastValue : Nat → Int32) (d_hasValue : Nat → Int32) (d_touched : Nat → Int32) (d_parts : Nat → Int32) (d_rows : Int32) (d_inRound : Int32) (d_rounds : Int32) (d_flips : Int32) (d_passed : Int32) (d_matches : Int32) (d_moved : Int32) (d_time : Int32) (d_out : Int64) (d_loads : Nat → Int32) (d_counterKey : Nat → Int32) (d_counterCount : Nat → Int32) (d_counterError : Nat → Int32) (d_smalls : Int32) (d_smallKey : Nat → Int32) (d_smallWeight : Nat → Int32) (d_timers : Int32) (d_timerKey : Nat → Int32) (d_timerTime : Nat → Int32) (d_logged : Int32) (d_logKey : Nat → Int32) (d_logTime : Nat → Int32) (d_logState : Nat → Int64) (d_marks : Int32) (d_markState : Nat → Int64) (d_markValue : Nat → Int32) (d_markHas : Nat → Int32) (d_markSmalls : Nat → Int32) (d_markSmallKey : Nat → Int32) (d_markSmallWeight : Nat → Int32) (d_markTimers : Nat → Int32) (d_markTimerKey : Nat → Int32) (d_markTimerTime : Nat → Int32) (d_markTime : Nat → Int32) (d_markRows : Nat → Int32) (d_markMatches : Nat → Int32) (d_markOut : Nat → Int64) (d_comes : Nat → Int64) (p1 : Int32) (post : Int32 → ((Nat → Int64) × (Nat → Int32) × (Nat → Int32) × (Nat → Int32) × Int32 × Int32 × (Nat → Int32) × (Nat → Int32) × Int32 × (Nat → Int32) × (Nat → Int32) × (Nat → Int64)) → Prop) (h : wp_d_tick p1 d_folds d_kinds d_states d_lastRow d_hasValue d_touched d_parts d_time d_timers d_timerKey d_timerTime d_logged d_logKey d_logTime d_logState post) : Met l yX8_tick (hk_ws yX8_tick cX8_tick 4 (some .int)) (hk_rm 3 76) (va_Pc [.ref h_d, .int p1] (hk_PM D (hk_ty cI cJ cZ cM) sz (wv_d cI cJ cZ cM h_d a_d d_p d_r d_t d_slack d_m d_folds d_kinds d_declared d_states d_lastRow d_lastValue d_hasValue d_touched d_parts d_rows d_inRound d_rounds d_flips d_passed d_matches d_moved d_time d_out d_loads d_counterKey d_counterCount d_counterError d_smalls d_smallKey d_smallWeight d_timers d_timerKey d_timerTime d_logged d_logKey d_logTime d_logState d_marks d_markState d_markValue d_markHas d_markSmalls d_markSmallKey d_markSmallWeight d_markTimers d_markTimerKey d_markTimerTime d_markTime d_markRows d_markMatches d_markOut d_comes))) (va_Qi post (hk_B D (va_A (wv_d cI cJ cZ cM h_d a_d d_p d_r d_t d_slack d_m d_folds d_kinds d_declared d_states d_lastRow d_lastValue d_hasValue d_touched d_parts d_rows d_inRound d_rounds d_flips d_passed d_matches d_moved d_time d_out d_loads d_counterKey d_counterCount d_counterError d_smalls d_smallKey d_smallWeight d_timers d_timerKey d_timerTime d_logged d_logKey d_logTime d_logState d_marks d_markState d_markValue d_markHas d_markSmalls d_markSmallKey d_markSmallWeight d_markTimers d_markTimerKey d_markTimerTime d_markTime d_markRows d_markMatches d_markOut d_comes) sz) (fun (u : (Nat → Int64) × (Nat → Int32) × (Nat → Int32) × (Nat → Int32) × Int32 × Int32 × (Nat → Int32) × (Nat → Int32) × Int32 × (Nat → Int32) × (Nat → Int32) × (Nat → Int64)) => wv_d cI cJ cZ cM h_d a_d d_p d_r d_t d_slack d_m d_folds d_kinds d_declared u.1 u.2.1 d_lastValue u.2.2.1 u.2.2.2.1 d_parts d_rows d_inRound d_rounds d_flips d_passed d_matches d_moved u.2.2.2.2.1 d_out d_loads d_counterKey d_counterCount d_counterError d_smalls d_smallKey d_smallWeight u.2.2.2.2.2.1 u.2.2.2.2.2.2.1 u.2.2.2.2.2.2.2.1 u.2.2.2.2.2.2.2.2.1 u.2.2.2.2.2.2.2.2.2.1 u.2.2.2.2.2.2.2.2.2.2.1 u.2.2.2.2.2.2.2.2.2.2.2 d_marks d_markState d_markValue d_markHas d_markSmalls d_markSmallKey d_markSmallWeight d_markTimers d_markTimerKey d_markTimerTime d_markTime d_markRows d_markMatches d_markOut d_comes)) (va_A (wv_d cI cJ cZ cM h_d a_d d_p d_r d_t d_slack d_m d_folds d_kinds d_declared d_states d_lastRow d_lastValue d_hasValue d_touched d_parts d_rows d_inRound d_rounds d_flips d_passed d_matches d_moved d_time d_out d_loads d_counterKey d_counterCount d_counterError d_smalls d_smallKey d_smallWeight d_timers d_timerKey d_timerTime d_logged d_logKey d_logTime d_logState d_marks d_markState d_markValue d_markHas d_markSmalls d_markSmallKey d_markSmallWeight d_markTimers d_markTimerKey d_markTimerTime d_markTime d_markRows d_markMatches d_markOut d_comes) sz)) 0 0 (va_A (wv_d cI cJ cZ cM h_d a_d d_p d_r d_t d_slack d_m d_folds d_kinds d_declared d_states d_lastRow d_lastValue d_hasValue d_touched d_parts d_rows d_inRound d_rounds d_flips d_passed d_matches d_moved d_time d_out d_loads d_counterKey d_counterCount d_counterError d_smalls d_smallKey d_smallWeight d_timers d_timerKey d_timerTime d_logged d_logKey d_logTime d_logState d_marks d_markState d_markValue d_markHas d_markSmalls d_markSmallKey d_markSmallWeight d_markTimers d_markTimerKey d_markTimerTime d_markTime d_markRows d_markMatches d_markOut d_comes) sz) := by
  refine Met.ofW (cc := cX8_tick) (maxL := 4) (ret := (some .int)) (by decide) rfl ?_
  intro p e s m args below meth c s₁ B hml hv
  obtain ⟨rfl, hsz, hP, hK, hD0, hN⟩ := hv
  have hx := B.exec
  have hb := B.bytes
  have hr := B.returns
  have hts := atoms_spec (ws := hk_ws yX8_tick cX8_tick 4 (some .int)) B.pre
  have hta : ∀ w ∈ hk_all, w.before ([.ref h_d, .int p1] : List Value).toArray s = true := fun w hw => hts w (List.mem_cons_of_mem _ hw)
  have hown : s.vm.findClass RX8 = some m.cls := findClass_of_methodNamed B.named
  have hlocks := B.notSynchronized
  have S0 : CallFix p m c cX8_tick 4 s ([.ref h_d, .int p1] : List Value).toArray hk_all RX8 := ⟨hx, hb, hml, hown, hta⟩
  subst hsz
  have hD := hD0.self (sz := s.heap.size)
  generalize hAe : va_A (wv_d cI cJ cZ cM h_d a_d d_p d_r d_t d_slack d_m d_folds d_kinds d_declared d_states d_lastRow d_lastValue d_hasValue d_touched d_parts d_rows d_inRound d_rounds d_flips d_passed d_matches d_moved d_time d_out d_loads d_counterKey d_counterCount d_counterError d_smalls d_smallKey d_smallWeight d_timers d_timerKey d_timerTime d_logged d_logKey d_logTime d_logState d_marks d_markState d_markValue d_markHas d_markSmalls d_markSmallKey d_markSmallWeight d_markTimers d_markTimerKey d_markTimerTime d_markTime d_markRows d_markMatches d_markOut d_comes) s.heap.size = A at hD ⊢
  have hA : ∀ q : Nat, s.heap.size ≤ q → A q := fun q h => by rw [← hAe]; exact Or.inr h
  have hS : va_S A s.heap s.heap [] := va_S.rf
  have hl := lv_entry ([.ref h_d, .int p1]) (n := 4) (Nat.le_of_ble_eq_true rfl)
  rw [lg_entry_eq]
  generalize (lg_sl ([.ref h_d, .int p1]) ++ List.replicate (4 - (lg_sl ([.ref h_d, .int p1])).length) Slot.unset).toArray = ls at hl ⊢
  have hl : lv_has ls 4 [(0, .ref h_d), (1, .int p1)] := hl
  unfold wp_d_tick at h
  refine lv_iload_n hx hb dX8_tick_0 rfl (lv_at hl 1 rfl) ?_
  refine lv_aload_n hx hb dX8_tick_1 rfl (lv_at hl 0 rfl) ?_
  refine va_get (D := D) (ci := 8) (v := .int d_time) (C := RX8) (T := TX8) (N := 52) hx hb hta ih_X8 hown hK hP 0 rfl rfl 21 (by decide) (hta _ hw_767) (fun _ h9 => h9) rfl dX8_tick_2 ?_
  refine lv_icmp_lt (tgt := 15) hx hb dX8_tick_5 (by decide) (fun c1 => ?_) (fun c1 => ?_)
  · have h := h.1 c1
    refine lv_bipush (v := (-102)) hx hb dX8_tick_15 (by decide) ?_
    exact W.iret (v := (-102)) hx hb hr (fun t ht hW => ⟨⟨(-102), (d_states, d_lastRow, d_hasValue, d_touched, d_time, d_timers, d_timerKey, d_timerTime, d_logged, d_logKey, d_logTime, d_logState), rfl, h, by rw [ht]; exact hP, hD⟩, hS.F ht⟩) hS.2.2 dX8_tick_17
  · have h := h.2 c1
    refine lv_iload_n hx hb dX8_tick_8 rfl (lv_at hl 1 rfl) ?_
    refine lv_ldcw (v := 1000000) hx hb hown (hta _ hw_1049) dX8_tick_9 ?_
    refine lv_icmp_le (tgt := 18) hx hb dX8_tick_12 (by decide) (fun c2 => ?_) (fun c2 => ?_)
    · have h := h.1 c2
      refine lv_iconst (v := 0) hx hb dX8_tick_18 (by decide) ?_
      refine lv_istore_n (lv' := [(2, .int 0), (0, .ref h_d), (1, .int p1)]) hx hb dX8_tick_19 rfl hl (by decide) rfl (fun ls hl => ?_)
      refine lv_aload_n hx hb dX8_tick_20 rfl (lv_at hl 1 rfl) ?_
      refine lv_iload_n hx hb dX8_tick_21 rfl (lv_at hl 2 rfl) ?_
      refine vp_callSi (hk_runV (As := [.int p1]) (rest := []) S0 mm_d_due (c_d_due l D cI cJ cZ cM h_d a_d d_p d_r d_t d_slack d_m d_folds d_kinds d_declared d_states d_lastRow d_lastValue d_hasValue d_touched d_parts d_rows d_inRound d_rounds d_flips d_passed d_matches d_moved d_time d_out d_loads d_counterKey d_counterCount d_counterError d_smalls d_smallKey d_smallWeight d_timers d_timerKey d_timerTime d_logged d_logKey d_logTime d_logState d_marks d_markState d_markValue d_markHas d_markSmalls d_markSmallKey d_markSmallWeight d_markTimers d_markTimerKey d_markTimerTime d_markTime d_markRows d_markMatches d_markOut d_comes p1 _ h) hw_1054 hk_blR (hk_atR hP hK hN) (va_recv hK hP (ci := 8) (q0 := 0) rfl rfl) ⟨rfl, rfl, Nat.le_of_ble_eq_true rfl, Nat.le_of_ble_eq_true rfl⟩ rfl hl.1 rfl (Nat.le_of_ble_eq_true rfl) dX8_tick_22 ⟨Nat.le_of_ble_eq_true rfl, Nat.le_of_ble_eq_true rfl⟩).run (fun r3 h => ?_)
      refine lv_istore_n (lv' := [(3, .int r3), (2, .int 0), (0, .ref h_d), (1, .int p1)]) hx hb dX8_tick_25 rfl hl (by decide) rfl (fun ls hl => ?_)
      have P26 : ∀ (n : Nat) (v4 : Int32 × Int32 × (Nat → Int64) × (Nat → Int32) × (Nat → Int32) × (Nat → Int32) × Int32 × (Nat → Int32) × (Nat → Int32) × Int32 × (Nat → Int32) × (Nat → Int32) × (Nat → Int64)) (H : Heap) (locs : List Loc) (ls : Array Slot), va_P D vwCl (wv_d cI cJ cZ cM h_d a_d d_p d_r d_t d_slack d_m d_folds d_kinds d_declared v4.2.2.1 v4.2.2.2.1 d_lastValue v4.2.2.2.2.1 v4.2.2.2.2.2.1 d_parts d_rows d_inRound d_rounds d_flips d_passed d_matches d_moved d_time d_out d_loads d_counterKey d_counterCount d_counterError d_smalls d_smallKey d_smallWeight v4.2.2.2.2.2.2.1 v4.2.2.2.2.2.2.2.1 v4.2.2.2.2.2.2.2.2.1 v4.2.2.2.2.2.2.2.2.2.1 v4.2.2.2.2.2.2.2.2.2.2.1 v4.2.2.2.2.2.2.2.2.2.2.2.1 v4.2.2.2.2.2.2.2.2.2.2.2.2 d_marks d_markState d_markValue d_markHas d_markSmalls d_markSmallKey d_markSmallWeight d_markTimers d_markTimerKey d_markTimerTime d_markTime d_markRows d_markMatches d_markOut d_comes) H → va_D A (wv_d cI cJ cZ cM h_d a_d d_p d_r d_t d_slack d_m d_folds d_kinds d_declared v4.2.2.1 v4.2.2.2.1 d_lastValue v4.2.2.2.2.1 v4.2.2.2.2.2.1 d_parts d_rows d_inRound d_rounds d_flips d_passed d_matches d_moved d_time d_out d_loads d_counterKey d_counterCount d_counterError d_smalls d_smallKey d_smallWeight v4.2.2.2.2.2.2.1 v4.2.2.2.2.2.2.2.1 v4.2.2.2.2.2.2.2.2.1 v4.2.2.2.2.2.2.2.2.2.1 v4.2.2.2.2.2.2.2.2.2.2.1 v4.2.2.2.2.2.2.2.2.2.2.2.1 v4.2.2.2.2.2.2.2.2.2.2.2.2 d_marks d_markState d_markValue d_markHas d_markSmalls d_markSmallKey d_markSmallWeight d_markTimers d_markTimerKey d_markTimerTime d_markTime d_markRows d_markMatches d_markOut d_comes) → va_S A s.heap H locs → lv_has ls 4 [(0, .ref h_d), (1, .int p1), (2, .int v4.1), (3, .int v4.2.1)] → hk_lp (wb_d_tick_26 d_folds d_kinds d_parts p1 post) n v4 → W p l e (headSpec (hk_ws yX8_tick cX8_tick 4 (some .int)) (hk_rm 3 76)).room s m ([.ref h_d, .int p1] : List Value).toArray below meth c H locs 0 0 (MQ below (va_Qi post (hk_B D (A) (fun (u : (Nat → Int64) × (Nat → Int32) × (Nat → Int32) × (Nat → Int32) × Int32 × Int32 × (Nat → Int32) × (Nat → Int32) × Int32 × (Nat → Int32) × (Nat → Int32) × (Nat → Int64)) => wv_d cI cJ cZ cM h_d a_d d_p d_r d_t d_slack d_m d_folds d_kinds d_declared u.1 u.2.1 d_lastValue u.2.2.1 u.2.2.2.1 d_parts d_rows d_inRound d_rounds d_flips d_passed d_matches d_moved u.2.2.2.2.1 d_out d_loads d_counterKey d_counterCount d_counterError d_smalls d_smallKey d_smallWeight u.2.2.2.2.2.1 u.2.2.2.2.2.2.1 u.2.2.2.2.2.2.2.1 u.2.2.2.2.2.2.2.2.1 u.2.2.2.2.2.2.2.2.2.1 u.2.2.2.2.2.2.2.2.2.2.1 u.2.2.2.2.2.2.2.2.2.2.2 d_marks d_markState d_markValue d_markHas d_markSmalls d_markSmallKey d_markSmallWeight d_markTimers d_markTimerKey d_markTimerTime d_markTime d_markRows d_markMatches d_markOut d_comes)) (A)) ([.ref h_d, .int p1] : List Value).toArray s 0 0 A) (F0 m 26 ls []) := by
        intro n
        induction n with
        | zero => intro v4 H locs ls hP hD hS hl h; exact False.elim h
        | succ n ih26 =>
          intro v4 H locs ls hP hD hS hl h
          have h : wb_d_tick_26 d_folds d_kinds d_parts p1 post (hk_lp (wb_d_tick_26 d_folds d_kinds d_parts p1 post) n) v4 := h
          generalize hk_lp (wb_d_tick_26 d_folds d_kinds d_parts p1 post) n = K26 at h ih26
          unfold wb_d_tick_26 at h
          refine lv_iload_n hx hb dX8_tick_26 rfl (lv_at hl 3 rfl) ?_
          refine lv_if_lt (tgt := 47) hx hb dX8_tick_27 (by decide) (fun c5 => ?_) (fun c5 => ?_)
          · have h := h.1 c5
            refine lv_aload_n hx hb dX8_tick_47 rfl (lv_at hl 0 rfl) ?_
            refine lv_iload_n hx hb dX8_tick_48 rfl (lv_at hl 1 rfl) ?_
            refine va_put (D := D) (ci := 8) (v := .int p1) (ty := .int) (C := RX8) (T := TX8) (N := 52) hx hb hta ih_X8 tyX8 tyX8_ok nmX8 hown hK hP hD hS 0 rfl rfl 21 (by decide) (hta _ hw_767) (fun _ h9 => h9) rfl (by decide +kernel) rfl rfl (Nat.le_of_ble_eq_true rfl) dX8_tick_49 (fun H locs hP hD hS => ?_)
            have hP : va_P D vwCl (wv_d cI cJ cZ cM h_d a_d d_p d_r d_t d_slack d_m d_folds d_kinds d_declared v4.2.2.1 v4.2.2.2.1 d_lastValue v4.2.2.2.2.1 v4.2.2.2.2.2.1 d_parts d_rows d_inRound d_rounds d_flips d_passed d_matches d_moved p1 d_out d_loads d_counterKey d_counterCount d_counterError d_smalls d_smallKey d_smallWeight v4.2.2.2.2.2.2.1 v4.2.2.2.2.2.2.2.1 v4.2.2.2.2.2.2.2.2.1 v4.2.2.2.2.2.2.2.2.2.1 v4.2.2.2.2.2.2.2.2.2.2.1 v4.2.2.2.2.2.2.2.2.2.2.2.1 v4.2.2.2.2.2.2.2.2.2.2.2.2 d_marks d_markState d_markValue d_markHas d_markSmalls d_markSmallKey d_markSmallWeight d_markTimers d_markTimerKey d_markTimerTime d_markTime d_markRows d_markMatches d_markOut d_comes) H := hP
            have hD : va_D A (wv_d cI cJ cZ cM h_d a_d d_p d_r d_t d_slack d_m d_folds d_kinds d_declared v4.2.2.1 v4.2.2.2.1 d_lastValue v4.2.2.2.2.1 v4.2.2.2.2.2.1 d_parts d_rows d_inRound d_rounds d_flips d_passed d_matches d_moved p1 d_out d_loads d_counterKey d_counterCount d_counterError d_smalls d_smallKey d_smallWeight v4.2.2.2.2.2.2.1 v4.2.2.2.2.2.2.2.1 v4.2.2.2.2.2.2.2.2.1 v4.2.2.2.2.2.2.2.2.2.1 v4.2.2.2.2.2.2.2.2.2.2.1 v4.2.2.2.2.2.2.2.2.2.2.2.1 v4.2.2.2.2.2.2.2.2.2.2.2.2 d_marks d_markState d_markValue d_markHas d_markSmalls d_markSmallKey d_markSmallWeight d_markTimers d_markTimerKey d_markTimerTime d_markTime d_markRows d_markMatches d_markOut d_comes) := hD
            refine lv_iload_n hx hb dX8_tick_52 rfl (lv_at hl 2 rfl) ?_
            exact W.iret (v := v4.1) hx hb hr (fun t ht hW => ⟨⟨v4.1, (v4.2.2.1, v4.2.2.2.1, v4.2.2.2.2.1, v4.2.2.2.2.2.1, p1, v4.2.2.2.2.2.2.1, v4.2.2.2.2.2.2.2.1, v4.2.2.2.2.2.2.2.2.1, v4.2.2.2.2.2.2.2.2.2.1, v4.2.2.2.2.2.2.2.2.2.2.1, v4.2.2.2.2.2.2.2.2.2.2.2.1, v4.2.2.2.2.2.2.2.2.2.2.2.2), rfl, h, by rw [ht]; exact hP, hD⟩, hS.F ht⟩) hS.2.2 dX8_tick_53
          · have h := h.2 c5
            refine lv_aload_n hx hb dX8_tick_30 rfl (lv_at hl 0 rfl) ?_
            refine lv_iload_n hx hb dX8_tick_31 rfl (lv_at hl 3 rfl) ?_
            refine hk_wv (hk_runV (As := [.int v4.2.1]) (rest := []) S0 mm_d_ring (c_d_ring l D cI cJ cZ cM h_d a_d H.size d_p d_r d_t d_slack d_m d_folds d_kinds d_declared v4.2.2.1 v4.2.2.2.1 d_lastValue v4.2.2.2.2.1 v4.2.2.2.2.2.1 d_parts d_rows d_inRound d_rounds d_flips d_passed d_matches d_moved d_time d_out d_loads d_counterKey d_counterCount d_counterError d_smalls d_smallKey d_smallWeight v4.2.2.2.2.2.2.1 v4.2.2.2.2.2.2.2.1 v4.2.2.2.2.2.2.2.2.1 v4.2.2.2.2.2.2.2.2.2.1 v4.2.2.2.2.2.2.2.2.2.2.1 v4.2.2.2.2.2.2.2.2.2.2.2.1 v4.2.2.2.2.2.2.2.2.2.2.2.2 d_marks d_markState d_markValue d_markHas d_markSmalls d_markSmallKey d_markSmallWeight d_markTimers d_markTimerKey d_markTimerTime d_markTime d_markRows d_markMatches d_markOut d_comes v4.2.1 _ h) hw_1058 hk_blM (hk_atM hP hK hD hN) (va_recv hK hP (ci := 8) (q0 := 0) rfl rfl) ⟨rfl, rfl, Nat.le_of_ble_eq_true rfl, Nat.le_of_ble_eq_true rfl⟩ rfl hl.1 rfl (Nat.le_of_ble_eq_true rfl) dX8_tick_32 ⟨Nat.le_of_ble_eq_true rfl, Nat.le_of_ble_eq_true rfl⟩) hD hS hA (fun w6 H locs h hP hD hS => ?_)
            have hP : va_P D vwCl (wv_d cI cJ cZ cM h_d a_d d_p d_r d_t d_slack d_m d_folds d_kinds d_declared w6.1 w6.2.1 d_lastValue w6.2.2.1 w6.2.2.2.1 d_parts d_rows d_inRound d_rounds d_flips d_passed d_matches d_moved d_time d_out d_loads d_counterKey d_counterCount d_counterError d_smalls d_smallKey d_smallWeight w6.2.2.2.2.1 w6.2.2.2.2.2.1 w6.2.2.2.2.2.2.1 w6.2.2.2.2.2.2.2.1 w6.2.2.2.2.2.2.2.2.1 w6.2.2.2.2.2.2.2.2.2.1 w6.2.2.2.2.2.2.2.2.2.2 d_marks d_markState d_markValue d_markHas d_markSmalls d_markSmallKey d_markSmallWeight d_markTimers d_markTimerKey d_markTimerTime d_markTime d_markRows d_markMatches d_markOut d_comes) H := hP
            have hD : va_D A (wv_d cI cJ cZ cM h_d a_d d_p d_r d_t d_slack d_m d_folds d_kinds d_declared w6.1 w6.2.1 d_lastValue w6.2.2.1 w6.2.2.2.1 d_parts d_rows d_inRound d_rounds d_flips d_passed d_matches d_moved d_time d_out d_loads d_counterKey d_counterCount d_counterError d_smalls d_smallKey d_smallWeight w6.2.2.2.2.1 w6.2.2.2.2.2.1 w6.2.2.2.2.2.2.1 w6.2.2.2.2.2.2.2.1 w6.2.2.2.2.2.2.2.2.1 w6.2.2.2.2.2.2.2.2.2.1 w6.2.2.2.2.2.2.2.2.2.2 d_marks d_markState d_markValue d_markHas d_markSmalls d_markSmallKey d_markSmallWeight d_markTimers d_markTimerKey d_markTimerTime d_markTime d_markRows d_markMatches d_markOut d_comes) := hD
            obtain ⟨x7, ex7⟩ : ∃ y : Int32, y = v4.1 + 1 := ⟨_, rfl⟩
            have h := h x7 ex7
            refine lv_iinc (v := x7) (lv' := [(2, .int x7), (0, .ref h_d), (1, .int p1), (3, .int v4.2.1)]) hx hb dX8_tick_35 hl (k := 2) rfl (by rw [ex7]; rfl) (by decide) rfl (fun ls hl => ?_)
            refine lv_aload_n hx hb dX8_tick_38 rfl (lv_at hl 1 rfl) ?_
            refine lv_iload_n hx hb dX8_tick_39 rfl (lv_at hl 2 rfl) ?_
            refine vp_callSi (hk_runV (As := [.int p1]) (rest := []) S0 mm_d_due (c_d_due l D cI cJ cZ cM h_d a_d d_p d_r d_t d_slack d_m d_folds d_kinds d_declared w6.1 w6.2.1 d_lastValue w6.2.2.1 w6.2.2.2.1 d_parts d_rows d_inRound d_rounds d_flips d_passed d_matches d_moved d_time d_out d_loads d_counterKey d_counterCount d_counterError d_smalls d_smallKey d_smallWeight w6.2.2.2.2.1 w6.2.2.2.2.2.1 w6.2.2.2.2.2.2.1 w6.2.2.2.2.2.2.2.1 w6.2.2.2.2.2.2.2.2.1 w6.2.2.2.2.2.2.2.2.2.1 w6.2.2.2.2.2.2.2.2.2.2 d_marks d_markState d_markValue d_markHas d_markSmalls d_markSmallKey d_markSmallWeight d_markTimers d_markTimerKey d_markTimerTime d_markTime d_markRows d_markMatches d_markOut d_comes p1 _ h) hw_1054 hk_blR (hk_atR hP hK hN) (va_recv hK hP (ci := 8) (q0 := 0) rfl rfl) ⟨rfl, rfl, Nat.le_of_ble_eq_true rfl, Nat.le_of_ble_eq_true rfl⟩ rfl hl.1 rfl (Nat.le_of_ble_eq_true rfl) dX8_tick_40 ⟨Nat.le_of_ble_eq_true rfl, Nat.le_of_ble_eq_true rfl⟩).run (fun r8 h => ?_)
            refine lv_istore_n (lv' := [(3, .int r8), (2, .int x7), (0, .ref h_d), (1, .int p1)]) hx hb dX8_tick_43 rfl hl (by decide) rfl (fun ls hl => ?_)
            refine lv_goto (tgt := 26) hx hb dX8_tick_44 (by decide) ?_
            exact ih26 (x7, r8, w6.1, w6.2.1, w6.2.2.1, w6.2.2.2.1, w6.2.2.2.2.1, w6.2.2.2.2.2.1, w6.2.2.2.2.2.2.1, w6.2.2.2.2.2.2.2.1, w6.2.2.2.2.2.2.2.2.1, w6.2.2.2.2.2.2.2.2.2.1, w6.2.2.2.2.2.2.2.2.2.2) H locs ls hP hD hS (lv_sub hl [2, 3, 1, 0] rfl) h
      obtain ⟨n, h⟩ := h
      exact P26 n (0, r3, d_states, d_lastRow, d_hasValue, d_touched, d_timers, d_timerKey, d_timerTime, d_logged, d_logKey, d_logTime, d_logState) s.heap [] ls hP hD hS (lv_sub hl [2, 3, 1, 0] rfl) h
    · have h := h.2 c2
      refine lv_bipush (v := (-102)) hx hb dX8_tick_15 (by decide) ?_
      exact W.iret (v := (-102)) hx hb hr (fun t ht hW => ⟨⟨(-102), (d_states, d_lastRow, d_hasValue, d_touched, d_time, d_timers, d_timerKey, d_timerTime, d_logged, d_logKey, d_logTime, d_logState), rfl, h, by rw [ht]; exact hP, hD⟩, hS.F ht⟩) hS.2.2 dX8_tick_17
def wp_d_keptLogs  (d_logged : Int32) (post : Int32 → Prop) : Prop := (64 ≤ d_logged → post 64) ∧ (¬ 64 ≤ d_logged → post d_logged)
theorem mm_d_keptLogs : hk_MV yX8_keptLogs cX8_keptLogs 1 (some .int) 0 := ⟨hw_1069, hw_1068, hw_77, hw_87, by decide +kernel⟩
set_option maxRecDepth 100000 in
set_option maxHeartbeats 4000000 in
theorem c_d_keptLogs (l : Launch) (D : va_G) (cI cJ cZ cM : ClassId) (h_d : Nat) (a_d : Nat → Nat)  (d_p : Int32) (d_r : Int32) (d_t : Int32) (d_slack : Int32) (d_m : Int32) (d_folds : Int32) (d_kinds : Nat → Int32) (d_declared : Nat → Int32) (d_states : Nat → Int64) (d_lastRow : Nat → Int32) (d_lastValue : Nat → Int32) (d_hasValue : Nat → Int32) (d_touched : Nat → Int32) (d_parts : Nat → Int32) (d_rows : Int32) (d_inRound : Int32) (d_rounds : Int32) (d_flips : Int32) (d_passed : Int32) (d_matches : Int32) (d_moved : Int32) (d_time : Int32) (d_out : Int64) (d_loads : Nat → Int32) (d_counterKey : Nat → Int32) (d_counterCount : Nat → Int32) (d_counterError : Nat → Int32) (d_smalls : Int32) (d_smallKey : Nat → Int32) (d_smallWeight : Nat → Int32) (d_timers : Int32) (d_timerKey : Nat → Int32) (d_timerTime : Nat → Int32) (d_logged : Int32) (d_logKey : Nat → Int32) (d_logTime : Nat → Int32) (d_logState : Nat → Int64) (d_marks : Int32) (d_markState : Nat → Int64) (d_markValue : Nat → Int32) (d_markHas : Nat → Int32) (d_markSmalls : Nat → Int32) (d_markSmallKey : Nat → Int32) (d_markSmallWeight : Nat → Int32) (d_markTimers : Nat → Int32) (d_markTimerKey : Nat → Int32) (d_markTimerTime : Nat → Int32) (d_markTime : Nat → Int32) (d_markRows : Nat → Int32) (d_markMatches : Nat → Int32) (d_markOut : Nat → Int64) (d_comes : Nat → Int64)  (post : Int32 → Prop) (h : wp_d_keptLogs d_logged post) : Met l yX8_keptLogs (hk_ws yX8_keptLogs cX8_keptLogs 1 (some .int)) (hk_rm 0 0) (va_Pc [.ref h_d] (hk_PR D (hk_ty cI cJ cZ cM) (wv_d cI cJ cZ cM h_d a_d d_p d_r d_t d_slack d_m d_folds d_kinds d_declared d_states d_lastRow d_lastValue d_hasValue d_touched d_parts d_rows d_inRound d_rounds d_flips d_passed d_matches d_moved d_time d_out d_loads d_counterKey d_counterCount d_counterError d_smalls d_smallKey d_smallWeight d_timers d_timerKey d_timerTime d_logged d_logKey d_logTime d_logState d_marks d_markState d_markValue d_markHas d_markSmalls d_markSmallKey d_markSmallWeight d_markTimers d_markTimerKey d_markTimerTime d_markTime d_markRows d_markMatches d_markOut d_comes))) (vp_Si post) 0 0 (fun _ => False) := by
  refine Met.ofW (cc := cX8_keptLogs) (maxL := 1) (ret := (some .int)) (by decide) rfl ?_
  intro p e s m args below meth c s₁ B hml hv
  obtain ⟨rfl, hP, hK, hN⟩ := hv
  have hx := B.exec
  have hb := B.bytes
  have hr := B.returns
  have hts := atoms_spec (ws := hk_ws yX8_keptLogs cX8_keptLogs 1 (some .int)) B.pre
  have hta : ∀ w ∈ hk_all, w.before ([.ref h_d] : List Value).toArray s = true := fun w hw => hts w (List.mem_cons_of_mem _ hw)
  have hown : s.vm.findClass RX8 = some m.cls := findClass_of_methodNamed B.named
  have hlocks := B.notSynchronized
  have S0 : CallFix p m c cX8_keptLogs 1 s ([.ref h_d] : List Value).toArray hk_all RX8 := ⟨hx, hb, hml, hown, hta⟩
  have hl := lv_entry ([.ref h_d]) (n := 1) (Nat.le_of_ble_eq_true rfl)
  rw [lg_entry_eq]
  generalize (lg_sl ([.ref h_d]) ++ List.replicate (1 - (lg_sl ([.ref h_d])).length) Slot.unset).toArray = ls at hl ⊢
  have hl : lv_has ls 1 [(0, .ref h_d)] := hl
  unfold wp_d_keptLogs at h
  refine lv_aload_n hx hb dX8_keptLogs_0 rfl (lv_at hl 0 rfl) ?_
  refine va_get (D := D) (ci := 8) (v := .int d_logged) (C := RX8) (T := TX8) (N := 52) hx hb hta ih_X8 hown hK hP 0 rfl rfl 33 (by decide) (hta _ hw_779) (fun _ h9 => h9) rfl dX8_keptLogs_1 ?_
  refine lv_bipush (v := 64) hx hb dX8_keptLogs_4 (by decide) ?_
  refine lv_icmp_ge (tgt := 16) hx hb dX8_keptLogs_6 (by decide) (fun c1 => ?_) (fun c1 => ?_)
  · have h := h.1 c1
    refine lv_bipush (v := 64) hx hb dX8_keptLogs_16 (by decide) ?_
    exact W.iret (v := 64) hx hb hr (fun t ht hW => ⟨_, rfl, h, ht⟩) (fun _ hq => by cases hq) dX8_keptLogs_18
  · have h := h.2 c1
    refine lv_aload_n hx hb dX8_keptLogs_9 rfl (lv_at hl 0 rfl) ?_
    refine va_get (D := D) (ci := 8) (v := .int d_logged) (C := RX8) (T := TX8) (N := 52) hx hb hta ih_X8 hown hK hP 0 rfl rfl 33 (by decide) (hta _ hw_779) (fun _ h9 => h9) rfl dX8_keptLogs_10 ?_
    refine lv_goto (tgt := 18) hx hb dX8_keptLogs_13 (by decide) ?_
    exact W.iret (v := d_logged) hx hb hr (fun t ht hW => ⟨_, rfl, h, ht⟩) (fun _ hq => by cases hq) dX8_keptLogs_18
def wp_d_log (p1 : Int32) (p2 : Int32) (d_logged : Int32) (d_logKey : Nat → Int32) (d_logTime : Nat → Int32) (d_logState : Nat → Int64) (post : Int64 → Prop) : Prop := wp_d_keptLogs d_logged (fun (r1 : Int32) => wp_d_in p1.toInt64 0 ((r1 - 1).toInt64) (fun (r2 : Int32) => (r2 = 0 → post (-4000000000000)) ∧ (¬ r2 = 0 → wp_d_in p2.toInt64 0 7 (fun (r4 : Int32) => (¬ r4 = 0 → ∀ x6 : Int32, x6 = ((d_logged - 1) - p1) - ((d_logged - 1) - p1) / 64 * 64 → (¬ p2 = 0 → (¬ p2 = 1 → vp_in (((6 * x6) + p2) - 2) 384 ∧ (post (d_logState (((6 * x6) + p2) - 2).toNatClampNeg))) ∧ (p2 = 1 → vp_in x6 64 ∧ (post ((d_logTime x6.toNatClampNeg).toInt64)))) ∧ (p2 = 0 → vp_in x6 64 ∧ (post ((d_logKey x6.toNatClampNeg).toInt64)))) ∧ (r4 = 0 → post (-4000000000000))))))
theorem mm_d_log : hk_MV yX8_log cX8_log 4 (some .long) 2 := ⟨hw_1065, hw_1063, hw_1064, hw_87, by decide +kernel⟩
set_option maxRecDepth 100000 in
set_option maxHeartbeats 4000000 in
theorem c_d_log (l : Launch) (D : va_G) (cI cJ cZ cM : ClassId) (h_d : Nat) (a_d : Nat → Nat)  (d_p : Int32) (d_r : Int32) (d_t : Int32) (d_slack : Int32) (d_m : Int32) (d_folds : Int32) (d_kinds : Nat → Int32) (d_declared : Nat → Int32) (d_states : Nat → Int64) (d_lastRow : Nat → Int32) (d_lastValue : Nat → Int32) (d_hasValue : Nat → Int32) (d_touched : Nat → Int32) (d_parts : Nat → Int32) (d_rows : Int32) (d_inRound : Int32) (d_rounds : Int32) (d_flips : Int32) (d_passed : Int32) (d_matches : Int32) (d_moved : Int32) (d_time : Int32) (d_out : Int64) (d_loads : Nat → Int32) (d_counterKey : Nat → Int32) (d_counterCount : Nat → Int32) (d_counterError : Nat → Int32) (d_smalls : Int32) (d_smallKey : Nat → Int32) (d_smallWeight : Nat → Int32) (d_timers : Int32) (d_timerKey : Nat → Int32) (d_timerTime : Nat → Int32) (d_logged : Int32) (d_logKey : Nat → Int32) (d_logTime : Nat → Int32) (d_logState : Nat → Int64) (d_marks : Int32) (d_markState : Nat → Int64) (d_markValue : Nat → Int32) (d_markHas : Nat → Int32) (d_markSmalls : Nat → Int32) (d_markSmallKey : Nat → Int32) (d_markSmallWeight : Nat → Int32) (d_markTimers : Nat → Int32) (d_markTimerKey : Nat → Int32) (d_markTimerTime : Nat → Int32) (d_markTime : Nat → Int32) (d_markRows : Nat → Int32) (d_markMatches : Nat → Int32) (d_markOut : Nat → Int64) (d_comes : Nat → Int64) (p1 : Int32) (p2 : Int32) (post : Int64 → Prop) (h : wp_d_log p1 p2 d_logged d_logKey d_logTime d_logState post) : Met l yX8_log (hk_ws yX8_log cX8_log 4 (some .long)) (hk_rm 1 25) (va_Pc [.ref h_d, .int p1, .int p2] (hk_PR D (hk_ty cI cJ cZ cM) (wv_d cI cJ cZ cM h_d a_d d_p d_r d_t d_slack d_m d_folds d_kinds d_declared d_states d_lastRow d_lastValue d_hasValue d_touched d_parts d_rows d_inRound d_rounds d_flips d_passed d_matches d_moved d_time d_out d_loads d_counterKey d_counterCount d_counterError d_smalls d_smallKey d_smallWeight d_timers d_timerKey d_timerTime d_logged d_logKey d_logTime d_logState d_marks d_markState d_markValue d_markHas d_markSmalls d_markSmallKey d_markSmallWeight d_markTimers d_markTimerKey d_markTimerTime d_markTime d_markRows d_markMatches d_markOut d_comes))) (vp_Sl post) 0 0 (fun _ => False) := by
  refine Met.ofW (cc := cX8_log) (maxL := 4) (ret := (some .long)) (by decide) rfl ?_
  intro p e s m args below meth c s₁ B hml hv
  obtain ⟨rfl, hP, hK, hN⟩ := hv
  have hx := B.exec
  have hb := B.bytes
  have hr := B.returns
  have hts := atoms_spec (ws := hk_ws yX8_log cX8_log 4 (some .long)) B.pre
  have hta : ∀ w ∈ hk_all, w.before ([.ref h_d, .int p1, .int p2] : List Value).toArray s = true := fun w hw => hts w (List.mem_cons_of_mem _ hw)
  have hown : s.vm.findClass RX8 = some m.cls := findClass_of_methodNamed B.named
  have hlocks := B.notSynchronized
  have S0 : CallFix p m c cX8_log 4 s ([.ref h_d, .int p1, .int p2] : List Value).toArray hk_all RX8 := ⟨hx, hb, hml, hown, hta⟩
  have hl := lv_entry ([.ref h_d, .int p1, .int p2]) (n := 4) (Nat.le_of_ble_eq_true rfl)
  rw [lg_entry_eq]
  generalize (lg_sl ([.ref h_d, .int p1, .int p2]) ++ List.replicate (4 - (lg_sl ([.ref h_d, .int p1, .int p2])).length) Slot.unset).toArray = ls at hl ⊢
  have hl : lv_has ls 4 [(0, .ref h_d), (1, .int p1), (2, .int p2)] := hl
  unfold wp_d_log at h
  refine lv_iload_n hx hb dX8_log_0 rfl (lv_at hl 1 rfl) ?_
  refine lv_i2l (v := p1.toInt64) hx hb dX8_log_1 rfl ?_
  refine lv_lconst (v := 0) hx hb dX8_log_2 (by decide) ?_
  refine lv_aload_n hx hb dX8_log_3 rfl (lv_at hl 0 rfl) ?_
  refine vp_callSi (hk_runV (As := []) (rest := [.long 0, .long p1.toInt64]) S0 mm_d_keptLogs (c_d_keptLogs l D cI cJ cZ cM h_d a_d d_p d_r d_t d_slack d_m d_folds d_kinds d_declared d_states d_lastRow d_lastValue d_hasValue d_touched d_parts d_rows d_inRound d_rounds d_flips d_passed d_matches d_moved d_time d_out d_loads d_counterKey d_counterCount d_counterError d_smalls d_smallKey d_smallWeight d_timers d_timerKey d_timerTime d_logged d_logKey d_logTime d_logState d_marks d_markState d_markValue d_markHas d_markSmalls d_markSmallKey d_markSmallWeight d_markTimers d_markTimerKey d_markTimerTime d_markTime d_markRows d_markMatches d_markOut d_comes _ h) hw_1066 hk_blR (hk_atR hP hK hN) (va_recv hK hP (ci := 8) (q0 := 0) rfl rfl) ⟨rfl, rfl, Nat.le_of_ble_eq_true rfl, Nat.le_of_ble_eq_true rfl⟩ rfl hl.1 rfl (Nat.le_of_ble_eq_true rfl) dX8_log_4 ⟨Nat.le_of_ble_eq_true rfl, Nat.le_of_ble_eq_true rfl⟩).run (fun r1 h => ?_)
  refine lv_iconst (v := 1) hx hb dX8_log_7 (by decide) ?_
  refine lv_isub hx hb dX8_log_8 ?_
  refine lv_i2l (v := (r1 - 1).toInt64) hx hb dX8_log_9 rfl ?_
  refine vp_callSi (hk_runS (As := [.long p1.toInt64, .long 0, .long ((r1 - 1).toInt64)]) (rest := []) S0 mm_d_in (c_d_in l D cI cJ cZ cM p1.toInt64 0 ((r1 - 1).toInt64) _ h) hw_909 hk_blR (hk_atR (hP.sub (ws' := ([] : va_W)) [] rfl) hK hN) ⟨rfl, rfl, Nat.le_of_ble_eq_true rfl, Nat.le_of_ble_eq_true rfl⟩ rfl hl.1 rfl (Nat.le_of_ble_eq_true rfl) dX8_log_10 ⟨Nat.le_of_ble_eq_true rfl, Nat.le_of_ble_eq_true rfl⟩).run (fun r2 h => ?_)
  refine lv_if_eq (tgt := 28) hx hb dX8_log_13 (by decide) (fun c3 => ?_) (fun c3 => ?_)
  · have h := h.1 c3
    refine lv_ldc2 (v := (-4000000000000)) hx hb hown (hta _ hw_737) dX8_log_28 ?_
    exact W.lret (v := (-4000000000000)) hx hb hr (fun t ht hW => ⟨_, rfl, h, ht⟩) (fun _ hq => by cases hq) dX8_log_31
  · have h := h.2 c3
    refine lv_iload_n hx hb dX8_log_16 rfl (lv_at hl 2 rfl) ?_
    refine lv_i2l (v := p2.toInt64) hx hb dX8_log_17 rfl ?_
    refine lv_lconst (v := 0) hx hb dX8_log_18 (by decide) ?_
    refine lv_ldc2 (v := 7) hx hb hown (hta _ hw_736) dX8_log_19 ?_
    refine vp_callSi (hk_runS (As := [.long p2.toInt64, .long 0, .long 7]) (rest := []) S0 mm_d_in (c_d_in l D cI cJ cZ cM p2.toInt64 0 7 _ h) hw_909 hk_blR (hk_atR (hP.sub (ws' := ([] : va_W)) [] rfl) hK hN) ⟨rfl, rfl, Nat.le_of_ble_eq_true rfl, Nat.le_of_ble_eq_true rfl⟩ rfl hl.1 rfl (Nat.le_of_ble_eq_true rfl) dX8_log_22 ⟨Nat.le_of_ble_eq_true rfl, Nat.le_of_ble_eq_true rfl⟩).run (fun r4 h => ?_)
    refine lv_if_ne (tgt := 32) hx hb dX8_log_25 (by decide) (fun c5 => ?_) (fun c5 => ?_)
    · have h := h.1 c5
      refine lv_aload_n hx hb dX8_log_32 rfl (lv_at hl 0 rfl) ?_
      refine va_get (D := D) (ci := 8) (v := .int d_logged) (C := RX8) (T := TX8) (N := 52) hx hb hta ih_X8 hown hK hP 0 rfl rfl 33 (by decide) (hta _ hw_779) (fun _ h9 => h9) rfl dX8_log_33 ?_
      refine lv_iconst (v := 1) hx hb dX8_log_36 (by decide) ?_
      refine lv_isub hx hb dX8_log_37 ?_
      refine lv_iload_n hx hb dX8_log_38 rfl (lv_at hl 1 rfl) ?_
      refine lv_isub hx hb dX8_log_39 ?_
      refine lv_bipush (v := 64) hx hb dX8_log_40 (by decide) ?_
      refine lv_irem hx hb dX8_log_42 (by decide) ?_
      refine lv_topi (fun x6 ex6 => ?_)
      have h := h x6 ex6
      refine lv_istore_n (lv' := [(3, .int x6), (0, .ref h_d), (1, .int p1), (2, .int p2)]) hx hb dX8_log_43 rfl hl (by decide) rfl (fun ls hl => ?_)
      refine lv_iload_n hx hb dX8_log_44 rfl (lv_at hl 3 rfl) ?_
      refine lv_if_ne (tgt := 58) hx hb dX8_log_45 (by decide) (fun c7 => ?_) (fun c7 => ?_)
      · have h := h.1 c7
        refine lv_iload_n hx hb dX8_log_58 rfl (lv_at hl 3 rfl) ?_
        refine lv_iconst (v := 1) hx hb dX8_log_59 (by decide) ?_
        refine lv_icmp_ne (tgt := 73) hx hb dX8_log_60 (by decide) (fun c8 => ?_) (fun c8 => ?_)
        · have h := h.1 c8
          refine lv_aload_n hx hb dX8_log_73 rfl (lv_at hl 1 rfl) ?_
          refine va_get (D := D) (ci := 8) (v := .ref (a_d 36)) (C := RX8) (T := TX8) (N := 52) hx hb hta ih_X8 hown hK hP 0 rfl rfl 36 (by decide) (hta _ hw_782) (fun _ h9 => h9) rfl dX8_log_74 ?_
          refine lv_bipush (v := 6) hx hb dX8_log_77 (by decide) ?_
          refine lv_iload_n hx hb dX8_log_79 rfl (lv_at hl 0 rfl) ?_
          refine lv_imul hx hb dX8_log_80 ?_
          refine lv_iload_n hx hb dX8_log_81 rfl (lv_at hl 3 rfl) ?_
          refine lv_iadd hx hb dX8_log_82 ?_
          refine lv_iconst (v := 2) hx hb dX8_log_83 (by decide) ?_
          refine lv_isub hx hb dX8_log_84 ?_
          refine va_lald hx hb hK hP 19 1 rfl rfl h.1 dX8_log_85 ?_
          have h := h.2
          exact W.lret (v := d_logState (((6 * x6) + p2) - 2).toNatClampNeg) hx hb hr (fun t ht hW => ⟨_, rfl, h, ht⟩) (fun _ hq => by cases hq) dX8_log_86
        · have h := h.2 c8
          refine lv_aload_n hx hb dX8_log_63 rfl (lv_at hl 1 rfl) ?_
          refine va_get (D := D) (ci := 8) (v := .ref (a_d 35)) (C := RX8) (T := TX8) (N := 52) hx hb hta ih_X8 hown hK hP 0 rfl rfl 35 (by decide) (hta _ hw_781) (fun _ h9 => h9) rfl dX8_log_64 ?_
          refine lv_iload_n hx hb dX8_log_67 rfl (lv_at hl 0 rfl) ?_
          refine va_iald hx hb hK hP 18 0 rfl rfl h.1 dX8_log_68 ?_
          have h := h.2
          refine lv_i2l (v := (d_logTime x6.toNatClampNeg).toInt64) hx hb dX8_log_69 rfl ?_
          refine lv_goto (tgt := 86) hx hb dX8_log_70 (by decide) ?_
          exact W.lret (v := (d_logTime x6.toNatClampNeg).toInt64) hx hb hr (fun t ht hW => ⟨_, rfl, h, ht⟩) (fun _ hq => by cases hq) dX8_log_86
      · have h := h.2 c7
        refine lv_aload_n hx hb dX8_log_48 rfl (lv_at hl 1 rfl) ?_
        refine va_get (D := D) (ci := 8) (v := .ref (a_d 34)) (C := RX8) (T := TX8) (N := 52) hx hb hta ih_X8 hown hK hP 0 rfl rfl 34 (by decide) (hta _ hw_780) (fun _ h9 => h9) rfl dX8_log_49 ?_
        refine lv_iload_n hx hb dX8_log_52 rfl (lv_at hl 0 rfl) ?_
        refine va_iald hx hb hK hP 17 0 rfl rfl h.1 dX8_log_53 ?_
        have h := h.2
        refine lv_i2l (v := (d_logKey x6.toNatClampNeg).toInt64) hx hb dX8_log_54 rfl ?_
        refine lv_goto (tgt := 86) hx hb dX8_log_55 (by decide) ?_
        exact W.lret (v := (d_logKey x6.toNatClampNeg).toInt64) hx hb hr (fun t ht hW => ⟨_, rfl, h, ht⟩) (fun _ hq => by cases hq) dX8_log_86
    · have h := h.2 c5
      refine lv_ldc2 (v := (-4000000000000)) hx hb hown (hta _ hw_737) dX8_log_28 ?_
      exact W.lret (v := (-4000000000000)) hx hb hr (fun t ht hW => ⟨_, rfl, h, ht⟩) (fun _ hq => by cases hq) dX8_log_31
def wp_d_told (p1 : Int32) (d_folds : Int32) (d_parts : Nat → Int32) (d_rows : Int32) (d_inRound : Int32) (d_rounds : Int32) (d_flips : Int32) (d_passed : Int32) (d_matches : Int32) (d_moved : Int32) (d_time : Int32) (d_smalls : Int32) (d_timers : Int32) (d_logged : Int32) (d_marks : Int32) (post : Int32 → Prop) : Prop := (p1 = 0 → post d_rows) ∧ (¬ p1 = 0 → (p1 = 1 → post d_inRound) ∧ (¬ p1 = 1 → (p1 = 2 → post d_rounds) ∧ (¬ p1 = 2 → (p1 = 3 → post d_flips) ∧ (¬ p1 = 3 → (p1 = 4 → post d_passed) ∧ (¬ p1 = 4 → (p1 = 5 → post d_matches) ∧ (¬ p1 = 5 → (p1 = 6 → post d_moved) ∧ (¬ p1 = 6 → (p1 = 7 → post d_timers) ∧ (¬ p1 = 7 → (p1 = 8 → post d_time) ∧ (¬ p1 = 8 → (p1 = 9 → wp_d_keptLogs d_logged (fun (r1 : Int32) => post r1)) ∧ (¬ p1 = 9 → (p1 = 10 → post d_folds) ∧ (¬ p1 = 10 → (p1 = 11 → post d_marks) ∧ (¬ p1 = 11 → (p1 = 12 → wp_d_splitKeys d_parts (fun (r2 : Int32) => post r2)) ∧ (¬ p1 = 12 → (p1 = 13 → post d_smalls) ∧ (¬ p1 = 13 → post (-102)))))))))))))))
theorem mm_d_told : hk_MV yX8_told cX8_told 2 (some .int) 1 := ⟨hw_1081, hw_1079, hw_1080, hw_87, by decide +kernel⟩
set_option maxRecDepth 100000 in
set_option maxHeartbeats 4000000 in
theorem c_d_told (l : Launch) (D : va_G) (cI cJ cZ cM : ClassId) (h_d : Nat) (a_d : Nat → Nat)  (d_p : Int32) (d_r : Int32) (d_t : Int32) (d_slack : Int32) (d_m : Int32) (d_folds : Int32) (d_kinds : Nat → Int32) (d_declared : Nat → Int32) (d_states : Nat → Int64) (d_lastRow : Nat → Int32) (d_lastValue : Nat → Int32) (d_hasValue : Nat → Int32) (d_touched : Nat → Int32) (d_parts : Nat → Int32) (d_rows : Int32) (d_inRound : Int32) (d_rounds : Int32) (d_flips : Int32) (d_passed : Int32) (d_matches : Int32) (d_moved : Int32) (d_time : Int32) (d_out : Int64) (d_loads : Nat → Int32) (d_counterKey : Nat → Int32) (d_counterCount : Nat → Int32) (d_counterError : Nat → Int32) (d_smalls : Int32) (d_smallKey : Nat → Int32) (d_smallWeight : Nat → Int32) (d_timers : Int32) (d_timerKey : Nat → Int32) (d_timerTime : Nat → Int32) (d_logged : Int32) (d_logKey : Nat → Int32) (d_logTime : Nat → Int32) (d_logState : Nat → Int64) (d_marks : Int32) (d_markState : Nat → Int64) (d_markValue : Nat → Int32) (d_markHas : Nat → Int32) (d_markSmalls : Nat → Int32) (d_markSmallKey : Nat → Int32) (d_markSmallWeight : Nat → Int32) (d_markTimers : Nat → Int32) (d_markTimerKey : Nat → Int32) (d_markTimerTime : Nat → Int32) (d_markTime : Nat → Int32) (d_markRows : Nat → Int32) (d_markMatches : Nat → Int32) (d_markOut : Nat → Int64) (d_comes : Nat → Int64) (p1 : Int32) (post : Int32 → Prop) (h : wp_d_told p1 d_folds d_parts d_rows d_inRound d_rounds d_flips d_passed d_matches d_moved d_time d_smalls d_timers d_logged d_marks post) : Met l yX8_told (hk_ws yX8_told cX8_told 2 (some .int)) (hk_rm 1 22) (va_Pc [.ref h_d, .int p1] (hk_PR D (hk_ty cI cJ cZ cM) (wv_d cI cJ cZ cM h_d a_d d_p d_r d_t d_slack d_m d_folds d_kinds d_declared d_states d_lastRow d_lastValue d_hasValue d_touched d_parts d_rows d_inRound d_rounds d_flips d_passed d_matches d_moved d_time d_out d_loads d_counterKey d_counterCount d_counterError d_smalls d_smallKey d_smallWeight d_timers d_timerKey d_timerTime d_logged d_logKey d_logTime d_logState d_marks d_markState d_markValue d_markHas d_markSmalls d_markSmallKey d_markSmallWeight d_markTimers d_markTimerKey d_markTimerTime d_markTime d_markRows d_markMatches d_markOut d_comes))) (vp_Si post) 0 0 (fun _ => False) := by
  refine Met.ofW (cc := cX8_told) (maxL := 2) (ret := (some .int)) (by decide) rfl ?_
  intro p e s m args below meth c s₁ B hml hv
  obtain ⟨rfl, hP, hK, hN⟩ := hv
  have hx := B.exec
  have hb := B.bytes
  have hr := B.returns
  have hts := atoms_spec (ws := hk_ws yX8_told cX8_told 2 (some .int)) B.pre
  have hta : ∀ w ∈ hk_all, w.before ([.ref h_d, .int p1] : List Value).toArray s = true := fun w hw => hts w (List.mem_cons_of_mem _ hw)
  have hown : s.vm.findClass RX8 = some m.cls := findClass_of_methodNamed B.named
  have hlocks := B.notSynchronized
  have S0 : CallFix p m c cX8_told 2 s ([.ref h_d, .int p1] : List Value).toArray hk_all RX8 := ⟨hx, hb, hml, hown, hta⟩
  have hl := lv_entry ([.ref h_d, .int p1]) (n := 2) (Nat.le_of_ble_eq_true rfl)
  rw [lg_entry_eq]
  generalize (lg_sl ([.ref h_d, .int p1]) ++ List.replicate (2 - (lg_sl ([.ref h_d, .int p1])).length) Slot.unset).toArray = ls at hl ⊢
  have hl : lv_has ls 2 [(0, .ref h_d), (1, .int p1)] := hl
  unfold wp_d_told at h
  refine lv_iload_n hx hb dX8_told_0 rfl (lv_at hl 1 rfl) ?_
  by_cases c3 : p1 = 0
  · have h := h.1 c3
    refine lv_tableIn (tgt := 72) hx hb dX8_told_1 (by rw [c3]; decide) (by rw [c3]; decide) (by rw [c3]; rfl) (by decide) ?_
    refine lv_aload_n hx hb dX8_told_72 rfl (lv_at hl 0 rfl) ?_
    refine va_get (D := D) (ci := 8) (v := .int d_rows) (C := RX8) (T := TX8) (N := 52) hx hb hta ih_X8 hown hK hP 0 rfl rfl 14 (by decide) (hta _ hw_760) (fun _ h9 => h9) rfl dX8_told_73 ?_
    exact W.iret (v := d_rows) hx hb hr (fun t ht hW => ⟨_, rfl, h, ht⟩) (fun _ hq => by cases hq) dX8_told_76
  · have h := h.2 c3
    by_cases c4 : p1 = 1
    · have h := h.1 c4
      refine lv_tableIn (tgt := 77) hx hb dX8_told_1 (by rw [c4]; decide) (by rw [c4]; decide) (by rw [c4]; rfl) (by decide) ?_
      refine lv_aload_n hx hb dX8_told_77 rfl (lv_at hl 0 rfl) ?_
      refine va_get (D := D) (ci := 8) (v := .int d_inRound) (C := RX8) (T := TX8) (N := 52) hx hb hta ih_X8 hown hK hP 0 rfl rfl 15 (by decide) (hta _ hw_761) (fun _ h9 => h9) rfl dX8_told_78 ?_
      exact W.iret (v := d_inRound) hx hb hr (fun t ht hW => ⟨_, rfl, h, ht⟩) (fun _ hq => by cases hq) dX8_told_81
    · have h := h.2 c4
      by_cases c5 : p1 = 2
      · have h := h.1 c5
        refine lv_tableIn (tgt := 82) hx hb dX8_told_1 (by rw [c5]; decide) (by rw [c5]; decide) (by rw [c5]; rfl) (by decide) ?_
        refine lv_aload_n hx hb dX8_told_82 rfl (lv_at hl 0 rfl) ?_
        refine va_get (D := D) (ci := 8) (v := .int d_rounds) (C := RX8) (T := TX8) (N := 52) hx hb hta ih_X8 hown hK hP 0 rfl rfl 16 (by decide) (hta _ hw_762) (fun _ h9 => h9) rfl dX8_told_83 ?_
        exact W.iret (v := d_rounds) hx hb hr (fun t ht hW => ⟨_, rfl, h, ht⟩) (fun _ hq => by cases hq) dX8_told_86
      · have h := h.2 c5
        by_cases c6 : p1 = 3
        · have h := h.1 c6
          refine lv_tableIn (tgt := 87) hx hb dX8_told_1 (by rw [c6]; decide) (by rw [c6]; decide) (by rw [c6]; rfl) (by decide) ?_
          refine lv_aload_n hx hb dX8_told_87 rfl (lv_at hl 0 rfl) ?_
          refine va_get (D := D) (ci := 8) (v := .int d_flips) (C := RX8) (T := TX8) (N := 52) hx hb hta ih_X8 hown hK hP 0 rfl rfl 17 (by decide) (hta _ hw_763) (fun _ h9 => h9) rfl dX8_told_88 ?_
          exact W.iret (v := d_flips) hx hb hr (fun t ht hW => ⟨_, rfl, h, ht⟩) (fun _ hq => by cases hq) dX8_told_91
        · have h := h.2 c6
          by_cases c7 : p1 = 4
          · have h := h.1 c7
            refine lv_tableIn (tgt := 92) hx hb dX8_told_1 (by rw [c7]; decide) (by rw [c7]; decide) (by rw [c7]; rfl) (by decide) ?_
            refine lv_aload_n hx hb dX8_told_92 rfl (lv_at hl 0 rfl) ?_
            refine va_get (D := D) (ci := 8) (v := .int d_passed) (C := RX8) (T := TX8) (N := 52) hx hb hta ih_X8 hown hK hP 0 rfl rfl 18 (by decide) (hta _ hw_764) (fun _ h9 => h9) rfl dX8_told_93 ?_
            exact W.iret (v := d_passed) hx hb hr (fun t ht hW => ⟨_, rfl, h, ht⟩) (fun _ hq => by cases hq) dX8_told_96
          · have h := h.2 c7
            by_cases c8 : p1 = 5
            · have h := h.1 c8
              refine lv_tableIn (tgt := 97) hx hb dX8_told_1 (by rw [c8]; decide) (by rw [c8]; decide) (by rw [c8]; rfl) (by decide) ?_
              refine lv_aload_n hx hb dX8_told_97 rfl (lv_at hl 0 rfl) ?_
              refine va_get (D := D) (ci := 8) (v := .int d_matches) (C := RX8) (T := TX8) (N := 52) hx hb hta ih_X8 hown hK hP 0 rfl rfl 19 (by decide) (hta _ hw_765) (fun _ h9 => h9) rfl dX8_told_98 ?_
              exact W.iret (v := d_matches) hx hb hr (fun t ht hW => ⟨_, rfl, h, ht⟩) (fun _ hq => by cases hq) dX8_told_101
            · have h := h.2 c8
              by_cases c9 : p1 = 6
              · have h := h.1 c9
                refine lv_tableIn (tgt := 102) hx hb dX8_told_1 (by rw [c9]; decide) (by rw [c9]; decide) (by rw [c9]; rfl) (by decide) ?_
                refine lv_aload_n hx hb dX8_told_102 rfl (lv_at hl 0 rfl) ?_
                refine va_get (D := D) (ci := 8) (v := .int d_moved) (C := RX8) (T := TX8) (N := 52) hx hb hta ih_X8 hown hK hP 0 rfl rfl 20 (by decide) (hta _ hw_766) (fun _ h9 => h9) rfl dX8_told_103 ?_
                exact W.iret (v := d_moved) hx hb hr (fun t ht hW => ⟨_, rfl, h, ht⟩) (fun _ hq => by cases hq) dX8_told_106
              · have h := h.2 c9
                by_cases c10 : p1 = 7
                · have h := h.1 c10
                  refine lv_tableIn (tgt := 107) hx hb dX8_told_1 (by rw [c10]; decide) (by rw [c10]; decide) (by rw [c10]; rfl) (by decide) ?_
                  refine lv_aload_n hx hb dX8_told_107 rfl (lv_at hl 0 rfl) ?_
                  refine va_get (D := D) (ci := 8) (v := .int d_timers) (C := RX8) (T := TX8) (N := 52) hx hb hta ih_X8 hown hK hP 0 rfl rfl 30 (by decide) (hta _ hw_776) (fun _ h9 => h9) rfl dX8_told_108 ?_
                  exact W.iret (v := d_timers) hx hb hr (fun t ht hW => ⟨_, rfl, h, ht⟩) (fun _ hq => by cases hq) dX8_told_111
                · have h := h.2 c10
                  by_cases c11 : p1 = 8
                  · have h := h.1 c11
                    refine lv_tableIn (tgt := 112) hx hb dX8_told_1 (by rw [c11]; decide) (by rw [c11]; decide) (by rw [c11]; rfl) (by decide) ?_
                    refine lv_aload_n hx hb dX8_told_112 rfl (lv_at hl 0 rfl) ?_
                    refine va_get (D := D) (ci := 8) (v := .int d_time) (C := RX8) (T := TX8) (N := 52) hx hb hta ih_X8 hown hK hP 0 rfl rfl 21 (by decide) (hta _ hw_767) (fun _ h9 => h9) rfl dX8_told_113 ?_
                    exact W.iret (v := d_time) hx hb hr (fun t ht hW => ⟨_, rfl, h, ht⟩) (fun _ hq => by cases hq) dX8_told_116
                  · have h := h.2 c11
                    by_cases c12 : p1 = 9
                    · have h := h.1 c12
                      refine lv_tableIn (tgt := 117) hx hb dX8_told_1 (by rw [c12]; decide) (by rw [c12]; decide) (by rw [c12]; rfl) (by decide) ?_
                      refine lv_aload_n hx hb dX8_told_117 rfl (lv_at hl 0 rfl) ?_
                      refine vp_callSi (hk_runV (As := []) (rest := []) S0 mm_d_keptLogs (c_d_keptLogs l D cI cJ cZ cM h_d a_d d_p d_r d_t d_slack d_m d_folds d_kinds d_declared d_states d_lastRow d_lastValue d_hasValue d_touched d_parts d_rows d_inRound d_rounds d_flips d_passed d_matches d_moved d_time d_out d_loads d_counterKey d_counterCount d_counterError d_smalls d_smallKey d_smallWeight d_timers d_timerKey d_timerTime d_logged d_logKey d_logTime d_logState d_marks d_markState d_markValue d_markHas d_markSmalls d_markSmallKey d_markSmallWeight d_markTimers d_markTimerKey d_markTimerTime d_markTime d_markRows d_markMatches d_markOut d_comes _ h) hw_1066 hk_blR (hk_atR hP hK hN) (va_recv hK hP (ci := 8) (q0 := 0) rfl rfl) ⟨rfl, rfl, Nat.le_of_ble_eq_true rfl, Nat.le_of_ble_eq_true rfl⟩ rfl hl.1 rfl (Nat.le_of_ble_eq_true rfl) dX8_told_118 ⟨Nat.le_of_ble_eq_true rfl, Nat.le_of_ble_eq_true rfl⟩).run (fun r1 h => ?_)
                      exact W.iret (v := r1) hx hb hr (fun t ht hW => ⟨_, rfl, h, ht⟩) (fun _ hq => by cases hq) dX8_told_121
                    · have h := h.2 c12
                      by_cases c13 : p1 = 10
                      · have h := h.1 c13
                        refine lv_tableIn (tgt := 122) hx hb dX8_told_1 (by rw [c13]; decide) (by rw [c13]; decide) (by rw [c13]; rfl) (by decide) ?_
                        refine lv_aload_n hx hb dX8_told_122 rfl (lv_at hl 0 rfl) ?_
                        refine va_get (D := D) (ci := 8) (v := .int d_folds) (C := RX8) (T := TX8) (N := 52) hx hb hta ih_X8 hown hK hP 0 rfl rfl 5 (by decide) (hta _ hw_751) (fun _ h9 => h9) rfl dX8_told_123 ?_
                        exact W.iret (v := d_folds) hx hb hr (fun t ht hW => ⟨_, rfl, h, ht⟩) (fun _ hq => by cases hq) dX8_told_126
                      · have h := h.2 c13
                        by_cases c14 : p1 = 11
                        · have h := h.1 c14
                          refine lv_tableIn (tgt := 127) hx hb dX8_told_1 (by rw [c14]; decide) (by rw [c14]; decide) (by rw [c14]; rfl) (by decide) ?_
                          refine lv_aload_n hx hb dX8_told_127 rfl (lv_at hl 0 rfl) ?_
                          refine va_get (D := D) (ci := 8) (v := .int d_marks) (C := RX8) (T := TX8) (N := 52) hx hb hta ih_X8 hown hK hP 0 rfl rfl 37 (by decide) (hta _ hw_783) (fun _ h9 => h9) rfl dX8_told_128 ?_
                          exact W.iret (v := d_marks) hx hb hr (fun t ht hW => ⟨_, rfl, h, ht⟩) (fun _ hq => by cases hq) dX8_told_131
                        · have h := h.2 c14
                          by_cases c15 : p1 = 12
                          · have h := h.1 c15
                            refine lv_tableIn (tgt := 132) hx hb dX8_told_1 (by rw [c15]; decide) (by rw [c15]; decide) (by rw [c15]; rfl) (by decide) ?_
                            refine lv_aload_n hx hb dX8_told_132 rfl (lv_at hl 0 rfl) ?_
                            refine vp_callSi (hk_runV (As := []) (rest := []) S0 mm_d_splitKeys (c_d_splitKeys l D cI cJ cZ cM h_d a_d d_p d_r d_t d_slack d_m d_folds d_kinds d_declared d_states d_lastRow d_lastValue d_hasValue d_touched d_parts d_rows d_inRound d_rounds d_flips d_passed d_matches d_moved d_time d_out d_loads d_counterKey d_counterCount d_counterError d_smalls d_smallKey d_smallWeight d_timers d_timerKey d_timerTime d_logged d_logKey d_logTime d_logState d_marks d_markState d_markValue d_markHas d_markSmalls d_markSmallKey d_markSmallWeight d_markTimers d_markTimerKey d_markTimerTime d_markTime d_markRows d_markMatches d_markOut d_comes _ h) hw_918 hk_blR (hk_atR hP hK hN) (va_recv hK hP (ci := 8) (q0 := 0) rfl rfl) ⟨rfl, rfl, Nat.le_of_ble_eq_true rfl, Nat.le_of_ble_eq_true rfl⟩ rfl hl.1 rfl (Nat.le_of_ble_eq_true rfl) dX8_told_133 ⟨Nat.le_of_ble_eq_true rfl, Nat.le_of_ble_eq_true rfl⟩).run (fun r2 h => ?_)
                            exact W.iret (v := r2) hx hb hr (fun t ht hW => ⟨_, rfl, h, ht⟩) (fun _ hq => by cases hq) dX8_told_136
                          · have h := h.2 c15
                            by_cases c16 : p1 = 13
                            · have h := h.1 c16
                              refine lv_tableIn (tgt := 137) hx hb dX8_told_1 (by rw [c16]; decide) (by rw [c16]; decide) (by rw [c16]; rfl) (by decide) ?_
                              refine lv_aload_n hx hb dX8_told_137 rfl (lv_at hl 0 rfl) ?_
                              refine va_get (D := D) (ci := 8) (v := .int d_smalls) (C := RX8) (T := TX8) (N := 52) hx hb hta ih_X8 hown hK hP 0 rfl rfl 27 (by decide) (hta _ hw_773) (fun _ h9 => h9) rfl dX8_told_138 ?_
                              exact W.iret (v := d_smalls) hx hb hr (fun t ht hW => ⟨_, rfl, h, ht⟩) (fun _ hq => by cases hq) dX8_told_141
                            · have h := h.2 c16
                              refine lv_tableOut (tgt := 142) hx hb dX8_told_1 (by have qc3 := lv_neT c3 (a := 0) rfl; have qc4 := lv_neT c4 (a := 1) rfl; have qc5 := lv_neT c5 (a := 2) rfl; have qc6 := lv_neT c6 (a := 3) rfl; have qc7 := lv_neT c7 (a := 4) rfl; have qc8 := lv_neT c8 (a := 5) rfl; have qc9 := lv_neT c9 (a := 6) rfl; have qc10 := lv_neT c10 (a := 7) rfl; have qc11 := lv_neT c11 (a := 8) rfl; have qc12 := lv_neT c12 (a := 9) rfl; have qc13 := lv_neT c13 (a := 10) rfl; have qc14 := lv_neT c14 (a := 11) rfl; have qc15 := lv_neT c15 (a := 12) rfl; have qc16 := lv_neT c16 (a := 13) rfl; omega) (by decide) ?_
                              refine lv_bipush (v := (-102)) hx hb dX8_told_142 (by decide) ?_
                              exact W.iret (v := (-102)) hx hb hr (fun t ht hW => ⟨_, rfl, h, ht⟩) (fun _ hq => by cases hq) dX8_told_144
def wp_d_clear  (d_kinds : Nat → Int32) (d_states : Nat → Int64) (d_lastRow : Nat → Int32) (d_hasValue : Nat → Int32) (d_touched : Nat → Int32) (d_parts : Nat → Int32) (d_rows : Int32) (d_loads : Nat → Int32) (d_counterKey : Nat → Int32) (d_counterCount : Nat → Int32) (d_counterError : Nat → Int32) (post : Int32 → (Int32 × Int32 × Int32 × Int32 × Int32 × Int32 × (Nat → Int64) × (Nat → Int32) × (Nat → Int32) × (Nat → Int32) × (Nat → Int32) × Int32 × Int32 × Int32 × Int32 × Int32 × Int32 × Int32 × Int32 × Int64 × (Nat → Int32) × (Nat → Int32) × (Nat → Int32) × (Nat → Int32) × Int32 × Int32 × Int32 × Int32) → Prop) : Prop := wp_d_begin d_kinds d_states d_lastRow d_hasValue d_touched d_parts d_loads d_counterKey d_counterCount d_counterError (fun (w1 : Int32 × Int32 × Int32 × Int32 × Int32 × Int32 × (Nat → Int64) × (Nat → Int32) × (Nat → Int32) × (Nat → Int32) × (Nat → Int32) × Int32 × Int32 × Int32 × Int32 × Int32 × Int32 × Int32 × Int32 × Int64 × (Nat → Int32) × (Nat → Int32) × (Nat → Int32) × (Nat → Int32) × Int32 × Int32 × Int32 × Int32) => post d_rows (w1.1, w1.2.1, w1.2.2.1, w1.2.2.2.1, w1.2.2.2.2.1, w1.2.2.2.2.2.1, w1.2.2.2.2.2.2.1, w1.2.2.2.2.2.2.2.1, w1.2.2.2.2.2.2.2.2.1, w1.2.2.2.2.2.2.2.2.2.1, w1.2.2.2.2.2.2.2.2.2.2.1, w1.2.2.2.2.2.2.2.2.2.2.2.1, w1.2.2.2.2.2.2.2.2.2.2.2.2.1, w1.2.2.2.2.2.2.2.2.2.2.2.2.2.1, w1.2.2.2.2.2.2.2.2.2.2.2.2.2.2.1, w1.2.2.2.2.2.2.2.2.2.2.2.2.2.2.2.1, w1.2.2.2.2.2.2.2.2.2.2.2.2.2.2.2.2.1, w1.2.2.2.2.2.2.2.2.2.2.2.2.2.2.2.2.2.1, w1.2.2.2.2.2.2.2.2.2.2.2.2.2.2.2.2.2.2.1, w1.2.2.2.2.2.2.2.2.2.2.2.2.2.2.2.2.2.2.2.1, w1.2.2.2.2.2.2.2.2.2.2.2.2.2.2.2.2.2.2.2.2.1, w1.2.2.2.2.2.2.2.2.2.2.2.2.2.2.2.2.2.2.2.2.2.1, w1.2.2.2.2.2.2.2.2.2.2.2.2.2.2.2.2.2.2.2.2.2.2.1, w1.2.2.2.2.2.2.2.2.2.2.2.2.2.2.2.2.2.2.2.2.2.2.2.1, w1.2.2.2.2.2.2.2.2.2.2.2.2.2.2.2.2.2.2.2.2.2.2.2.2.1, w1.2.2.2.2.2.2.2.2.2.2.2.2.2.2.2.2.2.2.2.2.2.2.2.2.2.1, w1.2.2.2.2.2.2.2.2.2.2.2.2.2.2.2.2.2.2.2.2.2.2.2.2.2.2.1, w1.2.2.2.2.2.2.2.2.2.2.2.2.2.2.2.2.2.2.2.2.2.2.2.2.2.2.2))
theorem mm_d_clear : hk_MV yX8_clear cX8_clear 2 (some .int) 0 := ⟨hw_1085, hw_1083, hw_1084, hw_87, by decide +kernel⟩
set_option maxRecDepth 100000 in
set_option maxHeartbeats 4000000 in
theorem c_d_clear (l : Launch) (D : va_G) (cI cJ cZ cM : ClassId) (h_d : Nat) (a_d : Nat → Nat) (sz : Nat) (d_p : Int32) (d_r : Int32) (d_t : Int32) (d_slack : Int32) (d_m : Int32) (d_folds : Int32) (d_kinds : Nat → Int32) (d_declared : Nat → Int32) (d_states : Nat → Int64) (d_lastRow : Nat → Int32) (d_lastValue : Nat → Int32) (d_hasValue : Nat → Int32) (d_touched : Nat → Int32) (d_parts : Nat → Int32) (d_rows : Int32) (d_inRound : Int32) (d_rounds : Int32) (d_flips : Int32) (d_passed : Int32) (d_matches : Int32) (d_moved : Int32) (d_time : Int32) (d_out : Int64) (d_loads : Nat → Int32) (d_counterKey : Nat → Int32) (d_counterCount : Nat → Int32) (d_counterError : Nat → Int32) (d_smalls : Int32) (d_smallKey : Nat → Int32) (d_smallWeight : Nat → Int32) (d_timers : Int32) (d_timerKey : Nat → Int32) (d_timerTime : Nat → Int32) (d_logged : Int32) (d_logKey : Nat → Int32) (d_logTime : Nat → Int32) (d_logState : Nat → Int64) (d_marks : Int32) (d_markState : Nat → Int64) (d_markValue : Nat → Int32) (d_markHas : Nat → Int32) (d_markSmalls : Nat → Int32) (d_markSmallKey : Nat → Int32) (d_markSmallWeight : Nat → Int32) (d_markTimers : Nat → Int32) (d_markTimerKey : Nat → Int32) (d_markTimerTime : Nat → Int32) (d_markTime : Nat → Int32) (d_markRows : Nat → Int32) (d_markMatches : Nat → Int32) (d_markOut : Nat → Int64) (d_comes : Nat → Int64)  (post : Int32 → (Int32 × Int32 × Int32 × Int32 × Int32 × Int32 × (Nat → Int64) × (Nat → Int32) × (Nat → Int32) × (Nat → Int32) × (Nat → Int32) × Int32 × Int32 × Int32 × Int32 × Int32 × Int32 × Int32 × Int32 × Int64 × (Nat → Int32) × (Nat → Int32) × (Nat → Int32) × (Nat → Int32) × Int32 × Int32 × Int32 × Int32) → Prop) (h : wp_d_clear d_kinds d_states d_lastRow d_hasValue d_touched d_parts d_rows d_loads d_counterKey d_counterCount d_counterError post) : Met l yX8_clear (hk_ws yX8_clear cX8_clear 2 (some .int)) (hk_rm 3 67) (va_Pc [.ref h_d] (hk_PM D (hk_ty cI cJ cZ cM) sz (wv_d cI cJ cZ cM h_d a_d d_p d_r d_t d_slack d_m d_folds d_kinds d_declared d_states d_lastRow d_lastValue d_hasValue d_touched d_parts d_rows d_inRound d_rounds d_flips d_passed d_matches d_moved d_time d_out d_loads d_counterKey d_counterCount d_counterError d_smalls d_smallKey d_smallWeight d_timers d_timerKey d_timerTime d_logged d_logKey d_logTime d_logState d_marks d_markState d_markValue d_markHas d_markSmalls d_markSmallKey d_markSmallWeight d_markTimers d_markTimerKey d_markTimerTime d_markTime d_markRows d_markMatches d_markOut d_comes))) (va_Qi post (hk_B D (va_A (wv_d cI cJ cZ cM h_d a_d d_p d_r d_t d_slack d_m d_folds d_kinds d_declared d_states d_lastRow d_lastValue d_hasValue d_touched d_parts d_rows d_inRound d_rounds d_flips d_passed d_matches d_moved d_time d_out d_loads d_counterKey d_counterCount d_counterError d_smalls d_smallKey d_smallWeight d_timers d_timerKey d_timerTime d_logged d_logKey d_logTime d_logState d_marks d_markState d_markValue d_markHas d_markSmalls d_markSmallKey d_markSmallWeight d_markTimers d_markTimerKey d_markTimerTime d_markTime d_markRows d_markMatches d_markOut d_comes) sz) (fun (u : Int32 × Int32 × Int32 × Int32 × Int32 × Int32 × (Nat → Int64) × (Nat → Int32) × (Nat → Int32) × (Nat → Int32) × (Nat → Int32) × Int32 × Int32 × Int32 × Int32 × Int32 × Int32 × Int32 × Int32 × Int64 × (Nat → Int32) × (Nat → Int32) × (Nat → Int32) × (Nat → Int32) × Int32 × Int32 × Int32 × Int32) => wv_d cI cJ cZ cM h_d a_d u.1 u.2.1 u.2.2.1 u.2.2.2.1 u.2.2.2.2.1 u.2.2.2.2.2.1 d_kinds d_declared u.2.2.2.2.2.2.1 u.2.2.2.2.2.2.2.1 d_lastValue u.2.2.2.2.2.2.2.2.1 u.2.2.2.2.2.2.2.2.2.1 u.2.2.2.2.2.2.2.2.2.2.1 u.2.2.2.2.2.2.2.2.2.2.2.1 u.2.2.2.2.2.2.2.2.2.2.2.2.1 u.2.2.2.2.2.2.2.2.2.2.2.2.2.1 u.2.2.2.2.2.2.2.2.2.2.2.2.2.2.1 u.2.2.2.2.2.2.2.2.2.2.2.2.2.2.2.1 u.2.2.2.2.2.2.2.2.2.2.2.2.2.2.2.2.1 u.2.2.2.2.2.2.2.2.2.2.2.2.2.2.2.2.2.1 u.2.2.2.2.2.2.2.2.2.2.2.2.2.2.2.2.2.2.1 u.2.2.2.2.2.2.2.2.2.2.2.2.2.2.2.2.2.2.2.1 u.2.2.2.2.2.2.2.2.2.2.2.2.2.2.2.2.2.2.2.2.1 u.2.2.2.2.2.2.2.2.2.2.2.2.2.2.2.2.2.2.2.2.2.1 u.2.2.2.2.2.2.2.2.2.2.2.2.2.2.2.2.2.2.2.2.2.2.1 u.2.2.2.2.2.2.2.2.2.2.2.2.2.2.2.2.2.2.2.2.2.2.2.1 u.2.2.2.2.2.2.2.2.2.2.2.2.2.2.2.2.2.2.2.2.2.2.2.2.1 d_smallKey d_smallWeight u.2.2.2.2.2.2.2.2.2.2.2.2.2.2.2.2.2.2.2.2.2.2.2.2.2.1 d_timerKey d_timerTime u.2.2.2.2.2.2.2.2.2.2.2.2.2.2.2.2.2.2.2.2.2.2.2.2.2.2.1 d_logKey d_logTime d_logState u.2.2.2.2.2.2.2.2.2.2.2.2.2.2.2.2.2.2.2.2.2.2.2.2.2.2.2 d_markState d_markValue d_markHas d_markSmalls d_markSmallKey d_markSmallWeight d_markTimers d_markTimerKey d_markTimerTime d_markTime d_markRows d_markMatches d_markOut d_comes)) (va_A (wv_d cI cJ cZ cM h_d a_d d_p d_r d_t d_slack d_m d_folds d_kinds d_declared d_states d_lastRow d_lastValue d_hasValue d_touched d_parts d_rows d_inRound d_rounds d_flips d_passed d_matches d_moved d_time d_out d_loads d_counterKey d_counterCount d_counterError d_smalls d_smallKey d_smallWeight d_timers d_timerKey d_timerTime d_logged d_logKey d_logTime d_logState d_marks d_markState d_markValue d_markHas d_markSmalls d_markSmallKey d_markSmallWeight d_markTimers d_markTimerKey d_markTimerTime d_markTime d_markRows d_markMatches d_markOut d_comes) sz)) 0 0 (va_A (wv_d cI cJ cZ cM h_d a_d d_p d_r d_t d_slack d_m d_folds d_kinds d_declared d_states d_lastRow d_lastValue d_hasValue d_touched d_parts d_rows d_inRound d_rounds d_flips d_passed d_matches d_moved d_time d_out d_loads d_counterKey d_counterCount d_counterError d_smalls d_smallKey d_smallWeight d_timers d_timerKey d_timerTime d_logged d_logKey d_logTime d_logState d_marks d_markState d_markValue d_markHas d_markSmalls d_markSmallKey d_markSmallWeight d_markTimers d_markTimerKey d_markTimerTime d_markTime d_markRows d_markMatches d_markOut d_comes) sz) := by
  refine Met.ofW (cc := cX8_clear) (maxL := 2) (ret := (some .int)) (by decide) rfl ?_
  intro p e s m args below meth c s₁ B hml hv
  obtain ⟨rfl, hsz, hP, hK, hD0, hN⟩ := hv
  have hx := B.exec
  have hb := B.bytes
  have hr := B.returns
  have hts := atoms_spec (ws := hk_ws yX8_clear cX8_clear 2 (some .int)) B.pre
  have hta : ∀ w ∈ hk_all, w.before ([.ref h_d] : List Value).toArray s = true := fun w hw => hts w (List.mem_cons_of_mem _ hw)
  have hown : s.vm.findClass RX8 = some m.cls := findClass_of_methodNamed B.named
  have hlocks := B.notSynchronized
  have S0 : CallFix p m c cX8_clear 2 s ([.ref h_d] : List Value).toArray hk_all RX8 := ⟨hx, hb, hml, hown, hta⟩
  subst hsz
  have hD := hD0.self (sz := s.heap.size)
  generalize hAe : va_A (wv_d cI cJ cZ cM h_d a_d d_p d_r d_t d_slack d_m d_folds d_kinds d_declared d_states d_lastRow d_lastValue d_hasValue d_touched d_parts d_rows d_inRound d_rounds d_flips d_passed d_matches d_moved d_time d_out d_loads d_counterKey d_counterCount d_counterError d_smalls d_smallKey d_smallWeight d_timers d_timerKey d_timerTime d_logged d_logKey d_logTime d_logState d_marks d_markState d_markValue d_markHas d_markSmalls d_markSmallKey d_markSmallWeight d_markTimers d_markTimerKey d_markTimerTime d_markTime d_markRows d_markMatches d_markOut d_comes) s.heap.size = A at hD ⊢
  have hA : ∀ q : Nat, s.heap.size ≤ q → A q := fun q h => by rw [← hAe]; exact Or.inr h
  have hS : va_S A s.heap s.heap [] := va_S.rf
  have hl := lv_entry ([.ref h_d]) (n := 2) (Nat.le_of_ble_eq_true rfl)
  rw [lg_entry_eq]
  generalize (lg_sl ([.ref h_d]) ++ List.replicate (2 - (lg_sl ([.ref h_d])).length) Slot.unset).toArray = ls at hl ⊢
  have hl : lv_has ls 2 [(0, .ref h_d)] := hl
  unfold wp_d_clear at h
  refine lv_aload_n hx hb dX8_clear_0 rfl (lv_at hl 0 rfl) ?_
  refine va_get (D := D) (ci := 8) (v := .int d_rows) (C := RX8) (T := TX8) (N := 52) hx hb hta ih_X8 hown hK hP 0 rfl rfl 14 (by decide) (hta _ hw_760) (fun _ h9 => h9) rfl dX8_clear_1 ?_
  refine lv_istore_n (lv' := [(1, .int d_rows), (0, .ref h_d)]) hx hb dX8_clear_4 rfl hl (by decide) rfl (fun ls hl => ?_)
  refine lv_aload_n hx hb dX8_clear_5 rfl (lv_at hl 1 rfl) ?_
  refine hk_wv (hk_runV (As := []) (rest := []) S0 mm_d_begin (c_d_begin l D cI cJ cZ cM h_d a_d s.heap.size d_p d_r d_t d_slack d_m d_folds d_kinds d_declared d_states d_lastRow d_lastValue d_hasValue d_touched d_parts d_rows d_inRound d_rounds d_flips d_passed d_matches d_moved d_time d_out d_loads d_counterKey d_counterCount d_counterError d_smalls d_smallKey d_smallWeight d_timers d_timerKey d_timerTime d_logged d_logKey d_logTime d_logState d_marks d_markState d_markValue d_markHas d_markSmalls d_markSmallKey d_markSmallWeight d_markTimers d_markTimerKey d_markTimerTime d_markTime d_markRows d_markMatches d_markOut d_comes _ h) hw_720 hk_blM (hk_atM hP hK hD hN) (va_recv hK hP (ci := 8) (q0 := 0) rfl rfl) ⟨rfl, rfl, Nat.le_of_ble_eq_true rfl, Nat.le_of_ble_eq_true rfl⟩ rfl hl.1 rfl (Nat.le_of_ble_eq_true rfl) dX8_clear_6 ⟨Nat.le_of_ble_eq_true rfl, Nat.le_of_ble_eq_true rfl⟩) hD hS hA (fun w1 H locs h hP hD hS => ?_)
  have hP : va_P D vwCl (wv_d cI cJ cZ cM h_d a_d w1.1 w1.2.1 w1.2.2.1 w1.2.2.2.1 w1.2.2.2.2.1 w1.2.2.2.2.2.1 d_kinds d_declared w1.2.2.2.2.2.2.1 w1.2.2.2.2.2.2.2.1 d_lastValue w1.2.2.2.2.2.2.2.2.1 w1.2.2.2.2.2.2.2.2.2.1 w1.2.2.2.2.2.2.2.2.2.2.1 w1.2.2.2.2.2.2.2.2.2.2.2.1 w1.2.2.2.2.2.2.2.2.2.2.2.2.1 w1.2.2.2.2.2.2.2.2.2.2.2.2.2.1 w1.2.2.2.2.2.2.2.2.2.2.2.2.2.2.1 w1.2.2.2.2.2.2.2.2.2.2.2.2.2.2.2.1 w1.2.2.2.2.2.2.2.2.2.2.2.2.2.2.2.2.1 w1.2.2.2.2.2.2.2.2.2.2.2.2.2.2.2.2.2.1 w1.2.2.2.2.2.2.2.2.2.2.2.2.2.2.2.2.2.2.1 w1.2.2.2.2.2.2.2.2.2.2.2.2.2.2.2.2.2.2.2.1 w1.2.2.2.2.2.2.2.2.2.2.2.2.2.2.2.2.2.2.2.2.1 w1.2.2.2.2.2.2.2.2.2.2.2.2.2.2.2.2.2.2.2.2.2.1 w1.2.2.2.2.2.2.2.2.2.2.2.2.2.2.2.2.2.2.2.2.2.2.1 w1.2.2.2.2.2.2.2.2.2.2.2.2.2.2.2.2.2.2.2.2.2.2.2.1 w1.2.2.2.2.2.2.2.2.2.2.2.2.2.2.2.2.2.2.2.2.2.2.2.2.1 d_smallKey d_smallWeight w1.2.2.2.2.2.2.2.2.2.2.2.2.2.2.2.2.2.2.2.2.2.2.2.2.2.1 d_timerKey d_timerTime w1.2.2.2.2.2.2.2.2.2.2.2.2.2.2.2.2.2.2.2.2.2.2.2.2.2.2.1 d_logKey d_logTime d_logState w1.2.2.2.2.2.2.2.2.2.2.2.2.2.2.2.2.2.2.2.2.2.2.2.2.2.2.2 d_markState d_markValue d_markHas d_markSmalls d_markSmallKey d_markSmallWeight d_markTimers d_markTimerKey d_markTimerTime d_markTime d_markRows d_markMatches d_markOut d_comes) H := hP
  have hD : va_D A (wv_d cI cJ cZ cM h_d a_d w1.1 w1.2.1 w1.2.2.1 w1.2.2.2.1 w1.2.2.2.2.1 w1.2.2.2.2.2.1 d_kinds d_declared w1.2.2.2.2.2.2.1 w1.2.2.2.2.2.2.2.1 d_lastValue w1.2.2.2.2.2.2.2.2.1 w1.2.2.2.2.2.2.2.2.2.1 w1.2.2.2.2.2.2.2.2.2.2.1 w1.2.2.2.2.2.2.2.2.2.2.2.1 w1.2.2.2.2.2.2.2.2.2.2.2.2.1 w1.2.2.2.2.2.2.2.2.2.2.2.2.2.1 w1.2.2.2.2.2.2.2.2.2.2.2.2.2.2.1 w1.2.2.2.2.2.2.2.2.2.2.2.2.2.2.2.1 w1.2.2.2.2.2.2.2.2.2.2.2.2.2.2.2.2.1 w1.2.2.2.2.2.2.2.2.2.2.2.2.2.2.2.2.2.1 w1.2.2.2.2.2.2.2.2.2.2.2.2.2.2.2.2.2.2.1 w1.2.2.2.2.2.2.2.2.2.2.2.2.2.2.2.2.2.2.2.1 w1.2.2.2.2.2.2.2.2.2.2.2.2.2.2.2.2.2.2.2.2.1 w1.2.2.2.2.2.2.2.2.2.2.2.2.2.2.2.2.2.2.2.2.2.1 w1.2.2.2.2.2.2.2.2.2.2.2.2.2.2.2.2.2.2.2.2.2.2.1 w1.2.2.2.2.2.2.2.2.2.2.2.2.2.2.2.2.2.2.2.2.2.2.2.1 w1.2.2.2.2.2.2.2.2.2.2.2.2.2.2.2.2.2.2.2.2.2.2.2.2.1 d_smallKey d_smallWeight w1.2.2.2.2.2.2.2.2.2.2.2.2.2.2.2.2.2.2.2.2.2.2.2.2.2.1 d_timerKey d_timerTime w1.2.2.2.2.2.2.2.2.2.2.2.2.2.2.2.2.2.2.2.2.2.2.2.2.2.2.1 d_logKey d_logTime d_logState w1.2.2.2.2.2.2.2.2.2.2.2.2.2.2.2.2.2.2.2.2.2.2.2.2.2.2.2 d_markState d_markValue d_markHas d_markSmalls d_markSmallKey d_markSmallWeight d_markTimers d_markTimerKey d_markTimerTime d_markTime d_markRows d_markMatches d_markOut d_comes) := hD
  refine lv_iload_n hx hb dX8_clear_9 rfl (lv_at hl 0 rfl) ?_
  exact W.iret (v := d_rows) hx hb hr (fun t ht hW => ⟨⟨d_rows, (w1.1, w1.2.1, w1.2.2.1, w1.2.2.2.1, w1.2.2.2.2.1, w1.2.2.2.2.2.1, w1.2.2.2.2.2.2.1, w1.2.2.2.2.2.2.2.1, w1.2.2.2.2.2.2.2.2.1, w1.2.2.2.2.2.2.2.2.2.1, w1.2.2.2.2.2.2.2.2.2.2.1, w1.2.2.2.2.2.2.2.2.2.2.2.1, w1.2.2.2.2.2.2.2.2.2.2.2.2.1, w1.2.2.2.2.2.2.2.2.2.2.2.2.2.1, w1.2.2.2.2.2.2.2.2.2.2.2.2.2.2.1, w1.2.2.2.2.2.2.2.2.2.2.2.2.2.2.2.1, w1.2.2.2.2.2.2.2.2.2.2.2.2.2.2.2.2.1, w1.2.2.2.2.2.2.2.2.2.2.2.2.2.2.2.2.2.1, w1.2.2.2.2.2.2.2.2.2.2.2.2.2.2.2.2.2.2.1, w1.2.2.2.2.2.2.2.2.2.2.2.2.2.2.2.2.2.2.2.1, w1.2.2.2.2.2.2.2.2.2.2.2.2.2.2.2.2.2.2.2.2.1, w1.2.2.2.2.2.2.2.2.2.2.2.2.2.2.2.2.2.2.2.2.2.1, w1.2.2.2.2.2.2.2.2.2.2.2.2.2.2.2.2.2.2.2.2.2.2.1, w1.2.2.2.2.2.2.2.2.2.2.2.2.2.2.2.2.2.2.2.2.2.2.2.1, w1.2.2.2.2.2.2.2.2.2.2.2.2.2.2.2.2.2.2.2.2.2.2.2.2.1, w1.2.2.2.2.2.2.2.2.2.2.2.2.2.2.2.2.2.2.2.2.2.2.2.2.2.1, w1.2.2.2.2.2.2.2.2.2.2.2.2.2.2.2.2.2.2.2.2.2.2.2.2.2.2.1, w1.2.2.2.2.2.2.2.2.2.2.2.2.2.2.2.2.2.2.2.2.2.2.2.2.2.2.2), rfl, h, by rw [ht]; exact hP, hD⟩, hS.F ht⟩) hS.2.2 dX8_clear_10
