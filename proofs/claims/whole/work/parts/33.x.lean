def wp_x_small (p1 : Int32) (p2 : Int32) (sm_keys : Nat → Int32) (sm_weights : Nat → Int32) (sm_count : Int32) (post : Int32 → ((Nat → Int32) × (Nat → Int32) × Int32) → Prop) : Prop := wp_x_isKey p1 (fun (r1 : Int32) => (¬ r1 = 0 → wp_x_isWithin p2 (-1000) 1000 (fun (r3 : Int32) => (¬ r3 = 0 → (sm_count < 60 → wp_sm_add p1 p2 sm_keys sm_weights sm_count (fun (w6 : (Nat → Int32) × (Nat → Int32) × Int32) => post w6.2.2 (w6.1, w6.2.1, w6.2.2))) ∧ (¬ sm_count < 60 → post (-104) (sm_keys, sm_weights, sm_count))) ∧ (r3 = 0 → post (-102) (sm_keys, sm_weights, sm_count)))) ∧ (r1 = 0 → post (-101) (sm_keys, sm_weights, sm_count)))
theorem mm_x_small : hk_MV yX7_small cX7_small 3 (some .int) 2 := ⟨hw_571, hw_569, hw_570, hw_79, by decide +kernel⟩
set_option maxRecDepth 100000 in
set_option maxHeartbeats 4000000 in
theorem c_x_small (l : Launch) (D : va_G) (cI cJ cZ cM : ClassId) (h_x : Nat) (a_x : Nat → Nat) (h_cn : Nat) (a_cn : Nat → Nat) (h_sm : Nat) (a_sm : Nat → Nat) (h_ti : Nat) (a_ti : Nat → Nat) (h_lg : Nat) (a_lg : Nat → Nat) (h_ks : Nat) (a_ks : Nat → Nat) (h_fo : Nat) (a_fo : Nat → Nat) (sz : Nat) (x_places : Int32) (x_round : Int32) (x_threshold : Int32) (x_slack : Int32) (x_marks : Nat → Option Nat) (x_loads : Nat → Int32) (x_markCount : Int32) (x_rows : Int32) (x_roundRows : Int32) (x_rounds : Int32) (x_flips : Int32) (x_passedOver : Int32) (cn_keys : Nat → Int32) (cn_counts : Nat → Int32) (cn_errors : Nat → Int32) (cn_limit : Int32) (cn_used : Int32) (sm_keys : Nat → Int32) (sm_weights : Nat → Int32) (sm_count : Int32) (sm_matches : Int32) (sm_out : Int64) (ti_keys : Nat → Int32) (ti_times : Nat → Int32) (ti_count : Int32) (ti_now : Int32) (lg_cells : Nat → Int64) (lg_newest : Int32) (lg_kept : Int32) (ks_partCounts : Nat → Int32) (ks_states : Nat → Int64) (ks_latestRows : Nat → Int32) (ks_latestValues : Nat → Int64) (ks_moved : Int32) (fo_kinds : Nat → Int32) (fo_declared : Nat → Int32) (fo_count : Int32) (p1 : Int32) (p2 : Int32) (post : Int32 → ((Nat → Int32) × (Nat → Int32) × Int32) → Prop) (h : wp_x_small p1 p2 sm_keys sm_weights sm_count post) : Met l yX7_small (hk_ws yX7_small cX7_small 3 (some .int)) (hk_rm 2 42) (va_Pc [.ref h_x, .int p1, .int p2] (hk_PM D (hk_ty cI cJ cZ cM) sz (wv_x cI cJ cZ cM h_x a_x x_places x_round x_threshold x_slack h_fo h_ks h_cn h_sm h_ti h_lg x_marks x_loads x_markCount x_rows x_roundRows x_rounds x_flips x_passedOver ++ (wv_cn cI cJ cZ cM h_cn a_cn cn_keys cn_counts cn_errors cn_limit cn_used ++ (wv_sm cI cJ cZ cM h_sm a_sm sm_keys sm_weights sm_count sm_matches sm_out ++ (wv_ti cI cJ cZ cM h_ti a_ti ti_keys ti_times ti_count ti_now ++ (wv_lg cI cJ cZ cM h_lg a_lg lg_cells lg_newest lg_kept ++ (wv_ks cI cJ cZ cM h_ks a_ks h_fo ks_partCounts ks_states ks_latestRows ks_latestValues ks_moved ++ (wv_fo cI cJ cZ cM h_fo a_fo fo_kinds fo_declared fo_count))))))))) (va_Qi post (hk_B D (va_A (wv_x cI cJ cZ cM h_x a_x x_places x_round x_threshold x_slack h_fo h_ks h_cn h_sm h_ti h_lg x_marks x_loads x_markCount x_rows x_roundRows x_rounds x_flips x_passedOver ++ (wv_cn cI cJ cZ cM h_cn a_cn cn_keys cn_counts cn_errors cn_limit cn_used ++ (wv_sm cI cJ cZ cM h_sm a_sm sm_keys sm_weights sm_count sm_matches sm_out ++ (wv_ti cI cJ cZ cM h_ti a_ti ti_keys ti_times ti_count ti_now ++ (wv_lg cI cJ cZ cM h_lg a_lg lg_cells lg_newest lg_kept ++ (wv_ks cI cJ cZ cM h_ks a_ks h_fo ks_partCounts ks_states ks_latestRows ks_latestValues ks_moved ++ (wv_fo cI cJ cZ cM h_fo a_fo fo_kinds fo_declared fo_count))))))) sz) (fun (u : (Nat → Int32) × (Nat → Int32) × Int32) => wv_x cI cJ cZ cM h_x a_x x_places x_round x_threshold x_slack h_fo h_ks h_cn h_sm h_ti h_lg x_marks x_loads x_markCount x_rows x_roundRows x_rounds x_flips x_passedOver ++ (wv_cn cI cJ cZ cM h_cn a_cn cn_keys cn_counts cn_errors cn_limit cn_used ++ (wv_sm cI cJ cZ cM h_sm a_sm u.1 u.2.1 u.2.2 sm_matches sm_out ++ (wv_ti cI cJ cZ cM h_ti a_ti ti_keys ti_times ti_count ti_now ++ (wv_lg cI cJ cZ cM h_lg a_lg lg_cells lg_newest lg_kept ++ (wv_ks cI cJ cZ cM h_ks a_ks h_fo ks_partCounts ks_states ks_latestRows ks_latestValues ks_moved ++ (wv_fo cI cJ cZ cM h_fo a_fo fo_kinds fo_declared fo_count)))))))) (va_A (wv_x cI cJ cZ cM h_x a_x x_places x_round x_threshold x_slack h_fo h_ks h_cn h_sm h_ti h_lg x_marks x_loads x_markCount x_rows x_roundRows x_rounds x_flips x_passedOver ++ (wv_cn cI cJ cZ cM h_cn a_cn cn_keys cn_counts cn_errors cn_limit cn_used ++ (wv_sm cI cJ cZ cM h_sm a_sm sm_keys sm_weights sm_count sm_matches sm_out ++ (wv_ti cI cJ cZ cM h_ti a_ti ti_keys ti_times ti_count ti_now ++ (wv_lg cI cJ cZ cM h_lg a_lg lg_cells lg_newest lg_kept ++ (wv_ks cI cJ cZ cM h_ks a_ks h_fo ks_partCounts ks_states ks_latestRows ks_latestValues ks_moved ++ (wv_fo cI cJ cZ cM h_fo a_fo fo_kinds fo_declared fo_count))))))) sz)) 0 0 (va_A (wv_x cI cJ cZ cM h_x a_x x_places x_round x_threshold x_slack h_fo h_ks h_cn h_sm h_ti h_lg x_marks x_loads x_markCount x_rows x_roundRows x_rounds x_flips x_passedOver ++ (wv_cn cI cJ cZ cM h_cn a_cn cn_keys cn_counts cn_errors cn_limit cn_used ++ (wv_sm cI cJ cZ cM h_sm a_sm sm_keys sm_weights sm_count sm_matches sm_out ++ (wv_ti cI cJ cZ cM h_ti a_ti ti_keys ti_times ti_count ti_now ++ (wv_lg cI cJ cZ cM h_lg a_lg lg_cells lg_newest lg_kept ++ (wv_ks cI cJ cZ cM h_ks a_ks h_fo ks_partCounts ks_states ks_latestRows ks_latestValues ks_moved ++ (wv_fo cI cJ cZ cM h_fo a_fo fo_kinds fo_declared fo_count))))))) sz) := by
  refine Met.ofW (cc := cX7_small) (maxL := 3) (ret := (some .int)) (by decide) rfl ?_
  intro p e s m args below meth c s₁ B hml hv
  obtain ⟨rfl, hsz, hP, hK, hD0, hN⟩ := hv
  have hx := B.exec
  have hb := B.bytes
  have hr := B.returns
  have hts := atoms_spec (ws := hk_ws yX7_small cX7_small 3 (some .int)) B.pre
  have hta : ∀ w ∈ hk_all, w.before ([.ref h_x, .int p1, .int p2] : List Value).toArray s = true := fun w hw => hts w (List.mem_cons_of_mem _ hw)
  have hown : s.vm.findClass RX7 = some m.cls := findClass_of_methodNamed B.named
  have hlocks := B.notSynchronized
  have S0 : CallFix p m c cX7_small 3 s ([.ref h_x, .int p1, .int p2] : List Value).toArray hk_all RX7 := ⟨hx, hb, hml, hown, hta⟩
  subst hsz
  have hD := hD0.self (sz := s.heap.size)
  generalize hAe : va_A (wv_x cI cJ cZ cM h_x a_x x_places x_round x_threshold x_slack h_fo h_ks h_cn h_sm h_ti h_lg x_marks x_loads x_markCount x_rows x_roundRows x_rounds x_flips x_passedOver ++ (wv_cn cI cJ cZ cM h_cn a_cn cn_keys cn_counts cn_errors cn_limit cn_used ++ (wv_sm cI cJ cZ cM h_sm a_sm sm_keys sm_weights sm_count sm_matches sm_out ++ (wv_ti cI cJ cZ cM h_ti a_ti ti_keys ti_times ti_count ti_now ++ (wv_lg cI cJ cZ cM h_lg a_lg lg_cells lg_newest lg_kept ++ (wv_ks cI cJ cZ cM h_ks a_ks h_fo ks_partCounts ks_states ks_latestRows ks_latestValues ks_moved ++ (wv_fo cI cJ cZ cM h_fo a_fo fo_kinds fo_declared fo_count))))))) s.heap.size = A at hD ⊢
  have hA : ∀ q : Nat, s.heap.size ≤ q → A q := fun q h => by rw [← hAe]; exact Or.inr h
  have hS : va_S A s.heap s.heap [] := va_S.rf
  have hl := lv_entry ([.ref h_x, .int p1, .int p2]) (n := 3) (Nat.le_of_ble_eq_true rfl)
  rw [lg_entry_eq]
  generalize (lg_sl ([.ref h_x, .int p1, .int p2]) ++ List.replicate (3 - (lg_sl ([.ref h_x, .int p1, .int p2])).length) Slot.unset).toArray = ls at hl ⊢
  have hl : lv_has ls 3 [(0, .ref h_x), (1, .int p1), (2, .int p2)] := hl
  unfold wp_x_small at h
  refine lv_iload_n hx hb dX7_small_0 rfl (lv_at hl 1 rfl) ?_
  refine vp_callSi (hk_runS (As := [.int p1]) (rest := []) S0 mm_x_isKey (c_x_isKey l D cI cJ cZ cM p1 _ h) hw_370 hk_blR (hk_atR (hP.sub (ws' := ([] : va_W)) [] rfl) hK hN) ⟨rfl, rfl, Nat.le_of_ble_eq_true rfl, Nat.le_of_ble_eq_true rfl⟩ rfl hl.1 rfl (Nat.le_of_ble_eq_true rfl) dX7_small_1 ⟨Nat.le_of_ble_eq_true rfl, Nat.le_of_ble_eq_true rfl⟩).run (fun r1 h => ?_)
  refine lv_if_ne (tgt := 10) hx hb dX7_small_4 (by decide) (fun c2 => ?_) (fun c2 => ?_)
  · have h := h.1 c2
    refine lv_iload_n hx hb dX7_small_10 rfl (lv_at hl 2 rfl) ?_
    refine lv_sipush (v := (-1000)) hx hb dX7_small_11 (by decide) ?_
    refine lv_sipush (v := 1000) hx hb dX7_small_14 (by decide) ?_
    refine vp_callSi (hk_runS (As := [.int p2, .int (-1000), .int 1000]) (rest := []) S0 mm_x_isWithin (c_x_isWithin l D cI cJ cZ cM p2 (-1000) 1000 _ h) hw_333 hk_blR (hk_atR (hP.sub (ws' := ([] : va_W)) [] rfl) hK hN) ⟨rfl, rfl, Nat.le_of_ble_eq_true rfl, Nat.le_of_ble_eq_true rfl⟩ rfl hl.1 rfl (Nat.le_of_ble_eq_true rfl) dX7_small_17 ⟨Nat.le_of_ble_eq_true rfl, Nat.le_of_ble_eq_true rfl⟩).run (fun r3 h => ?_)
    refine lv_if_ne (tgt := 26) hx hb dX7_small_20 (by decide) (fun c4 => ?_) (fun c4 => ?_)
    · have h := h.1 c4
      refine lv_aload_n hx hb dX7_small_26 rfl (lv_at hl 0 rfl) ?_
      refine va_get (D := D) (ci := 7) (v := .ref h_sm) (C := RX7) (T := TX7) (N := 18) hx hb hta ih_X7 hown hK hP 0 rfl rfl 7 (by decide) (hta _ hw_281) (fun _ h9 => h9) rfl dX7_small_27 ?_
      refine va_getN (D := D) (ci := 5) (v := .int sm_count) (C := RX5) (T := TX5) (N := 5) hx hb hta ih_X5 hown hK hP 7 rfl rfl 2 (by decide) (va_Nw.use rfl (hN.1 _ hn_180)) (fun _ h9 => h9) rfl dX7_small_30 ?_
      refine lv_bipush (v := 60) hx hb dX7_small_33 (by decide) ?_
      refine lv_icmp_lt (tgt := 41) hx hb dX7_small_35 (by decide) (fun c5 => ?_) (fun c5 => ?_)
      · have h := h.1 c5
        refine lv_aload_n hx hb dX7_small_41 rfl (lv_at hl 0 rfl) ?_
        refine va_get (D := D) (ci := 7) (v := .ref h_sm) (C := RX7) (T := TX7) (N := 18) hx hb hta ih_X7 hown hK hP 0 rfl rfl 7 (by decide) (hta _ hw_281) (fun _ h9 => h9) rfl dX7_small_42 ?_
        refine lv_iload_n hx hb dX7_small_45 rfl (lv_at hl 1 rfl) ?_
        refine lv_iload_n hx hb dX7_small_46 rfl (lv_at hl 2 rfl) ?_
        have hP1 : va_P D vwCl (((wv_x cI cJ cZ cM h_x a_x x_places x_round x_threshold x_slack h_fo h_ks h_cn h_sm h_ti h_lg x_marks x_loads x_markCount x_rows x_roundRows x_rounds x_flips x_passedOver) ++ (wv_cn cI cJ cZ cM h_cn a_cn cn_keys cn_counts cn_errors cn_limit cn_used)) ++ ((wv_sm cI cJ cZ cM h_sm a_sm sm_keys sm_weights sm_count sm_matches sm_out) ++ (wv_ti cI cJ cZ cM h_ti a_ti ti_keys ti_times ti_count ti_now ++ (wv_lg cI cJ cZ cM h_lg a_lg lg_cells lg_newest lg_kept ++ (wv_ks cI cJ cZ cM h_ks a_ks h_fo ks_partCounts ks_states ks_latestRows ks_latestValues ks_moved ++ (wv_fo cI cJ cZ cM h_fo a_fo fo_kinds fo_declared fo_count)))))) s.heap := hP
        have hD1 : va_D A (((wv_x cI cJ cZ cM h_x a_x x_places x_round x_threshold x_slack h_fo h_ks h_cn h_sm h_ti h_lg x_marks x_loads x_markCount x_rows x_roundRows x_rounds x_flips x_passedOver) ++ (wv_cn cI cJ cZ cM h_cn a_cn cn_keys cn_counts cn_errors cn_limit cn_used)) ++ ((wv_sm cI cJ cZ cM h_sm a_sm sm_keys sm_weights sm_count sm_matches sm_out) ++ (wv_ti cI cJ cZ cM h_ti a_ti ti_keys ti_times ti_count ti_now ++ (wv_lg cI cJ cZ cM h_lg a_lg lg_cells lg_newest lg_kept ++ (wv_ks cI cJ cZ cM h_ks a_ks h_fo ks_partCounts ks_states ks_latestRows ks_latestValues ks_moved ++ (wv_fo cI cJ cZ cM h_fo a_fo fo_kinds fo_declared fo_count)))))) := hD
        refine hk_sv ((wv_x cI cJ cZ cM h_x a_x x_places x_round x_threshold x_slack h_fo h_ks h_cn h_sm h_ti h_lg x_marks x_loads x_markCount x_rows x_roundRows x_rounds x_flips x_passedOver) ++ (wv_cn cI cJ cZ cM h_cn a_cn cn_keys cn_counts cn_errors cn_limit cn_used)) (wv_sm cI cJ cZ cM h_sm a_sm sm_keys sm_weights sm_count sm_matches sm_out) (wv_ti cI cJ cZ cM h_ti a_ti ti_keys ti_times ti_count ti_now ++ (wv_lg cI cJ cZ cM h_lg a_lg lg_cells lg_newest lg_kept ++ (wv_ks cI cJ cZ cM h_ks a_ks h_fo ks_partCounts ks_states ks_latestRows ks_latestValues ks_moved ++ (wv_fo cI cJ cZ cM h_fo a_fo fo_kinds fo_declared fo_count)))) (hk_runVN (As := [.int p1, .int p2]) (rest := []) S0 mm_sm_add (c_sm_add l D cI cJ cZ cM h_sm a_sm s.heap.size sm_keys sm_weights sm_count sm_matches sm_out p1 p2 _ h) (hN.1 _ hn_572) hk_blM (hk_atM (hk_Pl (hk_Pr hP1)) hK (hk_Dl (hk_Dr hD1)) hN) (va_recv hK hP (ci := 5) (q0 := 7) rfl rfl) ⟨rfl, rfl, Nat.le_of_ble_eq_true rfl, Nat.le_of_ble_eq_true rfl⟩ rfl hl.1 rfl (Nat.le_of_ble_eq_true rfl) dX7_small_47 ⟨Nat.le_of_ble_eq_true rfl, Nat.le_of_ble_eq_true rfl⟩) hP1 hD1 hS hA (fun _ => rfl) (fun w6 H locs h hP hD hS => ?_)
        have hP : va_P D vwCl (wv_x cI cJ cZ cM h_x a_x x_places x_round x_threshold x_slack h_fo h_ks h_cn h_sm h_ti h_lg x_marks x_loads x_markCount x_rows x_roundRows x_rounds x_flips x_passedOver ++ (wv_cn cI cJ cZ cM h_cn a_cn cn_keys cn_counts cn_errors cn_limit cn_used ++ (wv_sm cI cJ cZ cM h_sm a_sm w6.1 w6.2.1 w6.2.2 sm_matches sm_out ++ (wv_ti cI cJ cZ cM h_ti a_ti ti_keys ti_times ti_count ti_now ++ (wv_lg cI cJ cZ cM h_lg a_lg lg_cells lg_newest lg_kept ++ (wv_ks cI cJ cZ cM h_ks a_ks h_fo ks_partCounts ks_states ks_latestRows ks_latestValues ks_moved ++ (wv_fo cI cJ cZ cM h_fo a_fo fo_kinds fo_declared fo_count))))))) H := hP
        have hD : va_D A (wv_x cI cJ cZ cM h_x a_x x_places x_round x_threshold x_slack h_fo h_ks h_cn h_sm h_ti h_lg x_marks x_loads x_markCount x_rows x_roundRows x_rounds x_flips x_passedOver ++ (wv_cn cI cJ cZ cM h_cn a_cn cn_keys cn_counts cn_errors cn_limit cn_used ++ (wv_sm cI cJ cZ cM h_sm a_sm w6.1 w6.2.1 w6.2.2 sm_matches sm_out ++ (wv_ti cI cJ cZ cM h_ti a_ti ti_keys ti_times ti_count ti_now ++ (wv_lg cI cJ cZ cM h_lg a_lg lg_cells lg_newest lg_kept ++ (wv_ks cI cJ cZ cM h_ks a_ks h_fo ks_partCounts ks_states ks_latestRows ks_latestValues ks_moved ++ (wv_fo cI cJ cZ cM h_fo a_fo fo_kinds fo_declared fo_count))))))) := hD
        refine lv_aload_n hx hb dX7_small_50 rfl (lv_at hl 0 rfl) ?_
        refine va_get (D := D) (ci := 7) (v := .ref h_sm) (C := RX7) (T := TX7) (N := 18) hx hb hta ih_X7 hown hK hP 0 rfl rfl 7 (by decide) (hta _ hw_281) (fun _ h9 => h9) rfl dX7_small_51 ?_
        refine va_getN (D := D) (ci := 5) (v := .int w6.2.2) (C := RX5) (T := TX5) (N := 5) hx hb hta ih_X5 hown hK hP 7 rfl rfl 2 (by decide) (va_Nw.use rfl (hN.1 _ hn_180)) (fun _ h9 => h9) rfl dX7_small_54 ?_
        exact W.iret (v := w6.2.2) hx hb hr (fun t ht hW => ⟨⟨w6.2.2, (w6.1, w6.2.1, w6.2.2), rfl, h, by rw [ht]; exact hP, hD⟩, hS.F ht⟩) hS.2.2 dX7_small_57
      · have h := h.2 c5
        refine lv_bipush (v := (-104)) hx hb dX7_small_38 (by decide) ?_
        exact W.iret (v := (-104)) hx hb hr (fun t ht hW => ⟨⟨(-104), (sm_keys, sm_weights, sm_count), rfl, h, by rw [ht]; exact hP, hD⟩, hS.F ht⟩) hS.2.2 dX7_small_40
    · have h := h.2 c4
      refine lv_bipush (v := (-102)) hx hb dX7_small_23 (by decide) ?_
      exact W.iret (v := (-102)) hx hb hr (fun t ht hW => ⟨⟨(-102), (sm_keys, sm_weights, sm_count), rfl, h, by rw [ht]; exact hP, hD⟩, hS.F ht⟩) hS.2.2 dX7_small_25
  · have h := h.2 c2
    refine lv_bipush (v := (-101)) hx hb dX7_small_7 (by decide) ?_
    exact W.iret (v := (-101)) hx hb hr (fun t ht hW => ⟨⟨(-101), (sm_keys, sm_weights, sm_count), rfl, h, by rw [ht]; exact hP, hD⟩, hS.F ht⟩) hS.2.2 dX7_small_9
def wb_x_copies_15 (x_places : Int32) (sm_keys : Nat → Int32) (sm_count : Int32) (ks_partCounts : Nat → Int32) (p1 : Int32) (post : Int32 → Prop) (K15 : (Int32 × Int32) → Prop) (v3 : Int32 × Int32) : Prop := (sm_count ≤ v3.2 → post v3.1) ∧ (¬ sm_count ≤ v3.2 → vp_in v3.2 60 ∧ (wp_x_hasPartAt (sm_keys v3.2.toNatClampNeg) p1 x_places ks_partCounts (fun (r5 : Int32) => (r5 = 0 → ∀ x7 : Int32, x7 = v3.2 + 1 → K15 (v3.1, x7)) ∧ (¬ r5 = 0 → ∀ x8 : Int32, x8 = v3.1 + 1 → ∀ x9 : Int32, x9 = v3.2 + 1 → K15 (x8, x9)))))
def wp_x_copies (p1 : Int32) (x_places : Int32) (sm_keys : Nat → Int32) (sm_count : Int32) (ks_partCounts : Nat → Int32) (post : Int32 → Prop) : Prop := wp_x_isPlace p1 x_places (fun (r1 : Int32) => (¬ r1 = 0 → ∃ n, hk_lp (wb_x_copies_15 x_places sm_keys sm_count ks_partCounts p1 post) n (0, 0)) ∧ (r1 = 0 → post (-101)))
theorem mm_x_copies : hk_MV yX7_copies cX7_copies 4 (some .int) 1 := ⟨hw_579, hw_577, hw_578, hw_79, by decide +kernel⟩
set_option maxRecDepth 100000 in
set_option maxHeartbeats 4000000 in
theorem c_x_copies (l : Launch) (D : va_G) (cI cJ cZ cM : ClassId) (h_x : Nat) (a_x : Nat → Nat) (h_cn : Nat) (a_cn : Nat → Nat) (h_sm : Nat) (a_sm : Nat → Nat) (h_ti : Nat) (a_ti : Nat → Nat) (h_lg : Nat) (a_lg : Nat → Nat) (h_ks : Nat) (a_ks : Nat → Nat) (h_fo : Nat) (a_fo : Nat → Nat)  (x_places : Int32) (x_round : Int32) (x_threshold : Int32) (x_slack : Int32) (x_marks : Nat → Option Nat) (x_loads : Nat → Int32) (x_markCount : Int32) (x_rows : Int32) (x_roundRows : Int32) (x_rounds : Int32) (x_flips : Int32) (x_passedOver : Int32) (cn_keys : Nat → Int32) (cn_counts : Nat → Int32) (cn_errors : Nat → Int32) (cn_limit : Int32) (cn_used : Int32) (sm_keys : Nat → Int32) (sm_weights : Nat → Int32) (sm_count : Int32) (sm_matches : Int32) (sm_out : Int64) (ti_keys : Nat → Int32) (ti_times : Nat → Int32) (ti_count : Int32) (ti_now : Int32) (lg_cells : Nat → Int64) (lg_newest : Int32) (lg_kept : Int32) (ks_partCounts : Nat → Int32) (ks_states : Nat → Int64) (ks_latestRows : Nat → Int32) (ks_latestValues : Nat → Int64) (ks_moved : Int32) (fo_kinds : Nat → Int32) (fo_declared : Nat → Int32) (fo_count : Int32) (p1 : Int32) (post : Int32 → Prop) (h : wp_x_copies p1 x_places sm_keys sm_count ks_partCounts post) : Met l yX7_copies (hk_ws yX7_copies cX7_copies 4 (some .int)) (hk_rm 3 67) (va_Pc [.ref h_x, .int p1] (hk_PR D (hk_ty cI cJ cZ cM) (wv_x cI cJ cZ cM h_x a_x x_places x_round x_threshold x_slack h_fo h_ks h_cn h_sm h_ti h_lg x_marks x_loads x_markCount x_rows x_roundRows x_rounds x_flips x_passedOver ++ (wv_cn cI cJ cZ cM h_cn a_cn cn_keys cn_counts cn_errors cn_limit cn_used ++ (wv_sm cI cJ cZ cM h_sm a_sm sm_keys sm_weights sm_count sm_matches sm_out ++ (wv_ti cI cJ cZ cM h_ti a_ti ti_keys ti_times ti_count ti_now ++ (wv_lg cI cJ cZ cM h_lg a_lg lg_cells lg_newest lg_kept ++ (wv_ks cI cJ cZ cM h_ks a_ks h_fo ks_partCounts ks_states ks_latestRows ks_latestValues ks_moved ++ (wv_fo cI cJ cZ cM h_fo a_fo fo_kinds fo_declared fo_count))))))))) (vp_Si post) 0 0 (fun _ => False) := by
  refine Met.ofW (cc := cX7_copies) (maxL := 4) (ret := (some .int)) (by decide) rfl ?_
  intro p e s m args below meth c s₁ B hml hv
  obtain ⟨rfl, hP, hK, hN⟩ := hv
  have hx := B.exec
  have hb := B.bytes
  have hr := B.returns
  have hts := atoms_spec (ws := hk_ws yX7_copies cX7_copies 4 (some .int)) B.pre
  have hta : ∀ w ∈ hk_all, w.before ([.ref h_x, .int p1] : List Value).toArray s = true := fun w hw => hts w (List.mem_cons_of_mem _ hw)
  have hown : s.vm.findClass RX7 = some m.cls := findClass_of_methodNamed B.named
  have hlocks := B.notSynchronized
  have S0 : CallFix p m c cX7_copies 4 s ([.ref h_x, .int p1] : List Value).toArray hk_all RX7 := ⟨hx, hb, hml, hown, hta⟩
  have hl := lv_entry ([.ref h_x, .int p1]) (n := 4) (Nat.le_of_ble_eq_true rfl)
  rw [lg_entry_eq]
  generalize (lg_sl ([.ref h_x, .int p1]) ++ List.replicate (4 - (lg_sl ([.ref h_x, .int p1])).length) Slot.unset).toArray = ls at hl ⊢
  have hl : lv_has ls 4 [(0, .ref h_x), (1, .int p1)] := hl
  unfold wp_x_copies at h
  refine lv_aload_n hx hb dX7_copies_0 rfl (lv_at hl 0 rfl) ?_
  refine lv_iload_n hx hb dX7_copies_1 rfl (lv_at hl 1 rfl) ?_
  refine vp_callSi (hk_runV (As := [.int p1]) (rest := []) S0 mm_x_isPlace (c_x_isPlace l D cI cJ cZ cM h_x a_x h_cn a_cn h_sm a_sm h_ti a_ti h_lg a_lg h_ks a_ks h_fo a_fo x_places x_round x_threshold x_slack x_marks x_loads x_markCount x_rows x_roundRows x_rounds x_flips x_passedOver cn_keys cn_counts cn_errors cn_limit cn_used sm_keys sm_weights sm_count sm_matches sm_out ti_keys ti_times ti_count ti_now lg_cells lg_newest lg_kept ks_partCounts ks_states ks_latestRows ks_latestValues ks_moved fo_kinds fo_declared fo_count p1 _ h) hw_564 hk_blR (hk_atR hP hK hN) (va_recv hK hP (ci := 7) (q0 := 0) rfl rfl) ⟨rfl, rfl, Nat.le_of_ble_eq_true rfl, Nat.le_of_ble_eq_true rfl⟩ rfl hl.1 rfl (Nat.le_of_ble_eq_true rfl) dX7_copies_2 ⟨Nat.le_of_ble_eq_true rfl, Nat.le_of_ble_eq_true rfl⟩).run (fun r1 h => ?_)
  refine lv_if_ne (tgt := 11) hx hb dX7_copies_5 (by decide) (fun c2 => ?_) (fun c2 => ?_)
  · have h := h.1 c2
    refine lv_iconst (v := 0) hx hb dX7_copies_11 (by decide) ?_
    refine lv_istore_n (lv' := [(2, .int 0), (0, .ref h_x), (1, .int p1)]) hx hb dX7_copies_12 rfl hl (by decide) rfl (fun ls hl => ?_)
    refine lv_iconst (v := 0) hx hb dX7_copies_13 (by decide) ?_
    refine lv_istore_n (lv' := [(3, .int 0), (2, .int 0), (0, .ref h_x), (1, .int p1)]) hx hb dX7_copies_14 rfl hl (by decide) rfl (fun ls hl => ?_)
    have P15 : ∀ (n : Nat) (v3 : Int32 × Int32) (ls : Array Slot), lv_has ls 4 [(0, .ref h_x), (1, .int p1), (2, .int v3.1), (3, .int v3.2)] → hk_lp (wb_x_copies_15 x_places sm_keys sm_count ks_partCounts p1 post) n v3 → W p l e (headSpec (hk_ws yX7_copies cX7_copies 4 (some .int)) (hk_rm 3 67)).room s m ([.ref h_x, .int p1] : List Value).toArray below meth c s.heap [] 0 0 (MQ below (vp_Si post) ([.ref h_x, .int p1] : List Value).toArray s 0 0 (fun _ => False)) (F0 m 15 ls []) := by
      intro n
      induction n with
      | zero => intro v3 ls hl h; exact False.elim h
      | succ n ih15 =>
        intro v3 ls hl h
        have h : wb_x_copies_15 x_places sm_keys sm_count ks_partCounts p1 post (hk_lp (wb_x_copies_15 x_places sm_keys sm_count ks_partCounts p1 post) n) v3 := h
        generalize hk_lp (wb_x_copies_15 x_places sm_keys sm_count ks_partCounts p1 post) n = K15 at h ih15
        unfold wb_x_copies_15 at h
        refine lv_iload_n hx hb dX7_copies_15 rfl (lv_at hl 3 rfl) ?_
        refine lv_aload_n hx hb dX7_copies_16 rfl (lv_at hl 0 rfl) ?_
        refine va_get (D := D) (ci := 7) (v := .ref h_sm) (C := RX7) (T := TX7) (N := 18) hx hb hta ih_X7 hown hK hP 0 rfl rfl 7 (by decide) (hta _ hw_281) (fun _ h9 => h9) rfl dX7_copies_17 ?_
        refine va_getN (D := D) (ci := 5) (v := .int sm_count) (C := RX5) (T := TX5) (N := 5) hx hb hta ih_X5 hown hK hP 7 rfl rfl 2 (by decide) (va_Nw.use rfl (hN.1 _ hn_180)) (fun _ h9 => h9) rfl dX7_copies_20 ?_
        refine lv_icmp_ge (tgt := 52) hx hb dX7_copies_23 (by decide) (fun c4 => ?_) (fun c4 => ?_)
        · have h := h.1 c4
          refine lv_iload_n hx hb dX7_copies_52 rfl (lv_at hl 2 rfl) ?_
          exact W.iret (v := v3.1) hx hb hr (fun t ht hW => ⟨_, rfl, h, ht⟩) (fun _ hq => by cases hq) dX7_copies_53
        · have h := h.2 c4
          refine lv_aload_n hx hb dX7_copies_26 rfl (lv_at hl 0 rfl) ?_
          refine lv_aload_n hx hb dX7_copies_27 rfl (lv_at hl 0 rfl) ?_
          refine va_get (D := D) (ci := 7) (v := .ref h_sm) (C := RX7) (T := TX7) (N := 18) hx hb hta ih_X7 hown hK hP 0 rfl rfl 7 (by decide) (hta _ hw_281) (fun _ h9 => h9) rfl dX7_copies_28 ?_
          refine va_getN (D := D) (ci := 5) (v := .ref (a_sm 0)) (C := RX5) (T := TX5) (N := 5) hx hb hta ih_X5 hown hK hP 7 rfl rfl 0 (by decide) (va_Nw.use rfl (hN.1 _ hn_177)) (fun _ h9 => h9) rfl dX7_copies_31 ?_
          refine lv_iload_n hx hb dX7_copies_34 rfl (lv_at hl 3 rfl) ?_
          refine va_iald hx hb hK hP 8 0 rfl rfl h.1 dX7_copies_35 ?_
          have h := h.2
          refine lv_iload_n hx hb dX7_copies_36 rfl (lv_at hl 1 rfl) ?_
          refine vp_callSi (hk_runV (As := [.int (sm_keys v3.2.toNatClampNeg), .int p1]) (rest := []) S0 mm_x_hasPartAt (c_x_hasPartAt l D cI cJ cZ cM h_x a_x h_cn a_cn h_sm a_sm h_ti a_ti h_lg a_lg h_ks a_ks h_fo a_fo x_places x_round x_threshold x_slack x_marks x_loads x_markCount x_rows x_roundRows x_rounds x_flips x_passedOver cn_keys cn_counts cn_errors cn_limit cn_used sm_keys sm_weights sm_count sm_matches sm_out ti_keys ti_times ti_count ti_now lg_cells lg_newest lg_kept ks_partCounts ks_states ks_latestRows ks_latestValues ks_moved fo_kinds fo_declared fo_count (sm_keys v3.2.toNatClampNeg) p1 _ h) hw_580 hk_blR (hk_atR hP hK hN) (va_recv hK hP (ci := 7) (q0 := 0) rfl rfl) ⟨rfl, rfl, Nat.le_of_ble_eq_true rfl, Nat.le_of_ble_eq_true rfl⟩ rfl hl.1 rfl (Nat.le_of_ble_eq_true rfl) dX7_copies_37 ⟨Nat.le_of_ble_eq_true rfl, Nat.le_of_ble_eq_true rfl⟩).run (fun r5 h => ?_)
          refine lv_if_eq (tgt := 46) hx hb dX7_copies_40 (by decide) (fun c6 => ?_) (fun c6 => ?_)
          · have h := h.1 c6
            obtain ⟨x7, ex7⟩ : ∃ y : Int32, y = v3.2 + 1 := ⟨_, rfl⟩
            have h := h x7 ex7
            refine lv_iinc (v := x7) (lv' := [(3, .int x7), (0, .ref h_x), (1, .int p1), (2, .int v3.1)]) hx hb dX7_copies_46 hl (k := 3) rfl (by rw [ex7]; rfl) (by decide) rfl (fun ls hl => ?_)
            refine lv_goto (tgt := 15) hx hb dX7_copies_49 (by decide) ?_
            exact ih15 (v3.1, x7) ls (lv_sub hl [1, 2, 3, 0] rfl) h
          · have h := h.2 c6
            obtain ⟨x8, ex8⟩ : ∃ y : Int32, y = v3.1 + 1 := ⟨_, rfl⟩
            have h := h x8 ex8
            refine lv_iinc (v := x8) (lv' := [(2, .int x8), (0, .ref h_x), (1, .int p1), (3, .int v3.2)]) hx hb dX7_copies_43 hl (k := 2) rfl (by rw [ex8]; rfl) (by decide) rfl (fun ls hl => ?_)
            obtain ⟨x9, ex9⟩ : ∃ y : Int32, y = v3.2 + 1 := ⟨_, rfl⟩
            have h := h x9 ex9
            refine lv_iinc (v := x9) (lv' := [(3, .int x9), (2, .int x8), (0, .ref h_x), (1, .int p1)]) hx hb dX7_copies_46 hl (k := 3) rfl (by rw [ex9]; rfl) (by decide) rfl (fun ls hl => ?_)
            refine lv_goto (tgt := 15) hx hb dX7_copies_49 (by decide) ?_
            exact ih15 (x8, x9) ls (lv_sub hl [2, 3, 1, 0] rfl) h
    obtain ⟨n, h⟩ := h
    exact P15 n (0, 0) ls (lv_sub hl [2, 3, 1, 0] rfl) h
  · have h := h.2 c2
    refine lv_bipush (v := (-101)) hx hb dX7_copies_8 (by decide) ?_
    exact W.iret (v := (-101)) hx hb hr (fun t ht hW => ⟨_, rfl, h, ht⟩) (fun _ hq => by cases hq) dX7_copies_10
def wp_x_out  (sm_out : Int64) (post : Int64 → Prop) : Prop := post sm_out
theorem mm_x_out : hk_MV yX7_out cX7_out 1 (some .long) 0 := ⟨hw_587, hw_585, hw_586, hw_79, by decide +kernel⟩
set_option maxRecDepth 100000 in
set_option maxHeartbeats 4000000 in
theorem c_x_out (l : Launch) (D : va_G) (cI cJ cZ cM : ClassId) (h_x : Nat) (a_x : Nat → Nat) (h_cn : Nat) (a_cn : Nat → Nat) (h_sm : Nat) (a_sm : Nat → Nat) (h_ti : Nat) (a_ti : Nat → Nat) (h_lg : Nat) (a_lg : Nat → Nat) (h_ks : Nat) (a_ks : Nat → Nat) (h_fo : Nat) (a_fo : Nat → Nat)  (x_places : Int32) (x_round : Int32) (x_threshold : Int32) (x_slack : Int32) (x_marks : Nat → Option Nat) (x_loads : Nat → Int32) (x_markCount : Int32) (x_rows : Int32) (x_roundRows : Int32) (x_rounds : Int32) (x_flips : Int32) (x_passedOver : Int32) (cn_keys : Nat → Int32) (cn_counts : Nat → Int32) (cn_errors : Nat → Int32) (cn_limit : Int32) (cn_used : Int32) (sm_keys : Nat → Int32) (sm_weights : Nat → Int32) (sm_count : Int32) (sm_matches : Int32) (sm_out : Int64) (ti_keys : Nat → Int32) (ti_times : Nat → Int32) (ti_count : Int32) (ti_now : Int32) (lg_cells : Nat → Int64) (lg_newest : Int32) (lg_kept : Int32) (ks_partCounts : Nat → Int32) (ks_states : Nat → Int64) (ks_latestRows : Nat → Int32) (ks_latestValues : Nat → Int64) (ks_moved : Int32) (fo_kinds : Nat → Int32) (fo_declared : Nat → Int32) (fo_count : Int32)  (post : Int64 → Prop) (h : wp_x_out sm_out post) : Met l yX7_out (hk_ws yX7_out cX7_out 1 (some .long)) (hk_rm 0 0) (va_Pc [.ref h_x] (hk_PR D (hk_ty cI cJ cZ cM) (wv_x cI cJ cZ cM h_x a_x x_places x_round x_threshold x_slack h_fo h_ks h_cn h_sm h_ti h_lg x_marks x_loads x_markCount x_rows x_roundRows x_rounds x_flips x_passedOver ++ (wv_cn cI cJ cZ cM h_cn a_cn cn_keys cn_counts cn_errors cn_limit cn_used ++ (wv_sm cI cJ cZ cM h_sm a_sm sm_keys sm_weights sm_count sm_matches sm_out ++ (wv_ti cI cJ cZ cM h_ti a_ti ti_keys ti_times ti_count ti_now ++ (wv_lg cI cJ cZ cM h_lg a_lg lg_cells lg_newest lg_kept ++ (wv_ks cI cJ cZ cM h_ks a_ks h_fo ks_partCounts ks_states ks_latestRows ks_latestValues ks_moved ++ (wv_fo cI cJ cZ cM h_fo a_fo fo_kinds fo_declared fo_count))))))))) (vp_Sl post) 0 0 (fun _ => False) := by
  refine Met.ofW (cc := cX7_out) (maxL := 1) (ret := (some .long)) (by decide) rfl ?_
  intro p e s m args below meth c s₁ B hml hv
  obtain ⟨rfl, hP, hK, hN⟩ := hv
  have hx := B.exec
  have hb := B.bytes
  have hr := B.returns
  have hts := atoms_spec (ws := hk_ws yX7_out cX7_out 1 (some .long)) B.pre
  have hta : ∀ w ∈ hk_all, w.before ([.ref h_x] : List Value).toArray s = true := fun w hw => hts w (List.mem_cons_of_mem _ hw)
  have hown : s.vm.findClass RX7 = some m.cls := findClass_of_methodNamed B.named
  have hlocks := B.notSynchronized
  have S0 : CallFix p m c cX7_out 1 s ([.ref h_x] : List Value).toArray hk_all RX7 := ⟨hx, hb, hml, hown, hta⟩
  have hl := lv_entry ([.ref h_x]) (n := 1) (Nat.le_of_ble_eq_true rfl)
  rw [lg_entry_eq]
  generalize (lg_sl ([.ref h_x]) ++ List.replicate (1 - (lg_sl ([.ref h_x])).length) Slot.unset).toArray = ls at hl ⊢
  have hl : lv_has ls 1 [(0, .ref h_x)] := hl
  unfold wp_x_out at h
  refine lv_aload_n hx hb dX7_out_0 rfl (lv_at hl 0 rfl) ?_
  refine va_get (D := D) (ci := 7) (v := .ref h_sm) (C := RX7) (T := TX7) (N := 18) hx hb hta ih_X7 hown hK hP 0 rfl rfl 7 (by decide) (hta _ hw_281) (fun _ h9 => h9) rfl dX7_out_1 ?_
  refine va_getN (D := D) (ci := 5) (v := .long sm_out) (C := RX5) (T := TX5) (N := 5) hx hb hta ih_X5 hown hK hP 7 rfl rfl 4 (by decide) (va_Nw.use rfl (hN.1 _ hn_184)) (fun _ h9 => h9) rfl dX7_out_4 ?_
  exact W.lret (v := sm_out) hx hb hr (fun t ht hW => ⟨_, rfl, h, ht⟩) (fun _ hq => by cases hq) dX7_out_7
def wp_x_timer (p1 : Int32) (p2 : Int32) (ti_keys : Nat → Int32) (ti_times : Nat → Int32) (ti_count : Int32) (ti_now : Int32) (post : Int32 → ((Nat → Int32) × (Nat → Int32) × Int32) → Prop) : Prop := wp_x_isKey p1 (fun (r1 : Int32) => (¬ r1 = 0 → (p2 ≤ ti_now → post (-102) (ti_keys, ti_times, ti_count)) ∧ (¬ p2 ≤ ti_now → (p2 ≤ 1000000 → (ti_count < 40 → wp_ti_add p1 p2 ti_keys ti_times ti_count (fun (w6 : (Nat → Int32) × (Nat → Int32) × Int32) => post w6.2.2 (w6.1, w6.2.1, w6.2.2))) ∧ (¬ ti_count < 40 → post (-104) (ti_keys, ti_times, ti_count))) ∧ (¬ p2 ≤ 1000000 → post (-102) (ti_keys, ti_times, ti_count)))) ∧ (r1 = 0 → post (-101) (ti_keys, ti_times, ti_count)))
theorem mm_x_timer : hk_MV yX7_timer cX7_timer 3 (some .int) 2 := ⟨hw_591, hw_589, hw_590, hw_79, by decide +kernel⟩
set_option maxRecDepth 100000 in
set_option maxHeartbeats 4000000 in
theorem c_x_timer (l : Launch) (D : va_G) (cI cJ cZ cM : ClassId) (h_x : Nat) (a_x : Nat → Nat) (h_cn : Nat) (a_cn : Nat → Nat) (h_sm : Nat) (a_sm : Nat → Nat) (h_ti : Nat) (a_ti : Nat → Nat) (h_lg : Nat) (a_lg : Nat → Nat) (h_ks : Nat) (a_ks : Nat → Nat) (h_fo : Nat) (a_fo : Nat → Nat) (sz : Nat) (x_places : Int32) (x_round : Int32) (x_threshold : Int32) (x_slack : Int32) (x_marks : Nat → Option Nat) (x_loads : Nat → Int32) (x_markCount : Int32) (x_rows : Int32) (x_roundRows : Int32) (x_rounds : Int32) (x_flips : Int32) (x_passedOver : Int32) (cn_keys : Nat → Int32) (cn_counts : Nat → Int32) (cn_errors : Nat → Int32) (cn_limit : Int32) (cn_used : Int32) (sm_keys : Nat → Int32) (sm_weights : Nat → Int32) (sm_count : Int32) (sm_matches : Int32) (sm_out : Int64) (ti_keys : Nat → Int32) (ti_times : Nat → Int32) (ti_count : Int32) (ti_now : Int32) (lg_cells : Nat → Int64) (lg_newest : Int32) (lg_kept : Int32) (ks_partCounts : Nat → Int32) (ks_states : Nat → Int64) (ks_latestRows : Nat → Int32) (ks_latestValues : Nat → Int64) (ks_moved : Int32) (fo_kinds : Nat → Int32) (fo_declared : Nat → Int32) (fo_count : Int32) (p1 : Int32) (p2 : Int32) (post : Int32 → ((Nat → Int32) × (Nat → Int32) × Int32) → Prop) (h : wp_x_timer p1 p2 ti_keys ti_times ti_count ti_now post) : Met l yX7_timer (hk_ws yX7_timer cX7_timer 3 (some .int)) (hk_rm 2 63) (va_Pc [.ref h_x, .int p1, .int p2] (hk_PM D (hk_ty cI cJ cZ cM) sz (wv_x cI cJ cZ cM h_x a_x x_places x_round x_threshold x_slack h_fo h_ks h_cn h_sm h_ti h_lg x_marks x_loads x_markCount x_rows x_roundRows x_rounds x_flips x_passedOver ++ (wv_cn cI cJ cZ cM h_cn a_cn cn_keys cn_counts cn_errors cn_limit cn_used ++ (wv_sm cI cJ cZ cM h_sm a_sm sm_keys sm_weights sm_count sm_matches sm_out ++ (wv_ti cI cJ cZ cM h_ti a_ti ti_keys ti_times ti_count ti_now ++ (wv_lg cI cJ cZ cM h_lg a_lg lg_cells lg_newest lg_kept ++ (wv_ks cI cJ cZ cM h_ks a_ks h_fo ks_partCounts ks_states ks_latestRows ks_latestValues ks_moved ++ (wv_fo cI cJ cZ cM h_fo a_fo fo_kinds fo_declared fo_count))))))))) (va_Qi post (hk_B D (va_A (wv_x cI cJ cZ cM h_x a_x x_places x_round x_threshold x_slack h_fo h_ks h_cn h_sm h_ti h_lg x_marks x_loads x_markCount x_rows x_roundRows x_rounds x_flips x_passedOver ++ (wv_cn cI cJ cZ cM h_cn a_cn cn_keys cn_counts cn_errors cn_limit cn_used ++ (wv_sm cI cJ cZ cM h_sm a_sm sm_keys sm_weights sm_count sm_matches sm_out ++ (wv_ti cI cJ cZ cM h_ti a_ti ti_keys ti_times ti_count ti_now ++ (wv_lg cI cJ cZ cM h_lg a_lg lg_cells lg_newest lg_kept ++ (wv_ks cI cJ cZ cM h_ks a_ks h_fo ks_partCounts ks_states ks_latestRows ks_latestValues ks_moved ++ (wv_fo cI cJ cZ cM h_fo a_fo fo_kinds fo_declared fo_count))))))) sz) (fun (u : (Nat → Int32) × (Nat → Int32) × Int32) => wv_x cI cJ cZ cM h_x a_x x_places x_round x_threshold x_slack h_fo h_ks h_cn h_sm h_ti h_lg x_marks x_loads x_markCount x_rows x_roundRows x_rounds x_flips x_passedOver ++ (wv_cn cI cJ cZ cM h_cn a_cn cn_keys cn_counts cn_errors cn_limit cn_used ++ (wv_sm cI cJ cZ cM h_sm a_sm sm_keys sm_weights sm_count sm_matches sm_out ++ (wv_ti cI cJ cZ cM h_ti a_ti u.1 u.2.1 u.2.2 ti_now ++ (wv_lg cI cJ cZ cM h_lg a_lg lg_cells lg_newest lg_kept ++ (wv_ks cI cJ cZ cM h_ks a_ks h_fo ks_partCounts ks_states ks_latestRows ks_latestValues ks_moved ++ (wv_fo cI cJ cZ cM h_fo a_fo fo_kinds fo_declared fo_count)))))))) (va_A (wv_x cI cJ cZ cM h_x a_x x_places x_round x_threshold x_slack h_fo h_ks h_cn h_sm h_ti h_lg x_marks x_loads x_markCount x_rows x_roundRows x_rounds x_flips x_passedOver ++ (wv_cn cI cJ cZ cM h_cn a_cn cn_keys cn_counts cn_errors cn_limit cn_used ++ (wv_sm cI cJ cZ cM h_sm a_sm sm_keys sm_weights sm_count sm_matches sm_out ++ (wv_ti cI cJ cZ cM h_ti a_ti ti_keys ti_times ti_count ti_now ++ (wv_lg cI cJ cZ cM h_lg a_lg lg_cells lg_newest lg_kept ++ (wv_ks cI cJ cZ cM h_ks a_ks h_fo ks_partCounts ks_states ks_latestRows ks_latestValues ks_moved ++ (wv_fo cI cJ cZ cM h_fo a_fo fo_kinds fo_declared fo_count))))))) sz)) 0 0 (va_A (wv_x cI cJ cZ cM h_x a_x x_places x_round x_threshold x_slack h_fo h_ks h_cn h_sm h_ti h_lg x_marks x_loads x_markCount x_rows x_roundRows x_rounds x_flips x_passedOver ++ (wv_cn cI cJ cZ cM h_cn a_cn cn_keys cn_counts cn_errors cn_limit cn_used ++ (wv_sm cI cJ cZ cM h_sm a_sm sm_keys sm_weights sm_count sm_matches sm_out ++ (wv_ti cI cJ cZ cM h_ti a_ti ti_keys ti_times ti_count ti_now ++ (wv_lg cI cJ cZ cM h_lg a_lg lg_cells lg_newest lg_kept ++ (wv_ks cI cJ cZ cM h_ks a_ks h_fo ks_partCounts ks_states ks_latestRows ks_latestValues ks_moved ++ (wv_fo cI cJ cZ cM h_fo a_fo fo_kinds fo_declared fo_count))))))) sz) := by
  refine Met.ofW (cc := cX7_timer) (maxL := 3) (ret := (some .int)) (by decide) rfl ?_
  intro p e s m args below meth c s₁ B hml hv
  obtain ⟨rfl, hsz, hP, hK, hD0, hN⟩ := hv
  have hx := B.exec
  have hb := B.bytes
  have hr := B.returns
  have hts := atoms_spec (ws := hk_ws yX7_timer cX7_timer 3 (some .int)) B.pre
  have hta : ∀ w ∈ hk_all, w.before ([.ref h_x, .int p1, .int p2] : List Value).toArray s = true := fun w hw => hts w (List.mem_cons_of_mem _ hw)
  have hown : s.vm.findClass RX7 = some m.cls := findClass_of_methodNamed B.named
  have hlocks := B.notSynchronized
  have S0 : CallFix p m c cX7_timer 3 s ([.ref h_x, .int p1, .int p2] : List Value).toArray hk_all RX7 := ⟨hx, hb, hml, hown, hta⟩
  subst hsz
  have hD := hD0.self (sz := s.heap.size)
  generalize hAe : va_A (wv_x cI cJ cZ cM h_x a_x x_places x_round x_threshold x_slack h_fo h_ks h_cn h_sm h_ti h_lg x_marks x_loads x_markCount x_rows x_roundRows x_rounds x_flips x_passedOver ++ (wv_cn cI cJ cZ cM h_cn a_cn cn_keys cn_counts cn_errors cn_limit cn_used ++ (wv_sm cI cJ cZ cM h_sm a_sm sm_keys sm_weights sm_count sm_matches sm_out ++ (wv_ti cI cJ cZ cM h_ti a_ti ti_keys ti_times ti_count ti_now ++ (wv_lg cI cJ cZ cM h_lg a_lg lg_cells lg_newest lg_kept ++ (wv_ks cI cJ cZ cM h_ks a_ks h_fo ks_partCounts ks_states ks_latestRows ks_latestValues ks_moved ++ (wv_fo cI cJ cZ cM h_fo a_fo fo_kinds fo_declared fo_count))))))) s.heap.size = A at hD ⊢
  have hA : ∀ q : Nat, s.heap.size ≤ q → A q := fun q h => by rw [← hAe]; exact Or.inr h
  have hS : va_S A s.heap s.heap [] := va_S.rf
  have hl := lv_entry ([.ref h_x, .int p1, .int p2]) (n := 3) (Nat.le_of_ble_eq_true rfl)
  rw [lg_entry_eq]
  generalize (lg_sl ([.ref h_x, .int p1, .int p2]) ++ List.replicate (3 - (lg_sl ([.ref h_x, .int p1, .int p2])).length) Slot.unset).toArray = ls at hl ⊢
  have hl : lv_has ls 3 [(0, .ref h_x), (1, .int p1), (2, .int p2)] := hl
  unfold wp_x_timer at h
  refine lv_iload_n hx hb dX7_timer_0 rfl (lv_at hl 1 rfl) ?_
  refine vp_callSi (hk_runS (As := [.int p1]) (rest := []) S0 mm_x_isKey (c_x_isKey l D cI cJ cZ cM p1 _ h) hw_370 hk_blR (hk_atR (hP.sub (ws' := ([] : va_W)) [] rfl) hK hN) ⟨rfl, rfl, Nat.le_of_ble_eq_true rfl, Nat.le_of_ble_eq_true rfl⟩ rfl hl.1 rfl (Nat.le_of_ble_eq_true rfl) dX7_timer_1 ⟨Nat.le_of_ble_eq_true rfl, Nat.le_of_ble_eq_true rfl⟩).run (fun r1 h => ?_)
  refine lv_if_ne (tgt := 10) hx hb dX7_timer_4 (by decide) (fun c2 => ?_) (fun c2 => ?_)
  · have h := h.1 c2
    refine lv_iload_n hx hb dX7_timer_10 rfl (lv_at hl 2 rfl) ?_
    refine lv_aload_n hx hb dX7_timer_11 rfl (lv_at hl 0 rfl) ?_
    refine va_get (D := D) (ci := 7) (v := .ref h_ti) (C := RX7) (T := TX7) (N := 18) hx hb hta ih_X7 hown hK hP 0 rfl rfl 8 (by decide) (hta _ hw_282) (fun _ h9 => h9) rfl dX7_timer_12 ?_
    refine va_getN (D := D) (ci := 6) (v := .int ti_now) (C := RX6) (T := TX6) (N := 4) hx hb hta ih_X6 hown hK hP 10 rfl rfl 3 (by decide) (va_Nw.use rfl (hN.1 _ hn_209)) (fun _ h9 => h9) rfl dX7_timer_15 ?_
    refine lv_icmp_le (tgt := 27) hx hb dX7_timer_18 (by decide) (fun c3 => ?_) (fun c3 => ?_)
    · have h := h.1 c3
      refine lv_bipush (v := (-102)) hx hb dX7_timer_27 (by decide) ?_
      exact W.iret (v := (-102)) hx hb hr (fun t ht hW => ⟨⟨(-102), (ti_keys, ti_times, ti_count), rfl, h, by rw [ht]; exact hP, hD⟩, hS.F ht⟩) hS.2.2 dX7_timer_29
    · have h := h.2 c3
      refine lv_iload_n hx hb dX7_timer_21 rfl (lv_at hl 2 rfl) ?_
      refine lv_ldc (v := 1000000) hx hb hown (hta _ hw_592) dX7_timer_22 ?_
      refine lv_icmp_le (tgt := 30) hx hb dX7_timer_24 (by decide) (fun c4 => ?_) (fun c4 => ?_)
      · have h := h.1 c4
        refine lv_aload_n hx hb dX7_timer_30 rfl (lv_at hl 0 rfl) ?_
        refine va_get (D := D) (ci := 7) (v := .ref h_ti) (C := RX7) (T := TX7) (N := 18) hx hb hta ih_X7 hown hK hP 0 rfl rfl 8 (by decide) (hta _ hw_282) (fun _ h9 => h9) rfl dX7_timer_31 ?_
        refine va_getN (D := D) (ci := 6) (v := .int ti_count) (C := RX6) (T := TX6) (N := 4) hx hb hta ih_X6 hown hK hP 10 rfl rfl 2 (by decide) (va_Nw.use rfl (hN.1 _ hn_207)) (fun _ h9 => h9) rfl dX7_timer_34 ?_
        refine lv_bipush (v := 40) hx hb dX7_timer_37 (by decide) ?_
        refine lv_icmp_lt (tgt := 45) hx hb dX7_timer_39 (by decide) (fun c5 => ?_) (fun c5 => ?_)
        · have h := h.1 c5
          refine lv_aload_n hx hb dX7_timer_45 rfl (lv_at hl 0 rfl) ?_
          refine va_get (D := D) (ci := 7) (v := .ref h_ti) (C := RX7) (T := TX7) (N := 18) hx hb hta ih_X7 hown hK hP 0 rfl rfl 8 (by decide) (hta _ hw_282) (fun _ h9 => h9) rfl dX7_timer_46 ?_
          refine lv_iload_n hx hb dX7_timer_49 rfl (lv_at hl 1 rfl) ?_
          refine lv_iload_n hx hb dX7_timer_50 rfl (lv_at hl 2 rfl) ?_
          have hP1 : va_P D vwCl ((wv_x cI cJ cZ cM h_x a_x x_places x_round x_threshold x_slack h_fo h_ks h_cn h_sm h_ti h_lg x_marks x_loads x_markCount x_rows x_roundRows x_rounds x_flips x_passedOver ++ (wv_cn cI cJ cZ cM h_cn a_cn cn_keys cn_counts cn_errors cn_limit cn_used ++ (wv_sm cI cJ cZ cM h_sm a_sm sm_keys sm_weights sm_count sm_matches sm_out))) ++ ((wv_ti cI cJ cZ cM h_ti a_ti ti_keys ti_times ti_count ti_now) ++ (wv_lg cI cJ cZ cM h_lg a_lg lg_cells lg_newest lg_kept ++ (wv_ks cI cJ cZ cM h_ks a_ks h_fo ks_partCounts ks_states ks_latestRows ks_latestValues ks_moved ++ (wv_fo cI cJ cZ cM h_fo a_fo fo_kinds fo_declared fo_count))))) s.heap := hP
          have hD1 : va_D A ((wv_x cI cJ cZ cM h_x a_x x_places x_round x_threshold x_slack h_fo h_ks h_cn h_sm h_ti h_lg x_marks x_loads x_markCount x_rows x_roundRows x_rounds x_flips x_passedOver ++ (wv_cn cI cJ cZ cM h_cn a_cn cn_keys cn_counts cn_errors cn_limit cn_used ++ (wv_sm cI cJ cZ cM h_sm a_sm sm_keys sm_weights sm_count sm_matches sm_out))) ++ ((wv_ti cI cJ cZ cM h_ti a_ti ti_keys ti_times ti_count ti_now) ++ (wv_lg cI cJ cZ cM h_lg a_lg lg_cells lg_newest lg_kept ++ (wv_ks cI cJ cZ cM h_ks a_ks h_fo ks_partCounts ks_states ks_latestRows ks_latestValues ks_moved ++ (wv_fo cI cJ cZ cM h_fo a_fo fo_kinds fo_declared fo_count))))) := hD
          refine hk_sv (wv_x cI cJ cZ cM h_x a_x x_places x_round x_threshold x_slack h_fo h_ks h_cn h_sm h_ti h_lg x_marks x_loads x_markCount x_rows x_roundRows x_rounds x_flips x_passedOver ++ (wv_cn cI cJ cZ cM h_cn a_cn cn_keys cn_counts cn_errors cn_limit cn_used ++ (wv_sm cI cJ cZ cM h_sm a_sm sm_keys sm_weights sm_count sm_matches sm_out))) (wv_ti cI cJ cZ cM h_ti a_ti ti_keys ti_times ti_count ti_now) (wv_lg cI cJ cZ cM h_lg a_lg lg_cells lg_newest lg_kept ++ (wv_ks cI cJ cZ cM h_ks a_ks h_fo ks_partCounts ks_states ks_latestRows ks_latestValues ks_moved ++ (wv_fo cI cJ cZ cM h_fo a_fo fo_kinds fo_declared fo_count))) (hk_runVN (As := [.int p1, .int p2]) (rest := []) S0 mm_ti_add (c_ti_add l D cI cJ cZ cM h_ti a_ti s.heap.size ti_keys ti_times ti_count ti_now p1 p2 _ h) (hN.1 _ hn_593) hk_blM (hk_atM (hk_Pl (hk_Pr hP1)) hK (hk_Dl (hk_Dr hD1)) hN) (va_recv hK hP (ci := 6) (q0 := 10) rfl rfl) ⟨rfl, rfl, Nat.le_of_ble_eq_true rfl, Nat.le_of_ble_eq_true rfl⟩ rfl hl.1 rfl (Nat.le_of_ble_eq_true rfl) dX7_timer_51 ⟨Nat.le_of_ble_eq_true rfl, Nat.le_of_ble_eq_true rfl⟩) hP1 hD1 hS hA (fun _ => rfl) (fun w6 H locs h hP hD hS => ?_)
          have hP : va_P D vwCl (wv_x cI cJ cZ cM h_x a_x x_places x_round x_threshold x_slack h_fo h_ks h_cn h_sm h_ti h_lg x_marks x_loads x_markCount x_rows x_roundRows x_rounds x_flips x_passedOver ++ (wv_cn cI cJ cZ cM h_cn a_cn cn_keys cn_counts cn_errors cn_limit cn_used ++ (wv_sm cI cJ cZ cM h_sm a_sm sm_keys sm_weights sm_count sm_matches sm_out ++ (wv_ti cI cJ cZ cM h_ti a_ti w6.1 w6.2.1 w6.2.2 ti_now ++ (wv_lg cI cJ cZ cM h_lg a_lg lg_cells lg_newest lg_kept ++ (wv_ks cI cJ cZ cM h_ks a_ks h_fo ks_partCounts ks_states ks_latestRows ks_latestValues ks_moved ++ (wv_fo cI cJ cZ cM h_fo a_fo fo_kinds fo_declared fo_count))))))) H := hP
          have hD : va_D A (wv_x cI cJ cZ cM h_x a_x x_places x_round x_threshold x_slack h_fo h_ks h_cn h_sm h_ti h_lg x_marks x_loads x_markCount x_rows x_roundRows x_rounds x_flips x_passedOver ++ (wv_cn cI cJ cZ cM h_cn a_cn cn_keys cn_counts cn_errors cn_limit cn_used ++ (wv_sm cI cJ cZ cM h_sm a_sm sm_keys sm_weights sm_count sm_matches sm_out ++ (wv_ti cI cJ cZ cM h_ti a_ti w6.1 w6.2.1 w6.2.2 ti_now ++ (wv_lg cI cJ cZ cM h_lg a_lg lg_cells lg_newest lg_kept ++ (wv_ks cI cJ cZ cM h_ks a_ks h_fo ks_partCounts ks_states ks_latestRows ks_latestValues ks_moved ++ (wv_fo cI cJ cZ cM h_fo a_fo fo_kinds fo_declared fo_count))))))) := hD
          refine lv_aload_n hx hb dX7_timer_54 rfl (lv_at hl 0 rfl) ?_
          refine va_get (D := D) (ci := 7) (v := .ref h_ti) (C := RX7) (T := TX7) (N := 18) hx hb hta ih_X7 hown hK hP 0 rfl rfl 8 (by decide) (hta _ hw_282) (fun _ h9 => h9) rfl dX7_timer_55 ?_
          refine va_getN (D := D) (ci := 6) (v := .int w6.2.2) (C := RX6) (T := TX6) (N := 4) hx hb hta ih_X6 hown hK hP 10 rfl rfl 2 (by decide) (va_Nw.use rfl (hN.1 _ hn_207)) (fun _ h9 => h9) rfl dX7_timer_58 ?_
          exact W.iret (v := w6.2.2) hx hb hr (fun t ht hW => ⟨⟨w6.2.2, (w6.1, w6.2.1, w6.2.2), rfl, h, by rw [ht]; exact hP, hD⟩, hS.F ht⟩) hS.2.2 dX7_timer_61
        · have h := h.2 c5
          refine lv_bipush (v := (-104)) hx hb dX7_timer_42 (by decide) ?_
          exact W.iret (v := (-104)) hx hb hr (fun t ht hW => ⟨⟨(-104), (ti_keys, ti_times, ti_count), rfl, h, by rw [ht]; exact hP, hD⟩, hS.F ht⟩) hS.2.2 dX7_timer_44
      · have h := h.2 c4
        refine lv_bipush (v := (-102)) hx hb dX7_timer_27 (by decide) ?_
        exact W.iret (v := (-102)) hx hb hr (fun t ht hW => ⟨⟨(-102), (ti_keys, ti_times, ti_count), rfl, h, by rw [ht]; exact hP, hD⟩, hS.F ht⟩) hS.2.2 dX7_timer_29
  · have h := h.2 c2
    refine lv_bipush (v := (-101)) hx hb dX7_timer_7 (by decide) ?_
    exact W.iret (v := (-101)) hx hb hr (fun t ht hW => ⟨⟨(-101), (ti_keys, ti_times, ti_count), rfl, h, by rw [ht]; exact hP, hD⟩, hS.F ht⟩) hS.2.2 dX7_timer_9
def wb_x_tick_30 (ti_keys : Nat → Int32) (ti_times : Nat → Int32) (ti_count : Int32) (ks_partCounts : Nat → Int32) (fo_kinds : Nat → Int32) (fo_count : Int32) (p1 : Int32) (post : Int32 → ((Nat → Int32) × (Nat → Int32) × Int32 × Int32 × (Nat → Int64) × Int32 × Int32 × (Nat → Int64) × (Nat → Int32) × (Nat → Int64)) → Prop) (r3 : Int32) (K30 : (Int32 × (Nat → Int64) × Int32 × Int32 × (Nat → Int64) × (Nat → Int32) × (Nat → Int64)) → Prop) (v4 : Int32 × (Nat → Int64) × Int32 × Int32 × (Nat → Int64) × (Nat → Int32) × (Nat → Int64)) : Prop := (r3 ≤ v4.1 → wp_ti_dropFirst r3 ti_keys ti_times ti_count (fun (w6 : (Nat → Int32) × (Nat → Int32) × Int32) => post r3 (w6.1, w6.2.1, w6.2.2, p1, v4.2.1, v4.2.2.1, v4.2.2.2.1, v4.2.2.2.2.1, v4.2.2.2.2.2.1, v4.2.2.2.2.2.2))) ∧ (¬ r3 ≤ v4.1 → vp_in v4.1 40 ∧ (vp_in v4.1 40 ∧ (wp_x_ring (ti_keys v4.1.toNatClampNeg) (ti_times v4.1.toNatClampNeg) v4.2.1 v4.2.2.1 v4.2.2.2.1 ks_partCounts v4.2.2.2.2.1 v4.2.2.2.2.2.1 v4.2.2.2.2.2.2 fo_kinds fo_count (fun (w7 : (Nat → Int64) × Int32 × Int32 × (Nat → Int64) × (Nat → Int32) × (Nat → Int64)) => ∀ x8 : Int32, x8 = v4.1 + 1 → K30 (x8, w7.1, w7.2.1, w7.2.2.1, w7.2.2.2.1, w7.2.2.2.2.1, w7.2.2.2.2.2)))))
def wp_x_tick (p1 : Int32) (ti_keys : Nat → Int32) (ti_times : Nat → Int32) (ti_count : Int32) (ti_now : Int32) (lg_cells : Nat → Int64) (lg_newest : Int32) (lg_kept : Int32) (ks_partCounts : Nat → Int32) (ks_states : Nat → Int64) (ks_latestRows : Nat → Int32) (ks_latestValues : Nat → Int64) (fo_kinds : Nat → Int32) (fo_count : Int32) (post : Int32 → ((Nat → Int32) × (Nat → Int32) × Int32 × Int32 × (Nat → Int64) × Int32 × Int32 × (Nat → Int64) × (Nat → Int32) × (Nat → Int64)) → Prop) : Prop := wp_x_isWithin p1 ti_now 1000000 (fun (r1 : Int32) => (¬ r1 = 0 → wp_ti_dueAt p1 ti_times ti_count (fun (r3 : Int32) => ∃ n, hk_lp (wb_x_tick_30 ti_keys ti_times ti_count ks_partCounts fo_kinds fo_count p1 post r3) n (0, lg_cells, lg_newest, lg_kept, ks_states, ks_latestRows, ks_latestValues))) ∧ (r1 = 0 → post (-102) (ti_keys, ti_times, ti_count, ti_now, lg_cells, lg_newest, lg_kept, ks_states, ks_latestRows, ks_latestValues)))
theorem mm_x_tick : hk_MV yX7_tick cX7_tick 4 (some .int) 1 := ⟨hw_607, hw_605, hw_606, hw_79, by decide +kernel⟩
set_option maxRecDepth 100000 in
set_option maxHeartbeats 4000000 in
theorem c_x_tick (l : Launch) (D : va_G) (cI cJ cZ cM : ClassId) (h_x : Nat) (a_x : Nat → Nat) (h_cn : Nat) (a_cn : Nat → Nat) (h_sm : Nat) (a_sm : Nat → Nat) (h_ti : Nat) (a_ti : Nat → Nat) (h_lg : Nat) (a_lg : Nat → Nat) (h_ks : Nat) (a_ks : Nat → Nat) (h_fo : Nat) (a_fo : Nat → Nat) (sz : Nat) (x_places : Int32) (x_round : Int32) (x_threshold : Int32) (x_slack : Int32) (x_marks : Nat → Option Nat) (x_loads : Nat → Int32) (x_markCount : Int32) (x_rows : Int32) (x_roundRows : Int32) (x_rounds : Int32) (x_flips : Int32) (x_passedOver : Int32) (cn_keys : Nat → Int32) (cn_counts : Nat → Int32) (cn_errors : Nat → Int32) (cn_limit : Int32) (cn_used : Int32) (sm_keys : Nat → Int32) (sm_weights : Nat → Int32) (sm_count : Int32) (sm_matches : Int32) (sm_out : Int64) (ti_keys : Nat → Int32) (ti_times : Nat → Int32) (ti_count : Int32) (ti_now : Int32) (lg_cells : Nat → Int64) (lg_newest : Int32) (lg_kept : Int32) (ks_partCounts : Nat → Int32) (ks_states : Nat → Int64) (ks_latestRows : Nat → Int32) (ks_latestValues : Nat → Int64) (ks_moved : Int32) (fo_kinds : Nat → Int32) (fo_declared : Nat → Int32) (fo_count : Int32) (p1 : Int32) (post : Int32 → ((Nat → Int32) × (Nat → Int32) × Int32 × Int32 × (Nat → Int64) × Int32 × Int32 × (Nat → Int64) × (Nat → Int32) × (Nat → Int64)) → Prop) (h : wp_x_tick p1 ti_keys ti_times ti_count ti_now lg_cells lg_newest lg_kept ks_partCounts ks_states ks_latestRows ks_latestValues fo_kinds fo_count post) : Met l yX7_tick (hk_ws yX7_tick cX7_tick 4 (some .int)) (hk_rm 4 100) (va_Pc [.ref h_x, .int p1] (hk_PM D (hk_ty cI cJ cZ cM) sz (wv_x cI cJ cZ cM h_x a_x x_places x_round x_threshold x_slack h_fo h_ks h_cn h_sm h_ti h_lg x_marks x_loads x_markCount x_rows x_roundRows x_rounds x_flips x_passedOver ++ (wv_cn cI cJ cZ cM h_cn a_cn cn_keys cn_counts cn_errors cn_limit cn_used ++ (wv_sm cI cJ cZ cM h_sm a_sm sm_keys sm_weights sm_count sm_matches sm_out ++ (wv_ti cI cJ cZ cM h_ti a_ti ti_keys ti_times ti_count ti_now ++ (wv_lg cI cJ cZ cM h_lg a_lg lg_cells lg_newest lg_kept ++ (wv_ks cI cJ cZ cM h_ks a_ks h_fo ks_partCounts ks_states ks_latestRows ks_latestValues ks_moved ++ (wv_fo cI cJ cZ cM h_fo a_fo fo_kinds fo_declared fo_count))))))))) (va_Qi post (hk_B D (va_A (wv_x cI cJ cZ cM h_x a_x x_places x_round x_threshold x_slack h_fo h_ks h_cn h_sm h_ti h_lg x_marks x_loads x_markCount x_rows x_roundRows x_rounds x_flips x_passedOver ++ (wv_cn cI cJ cZ cM h_cn a_cn cn_keys cn_counts cn_errors cn_limit cn_used ++ (wv_sm cI cJ cZ cM h_sm a_sm sm_keys sm_weights sm_count sm_matches sm_out ++ (wv_ti cI cJ cZ cM h_ti a_ti ti_keys ti_times ti_count ti_now ++ (wv_lg cI cJ cZ cM h_lg a_lg lg_cells lg_newest lg_kept ++ (wv_ks cI cJ cZ cM h_ks a_ks h_fo ks_partCounts ks_states ks_latestRows ks_latestValues ks_moved ++ (wv_fo cI cJ cZ cM h_fo a_fo fo_kinds fo_declared fo_count))))))) sz) (fun (u : (Nat → Int32) × (Nat → Int32) × Int32 × Int32 × (Nat → Int64) × Int32 × Int32 × (Nat → Int64) × (Nat → Int32) × (Nat → Int64)) => wv_x cI cJ cZ cM h_x a_x x_places x_round x_threshold x_slack h_fo h_ks h_cn h_sm h_ti h_lg x_marks x_loads x_markCount x_rows x_roundRows x_rounds x_flips x_passedOver ++ (wv_cn cI cJ cZ cM h_cn a_cn cn_keys cn_counts cn_errors cn_limit cn_used ++ (wv_sm cI cJ cZ cM h_sm a_sm sm_keys sm_weights sm_count sm_matches sm_out ++ (wv_ti cI cJ cZ cM h_ti a_ti u.1 u.2.1 u.2.2.1 u.2.2.2.1 ++ (wv_lg cI cJ cZ cM h_lg a_lg u.2.2.2.2.1 u.2.2.2.2.2.1 u.2.2.2.2.2.2.1 ++ (wv_ks cI cJ cZ cM h_ks a_ks h_fo ks_partCounts u.2.2.2.2.2.2.2.1 u.2.2.2.2.2.2.2.2.1 u.2.2.2.2.2.2.2.2.2 ks_moved ++ (wv_fo cI cJ cZ cM h_fo a_fo fo_kinds fo_declared fo_count)))))))) (va_A (wv_x cI cJ cZ cM h_x a_x x_places x_round x_threshold x_slack h_fo h_ks h_cn h_sm h_ti h_lg x_marks x_loads x_markCount x_rows x_roundRows x_rounds x_flips x_passedOver ++ (wv_cn cI cJ cZ cM h_cn a_cn cn_keys cn_counts cn_errors cn_limit cn_used ++ (wv_sm cI cJ cZ cM h_sm a_sm sm_keys sm_weights sm_count sm_matches sm_out ++ (wv_ti cI cJ cZ cM h_ti a_ti ti_keys ti_times ti_count ti_now ++ (wv_lg cI cJ cZ cM h_lg a_lg lg_cells lg_newest lg_kept ++ (wv_ks cI cJ cZ cM h_ks a_ks h_fo ks_partCounts ks_states ks_latestRows ks_latestValues ks_moved ++ (wv_fo cI cJ cZ cM h_fo a_fo fo_kinds fo_declared fo_count))))))) sz)) 0 0 (va_A (wv_x cI cJ cZ cM h_x a_x x_places x_round x_threshold x_slack h_fo h_ks h_cn h_sm h_ti h_lg x_marks x_loads x_markCount x_rows x_roundRows x_rounds x_flips x_passedOver ++ (wv_cn cI cJ cZ cM h_cn a_cn cn_keys cn_counts cn_errors cn_limit cn_used ++ (wv_sm cI cJ cZ cM h_sm a_sm sm_keys sm_weights sm_count sm_matches sm_out ++ (wv_ti cI cJ cZ cM h_ti a_ti ti_keys ti_times ti_count ti_now ++ (wv_lg cI cJ cZ cM h_lg a_lg lg_cells lg_newest lg_kept ++ (wv_ks cI cJ cZ cM h_ks a_ks h_fo ks_partCounts ks_states ks_latestRows ks_latestValues ks_moved ++ (wv_fo cI cJ cZ cM h_fo a_fo fo_kinds fo_declared fo_count))))))) sz) := by
  refine Met.ofW (cc := cX7_tick) (maxL := 4) (ret := (some .int)) (by decide) rfl ?_
  intro p e s m args below meth c s₁ B hml hv
  obtain ⟨rfl, hsz, hP, hK, hD0, hN⟩ := hv
  have hx := B.exec
  have hb := B.bytes
  have hr := B.returns
  have hts := atoms_spec (ws := hk_ws yX7_tick cX7_tick 4 (some .int)) B.pre
  have hta : ∀ w ∈ hk_all, w.before ([.ref h_x, .int p1] : List Value).toArray s = true := fun w hw => hts w (List.mem_cons_of_mem _ hw)
  have hown : s.vm.findClass RX7 = some m.cls := findClass_of_methodNamed B.named
  have hlocks := B.notSynchronized
  have S0 : CallFix p m c cX7_tick 4 s ([.ref h_x, .int p1] : List Value).toArray hk_all RX7 := ⟨hx, hb, hml, hown, hta⟩
  subst hsz
  have hD := hD0.self (sz := s.heap.size)
  generalize hAe : va_A (wv_x cI cJ cZ cM h_x a_x x_places x_round x_threshold x_slack h_fo h_ks h_cn h_sm h_ti h_lg x_marks x_loads x_markCount x_rows x_roundRows x_rounds x_flips x_passedOver ++ (wv_cn cI cJ cZ cM h_cn a_cn cn_keys cn_counts cn_errors cn_limit cn_used ++ (wv_sm cI cJ cZ cM h_sm a_sm sm_keys sm_weights sm_count sm_matches sm_out ++ (wv_ti cI cJ cZ cM h_ti a_ti ti_keys ti_times ti_count ti_now ++ (wv_lg cI cJ cZ cM h_lg a_lg lg_cells lg_newest lg_kept ++ (wv_ks cI cJ cZ cM h_ks a_ks h_fo ks_partCounts ks_states ks_latestRows ks_latestValues ks_moved ++ (wv_fo cI cJ cZ cM h_fo a_fo fo_kinds fo_declared fo_count))))))) s.heap.size = A at hD ⊢
  have hA : ∀ q : Nat, s.heap.size ≤ q → A q := fun q h => by rw [← hAe]; exact Or.inr h
  have hS : va_S A s.heap s.heap [] := va_S.rf
  have hl := lv_entry ([.ref h_x, .int p1]) (n := 4) (Nat.le_of_ble_eq_true rfl)
  rw [lg_entry_eq]
  generalize (lg_sl ([.ref h_x, .int p1]) ++ List.replicate (4 - (lg_sl ([.ref h_x, .int p1])).length) Slot.unset).toArray = ls at hl ⊢
  have hl : lv_has ls 4 [(0, .ref h_x), (1, .int p1)] := hl
  unfold wp_x_tick at h
  refine lv_iload_n hx hb dX7_tick_0 rfl (lv_at hl 1 rfl) ?_
  refine lv_aload_n hx hb dX7_tick_1 rfl (lv_at hl 0 rfl) ?_
  refine va_get (D := D) (ci := 7) (v := .ref h_ti) (C := RX7) (T := TX7) (N := 18) hx hb hta ih_X7 hown hK hP 0 rfl rfl 8 (by decide) (hta _ hw_282) (fun _ h9 => h9) rfl dX7_tick_2 ?_
  refine va_getN (D := D) (ci := 6) (v := .int ti_now) (C := RX6) (T := TX6) (N := 4) hx hb hta ih_X6 hown hK hP 10 rfl rfl 3 (by decide) (va_Nw.use rfl (hN.1 _ hn_209)) (fun _ h9 => h9) rfl dX7_tick_5 ?_
  refine lv_ldc (v := 1000000) hx hb hown (hta _ hw_592) dX7_tick_8 ?_
  refine vp_callSi (hk_runS (As := [.int p1, .int ti_now, .int 1000000]) (rest := []) S0 mm_x_isWithin (c_x_isWithin l D cI cJ cZ cM p1 ti_now 1000000 _ h) hw_333 hk_blR (hk_atR (hP.sub (ws' := ([] : va_W)) [] rfl) hK hN) ⟨rfl, rfl, Nat.le_of_ble_eq_true rfl, Nat.le_of_ble_eq_true rfl⟩ rfl hl.1 rfl (Nat.le_of_ble_eq_true rfl) dX7_tick_10 ⟨Nat.le_of_ble_eq_true rfl, Nat.le_of_ble_eq_true rfl⟩).run (fun r1 h => ?_)
  refine lv_if_ne (tgt := 19) hx hb dX7_tick_13 (by decide) (fun c2 => ?_) (fun c2 => ?_)
  · have h := h.1 c2
    refine lv_aload_n hx hb dX7_tick_19 rfl (lv_at hl 0 rfl) ?_
    refine va_get (D := D) (ci := 7) (v := .ref h_ti) (C := RX7) (T := TX7) (N := 18) hx hb hta ih_X7 hown hK hP 0 rfl rfl 8 (by decide) (hta _ hw_282) (fun _ h9 => h9) rfl dX7_tick_20 ?_
    refine lv_iload_n hx hb dX7_tick_23 rfl (lv_at hl 1 rfl) ?_
    refine vp_callSi (hk_runVN (As := [.int p1]) (rest := []) S0 mm_ti_dueAt (c_ti_dueAt l D cI cJ cZ cM h_ti a_ti ti_keys ti_times ti_count ti_now p1 _ h) (hN.1 _ hn_608) hk_blR (hk_atR (hP.sub (ws' := wv_ti cI cJ cZ cM h_ti a_ti ti_keys ti_times ti_count ti_now) [10, 11, 12] rfl) hK hN) (va_recv hK hP (ci := 6) (q0 := 10) rfl rfl) ⟨rfl, rfl, Nat.le_of_ble_eq_true rfl, Nat.le_of_ble_eq_true rfl⟩ rfl hl.1 rfl (Nat.le_of_ble_eq_true rfl) dX7_tick_24 ⟨Nat.le_of_ble_eq_true rfl, Nat.le_of_ble_eq_true rfl⟩).run (fun r3 h => ?_)
    refine lv_istore_n (lv' := [(2, .int r3), (0, .ref h_x), (1, .int p1)]) hx hb dX7_tick_27 rfl hl (by decide) rfl (fun ls hl => ?_)
    refine lv_iconst (v := 0) hx hb dX7_tick_28 (by decide) ?_
    refine lv_istore_n (lv' := [(3, .int 0), (2, .int r3), (0, .ref h_x), (1, .int p1)]) hx hb dX7_tick_29 rfl hl (by decide) rfl (fun ls hl => ?_)
    have P30 : ∀ (n : Nat) (v4 : Int32 × (Nat → Int64) × Int32 × Int32 × (Nat → Int64) × (Nat → Int32) × (Nat → Int64)) (H : Heap) (locs : List Loc) (ls : Array Slot), va_P D vwCl (wv_x cI cJ cZ cM h_x a_x x_places x_round x_threshold x_slack h_fo h_ks h_cn h_sm h_ti h_lg x_marks x_loads x_markCount x_rows x_roundRows x_rounds x_flips x_passedOver ++ (wv_cn cI cJ cZ cM h_cn a_cn cn_keys cn_counts cn_errors cn_limit cn_used ++ (wv_sm cI cJ cZ cM h_sm a_sm sm_keys sm_weights sm_count sm_matches sm_out ++ (wv_ti cI cJ cZ cM h_ti a_ti ti_keys ti_times ti_count ti_now ++ (wv_lg cI cJ cZ cM h_lg a_lg v4.2.1 v4.2.2.1 v4.2.2.2.1 ++ (wv_ks cI cJ cZ cM h_ks a_ks h_fo ks_partCounts v4.2.2.2.2.1 v4.2.2.2.2.2.1 v4.2.2.2.2.2.2 ks_moved ++ (wv_fo cI cJ cZ cM h_fo a_fo fo_kinds fo_declared fo_count))))))) H → va_D A (wv_x cI cJ cZ cM h_x a_x x_places x_round x_threshold x_slack h_fo h_ks h_cn h_sm h_ti h_lg x_marks x_loads x_markCount x_rows x_roundRows x_rounds x_flips x_passedOver ++ (wv_cn cI cJ cZ cM h_cn a_cn cn_keys cn_counts cn_errors cn_limit cn_used ++ (wv_sm cI cJ cZ cM h_sm a_sm sm_keys sm_weights sm_count sm_matches sm_out ++ (wv_ti cI cJ cZ cM h_ti a_ti ti_keys ti_times ti_count ti_now ++ (wv_lg cI cJ cZ cM h_lg a_lg v4.2.1 v4.2.2.1 v4.2.2.2.1 ++ (wv_ks cI cJ cZ cM h_ks a_ks h_fo ks_partCounts v4.2.2.2.2.1 v4.2.2.2.2.2.1 v4.2.2.2.2.2.2 ks_moved ++ (wv_fo cI cJ cZ cM h_fo a_fo fo_kinds fo_declared fo_count))))))) → va_S A s.heap H locs → lv_has ls 4 [(0, .ref h_x), (1, .int p1), (2, .int r3), (3, .int v4.1)] → hk_lp (wb_x_tick_30 ti_keys ti_times ti_count ks_partCounts fo_kinds fo_count p1 post r3) n v4 → W p l e (headSpec (hk_ws yX7_tick cX7_tick 4 (some .int)) (hk_rm 4 100)).room s m ([.ref h_x, .int p1] : List Value).toArray below meth c H locs 0 0 (MQ below (va_Qi post (hk_B D (A) (fun (u : (Nat → Int32) × (Nat → Int32) × Int32 × Int32 × (Nat → Int64) × Int32 × Int32 × (Nat → Int64) × (Nat → Int32) × (Nat → Int64)) => wv_x cI cJ cZ cM h_x a_x x_places x_round x_threshold x_slack h_fo h_ks h_cn h_sm h_ti h_lg x_marks x_loads x_markCount x_rows x_roundRows x_rounds x_flips x_passedOver ++ (wv_cn cI cJ cZ cM h_cn a_cn cn_keys cn_counts cn_errors cn_limit cn_used ++ (wv_sm cI cJ cZ cM h_sm a_sm sm_keys sm_weights sm_count sm_matches sm_out ++ (wv_ti cI cJ cZ cM h_ti a_ti u.1 u.2.1 u.2.2.1 u.2.2.2.1 ++ (wv_lg cI cJ cZ cM h_lg a_lg u.2.2.2.2.1 u.2.2.2.2.2.1 u.2.2.2.2.2.2.1 ++ (wv_ks cI cJ cZ cM h_ks a_ks h_fo ks_partCounts u.2.2.2.2.2.2.2.1 u.2.2.2.2.2.2.2.2.1 u.2.2.2.2.2.2.2.2.2 ks_moved ++ (wv_fo cI cJ cZ cM h_fo a_fo fo_kinds fo_declared fo_count)))))))) (A)) ([.ref h_x, .int p1] : List Value).toArray s 0 0 A) (F0 m 30 ls []) := by
      intro n
      induction n with
      | zero => intro v4 H locs ls hP hD hS hl h; exact False.elim h
      | succ n ih30 =>
        intro v4 H locs ls hP hD hS hl h
        have h : wb_x_tick_30 ti_keys ti_times ti_count ks_partCounts fo_kinds fo_count p1 post r3 (hk_lp (wb_x_tick_30 ti_keys ti_times ti_count ks_partCounts fo_kinds fo_count p1 post r3) n) v4 := h
        generalize hk_lp (wb_x_tick_30 ti_keys ti_times ti_count ks_partCounts fo_kinds fo_count p1 post r3) n = K30 at h ih30
        unfold wb_x_tick_30 at h
        refine lv_iload_n hx hb dX7_tick_30 rfl (lv_at hl 3 rfl) ?_
        refine lv_iload_n hx hb dX7_tick_31 rfl (lv_at hl 2 rfl) ?_
        refine lv_icmp_ge (tgt := 63) hx hb dX7_tick_32 (by decide) (fun c5 => ?_) (fun c5 => ?_)
        · have h := h.1 c5
          refine lv_aload_n hx hb dX7_tick_63 rfl (lv_at hl 0 rfl) ?_
          refine va_get (D := D) (ci := 7) (v := .ref h_ti) (C := RX7) (T := TX7) (N := 18) hx hb hta ih_X7 hown hK hP 0 rfl rfl 8 (by decide) (hta _ hw_282) (fun _ h9 => h9) rfl dX7_tick_64 ?_
          refine lv_iload_n hx hb dX7_tick_67 rfl (lv_at hl 2 rfl) ?_
          have hP1 : va_P D vwCl ((wv_x cI cJ cZ cM h_x a_x x_places x_round x_threshold x_slack h_fo h_ks h_cn h_sm h_ti h_lg x_marks x_loads x_markCount x_rows x_roundRows x_rounds x_flips x_passedOver ++ (wv_cn cI cJ cZ cM h_cn a_cn cn_keys cn_counts cn_errors cn_limit cn_used ++ (wv_sm cI cJ cZ cM h_sm a_sm sm_keys sm_weights sm_count sm_matches sm_out))) ++ ((wv_ti cI cJ cZ cM h_ti a_ti ti_keys ti_times ti_count ti_now) ++ (wv_lg cI cJ cZ cM h_lg a_lg v4.2.1 v4.2.2.1 v4.2.2.2.1 ++ (wv_ks cI cJ cZ cM h_ks a_ks h_fo ks_partCounts v4.2.2.2.2.1 v4.2.2.2.2.2.1 v4.2.2.2.2.2.2 ks_moved ++ (wv_fo cI cJ cZ cM h_fo a_fo fo_kinds fo_declared fo_count))))) H := hP
          have hD1 : va_D A ((wv_x cI cJ cZ cM h_x a_x x_places x_round x_threshold x_slack h_fo h_ks h_cn h_sm h_ti h_lg x_marks x_loads x_markCount x_rows x_roundRows x_rounds x_flips x_passedOver ++ (wv_cn cI cJ cZ cM h_cn a_cn cn_keys cn_counts cn_errors cn_limit cn_used ++ (wv_sm cI cJ cZ cM h_sm a_sm sm_keys sm_weights sm_count sm_matches sm_out))) ++ ((wv_ti cI cJ cZ cM h_ti a_ti ti_keys ti_times ti_count ti_now) ++ (wv_lg cI cJ cZ cM h_lg a_lg v4.2.1 v4.2.2.1 v4.2.2.2.1 ++ (wv_ks cI cJ cZ cM h_ks a_ks h_fo ks_partCounts v4.2.2.2.2.1 v4.2.2.2.2.2.1 v4.2.2.2.2.2.2 ks_moved ++ (wv_fo cI cJ cZ cM h_fo a_fo fo_kinds fo_declared fo_count))))) := hD
          refine hk_sv (wv_x cI cJ cZ cM h_x a_x x_places x_round x_threshold x_slack h_fo h_ks h_cn h_sm h_ti h_lg x_marks x_loads x_markCount x_rows x_roundRows x_rounds x_flips x_passedOver ++ (wv_cn cI cJ cZ cM h_cn a_cn cn_keys cn_counts cn_errors cn_limit cn_used ++ (wv_sm cI cJ cZ cM h_sm a_sm sm_keys sm_weights sm_count sm_matches sm_out))) (wv_ti cI cJ cZ cM h_ti a_ti ti_keys ti_times ti_count ti_now) (wv_lg cI cJ cZ cM h_lg a_lg v4.2.1 v4.2.2.1 v4.2.2.2.1 ++ (wv_ks cI cJ cZ cM h_ks a_ks h_fo ks_partCounts v4.2.2.2.2.1 v4.2.2.2.2.2.1 v4.2.2.2.2.2.2 ks_moved ++ (wv_fo cI cJ cZ cM h_fo a_fo fo_kinds fo_declared fo_count))) (hk_runVN (As := [.int r3]) (rest := []) S0 mm_ti_dropFirst (c_ti_dropFirst l D cI cJ cZ cM h_ti a_ti H.size ti_keys ti_times ti_count ti_now r3 _ h) (hN.1 _ hn_633) hk_blM (hk_atM (hk_Pl (hk_Pr hP1)) hK (hk_Dl (hk_Dr hD1)) hN) (va_recv hK hP (ci := 6) (q0 := 10) rfl rfl) ⟨rfl, rfl, Nat.le_of_ble_eq_true rfl, Nat.le_of_ble_eq_true rfl⟩ rfl hl.1 rfl (Nat.le_of_ble_eq_true rfl) dX7_tick_68 ⟨Nat.le_of_ble_eq_true rfl, Nat.le_of_ble_eq_true rfl⟩) hP1 hD1 hS hA (fun _ => rfl) (fun w6 H locs h hP hD hS => ?_)
          have hP : va_P D vwCl (wv_x cI cJ cZ cM h_x a_x x_places x_round x_threshold x_slack h_fo h_ks h_cn h_sm h_ti h_lg x_marks x_loads x_markCount x_rows x_roundRows x_rounds x_flips x_passedOver ++ (wv_cn cI cJ cZ cM h_cn a_cn cn_keys cn_counts cn_errors cn_limit cn_used ++ (wv_sm cI cJ cZ cM h_sm a_sm sm_keys sm_weights sm_count sm_matches sm_out ++ (wv_ti cI cJ cZ cM h_ti a_ti w6.1 w6.2.1 w6.2.2 ti_now ++ (wv_lg cI cJ cZ cM h_lg a_lg v4.2.1 v4.2.2.1 v4.2.2.2.1 ++ (wv_ks cI cJ cZ cM h_ks a_ks h_fo ks_partCounts v4.2.2.2.2.1 v4.2.2.2.2.2.1 v4.2.2.2.2.2.2 ks_moved ++ (wv_fo cI cJ cZ cM h_fo a_fo fo_kinds fo_declared fo_count))))))) H := hP
          have hD : va_D A (wv_x cI cJ cZ cM h_x a_x x_places x_round x_threshold x_slack h_fo h_ks h_cn h_sm h_ti h_lg x_marks x_loads x_markCount x_rows x_roundRows x_rounds x_flips x_passedOver ++ (wv_cn cI cJ cZ cM h_cn a_cn cn_keys cn_counts cn_errors cn_limit cn_used ++ (wv_sm cI cJ cZ cM h_sm a_sm sm_keys sm_weights sm_count sm_matches sm_out ++ (wv_ti cI cJ cZ cM h_ti a_ti w6.1 w6.2.1 w6.2.2 ti_now ++ (wv_lg cI cJ cZ cM h_lg a_lg v4.2.1 v4.2.2.1 v4.2.2.2.1 ++ (wv_ks cI cJ cZ cM h_ks a_ks h_fo ks_partCounts v4.2.2.2.2.1 v4.2.2.2.2.2.1 v4.2.2.2.2.2.2 ks_moved ++ (wv_fo cI cJ cZ cM h_fo a_fo fo_kinds fo_declared fo_count))))))) := hD
          refine lv_aload_n hx hb dX7_tick_71 rfl (lv_at hl 0 rfl) ?_
          refine va_get (D := D) (ci := 7) (v := .ref h_ti) (C := RX7) (T := TX7) (N := 18) hx hb hta ih_X7 hown hK hP 0 rfl rfl 8 (by decide) (hta _ hw_282) (fun _ h9 => h9) rfl dX7_tick_72 ?_
          refine lv_iload_n hx hb dX7_tick_75 rfl (lv_at hl 1 rfl) ?_
          refine va_putN (D := D) (ci := 6) (v := .int p1) (ty := .int) (C := RX6) (T := TX6) (N := 4) hx hb hta ih_X6 tyX6 tyX6_ok nmX6 hown hK hP hD hS 10 rfl rfl 3 (by decide) (va_Nw.use rfl (hN.1 _ hn_209)) (fun _ h9 => h9) rfl (by decide +kernel) rfl rfl (Nat.le_of_ble_eq_true rfl) dX7_tick_76 (fun H locs hP hD hS => ?_)
          have hP : va_P D vwCl (wv_x cI cJ cZ cM h_x a_x x_places x_round x_threshold x_slack h_fo h_ks h_cn h_sm h_ti h_lg x_marks x_loads x_markCount x_rows x_roundRows x_rounds x_flips x_passedOver ++ (wv_cn cI cJ cZ cM h_cn a_cn cn_keys cn_counts cn_errors cn_limit cn_used ++ (wv_sm cI cJ cZ cM h_sm a_sm sm_keys sm_weights sm_count sm_matches sm_out ++ (wv_ti cI cJ cZ cM h_ti a_ti w6.1 w6.2.1 w6.2.2 p1 ++ (wv_lg cI cJ cZ cM h_lg a_lg v4.2.1 v4.2.2.1 v4.2.2.2.1 ++ (wv_ks cI cJ cZ cM h_ks a_ks h_fo ks_partCounts v4.2.2.2.2.1 v4.2.2.2.2.2.1 v4.2.2.2.2.2.2 ks_moved ++ (wv_fo cI cJ cZ cM h_fo a_fo fo_kinds fo_declared fo_count))))))) H := hP
          have hD : va_D A (wv_x cI cJ cZ cM h_x a_x x_places x_round x_threshold x_slack h_fo h_ks h_cn h_sm h_ti h_lg x_marks x_loads x_markCount x_rows x_roundRows x_rounds x_flips x_passedOver ++ (wv_cn cI cJ cZ cM h_cn a_cn cn_keys cn_counts cn_errors cn_limit cn_used ++ (wv_sm cI cJ cZ cM h_sm a_sm sm_keys sm_weights sm_count sm_matches sm_out ++ (wv_ti cI cJ cZ cM h_ti a_ti w6.1 w6.2.1 w6.2.2 p1 ++ (wv_lg cI cJ cZ cM h_lg a_lg v4.2.1 v4.2.2.1 v4.2.2.2.1 ++ (wv_ks cI cJ cZ cM h_ks a_ks h_fo ks_partCounts v4.2.2.2.2.1 v4.2.2.2.2.2.1 v4.2.2.2.2.2.2 ks_moved ++ (wv_fo cI cJ cZ cM h_fo a_fo fo_kinds fo_declared fo_count))))))) := hD
          refine lv_iload_n hx hb dX7_tick_79 rfl (lv_at hl 2 rfl) ?_
          exact W.iret (v := r3) hx hb hr (fun t ht hW => ⟨⟨r3, (w6.1, w6.2.1, w6.2.2, p1, v4.2.1, v4.2.2.1, v4.2.2.2.1, v4.2.2.2.2.1, v4.2.2.2.2.2.1, v4.2.2.2.2.2.2), rfl, h, by rw [ht]; exact hP, hD⟩, hS.F ht⟩) hS.2.2 dX7_tick_80
        · have h := h.2 c5
          refine lv_aload_n hx hb dX7_tick_35 rfl (lv_at hl 0 rfl) ?_
          refine lv_aload_n hx hb dX7_tick_36 rfl (lv_at hl 0 rfl) ?_
          refine va_get (D := D) (ci := 7) (v := .ref h_ti) (C := RX7) (T := TX7) (N := 18) hx hb hta ih_X7 hown hK hP 0 rfl rfl 8 (by decide) (hta _ hw_282) (fun _ h9 => h9) rfl dX7_tick_37 ?_
          refine va_getN (D := D) (ci := 6) (v := .ref (a_ti 0)) (C := RX6) (T := TX6) (N := 4) hx hb hta ih_X6 hown hK hP 10 rfl rfl 0 (by decide) (va_Nw.use rfl (hN.1 _ hn_203)) (fun _ h9 => h9) rfl dX7_tick_40 ?_
          refine lv_iload_n hx hb dX7_tick_43 rfl (lv_at hl 3 rfl) ?_
          refine va_iald hx hb hK hP 11 0 rfl rfl h.1 dX7_tick_44 ?_
          have h := h.2
          refine lv_aload_n hx hb dX7_tick_45 rfl (lv_at hl 0 rfl) ?_
          refine va_get (D := D) (ci := 7) (v := .ref h_ti) (C := RX7) (T := TX7) (N := 18) hx hb hta ih_X7 hown hK hP 0 rfl rfl 8 (by decide) (hta _ hw_282) (fun _ h9 => h9) rfl dX7_tick_46 ?_
          refine va_getN (D := D) (ci := 6) (v := .ref (a_ti 1)) (C := RX6) (T := TX6) (N := 4) hx hb hta ih_X6 hown hK hP 10 rfl rfl 1 (by decide) (va_Nw.use rfl (hN.1 _ hn_205)) (fun _ h9 => h9) rfl dX7_tick_49 ?_
          refine lv_iload_n hx hb dX7_tick_52 rfl (lv_at hl 3 rfl) ?_
          refine va_iald hx hb hK hP 12 0 rfl rfl h.1 dX7_tick_53 ?_
          have h := h.2
          refine hk_wv (hk_runV (As := [.int (ti_keys v4.1.toNatClampNeg), .int (ti_times v4.1.toNatClampNeg)]) (rest := []) S0 mm_x_ring (c_x_ring l D cI cJ cZ cM h_x a_x h_cn a_cn h_sm a_sm h_ti a_ti h_lg a_lg h_ks a_ks h_fo a_fo H.size x_places x_round x_threshold x_slack x_marks x_loads x_markCount x_rows x_roundRows x_rounds x_flips x_passedOver cn_keys cn_counts cn_errors cn_limit cn_used sm_keys sm_weights sm_count sm_matches sm_out ti_keys ti_times ti_count ti_now v4.2.1 v4.2.2.1 v4.2.2.2.1 ks_partCounts v4.2.2.2.2.1 v4.2.2.2.2.2.1 v4.2.2.2.2.2.2 ks_moved fo_kinds fo_declared fo_count (ti_keys v4.1.toNatClampNeg) (ti_times v4.1.toNatClampNeg) _ h) hw_609 hk_blM (hk_atM hP hK hD hN) (va_recv hK hP (ci := 7) (q0 := 0) rfl rfl) ⟨rfl, rfl, Nat.le_of_ble_eq_true rfl, Nat.le_of_ble_eq_true rfl⟩ rfl hl.1 rfl (Nat.le_of_ble_eq_true rfl) dX7_tick_54 ⟨Nat.le_of_ble_eq_true rfl, Nat.le_of_ble_eq_true rfl⟩) hD hS hA (fun w7 H locs h hP hD hS => ?_)
          have hP : va_P D vwCl (wv_x cI cJ cZ cM h_x a_x x_places x_round x_threshold x_slack h_fo h_ks h_cn h_sm h_ti h_lg x_marks x_loads x_markCount x_rows x_roundRows x_rounds x_flips x_passedOver ++ (wv_cn cI cJ cZ cM h_cn a_cn cn_keys cn_counts cn_errors cn_limit cn_used ++ (wv_sm cI cJ cZ cM h_sm a_sm sm_keys sm_weights sm_count sm_matches sm_out ++ (wv_ti cI cJ cZ cM h_ti a_ti ti_keys ti_times ti_count ti_now ++ (wv_lg cI cJ cZ cM h_lg a_lg w7.1 w7.2.1 w7.2.2.1 ++ (wv_ks cI cJ cZ cM h_ks a_ks h_fo ks_partCounts w7.2.2.2.1 w7.2.2.2.2.1 w7.2.2.2.2.2 ks_moved ++ (wv_fo cI cJ cZ cM h_fo a_fo fo_kinds fo_declared fo_count))))))) H := hP
          have hD : va_D A (wv_x cI cJ cZ cM h_x a_x x_places x_round x_threshold x_slack h_fo h_ks h_cn h_sm h_ti h_lg x_marks x_loads x_markCount x_rows x_roundRows x_rounds x_flips x_passedOver ++ (wv_cn cI cJ cZ cM h_cn a_cn cn_keys cn_counts cn_errors cn_limit cn_used ++ (wv_sm cI cJ cZ cM h_sm a_sm sm_keys sm_weights sm_count sm_matches sm_out ++ (wv_ti cI cJ cZ cM h_ti a_ti ti_keys ti_times ti_count ti_now ++ (wv_lg cI cJ cZ cM h_lg a_lg w7.1 w7.2.1 w7.2.2.1 ++ (wv_ks cI cJ cZ cM h_ks a_ks h_fo ks_partCounts w7.2.2.2.1 w7.2.2.2.2.1 w7.2.2.2.2.2 ks_moved ++ (wv_fo cI cJ cZ cM h_fo a_fo fo_kinds fo_declared fo_count))))))) := hD
          obtain ⟨x8, ex8⟩ : ∃ y : Int32, y = v4.1 + 1 := ⟨_, rfl⟩
          have h := h x8 ex8
          refine lv_iinc (v := x8) (lv' := [(3, .int x8), (0, .ref h_x), (1, .int p1), (2, .int r3)]) hx hb dX7_tick_57 hl (k := 3) rfl (by rw [ex8]; rfl) (by decide) rfl (fun ls hl => ?_)
          refine lv_goto (tgt := 30) hx hb dX7_tick_60 (by decide) ?_
          exact ih30 (x8, w7.1, w7.2.1, w7.2.2.1, w7.2.2.2.1, w7.2.2.2.2.1, w7.2.2.2.2.2) H locs ls hP hD hS (lv_sub hl [1, 2, 3, 0] rfl) h
    obtain ⟨n, h⟩ := h
    exact P30 n (0, lg_cells, lg_newest, lg_kept, ks_states, ks_latestRows, ks_latestValues) s.heap [] ls hP hD hS (lv_sub hl [2, 3, 1, 0] rfl) h
  · have h := h.2 c2
    refine lv_bipush (v := (-102)) hx hb dX7_tick_16 (by decide) ?_
    exact W.iret (v := (-102)) hx hb hr (fun t ht hW => ⟨⟨(-102), (ti_keys, ti_times, ti_count, ti_now, lg_cells, lg_newest, lg_kept, ks_states, ks_latestRows, ks_latestValues), rfl, h, by rw [ht]; exact hP, hD⟩, hS.F ht⟩) hS.2.2 dX7_tick_18
def wp_x_log (p1 : Int32) (p2 : Int32) (lg_cells : Nat → Int64) (lg_newest : Int32) (lg_kept : Int32) (post : Int64 → Prop) : Prop := wp_x_isWithin p1 0 (lg_kept - 1) (fun (r1 : Int32) => (r1 = 0 → post (-4000000000000)) ∧ (¬ r1 = 0 → wp_x_isWithin p2 0 7 (fun (r3 : Int32) => (¬ r3 = 0 → wp_lg_read p1 p2 lg_cells lg_newest (fun (r5 : Int64) => post r5)) ∧ (r3 = 0 → post (-4000000000000)))))
theorem mm_x_log : hk_MV yX7_log cX7_log 3 (some .long) 2 := ⟨hw_640, hw_638, hw_639, hw_79, by decide +kernel⟩
set_option maxRecDepth 100000 in
set_option maxHeartbeats 4000000 in
theorem c_x_log (l : Launch) (D : va_G) (cI cJ cZ cM : ClassId) (h_x : Nat) (a_x : Nat → Nat) (h_cn : Nat) (a_cn : Nat → Nat) (h_sm : Nat) (a_sm : Nat → Nat) (h_ti : Nat) (a_ti : Nat → Nat) (h_lg : Nat) (a_lg : Nat → Nat) (h_ks : Nat) (a_ks : Nat → Nat) (h_fo : Nat) (a_fo : Nat → Nat)  (x_places : Int32) (x_round : Int32) (x_threshold : Int32) (x_slack : Int32) (x_marks : Nat → Option Nat) (x_loads : Nat → Int32) (x_markCount : Int32) (x_rows : Int32) (x_roundRows : Int32) (x_rounds : Int32) (x_flips : Int32) (x_passedOver : Int32) (cn_keys : Nat → Int32) (cn_counts : Nat → Int32) (cn_errors : Nat → Int32) (cn_limit : Int32) (cn_used : Int32) (sm_keys : Nat → Int32) (sm_weights : Nat → Int32) (sm_count : Int32) (sm_matches : Int32) (sm_out : Int64) (ti_keys : Nat → Int32) (ti_times : Nat → Int32) (ti_count : Int32) (ti_now : Int32) (lg_cells : Nat → Int64) (lg_newest : Int32) (lg_kept : Int32) (ks_partCounts : Nat → Int32) (ks_states : Nat → Int64) (ks_latestRows : Nat → Int32) (ks_latestValues : Nat → Int64) (ks_moved : Int32) (fo_kinds : Nat → Int32) (fo_declared : Nat → Int32) (fo_count : Int32) (p1 : Int32) (p2 : Int32) (post : Int64 → Prop) (h : wp_x_log p1 p2 lg_cells lg_newest lg_kept post) : Met l yX7_log (hk_ws yX7_log cX7_log 3 (some .long)) (hk_rm 2 44) (va_Pc [.ref h_x, .int p1, .int p2] (hk_PR D (hk_ty cI cJ cZ cM) (wv_x cI cJ cZ cM h_x a_x x_places x_round x_threshold x_slack h_fo h_ks h_cn h_sm h_ti h_lg x_marks x_loads x_markCount x_rows x_roundRows x_rounds x_flips x_passedOver ++ (wv_cn cI cJ cZ cM h_cn a_cn cn_keys cn_counts cn_errors cn_limit cn_used ++ (wv_sm cI cJ cZ cM h_sm a_sm sm_keys sm_weights sm_count sm_matches sm_out ++ (wv_ti cI cJ cZ cM h_ti a_ti ti_keys ti_times ti_count ti_now ++ (wv_lg cI cJ cZ cM h_lg a_lg lg_cells lg_newest lg_kept ++ (wv_ks cI cJ cZ cM h_ks a_ks h_fo ks_partCounts ks_states ks_latestRows ks_latestValues ks_moved ++ (wv_fo cI cJ cZ cM h_fo a_fo fo_kinds fo_declared fo_count))))))))) (vp_Sl post) 0 0 (fun _ => False) := by
  refine Met.ofW (cc := cX7_log) (maxL := 3) (ret := (some .long)) (by decide) rfl ?_
  intro p e s m args below meth c s₁ B hml hv
  obtain ⟨rfl, hP, hK, hN⟩ := hv
  have hx := B.exec
  have hb := B.bytes
  have hr := B.returns
  have hts := atoms_spec (ws := hk_ws yX7_log cX7_log 3 (some .long)) B.pre
  have hta : ∀ w ∈ hk_all, w.before ([.ref h_x, .int p1, .int p2] : List Value).toArray s = true := fun w hw => hts w (List.mem_cons_of_mem _ hw)
  have hown : s.vm.findClass RX7 = some m.cls := findClass_of_methodNamed B.named
  have hlocks := B.notSynchronized
  have S0 : CallFix p m c cX7_log 3 s ([.ref h_x, .int p1, .int p2] : List Value).toArray hk_all RX7 := ⟨hx, hb, hml, hown, hta⟩
  have hl := lv_entry ([.ref h_x, .int p1, .int p2]) (n := 3) (Nat.le_of_ble_eq_true rfl)
  rw [lg_entry_eq]
  generalize (lg_sl ([.ref h_x, .int p1, .int p2]) ++ List.replicate (3 - (lg_sl ([.ref h_x, .int p1, .int p2])).length) Slot.unset).toArray = ls at hl ⊢
  have hl : lv_has ls 3 [(0, .ref h_x), (1, .int p1), (2, .int p2)] := hl
  unfold wp_x_log at h
  refine lv_iload_n hx hb dX7_log_0 rfl (lv_at hl 1 rfl) ?_
  refine lv_iconst (v := 0) hx hb dX7_log_1 (by decide) ?_
  refine lv_aload_n hx hb dX7_log_2 rfl (lv_at hl 0 rfl) ?_
  refine va_get (D := D) (ci := 7) (v := .ref h_lg) (C := RX7) (T := TX7) (N := 18) hx hb hta ih_X7 hown hK hP 0 rfl rfl 9 (by decide) (hta _ hw_283) (fun _ h9 => h9) rfl dX7_log_3 ?_
  refine va_getN (D := D) (ci := 3) (v := .int lg_kept) (C := RX3) (T := TX3) (N := 3) hx hb hta ih_X3 hown hK hP 13 rfl rfl 2 (by decide) (va_Nw.use rfl (hN.1 _ hn_228)) (fun _ h9 => h9) rfl dX7_log_6 ?_
  refine lv_iconst (v := 1) hx hb dX7_log_9 (by decide) ?_
  refine lv_isub hx hb dX7_log_10 ?_
  refine vp_callSi (hk_runS (As := [.int p1, .int 0, .int (lg_kept - 1)]) (rest := []) S0 mm_x_isWithin (c_x_isWithin l D cI cJ cZ cM p1 0 (lg_kept - 1) _ h) hw_333 hk_blR (hk_atR (hP.sub (ws' := ([] : va_W)) [] rfl) hK hN) ⟨rfl, rfl, Nat.le_of_ble_eq_true rfl, Nat.le_of_ble_eq_true rfl⟩ rfl hl.1 rfl (Nat.le_of_ble_eq_true rfl) dX7_log_11 ⟨Nat.le_of_ble_eq_true rfl, Nat.le_of_ble_eq_true rfl⟩).run (fun r1 h => ?_)
  refine lv_if_eq (tgt := 27) hx hb dX7_log_14 (by decide) (fun c2 => ?_) (fun c2 => ?_)
  · have h := h.1 c2
    refine lv_ldc2 (v := (-4000000000000)) hx hb hown (hta _ hw_504) dX7_log_27 ?_
    exact W.lret (v := (-4000000000000)) hx hb hr (fun t ht hW => ⟨_, rfl, h, ht⟩) (fun _ hq => by cases hq) dX7_log_30
  · have h := h.2 c2
    refine lv_iload_n hx hb dX7_log_17 rfl (lv_at hl 2 rfl) ?_
    refine lv_iconst (v := 0) hx hb dX7_log_18 (by decide) ?_
    refine lv_bipush (v := 7) hx hb dX7_log_19 (by decide) ?_
    refine vp_callSi (hk_runS (As := [.int p2, .int 0, .int 7]) (rest := []) S0 mm_x_isWithin (c_x_isWithin l D cI cJ cZ cM p2 0 7 _ h) hw_333 hk_blR (hk_atR (hP.sub (ws' := ([] : va_W)) [] rfl) hK hN) ⟨rfl, rfl, Nat.le_of_ble_eq_true rfl, Nat.le_of_ble_eq_true rfl⟩ rfl hl.1 rfl (Nat.le_of_ble_eq_true rfl) dX7_log_21 ⟨Nat.le_of_ble_eq_true rfl, Nat.le_of_ble_eq_true rfl⟩).run (fun r3 h => ?_)
    refine lv_if_ne (tgt := 31) hx hb dX7_log_24 (by decide) (fun c4 => ?_) (fun c4 => ?_)
    · have h := h.1 c4
      refine lv_aload_n hx hb dX7_log_31 rfl (lv_at hl 0 rfl) ?_
      refine va_get (D := D) (ci := 7) (v := .ref h_lg) (C := RX7) (T := TX7) (N := 18) hx hb hta ih_X7 hown hK hP 0 rfl rfl 9 (by decide) (hta _ hw_283) (fun _ h9 => h9) rfl dX7_log_32 ?_
      refine lv_iload_n hx hb dX7_log_35 rfl (lv_at hl 1 rfl) ?_
      refine lv_iload_n hx hb dX7_log_36 rfl (lv_at hl 2 rfl) ?_
      refine vp_callSl (hk_runVN (As := [.int p1, .int p2]) (rest := []) S0 mm_lg_read (c_lg_read l D cI cJ cZ cM h_lg a_lg lg_cells lg_newest lg_kept p1 p2 _ h) (hN.1 _ hn_641) hk_blR (hk_atR (hP.sub (ws' := wv_lg cI cJ cZ cM h_lg a_lg lg_cells lg_newest lg_kept) [13, 14] rfl) hK hN) (va_recv hK hP (ci := 3) (q0 := 13) rfl rfl) ⟨rfl, rfl, Nat.le_of_ble_eq_true rfl, Nat.le_of_ble_eq_true rfl⟩ rfl hl.1 rfl (Nat.le_of_ble_eq_true rfl) dX7_log_37 ⟨Nat.le_of_ble_eq_true rfl, Nat.le_of_ble_eq_true rfl⟩).run (fun r5 h => ?_)
      exact W.lret (v := r5) hx hb hr (fun t ht hW => ⟨_, rfl, h, ht⟩) (fun _ hq => by cases hq) dX7_log_40
    · have h := h.2 c4
      refine lv_ldc2 (v := (-4000000000000)) hx hb hown (hta _ hw_504) dX7_log_27 ?_
      exact W.lret (v := (-4000000000000)) hx hb hr (fun t ht hW => ⟨_, rfl, h, ht⟩) (fun _ hq => by cases hq) dX7_log_30
def wp_x_told (p1 : Int32) (x_markCount : Int32) (x_rows : Int32) (x_roundRows : Int32) (x_rounds : Int32) (x_flips : Int32) (x_passedOver : Int32) (sm_count : Int32) (sm_matches : Int32) (ti_count : Int32) (ti_now : Int32) (lg_kept : Int32) (ks_partCounts : Nat → Int32) (ks_moved : Int32) (fo_count : Int32) (post : Int32 → Prop) : Prop := (p1 = 0 → post x_rows) ∧ (¬ p1 = 0 → (p1 = 1 → post x_roundRows) ∧ (¬ p1 = 1 → (p1 = 2 → post x_rounds) ∧ (¬ p1 = 2 → (p1 = 3 → post x_flips) ∧ (¬ p1 = 3 → (p1 = 4 → post x_passedOver) ∧ (¬ p1 = 4 → (p1 = 5 → post sm_matches) ∧ (¬ p1 = 5 → (p1 = 6 → post ks_moved) ∧ (¬ p1 = 6 → (p1 = 7 → post ti_count) ∧ (¬ p1 = 7 → (p1 = 8 → post ti_now) ∧ (¬ p1 = 8 → (p1 = 9 → post lg_kept) ∧ (¬ p1 = 9 → (p1 = 10 → post fo_count) ∧ (¬ p1 = 10 → (p1 = 11 → post x_markCount) ∧ (¬ p1 = 11 → (p1 = 12 → wp_ks_splitKeys ks_partCounts (fun (r1 : Int32) => post r1)) ∧ (¬ p1 = 12 → (p1 = 13 → post sm_count) ∧ (¬ p1 = 13 → post (-102)))))))))))))))
theorem mm_x_told : hk_MV yX7_told cX7_told 2 (some .int) 1 := ⟨hw_709, hw_707, hw_708, hw_79, by decide +kernel⟩
set_option maxRecDepth 100000 in
set_option maxHeartbeats 4000000 in
theorem c_x_told (l : Launch) (D : va_G) (cI cJ cZ cM : ClassId) (h_x : Nat) (a_x : Nat → Nat) (h_cn : Nat) (a_cn : Nat → Nat) (h_sm : Nat) (a_sm : Nat → Nat) (h_ti : Nat) (a_ti : Nat → Nat) (h_lg : Nat) (a_lg : Nat → Nat) (h_ks : Nat) (a_ks : Nat → Nat) (h_fo : Nat) (a_fo : Nat → Nat)  (x_places : Int32) (x_round : Int32) (x_threshold : Int32) (x_slack : Int32) (x_marks : Nat → Option Nat) (x_loads : Nat → Int32) (x_markCount : Int32) (x_rows : Int32) (x_roundRows : Int32) (x_rounds : Int32) (x_flips : Int32) (x_passedOver : Int32) (cn_keys : Nat → Int32) (cn_counts : Nat → Int32) (cn_errors : Nat → Int32) (cn_limit : Int32) (cn_used : Int32) (sm_keys : Nat → Int32) (sm_weights : Nat → Int32) (sm_count : Int32) (sm_matches : Int32) (sm_out : Int64) (ti_keys : Nat → Int32) (ti_times : Nat → Int32) (ti_count : Int32) (ti_now : Int32) (lg_cells : Nat → Int64) (lg_newest : Int32) (lg_kept : Int32) (ks_partCounts : Nat → Int32) (ks_states : Nat → Int64) (ks_latestRows : Nat → Int32) (ks_latestValues : Nat → Int64) (ks_moved : Int32) (fo_kinds : Nat → Int32) (fo_declared : Nat → Int32) (fo_count : Int32) (p1 : Int32) (post : Int32 → Prop) (h : wp_x_told p1 x_markCount x_rows x_roundRows x_rounds x_flips x_passedOver sm_count sm_matches ti_count ti_now lg_kept ks_partCounts ks_moved fo_count post) : Met l yX7_told (hk_ws yX7_told cX7_told 2 (some .int)) (hk_rm 2 43) (va_Pc [.ref h_x, .int p1] (hk_PR D (hk_ty cI cJ cZ cM) (wv_x cI cJ cZ cM h_x a_x x_places x_round x_threshold x_slack h_fo h_ks h_cn h_sm h_ti h_lg x_marks x_loads x_markCount x_rows x_roundRows x_rounds x_flips x_passedOver ++ (wv_cn cI cJ cZ cM h_cn a_cn cn_keys cn_counts cn_errors cn_limit cn_used ++ (wv_sm cI cJ cZ cM h_sm a_sm sm_keys sm_weights sm_count sm_matches sm_out ++ (wv_ti cI cJ cZ cM h_ti a_ti ti_keys ti_times ti_count ti_now ++ (wv_lg cI cJ cZ cM h_lg a_lg lg_cells lg_newest lg_kept ++ (wv_ks cI cJ cZ cM h_ks a_ks h_fo ks_partCounts ks_states ks_latestRows ks_latestValues ks_moved ++ (wv_fo cI cJ cZ cM h_fo a_fo fo_kinds fo_declared fo_count))))))))) (vp_Si post) 0 0 (fun _ => False) := by
  refine Met.ofW (cc := cX7_told) (maxL := 2) (ret := (some .int)) (by decide) rfl ?_
  intro p e s m args below meth c s₁ B hml hv
  obtain ⟨rfl, hP, hK, hN⟩ := hv
  have hx := B.exec
  have hb := B.bytes
  have hr := B.returns
  have hts := atoms_spec (ws := hk_ws yX7_told cX7_told 2 (some .int)) B.pre
  have hta : ∀ w ∈ hk_all, w.before ([.ref h_x, .int p1] : List Value).toArray s = true := fun w hw => hts w (List.mem_cons_of_mem _ hw)
  have hown : s.vm.findClass RX7 = some m.cls := findClass_of_methodNamed B.named
  have hlocks := B.notSynchronized
  have S0 : CallFix p m c cX7_told 2 s ([.ref h_x, .int p1] : List Value).toArray hk_all RX7 := ⟨hx, hb, hml, hown, hta⟩
  have hl := lv_entry ([.ref h_x, .int p1]) (n := 2) (Nat.le_of_ble_eq_true rfl)
  rw [lg_entry_eq]
  generalize (lg_sl ([.ref h_x, .int p1]) ++ List.replicate (2 - (lg_sl ([.ref h_x, .int p1])).length) Slot.unset).toArray = ls at hl ⊢
  have hl : lv_has ls 2 [(0, .ref h_x), (1, .int p1)] := hl
  unfold wp_x_told at h
  refine lv_iload_n hx hb dX7_told_0 rfl (lv_at hl 1 rfl) ?_
  by_cases c2 : p1 = 0
  · have h := h.1 c2
    refine lv_tableIn (tgt := 72) hx hb dX7_told_1 (by rw [c2]; decide) (by rw [c2]; decide) (by rw [c2]; rfl) (by decide) ?_
    refine lv_aload_n hx hb dX7_told_72 rfl (lv_at hl 0 rfl) ?_
    refine va_get (D := D) (ci := 7) (v := .int x_rows) (C := RX7) (T := TX7) (N := 18) hx hb hta ih_X7 hown hK hP 0 rfl rfl 13 (by decide) (hta _ hw_287) (fun _ h9 => h9) rfl dX7_told_73 ?_
    exact W.iret (v := x_rows) hx hb hr (fun t ht hW => ⟨_, rfl, h, ht⟩) (fun _ hq => by cases hq) dX7_told_76
  · have h := h.2 c2
    by_cases c3 : p1 = 1
    · have h := h.1 c3
      refine lv_tableIn (tgt := 77) hx hb dX7_told_1 (by rw [c3]; decide) (by rw [c3]; decide) (by rw [c3]; rfl) (by decide) ?_
      refine lv_aload_n hx hb dX7_told_77 rfl (lv_at hl 0 rfl) ?_
      refine va_get (D := D) (ci := 7) (v := .int x_roundRows) (C := RX7) (T := TX7) (N := 18) hx hb hta ih_X7 hown hK hP 0 rfl rfl 14 (by decide) (hta _ hw_288) (fun _ h9 => h9) rfl dX7_told_78 ?_
      exact W.iret (v := x_roundRows) hx hb hr (fun t ht hW => ⟨_, rfl, h, ht⟩) (fun _ hq => by cases hq) dX7_told_81
    · have h := h.2 c3
      by_cases c4 : p1 = 2
      · have h := h.1 c4
        refine lv_tableIn (tgt := 82) hx hb dX7_told_1 (by rw [c4]; decide) (by rw [c4]; decide) (by rw [c4]; rfl) (by decide) ?_
        refine lv_aload_n hx hb dX7_told_82 rfl (lv_at hl 0 rfl) ?_
        refine va_get (D := D) (ci := 7) (v := .int x_rounds) (C := RX7) (T := TX7) (N := 18) hx hb hta ih_X7 hown hK hP 0 rfl rfl 15 (by decide) (hta _ hw_289) (fun _ h9 => h9) rfl dX7_told_83 ?_
        exact W.iret (v := x_rounds) hx hb hr (fun t ht hW => ⟨_, rfl, h, ht⟩) (fun _ hq => by cases hq) dX7_told_86
      · have h := h.2 c4
        by_cases c5 : p1 = 3
        · have h := h.1 c5
          refine lv_tableIn (tgt := 87) hx hb dX7_told_1 (by rw [c5]; decide) (by rw [c5]; decide) (by rw [c5]; rfl) (by decide) ?_
          refine lv_aload_n hx hb dX7_told_87 rfl (lv_at hl 0 rfl) ?_
          refine va_get (D := D) (ci := 7) (v := .int x_flips) (C := RX7) (T := TX7) (N := 18) hx hb hta ih_X7 hown hK hP 0 rfl rfl 16 (by decide) (hta _ hw_290) (fun _ h9 => h9) rfl dX7_told_88 ?_
          exact W.iret (v := x_flips) hx hb hr (fun t ht hW => ⟨_, rfl, h, ht⟩) (fun _ hq => by cases hq) dX7_told_91
        · have h := h.2 c5
          by_cases c6 : p1 = 4
          · have h := h.1 c6
            refine lv_tableIn (tgt := 92) hx hb dX7_told_1 (by rw [c6]; decide) (by rw [c6]; decide) (by rw [c6]; rfl) (by decide) ?_
            refine lv_aload_n hx hb dX7_told_92 rfl (lv_at hl 0 rfl) ?_
            refine va_get (D := D) (ci := 7) (v := .int x_passedOver) (C := RX7) (T := TX7) (N := 18) hx hb hta ih_X7 hown hK hP 0 rfl rfl 17 (by decide) (hta _ hw_291) (fun _ h9 => h9) rfl dX7_told_93 ?_
            exact W.iret (v := x_passedOver) hx hb hr (fun t ht hW => ⟨_, rfl, h, ht⟩) (fun _ hq => by cases hq) dX7_told_96
          · have h := h.2 c6
            by_cases c7 : p1 = 5
            · have h := h.1 c7
              refine lv_tableIn (tgt := 97) hx hb dX7_told_1 (by rw [c7]; decide) (by rw [c7]; decide) (by rw [c7]; rfl) (by decide) ?_
              refine lv_aload_n hx hb dX7_told_97 rfl (lv_at hl 0 rfl) ?_
              refine va_get (D := D) (ci := 7) (v := .ref h_sm) (C := RX7) (T := TX7) (N := 18) hx hb hta ih_X7 hown hK hP 0 rfl rfl 7 (by decide) (hta _ hw_281) (fun _ h9 => h9) rfl dX7_told_98 ?_
              refine va_getN (D := D) (ci := 5) (v := .int sm_matches) (C := RX5) (T := TX5) (N := 5) hx hb hta ih_X5 hown hK hP 7 rfl rfl 3 (by decide) (va_Nw.use rfl (hN.1 _ hn_182)) (fun _ h9 => h9) rfl dX7_told_101 ?_
              exact W.iret (v := sm_matches) hx hb hr (fun t ht hW => ⟨_, rfl, h, ht⟩) (fun _ hq => by cases hq) dX7_told_104
            · have h := h.2 c7
              by_cases c8 : p1 = 6
              · have h := h.1 c8
                refine lv_tableIn (tgt := 105) hx hb dX7_told_1 (by rw [c8]; decide) (by rw [c8]; decide) (by rw [c8]; rfl) (by decide) ?_
                refine lv_aload_n hx hb dX7_told_105 rfl (lv_at hl 0 rfl) ?_
                refine va_get (D := D) (ci := 7) (v := .ref h_ks) (C := RX7) (T := TX7) (N := 18) hx hb hta ih_X7 hown hK hP 0 rfl rfl 5 (by decide) (hta _ hw_279) (fun _ h9 => h9) rfl dX7_told_106 ?_
                refine va_getN (D := D) (ci := 2) (v := .int ks_moved) (C := RX2) (T := TX2) (N := 6) hx hb hta ih_X2 hown hK hP 15 rfl rfl 5 (by decide) (va_Nw.use rfl (hN.1 _ hn_131)) (fun _ h9 => h9) rfl dX7_told_109 ?_
                exact W.iret (v := ks_moved) hx hb hr (fun t ht hW => ⟨_, rfl, h, ht⟩) (fun _ hq => by cases hq) dX7_told_112
              · have h := h.2 c8
                by_cases c9 : p1 = 7
                · have h := h.1 c9
                  refine lv_tableIn (tgt := 113) hx hb dX7_told_1 (by rw [c9]; decide) (by rw [c9]; decide) (by rw [c9]; rfl) (by decide) ?_
                  refine lv_aload_n hx hb dX7_told_113 rfl (lv_at hl 0 rfl) ?_
                  refine va_get (D := D) (ci := 7) (v := .ref h_ti) (C := RX7) (T := TX7) (N := 18) hx hb hta ih_X7 hown hK hP 0 rfl rfl 8 (by decide) (hta _ hw_282) (fun _ h9 => h9) rfl dX7_told_114 ?_
                  refine va_getN (D := D) (ci := 6) (v := .int ti_count) (C := RX6) (T := TX6) (N := 4) hx hb hta ih_X6 hown hK hP 10 rfl rfl 2 (by decide) (va_Nw.use rfl (hN.1 _ hn_207)) (fun _ h9 => h9) rfl dX7_told_117 ?_
                  exact W.iret (v := ti_count) hx hb hr (fun t ht hW => ⟨_, rfl, h, ht⟩) (fun _ hq => by cases hq) dX7_told_120
                · have h := h.2 c9
                  by_cases c10 : p1 = 8
                  · have h := h.1 c10
                    refine lv_tableIn (tgt := 121) hx hb dX7_told_1 (by rw [c10]; decide) (by rw [c10]; decide) (by rw [c10]; rfl) (by decide) ?_
                    refine lv_aload_n hx hb dX7_told_121 rfl (lv_at hl 0 rfl) ?_
                    refine va_get (D := D) (ci := 7) (v := .ref h_ti) (C := RX7) (T := TX7) (N := 18) hx hb hta ih_X7 hown hK hP 0 rfl rfl 8 (by decide) (hta _ hw_282) (fun _ h9 => h9) rfl dX7_told_122 ?_
                    refine va_getN (D := D) (ci := 6) (v := .int ti_now) (C := RX6) (T := TX6) (N := 4) hx hb hta ih_X6 hown hK hP 10 rfl rfl 3 (by decide) (va_Nw.use rfl (hN.1 _ hn_209)) (fun _ h9 => h9) rfl dX7_told_125 ?_
                    exact W.iret (v := ti_now) hx hb hr (fun t ht hW => ⟨_, rfl, h, ht⟩) (fun _ hq => by cases hq) dX7_told_128
                  · have h := h.2 c10
                    by_cases c11 : p1 = 9
                    · have h := h.1 c11
                      refine lv_tableIn (tgt := 129) hx hb dX7_told_1 (by rw [c11]; decide) (by rw [c11]; decide) (by rw [c11]; rfl) (by decide) ?_
                      refine lv_aload_n hx hb dX7_told_129 rfl (lv_at hl 0 rfl) ?_
                      refine va_get (D := D) (ci := 7) (v := .ref h_lg) (C := RX7) (T := TX7) (N := 18) hx hb hta ih_X7 hown hK hP 0 rfl rfl 9 (by decide) (hta _ hw_283) (fun _ h9 => h9) rfl dX7_told_130 ?_
                      refine va_getN (D := D) (ci := 3) (v := .int lg_kept) (C := RX3) (T := TX3) (N := 3) hx hb hta ih_X3 hown hK hP 13 rfl rfl 2 (by decide) (va_Nw.use rfl (hN.1 _ hn_228)) (fun _ h9 => h9) rfl dX7_told_133 ?_
                      exact W.iret (v := lg_kept) hx hb hr (fun t ht hW => ⟨_, rfl, h, ht⟩) (fun _ hq => by cases hq) dX7_told_136
                    · have h := h.2 c11
                      by_cases c12 : p1 = 10
                      · have h := h.1 c12
                        refine lv_tableIn (tgt := 137) hx hb dX7_told_1 (by rw [c12]; decide) (by rw [c12]; decide) (by rw [c12]; rfl) (by decide) ?_
                        refine lv_aload_n hx hb dX7_told_137 rfl (lv_at hl 0 rfl) ?_
                        refine va_get (D := D) (ci := 7) (v := .ref h_fo) (C := RX7) (T := TX7) (N := 18) hx hb hta ih_X7 hown hK hP 0 rfl rfl 4 (by decide) (hta _ hw_278) (fun _ h9 => h9) rfl dX7_told_138 ?_
                        refine va_getN (D := D) (ci := 1) (v := .int fo_count) (C := RX1) (T := TX1) (N := 3) hx hb hta ih_X1 hown hK hP 20 rfl rfl 2 (by decide) (va_Nw.use rfl (hN.1 _ hn_108)) (fun _ h9 => h9) rfl dX7_told_141 ?_
                        exact W.iret (v := fo_count) hx hb hr (fun t ht hW => ⟨_, rfl, h, ht⟩) (fun _ hq => by cases hq) dX7_told_144
                      · have h := h.2 c12
                        by_cases c13 : p1 = 11
                        · have h := h.1 c13
                          refine lv_tableIn (tgt := 145) hx hb dX7_told_1 (by rw [c13]; decide) (by rw [c13]; decide) (by rw [c13]; rfl) (by decide) ?_
                          refine lv_aload_n hx hb dX7_told_145 rfl (lv_at hl 0 rfl) ?_
                          refine va_get (D := D) (ci := 7) (v := .int x_markCount) (C := RX7) (T := TX7) (N := 18) hx hb hta ih_X7 hown hK hP 0 rfl rfl 12 (by decide) (hta _ hw_286) (fun _ h9 => h9) rfl dX7_told_146 ?_
                          exact W.iret (v := x_markCount) hx hb hr (fun t ht hW => ⟨_, rfl, h, ht⟩) (fun _ hq => by cases hq) dX7_told_149
                        · have h := h.2 c13
                          by_cases c14 : p1 = 12
                          · have h := h.1 c14
                            refine lv_tableIn (tgt := 150) hx hb dX7_told_1 (by rw [c14]; decide) (by rw [c14]; decide) (by rw [c14]; rfl) (by decide) ?_
                            refine lv_aload_n hx hb dX7_told_150 rfl (lv_at hl 0 rfl) ?_
                            refine va_get (D := D) (ci := 7) (v := .ref h_ks) (C := RX7) (T := TX7) (N := 18) hx hb hta ih_X7 hown hK hP 0 rfl rfl 5 (by decide) (hta _ hw_279) (fun _ h9 => h9) rfl dX7_told_151 ?_
                            refine vp_callSi (hk_runVN (As := []) (rest := []) S0 mm_ks_splitKeys (c_ks_splitKeys l D cI cJ cZ cM h_ks a_ks h_fo a_fo ks_partCounts ks_states ks_latestRows ks_latestValues ks_moved fo_kinds fo_declared fo_count _ h) (hN.1 _ hn_341) hk_blR (hk_atR (hP.sub (ws' := (wv_ks cI cJ cZ cM h_ks a_ks h_fo ks_partCounts ks_states ks_latestRows ks_latestValues ks_moved) ++ (wv_fo cI cJ cZ cM h_fo a_fo fo_kinds fo_declared fo_count)) [15, 16, 17, 18, 19, 20, 21, 22] rfl) hK hN) (va_recv hK hP (ci := 2) (q0 := 15) rfl rfl) ⟨rfl, rfl, Nat.le_of_ble_eq_true rfl, Nat.le_of_ble_eq_true rfl⟩ rfl hl.1 rfl (Nat.le_of_ble_eq_true rfl) dX7_told_154 ⟨Nat.le_of_ble_eq_true rfl, Nat.le_of_ble_eq_true rfl⟩).run (fun r1 h => ?_)
                            exact W.iret (v := r1) hx hb hr (fun t ht hW => ⟨_, rfl, h, ht⟩) (fun _ hq => by cases hq) dX7_told_157
                          · have h := h.2 c14
                            by_cases c15 : p1 = 13
                            · have h := h.1 c15
                              refine lv_tableIn (tgt := 158) hx hb dX7_told_1 (by rw [c15]; decide) (by rw [c15]; decide) (by rw [c15]; rfl) (by decide) ?_
                              refine lv_aload_n hx hb dX7_told_158 rfl (lv_at hl 0 rfl) ?_
                              refine va_get (D := D) (ci := 7) (v := .ref h_sm) (C := RX7) (T := TX7) (N := 18) hx hb hta ih_X7 hown hK hP 0 rfl rfl 7 (by decide) (hta _ hw_281) (fun _ h9 => h9) rfl dX7_told_159 ?_
                              refine va_getN (D := D) (ci := 5) (v := .int sm_count) (C := RX5) (T := TX5) (N := 5) hx hb hta ih_X5 hown hK hP 7 rfl rfl 2 (by decide) (va_Nw.use rfl (hN.1 _ hn_180)) (fun _ h9 => h9) rfl dX7_told_162 ?_
                              exact W.iret (v := sm_count) hx hb hr (fun t ht hW => ⟨_, rfl, h, ht⟩) (fun _ hq => by cases hq) dX7_told_165
                            · have h := h.2 c15
                              refine lv_tableOut (tgt := 166) hx hb dX7_told_1 (by have qc2 := lv_neT c2 (a := 0) rfl; have qc3 := lv_neT c3 (a := 1) rfl; have qc4 := lv_neT c4 (a := 2) rfl; have qc5 := lv_neT c5 (a := 3) rfl; have qc6 := lv_neT c6 (a := 4) rfl; have qc7 := lv_neT c7 (a := 5) rfl; have qc8 := lv_neT c8 (a := 6) rfl; have qc9 := lv_neT c9 (a := 7) rfl; have qc10 := lv_neT c10 (a := 8) rfl; have qc11 := lv_neT c11 (a := 9) rfl; have qc12 := lv_neT c12 (a := 10) rfl; have qc13 := lv_neT c13 (a := 11) rfl; have qc14 := lv_neT c14 (a := 12) rfl; have qc15 := lv_neT c15 (a := 13) rfl; omega) (by decide) ?_
                              refine lv_bipush (v := (-102)) hx hb dX7_told_166 (by decide) ?_
                              exact W.iret (v := (-102)) hx hb hr (fun t ht hW => ⟨_, rfl, h, ht⟩) (fun _ hq => by cases hq) dX7_told_168
def wp_x_clear  (x_rows : Int32) (post : Int32 → (Int32 × Int32 × Int32 × Int32 × (Nat → Int32) × Int32 × Int32 × Int32 × Int32 × Int32 × Int32 × Int32 × Int32 × Int32 × Int32 × Int64 × Int32 × Int32 × Int32 × (Nat → Int32) × (Nat → Int32) × (Nat → Int64) × Int32 × Int32) → Prop) : Prop := wp_x_begin (fun (w1 : Int32 × Int32 × Int32 × Int32 × (Nat → Int32) × Int32 × Int32 × Int32 × Int32 × Int32 × Int32 × Int32 × Int32 × Int32 × Int32 × Int64 × Int32 × Int32 × Int32 × (Nat → Int32) × (Nat → Int32) × (Nat → Int64) × Int32 × Int32) => post x_rows (w1.1, w1.2.1, w1.2.2.1, w1.2.2.2.1, w1.2.2.2.2.1, w1.2.2.2.2.2.1, w1.2.2.2.2.2.2.1, w1.2.2.2.2.2.2.2.1, w1.2.2.2.2.2.2.2.2.1, w1.2.2.2.2.2.2.2.2.2.1, w1.2.2.2.2.2.2.2.2.2.2.1, w1.2.2.2.2.2.2.2.2.2.2.2.1, w1.2.2.2.2.2.2.2.2.2.2.2.2.1, w1.2.2.2.2.2.2.2.2.2.2.2.2.2.1, w1.2.2.2.2.2.2.2.2.2.2.2.2.2.2.1, w1.2.2.2.2.2.2.2.2.2.2.2.2.2.2.2.1, w1.2.2.2.2.2.2.2.2.2.2.2.2.2.2.2.2.1, w1.2.2.2.2.2.2.2.2.2.2.2.2.2.2.2.2.2.1, w1.2.2.2.2.2.2.2.2.2.2.2.2.2.2.2.2.2.2.1, w1.2.2.2.2.2.2.2.2.2.2.2.2.2.2.2.2.2.2.2.1, w1.2.2.2.2.2.2.2.2.2.2.2.2.2.2.2.2.2.2.2.2.1, w1.2.2.2.2.2.2.2.2.2.2.2.2.2.2.2.2.2.2.2.2.2.1, w1.2.2.2.2.2.2.2.2.2.2.2.2.2.2.2.2.2.2.2.2.2.2.1, w1.2.2.2.2.2.2.2.2.2.2.2.2.2.2.2.2.2.2.2.2.2.2.2))
theorem mm_x_clear : hk_MV yX7_clear cX7_clear 2 (some .int) 0 := ⟨hw_713, hw_711, hw_712, hw_79, by decide +kernel⟩
set_option maxRecDepth 100000 in
set_option maxHeartbeats 4000000 in
theorem c_x_clear (l : Launch) (D : va_G) (cI cJ cZ cM : ClassId) (h_x : Nat) (a_x : Nat → Nat) (h_cn : Nat) (a_cn : Nat → Nat) (h_sm : Nat) (a_sm : Nat → Nat) (h_ti : Nat) (a_ti : Nat → Nat) (h_lg : Nat) (a_lg : Nat → Nat) (h_ks : Nat) (a_ks : Nat → Nat) (h_fo : Nat) (a_fo : Nat → Nat) (sz : Nat) (x_places : Int32) (x_round : Int32) (x_threshold : Int32) (x_slack : Int32) (x_marks : Nat → Option Nat) (x_loads : Nat → Int32) (x_markCount : Int32) (x_rows : Int32) (x_roundRows : Int32) (x_rounds : Int32) (x_flips : Int32) (x_passedOver : Int32) (cn_keys : Nat → Int32) (cn_counts : Nat → Int32) (cn_errors : Nat → Int32) (cn_limit : Int32) (cn_used : Int32) (sm_keys : Nat → Int32) (sm_weights : Nat → Int32) (sm_count : Int32) (sm_matches : Int32) (sm_out : Int64) (ti_keys : Nat → Int32) (ti_times : Nat → Int32) (ti_count : Int32) (ti_now : Int32) (lg_cells : Nat → Int64) (lg_newest : Int32) (lg_kept : Int32) (ks_partCounts : Nat → Int32) (ks_states : Nat → Int64) (ks_latestRows : Nat → Int32) (ks_latestValues : Nat → Int64) (ks_moved : Int32) (fo_kinds : Nat → Int32) (fo_declared : Nat → Int32) (fo_count : Int32)  (post : Int32 → (Int32 × Int32 × Int32 × Int32 × (Nat → Int32) × Int32 × Int32 × Int32 × Int32 × Int32 × Int32 × Int32 × Int32 × Int32 × Int32 × Int64 × Int32 × Int32 × Int32 × (Nat → Int32) × (Nat → Int32) × (Nat → Int64) × Int32 × Int32) → Prop) (h : wp_x_clear x_rows post) : Met l yX7_clear (hk_ws yX7_clear cX7_clear 2 (some .int)) (hk_rm 4 83) (va_Pc [.ref h_x] (hk_PM D (hk_ty cI cJ cZ cM) sz (wv_x cI cJ cZ cM h_x a_x x_places x_round x_threshold x_slack h_fo h_ks h_cn h_sm h_ti h_lg x_marks x_loads x_markCount x_rows x_roundRows x_rounds x_flips x_passedOver ++ (wv_cn cI cJ cZ cM h_cn a_cn cn_keys cn_counts cn_errors cn_limit cn_used ++ (wv_sm cI cJ cZ cM h_sm a_sm sm_keys sm_weights sm_count sm_matches sm_out ++ (wv_ti cI cJ cZ cM h_ti a_ti ti_keys ti_times ti_count ti_now ++ (wv_lg cI cJ cZ cM h_lg a_lg lg_cells lg_newest lg_kept ++ (wv_ks cI cJ cZ cM h_ks a_ks h_fo ks_partCounts ks_states ks_latestRows ks_latestValues ks_moved ++ (wv_fo cI cJ cZ cM h_fo a_fo fo_kinds fo_declared fo_count))))))))) (va_Qi post (hk_B D (va_A (wv_x cI cJ cZ cM h_x a_x x_places x_round x_threshold x_slack h_fo h_ks h_cn h_sm h_ti h_lg x_marks x_loads x_markCount x_rows x_roundRows x_rounds x_flips x_passedOver ++ (wv_cn cI cJ cZ cM h_cn a_cn cn_keys cn_counts cn_errors cn_limit cn_used ++ (wv_sm cI cJ cZ cM h_sm a_sm sm_keys sm_weights sm_count sm_matches sm_out ++ (wv_ti cI cJ cZ cM h_ti a_ti ti_keys ti_times ti_count ti_now ++ (wv_lg cI cJ cZ cM h_lg a_lg lg_cells lg_newest lg_kept ++ (wv_ks cI cJ cZ cM h_ks a_ks h_fo ks_partCounts ks_states ks_latestRows ks_latestValues ks_moved ++ (wv_fo cI cJ cZ cM h_fo a_fo fo_kinds fo_declared fo_count))))))) sz) (fun (u : Int32 × Int32 × Int32 × Int32 × (Nat → Int32) × Int32 × Int32 × Int32 × Int32 × Int32 × Int32 × Int32 × Int32 × Int32 × Int32 × Int64 × Int32 × Int32 × Int32 × (Nat → Int32) × (Nat → Int32) × (Nat → Int64) × Int32 × Int32) => wv_x cI cJ cZ cM h_x a_x u.1 u.2.1 u.2.2.1 u.2.2.2.1 h_fo h_ks h_cn h_sm h_ti h_lg x_marks u.2.2.2.2.1 u.2.2.2.2.2.1 u.2.2.2.2.2.2.1 u.2.2.2.2.2.2.2.1 u.2.2.2.2.2.2.2.2.1 u.2.2.2.2.2.2.2.2.2.1 u.2.2.2.2.2.2.2.2.2.2.1 ++ (wv_cn cI cJ cZ cM h_cn a_cn cn_keys cn_counts cn_errors u.2.2.2.2.2.2.2.2.2.2.2.1 u.2.2.2.2.2.2.2.2.2.2.2.2.1 ++ (wv_sm cI cJ cZ cM h_sm a_sm sm_keys sm_weights u.2.2.2.2.2.2.2.2.2.2.2.2.2.1 u.2.2.2.2.2.2.2.2.2.2.2.2.2.2.1 u.2.2.2.2.2.2.2.2.2.2.2.2.2.2.2.1 ++ (wv_ti cI cJ cZ cM h_ti a_ti ti_keys ti_times u.2.2.2.2.2.2.2.2.2.2.2.2.2.2.2.2.1 u.2.2.2.2.2.2.2.2.2.2.2.2.2.2.2.2.2.1 ++ (wv_lg cI cJ cZ cM h_lg a_lg lg_cells lg_newest u.2.2.2.2.2.2.2.2.2.2.2.2.2.2.2.2.2.2.1 ++ (wv_ks cI cJ cZ cM h_ks a_ks h_fo u.2.2.2.2.2.2.2.2.2.2.2.2.2.2.2.2.2.2.2.1 ks_states u.2.2.2.2.2.2.2.2.2.2.2.2.2.2.2.2.2.2.2.2.1 u.2.2.2.2.2.2.2.2.2.2.2.2.2.2.2.2.2.2.2.2.2.1 u.2.2.2.2.2.2.2.2.2.2.2.2.2.2.2.2.2.2.2.2.2.2.1 ++ (wv_fo cI cJ cZ cM h_fo a_fo fo_kinds fo_declared u.2.2.2.2.2.2.2.2.2.2.2.2.2.2.2.2.2.2.2.2.2.2.2)))))))) (va_A (wv_x cI cJ cZ cM h_x a_x x_places x_round x_threshold x_slack h_fo h_ks h_cn h_sm h_ti h_lg x_marks x_loads x_markCount x_rows x_roundRows x_rounds x_flips x_passedOver ++ (wv_cn cI cJ cZ cM h_cn a_cn cn_keys cn_counts cn_errors cn_limit cn_used ++ (wv_sm cI cJ cZ cM h_sm a_sm sm_keys sm_weights sm_count sm_matches sm_out ++ (wv_ti cI cJ cZ cM h_ti a_ti ti_keys ti_times ti_count ti_now ++ (wv_lg cI cJ cZ cM h_lg a_lg lg_cells lg_newest lg_kept ++ (wv_ks cI cJ cZ cM h_ks a_ks h_fo ks_partCounts ks_states ks_latestRows ks_latestValues ks_moved ++ (wv_fo cI cJ cZ cM h_fo a_fo fo_kinds fo_declared fo_count))))))) sz)) 0 0 (va_A (wv_x cI cJ cZ cM h_x a_x x_places x_round x_threshold x_slack h_fo h_ks h_cn h_sm h_ti h_lg x_marks x_loads x_markCount x_rows x_roundRows x_rounds x_flips x_passedOver ++ (wv_cn cI cJ cZ cM h_cn a_cn cn_keys cn_counts cn_errors cn_limit cn_used ++ (wv_sm cI cJ cZ cM h_sm a_sm sm_keys sm_weights sm_count sm_matches sm_out ++ (wv_ti cI cJ cZ cM h_ti a_ti ti_keys ti_times ti_count ti_now ++ (wv_lg cI cJ cZ cM h_lg a_lg lg_cells lg_newest lg_kept ++ (wv_ks cI cJ cZ cM h_ks a_ks h_fo ks_partCounts ks_states ks_latestRows ks_latestValues ks_moved ++ (wv_fo cI cJ cZ cM h_fo a_fo fo_kinds fo_declared fo_count))))))) sz) := by
  refine Met.ofW (cc := cX7_clear) (maxL := 2) (ret := (some .int)) (by decide) rfl ?_
  intro p e s m args below meth c s₁ B hml hv
  obtain ⟨rfl, hsz, hP, hK, hD0, hN⟩ := hv
  have hx := B.exec
  have hb := B.bytes
  have hr := B.returns
  have hts := atoms_spec (ws := hk_ws yX7_clear cX7_clear 2 (some .int)) B.pre
  have hta : ∀ w ∈ hk_all, w.before ([.ref h_x] : List Value).toArray s = true := fun w hw => hts w (List.mem_cons_of_mem _ hw)
  have hown : s.vm.findClass RX7 = some m.cls := findClass_of_methodNamed B.named
  have hlocks := B.notSynchronized
  have S0 : CallFix p m c cX7_clear 2 s ([.ref h_x] : List Value).toArray hk_all RX7 := ⟨hx, hb, hml, hown, hta⟩
  subst hsz
  have hD := hD0.self (sz := s.heap.size)
  generalize hAe : va_A (wv_x cI cJ cZ cM h_x a_x x_places x_round x_threshold x_slack h_fo h_ks h_cn h_sm h_ti h_lg x_marks x_loads x_markCount x_rows x_roundRows x_rounds x_flips x_passedOver ++ (wv_cn cI cJ cZ cM h_cn a_cn cn_keys cn_counts cn_errors cn_limit cn_used ++ (wv_sm cI cJ cZ cM h_sm a_sm sm_keys sm_weights sm_count sm_matches sm_out ++ (wv_ti cI cJ cZ cM h_ti a_ti ti_keys ti_times ti_count ti_now ++ (wv_lg cI cJ cZ cM h_lg a_lg lg_cells lg_newest lg_kept ++ (wv_ks cI cJ cZ cM h_ks a_ks h_fo ks_partCounts ks_states ks_latestRows ks_latestValues ks_moved ++ (wv_fo cI cJ cZ cM h_fo a_fo fo_kinds fo_declared fo_count))))))) s.heap.size = A at hD ⊢
  have hA : ∀ q : Nat, s.heap.size ≤ q → A q := fun q h => by rw [← hAe]; exact Or.inr h
  have hS : va_S A s.heap s.heap [] := va_S.rf
  have hl := lv_entry ([.ref h_x]) (n := 2) (Nat.le_of_ble_eq_true rfl)
  rw [lg_entry_eq]
  generalize (lg_sl ([.ref h_x]) ++ List.replicate (2 - (lg_sl ([.ref h_x])).length) Slot.unset).toArray = ls at hl ⊢
  have hl : lv_has ls 2 [(0, .ref h_x)] := hl
  unfold wp_x_clear at h
  refine lv_aload_n hx hb dX7_clear_0 rfl (lv_at hl 0 rfl) ?_
  refine va_get (D := D) (ci := 7) (v := .int x_rows) (C := RX7) (T := TX7) (N := 18) hx hb hta ih_X7 hown hK hP 0 rfl rfl 13 (by decide) (hta _ hw_287) (fun _ h9 => h9) rfl dX7_clear_1 ?_
  refine lv_istore_n (lv' := [(1, .int x_rows), (0, .ref h_x)]) hx hb dX7_clear_4 rfl hl (by decide) rfl (fun ls hl => ?_)
  refine lv_aload_n hx hb dX7_clear_5 rfl (lv_at hl 1 rfl) ?_
  refine hk_wv (hk_runV (As := []) (rest := []) S0 mm_x_begin (c_x_begin l D cI cJ cZ cM h_x a_x h_cn a_cn h_sm a_sm h_ti a_ti h_lg a_lg h_ks a_ks h_fo a_fo s.heap.size x_places x_round x_threshold x_slack x_marks x_loads x_markCount x_rows x_roundRows x_rounds x_flips x_passedOver cn_keys cn_counts cn_errors cn_limit cn_used sm_keys sm_weights sm_count sm_matches sm_out ti_keys ti_times ti_count ti_now lg_cells lg_newest lg_kept ks_partCounts ks_states ks_latestRows ks_latestValues ks_moved fo_kinds fo_declared fo_count _ h) hw_238 hk_blM (hk_atM hP hK hD hN) (va_recv hK hP (ci := 7) (q0 := 0) rfl rfl) ⟨rfl, rfl, Nat.le_of_ble_eq_true rfl, Nat.le_of_ble_eq_true rfl⟩ rfl hl.1 rfl (Nat.le_of_ble_eq_true rfl) dX7_clear_6 ⟨Nat.le_of_ble_eq_true rfl, Nat.le_of_ble_eq_true rfl⟩) hD hS hA (fun w1 H locs h hP hD hS => ?_)
  have hP : va_P D vwCl (wv_x cI cJ cZ cM h_x a_x w1.1 w1.2.1 w1.2.2.1 w1.2.2.2.1 h_fo h_ks h_cn h_sm h_ti h_lg x_marks w1.2.2.2.2.1 w1.2.2.2.2.2.1 w1.2.2.2.2.2.2.1 w1.2.2.2.2.2.2.2.1 w1.2.2.2.2.2.2.2.2.1 w1.2.2.2.2.2.2.2.2.2.1 w1.2.2.2.2.2.2.2.2.2.2.1 ++ (wv_cn cI cJ cZ cM h_cn a_cn cn_keys cn_counts cn_errors w1.2.2.2.2.2.2.2.2.2.2.2.1 w1.2.2.2.2.2.2.2.2.2.2.2.2.1 ++ (wv_sm cI cJ cZ cM h_sm a_sm sm_keys sm_weights w1.2.2.2.2.2.2.2.2.2.2.2.2.2.1 w1.2.2.2.2.2.2.2.2.2.2.2.2.2.2.1 w1.2.2.2.2.2.2.2.2.2.2.2.2.2.2.2.1 ++ (wv_ti cI cJ cZ cM h_ti a_ti ti_keys ti_times w1.2.2.2.2.2.2.2.2.2.2.2.2.2.2.2.2.1 w1.2.2.2.2.2.2.2.2.2.2.2.2.2.2.2.2.2.1 ++ (wv_lg cI cJ cZ cM h_lg a_lg lg_cells lg_newest w1.2.2.2.2.2.2.2.2.2.2.2.2.2.2.2.2.2.2.1 ++ (wv_ks cI cJ cZ cM h_ks a_ks h_fo w1.2.2.2.2.2.2.2.2.2.2.2.2.2.2.2.2.2.2.2.1 ks_states w1.2.2.2.2.2.2.2.2.2.2.2.2.2.2.2.2.2.2.2.2.1 w1.2.2.2.2.2.2.2.2.2.2.2.2.2.2.2.2.2.2.2.2.2.1 w1.2.2.2.2.2.2.2.2.2.2.2.2.2.2.2.2.2.2.2.2.2.2.1 ++ (wv_fo cI cJ cZ cM h_fo a_fo fo_kinds fo_declared w1.2.2.2.2.2.2.2.2.2.2.2.2.2.2.2.2.2.2.2.2.2.2.2))))))) H := hP
  have hD : va_D A (wv_x cI cJ cZ cM h_x a_x w1.1 w1.2.1 w1.2.2.1 w1.2.2.2.1 h_fo h_ks h_cn h_sm h_ti h_lg x_marks w1.2.2.2.2.1 w1.2.2.2.2.2.1 w1.2.2.2.2.2.2.1 w1.2.2.2.2.2.2.2.1 w1.2.2.2.2.2.2.2.2.1 w1.2.2.2.2.2.2.2.2.2.1 w1.2.2.2.2.2.2.2.2.2.2.1 ++ (wv_cn cI cJ cZ cM h_cn a_cn cn_keys cn_counts cn_errors w1.2.2.2.2.2.2.2.2.2.2.2.1 w1.2.2.2.2.2.2.2.2.2.2.2.2.1 ++ (wv_sm cI cJ cZ cM h_sm a_sm sm_keys sm_weights w1.2.2.2.2.2.2.2.2.2.2.2.2.2.1 w1.2.2.2.2.2.2.2.2.2.2.2.2.2.2.1 w1.2.2.2.2.2.2.2.2.2.2.2.2.2.2.2.1 ++ (wv_ti cI cJ cZ cM h_ti a_ti ti_keys ti_times w1.2.2.2.2.2.2.2.2.2.2.2.2.2.2.2.2.1 w1.2.2.2.2.2.2.2.2.2.2.2.2.2.2.2.2.2.1 ++ (wv_lg cI cJ cZ cM h_lg a_lg lg_cells lg_newest w1.2.2.2.2.2.2.2.2.2.2.2.2.2.2.2.2.2.2.1 ++ (wv_ks cI cJ cZ cM h_ks a_ks h_fo w1.2.2.2.2.2.2.2.2.2.2.2.2.2.2.2.2.2.2.2.1 ks_states w1.2.2.2.2.2.2.2.2.2.2.2.2.2.2.2.2.2.2.2.2.1 w1.2.2.2.2.2.2.2.2.2.2.2.2.2.2.2.2.2.2.2.2.2.1 w1.2.2.2.2.2.2.2.2.2.2.2.2.2.2.2.2.2.2.2.2.2.2.1 ++ (wv_fo cI cJ cZ cM h_fo a_fo fo_kinds fo_declared w1.2.2.2.2.2.2.2.2.2.2.2.2.2.2.2.2.2.2.2.2.2.2.2))))))) := hD
  refine lv_iload_n hx hb dX7_clear_9 rfl (lv_at hl 0 rfl) ?_
  exact W.iret (v := x_rows) hx hb hr (fun t ht hW => ⟨⟨x_rows, (w1.1, w1.2.1, w1.2.2.1, w1.2.2.2.1, w1.2.2.2.2.1, w1.2.2.2.2.2.1, w1.2.2.2.2.2.2.1, w1.2.2.2.2.2.2.2.1, w1.2.2.2.2.2.2.2.2.1, w1.2.2.2.2.2.2.2.2.2.1, w1.2.2.2.2.2.2.2.2.2.2.1, w1.2.2.2.2.2.2.2.2.2.2.2.1, w1.2.2.2.2.2.2.2.2.2.2.2.2.1, w1.2.2.2.2.2.2.2.2.2.2.2.2.2.1, w1.2.2.2.2.2.2.2.2.2.2.2.2.2.2.1, w1.2.2.2.2.2.2.2.2.2.2.2.2.2.2.2.1, w1.2.2.2.2.2.2.2.2.2.2.2.2.2.2.2.2.1, w1.2.2.2.2.2.2.2.2.2.2.2.2.2.2.2.2.2.1, w1.2.2.2.2.2.2.2.2.2.2.2.2.2.2.2.2.2.2.1, w1.2.2.2.2.2.2.2.2.2.2.2.2.2.2.2.2.2.2.2.1, w1.2.2.2.2.2.2.2.2.2.2.2.2.2.2.2.2.2.2.2.2.1, w1.2.2.2.2.2.2.2.2.2.2.2.2.2.2.2.2.2.2.2.2.2.1, w1.2.2.2.2.2.2.2.2.2.2.2.2.2.2.2.2.2.2.2.2.2.2.1, w1.2.2.2.2.2.2.2.2.2.2.2.2.2.2.2.2.2.2.2.2.2.2.2), rfl, h, by rw [ht]; exact hP, hD⟩, hS.F ht⟩) hS.2.2 dX7_clear_10
