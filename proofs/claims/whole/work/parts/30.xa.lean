def wp_x_isFold (p1 : Int32) (fo_count : Int32) (post : Int32 → Prop) : Prop := wp_x_isWithin p1 0 (fo_count - 1) (fun (r1 : Int32) => (r1 = 0 ∨ r1 = 1) ∧ post r1)
theorem mm_x_isFold : hk_MV yX7_isFold cX7_isFold 2 (some .boolean) 1 := ⟨hw_503, hw_502, hw_36, hw_79, by decide +kernel⟩
set_option maxRecDepth 100000 in
set_option maxHeartbeats 4000000 in
theorem c_x_isFold (l : Launch) (D : va_G) (cI cJ cZ cM : ClassId) (h_x : Nat) (a_x : Nat → Nat) (h_cn : Nat) (a_cn : Nat → Nat) (h_sm : Nat) (a_sm : Nat → Nat) (h_ti : Nat) (a_ti : Nat → Nat) (h_lg : Nat) (a_lg : Nat → Nat) (h_ks : Nat) (a_ks : Nat → Nat) (h_fo : Nat) (a_fo : Nat → Nat)  (x_places : Int32) (x_round : Int32) (x_threshold : Int32) (x_slack : Int32) (x_marks : Nat → Option Nat) (x_loads : Nat → Int32) (x_markCount : Int32) (x_rows : Int32) (x_roundRows : Int32) (x_rounds : Int32) (x_flips : Int32) (x_passedOver : Int32) (cn_keys : Nat → Int32) (cn_counts : Nat → Int32) (cn_errors : Nat → Int32) (cn_limit : Int32) (cn_used : Int32) (sm_keys : Nat → Int32) (sm_weights : Nat → Int32) (sm_count : Int32) (sm_matches : Int32) (sm_out : Int64) (ti_keys : Nat → Int32) (ti_times : Nat → Int32) (ti_count : Int32) (ti_now : Int32) (lg_cells : Nat → Int64) (lg_newest : Int32) (lg_kept : Int32) (ks_partCounts : Nat → Int32) (ks_states : Nat → Int64) (ks_latestRows : Nat → Int32) (ks_latestValues : Nat → Int64) (ks_moved : Int32) (fo_kinds : Nat → Int32) (fo_declared : Nat → Int32) (fo_count : Int32) (p1 : Int32) (post : Int32 → Prop) (h : wp_x_isFold p1 fo_count post) : Met l yX7_isFold (hk_ws yX7_isFold cX7_isFold 2 (some .boolean)) (hk_rm 1 22) (va_Pc [.ref h_x, .int p1] (hk_PR D (hk_ty cI cJ cZ cM) (wv_x cI cJ cZ cM h_x a_x x_places x_round x_threshold x_slack h_fo h_ks h_cn h_sm h_ti h_lg x_marks x_loads x_markCount x_rows x_roundRows x_rounds x_flips x_passedOver ++ (wv_cn cI cJ cZ cM h_cn a_cn cn_keys cn_counts cn_errors cn_limit cn_used ++ (wv_sm cI cJ cZ cM h_sm a_sm sm_keys sm_weights sm_count sm_matches sm_out ++ (wv_ti cI cJ cZ cM h_ti a_ti ti_keys ti_times ti_count ti_now ++ (wv_lg cI cJ cZ cM h_lg a_lg lg_cells lg_newest lg_kept ++ (wv_ks cI cJ cZ cM h_ks a_ks h_fo ks_partCounts ks_states ks_latestRows ks_latestValues ks_moved ++ (wv_fo cI cJ cZ cM h_fo a_fo fo_kinds fo_declared fo_count))))))))) (vp_Si post) 0 0 (fun _ => False) := by
  refine Met.ofW (cc := cX7_isFold) (maxL := 2) (ret := (some .boolean)) (by decide) rfl ?_
  intro p e s m args below meth c s₁ B hml hv
  obtain ⟨rfl, hP, hK, hN⟩ := hv
  have hx := B.exec
  have hb := B.bytes
  have hr := B.returns
  have hts := atoms_spec (ws := hk_ws yX7_isFold cX7_isFold 2 (some .boolean)) B.pre
  have hta : ∀ w ∈ hk_all, w.before ([.ref h_x, .int p1] : List Value).toArray s = true := fun w hw => hts w (List.mem_cons_of_mem _ hw)
  have hown : s.vm.findClass RX7 = some m.cls := findClass_of_methodNamed B.named
  have hlocks := B.notSynchronized
  have S0 : CallFix p m c cX7_isFold 2 s ([.ref h_x, .int p1] : List Value).toArray hk_all RX7 := ⟨hx, hb, hml, hown, hta⟩
  have hl := lv_entry ([.ref h_x, .int p1]) (n := 2) (Nat.le_of_ble_eq_true rfl)
  rw [lg_entry_eq]
  generalize (lg_sl ([.ref h_x, .int p1]) ++ List.replicate (2 - (lg_sl ([.ref h_x, .int p1])).length) Slot.unset).toArray = ls at hl ⊢
  have hl : lv_has ls 2 [(0, .ref h_x), (1, .int p1)] := hl
  unfold wp_x_isFold at h
  refine lv_iload_n hx hb dX7_isFold_0 rfl (lv_at hl 1 rfl) ?_
  refine lv_iconst (v := 0) hx hb dX7_isFold_1 (by decide) ?_
  refine lv_aload_n hx hb dX7_isFold_2 rfl (lv_at hl 0 rfl) ?_
  refine va_get (D := D) (ci := 7) (v := .ref h_fo) (C := RX7) (T := TX7) (N := 18) hx hb hta ih_X7 hown hK hP 0 rfl rfl 4 (by decide) (hta _ hw_278) (fun _ h9 => h9) rfl dX7_isFold_3 ?_
  refine va_getN (D := D) (ci := 1) (v := .int fo_count) (C := RX1) (T := TX1) (N := 3) hx hb hta ih_X1 hown hK hP 20 rfl rfl 2 (by decide) (va_Nw.use rfl (hN.1 _ hn_108)) (fun _ h9 => h9) rfl dX7_isFold_6 ?_
  refine lv_iconst (v := 1) hx hb dX7_isFold_9 (by decide) ?_
  refine lv_isub hx hb dX7_isFold_10 ?_
  refine vp_callSi (hk_runS (As := [.int p1, .int 0, .int (fo_count - 1)]) (rest := []) S0 mm_x_isWithin (c_x_isWithin l D cI cJ cZ cM p1 0 (fo_count - 1) _ h) hw_333 hk_blR (hk_atR (hP.sub (ws' := ([] : va_W)) [] rfl) hK hN) ⟨rfl, rfl, Nat.le_of_ble_eq_true rfl, Nat.le_of_ble_eq_true rfl⟩ rfl hl.1 rfl (Nat.le_of_ble_eq_true rfl) dX7_isFold_11 ⟨Nat.le_of_ble_eq_true rfl, Nat.le_of_ble_eq_true rfl⟩).run (fun r1 h => ?_)
  exact W.zret (ty := .boolean) (v := r1) hx hb hr (hk_nz h.1) (fun t ht hW => ⟨_, rfl, h.2, ht⟩) (fun _ hq => by cases hq) dX7_isFold_14
def wp_x_isPlace (p1 : Int32) (x_places : Int32) (post : Int32 → Prop) : Prop := wp_x_isWithin p1 0 (x_places - 1) (fun (r1 : Int32) => (r1 = 0 ∨ r1 = 1) ∧ post r1)
theorem mm_x_isPlace : hk_MV yX7_isPlace cX7_isPlace 2 (some .boolean) 1 := ⟨hw_567, hw_566, hw_40, hw_79, by decide +kernel⟩
set_option maxRecDepth 100000 in
set_option maxHeartbeats 4000000 in
theorem c_x_isPlace (l : Launch) (D : va_G) (cI cJ cZ cM : ClassId) (h_x : Nat) (a_x : Nat → Nat) (h_cn : Nat) (a_cn : Nat → Nat) (h_sm : Nat) (a_sm : Nat → Nat) (h_ti : Nat) (a_ti : Nat → Nat) (h_lg : Nat) (a_lg : Nat → Nat) (h_ks : Nat) (a_ks : Nat → Nat) (h_fo : Nat) (a_fo : Nat → Nat)  (x_places : Int32) (x_round : Int32) (x_threshold : Int32) (x_slack : Int32) (x_marks : Nat → Option Nat) (x_loads : Nat → Int32) (x_markCount : Int32) (x_rows : Int32) (x_roundRows : Int32) (x_rounds : Int32) (x_flips : Int32) (x_passedOver : Int32) (cn_keys : Nat → Int32) (cn_counts : Nat → Int32) (cn_errors : Nat → Int32) (cn_limit : Int32) (cn_used : Int32) (sm_keys : Nat → Int32) (sm_weights : Nat → Int32) (sm_count : Int32) (sm_matches : Int32) (sm_out : Int64) (ti_keys : Nat → Int32) (ti_times : Nat → Int32) (ti_count : Int32) (ti_now : Int32) (lg_cells : Nat → Int64) (lg_newest : Int32) (lg_kept : Int32) (ks_partCounts : Nat → Int32) (ks_states : Nat → Int64) (ks_latestRows : Nat → Int32) (ks_latestValues : Nat → Int64) (ks_moved : Int32) (fo_kinds : Nat → Int32) (fo_declared : Nat → Int32) (fo_count : Int32) (p1 : Int32) (post : Int32 → Prop) (h : wp_x_isPlace p1 x_places post) : Met l yX7_isPlace (hk_ws yX7_isPlace cX7_isPlace 2 (some .boolean)) (hk_rm 1 22) (va_Pc [.ref h_x, .int p1] (hk_PR D (hk_ty cI cJ cZ cM) (wv_x cI cJ cZ cM h_x a_x x_places x_round x_threshold x_slack h_fo h_ks h_cn h_sm h_ti h_lg x_marks x_loads x_markCount x_rows x_roundRows x_rounds x_flips x_passedOver ++ (wv_cn cI cJ cZ cM h_cn a_cn cn_keys cn_counts cn_errors cn_limit cn_used ++ (wv_sm cI cJ cZ cM h_sm a_sm sm_keys sm_weights sm_count sm_matches sm_out ++ (wv_ti cI cJ cZ cM h_ti a_ti ti_keys ti_times ti_count ti_now ++ (wv_lg cI cJ cZ cM h_lg a_lg lg_cells lg_newest lg_kept ++ (wv_ks cI cJ cZ cM h_ks a_ks h_fo ks_partCounts ks_states ks_latestRows ks_latestValues ks_moved ++ (wv_fo cI cJ cZ cM h_fo a_fo fo_kinds fo_declared fo_count))))))))) (vp_Si post) 0 0 (fun _ => False) := by
  refine Met.ofW (cc := cX7_isPlace) (maxL := 2) (ret := (some .boolean)) (by decide) rfl ?_
  intro p e s m args below meth c s₁ B hml hv
  obtain ⟨rfl, hP, hK, hN⟩ := hv
  have hx := B.exec
  have hb := B.bytes
  have hr := B.returns
  have hts := atoms_spec (ws := hk_ws yX7_isPlace cX7_isPlace 2 (some .boolean)) B.pre
  have hta : ∀ w ∈ hk_all, w.before ([.ref h_x, .int p1] : List Value).toArray s = true := fun w hw => hts w (List.mem_cons_of_mem _ hw)
  have hown : s.vm.findClass RX7 = some m.cls := findClass_of_methodNamed B.named
  have hlocks := B.notSynchronized
  have S0 : CallFix p m c cX7_isPlace 2 s ([.ref h_x, .int p1] : List Value).toArray hk_all RX7 := ⟨hx, hb, hml, hown, hta⟩
  have hl := lv_entry ([.ref h_x, .int p1]) (n := 2) (Nat.le_of_ble_eq_true rfl)
  rw [lg_entry_eq]
  generalize (lg_sl ([.ref h_x, .int p1]) ++ List.replicate (2 - (lg_sl ([.ref h_x, .int p1])).length) Slot.unset).toArray = ls at hl ⊢
  have hl : lv_has ls 2 [(0, .ref h_x), (1, .int p1)] := hl
  unfold wp_x_isPlace at h
  refine lv_iload_n hx hb dX7_isPlace_0 rfl (lv_at hl 1 rfl) ?_
  refine lv_iconst (v := 0) hx hb dX7_isPlace_1 (by decide) ?_
  refine lv_aload_n hx hb dX7_isPlace_2 rfl (lv_at hl 0 rfl) ?_
  refine va_get (D := D) (ci := 7) (v := .int x_places) (C := RX7) (T := TX7) (N := 18) hx hb hta ih_X7 hown hK hP 0 rfl rfl 0 (by decide) (hta _ hw_274) (fun _ h9 => h9) rfl dX7_isPlace_3 ?_
  refine lv_iconst (v := 1) hx hb dX7_isPlace_6 (by decide) ?_
  refine lv_isub hx hb dX7_isPlace_7 ?_
  refine vp_callSi (hk_runS (As := [.int p1, .int 0, .int (x_places - 1)]) (rest := []) S0 mm_x_isWithin (c_x_isWithin l D cI cJ cZ cM p1 0 (x_places - 1) _ h) hw_333 hk_blR (hk_atR (hP.sub (ws' := ([] : va_W)) [] rfl) hK hN) ⟨rfl, rfl, Nat.le_of_ble_eq_true rfl, Nat.le_of_ble_eq_true rfl⟩ rfl hl.1 rfl (Nat.le_of_ble_eq_true rfl) dX7_isPlace_8 ⟨Nat.le_of_ble_eq_true rfl, Nat.le_of_ble_eq_true rfl⟩).run (fun r1 h => ?_)
  exact W.zret (ty := .boolean) (v := r1) hx hb hr (hk_nz h.1) (fun t ht hW => ⟨_, rfl, h.2, ht⟩) (fun _ hq => by cases hq) dX7_isPlace_11
def wp_x_placeOfPart (p1 : Int32) (p2 : Int32) (x_places : Int32) (post : Int32 → Prop) : Prop := wp_x_remainder p1 x_places (fun (r1 : Int32) => wp_x_remainder (r1 + p2) x_places (fun (r2 : Int32) => post r2))
theorem mm_x_placeOfPart : hk_MV yX7_placeOfPart cX7_placeOfPart 3 (some .int) 2 := ⟨hw_387, hw_386, hw_13, hw_79, by decide +kernel⟩
set_option maxRecDepth 100000 in
set_option maxHeartbeats 4000000 in
theorem c_x_placeOfPart (l : Launch) (D : va_G) (cI cJ cZ cM : ClassId) (h_x : Nat) (a_x : Nat → Nat) (h_cn : Nat) (a_cn : Nat → Nat) (h_sm : Nat) (a_sm : Nat → Nat) (h_ti : Nat) (a_ti : Nat → Nat) (h_lg : Nat) (a_lg : Nat → Nat) (h_ks : Nat) (a_ks : Nat → Nat) (h_fo : Nat) (a_fo : Nat → Nat)  (x_places : Int32) (x_round : Int32) (x_threshold : Int32) (x_slack : Int32) (x_marks : Nat → Option Nat) (x_loads : Nat → Int32) (x_markCount : Int32) (x_rows : Int32) (x_roundRows : Int32) (x_rounds : Int32) (x_flips : Int32) (x_passedOver : Int32) (cn_keys : Nat → Int32) (cn_counts : Nat → Int32) (cn_errors : Nat → Int32) (cn_limit : Int32) (cn_used : Int32) (sm_keys : Nat → Int32) (sm_weights : Nat → Int32) (sm_count : Int32) (sm_matches : Int32) (sm_out : Int64) (ti_keys : Nat → Int32) (ti_times : Nat → Int32) (ti_count : Int32) (ti_now : Int32) (lg_cells : Nat → Int64) (lg_newest : Int32) (lg_kept : Int32) (ks_partCounts : Nat → Int32) (ks_states : Nat → Int64) (ks_latestRows : Nat → Int32) (ks_latestValues : Nat → Int64) (ks_moved : Int32) (fo_kinds : Nat → Int32) (fo_declared : Nat → Int32) (fo_count : Int32) (p1 : Int32) (p2 : Int32) (post : Int32 → Prop) (h : wp_x_placeOfPart p1 p2 x_places post) : Met l yX7_placeOfPart (hk_ws yX7_placeOfPart cX7_placeOfPart 3 (some .int)) (hk_rm 1 21) (va_Pc [.ref h_x, .int p1, .int p2] (hk_PR D (hk_ty cI cJ cZ cM) (wv_x cI cJ cZ cM h_x a_x x_places x_round x_threshold x_slack h_fo h_ks h_cn h_sm h_ti h_lg x_marks x_loads x_markCount x_rows x_roundRows x_rounds x_flips x_passedOver ++ (wv_cn cI cJ cZ cM h_cn a_cn cn_keys cn_counts cn_errors cn_limit cn_used ++ (wv_sm cI cJ cZ cM h_sm a_sm sm_keys sm_weights sm_count sm_matches sm_out ++ (wv_ti cI cJ cZ cM h_ti a_ti ti_keys ti_times ti_count ti_now ++ (wv_lg cI cJ cZ cM h_lg a_lg lg_cells lg_newest lg_kept ++ (wv_ks cI cJ cZ cM h_ks a_ks h_fo ks_partCounts ks_states ks_latestRows ks_latestValues ks_moved ++ (wv_fo cI cJ cZ cM h_fo a_fo fo_kinds fo_declared fo_count))))))))) (vp_Si post) 0 0 (fun _ => False) := by
  refine Met.ofW (cc := cX7_placeOfPart) (maxL := 3) (ret := (some .int)) (by decide) rfl ?_
  intro p e s m args below meth c s₁ B hml hv
  obtain ⟨rfl, hP, hK, hN⟩ := hv
  have hx := B.exec
  have hb := B.bytes
  have hr := B.returns
  have hts := atoms_spec (ws := hk_ws yX7_placeOfPart cX7_placeOfPart 3 (some .int)) B.pre
  have hta : ∀ w ∈ hk_all, w.before ([.ref h_x, .int p1, .int p2] : List Value).toArray s = true := fun w hw => hts w (List.mem_cons_of_mem _ hw)
  have hown : s.vm.findClass RX7 = some m.cls := findClass_of_methodNamed B.named
  have hlocks := B.notSynchronized
  have S0 : CallFix p m c cX7_placeOfPart 3 s ([.ref h_x, .int p1, .int p2] : List Value).toArray hk_all RX7 := ⟨hx, hb, hml, hown, hta⟩
  have hl := lv_entry ([.ref h_x, .int p1, .int p2]) (n := 3) (Nat.le_of_ble_eq_true rfl)
  rw [lg_entry_eq]
  generalize (lg_sl ([.ref h_x, .int p1, .int p2]) ++ List.replicate (3 - (lg_sl ([.ref h_x, .int p1, .int p2])).length) Slot.unset).toArray = ls at hl ⊢
  have hl : lv_has ls 3 [(0, .ref h_x), (1, .int p1), (2, .int p2)] := hl
  unfold wp_x_placeOfPart at h
  refine lv_iload_n hx hb dX7_placeOfPart_0 rfl (lv_at hl 1 rfl) ?_
  refine lv_aload_n hx hb dX7_placeOfPart_1 rfl (lv_at hl 0 rfl) ?_
  refine va_get (D := D) (ci := 7) (v := .int x_places) (C := RX7) (T := TX7) (N := 18) hx hb hta ih_X7 hown hK hP 0 rfl rfl 0 (by decide) (hta _ hw_274) (fun _ h9 => h9) rfl dX7_placeOfPart_2 ?_
  refine vp_callSi (hk_runS (As := [.int p1, .int x_places]) (rest := []) S0 mm_x_remainder (c_x_remainder l D cI cJ cZ cM p1 x_places _ h) hw_381 hk_blR (hk_atR (hP.sub (ws' := ([] : va_W)) [] rfl) hK hN) ⟨rfl, rfl, Nat.le_of_ble_eq_true rfl, Nat.le_of_ble_eq_true rfl⟩ rfl hl.1 rfl (Nat.le_of_ble_eq_true rfl) dX7_placeOfPart_5 ⟨Nat.le_of_ble_eq_true rfl, Nat.le_of_ble_eq_true rfl⟩).run (fun r1 h => ?_)
  refine lv_iload_n hx hb dX7_placeOfPart_8 rfl (lv_at hl 2 rfl) ?_
  refine lv_iadd hx hb dX7_placeOfPart_9 ?_
  refine lv_aload_n hx hb dX7_placeOfPart_10 rfl (lv_at hl 0 rfl) ?_
  refine va_get (D := D) (ci := 7) (v := .int x_places) (C := RX7) (T := TX7) (N := 18) hx hb hta ih_X7 hown hK hP 0 rfl rfl 0 (by decide) (hta _ hw_274) (fun _ h9 => h9) rfl dX7_placeOfPart_11 ?_
  refine vp_callSi (hk_runS (As := [.int (r1 + p2), .int x_places]) (rest := []) S0 mm_x_remainder (c_x_remainder l D cI cJ cZ cM (r1 + p2) x_places _ h) hw_381 hk_blR (hk_atR (hP.sub (ws' := ([] : va_W)) [] rfl) hK hN) ⟨rfl, rfl, Nat.le_of_ble_eq_true rfl, Nat.le_of_ble_eq_true rfl⟩ rfl hl.1 rfl (Nat.le_of_ble_eq_true rfl) dX7_placeOfPart_14 ⟨Nat.le_of_ble_eq_true rfl, Nat.le_of_ble_eq_true rfl⟩).run (fun r2 h => ?_)
  exact W.iret (v := r2) hx hb hr (fun t ht hW => ⟨_, rfl, h, ht⟩) (fun _ hq => by cases hq) dX7_placeOfPart_17
