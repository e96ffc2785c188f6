def wp_ks_makeAllOne   (post : ((Nat → Int32)) → Prop) : Prop := post (fun _ => 1)
theorem mm_ks_makeAllOne : hk_MV yX2_makeAllOne cX2_makeAllOne 1 none 0 := ⟨hw_253, hw_252, hw_3, hw_81, by decide +kernel⟩
set_option maxRecDepth 100000 in
set_option maxHeartbeats 4000000 in
theorem c_ks_makeAllOne (l : Launch) (D : va_G) (cI cJ cZ cM : ClassId) (h_ks : Nat) (a_ks : Nat → Nat) (h_fo : Nat) (a_fo : Nat → Nat) (sz : Nat) (ks_partCounts : Nat → Int32) (ks_states : Nat → Int64) (ks_latestRows : Nat → Int32) (ks_latestValues : Nat → Int64) (ks_moved : Int32) (fo_kinds : Nat → Int32) (fo_declared : Nat → Int32) (fo_count : Int32)  (post : ((Nat → Int32)) → Prop) (h : wp_ks_makeAllOne post) : Met l yX2_makeAllOne (hk_ws yX2_makeAllOne cX2_makeAllOne 1 none) (hk_rm 1 23) (va_Pc [.ref h_ks] (hk_PM D (hk_ty cI cJ cZ cM) sz ((wv_ks cI cJ cZ cM h_ks a_ks h_fo ks_partCounts ks_states ks_latestRows ks_latestValues ks_moved) ++ (wv_fo cI cJ cZ cM h_fo a_fo fo_kinds fo_declared fo_count)))) (va_Qv post (hk_B D (va_A ((wv_ks cI cJ cZ cM h_ks a_ks h_fo ks_partCounts ks_states ks_latestRows ks_latestValues ks_moved) ++ (wv_fo cI cJ cZ cM h_fo a_fo fo_kinds fo_declared fo_count)) sz) (fun (u : (Nat → Int32)) => (wv_ks cI cJ cZ cM h_ks a_ks h_fo u ks_states ks_latestRows ks_latestValues ks_moved) ++ (wv_fo cI cJ cZ cM h_fo a_fo fo_kinds fo_declared fo_count))) (va_A ((wv_ks cI cJ cZ cM h_ks a_ks h_fo ks_partCounts ks_states ks_latestRows ks_latestValues ks_moved) ++ (wv_fo cI cJ cZ cM h_fo a_fo fo_kinds fo_declared fo_count)) sz)) 0 0 (va_A ((wv_ks cI cJ cZ cM h_ks a_ks h_fo ks_partCounts ks_states ks_latestRows ks_latestValues ks_moved) ++ (wv_fo cI cJ cZ cM h_fo a_fo fo_kinds fo_declared fo_count)) sz) := by
  refine Met.ofW (cc := cX2_makeAllOne) (maxL := 1) (ret := none) (by decide) rfl ?_
  intro p e s m args below meth c s₁ B hml hv
  obtain ⟨rfl, hsz, hP, hK, hD0, hN⟩ := hv
  have hx := B.exec
  have hb := B.bytes
  have hr := B.returns
  have hts := atoms_spec (ws := hk_ws yX2_makeAllOne cX2_makeAllOne 1 none) B.pre
  have hta : ∀ w ∈ hk_all, w.before ([.ref h_ks] : List Value).toArray s = true := fun w hw => hts w (List.mem_cons_of_mem _ hw)
  have hown : s.vm.findClass RX2 = some m.cls := findClass_of_methodNamed B.named
  have hlocks := B.notSynchronized
  have S0 : CallFix p m c cX2_makeAllOne 1 s ([.ref h_ks] : List Value).toArray hk_all RX2 := ⟨hx, hb, hml, hown, hta⟩
  subst hsz
  have hD := hD0.self (sz := s.heap.size)
  generalize hAe : va_A ((wv_ks cI cJ cZ cM h_ks a_ks h_fo ks_partCounts ks_states ks_latestRows ks_latestValues ks_moved) ++ (wv_fo cI cJ cZ cM h_fo a_fo fo_kinds fo_declared fo_count)) s.heap.size = A at hD ⊢
  have hA : ∀ q : Nat, s.heap.size ≤ q → A q := fun q h => by rw [← hAe]; exact Or.inr h
  have hS : va_S A s.heap s.heap [] := va_S.rf
  have hl := lv_entry ([.ref h_ks]) (n := 1) (Nat.le_of_ble_eq_true rfl)
  rw [lg_entry_eq]
  generalize (lg_sl ([.ref h_ks]) ++ List.replicate (1 - (lg_sl ([.ref h_ks])).length) Slot.unset).toArray = ls at hl ⊢
  have hl : lv_has ls 1 [(0, .ref h_ks)] := hl
  unfold wp_ks_makeAllOne at h
  refine lv_aload_n hx hb dX2_makeAllOne_0 rfl (lv_at hl 0 rfl) ?_
  refine va_get (D := D) (ci := 2) (v := .ref (a_ks 1)) (C := RX2) (T := TX2) (N := 6) hx hb hta ih_X2 hown hK hP 0 rfl rfl 1 (by decide) (hta _ hw_126) (fun _ h9 => h9) rfl dX2_makeAllOne_1 ?_
  refine lv_iconst (v := 1) hx hb dX2_makeAllOne_4 (by decide) ?_
  refine hk_mv [1] (hk_runS (As := [.ref (a_ks 1), .int 1]) (rest := []) S0 mm_Arrays_fill_i (c_Arrays_fill_i l D cI cJ cZ cM (a_ks 1) 100 s.heap.size ks_partCounts 1 (by decide)) hw_254 hk_blM (hk_atM (hP.sub (ws' := [((a_ks 1), .inl (cI, 100, .inl ks_partCounts))]) [1] rfl) hK (hD.sub (ws' := [((a_ks 1), .inl (cI, 100, .inl ks_partCounts))]) [1] (by decide) rfl) hN) ⟨rfl, rfl, Nat.le_of_ble_eq_true rfl, Nat.le_of_ble_eq_true rfl⟩ rfl hl.1 rfl (Nat.le_of_ble_eq_true rfl) dX2_makeAllOne_5 ⟨Nat.le_of_ble_eq_true rfl, Nat.le_of_ble_eq_true rfl⟩) hP hD hS hA rfl (by decide) (fun _ => rfl) (fun w1 H locs ew1 hP hD hS => ?_)
  subst ew1
  have hP : va_P D vwCl ((wv_ks cI cJ cZ cM h_ks a_ks h_fo (fun _ => 1) ks_states ks_latestRows ks_latestValues ks_moved) ++ (wv_fo cI cJ cZ cM h_fo a_fo fo_kinds fo_declared fo_count)) H := hP
  have hD : va_D A ((wv_ks cI cJ cZ cM h_ks a_ks h_fo (fun _ => 1) ks_states ks_latestRows ks_latestValues ks_moved) ++ (wv_fo cI cJ cZ cM h_fo a_fo fo_kinds fo_declared fo_count)) := hD
  exact W.vret hx hb hr (fun t ht hW => ⟨⟨fun _ => 1, rfl, h, by rw [ht]; exact hP, hD⟩, hS.F ht⟩) hS.2.2 dX2_makeAllOne_8
def wp_ks_forgetAll   (post : ((Nat → Int32) × (Nat → Int32) × (Nat → Int64) × Int32) → Prop) : Prop := wp_ks_makeAllOne (fun (w1 : (Nat → Int32)) => post (w1, fun _ => (-1), fun _ => (-4000000000000), 0))
theorem mm_ks_forgetAll : hk_MV yX2_forgetAll cX2_forgetAll 1 none 0 := ⟨hw_249, hw_248, hw_2, hw_81, by decide +kernel⟩
set_option maxRecDepth 100000 in
set_option maxHeartbeats 4000000 in
theorem c_ks_forgetAll (l : Launch) (D : va_G) (cI cJ cZ cM : ClassId) (h_ks : Nat) (a_ks : Nat → Nat) (h_fo : Nat) (a_fo : Nat → Nat) (sz : Nat) (ks_partCounts : Nat → Int32) (ks_states : Nat → Int64) (ks_latestRows : Nat → Int32) (ks_latestValues : Nat → Int64) (ks_moved : Int32) (fo_kinds : Nat → Int32) (fo_declared : Nat → Int32) (fo_count : Int32)  (post : ((Nat → Int32) × (Nat → Int32) × (Nat → Int64) × Int32) → Prop) (h : wp_ks_forgetAll post) : Met l yX2_forgetAll (hk_ws yX2_forgetAll cX2_forgetAll 1 none) (hk_rm 2 43) (va_Pc [.ref h_ks] (hk_PM D (hk_ty cI cJ cZ cM) sz ((wv_ks cI cJ cZ cM h_ks a_ks h_fo ks_partCounts ks_states ks_latestRows ks_latestValues ks_moved) ++ (wv_fo cI cJ cZ cM h_fo a_fo fo_kinds fo_declared fo_count)))) (va_Qv post (hk_B D (va_A ((wv_ks cI cJ cZ cM h_ks a_ks h_fo ks_partCounts ks_states ks_latestRows ks_latestValues ks_moved) ++ (wv_fo cI cJ cZ cM h_fo a_fo fo_kinds fo_declared fo_count)) sz) (fun (u : (Nat → Int32) × (Nat → Int32) × (Nat → Int64) × Int32) => (wv_ks cI cJ cZ cM h_ks a_ks h_fo u.1 ks_states u.2.1 u.2.2.1 u.2.2.2) ++ (wv_fo cI cJ cZ cM h_fo a_fo fo_kinds fo_declared fo_count))) (va_A ((wv_ks cI cJ cZ cM h_ks a_ks h_fo ks_partCounts ks_states ks_latestRows ks_latestValues ks_moved) ++ (wv_fo cI cJ cZ cM h_fo a_fo fo_kinds fo_declared fo_count)) sz)) 0 0 (va_A ((wv_ks cI cJ cZ cM h_ks a_ks h_fo ks_partCounts ks_states ks_latestRows ks_latestValues ks_moved) ++ (wv_fo cI cJ cZ cM h_fo a_fo fo_kinds fo_declared fo_count)) sz) := by
  refine Met.ofW (cc := cX2_forgetAll) (maxL := 1) (ret := none) (by decide) rfl ?_
  intro p e s m args below meth c s₁ B hml hv
  obtain ⟨rfl, hsz, hP, hK, hD0, hN⟩ := hv
  have hx := B.exec
  have hb := B.bytes
  have hr := B.returns
  have hts := atoms_spec (ws := hk_ws yX2_forgetAll cX2_forgetAll 1 none) B.pre
  have hta : ∀ w ∈ hk_all, w.before ([.ref h_ks] : List Value).toArray s = true := fun w hw => hts w (List.mem_cons_of_mem _ hw)
  have hown : s.vm.findClass RX2 = some m.cls := findClass_of_methodNamed B.named
  have hlocks := B.notSynchronized
  have S0 : CallFix p m c cX2_forgetAll 1 s ([.ref h_ks] : List Value).toArray hk_all RX2 := ⟨hx, hb, hml, hown, hta⟩
  subst hsz
  have hD := hD0.self (sz := s.heap.size)
  generalize hAe : va_A ((wv_ks cI cJ cZ cM h_ks a_ks h_fo ks_partCounts ks_states ks_latestRows ks_latestValues ks_moved) ++ (wv_fo cI cJ cZ cM h_fo a_fo fo_kinds fo_declared fo_count)) s.heap.size = A at hD ⊢
  have hA : ∀ q : Nat, s.heap.size ≤ q → A q := fun q h => by rw [← hAe]; exact Or.inr h
  have hS : va_S A s.heap s.heap [] := va_S.rf
  have hl := lv_entry ([.ref h_ks]) (n := 1) (Nat.le_of_ble_eq_true rfl)
  rw [lg_entry_eq]
  generalize (lg_sl ([.ref h_ks]) ++ List.replicate (1 - (lg_sl ([.ref h_ks])).length) Slot.unset).toArray = ls at hl ⊢
  have hl : lv_has ls 1 [(0, .ref h_ks)] := hl
  unfold wp_ks_forgetAll at h
  refine lv_aload_n hx hb dX2_forgetAll_0 rfl (lv_at hl 0 rfl) ?_
  refine hk_wv (hk_runV (As := []) (rest := []) S0 mm_ks_makeAllOne (c_ks_makeAllOne l D cI cJ cZ cM h_ks a_ks h_fo a_fo s.heap.size ks_partCounts ks_states ks_latestRows ks_latestValues ks_moved fo_kinds fo_declared fo_count _ h) hw_250 hk_blM (hk_atM hP hK hD hN) (va_recv hK hP (ci := 2) (q0 := 0) rfl rfl) ⟨rfl, rfl, Nat.le_of_ble_eq_true rfl, Nat.le_of_ble_eq_true rfl⟩ rfl hl.1 rfl (Nat.le_of_ble_eq_true rfl) dX2_forgetAll_1 ⟨Nat.le_of_ble_eq_true rfl, Nat.le_of_ble_eq_true rfl⟩) hD hS hA (fun w1 H locs h hP hD hS => ?_)
  have hP : va_P D vwCl ((wv_ks cI cJ cZ cM h_ks a_ks h_fo w1 ks_states ks_latestRows ks_latestValues ks_moved) ++ (wv_fo cI cJ cZ cM h_fo a_fo fo_kinds fo_declared fo_count)) H := hP
  have hD : va_D A ((wv_ks cI cJ cZ cM h_ks a_ks h_fo w1 ks_states ks_latestRows ks_latestValues ks_moved) ++ (wv_fo cI cJ cZ cM h_fo a_fo fo_kinds fo_declared fo_count)) := hD
  refine lv_aload_n hx hb dX2_forgetAll_4 rfl (lv_at hl 0 rfl) ?_
  refine va_get (D := D) (ci := 2) (v := .ref (a_ks 3)) (C := RX2) (T := TX2) (N := 6) hx hb hta ih_X2 hown hK hP 0 rfl rfl 3 (by decide) (hta _ hw_128) (fun _ h9 => h9) rfl dX2_forgetAll_5 ?_
  refine lv_iconst (v := (-1)) hx hb dX2_forgetAll_8 (by decide) ?_
  refine hk_mv [3] (hk_runS (As := [.ref (a_ks 3), .int (-1)]) (rest := []) S0 mm_Arrays_fill_i (c_Arrays_fill_i l D cI cJ cZ cM (a_ks 3) 800 H.size ks_latestRows (-1) (by decide)) hw_254 hk_blM (hk_atM (hP.sub (ws' := [((a_ks 3), .inl (cI, 800, .inl ks_latestRows))]) [3] rfl) hK (hD.sub (ws' := [((a_ks 3), .inl (cI, 800, .inl ks_latestRows))]) [3] (by decide) rfl) hN) ⟨rfl, rfl, Nat.le_of_ble_eq_true rfl, Nat.le_of_ble_eq_true rfl⟩ rfl hl.1 rfl (Nat.le_of_ble_eq_true rfl) dX2_forgetAll_9 ⟨Nat.le_of_ble_eq_true rfl, Nat.le_of_ble_eq_true rfl⟩) hP hD hS hA rfl (by decide) (fun _ => rfl) (fun w2 H locs ew2 hP hD hS => ?_)
  subst ew2
  have hP : va_P D vwCl ((wv_ks cI cJ cZ cM h_ks a_ks h_fo w1 ks_states (fun _ => (-1)) ks_latestValues ks_moved) ++ (wv_fo cI cJ cZ cM h_fo a_fo fo_kinds fo_declared fo_count)) H := hP
  have hD : va_D A ((wv_ks cI cJ cZ cM h_ks a_ks h_fo w1 ks_states (fun _ => (-1)) ks_latestValues ks_moved) ++ (wv_fo cI cJ cZ cM h_fo a_fo fo_kinds fo_declared fo_count)) := hD
  refine lv_aload_n hx hb dX2_forgetAll_12 rfl (lv_at hl 0 rfl) ?_
  refine va_get (D := D) (ci := 2) (v := .ref (a_ks 4)) (C := RX2) (T := TX2) (N := 6) hx hb hta ih_X2 hown hK hP 0 rfl rfl 4 (by decide) (hta _ hw_129) (fun _ h9 => h9) rfl dX2_forgetAll_13 ?_
  refine lv_ldc2 (v := (-4000000000000)) hx hb hown (hta _ hw_257) dX2_forgetAll_16 ?_
  refine hk_mv [4] (hk_runS (As := [.ref (a_ks 4), .long (-4000000000000)]) (rest := []) S0 mm_Arrays_fill_l (c_Arrays_fill_l l D cI cJ cZ cM (a_ks 4) 100 H.size ks_latestValues (-4000000000000) (by decide)) hw_258 hk_blM (hk_atM (hP.sub (ws' := [((a_ks 4), .inl (cJ, 100, .inr (.inl ks_latestValues)))]) [4] rfl) hK (hD.sub (ws' := [((a_ks 4), .inl (cJ, 100, .inr (.inl ks_latestValues)))]) [4] (by decide) rfl) hN) ⟨rfl, rfl, Nat.le_of_ble_eq_true rfl, Nat.le_of_ble_eq_true rfl⟩ rfl hl.1 rfl (Nat.le_of_ble_eq_true rfl) dX2_forgetAll_19 ⟨Nat.le_of_ble_eq_true rfl, Nat.le_of_ble_eq_true rfl⟩) hP hD hS hA rfl (by decide) (fun _ => rfl) (fun w3 H locs ew3 hP hD hS => ?_)
  subst ew3
  have hP : va_P D vwCl ((wv_ks cI cJ cZ cM h_ks a_ks h_fo w1 ks_states (fun _ => (-1)) (fun _ => (-4000000000000)) ks_moved) ++ (wv_fo cI cJ cZ cM h_fo a_fo fo_kinds fo_declared fo_count)) H := hP
  have hD : va_D A ((wv_ks cI cJ cZ cM h_ks a_ks h_fo w1 ks_states (fun _ => (-1)) (fun _ => (-4000000000000)) ks_moved) ++ (wv_fo cI cJ cZ cM h_fo a_fo fo_kinds fo_declared fo_count)) := hD
  refine lv_aload_n hx hb dX2_forgetAll_22 rfl (lv_at hl 0 rfl) ?_
  refine lv_iconst (v := 0) hx hb dX2_forgetAll_23 (by decide) ?_
  refine va_put (D := D) (ci := 2) (v := .int 0) (ty := .int) (C := RX2) (T := TX2) (N := 6) hx hb hta ih_X2 tyX2 tyX2_ok nmX2 hown hK hP hD hS 0 rfl rfl 5 (by decide) (hta _ hw_130) (fun _ h9 => h9) rfl (by decide +kernel) rfl rfl (Nat.le_of_ble_eq_true rfl) dX2_forgetAll_24 (fun H locs hP hD hS => ?_)
  have hP : va_P D vwCl ((wv_ks cI cJ cZ cM h_ks a_ks h_fo w1 ks_states (fun _ => (-1)) (fun _ => (-4000000000000)) 0) ++ (wv_fo cI cJ cZ cM h_fo a_fo fo_kinds fo_declared fo_count)) H := hP
  have hD : va_D A ((wv_ks cI cJ cZ cM h_ks a_ks h_fo w1 ks_states (fun _ => (-1)) (fun _ => (-4000000000000)) 0) ++ (wv_fo cI cJ cZ cM h_fo a_fo fo_kinds fo_declared fo_count)) := hD
  exact W.vret hx hb hr (fun t ht hW => ⟨⟨(w1, fun _ => (-1), fun _ => (-4000000000000), 0), rfl, h, by rw [ht]; exact hP, hD⟩, hS.F ht⟩) hS.2.2 dX2_forgetAll_27
def wp_ks_slot (p1 : Int32) (p2 : Int32)  (post : Int32 → Prop) : Prop := post ((p1 * 8) + p2)
theorem mm_ks_slot : hk_MS yX2_slot cX2_slot 2 (some .int) 2 := ⟨hw_404, hw_403, hw_81, by decide +kernel⟩
set_option maxRecDepth 100000 in
set_option maxHeartbeats 4000000 in
theorem c_ks_slot (l : Launch) (D : va_G) (cI cJ cZ cM : ClassId)    (p1 : Int32) (p2 : Int32) (post : Int32 → Prop) (h : wp_ks_slot p1 p2 post) : Met l yX2_slot (hk_ws yX2_slot cX2_slot 2 (some .int)) (hk_rm 0 0) (va_Pc [.int p1, .int p2] (hk_PR D (hk_ty cI cJ cZ cM) (([] : va_W)))) (vp_Si post) 0 0 (fun _ => False) := by
  refine Met.ofW (cc := cX2_slot) (maxL := 2) (ret := (some .int)) (by decide) rfl ?_
  intro p e s m args below meth c s₁ B hml hv
  obtain ⟨rfl, hP, hK, hN⟩ := hv
  have hx := B.exec
  have hb := B.bytes
  have hr := B.returns
  have hts := atoms_spec (ws := hk_ws yX2_slot cX2_slot 2 (some .int)) B.pre
  have hta : ∀ w ∈ hk_all, w.before ([.int p1, .int p2] : List Value).toArray s = true := fun w hw => hts w (List.mem_cons_of_mem _ hw)
  have hown : s.vm.findClass RX2 = some m.cls := findClass_of_methodNamed B.named
  have hlocks := B.notSynchronized
  have S0 : CallFix p m c cX2_slot 2 s ([.int p1, .int p2] : List Value).toArray hk_all RX2 := ⟨hx, hb, hml, hown, hta⟩
  have hl := lv_entry ([.int p1, .int p2]) (n := 2) (Nat.le_of_ble_eq_true rfl)
  rw [lg_entry_eq]
  generalize (lg_sl ([.int p1, .int p2]) ++ List.replicate (2 - (lg_sl ([.int p1, .int p2])).length) Slot.unset).toArray = ls at hl ⊢
  have hl : lv_has ls 2 [(0, .int p1), (1, .int p2)] := hl
  unfold wp_ks_slot at h
  refine lv_iload_n hx hb dX2_slot_0 rfl (lv_at hl 0 rfl) ?_
  refine lv_bipush (v := 8) hx hb dX2_slot_1 (by decide) ?_
  refine lv_imul hx hb dX2_slot_3 ?_
  refine lv_iload_n hx hb dX2_slot_4 rfl (lv_at hl 1 rfl) ?_
  refine lv_iadd hx hb dX2_slot_5 ?_
  exact W.iret (v := (p1 * 8) + p2) hx hb hr (fun t ht hW => ⟨_, rfl, h, ht⟩) (fun _ hq => by cases hq) dX2_slot_6
def wp_ks_cell (p1 : Int32) (p2 : Int32) (p3 : Int32)  (post : Int32 → Prop) : Prop := post ((((p1 * 8) + p2) * 6) + p3)
theorem mm_ks_cell : hk_MS yX2_cell cX2_cell 3 (some .int) 3 := ⟨hw_359, hw_358, hw_81, by decide +kernel⟩
set_option maxRecDepth 100000 in
set_option maxHeartbeats 4000000 in
theorem c_ks_cell (l : Launch) (D : va_G) (cI cJ cZ cM : ClassId)    (p1 : Int32) (p2 : Int32) (p3 : Int32) (post : Int32 → Prop) (h : wp_ks_cell p1 p2 p3 post) : Met l yX2_cell (hk_ws yX2_cell cX2_cell 3 (some .int)) (hk_rm 0 0) (va_Pc [.int p1, .int p2, .int p3] (hk_PR D (hk_ty cI cJ cZ cM) (([] : va_W)))) (vp_Si post) 0 0 (fun _ => False) := by
  refine Met.ofW (cc := cX2_cell) (maxL := 3) (ret := (some .int)) (by decide) rfl ?_
  intro p e s m args below meth c s₁ B hml hv
  obtain ⟨rfl, hP, hK, hN⟩ := hv
  have hx := B.exec
  have hb := B.bytes
  have hr := B.returns
  have hts := atoms_spec (ws := hk_ws yX2_cell cX2_cell 3 (some .int)) B.pre
  have hta : ∀ w ∈ hk_all, w.before ([.int p1, .int p2, .int p3] : List Value).toArray s = true := fun w hw => hts w (List.mem_cons_of_mem _ hw)
  have hown : s.vm.findClass RX2 = some m.cls := findClass_of_methodNamed B.named
  have hlocks := B.notSynchronized
  have S0 : CallFix p m c cX2_cell 3 s ([.int p1, .int p2, .int p3] : List Value).toArray hk_all RX2 := ⟨hx, hb, hml, hown, hta⟩
  have hl := lv_entry ([.int p1, .int p2, .int p3]) (n := 3) (Nat.le_of_ble_eq_true rfl)
  rw [lg_entry_eq]
  generalize (lg_sl ([.int p1, .int p2, .int p3]) ++ List.replicate (3 - (lg_sl ([.int p1, .int p2, .int p3])).length) Slot.unset).toArray = ls at hl ⊢
  have hl : lv_has ls 3 [(0, .int p1), (1, .int p2), (2, .int p3)] := hl
  unfold wp_ks_cell at h
  refine lv_iload_n hx hb dX2_cell_0 rfl (lv_at hl 0 rfl) ?_
  refine lv_bipush (v := 8) hx hb dX2_cell_1 (by decide) ?_
  refine lv_imul hx hb dX2_cell_3 ?_
  refine lv_iload_n hx hb dX2_cell_4 rfl (lv_at hl 1 rfl) ?_
  refine lv_iadd hx hb dX2_cell_5 ?_
  refine lv_bipush (v := 6) hx hb dX2_cell_6 (by decide) ?_
  refine lv_imul hx hb dX2_cell_8 ?_
  refine lv_iload_n hx hb dX2_cell_9 rfl (lv_at hl 2 rfl) ?_
  refine lv_iadd hx hb dX2_cell_10 ?_
  exact W.iret (v := (((p1 * 8) + p2) * 6) + p3) hx hb hr (fun t ht hW => ⟨_, rfl, h, ht⟩) (fun _ hq => by cases hq) dX2_cell_11
def wb_ks_startFold_2 (fo_kinds : Nat → Int32) (p1 : Int32) (post : ((Nat → Int64)) → Prop) (K2 : (Int32 × (Nat → Int64)) → Prop) (v1 : Int32 × (Nat → Int64)) : Prop := (100 ≤ v1.1 → post v1.2) ∧ (¬ 100 ≤ v1.1 → wp_ks_cell v1.1 0 p1 (fun (r3 : Int32) => wp_fo_emptyState p1 fo_kinds (fun (r4 : Int64) => vp_in r3 4800 ∧ (∀ x5 : Int32, x5 = v1.1 + 1 → K2 (x5, vp_updL v1.2 r3.toNatClampNeg r4)))))
def wp_ks_startFold (p1 : Int32) (ks_states : Nat → Int64) (fo_kinds : Nat → Int32) (post : ((Nat → Int64)) → Prop) : Prop := ∃ n, hk_lp (wb_ks_startFold_2 fo_kinds p1 post) n (0, ks_states)
theorem mm_ks_startFold : hk_MV yX2_startFold cX2_startFold 3 none 1 := ⟨hw_356, hw_355, hw_10, hw_81, by decide +kernel⟩
set_option maxRecDepth 100000 in
set_option maxHeartbeats 4000000 in
theorem c_ks_startFold (l : Launch) (D : va_G) (cI cJ cZ cM : ClassId) (h_ks : Nat) (a_ks : Nat → Nat) (h_fo : Nat) (a_fo : Nat → Nat) (sz : Nat) (ks_partCounts : Nat → Int32) (ks_states : Nat → Int64) (ks_latestRows : Nat → Int32) (ks_latestValues : Nat → Int64) (ks_moved : Int32) (fo_kinds : Nat → Int32) (fo_declared : Nat → Int32) (fo_count : Int32) (p1 : Int32) (post : ((Nat → Int64)) → Prop) (h : wp_ks_startFold p1 ks_states fo_kinds post) : Met l yX2_startFold (hk_ws yX2_startFold cX2_startFold 3 none) (hk_rm 1 22) (va_Pc [.ref h_ks, .int p1] (hk_PM D (hk_ty cI cJ cZ cM) sz ((wv_ks cI cJ cZ cM h_ks a_ks h_fo ks_partCounts ks_states ks_latestRows ks_latestValues ks_moved) ++ (wv_fo cI cJ cZ cM h_fo a_fo fo_kinds fo_declared fo_count)))) (va_Qv post (hk_B D (va_A ((wv_ks cI cJ cZ cM h_ks a_ks h_fo ks_partCounts ks_states ks_latestRows ks_latestValues ks_moved) ++ (wv_fo cI cJ cZ cM h_fo a_fo fo_kinds fo_declared fo_count)) sz) (fun (u : (Nat → Int64)) => (wv_ks cI cJ cZ cM h_ks a_ks h_fo ks_partCounts u ks_latestRows ks_latestValues ks_moved) ++ (wv_fo cI cJ cZ cM h_fo a_fo fo_kinds fo_declared fo_count))) (va_A ((wv_ks cI cJ cZ cM h_ks a_ks h_fo ks_partCounts ks_states ks_latestRows ks_latestValues ks_moved) ++ (wv_fo cI cJ cZ cM h_fo a_fo fo_kinds fo_declared fo_count)) sz)) 0 0 (va_A ((wv_ks cI cJ cZ cM h_ks a_ks h_fo ks_partCounts ks_states ks_latestRows ks_latestValues ks_moved) ++ (wv_fo cI cJ cZ cM h_fo a_fo fo_kinds fo_declared fo_count)) sz) := by
  refine Met.ofW (cc := cX2_startFold) (maxL := 3) (ret := none) (by decide) rfl ?_
  intro p e s m args below meth c s₁ B hml hv
  obtain ⟨rfl, hsz, hP, hK, hD0, hN⟩ := hv
  have hx := B.exec
  have hb := B.bytes
  have hr := B.returns
  have hts := atoms_spec (ws := hk_ws yX2_startFold cX2_startFold 3 none) B.pre
  have hta : ∀ w ∈ hk_all, w.before ([.ref h_ks, .int p1] : List Value).toArray s = true := fun w hw => hts w (List.mem_cons_of_mem _ hw)
  have hown : s.vm.findClass RX2 = some m.cls := findClass_of_methodNamed B.named
  have hlocks := B.notSynchronized
  have S0 : CallFix p m c cX2_startFold 3 s ([.ref h_ks, .int p1] : List Value).toArray hk_all RX2 := ⟨hx, hb, hml, hown, hta⟩
  subst hsz
  have hD := hD0.self (sz := s.heap.size)
  generalize hAe : va_A ((wv_ks cI cJ cZ cM h_ks a_ks h_fo ks_partCounts ks_states ks_latestRows ks_latestValues ks_moved) ++ (wv_fo cI cJ cZ cM h_fo a_fo fo_kinds fo_declared fo_count)) s.heap.size = A at hD ⊢
  have hA : ∀ q : Nat, s.heap.size ≤ q → A q := fun q h => by rw [← hAe]; exact Or.inr h
  have hS : va_S A s.heap s.heap [] := va_S.rf
  have hl := lv_entry ([.ref h_ks, .int p1]) (n := 3) (Nat.le_of_ble_eq_true rfl)
  rw [lg_entry_eq]
  generalize (lg_sl ([.ref h_ks, .int p1]) ++ List.replicate (3 - (lg_sl ([.ref h_ks, .int p1])).length) Slot.unset).toArray = ls at hl ⊢
  have hl : lv_has ls 3 [(0, .ref h_ks), (1, .int p1)] := hl
  unfold wp_ks_startFold at h
  refine lv_iconst (v := 0) hx hb dX2_startFold_0 (by decide) ?_
  refine lv_istore_n (lv' := [(2, .int 0), (0, .ref h_ks), (1, .int p1)]) hx hb dX2_startFold_1 rfl hl (by decide) rfl (fun ls hl => ?_)
  have P2 : ∀ (n : Nat) (v1 : Int32 × (Nat → Int64)) (H : Heap) (locs : List Loc) (ls : Array Slot), va_P D vwCl ((wv_ks cI cJ cZ cM h_ks a_ks h_fo ks_partCounts v1.2 ks_latestRows ks_latestValues ks_moved) ++ (wv_fo cI cJ cZ cM h_fo a_fo fo_kinds fo_declared fo_count)) H → va_D A ((wv_ks cI cJ cZ cM h_ks a_ks h_fo ks_partCounts v1.2 ks_latestRows ks_latestValues ks_moved) ++ (wv_fo cI cJ cZ cM h_fo a_fo fo_kinds fo_declared fo_count)) → va_S A s.heap H locs → lv_has ls 3 [(0, .ref h_ks), (1, .int p1), (2, .int v1.1)] → hk_lp (wb_ks_startFold_2 fo_kinds p1 post) n v1 → W p l e (headSpec (hk_ws yX2_startFold cX2_startFold 3 none) (hk_rm 1 22)).room s m ([.ref h_ks, .int p1] : List Value).toArray below meth c H locs 0 0 (MQ below (va_Qv post (hk_B D (A) (fun (u : (Nat → Int64)) => (wv_ks cI cJ cZ cM h_ks a_ks h_fo ks_partCounts u ks_latestRows ks_latestValues ks_moved) ++ (wv_fo cI cJ cZ cM h_fo a_fo fo_kinds fo_declared fo_count))) (A)) ([.ref h_ks, .int p1] : List Value).toArray s 0 0 A) (F0 m 2 ls []) := by
    intro n
    induction n with
    | zero => intro v1 H locs ls hP hD hS hl h; exact False.elim h
    | succ n ih2 =>
      intro v1 H locs ls hP hD hS hl h
      have h : wb_ks_startFold_2 fo_kinds p1 post (hk_lp (wb_ks_startFold_2 fo_kinds p1 post) n) v1 := h
      generalize hk_lp (wb_ks_startFold_2 fo_kinds p1 post) n = K2 at h ih2
      unfold wb_ks_startFold_2 at h
      refine lv_iload_n hx hb dX2_startFold_2 rfl (lv_at hl 2 rfl) ?_
      refine lv_bipush (v := 100) hx hb dX2_startFold_3 (by decide) ?_
      refine lv_icmp_ge (tgt := 33) hx hb dX2_startFold_5 (by decide) (fun c2 => ?_) (fun c2 => ?_)
      · have h := h.1 c2
        exact W.vret hx hb hr (fun t ht hW => ⟨⟨v1.2, rfl, h, by rw [ht]; exact hP, hD⟩, hS.F ht⟩) hS.2.2 dX2_startFold_33
      · have h := h.2 c2
        refine lv_aload_n hx hb dX2_startFold_8 rfl (lv_at hl 0 rfl) ?_
        refine va_get (D := D) (ci := 2) (v := .ref (a_ks 2)) (C := RX2) (T := TX2) (N := 6) hx hb hta ih_X2 hown hK hP 0 rfl rfl 2 (by decide) (hta _ hw_127) (fun _ h9 => h9) rfl dX2_startFold_9 ?_
        refine lv_iload_n hx hb dX2_startFold_12 rfl (lv_at hl 2 rfl) ?_
        refine lv_iconst (v := 0) hx hb dX2_startFold_13 (by decide) ?_
        refine lv_iload_n hx hb dX2_startFold_14 rfl (lv_at hl 1 rfl) ?_
        refine vp_callSi (hk_runS (As := [.int v1.1, .int 0, .int p1]) (rest := [.ref (a_ks 2)]) S0 mm_ks_cell (c_ks_cell l D cI cJ cZ cM v1.1 0 p1 _ h) hw_357 hk_blR (hk_atR (hP.sub (ws' := ([] : va_W)) [] rfl) hK hN) ⟨rfl, rfl, Nat.le_of_ble_eq_true rfl, Nat.le_of_ble_eq_true rfl⟩ rfl hl.1 rfl (Nat.le_of_ble_eq_true rfl) dX2_startFold_15 ⟨Nat.le_of_ble_eq_true rfl, Nat.le_of_ble_eq_true rfl⟩).run (fun r3 h => ?_)
        refine lv_aload_n hx hb dX2_startFold_18 rfl (lv_at hl 0 rfl) ?_
        refine va_get (D := D) (ci := 2) (v := .ref h_fo) (C := RX2) (T := TX2) (N := 6) hx hb hta ih_X2 hown hK hP 0 rfl rfl 0 (by decide) (hta _ hw_125) (fun _ h9 => h9) rfl dX2_startFold_19 ?_
        refine lv_iload_n hx hb dX2_startFold_22 rfl (lv_at hl 1 rfl) ?_
        refine vp_callSl (hk_runVN (As := [.int p1]) (rest := [.int r3, .ref (a_ks 2)]) S0 mm_fo_emptyState (c_fo_emptyState l D cI cJ cZ cM h_fo a_fo fo_kinds fo_declared fo_count p1 _ h) (hN.1 _ hn_360) hk_blR (hk_atR (hP.sub (ws' := wv_fo cI cJ cZ cM h_fo a_fo fo_kinds fo_declared fo_count) [5, 6, 7] rfl) hK hN) (va_recv hK hP (ci := 1) (q0 := 5) rfl rfl) ⟨rfl, rfl, Nat.le_of_ble_eq_true rfl, Nat.le_of_ble_eq_true rfl⟩ rfl hl.1 rfl (Nat.le_of_ble_eq_true rfl) dX2_startFold_23 ⟨Nat.le_of_ble_eq_true rfl, Nat.le_of_ble_eq_true rfl⟩).run (fun r4 h => ?_)
        refine va_last hx hb hK hP hD hS 2 1 rfl rfl h.1 dX2_startFold_26 (fun H locs hP hD hS => ?_)
        have h := h.2
        have hP : va_P D vwCl ((wv_ks cI cJ cZ cM h_ks a_ks h_fo ks_partCounts (vp_updL v1.2 r3.toNatClampNeg r4) ks_latestRows ks_latestValues ks_moved) ++ (wv_fo cI cJ cZ cM h_fo a_fo fo_kinds fo_declared fo_count)) H := hP
        have hD : va_D A ((wv_ks cI cJ cZ cM h_ks a_ks h_fo ks_partCounts (vp_updL v1.2 r3.toNatClampNeg r4) ks_latestRows ks_latestValues ks_moved) ++ (wv_fo cI cJ cZ cM h_fo a_fo fo_kinds fo_declared fo_count)) := hD
        obtain ⟨x5, ex5⟩ : ∃ y : Int32, y = v1.1 + 1 := ⟨_, rfl⟩
        have h := h x5 ex5
        refine lv_iinc (v := x5) (lv' := [(2, .int x5), (0, .ref h_ks), (1, .int p1)]) hx hb dX2_startFold_27 hl (k := 2) rfl (by rw [ex5]; rfl) (by decide) rfl (fun ls hl => ?_)
        refine lv_goto (tgt := 2) hx hb dX2_startFold_30 (by decide) ?_
        exact ih2 (x5, vp_updL v1.2 r3.toNatClampNeg r4) H locs ls hP hD hS (lv_sub hl [1, 2, 0] rfl) h
  obtain ⟨n, h⟩ := h
  exact P2 n (0, ks_states) s.heap [] ls hP hD hS (lv_sub hl [1, 2, 0] rfl) h
def wp_ks_partCount (p1 : Int32) (ks_partCounts : Nat → Int32) (post : Int32 → Prop) : Prop := vp_in p1 100 ∧ (post (ks_partCounts p1.toNatClampNeg))
theorem mm_ks_partCount : hk_MV yX2_partCount cX2_partCount 2 (some .int) 1 := ⟨hw_376, hw_375, hw_12, hw_81, by decide +kernel⟩
set_option maxRecDepth 100000 in
set_option maxHeartbeats 4000000 in
theorem c_ks_partCount (l : Launch) (D : va_G) (cI cJ cZ cM : ClassId) (h_ks : Nat) (a_ks : Nat → Nat) (h_fo : Nat) (a_fo : Nat → Nat)  (ks_partCounts : Nat → Int32) (ks_states : Nat → Int64) (ks_latestRows : Nat → Int32) (ks_latestValues : Nat → Int64) (ks_moved : Int32) (fo_kinds : Nat → Int32) (fo_declared : Nat → Int32) (fo_count : Int32) (p1 : Int32) (post : Int32 → Prop) (h : wp_ks_partCount p1 ks_partCounts post) : Met l yX2_partCount (hk_ws yX2_partCount cX2_partCount 2 (some .int)) (hk_rm 0 0) (va_Pc [.ref h_ks, .int p1] (hk_PR D (hk_ty cI cJ cZ cM) ((wv_ks cI cJ cZ cM h_ks a_ks h_fo ks_partCounts ks_states ks_latestRows ks_latestValues ks_moved) ++ (wv_fo cI cJ cZ cM h_fo a_fo fo_kinds fo_declared fo_count)))) (vp_Si post) 0 0 (fun _ => False) := by
  refine Met.ofW (cc := cX2_partCount) (maxL := 2) (ret := (some .int)) (by decide) rfl ?_
  intro p e s m args below meth c s₁ B hml hv
  obtain ⟨rfl, hP, hK, hN⟩ := hv
  have hx := B.exec
  have hb := B.bytes
  have hr := B.returns
  have hts := atoms_spec (ws := hk_ws yX2_partCount cX2_partCount 2 (some .int)) B.pre
  have hta : ∀ w ∈ hk_all, w.before ([.ref h_ks, .int p1] : List Value).toArray s = true := fun w hw => hts w (List.mem_cons_of_mem _ hw)
  have hown : s.vm.findClass RX2 = some m.cls := findClass_of_methodNamed B.named
  have hlocks := B.notSynchronized
  have S0 : CallFix p m c cX2_partCount 2 s ([.ref h_ks, .int p1] : List Value).toArray hk_all RX2 := ⟨hx, hb, hml, hown, hta⟩
  have hl := lv_entry ([.ref h_ks, .int p1]) (n := 2) (Nat.le_of_ble_eq_true rfl)
  rw [lg_entry_eq]
  generalize (lg_sl ([.ref h_ks, .int p1]) ++ List.replicate (2 - (lg_sl ([.ref h_ks, .int p1])).length) Slot.unset).toArray = ls at hl ⊢
  have hl : lv_has ls 2 [(0, .ref h_ks), (1, .int p1)] := hl
  unfold wp_ks_partCount at h
  refine lv_aload_n hx hb dX2_partCount_0 rfl (lv_at hl 0 rfl) ?_
  refine va_get (D := D) (ci := 2) (v := .ref (a_ks 1)) (C := RX2) (T := TX2) (N := 6) hx hb hta ih_X2 hown hK hP 0 rfl rfl 1 (by decide) (hta _ hw_126) (fun _ h9 => h9) rfl dX2_partCount_1 ?_
  refine lv_iload_n hx hb dX2_partCount_4 rfl (lv_at hl 1 rfl) ?_
  refine va_iald hx hb hK hP 1 0 rfl rfl h.1 dX2_partCount_5 ?_
  have h := h.2
  exact W.iret (v := ks_partCounts p1.toNatClampNeg) hx hb hr (fun t ht hW => ⟨_, rfl, h, ht⟩) (fun _ hq => by cases hq) dX2_partCount_6
def wp_ks_hasPart (p1 : Int32) (p2 : Int32) (ks_partCounts : Nat → Int32) (post : Int32 → Prop) : Prop := vp_in p1 100 ∧ (wp_x_isWithin p2 0 ((ks_partCounts p1.toNatClampNeg) - 1) (fun (r1 : Int32) => (r1 = 0 ∨ r1 = 1) ∧ post r1))
theorem mm_ks_hasPart : hk_MV yX2_hasPart cX2_hasPart 3 (some .boolean) 2 := ⟨hw_513, hw_512, hw_37, hw_81, by decide +kernel⟩
set_option maxRecDepth 100000 in
set_option maxHeartbeats 4000000 in
theorem c_ks_hasPart (l : Launch) (D : va_G) (cI cJ cZ cM : ClassId) (h_ks : Nat) (a_ks : Nat → Nat) (h_fo : Nat) (a_fo : Nat → Nat)  (ks_partCounts : Nat → Int32) (ks_states : Nat → Int64) (ks_latestRows : Nat → Int32) (ks_latestValues : Nat → Int64) (ks_moved : Int32) (fo_kinds : Nat → Int32) (fo_declared : Nat → Int32) (fo_count : Int32) (p1 : Int32) (p2 : Int32) (post : Int32 → Prop) (h : wp_ks_hasPart p1 p2 ks_partCounts post) : Met l yX2_hasPart (hk_ws yX2_hasPart cX2_hasPart 3 (some .boolean)) (hk_rm 1 22) (va_Pc [.ref h_ks, .int p1, .int p2] (hk_PR D (hk_ty cI cJ cZ cM) ((wv_ks cI cJ cZ cM h_ks a_ks h_fo ks_partCounts ks_states ks_latestRows ks_latestValues ks_moved) ++ (wv_fo cI cJ cZ cM h_fo a_fo fo_kinds fo_declared fo_count)))) (vp_Si post) 0 0 (fun _ => False) := by
  refine Met.ofW (cc := cX2_hasPart) (maxL := 3) (ret := (some .boolean)) (by decide) rfl ?_
  intro p e s m args below meth c s₁ B hml hv
  obtain ⟨rfl, hP, hK, hN⟩ := hv
  have hx := B.exec
  have hb := B.bytes
  have hr := B.returns
  have hts := atoms_spec (ws := hk_ws yX2_hasPart cX2_hasPart 3 (some .boolean)) B.pre
  have hta : ∀ w ∈ hk_all, w.before ([.ref h_ks, .int p1, .int p2] : List Value).toArray s = true := fun w hw => hts w (List.mem_cons_of_mem _ hw)
  have hown : s.vm.findClass RX2 = some m.cls := findClass_of_methodNamed B.named
  have hlocks := B.notSynchronized
  have S0 : CallFix p m c cX2_hasPart 3 s ([.ref h_ks, .int p1, .int p2] : List Value).toArray hk_all RX2 := ⟨hx, hb, hml, hown, hta⟩
  have hl := lv_entry ([.ref h_ks, .int p1, .int p2]) (n := 3) (Nat.le_of_ble_eq_true rfl)
  rw [lg_entry_eq]
  generalize (lg_sl ([.ref h_ks, .int p1, .int p2]) ++ List.replicate (3 - (lg_sl ([.ref h_ks, .int p1, .int p2])).length) Slot.unset).toArray = ls at hl ⊢
  have hl : lv_has ls 3 [(0, .ref h_ks), (1, .int p1), (2, .int p2)] := hl
  unfold wp_ks_hasPart at h
  refine lv_iload_n hx hb dX2_hasPart_0 rfl (lv_at hl 2 rfl) ?_
  refine lv_iconst (v := 0) hx hb dX2_hasPart_1 (by decide) ?_
  refine lv_aload_n hx hb dX2_hasPart_2 rfl (lv_at hl 0 rfl) ?_
  refine va_get (D := D) (ci := 2) (v := .ref (a_ks 1)) (C := RX2) (T := TX2) (N := 6) hx hb hta ih_X2 hown hK hP 0 rfl rfl 1 (by decide) (hta _ hw_126) (fun _ h9 => h9) rfl dX2_hasPart_3 ?_
  refine lv_iload_n hx hb dX2_hasPart_6 rfl (lv_at hl 1 rfl) ?_
  refine va_iald hx hb hK hP 1 0 rfl rfl h.1 dX2_hasPart_7 ?_
  have h := h.2
  refine lv_iconst (v := 1) hx hb dX2_hasPart_8 (by decide) ?_
  refine lv_isub hx hb dX2_hasPart_9 ?_
  refine vp_callSi (hk_runSN (As := [.int p2, .int 0, .int ((ks_partCounts p1.toNatClampNeg) - 1)]) (rest := []) S0 mm_x_isWithin (c_x_isWithin l D cI cJ cZ cM p2 0 ((ks_partCounts p1.toNatClampNeg) - 1) _ h) (hN.1 _ hn_514) hk_blR (hk_atR (hP.sub (ws' := ([] : va_W)) [] rfl) hK hN) ⟨rfl, rfl, Nat.le_of_ble_eq_true rfl, Nat.le_of_ble_eq_true rfl⟩ rfl hl.1 rfl (Nat.le_of_ble_eq_true rfl) dX2_hasPart_10 ⟨Nat.le_of_ble_eq_true rfl, Nat.le_of_ble_eq_true rfl⟩).run (fun r1 h => ?_)
  exact W.zret (ty := .boolean) (v := r1) hx hb hr (hk_nz h.1) (fun t ht hW => ⟨_, rfl, h.2, ht⟩) (fun _ hq => by cases hq) dX2_hasPart_13
def wp_ks_isSplit (p1 : Int32) (ks_partCounts : Nat → Int32) (post : Int32 → Prop) : Prop := vp_in p1 100 ∧ (((ks_partCounts p1.toNatClampNeg) ≤ 1 → post 0) ∧ (¬ (ks_partCounts p1.toNatClampNeg) ≤ 1 → post 1))
theorem mm_ks_isSplit : hk_MV yX2_isSplit cX2_isSplit 2 (some .boolean) 1 := ⟨hw_348, hw_347, hw_8, hw_81, by decide +kernel⟩
set_option maxRecDepth 100000 in
set_option maxHeartbeats 4000000 in
theorem c_ks_isSplit (l : Launch) (D : va_G) (cI cJ cZ cM : ClassId) (h_ks : Nat) (a_ks : Nat → Nat) (h_fo : Nat) (a_fo : Nat → Nat)  (ks_partCounts : Nat → Int32) (ks_states : Nat → Int64) (ks_latestRows : Nat → Int32) (ks_latestValues : Nat → Int64) (ks_moved : Int32) (fo_kinds : Nat → Int32) (fo_declared : Nat → Int32) (fo_count : Int32) (p1 : Int32) (post : Int32 → Prop) (h : wp_ks_isSplit p1 ks_partCounts post) : Met l yX2_isSplit (hk_ws yX2_isSplit cX2_isSplit 2 (some .boolean)) (hk_rm 0 0) (va_Pc [.ref h_ks, .int p1] (hk_PR D (hk_ty cI cJ cZ cM) ((wv_ks cI cJ cZ cM h_ks a_ks h_fo ks_partCounts ks_states ks_latestRows ks_latestValues ks_moved) ++ (wv_fo cI cJ cZ cM h_fo a_fo fo_kinds fo_declared fo_count)))) (vp_Si post) 0 0 (fun _ => False) := by
  refine Met.ofW (cc := cX2_isSplit) (maxL := 2) (ret := (some .boolean)) (by decide) rfl ?_
  intro p e s m args below meth c s₁ B hml hv
  obtain ⟨rfl, hP, hK, hN⟩ := hv
  have hx := B.exec
  have hb := B.bytes
  have hr := B.returns
  have hts := atoms_spec (ws := hk_ws yX2_isSplit cX2_isSplit 2 (some .boolean)) B.pre
  have hta : ∀ w ∈ hk_all, w.before ([.ref h_ks, .int p1] : List Value).toArray s = true := fun w hw => hts w (List.mem_cons_of_mem _ hw)
  have hown : s.vm.findClass RX2 = some m.cls := findClass_of_methodNamed B.named
  have hlocks := B.notSynchronized
  have S0 : CallFix p m c cX2_isSplit 2 s ([.ref h_ks, .int p1] : List Value).toArray hk_all RX2 := ⟨hx, hb, hml, hown, hta⟩
  have hl := lv_entry ([.ref h_ks, .int p1]) (n := 2) (Nat.le_of_ble_eq_true rfl)
  rw [lg_entry_eq]
  generalize (lg_sl ([.ref h_ks, .int p1]) ++ List.replicate (2 - (lg_sl ([.ref h_ks, .int p1])).length) Slot.unset).toArray = ls at hl ⊢
  have hl : lv_has ls 2 [(0, .ref h_ks), (1, .int p1)] := hl
  unfold wp_ks_isSplit at h
  refine lv_aload_n hx hb dX2_isSplit_0 rfl (lv_at hl 0 rfl) ?_
  refine va_get (D := D) (ci := 2) (v := .ref (a_ks 1)) (C := RX2) (T := TX2) (N := 6) hx hb hta ih_X2 hown hK hP 0 rfl rfl 1 (by decide) (hta _ hw_126) (fun _ h9 => h9) rfl dX2_isSplit_1 ?_
  refine lv_iload_n hx hb dX2_isSplit_4 rfl (lv_at hl 1 rfl) ?_
  refine va_iald hx hb hK hP 1 0 rfl rfl h.1 dX2_isSplit_5 ?_
  have h := h.2
  refine lv_iconst (v := 1) hx hb dX2_isSplit_6 (by decide) ?_
  refine lv_icmp_le (tgt := 14) hx hb dX2_isSplit_7 (by decide) (fun c1 => ?_) (fun c1 => ?_)
  · have h := h.1 c1
    refine lv_iconst (v := 0) hx hb dX2_isSplit_14 (by decide) ?_
    exact W.zret (ty := .boolean) (v := 0) hx hb hr rfl (fun t ht hW => ⟨_, rfl, h, ht⟩) (fun _ hq => by cases hq) dX2_isSplit_15
  · have h := h.2 c1
    refine lv_iconst (v := 1) hx hb dX2_isSplit_10 (by decide) ?_
    refine lv_goto (tgt := 15) hx hb dX2_isSplit_11 (by decide) ?_
    exact W.zret (ty := .boolean) (v := 1) hx hb hr rfl (fun t ht hW => ⟨_, rfl, h, ht⟩) (fun _ hq => by cases hq) dX2_isSplit_15
def wb_ks_splitKeys_4 (ks_partCounts : Nat → Int32) (post : Int32 → Prop) (K4 : (Int32 × Int32) → Prop) (v1 : Int32 × Int32) : Prop := (100 ≤ v1.2 → post v1.1) ∧ (¬ 100 ≤ v1.2 → wp_ks_isSplit v1.2 ks_partCounts (fun (r3 : Int32) => (r3 = 0 → ∀ x5 : Int32, x5 = v1.2 + 1 → K4 (v1.1, x5)) ∧ (¬ r3 = 0 → ∀ x6 : Int32, x6 = v1.1 + 1 → ∀ x7 : Int32, x7 = v1.2 + 1 → K4 (x6, x7))))
def wp_ks_splitKeys  (ks_partCounts : Nat → Int32) (post : Int32 → Prop) : Prop := ∃ n, hk_lp (wb_ks_splitKeys_4 ks_partCounts post) n (0, 0)
theorem mm_ks_splitKeys : hk_MV yX2_splitKeys cX2_splitKeys 3 (some .int) 0 := ⟨hw_344, hw_343, hw_7, hw_81, by decide +kernel⟩
set_option maxRecDepth 100000 in
set_option maxHeartbeats 4000000 in
theorem c_ks_splitKeys (l : Launch) (D : va_G) (cI cJ cZ cM : ClassId) (h_ks : Nat) (a_ks : Nat → Nat) (h_fo : Nat) (a_fo : Nat → Nat)  (ks_partCounts : Nat → Int32) (ks_states : Nat → Int64) (ks_latestRows : Nat → Int32) (ks_latestValues : Nat → Int64) (ks_moved : Int32) (fo_kinds : Nat → Int32) (fo_declared : Nat → Int32) (fo_count : Int32)  (post : Int32 → Prop) (h : wp_ks_splitKeys ks_partCounts post) : Met l yX2_splitKeys (hk_ws yX2_splitKeys cX2_splitKeys 3 (some .int)) (hk_rm 1 21) (va_Pc [.ref h_ks] (hk_PR D (hk_ty cI cJ cZ cM) ((wv_ks cI cJ cZ cM h_ks a_ks h_fo ks_partCounts ks_states ks_latestRows ks_latestValues ks_moved) ++ (wv_fo cI cJ cZ cM h_fo a_fo fo_kinds fo_declared fo_count)))) (vp_Si post) 0 0 (fun _ => False) := by
  refine Met.ofW (cc := cX2_splitKeys) (maxL := 3) (ret := (some .int)) (by decide) rfl ?_
  intro p e s m args below meth c s₁ B hml hv
  obtain ⟨rfl, hP, hK, hN⟩ := hv
  have hx := B.exec
  have hb := B.bytes
  have hr := B.returns
  have hts := atoms_spec (ws := hk_ws yX2_splitKeys cX2_splitKeys 3 (some .int)) B.pre
  have hta : ∀ w ∈ hk_all, w.before ([.ref h_ks] : List Value).toArray s = true := fun w hw => hts w (List.mem_cons_of_mem _ hw)
  have hown : s.vm.findClass RX2 = some m.cls := findClass_of_methodNamed B.named
  have hlocks := B.notSynchronized
  have S0 : CallFix p m c cX2_splitKeys 3 s ([.ref h_ks] : List Value).toArray hk_all RX2 := ⟨hx, hb, hml, hown, hta⟩
  have hl := lv_entry ([.ref h_ks]) (n := 3) (Nat.le_of_ble_eq_true rfl)
  rw [lg_entry_eq]
  generalize (lg_sl ([.ref h_ks]) ++ List.replicate (3 - (lg_sl ([.ref h_ks])).length) Slot.unset).toArray = ls at hl ⊢
  have hl : lv_has ls 3 [(0, .ref h_ks)] := hl
  unfold wp_ks_splitKeys at h
  refine lv_iconst (v := 0) hx hb dX2_splitKeys_0 (by decide) ?_
  refine lv_istore_n (lv' := [(1, .int 0), (0, .ref h_ks)]) hx hb dX2_splitKeys_1 rfl hl (by decide) rfl (fun ls hl => ?_)
  refine lv_iconst (v := 0) hx hb dX2_splitKeys_2 (by decide) ?_
  refine lv_istore_n (lv' := [(2, .int 0), (1, .int 0), (0, .ref h_ks)]) hx hb dX2_splitKeys_3 rfl hl (by decide) rfl (fun ls hl => ?_)
  have P4 : ∀ (n : Nat) (v1 : Int32 × Int32) (ls : Array Slot), lv_has ls 3 [(0, .ref h_ks), (1, .int v1.1), (2, .int v1.2)] → hk_lp (wb_ks_splitKeys_4 ks_partCounts post) n v1 → W p l e (headSpec (hk_ws yX2_splitKeys cX2_splitKeys 3 (some .int)) (hk_rm 1 21)).room s m ([.ref h_ks] : List Value).toArray below meth c s.heap [] 0 0 (MQ below (vp_Si post) ([.ref h_ks] : List Value).toArray s 0 0 (fun _ => False)) (F0 m 4 ls []) := by
    intro n
    induction n with
    | zero => intro v1 ls hl h; exact False.elim h
    | succ n ih4 =>
      intro v1 ls hl h
      have h : wb_ks_splitKeys_4 ks_partCounts post (hk_lp (wb_ks_splitKeys_4 ks_partCounts post) n) v1 := h
      generalize hk_lp (wb_ks_splitKeys_4 ks_partCounts post) n = K4 at h ih4
      unfold wb_ks_splitKeys_4 at h
      refine lv_iload_n hx hb dX2_splitKeys_4 rfl (lv_at hl 2 rfl) ?_
      refine lv_bipush (v := 100) hx hb dX2_splitKeys_5 (by decide) ?_
      refine lv_icmp_ge (tgt := 27) hx hb dX2_splitKeys_7 (by decide) (fun c2 => ?_) (fun c2 => ?_)
      · have h := h.1 c2
        refine lv_iload_n hx hb dX2_splitKeys_27 rfl (lv_at hl 1 rfl) ?_
        exact W.iret (v := v1.1) hx hb hr (fun t ht hW => ⟨_, rfl, h, ht⟩) (fun _ hq => by cases hq) dX2_splitKeys_28
      · have h := h.2 c2
        refine lv_aload_n hx hb dX2_splitKeys_10 rfl (lv_at hl 0 rfl) ?_
        refine lv_iload_n hx hb dX2_splitKeys_11 rfl (lv_at hl 2 rfl) ?_
        refine vp_callSi (hk_runV (As := [.int v1.2]) (rest := []) S0 mm_ks_isSplit (c_ks_isSplit l D cI cJ cZ cM h_ks a_ks h_fo a_fo ks_partCounts ks_states ks_latestRows ks_latestValues ks_moved fo_kinds fo_declared fo_count v1.2 _ h) hw_345 hk_blR (hk_atR hP hK hN) (va_recv hK hP (ci := 2) (q0 := 0) rfl rfl) ⟨rfl, rfl, Nat.le_of_ble_eq_true rfl, Nat.le_of_ble_eq_true rfl⟩ rfl hl.1 rfl (Nat.le_of_ble_eq_true rfl) dX2_splitKeys_12 ⟨Nat.le_of_ble_eq_true rfl, Nat.le_of_ble_eq_true rfl⟩).run (fun r3 h => ?_)
        refine lv_if_eq (tgt := 21) hx hb dX2_splitKeys_15 (by decide) (fun c4 => ?_) (fun c4 => ?_)
        · have h := h.1 c4
          obtain ⟨x5, ex5⟩ : ∃ y : Int32, y = v1.2 + 1 := ⟨_, rfl⟩
          have h := h x5 ex5
          refine lv_iinc (v := x5) (lv' := [(2, .int x5), (0, .ref h_ks), (1, .int v1.1)]) hx hb dX2_splitKeys_21 hl (k := 2) rfl (by rw [ex5]; rfl) (by decide) rfl (fun ls hl => ?_)
          refine lv_goto (tgt := 4) hx hb dX2_splitKeys_24 (by decide) ?_
          exact ih4 (v1.1, x5) ls (lv_sub hl [1, 2, 0] rfl) h
        · have h := h.2 c4
          obtain ⟨x6, ex6⟩ : ∃ y : Int32, y = v1.1 + 1 := ⟨_, rfl⟩
          have h := h x6 ex6
          refine lv_iinc (v := x6) (lv' := [(1, .int x6), (0, .ref h_ks), (2, .int v1.2)]) hx hb dX2_splitKeys_18 hl (k := 1) rfl (by rw [ex6]; rfl) (by decide) rfl (fun ls hl => ?_)
          obtain ⟨x7, ex7⟩ : ∃ y : Int32, y = v1.2 + 1 := ⟨_, rfl⟩
          have h := h x7 ex7
          refine lv_iinc (v := x7) (lv' := [(2, .int x7), (1, .int x6), (0, .ref h_ks)]) hx hb dX2_splitKeys_21 hl (k := 2) rfl (by rw [ex7]; rfl) (by decide) rfl (fun ls hl => ?_)
          refine lv_goto (tgt := 4) hx hb dX2_splitKeys_24 (by decide) ?_
          exact ih4 (x6, x7) ls (lv_sub hl [2, 1, 0] rfl) h
  obtain ⟨n, h⟩ := h
  exact P4 n (0, 0) ls (lv_sub hl [2, 1, 0] rfl) h
def wp_ks_partState (p1 : Int32) (p2 : Int32) (p3 : Int32) (ks_states : Nat → Int64) (post : Int64 → Prop) : Prop := wp_ks_cell p1 p2 p3 (fun (r1 : Int32) => vp_in r1 4800 ∧ (post (ks_states r1.toNatClampNeg)))
theorem mm_ks_partState : hk_MV yX2_partState cX2_partState 4 (some .long) 3 := ⟨hw_518, hw_517, hw_38, hw_81, by decide +kernel⟩
set_option maxRecDepth 100000 in
set_option maxHeartbeats 4000000 in
theorem c_ks_partState (l : Launch) (D : va_G) (cI cJ cZ cM : ClassId) (h_ks : Nat) (a_ks : Nat → Nat) (h_fo : Nat) (a_fo : Nat → Nat)  (ks_partCounts : Nat → Int32) (ks_states : Nat → Int64) (ks_latestRows : Nat → Int32) (ks_latestValues : Nat → Int64) (ks_moved : Int32) (fo_kinds : Nat → Int32) (fo_declared : Nat → Int32) (fo_count : Int32) (p1 : Int32) (p2 : Int32) (p3 : Int32) (post : Int64 → Prop) (h : wp_ks_partState p1 p2 p3 ks_states post) : Met l yX2_partState (hk_ws yX2_partState cX2_partState 4 (some .long)) (hk_rm 1 22) (va_Pc [.ref h_ks, .int p1, .int p2, .int p3] (hk_PR D (hk_ty cI cJ cZ cM) ((wv_ks cI cJ cZ cM h_ks a_ks h_fo ks_partCounts ks_states ks_latestRows ks_latestValues ks_moved) ++ (wv_fo cI cJ cZ cM h_fo a_fo fo_kinds fo_declared fo_count)))) (vp_Sl post) 0 0 (fun _ => False) := by
  refine Met.ofW (cc := cX2_partState) (maxL := 4) (ret := (some .long)) (by decide) rfl ?_
  intro p e s m args below meth c s₁ B hml hv
  obtain ⟨rfl, hP, hK, hN⟩ := hv
  have hx := B.exec
  have hb := B.bytes
  have hr := B.returns
  have hts := atoms_spec (ws := hk_ws yX2_partState cX2_partState 4 (some .long)) B.pre
  have hta : ∀ w ∈ hk_all, w.before ([.ref h_ks, .int p1, .int p2, .int p3] : List Value).toArray s = true := fun w hw => hts w (List.mem_cons_of_mem _ hw)
  have hown : s.vm.findClass RX2 = some m.cls := findClass_of_methodNamed B.named
  have hlocks := B.notSynchronized
  have S0 : CallFix p m c cX2_partState 4 s ([.ref h_ks, .int p1, .int p2, .int p3] : List Value).toArray hk_all RX2 := ⟨hx, hb, hml, hown, hta⟩
  have hl := lv_entry ([.ref h_ks, .int p1, .int p2, .int p3]) (n := 4) (Nat.le_of_ble_eq_true rfl)
  rw [lg_entry_eq]
  generalize (lg_sl ([.ref h_ks, .int p1, .int p2, .int p3]) ++ List.replicate (4 - (lg_sl ([.ref h_ks, .int p1, .int p2, .int p3])).length) Slot.unset).toArray = ls at hl ⊢
  have hl : lv_has ls 4 [(0, .ref h_ks), (1, .int p1), (2, .int p2), (3, .int p3)] := hl
  unfold wp_ks_partState at h
  refine lv_aload_n hx hb dX2_partState_0 rfl (lv_at hl 0 rfl) ?_
  refine va_get (D := D) (ci := 2) (v := .ref (a_ks 2)) (C := RX2) (T := TX2) (N := 6) hx hb hta ih_X2 hown hK hP 0 rfl rfl 2 (by decide) (hta _ hw_127) (fun _ h9 => h9) rfl dX2_partState_1 ?_
  refine lv_iload_n hx hb dX2_partState_4 rfl (lv_at hl 1 rfl) ?_
  refine lv_iload_n hx hb dX2_partState_5 rfl (lv_at hl 2 rfl) ?_
  refine lv_iload_n hx hb dX2_partState_6 rfl (lv_at hl 3 rfl) ?_
  refine vp_callSi (hk_runS (As := [.int p1, .int p2, .int p3]) (rest := [.ref (a_ks 2)]) S0 mm_ks_cell (c_ks_cell l D cI cJ cZ cM p1 p2 p3 _ h) hw_357 hk_blR (hk_atR (hP.sub (ws' := ([] : va_W)) [] rfl) hK hN) ⟨rfl, rfl, Nat.le_of_ble_eq_true rfl, Nat.le_of_ble_eq_true rfl⟩ rfl hl.1 rfl (Nat.le_of_ble_eq_true rfl) dX2_partState_7 ⟨Nat.le_of_ble_eq_true rfl, Nat.le_of_ble_eq_true rfl⟩).run (fun r1 h => ?_)
  refine va_lald hx hb hK hP 2 1 rfl rfl h.1 dX2_partState_10 ?_
  have h := h.2
  exact W.lret (v := ks_states r1.toNatClampNeg) hx hb hr (fun t ht hW => ⟨_, rfl, h, ht⟩) (fun _ hq => by cases hq) dX2_partState_11
def wb_ks_take_3 (ks_latestRows : Nat → Int32) (ks_latestValues : Nat → Int64) (fo_kinds : Nat → Int32) (fo_count : Int32) (p1 : Int32) (p2 : Int32) (p3 : Int32) (p4 : Int32) (post : ((Nat → Int64) × (Nat → Int32) × (Nat → Int64)) → Prop) (K3 : (Int32 × (Nat → Int64)) → Prop) (v1 : Int32 × (Nat → Int64)) : Prop := (fo_count ≤ v1.1 → wp_ks_slot p1 p2 (fun (r3 : Int32) => vp_in r3 800 ∧ (vp_in p1 100 ∧ (post (v1.2, upd ks_latestRows r3.toNatClampNeg p3, vp_updL ks_latestValues p1.toNatClampNeg p4.toInt64))))) ∧ (¬ fo_count ≤ v1.1 → wp_ks_cell p1 p2 v1.1 (fun (r4 : Int32) => vp_in r4 4800 ∧ (vp_in p1 100 ∧ (wp_fo_folded v1.1 (v1.2 r4.toNatClampNeg) p4 (ks_latestValues p1.toNatClampNeg) fo_kinds (fun (r5 : Int64) => vp_in r4 4800 ∧ (∀ x6 : Int32, x6 = v1.1 + 1 → K3 (x6, vp_updL v1.2 r4.toNatClampNeg r5)))))))
def wp_ks_take (p1 : Int32) (p2 : Int32) (p3 : Int32) (p4 : Int32) (ks_states : Nat → Int64) (ks_latestRows : Nat → Int32) (ks_latestValues : Nat → Int64) (fo_kinds : Nat → Int32) (fo_count : Int32) (post : ((Nat → Int64) × (Nat → Int32) × (Nat → Int64)) → Prop) : Prop := ∃ n, hk_lp (wb_ks_take_3 ks_latestRows ks_latestValues fo_kinds fo_count p1 p2 p3 p4 post) n (0, ks_states)
theorem mm_ks_take : hk_MV yX2_take cX2_take 7 none 4 := ⟨hw_391, hw_390, hw_14, hw_81, by decide +kernel⟩
set_option maxRecDepth 100000 in
set_option maxHeartbeats 4000000 in
theorem c_ks_take (l : Launch) (D : va_G) (cI cJ cZ cM : ClassId) (h_ks : Nat) (a_ks : Nat → Nat) (h_fo : Nat) (a_fo : Nat → Nat) (sz : Nat) (ks_partCounts : Nat → Int32) (ks_states : Nat → Int64) (ks_latestRows : Nat → Int32) (ks_latestValues : Nat → Int64) (ks_moved : Int32) (fo_kinds : Nat → Int32) (fo_declared : Nat → Int32) (fo_count : Int32) (p1 : Int32) (p2 : Int32) (p3 : Int32) (p4 : Int32) (post : ((Nat → Int64) × (Nat → Int32) × (Nat → Int64)) → Prop) (h : wp_ks_take p1 p2 p3 p4 ks_states ks_latestRows ks_latestValues fo_kinds fo_count post) : Met l yX2_take (hk_ws yX2_take cX2_take 7 none) (hk_rm 2 49) (va_Pc [.ref h_ks, .int p1, .int p2, .int p3, .int p4] (hk_PM D (hk_ty cI cJ cZ cM) sz ((wv_ks cI cJ cZ cM h_ks a_ks h_fo ks_partCounts ks_states ks_latestRows ks_latestValues ks_moved) ++ (wv_fo cI cJ cZ cM h_fo a_fo fo_kinds fo_declared fo_count)))) (va_Qv post (hk_B D (va_A ((wv_ks cI cJ cZ cM h_ks a_ks h_fo ks_partCounts ks_states ks_latestRows ks_latestValues ks_moved) ++ (wv_fo cI cJ cZ cM h_fo a_fo fo_kinds fo_declared fo_count)) sz) (fun (u : (Nat → Int64) × (Nat → Int32) × (Nat → Int64)) => (wv_ks cI cJ cZ cM h_ks a_ks h_fo ks_partCounts u.1 u.2.1 u.2.2 ks_moved) ++ (wv_fo cI cJ cZ cM h_fo a_fo fo_kinds fo_declared fo_count))) (va_A ((wv_ks cI cJ cZ cM h_ks a_ks h_fo ks_partCounts ks_states ks_latestRows ks_latestValues ks_moved) ++ (wv_fo cI cJ cZ cM h_fo a_fo fo_kinds fo_declared fo_count)) sz)) 0 0 (va_A ((wv_ks cI cJ cZ cM h_ks a_ks h_fo ks_partCounts ks_states ks_latestRows ks_latestValues ks_moved) ++ (wv_fo cI cJ cZ cM h_fo a_fo fo_kinds fo_declared fo_count)) sz) := by
  refine Met.ofW (cc := cX2_take) (maxL := 7) (ret := none) (by decide) rfl ?_
  intro p e s m args below meth c s₁ B hml hv
  obtain ⟨rfl, hsz, hP, hK, hD0, hN⟩ := hv
  have hx := B.exec
  have hb := B.bytes
  have hr := B.returns
  have hts := atoms_spec (ws := hk_ws yX2_take cX2_take 7 none) B.pre
  have hta : ∀ w ∈ hk_all, w.before ([.ref h_ks, .int p1, .int p2, .int p3, .int p4] : List Value).toArray s = true := fun w hw => hts w (List.mem_cons_of_mem _ hw)
  have hown : s.vm.findClass RX2 = some m.cls := findClass_of_methodNamed B.named
  have hlocks := B.notSynchronized
  have S0 : CallFix p m c cX2_take 7 s ([.ref h_ks, .int p1, .int p2, .int p3, .int p4] : List Value).toArray hk_all RX2 := ⟨hx, hb, hml, hown, hta⟩
  subst hsz
  have hD := hD0.self (sz := s.heap.size)
  generalize hAe : va_A ((wv_ks cI cJ cZ cM h_ks a_ks h_fo ks_partCounts ks_states ks_latestRows ks_latestValues ks_moved) ++ (wv_fo cI cJ cZ cM h_fo a_fo fo_kinds fo_declared fo_count)) s.heap.size = A at hD ⊢
  have hA : ∀ q : Nat, s.heap.size ≤ q → A q := fun q h => by rw [← hAe]; exact Or.inr h
  have hS : va_S A s.heap s.heap [] := va_S.rf
  have hl := lv_entry ([.ref h_ks, .int p1, .int p2, .int p3, .int p4]) (n := 7) (Nat.le_of_ble_eq_true rfl)
  rw [lg_entry_eq]
  generalize (lg_sl ([.ref h_ks, .int p1, .int p2, .int p3, .int p4]) ++ List.replicate (7 - (lg_sl ([.ref h_ks, .int p1, .int p2, .int p3, .int p4])).length) Slot.unset).toArray = ls at hl ⊢
  have hl : lv_has ls 7 [(0, .ref h_ks), (1, .int p1), (2, .int p2), (3, .int p3), (4, .int p4)] := hl
  unfold wp_ks_take at h
  refine lv_iconst (v := 0) hx hb dX2_take_0 (by decide) ?_
  refine lv_istore (lv' := [(5, .int 0), (0, .ref h_ks), (1, .int p1), (2, .int p2), (3, .int p3), (4, .int p4)]) hx hb dX2_take_1 hl (by decide) rfl (fun ls hl => ?_)
  have P3 : ∀ (n : Nat) (v1 : Int32 × (Nat → Int64)) (H : Heap) (locs : List Loc) (ls : Array Slot), va_P D vwCl ((wv_ks cI cJ cZ cM h_ks a_ks h_fo ks_partCounts v1.2 ks_latestRows ks_latestValues ks_moved) ++ (wv_fo cI cJ cZ cM h_fo a_fo fo_kinds fo_declared fo_count)) H → va_D A ((wv_ks cI cJ cZ cM h_ks a_ks h_fo ks_partCounts v1.2 ks_latestRows ks_latestValues ks_moved) ++ (wv_fo cI cJ cZ cM h_fo a_fo fo_kinds fo_declared fo_count)) → va_S A s.heap H locs → lv_has ls 7 [(0, .ref h_ks), (1, .int p1), (2, .int p2), (3, .int p3), (4, .int p4), (5, .int v1.1)] → hk_lp (wb_ks_take_3 ks_latestRows ks_latestValues fo_kinds fo_count p1 p2 p3 p4 post) n v1 → W p l e (headSpec (hk_ws yX2_take cX2_take 7 none) (hk_rm 2 49)).room s m ([.ref h_ks, .int p1, .int p2, .int p3, .int p4] : List Value).toArray below meth c H locs 0 0 (MQ below (va_Qv post (hk_B D (A) (fun (u : (Nat → Int64) × (Nat → Int32) × (Nat → Int64)) => (wv_ks cI cJ cZ cM h_ks a_ks h_fo ks_partCounts u.1 u.2.1 u.2.2 ks_moved) ++ (wv_fo cI cJ cZ cM h_fo a_fo fo_kinds fo_declared fo_count))) (A)) ([.ref h_ks, .int p1, .int p2, .int p3, .int p4] : List Value).toArray s 0 0 A) (F0 m 3 ls []) := by
    intro n
    induction n with
    | zero => intro v1 H locs ls hP hD hS hl h; exact False.elim h
    | succ n ih3 =>
      intro v1 H locs ls hP hD hS hl h
      have h : wb_ks_take_3 ks_latestRows ks_latestValues fo_kinds fo_count p1 p2 p3 p4 post (hk_lp (wb_ks_take_3 ks_latestRows ks_latestValues fo_kinds fo_count p1 p2 p3 p4 post) n) v1 := h
      generalize hk_lp (wb_ks_take_3 ks_latestRows ks_latestValues fo_kinds fo_count p1 p2 p3 p4 post) n = K3 at h ih3
      unfold wb_ks_take_3 at h
      refine lv_iload hx hb dX2_take_3 (lv_at hl 5 rfl) ?_
      refine lv_aload_n hx hb dX2_take_5 rfl (lv_at hl 0 rfl) ?_
      refine va_get (D := D) (ci := 2) (v := .ref h_fo) (C := RX2) (T := TX2) (N := 6) hx hb hta ih_X2 hown hK hP 0 rfl rfl 0 (by decide) (hta _ hw_125) (fun _ h9 => h9) rfl dX2_take_6 ?_
      refine va_getN (D := D) (ci := 1) (v := .int fo_count) (C := RX1) (T := TX1) (N := 3) hx hb hta ih_X1 hown hK hP 5 rfl rfl 2 (by decide) (va_Nw.use rfl (hN.1 _ hn_109)) (fun _ h9 => h9) rfl dX2_take_9 ?_
      refine lv_icmp_ge (tgt := 61) hx hb dX2_take_12 (by decide) (fun c2 => ?_) (fun c2 => ?_)
      · have h := h.1 c2
        refine lv_aload_n hx hb dX2_take_61 rfl (lv_at hl 0 rfl) ?_
        refine va_get (D := D) (ci := 2) (v := .ref (a_ks 3)) (C := RX2) (T := TX2) (N := 6) hx hb hta ih_X2 hown hK hP 0 rfl rfl 3 (by decide) (hta _ hw_128) (fun _ h9 => h9) rfl dX2_take_62 ?_
        refine lv_iload_n hx hb dX2_take_65 rfl (lv_at hl 1 rfl) ?_
        refine lv_iload_n hx hb dX2_take_66 rfl (lv_at hl 2 rfl) ?_
        refine vp_callSi (hk_runS (As := [.int p1, .int p2]) (rest := [.ref (a_ks 3)]) S0 mm_ks_slot (c_ks_slot l D cI cJ cZ cM p1 p2 _ h) hw_402 hk_blR (hk_atR (hP.sub (ws' := ([] : va_W)) [] rfl) hK hN) ⟨rfl, rfl, Nat.le_of_ble_eq_true rfl, Nat.le_of_ble_eq_true rfl⟩ rfl hl.1 rfl (Nat.le_of_ble_eq_true rfl) dX2_take_67 ⟨Nat.le_of_ble_eq_true rfl, Nat.le_of_ble_eq_true rfl⟩).run (fun r3 h => ?_)
        refine lv_iload_n hx hb dX2_take_70 rfl (lv_at hl 3 rfl) ?_
        refine va_iast hx hb hK hP hD hS 3 0 rfl rfl h.1 dX2_take_71 (fun H locs hP hD hS => ?_)
        have h := h.2
        have hP : va_P D vwCl ((wv_ks cI cJ cZ cM h_ks a_ks h_fo ks_partCounts v1.2 (upd ks_latestRows r3.toNatClampNeg p3) ks_latestValues ks_moved) ++ (wv_fo cI cJ cZ cM h_fo a_fo fo_kinds fo_declared fo_count)) H := hP
        have hD : va_D A ((wv_ks cI cJ cZ cM h_ks a_ks h_fo ks_partCounts v1.2 (upd ks_latestRows r3.toNatClampNeg p3) ks_latestValues ks_moved) ++ (wv_fo cI cJ cZ cM h_fo a_fo fo_kinds fo_declared fo_count)) := hD
        refine lv_aload_n hx hb dX2_take_72 rfl (lv_at hl 0 rfl) ?_
        refine va_get (D := D) (ci := 2) (v := .ref (a_ks 4)) (C := RX2) (T := TX2) (N := 6) hx hb hta ih_X2 hown hK hP 0 rfl rfl 4 (by decide) (hta _ hw_129) (fun _ h9 => h9) rfl dX2_take_73 ?_
        refine lv_iload_n hx hb dX2_take_76 rfl (lv_at hl 1 rfl) ?_
        refine lv_iload hx hb dX2_take_77 (lv_at hl 4 rfl) ?_
        refine lv_i2l (v := p4.toInt64) hx hb dX2_take_79 rfl ?_
        refine va_last hx hb hK hP hD hS 4 1 rfl rfl h.1 dX2_take_80 (fun H locs hP hD hS => ?_)
        have h := h.2
        have hP : va_P D vwCl ((wv_ks cI cJ cZ cM h_ks a_ks h_fo ks_partCounts v1.2 (upd ks_latestRows r3.toNatClampNeg p3) (vp_updL ks_latestValues p1.toNatClampNeg p4.toInt64) ks_moved) ++ (wv_fo cI cJ cZ cM h_fo a_fo fo_kinds fo_declared fo_count)) H := hP
        have hD : va_D A ((wv_ks cI cJ cZ cM h_ks a_ks h_fo ks_partCounts v1.2 (upd ks_latestRows r3.toNatClampNeg p3) (vp_updL ks_latestValues p1.toNatClampNeg p4.toInt64) ks_moved) ++ (wv_fo cI cJ cZ cM h_fo a_fo fo_kinds fo_declared fo_count)) := hD
        exact W.vret hx hb hr (fun t ht hW => ⟨⟨(v1.2, upd ks_latestRows r3.toNatClampNeg p3, vp_updL ks_latestValues p1.toNatClampNeg p4.toInt64), rfl, h, by rw [ht]; exact hP, hD⟩, hS.F ht⟩) hS.2.2 dX2_take_81
      · have h := h.2 c2
        refine lv_iload_n hx hb dX2_take_15 rfl (lv_at hl 1 rfl) ?_
        refine lv_iload_n hx hb dX2_take_16 rfl (lv_at hl 2 rfl) ?_
        refine lv_iload hx hb dX2_take_17 (lv_at hl 5 rfl) ?_
        refine vp_callSi (hk_runS (As := [.int p1, .int p2, .int v1.1]) (rest := []) S0 mm_ks_cell (c_ks_cell l D cI cJ cZ cM p1 p2 v1.1 _ h) hw_357 hk_blR (hk_atR (hP.sub (ws' := ([] : va_W)) [] rfl) hK hN) ⟨rfl, rfl, Nat.le_of_ble_eq_true rfl, Nat.le_of_ble_eq_true rfl⟩ rfl hl.1 rfl (Nat.le_of_ble_eq_true rfl) dX2_take_19 ⟨Nat.le_of_ble_eq_true rfl, Nat.le_of_ble_eq_true rfl⟩).run (fun r4 h => ?_)
        refine lv_istore (lv' := [(6, .int r4), (0, .ref h_ks), (1, .int p1), (2, .int p2), (3, .int p3), (4, .int p4), (5, .int v1.1)]) hx hb dX2_take_22 hl (by decide) rfl (fun ls hl => ?_)
        refine lv_aload_n hx hb dX2_take_24 rfl (lv_at hl 1 rfl) ?_
        refine va_get (D := D) (ci := 2) (v := .ref (a_ks 2)) (C := RX2) (T := TX2) (N := 6) hx hb hta ih_X2 hown hK hP 0 rfl rfl 2 (by decide) (hta _ hw_127) (fun _ h9 => h9) rfl dX2_take_25 ?_
        refine lv_iload hx hb dX2_take_28 (lv_at hl 0 rfl) ?_
        refine lv_aload_n hx hb dX2_take_30 rfl (lv_at hl 1 rfl) ?_
        refine va_get (D := D) (ci := 2) (v := .ref h_fo) (C := RX2) (T := TX2) (N := 6) hx hb hta ih_X2 hown hK hP 0 rfl rfl 0 (by decide) (hta _ hw_125) (fun _ h9 => h9) rfl dX2_take_31 ?_
        refine lv_iload hx hb dX2_take_34 (lv_at hl 6 rfl) ?_
        refine lv_aload_n hx hb dX2_take_36 rfl (lv_at hl 1 rfl) ?_
        refine va_get (D := D) (ci := 2) (v := .ref (a_ks 2)) (C := RX2) (T := TX2) (N := 6) hx hb hta ih_X2 hown hK hP 0 rfl rfl 2 (by decide) (hta _ hw_127) (fun _ h9 => h9) rfl dX2_take_37 ?_
        refine lv_iload hx hb dX2_take_40 (lv_at hl 0 rfl) ?_
        refine va_lald hx hb hK hP 2 1 rfl rfl h.1 dX2_take_42 ?_
        have h := h.2
        refine lv_iload hx hb dX2_take_43 (lv_at hl 5 rfl) ?_
        refine lv_aload_n hx hb dX2_take_45 rfl (lv_at hl 1 rfl) ?_
        refine va_get (D := D) (ci := 2) (v := .ref (a_ks 4)) (C := RX2) (T := TX2) (N := 6) hx hb hta ih_X2 hown hK hP 0 rfl rfl 4 (by decide) (hta _ hw_129) (fun _ h9 => h9) rfl dX2_take_46 ?_
        refine lv_iload_n hx hb dX2_take_49 rfl (lv_at hl 2 rfl) ?_
        refine va_lald hx hb hK hP 4 1 rfl rfl h.1 dX2_take_50 ?_
        have h := h.2
        refine vp_callSl (hk_runVN (As := [.int v1.1, .long (v1.2 r4.toNatClampNeg), .int p4, .long (ks_latestValues p1.toNatClampNeg)]) (rest := [.int r4, .ref (a_ks 2)]) S0 mm_fo_folded (c_fo_folded l D cI cJ cZ cM h_fo a_fo fo_kinds fo_declared fo_count v1.1 (v1.2 r4.toNatClampNeg) p4 (ks_latestValues p1.toNatClampNeg) _ h) (hN.1 _ hn_392) hk_blR (hk_atR (hP.sub (ws' := wv_fo cI cJ cZ cM h_fo a_fo fo_kinds fo_declared fo_count) [5, 6, 7] rfl) hK hN) (va_recv hK hP (ci := 1) (q0 := 5) rfl rfl) ⟨rfl, rfl, Nat.le_of_ble_eq_true rfl, Nat.le_of_ble_eq_true rfl⟩ rfl hl.1 rfl (Nat.le_of_ble_eq_true rfl) dX2_take_51 ⟨Nat.le_of_ble_eq_true rfl, Nat.le_of_ble_eq_true rfl⟩).run (fun r5 h => ?_)
        refine va_last hx hb hK hP hD hS 2 1 rfl rfl h.1 dX2_take_54 (fun H locs hP hD hS => ?_)
        have h := h.2
        have hP : va_P D vwCl ((wv_ks cI cJ cZ cM h_ks a_ks h_fo ks_partCounts (vp_updL v1.2 r4.toNatClampNeg r5) ks_latestRows ks_latestValues ks_moved) ++ (wv_fo cI cJ cZ cM h_fo a_fo fo_kinds fo_declared fo_count)) H := hP
        have hD : va_D A ((wv_ks cI cJ cZ cM h_ks a_ks h_fo ks_partCounts (vp_updL v1.2 r4.toNatClampNeg r5) ks_latestRows ks_latestValues ks_moved) ++ (wv_fo cI cJ cZ cM h_fo a_fo fo_kinds fo_declared fo_count)) := hD
        obtain ⟨x6, ex6⟩ : ∃ y : Int32, y = v1.1 + 1 := ⟨_, rfl⟩
        have h := h x6 ex6
        refine lv_iinc (v := x6) (lv' := [(5, .int x6), (6, .int r4), (0, .ref h_ks), (1, .int p1), (2, .int p2), (3, .int p3), (4, .int p4)]) hx hb dX2_take_55 hl (k := 6) rfl (by rw [ex6]; rfl) (by decide) rfl (fun ls hl => ?_)
        refine lv_goto (tgt := 3) hx hb dX2_take_58 (by decide) ?_
        exact ih3 (x6, vp_updL v1.2 r4.toNatClampNeg r5) H locs ls hP hD hS (lv_sub hl [2, 3, 4, 5, 6, 0] rfl) h
  obtain ⟨n, h⟩ := h
  exact P3 n (0, ks_states) s.heap [] ls hP hD hS (lv_sub hl [1, 2, 3, 4, 5, 0] rfl) h
