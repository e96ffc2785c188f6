theorem mm_cn_init : hk_MI yX0_init cX0_init 1 0 := ⟨hw_150, hw_149, hw_82, rfl, by decide +kernel⟩
set_option maxRecDepth 100000 in
set_option maxHeartbeats 4000000 in
theorem c_cn_init (l : Launch) (D : va_G) (cI cJ cZ cM : ClassId) (h_cn : Nat) (sz : Nat) : Met l yX0_init (hk_ws yX0_init cX0_init 1 none) (hk_rc 1 12 3 36) (va_Pc [.ref h_cn] (hk_PM D (hk_ty cI cJ cZ cM) sz [(h_cn, .inr (0, [.null, .null, .null, .int 0, .int 0]))])) (va_Qv (fun (u : Nat → Nat) => True) (hk_B D (va_A [(h_cn, .inr (0, [.null, .null, .null, .int 0, .int 0]))] sz) (fun (u : Nat → Nat) => wv_cn cI cJ cZ cM h_cn u (fun _ => 0) (fun _ => 0) (fun _ => 0) 0 0)) (va_A [(h_cn, .inr (0, [.null, .null, .null, .int 0, .int 0]))] sz)) 3 36 (va_A [(h_cn, .inr (0, [.null, .null, .null, .int 0, .int 0]))] sz) := by
  refine Met.ofW (cc := cX0_init) (maxL := 1) (ret := none) (by decide) rfl ?_
  intro p e s m args below meth c s₁ B hml hv
  obtain ⟨rfl, hsz, hP, hK, hD0, hN⟩ := hv
  have hx := B.exec
  have hb := B.bytes
  have hr := B.returns
  have hts := atoms_spec (ws := hk_ws yX0_init cX0_init 1 none) B.pre
  have hta : ∀ w ∈ hk_all, w.before ([.ref h_cn] : List Value).toArray s = true := fun w hw => hts w (List.mem_cons_of_mem _ hw)
  have hown : s.vm.findClass RX0 = some m.cls := findClass_of_methodNamed B.named
  have hlocks := B.notSynchronized
  have hin : meth.name = "<init>" := (name_of_methodNamed B.named B.method).1
  have S0 : CallFix p m c cX0_init 1 s ([.ref h_cn] : List Value).toArray hk_all RX0 := ⟨hx, hb, hml, hown, hta⟩
  subst hsz
  have hD := hD0.self (sz := s.heap.size)
  generalize hAe : va_A [(h_cn, .inr (0, [.null, .null, .null, .int 0, .int 0]))] s.heap.size = A at hD ⊢
  have hA : ∀ q : Nat, s.heap.size ≤ q → A q := fun q h => by rw [← hAe]; exact Or.inr h
  have hS : va_S A s.heap s.heap [] := va_S.rf
  have hl := lv_entry ([.ref h_cn]) (n := 1) (Nat.le_of_ble_eq_true rfl)
  rw [lg_entry_eq]
  generalize (lg_sl ([.ref h_cn]) ++ List.replicate (1 - (lg_sl ([.ref h_cn])).length) Slot.unset).toArray = ls at hl ⊢
  have hl : lv_has ls 1 [(0, .ref h_cn)] := hl
  refine lv_aload_n hx hb dX0_init_0 rfl (lv_at hl 0 rfl) ?_
  refine W.objInit hx hb hown (hta _ hw_151) (hta _ hw_97) (hta _ hw_98) rfl (by rw [hml]; exact hl.1) rfl dX0_init_1 (Nat.le_of_ble_eq_true rfl) (Nat.le_of_ble_eq_true rfl) ?_
  refine W.eq (g2 := F0 m 4 ls []) rfl ?_
  refine lv_aload_n hx hb dX0_init_4 rfl (lv_at hl 0 rfl) ?_
  refine lv_bipush (v := 12) hx hb dX0_init_5 (by decide) ?_
  refine hk_newI hx hb (hta _ hw_117) hK hP hD hS hA (by decide) (N' := 12) rfl (by decide) (Nat.le_of_ble_eq_true rfl) (Nat.le_of_ble_eq_true rfl) dX0_init_7 (fun q1 H hP hD hS => ?_)
  refine W.widen (k := 1) (n := 12) (Nat.le_of_ble_eq_true rfl) (Nat.le_of_ble_eq_true rfl) ?_
  have hP : va_P D vwCl [(h_cn, .inr (0, [.null, .null, .null, .int 0, .int 0])), (q1, .inl (cI, 12, .inl (fun _ => 0)))] H := hP
  have hD : va_D A [(h_cn, .inr (0, [.null, .null, .null, .int 0, .int 0])), (q1, .inl (cI, 12, .inl (fun _ => 0)))] := hD
  refine va_putF (D := D) (ci := 0) (v := .ref q1) (ty := tyX0 0) (C := RX0) (T := TX0) (N := 5) hx hb hta ih_X0 tyX0 tyX0_ok nmX0 hown hK hP hD hS 0 rfl rfl 0 (by decide) (hta _ hw_152) (fun _ h9 => h9) rfl hin rfl (tyX0_ok 0 (by decide)) rfl rfl (Nat.le_of_ble_eq_true rfl) dX0_init_9 (fun H locs hP hD hS => ?_)
  have hP : va_P D vwCl [(h_cn, .inr (0, [.ref q1, .null, .null, .int 0, .int 0])), (q1, .inl (cI, 12, .inl (fun _ => 0)))] H := hP
  have hD : va_D A [(h_cn, .inr (0, [.ref q1, .null, .null, .int 0, .int 0])), (q1, .inl (cI, 12, .inl (fun _ => 0)))] := hD
  refine lv_aload_n hx hb dX0_init_12 rfl (lv_at hl 0 rfl) ?_
  refine lv_bipush (v := 12) hx hb dX0_init_13 (by decide) ?_
  refine hk_newI hx hb (hta _ hw_117) hK hP hD hS hA (by decide) (N' := 12) rfl (by decide) (Nat.le_of_ble_eq_true rfl) (Nat.le_of_ble_eq_true rfl) dX0_init_15 (fun q2 H hP hD hS => ?_)
  refine W.widen (k := 2) (n := 24) (Nat.le_of_ble_eq_true rfl) (Nat.le_of_ble_eq_true rfl) ?_
  have hP : va_P D vwCl [(h_cn, .inr (0, [.ref q1, .null, .null, .int 0, .int 0])), (q1, .inl (cI, 12, .inl (fun _ => 0))), (q2, .inl (cI, 12, .inl (fun _ => 0)))] H := hP
  have hD : va_D A [(h_cn, .inr (0, [.ref q1, .null, .null, .int 0, .int 0])), (q1, .inl (cI, 12, .inl (fun _ => 0))), (q2, .inl (cI, 12, .inl (fun _ => 0)))] := hD
  refine va_putF (D := D) (ci := 0) (v := .ref q2) (ty := tyX0 1) (C := RX0) (T := TX0) (N := 5) hx hb hta ih_X0 tyX0 tyX0_ok nmX0 hown hK hP hD hS 0 rfl rfl 1 (by decide) (hta _ hw_153) (fun _ h9 => h9) rfl hin rfl (tyX0_ok 1 (by decide)) rfl rfl (Nat.le_of_ble_eq_true rfl) dX0_init_17 (fun H locs hP hD hS => ?_)
  have hP : va_P D vwCl [(h_cn, .inr (0, [.ref q1, .ref q2, .null, .int 0, .int 0])), (q1, .inl (cI, 12, .inl (fun _ => 0))), (q2, .inl (cI, 12, .inl (fun _ => 0)))] H := hP
  have hD : va_D A [(h_cn, .inr (0, [.ref q1, .ref q2, .null, .int 0, .int 0])), (q1, .inl (cI, 12, .inl (fun _ => 0))), (q2, .inl (cI, 12, .inl (fun _ => 0)))] := hD
  refine lv_aload_n hx hb dX0_init_20 rfl (lv_at hl 0 rfl) ?_
  refine lv_bipush (v := 12) hx hb dX0_init_21 (by decide) ?_
  refine hk_newI hx hb (hta _ hw_117) hK hP hD hS hA (by decide) (N' := 12) rfl (by decide) (Nat.le_of_ble_eq_true rfl) (Nat.le_of_ble_eq_true rfl) dX0_init_23 (fun q3 H hP hD hS => ?_)
  refine W.widen (k := 3) (n := 36) (Nat.le_of_ble_eq_true rfl) (Nat.le_of_ble_eq_true rfl) ?_
  have hP : va_P D vwCl [(h_cn, .inr (0, [.ref q1, .ref q2, .null, .int 0, .int 0])), (q1, .inl (cI, 12, .inl (fun _ => 0))), (q2, .inl (cI, 12, .inl (fun _ => 0))), (q3, .inl (cI, 12, .inl (fun _ => 0)))] H := hP
  have hD : va_D A [(h_cn, .inr (0, [.ref q1, .ref q2, .null, .int 0, .int 0])), (q1, .inl (cI, 12, .inl (fun _ => 0))), (q2, .inl (cI, 12, .inl (fun _ => 0))), (q3, .inl (cI, 12, .inl (fun _ => 0)))] := hD
  refine va_putF (D := D) (ci := 0) (v := .ref q3) (ty := tyX0 2) (C := RX0) (T := TX0) (N := 5) hx hb hta ih_X0 tyX0 tyX0_ok nmX0 hown hK hP hD hS 0 rfl rfl 2 (by decide) (hta _ hw_154) (fun _ h9 => h9) rfl hin rfl (tyX0_ok 2 (by decide)) rfl rfl (Nat.le_of_ble_eq_true rfl) dX0_init_25 (fun H locs hP hD hS => ?_)
  have hP : va_P D vwCl [(h_cn, .inr (0, [.ref q1, .ref q2, .ref q3, .int 0, .int 0])), (q1, .inl (cI, 12, .inl (fun _ => 0))), (q2, .inl (cI, 12, .inl (fun _ => 0))), (q3, .inl (cI, 12, .inl (fun _ => 0)))] H := hP
  have hD : va_D A [(h_cn, .inr (0, [.ref q1, .ref q2, .ref q3, .int 0, .int 0])), (q1, .inl (cI, 12, .inl (fun _ => 0))), (q2, .inl (cI, 12, .inl (fun _ => 0))), (q3, .inl (cI, 12, .inl (fun _ => 0)))] := hD
  have hP : va_P D vwCl (wv_cn cI cJ cZ cM h_cn (hk_adr [q1, q2, q3, 0, 0]) (fun _ => 0) (fun _ => 0) (fun _ => 0) 0 0) H := hP.sub [0, 1, 2, 3] rfl
  have hD : va_D A (wv_cn cI cJ cZ cM h_cn (hk_adr [q1, q2, q3, 0, 0]) (fun _ => 0) (fun _ => 0) (fun _ => 0) 0 0) := hD.sub [0, 1, 2, 3] (by decide) rfl
  exact W.vret hx hb hr (fun t ht hW => ⟨⟨(hk_adr [q1, q2, q3, 0, 0]), rfl, trivial, by rw [ht]; exact hP, hD⟩, hS.F ht⟩) hS.2.2 dX0_init_28
theorem mm_fo_init : hk_MI yX1_init cX1_init 1 0 := ⟨hw_103, hw_102, hw_80, rfl, by decide +kernel⟩
set_option maxRecDepth 100000 in
set_option maxHeartbeats 4000000 in
theorem c_fo_init (l : Launch) (D : va_G) (cI cJ cZ cM : ClassId) (h_fo : Nat) (sz : Nat) : Met l yX1_init (hk_ws yX1_init cX1_init 1 none) (hk_rc 1 12 2 12) (va_Pc [.ref h_fo] (hk_PM D (hk_ty cI cJ cZ cM) sz [(h_fo, .inr (1, [.null, .null, .int 0]))])) (va_Qv (fun (u : Nat → Nat) => True) (hk_B D (va_A [(h_fo, .inr (1, [.null, .null, .int 0]))] sz) (fun (u : Nat → Nat) => wv_fo cI cJ cZ cM h_fo u (fun _ => 0) (fun _ => 0) 0)) (va_A [(h_fo, .inr (1, [.null, .null, .int 0]))] sz)) 2 12 (va_A [(h_fo, .inr (1, [.null, .null, .int 0]))] sz) := by
  refine Met.ofW (cc := cX1_init) (maxL := 1) (ret := none) (by decide) rfl ?_
  intro p e s m args below meth c s₁ B hml hv
  obtain ⟨rfl, hsz, hP, hK, hD0, hN⟩ := hv
  have hx := B.exec
  have hb := B.bytes
  have hr := B.returns
  have hts := atoms_spec (ws := hk_ws yX1_init cX1_init 1 none) B.pre
  have hta : ∀ w ∈ hk_all, w.before ([.ref h_fo] : List Value).toArray s = true := fun w hw => hts w (List.mem_cons_of_mem _ hw)
  have hown : s.vm.findClass RX1 = some m.cls := findClass_of_methodNamed B.named
  have hlocks := B.notSynchronized
  have hin : meth.name = "<init>" := (name_of_methodNamed B.named B.method).1
  have S0 : CallFix p m c cX1_init 1 s ([.ref h_fo] : List Value).toArray hk_all RX1 := ⟨hx, hb, hml, hown, hta⟩
  subst hsz
  have hD := hD0.self (sz := s.heap.size)
  generalize hAe : va_A [(h_fo, .inr (1, [.null, .null, .int 0]))] s.heap.size = A at hD ⊢
  have hA : ∀ q : Nat, s.heap.size ≤ q → A q := fun q h => by rw [← hAe]; exact Or.inr h
  have hS : va_S A s.heap s.heap [] := va_S.rf
  have hl := lv_entry ([.ref h_fo]) (n := 1) (Nat.le_of_ble_eq_true rfl)
  rw [lg_entry_eq]
  generalize (lg_sl ([.ref h_fo]) ++ List.replicate (1 - (lg_sl ([.ref h_fo])).length) Slot.unset).toArray = ls at hl ⊢
  have hl : lv_has ls 1 [(0, .ref h_fo)] := hl
  refine lv_aload_n hx hb dX1_init_0 rfl (lv_at hl 0 rfl) ?_
  refine W.objInit hx hb hown (hta _ hw_104) (hta _ hw_97) (hta _ hw_98) rfl (by rw [hml]; exact hl.1) rfl dX1_init_1 (Nat.le_of_ble_eq_true rfl) (Nat.le_of_ble_eq_true rfl) ?_
  refine W.eq (g2 := F0 m 4 ls []) rfl ?_
  refine lv_aload_n hx hb dX1_init_4 rfl (lv_at hl 0 rfl) ?_
  refine lv_bipush (v := 6) hx hb dX1_init_5 (by decide) ?_
  refine hk_newI hx hb (hta _ hw_117) hK hP hD hS hA (by decide) (N' := 6) rfl (by decide) (Nat.le_of_ble_eq_true rfl) (Nat.le_of_ble_eq_true rfl) dX1_init_7 (fun q1 H hP hD hS => ?_)
  refine W.widen (k := 1) (n := 6) (Nat.le_of_ble_eq_true rfl) (Nat.le_of_ble_eq_true rfl) ?_
  have hP : va_P D vwCl [(h_fo, .inr (1, [.null, .null, .int 0])), (q1, .inl (cI, 6, .inl (fun _ => 0)))] H := hP
  have hD : va_D A [(h_fo, .inr (1, [.null, .null, .int 0])), (q1, .inl (cI, 6, .inl (fun _ => 0)))] := hD
  refine va_putF (D := D) (ci := 1) (v := .ref q1) (ty := tyX1 0) (C := RX1) (T := TX1) (N := 3) hx hb hta ih_X1 tyX1 tyX1_ok nmX1 hown hK hP hD hS 0 rfl rfl 0 (by decide) (hta _ hw_105) (fun _ h9 => h9) rfl hin rfl (tyX1_ok 0 (by decide)) rfl rfl (Nat.le_of_ble_eq_true rfl) dX1_init_9 (fun H locs hP hD hS => ?_)
  have hP : va_P D vwCl [(h_fo, .inr (1, [.ref q1, .null, .int 0])), (q1, .inl (cI, 6, .inl (fun _ => 0)))] H := hP
  have hD : va_D A [(h_fo, .inr (1, [.ref q1, .null, .int 0])), (q1, .inl (cI, 6, .inl (fun _ => 0)))] := hD
  refine lv_aload_n hx hb dX1_init_12 rfl (lv_at hl 0 rfl) ?_
  refine lv_bipush (v := 6) hx hb dX1_init_13 (by decide) ?_
  refine hk_newZ hx hb (hta _ hw_118) hK hP hD hS hA (by decide) (N' := 6) rfl (by decide) (Nat.le_of_ble_eq_true rfl) (Nat.le_of_ble_eq_true rfl) dX1_init_15 (fun q2 H hP hD hS => ?_)
  refine W.widen (k := 2) (n := 12) (Nat.le_of_ble_eq_true rfl) (Nat.le_of_ble_eq_true rfl) ?_
  have hP : va_P D vwCl [(h_fo, .inr (1, [.ref q1, .null, .int 0])), (q1, .inl (cI, 6, .inl (fun _ => 0))), (q2, .inl (cZ, 6, .inl (fun _ => 0)))] H := hP
  have hD : va_D A [(h_fo, .inr (1, [.ref q1, .null, .int 0])), (q1, .inl (cI, 6, .inl (fun _ => 0))), (q2, .inl (cZ, 6, .inl (fun _ => 0)))] := hD
  refine va_putF (D := D) (ci := 1) (v := .ref q2) (ty := tyX1 1) (C := RX1) (T := TX1) (N := 3) hx hb hta ih_X1 tyX1 tyX1_ok nmX1 hown hK hP hD hS 0 rfl rfl 1 (by decide) (hta _ hw_106) (fun _ h9 => h9) rfl hin rfl (tyX1_ok 1 (by decide)) rfl rfl (Nat.le_of_ble_eq_true rfl) dX1_init_17 (fun H locs hP hD hS => ?_)
  have hP : va_P D vwCl [(h_fo, .inr (1, [.ref q1, .ref q2, .int 0])), (q1, .inl (cI, 6, .inl (fun _ => 0))), (q2, .inl (cZ, 6, .inl (fun _ => 0)))] H := hP
  have hD : va_D A [(h_fo, .inr (1, [.ref q1, .ref q2, .int 0])), (q1, .inl (cI, 6, .inl (fun _ => 0))), (q2, .inl (cZ, 6, .inl (fun _ => 0)))] := hD
  have hP : va_P D vwCl (wv_fo cI cJ cZ cM h_fo (hk_adr [q1, q2, 0]) (fun _ => 0) (fun _ => 0) 0) H := hP.sub [0, 1, 2] rfl
  have hD : va_D A (wv_fo cI cJ cZ cM h_fo (hk_adr [q1, q2, 0]) (fun _ => 0) (fun _ => 0) 0) := hD.sub [0, 1, 2] (by decide) rfl
  exact W.vret hx hb hr (fun t ht hW => ⟨⟨(hk_adr [q1, q2, 0]), rfl, trivial, by rw [ht]; exact hP, hD⟩, hS.F ht⟩) hS.2.2 dX1_init_20
theorem mm_ks_init : hk_MI yX2_init cX2_init 2 1 := ⟨hw_123, hw_122, hw_81, rfl, by decide +kernel⟩
set_option maxRecDepth 100000 in
set_option maxHeartbeats 4000000 in
theorem c_ks_init (l : Launch) (D : va_G) (cI cJ cZ cM : ClassId) (h_ks : Nat) (r_folds : Nat) (sz : Nat) : Met l yX2_init (hk_ws yX2_init cX2_init 2 none) (hk_rc 1 12 4 5800) (va_Pc [.ref h_ks, .ref r_folds] (hk_PM D (hk_ty cI cJ cZ cM) sz [(h_ks, .inr (2, [.null, .null, .null, .null, .null, .int 0]))])) (va_Qv (fun (u : Nat → Nat) => True) (hk_B D (va_A [(h_ks, .inr (2, [.null, .null, .null, .null, .null, .int 0]))] sz) (fun (u : Nat → Nat) => wv_ks cI cJ cZ cM h_ks u r_folds (fun _ => 0) (fun _ => 0) (fun _ => 0) (fun _ => 0) 0)) (va_A [(h_ks, .inr (2, [.null, .null, .null, .null, .null, .int 0]))] sz)) 4 5800 (va_A [(h_ks, .inr (2, [.null, .null, .null, .null, .null, .int 0]))] sz) := by
  refine Met.ofW (cc := cX2_init) (maxL := 2) (ret := none) (by decide) rfl ?_
  intro p e s m args below meth c s₁ B hml hv
  obtain ⟨rfl, hsz, hP, hK, hD0, hN⟩ := hv
  have hx := B.exec
  have hb := B.bytes
  have hr := B.returns
  have hts := atoms_spec (ws := hk_ws yX2_init cX2_init 2 none) B.pre
  have hta : ∀ w ∈ hk_all, w.before ([.ref h_ks, .ref r_folds] : List Value).toArray s = true := fun w hw => hts w (List.mem_cons_of_mem _ hw)
  have hown : s.vm.findClass RX2 = some m.cls := findClass_of_methodNamed B.named
  have hlocks := B.notSynchronized
  have hin : meth.name = "<init>" := (name_of_methodNamed B.named B.method).1
  have S0 : CallFix p m c cX2_init 2 s ([.ref h_ks, .ref r_folds] : List Value).toArray hk_all RX2 := ⟨hx, hb, hml, hown, hta⟩
  subst hsz
  have hD := hD0.self (sz := s.heap.size)
  generalize hAe : va_A [(h_ks, .inr (2, [.null, .null, .null, .null, .null, .int 0]))] s.heap.size = A at hD ⊢
  have hA : ∀ q : Nat, s.heap.size ≤ q → A q := fun q h => by rw [← hAe]; exact Or.inr h
  have hS : va_S A s.heap s.heap [] := va_S.rf
  have hl := lv_entry ([.ref h_ks, .ref r_folds]) (n := 2) (Nat.le_of_ble_eq_true rfl)
  rw [lg_entry_eq]
  generalize (lg_sl ([.ref h_ks, .ref r_folds]) ++ List.replicate (2 - (lg_sl ([.ref h_ks, .ref r_folds])).length) Slot.unset).toArray = ls at hl ⊢
  have hl : lv_has ls 2 [(0, .ref h_ks), (1, .ref r_folds)] := hl
  refine lv_aload_n hx hb dX2_init_0 rfl (lv_at hl 0 rfl) ?_
  refine W.objInit hx hb hown (hta _ hw_124) (hta _ hw_97) (hta _ hw_98) rfl (by rw [hml]; exact hl.1) rfl dX2_init_1 (Nat.le_of_ble_eq_true rfl) (Nat.le_of_ble_eq_true rfl) ?_
  refine W.eq (g2 := F0 m 4 ls []) rfl ?_
  refine lv_aload_n hx hb dX2_init_4 rfl (lv_at hl 0 rfl) ?_
  refine lv_bipush (v := 100) hx hb dX2_init_5 (by decide) ?_
  refine hk_newI hx hb (hta _ hw_117) hK hP hD hS hA (by decide) (N' := 100) rfl (by decide) (Nat.le_of_ble_eq_true rfl) (Nat.le_of_ble_eq_true rfl) dX2_init_7 (fun q1 H hP hD hS => ?_)
  refine W.widen (k := 1) (n := 100) (Nat.le_of_ble_eq_true rfl) (Nat.le_of_ble_eq_true rfl) ?_
  have hP : va_P D vwCl [(h_ks, .inr (2, [.null, .null, .null, .null, .null, .int 0])), (q1, .inl (cI, 100, .inl (fun _ => 0)))] H := hP
  have hD : va_D A [(h_ks, .inr (2, [.null, .null, .null, .null, .null, .int 0])), (q1, .inl (cI, 100, .inl (fun _ => 0)))] := hD
  refine va_putF (D := D) (ci := 2) (v := .ref q1) (ty := tyX2 1) (C := RX2) (T := TX2) (N := 6) hx hb hta ih_X2 tyX2 tyX2_ok nmX2 hown hK hP hD hS 0 rfl rfl 1 (by decide) (hta _ hw_126) (fun _ h9 => h9) rfl hin rfl (tyX2_ok 1 (by decide)) rfl rfl (Nat.le_of_ble_eq_true rfl) dX2_init_9 (fun H locs hP hD hS => ?_)
  have hP : va_P D vwCl [(h_ks, .inr (2, [.null, .ref q1, .null, .null, .null, .int 0])), (q1, .inl (cI, 100, .inl (fun _ => 0)))] H := hP
  have hD : va_D A [(h_ks, .inr (2, [.null, .ref q1, .null, .null, .null, .int 0])), (q1, .inl (cI, 100, .inl (fun _ => 0)))] := hD
  refine lv_aload_n hx hb dX2_init_12 rfl (lv_at hl 0 rfl) ?_
  refine lv_sipush (v := 4800) hx hb dX2_init_13 (by decide) ?_
  refine hk_newJ hx hb (hta _ hw_145) hK hP hD hS hA (by decide) (N' := 4800) rfl (by decide) (Nat.le_of_ble_eq_true rfl) (Nat.le_of_ble_eq_true rfl) dX2_init_16 (fun q2 H hP hD hS => ?_)
  refine W.widen (k := 2) (n := 4900) (Nat.le_of_ble_eq_true rfl) (Nat.le_of_ble_eq_true rfl) ?_
  have hP : va_P D vwCl [(h_ks, .inr (2, [.null, .ref q1, .null, .null, .null, .int 0])), (q1, .inl (cI, 100, .inl (fun _ => 0))), (q2, .inl (cJ, 4800, .inr (.inl (fun _ => 0))))] H := hP
  have hD : va_D A [(h_ks, .inr (2, [.null, .ref q1, .null, .null, .null, .int 0])), (q1, .inl (cI, 100, .inl (fun _ => 0))), (q2, .inl (cJ, 4800, .inr (.inl (fun _ => 0))))] := hD
  refine va_putF (D := D) (ci := 2) (v := .ref q2) (ty := tyX2 2) (C := RX2) (T := TX2) (N := 6) hx hb hta ih_X2 tyX2 tyX2_ok nmX2 hown hK hP hD hS 0 rfl rfl 2 (by decide) (hta _ hw_127) (fun _ h9 => h9) rfl hin rfl (tyX2_ok 2 (by decide)) rfl rfl (Nat.le_of_ble_eq_true rfl) dX2_init_18 (fun H locs hP hD hS => ?_)
  have hP : va_P D vwCl [(h_ks, .inr (2, [.null, .ref q1, .ref q2, .null, .null, .int 0])), (q1, .inl (cI, 100, .inl (fun _ => 0))), (q2, .inl (cJ, 4800, .inr (.inl (fun _ => 0))))] H := hP
  have hD : va_D A [(h_ks, .inr (2, [.null, .ref q1, .ref q2, .null, .null, .int 0])), (q1, .inl (cI, 100, .inl (fun _ => 0))), (q2, .inl (cJ, 4800, .inr (.inl (fun _ => 0))))] := hD
  refine lv_aload_n hx hb dX2_init_21 rfl (lv_at hl 0 rfl) ?_
  refine lv_sipush (v := 800) hx hb dX2_init_22 (by decide) ?_
  refine hk_newI hx hb (hta _ hw_117) hK hP hD hS hA (by decide) (N' := 800) rfl (by decide) (Nat.le_of_ble_eq_true rfl) (Nat.le_of_ble_eq_true rfl) dX2_init_25 (fun q3 H hP hD hS => ?_)
  refine W.widen (k := 3) (n := 5700) (Nat.le_of_ble_eq_true rfl) (Nat.le_of_ble_eq_true rfl) ?_
  have hP : va_P D vwCl [(h_ks, .inr (2, [.null, .ref q1, .ref q2, .null, .null, .int 0])), (q1, .inl (cI, 100, .inl (fun _ => 0))), (q2, .inl (cJ, 4800, .inr (.inl (fun _ => 0)))), (q3, .inl (cI, 800, .inl (fun _ => 0)))] H := hP
  have hD : va_D A [(h_ks, .inr (2, [.null, .ref q1, .ref q2, .null, .null, .int 0])), (q1, .inl (cI, 100, .inl (fun _ => 0))), (q2, .inl (cJ, 4800, .inr (.inl (fun _ => 0)))), (q3, .inl (cI, 800, .inl (fun _ => 0)))] := hD
  refine va_putF (D := D) (ci := 2) (v := .ref q3) (ty := tyX2 3) (C := RX2) (T := TX2) (N := 6) hx hb hta ih_X2 tyX2 tyX2_ok nmX2 hown hK hP hD hS 0 rfl rfl 3 (by decide) (hta _ hw_128) (fun _ h9 => h9) rfl hin rfl (tyX2_ok 3 (by decide)) rfl rfl (Nat.le_of_ble_eq_true rfl) dX2_init_27 (fun H locs hP hD hS => ?_)
  have hP : va_P D vwCl [(h_ks, .inr (2, [.null, .ref q1, .ref q2, .ref q3, .null, .int 0])), (q1, .inl (cI, 100, .inl (fun _ => 0))), (q2, .inl (cJ, 4800, .inr (.inl (fun _ => 0)))), (q3, .inl (cI, 800, .inl (fun _ => 0)))] H := hP
  have hD : va_D A [(h_ks, .inr (2, [.null, .ref q1, .ref q2, .ref q3, .null, .int 0])), (q1, .inl (cI, 100, .inl (fun _ => 0))), (q2, .inl (cJ, 4800, .inr (.inl (fun _ => 0)))), (q3, .inl (cI, 800, .inl (fun _ => 0)))] := hD
  refine lv_aload_n hx hb dX2_init_30 rfl (lv_at hl 0 rfl) ?_
  refine lv_bipush (v := 100) hx hb dX2_init_31 (by decide) ?_
  refine hk_newJ hx hb (hta _ hw_145) hK hP hD hS hA (by decide) (N' := 100) rfl (by decide) (Nat.le_of_ble_eq_true rfl) (Nat.le_of_ble_eq_true rfl) dX2_init_33 (fun q4 H hP hD hS => ?_)
  refine W.widen (k := 4) (n := 5800) (Nat.le_of_ble_eq_true rfl) (Nat.le_of_ble_eq_true rfl) ?_
  have hP : va_P D vwCl [(h_ks, .inr (2, [.null, .ref q1, .ref q2, .ref q3, .null, .int 0])), (q1, .inl (cI, 100, .inl (fun _ => 0))), (q2, .inl (cJ, 4800, .inr (.inl (fun _ => 0)))), (q3, .inl (cI, 800, .inl (fun _ => 0))), (q4, .inl (cJ, 100, .inr (.inl (fun _ => 0))))] H := hP
  have hD : va_D A [(h_ks, .inr (2, [.null, .ref q1, .ref q2, .ref q3, .null, .int 0])), (q1, .inl (cI, 100, .inl (fun _ => 0))), (q2, .inl (cJ, 4800, .inr (.inl (fun _ => 0)))), (q3, .inl (cI, 800, .inl (fun _ => 0))), (q4, .inl (cJ, 100, .inr (.inl (fun _ => 0))))] := hD
  refine va_putF (D := D) (ci := 2) (v := .ref q4) (ty := tyX2 4) (C := RX2) (T := TX2) (N := 6) hx hb hta ih_X2 tyX2 tyX2_ok nmX2 hown hK hP hD hS 0 rfl rfl 4 (by decide) (hta _ hw_129) (fun _ h9 => h9) rfl hin rfl (tyX2_ok 4 (by decide)) rfl rfl (Nat.le_of_ble_eq_true rfl) dX2_init_35 (fun H locs hP hD hS => ?_)
  have hP : va_P D vwCl [(h_ks, .inr (2, [.null, .ref q1, .ref q2, .ref q3, .ref q4, .int 0])), (q1, .inl (cI, 100, .inl (fun _ => 0))), (q2, .inl (cJ, 4800, .inr (.inl (fun _ => 0)))), (q3, .inl (cI, 800, .inl (fun _ => 0))), (q4, .inl (cJ, 100, .inr (.inl (fun _ => 0))))] H := hP
  have hD : va_D A [(h_ks, .inr (2, [.null, .ref q1, .ref q2, .ref q3, .ref q4, .int 0])), (q1, .inl (cI, 100, .inl (fun _ => 0))), (q2, .inl (cJ, 4800, .inr (.inl (fun _ => 0)))), (q3, .inl (cI, 800, .inl (fun _ => 0))), (q4, .inl (cJ, 100, .inr (.inl (fun _ => 0))))] := hD
  refine lv_aload_n hx hb dX2_init_38 rfl (lv_at hl 0 rfl) ?_
  refine lv_aload_n hx hb dX2_init_39 rfl (lv_at hl 1 rfl) ?_
  refine va_putF (D := D) (ci := 2) (v := .ref r_folds) (ty := tyX2 0) (C := RX2) (T := TX2) (N := 6) hx hb hta ih_X2 tyX2 tyX2_ok nmX2 hown hK hP hD hS 0 rfl rfl 0 (by decide) (hta _ hw_125) (fun _ h9 => h9) rfl hin rfl (tyX2_ok 0 (by decide)) rfl rfl (Nat.le_of_ble_eq_true rfl) dX2_init_40 (fun H locs hP hD hS => ?_)
  have hP : va_P D vwCl [(h_ks, .inr (2, [.ref r_folds, .ref q1, .ref q2, .ref q3, .ref q4, .int 0])), (q1, .inl (cI, 100, .inl (fun _ => 0))), (q2, .inl (cJ, 4800, .inr (.inl (fun _ => 0)))), (q3, .inl (cI, 800, .inl (fun _ => 0))), (q4, .inl (cJ, 100, .inr (.inl (fun _ => 0))))] H := hP
  have hD : va_D A [(h_ks, .inr (2, [.ref r_folds, .ref q1, .ref q2, .ref q3, .ref q4, .int 0])), (q1, .inl (cI, 100, .inl (fun _ => 0))), (q2, .inl (cJ, 4800, .inr (.inl (fun _ => 0)))), (q3, .inl (cI, 800, .inl (fun _ => 0))), (q4, .inl (cJ, 100, .inr (.inl (fun _ => 0))))] := hD
  have hP : va_P D vwCl (wv_ks cI cJ cZ cM h_ks (hk_adr [0, q1, q2, q3, q4, 0]) r_folds (fun _ => 0) (fun _ => 0) (fun _ => 0) (fun _ => 0) 0) H := hP.sub [0, 1, 2, 3, 4] rfl
  have hD : va_D A (wv_ks cI cJ cZ cM h_ks (hk_adr [0, q1, q2, q3, q4, 0]) r_folds (fun _ => 0) (fun _ => 0) (fun _ => 0) (fun _ => 0) 0) := hD.sub [0, 1, 2, 3, 4] (by decide) rfl
  exact W.vret hx hb hr (fun t ht hW => ⟨⟨(hk_adr [0, q1, q2, q3, q4, 0]), rfl, trivial, by rw [ht]; exact hP, hD⟩, hS.F ht⟩) hS.2.2 dX2_init_43
theorem mm_lg_init : hk_MI yX3_init cX3_init 1 0 := ⟨hw_223, hw_222, hw_85, rfl, by decide +kernel⟩
set_option maxRecDepth 100000 in
set_option maxHeartbeats 4000000 in
theorem c_lg_init (l : Launch) (D : va_G) (cI cJ cZ cM : ClassId) (h_lg : Nat) (sz : Nat) : Met l yX3_init (hk_ws yX3_init cX3_init 1 none) (hk_rc 1 12 1 512) (va_Pc [.ref h_lg] (hk_PM D (hk_ty cI cJ cZ cM) sz [(h_lg, .inr (3, [.null, .int 0, .int 0]))])) (va_Qv (fun (u : Nat → Nat) => True) (hk_B D (va_A [(h_lg, .inr (3, [.null, .int 0, .int 0]))] sz) (fun (u : Nat → Nat) => wv_lg cI cJ cZ cM h_lg u (fun _ => 0) 0 0)) (va_A [(h_lg, .inr (3, [.null, .int 0, .int 0]))] sz)) 1 512 (va_A [(h_lg, .inr (3, [.null, .int 0, .int 0]))] sz) := by
  refine Met.ofW (cc := cX3_init) (maxL := 1) (ret := none) (by decide) rfl ?_
  intro p e s m args below meth c s₁ B hml hv
  obtain ⟨rfl, hsz, hP, hK, hD0, hN⟩ := hv
  have hx := B.exec
  have hb := B.bytes
  have hr := B.returns
  have hts := atoms_spec (ws := hk_ws yX3_init cX3_init 1 none) B.pre
  have hta : ∀ w ∈ hk_all, w.before ([.ref h_lg] : List Value).toArray s = true := fun w hw => hts w (List.mem_cons_of_mem _ hw)
  have hown : s.vm.findClass RX3 = some m.cls := findClass_of_methodNamed B.named
  have hlocks := B.notSynchronized
  have hin : meth.name = "<init>" := (name_of_methodNamed B.named B.method).1
  have S0 : CallFix p m c cX3_init 1 s ([.ref h_lg] : List Value).toArray hk_all RX3 := ⟨hx, hb, hml, hown, hta⟩
  subst hsz
  have hD := hD0.self (sz := s.heap.size)
  generalize hAe : va_A [(h_lg, .inr (3, [.null, .int 0, .int 0]))] s.heap.size = A at hD ⊢
  have hA : ∀ q : Nat, s.heap.size ≤ q → A q := fun q h => by rw [← hAe]; exact Or.inr h
  have hS : va_S A s.heap s.heap [] := va_S.rf
  have hl := lv_entry ([.ref h_lg]) (n := 1) (Nat.le_of_ble_eq_true rfl)
  rw [lg_entry_eq]
  generalize (lg_sl ([.ref h_lg]) ++ List.replicate (1 - (lg_sl ([.ref h_lg])).length) Slot.unset).toArray = ls at hl ⊢
  have hl : lv_has ls 1 [(0, .ref h_lg)] := hl
  refine lv_aload_n hx hb dX3_init_0 rfl (lv_at hl 0 rfl) ?_
  refine W.objInit hx hb hown (hta _ hw_224) (hta _ hw_97) (hta _ hw_98) rfl (by rw [hml]; exact hl.1) rfl dX3_init_1 (Nat.le_of_ble_eq_true rfl) (Nat.le_of_ble_eq_true rfl) ?_
  refine W.eq (g2 := F0 m 4 ls []) rfl ?_
  refine lv_aload_n hx hb dX3_init_4 rfl (lv_at hl 0 rfl) ?_
  refine lv_sipush (v := 512) hx hb dX3_init_5 (by decide) ?_
  refine hk_newJ hx hb (hta _ hw_145) hK hP hD hS hA (by decide) (N' := 512) rfl (by decide) (Nat.le_of_ble_eq_true rfl) (Nat.le_of_ble_eq_true rfl) dX3_init_8 (fun q1 H hP hD hS => ?_)
  refine W.widen (k := 1) (n := 512) (Nat.le_of_ble_eq_true rfl) (Nat.le_of_ble_eq_true rfl) ?_
  have hP : va_P D vwCl [(h_lg, .inr (3, [.null, .int 0, .int 0])), (q1, .inl (cJ, 512, .inr (.inl (fun _ => 0))))] H := hP
  have hD : va_D A [(h_lg, .inr (3, [.null, .int 0, .int 0])), (q1, .inl (cJ, 512, .inr (.inl (fun _ => 0))))] := hD
  refine va_putF (D := D) (ci := 3) (v := .ref q1) (ty := tyX3 0) (C := RX3) (T := TX3) (N := 3) hx hb hta ih_X3 tyX3 tyX3_ok nmX3 hown hK hP hD hS 0 rfl rfl 0 (by decide) (hta _ hw_225) (fun _ h9 => h9) rfl hin rfl (tyX3_ok 0 (by decide)) rfl rfl (Nat.le_of_ble_eq_true rfl) dX3_init_10 (fun H locs hP hD hS => ?_)
  have hP : va_P D vwCl [(h_lg, .inr (3, [.ref q1, .int 0, .int 0])), (q1, .inl (cJ, 512, .inr (.inl (fun _ => 0))))] H := hP
  have hD : va_D A [(h_lg, .inr (3, [.ref q1, .int 0, .int 0])), (q1, .inl (cJ, 512, .inr (.inl (fun _ => 0))))] := hD
  have hP : va_P D vwCl (wv_lg cI cJ cZ cM h_lg (hk_adr [q1, 0, 0]) (fun _ => 0) 0 0) H := hP.sub [0, 1] rfl
  have hD : va_D A (wv_lg cI cJ cZ cM h_lg (hk_adr [q1, 0, 0]) (fun _ => 0) 0 0) := hD.sub [0, 1] (by decide) rfl
  exact W.vret hx hb hr (fun t ht hW => ⟨⟨(hk_adr [q1, 0, 0]), rfl, trivial, by rw [ht]; exact hP, hD⟩, hS.F ht⟩) hS.2.2 dX3_init_13
theorem mm_sm_init : hk_MI yX5_init cX5_init 1 0 := ⟨hw_174, hw_173, hw_83, rfl, by decide +kernel⟩
set_option maxRecDepth 100000 in
set_option maxHeartbeats 4000000 in
theorem c_sm_init (l : Launch) (D : va_G) (cI cJ cZ cM : ClassId) (h_sm : Nat) (sz : Nat) : Met l yX5_init (hk_ws yX5_init cX5_init 1 none) (hk_rc 1 12 2 120) (va_Pc [.ref h_sm] (hk_PM D (hk_ty cI cJ cZ cM) sz [(h_sm, .inr (5, [.null, .null, .int 0, .int 0, .long 0]))])) (va_Qv (fun (u : Nat → Nat) => True) (hk_B D (va_A [(h_sm, .inr (5, [.null, .null, .int 0, .int 0, .long 0]))] sz) (fun (u : Nat → Nat) => wv_sm cI cJ cZ cM h_sm u (fun _ => 0) (fun _ => 0) 0 0 0)) (va_A [(h_sm, .inr (5, [.null, .null, .int 0, .int 0, .long 0]))] sz)) 2 120 (va_A [(h_sm, .inr (5, [.null, .null, .int 0, .int 0, .long 0]))] sz) := by
  refine Met.ofW (cc := cX5_init) (maxL := 1) (ret := none) (by decide) rfl ?_
  intro p e s m args below meth c s₁ B hml hv
  obtain ⟨rfl, hsz, hP, hK, hD0, hN⟩ := hv
  have hx := B.exec
  have hb := B.bytes
  have hr := B.returns
  have hts := atoms_spec (ws := hk_ws yX5_init cX5_init 1 none) B.pre
  have hta : ∀ w ∈ hk_all, w.before ([.ref h_sm] : List Value).toArray s = true := fun w hw => hts w (List.mem_cons_of_mem _ hw)
  have hown : s.vm.findClass RX5 = some m.cls := findClass_of_methodNamed B.named
  have hlocks := B.notSynchronized
  have hin : meth.name = "<init>" := (name_of_methodNamed B.named B.method).1
  have S0 : CallFix p m c cX5_init 1 s ([.ref h_sm] : List Value).toArray hk_all RX5 := ⟨hx, hb, hml, hown, hta⟩
  subst hsz
  have hD := hD0.self (sz := s.heap.size)
  generalize hAe : va_A [(h_sm, .inr (5, [.null, .null, .int 0, .int 0, .long 0]))] s.heap.size = A at hD ⊢
  have hA : ∀ q : Nat, s.heap.size ≤ q → A q := fun q h => by rw [← hAe]; exact Or.inr h
  have hS : va_S A s.heap s.heap [] := va_S.rf
  have hl := lv_entry ([.ref h_sm]) (n := 1) (Nat.le_of_ble_eq_true rfl)
  rw [lg_entry_eq]
  generalize (lg_sl ([.ref h_sm]) ++ List.replicate (1 - (lg_sl ([.ref h_sm])).length) Slot.unset).toArray = ls at hl ⊢
  have hl : lv_has ls 1 [(0, .ref h_sm)] := hl
  refine lv_aload_n hx hb dX5_init_0 rfl (lv_at hl 0 rfl) ?_
  refine W.objInit hx hb hown (hta _ hw_175) (hta _ hw_97) (hta _ hw_98) rfl (by rw [hml]; exact hl.1) rfl dX5_init_1 (Nat.le_of_ble_eq_true rfl) (Nat.le_of_ble_eq_true rfl) ?_
  refine W.eq (g2 := F0 m 4 ls []) rfl ?_
  refine lv_aload_n hx hb dX5_init_4 rfl (lv_at hl 0 rfl) ?_
  refine lv_bipush (v := 60) hx hb dX5_init_5 (by decide) ?_
  refine hk_newI hx hb (hta _ hw_117) hK hP hD hS hA (by decide) (N' := 60) rfl (by decide) (Nat.le_of_ble_eq_true rfl) (Nat.le_of_ble_eq_true rfl) dX5_init_7 (fun q1 H hP hD hS => ?_)
  refine W.widen (k := 1) (n := 60) (Nat.le_of_ble_eq_true rfl) (Nat.le_of_ble_eq_true rfl) ?_
  have hP : va_P D vwCl [(h_sm, .inr (5, [.null, .null, .int 0, .int 0, .long 0])), (q1, .inl (cI, 60, .inl (fun _ => 0)))] H := hP
  have hD : va_D A [(h_sm, .inr (5, [.null, .null, .int 0, .int 0, .long 0])), (q1, .inl (cI, 60, .inl (fun _ => 0)))] := hD
  refine va_putF (D := D) (ci := 5) (v := .ref q1) (ty := tyX5 0) (C := RX5) (T := TX5) (N := 5) hx hb hta ih_X5 tyX5 tyX5_ok nmX5 hown hK hP hD hS 0 rfl rfl 0 (by decide) (hta _ hw_176) (fun _ h9 => h9) rfl hin rfl (tyX5_ok 0 (by decide)) rfl rfl (Nat.le_of_ble_eq_true rfl) dX5_init_9 (fun H locs hP hD hS => ?_)
  have hP : va_P D vwCl [(h_sm, .inr (5, [.ref q1, .null, .int 0, .int 0, .long 0])), (q1, .inl (cI, 60, .inl (fun _ => 0)))] H := hP
  have hD : va_D A [(h_sm, .inr (5, [.ref q1, .null, .int 0, .int 0, .long 0])), (q1, .inl (cI, 60, .inl (fun _ => 0)))] := hD
  refine lv_aload_n hx hb dX5_init_12 rfl (lv_at hl 0 rfl) ?_
  refine lv_bipush (v := 60) hx hb dX5_init_13 (by decide) ?_
  refine hk_newI hx hb (hta _ hw_117) hK hP hD hS hA (by decide) (N' := 60) rfl (by decide) (Nat.le_of_ble_eq_true rfl) (Nat.le_of_ble_eq_true rfl) dX5_init_15 (fun q2 H hP hD hS => ?_)
  refine W.widen (k := 2) (n := 120) (Nat.le_of_ble_eq_true rfl) (Nat.le_of_ble_eq_true rfl) ?_
  have hP : va_P D vwCl [(h_sm, .inr (5, [.ref q1, .null, .int 0, .int 0, .long 0])), (q1, .inl (cI, 60, .inl (fun _ => 0))), (q2, .inl (cI, 60, .inl (fun _ => 0)))] H := hP
  have hD : va_D A [(h_sm, .inr (5, [.ref q1, .null, .int 0, .int 0, .long 0])), (q1, .inl (cI, 60, .inl (fun _ => 0))), (q2, .inl (cI, 60, .inl (fun _ => 0)))] := hD
  refine va_putF (D := D) (ci := 5) (v := .ref q2) (ty := tyX5 1) (C := RX5) (T := TX5) (N := 5) hx hb hta ih_X5 tyX5 tyX5_ok nmX5 hown hK hP hD hS 0 rfl rfl 1 (by decide) (hta _ hw_178) (fun _ h9 => h9) rfl hin rfl (tyX5_ok 1 (by decide)) rfl rfl (Nat.le_of_ble_eq_true rfl) dX5_init_17 (fun H locs hP hD hS => ?_)
  have hP : va_P D vwCl [(h_sm, .inr (5, [.ref q1, .ref q2, .int 0, .int 0, .long 0])), (q1, .inl (cI, 60, .inl (fun _ => 0))), (q2, .inl (cI, 60, .inl (fun _ => 0)))] H := hP
  have hD : va_D A [(h_sm, .inr (5, [.ref q1, .ref q2, .int 0, .int 0, .long 0])), (q1, .inl (cI, 60, .inl (fun _ => 0))), (q2, .inl (cI, 60, .inl (fun _ => 0)))] := hD
  have hP : va_P D vwCl (wv_sm cI cJ cZ cM h_sm (hk_adr [q1, q2, 0, 0, 0]) (fun _ => 0) (fun _ => 0) 0 0 0) H := hP.sub [0, 1, 2] rfl
  have hD : va_D A (wv_sm cI cJ cZ cM h_sm (hk_adr [q1, q2, 0, 0, 0]) (fun _ => 0) (fun _ => 0) 0 0 0) := hD.sub [0, 1, 2] (by decide) rfl
  exact W.vret hx hb hr (fun t ht hW => ⟨⟨(hk_adr [q1, q2, 0, 0, 0]), rfl, trivial, by rw [ht]; exact hP, hD⟩, hS.F ht⟩) hS.2.2 dX5_init_20
theorem mm_ti_init : hk_MI yX6_init cX6_init 1 0 := ⟨hw_200, hw_199, hw_84, rfl, by decide +kernel⟩
set_option maxRecDepth 100000 in
set_option maxHeartbeats 4000000 in
theorem c_ti_init (l : Launch) (D : va_G) (cI cJ cZ cM : ClassId) (h_ti : Nat) (sz : Nat) : Met l yX6_init (hk_ws yX6_init cX6_init 1 none) (hk_rc 1 12 2 80) (va_Pc [.ref h_ti] (hk_PM D (hk_ty cI cJ cZ cM) sz [(h_ti, .inr (6, [.null, .null, .int 0, .int 0]))])) (va_Qv (fun (u : Nat → Nat) => True) (hk_B D (va_A [(h_ti, .inr (6, [.null, .null, .int 0, .int 0]))] sz) (fun (u : Nat → Nat) => wv_ti cI cJ cZ cM h_ti u (fun _ => 0) (fun _ => 0) 0 0)) (va_A [(h_ti, .inr (6, [.null, .null, .int 0, .int 0]))] sz)) 2 80 (va_A [(h_ti, .inr (6, [.null, .null, .int 0, .int 0]))] sz) := by
  refine Met.ofW (cc := cX6_init) (maxL := 1) (ret := none) (by decide) rfl ?_
  intro p e s m args below meth c s₁ B hml hv
  obtain ⟨rfl, hsz, hP, hK, hD0, hN⟩ := hv
  have hx := B.exec
  have hb := B.bytes
  have hr := B.returns
  have hts := atoms_spec (ws := hk_ws yX6_init cX6_init 1 none) B.pre
  have hta : ∀ w ∈ hk_all, w.before ([.ref h_ti] : List Value).toArray s = true := fun w hw => hts w (List.mem_cons_of_mem _ hw)
  have hown : s.vm.findClass RX6 = some m.cls := findClass_of_methodNamed B.named
  have hlocks := B.notSynchronized
  have hin : meth.name = "<init>" := (name_of_methodNamed B.named B.method).1
  have S0 : CallFix p m c cX6_init 1 s ([.ref h_ti] : List Value).toArray hk_all RX6 := ⟨hx, hb, hml, hown, hta⟩
  subst hsz
  have hD := hD0.self (sz := s.heap.size)
  generalize hAe : va_A [(h_ti, .inr (6, [.null, .null, .int 0, .int 0]))] s.heap.size = A at hD ⊢
  have hA : ∀ q : Nat, s.heap.size ≤ q → A q := fun q h => by rw [← hAe]; exact Or.inr h
  have hS : va_S A s.heap s.heap [] := va_S.rf
  have hl := lv_entry ([.ref h_ti]) (n := 1) (Nat.le_of_ble_eq_true rfl)
  rw [lg_entry_eq]
  generalize (lg_sl ([.ref h_ti]) ++ List.replicate (1 - (lg_sl ([.ref h_ti])).length) Slot.unset).toArray = ls at hl ⊢
  have hl : lv_has ls 1 [(0, .ref h_ti)] := hl
  refine lv_aload_n hx hb dX6_init_0 rfl (lv_at hl 0 rfl) ?_
  refine W.objInit hx hb hown (hta _ hw_201) (hta _ hw_97) (hta _ hw_98) rfl (by rw [hml]; exact hl.1) rfl dX6_init_1 (Nat.le_of_ble_eq_true rfl) (Nat.le_of_ble_eq_true rfl) ?_
  refine W.eq (g2 := F0 m 4 ls []) rfl ?_
  refine lv_aload_n hx hb dX6_init_4 rfl (lv_at hl 0 rfl) ?_
  refine lv_bipush (v := 40) hx hb dX6_init_5 (by decide) ?_
  refine hk_newI hx hb (hta _ hw_117) hK hP hD hS hA (by decide) (N' := 40) rfl (by decide) (Nat.le_of_ble_eq_true rfl) (Nat.le_of_ble_eq_true rfl) dX6_init_7 (fun q1 H hP hD hS => ?_)
  refine W.widen (k := 1) (n := 40) (Nat.le_of_ble_eq_true rfl) (Nat.le_of_ble_eq_true rfl) ?_
  have hP : va_P D vwCl [(h_ti, .inr (6, [.null, .null, .int 0, .int 0])), (q1, .inl (cI, 40, .inl (fun _ => 0)))] H := hP
  have hD : va_D A [(h_ti, .inr (6, [.null, .null, .int 0, .int 0])), (q1, .inl (cI, 40, .inl (fun _ => 0)))] := hD
  refine va_putF (D := D) (ci := 6) (v := .ref q1) (ty := tyX6 0) (C := RX6) (T := TX6) (N := 4) hx hb hta ih_X6 tyX6 tyX6_ok nmX6 hown hK hP hD hS 0 rfl rfl 0 (by decide) (hta _ hw_202) (fun _ h9 => h9) rfl hin rfl (tyX6_ok 0 (by decide)) rfl rfl (Nat.le_of_ble_eq_true rfl) dX6_init_9 (fun H locs hP hD hS => ?_)
  have hP : va_P D vwCl [(h_ti, .inr (6, [.ref q1, .null, .int 0, .int 0])), (q1, .inl (cI, 40, .inl (fun _ => 0)))] H := hP
  have hD : va_D A [(h_ti, .inr (6, [.ref q1, .null, .int 0, .int 0])), (q1, .inl (cI, 40, .inl (fun _ => 0)))] := hD
  refine lv_aload_n hx hb dX6_init_12 rfl (lv_at hl 0 rfl) ?_
  refine lv_bipush (v := 40) hx hb dX6_init_13 (by decide) ?_
  refine hk_newI hx hb (hta _ hw_117) hK hP hD hS hA (by decide) (N' := 40) rfl (by decide) (Nat.le_of_ble_eq_true rfl) (Nat.le_of_ble_eq_true rfl) dX6_init_15 (fun q2 H hP hD hS => ?_)
  refine W.widen (k := 2) (n := 80) (Nat.le_of_ble_eq_true rfl) (Nat.le_of_ble_eq_true rfl) ?_
  have hP : va_P D vwCl [(h_ti, .inr (6, [.ref q1, .null, .int 0, .int 0])), (q1, .inl (cI, 40, .inl (fun _ => 0))), (q2, .inl (cI, 40, .inl (fun _ => 0)))] H := hP
  have hD : va_D A [(h_ti, .inr (6, [.ref q1, .null, .int 0, .int 0])), (q1, .inl (cI, 40, .inl (fun _ => 0))), (q2, .inl (cI, 40, .inl (fun _ => 0)))] := hD
  refine va_putF (D := D) (ci := 6) (v := .ref q2) (ty := tyX6 1) (C := RX6) (T := TX6) (N := 4) hx hb hta ih_X6 tyX6 tyX6_ok nmX6 hown hK hP hD hS 0 rfl rfl 1 (by decide) (hta _ hw_204) (fun _ h9 => h9) rfl hin rfl (tyX6_ok 1 (by decide)) rfl rfl (Nat.le_of_ble_eq_true rfl) dX6_init_17 (fun H locs hP hD hS => ?_)
  have hP : va_P D vwCl [(h_ti, .inr (6, [.ref q1, .ref q2, .int 0, .int 0])), (q1, .inl (cI, 40, .inl (fun _ => 0))), (q2, .inl (cI, 40, .inl (fun _ => 0)))] H := hP
  have hD : va_D A [(h_ti, .inr (6, [.ref q1, .ref q2, .int 0, .int 0])), (q1, .inl (cI, 40, .inl (fun _ => 0))), (q2, .inl (cI, 40, .inl (fun _ => 0)))] := hD
  have hP : va_P D vwCl (wv_ti cI cJ cZ cM h_ti (hk_adr [q1, q2, 0, 0]) (fun _ => 0) (fun _ => 0) 0 0) H := hP.sub [0, 1, 2] rfl
  have hD : va_D A (wv_ti cI cJ cZ cM h_ti (hk_adr [q1, q2, 0, 0]) (fun _ => 0) (fun _ => 0) 0 0) := hD.sub [0, 1, 2] (by decide) rfl
  exact W.vret hx hb hr (fun t ht hW => ⟨⟨(hk_adr [q1, q2, 0, 0]), rfl, trivial, by rw [ht]; exact hP, hD⟩, hS.F ht⟩) hS.2.2 dX6_init_20
theorem mm_mk_init : hk_MI yX4_init cX4_init 1 0 := ⟨hw_655, hw_654, hw_90, rfl, by decide +kernel⟩
set_option maxRecDepth 100000 in
set_option maxHeartbeats 4000000 in
theorem c_mk_init (l : Launch) (D : va_G) (cI cJ cZ cM : ClassId) (h_mk : Nat) (sz : Nat) : Met l yX4_init (hk_ws yX4_init cX4_init 1 none) (hk_rc 2 32 9 1009) (va_Pc [.ref h_mk] (hk_PM D (hk_ty cI cJ cZ cM) sz [(h_mk, .inr (4, [.null, .null, .null, .null, .null, .int 0]))])) (va_Qv (fun (u : (Nat → Nat) × Nat × (Nat → Nat) × Nat × (Nat → Nat)) => True) (hk_B D (va_A [(h_mk, .inr (4, [.null, .null, .null, .null, .null, .int 0]))] sz) (fun (u : (Nat → Nat) × Nat × (Nat → Nat) × Nat × (Nat → Nat)) => wv_mk cI cJ cZ cM h_mk u.1 (fun _ => 0) (fun _ => 0) (fun _ => 0) u.2.1 u.2.2.2.1 0 ++ (wv_sm cI cJ cZ cM u.2.1 u.2.2.1 (fun _ => 0) (fun _ => 0) 0 0 0 ++ (wv_ti cI cJ cZ cM u.2.2.2.1 u.2.2.2.2 (fun _ => 0) (fun _ => 0) 0 0)))) (va_A [(h_mk, .inr (4, [.null, .null, .null, .null, .null, .int 0]))] sz)) 9 1009 (va_A [(h_mk, .inr (4, [.null, .null, .null, .null, .null, .int 0]))] sz) := by
  refine Met.ofW (cc := cX4_init) (maxL := 1) (ret := none) (by decide) rfl ?_
  intro p e s m args below meth c s₁ B hml hv
  obtain ⟨rfl, hsz, hP, hK, hD0, hN⟩ := hv
  have hx := B.exec
  have hb := B.bytes
  have hr := B.returns
  have hts := atoms_spec (ws := hk_ws yX4_init cX4_init 1 none) B.pre
  have hta : ∀ w ∈ hk_all, w.before ([.ref h_mk] : List Value).toArray s = true := fun w hw => hts w (List.mem_cons_of_mem _ hw)
  have hown : s.vm.findClass RX4 = some m.cls := findClass_of_methodNamed B.named
  have hlocks := B.notSynchronized
  have hin : meth.name = "<init>" := (name_of_methodNamed B.named B.method).1
  have S0 : CallFix p m c cX4_init 1 s ([.ref h_mk] : List Value).toArray hk_all RX4 := ⟨hx, hb, hml, hown, hta⟩
  subst hsz
  have hD := hD0.self (sz := s.heap.size)
  generalize hAe : va_A [(h_mk, .inr (4, [.null, .null, .null, .null, .null, .int 0]))] s.heap.size = A at hD ⊢
  have hA : ∀ q : Nat, s.heap.size ≤ q → A q := fun q h => by rw [← hAe]; exact Or.inr h
  have hS : va_S A s.heap s.heap [] := va_S.rf
  have hl := lv_entry ([.ref h_mk]) (n := 1) (Nat.le_of_ble_eq_true rfl)
  rw [lg_entry_eq]
  generalize (lg_sl ([.ref h_mk]) ++ List.replicate (1 - (lg_sl ([.ref h_mk])).length) Slot.unset).toArray = ls at hl ⊢
  have hl : lv_has ls 1 [(0, .ref h_mk)] := hl
  refine lv_aload_n hx hb dX4_init_0 rfl (lv_at hl 0 rfl) ?_
  refine W.objInit hx hb hown (hta _ hw_656) (hta _ hw_97) (hta _ hw_98) rfl (by rw [hml]; exact hl.1) rfl dX4_init_1 (Nat.le_of_ble_eq_true rfl) (Nat.le_of_ble_eq_true rfl) ?_
  refine W.eq (g2 := F0 m 4 ls []) rfl ?_
  refine lv_aload_n hx hb dX4_init_4 rfl (lv_at hl 0 rfl) ?_
  refine lv_sipush (v := 600) hx hb dX4_init_5 (by decide) ?_
  refine hk_newJ hx hb (hta _ hw_145) hK hP hD hS hA (by decide) (N' := 600) rfl (by decide) (Nat.le_of_ble_eq_true rfl) (Nat.le_of_ble_eq_true rfl) dX4_init_8 (fun q1 H hP hD hS => ?_)
  refine W.widen (k := 1) (n := 600) (Nat.le_of_ble_eq_true rfl) (Nat.le_of_ble_eq_true rfl) ?_
  have hP : va_P D vwCl [(h_mk, .inr (4, [.null, .null, .null, .null, .null, .int 0])), (q1, .inl (cJ, 600, .inr (.inl (fun _ => 0))))] H := hP
  have hD : va_D A [(h_mk, .inr (4, [.null, .null, .null, .null, .null, .int 0])), (q1, .inl (cJ, 600, .inr (.inl (fun _ => 0))))] := hD
  refine va_putF (D := D) (ci := 4) (v := .ref q1) (ty := tyX4 0) (C := RX4) (T := TX4) (N := 6) hx hb hta ih_X4 tyX4 tyX4_ok nmX4 hown hK hP hD hS 0 rfl rfl 0 (by decide) (hta _ hw_661) (fun _ h9 => h9) rfl hin rfl (tyX4_ok 0 (by decide)) rfl rfl (Nat.le_of_ble_eq_true rfl) dX4_init_10 (fun H locs hP hD hS => ?_)
  have hP : va_P D vwCl [(h_mk, .inr (4, [.ref q1, .null, .null, .null, .null, .int 0])), (q1, .inl (cJ, 600, .inr (.inl (fun _ => 0))))] H := hP
  have hD : va_D A [(h_mk, .inr (4, [.ref q1, .null, .null, .null, .null, .int 0])), (q1, .inl (cJ, 600, .inr (.inl (fun _ => 0))))] := hD
  refine lv_aload_n hx hb dX4_init_13 rfl (lv_at hl 0 rfl) ?_
  refine lv_bipush (v := 100) hx hb dX4_init_14 (by decide) ?_
  refine hk_newI hx hb (hta _ hw_117) hK hP hD hS hA (by decide) (N' := 100) rfl (by decide) (Nat.le_of_ble_eq_true rfl) (Nat.le_of_ble_eq_true rfl) dX4_init_16 (fun q2 H hP hD hS => ?_)
  refine W.widen (k := 2) (n := 700) (Nat.le_of_ble_eq_true rfl) (Nat.le_of_ble_eq_true rfl) ?_
  have hP : va_P D vwCl [(h_mk, .inr (4, [.ref q1, .null, .null, .null, .null, .int 0])), (q1, .inl (cJ, 600, .inr (.inl (fun _ => 0)))), (q2, .inl (cI, 100, .inl (fun _ => 0)))] H := hP
  have hD : va_D A [(h_mk, .inr (4, [.ref q1, .null, .null, .null, .null, .int 0])), (q1, .inl (cJ, 600, .inr (.inl (fun _ => 0)))), (q2, .inl (cI, 100, .inl (fun _ => 0)))] := hD
  refine va_putF (D := D) (ci := 4) (v := .ref q2) (ty := tyX4 1) (C := RX4) (T := TX4) (N := 6) hx hb hta ih_X4 tyX4 tyX4_ok nmX4 hown hK hP hD hS 0 rfl rfl 1 (by decide) (hta _ hw_663) (fun _ h9 => h9) rfl hin rfl (tyX4_ok 1 (by decide)) rfl rfl (Nat.le_of_ble_eq_true rfl) dX4_init_18 (fun H locs hP hD hS => ?_)
  have hP : va_P D vwCl [(h_mk, .inr (4, [.ref q1, .ref q2, .null, .null, .null, .int 0])), (q1, .inl (cJ, 600, .inr (.inl (fun _ => 0)))), (q2, .inl (cI, 100, .inl (fun _ => 0)))] H := hP
  have hD : va_D A [(h_mk, .inr (4, [.ref q1, .ref q2, .null, .null, .null, .int 0])), (q1, .inl (cJ, 600, .inr (.inl (fun _ => 0)))), (q2, .inl (cI, 100, .inl (fun _ => 0)))] := hD
  refine lv_aload_n hx hb dX4_init_21 rfl (lv_at hl 0 rfl) ?_
  refine lv_bipush (v := 100) hx hb dX4_init_22 (by decide) ?_
  refine hk_newJ hx hb (hta _ hw_145) hK hP hD hS hA (by decide) (N' := 100) rfl (by decide) (Nat.le_of_ble_eq_true rfl) (Nat.le_of_ble_eq_true rfl) dX4_init_24 (fun q3 H hP hD hS => ?_)
  refine W.widen (k := 3) (n := 800) (Nat.le_of_ble_eq_true rfl) (Nat.le_of_ble_eq_true rfl) ?_
  have hP : va_P D vwCl [(h_mk, .inr (4, [.ref q1, .ref q2, .null, .null, .null, .int 0])), (q1, .inl (cJ, 600, .inr (.inl (fun _ => 0)))), (q2, .inl (cI, 100, .inl (fun _ => 0))), (q3, .inl (cJ, 100, .inr (.inl (fun _ => 0))))] H := hP
  have hD : va_D A [(h_mk, .inr (4, [.ref q1, .ref q2, .null, .null, .null, .int 0])), (q1, .inl (cJ, 600, .inr (.inl (fun _ => 0)))), (q2, .inl (cI, 100, .inl (fun _ => 0))), (q3, .inl (cJ, 100, .inr (.inl (fun _ => 0))))] := hD
  refine va_putF (D := D) (ci := 4) (v := .ref q3) (ty := tyX4 2) (C := RX4) (T := TX4) (N := 6) hx hb hta ih_X4 tyX4 tyX4_ok nmX4 hown hK hP hD hS 0 rfl rfl 2 (by decide) (hta _ hw_665) (fun _ h9 => h9) rfl hin rfl (tyX4_ok 2 (by decide)) rfl rfl (Nat.le_of_ble_eq_true rfl) dX4_init_26 (fun H locs hP hD hS => ?_)
  have hP : va_P D vwCl [(h_mk, .inr (4, [.ref q1, .ref q2, .ref q3, .null, .null, .int 0])), (q1, .inl (cJ, 600, .inr (.inl (fun _ => 0)))), (q2, .inl (cI, 100, .inl (fun _ => 0))), (q3, .inl (cJ, 100, .inr (.inl (fun _ => 0))))] H := hP
  have hD : va_D A [(h_mk, .inr (4, [.ref q1, .ref q2, .ref q3, .null, .null, .int 0])), (q1, .inl (cJ, 600, .inr (.inl (fun _ => 0)))), (q2, .inl (cI, 100, .inl (fun _ => 0))), (q3, .inl (cJ, 100, .inr (.inl (fun _ => 0))))] := hD
  refine lv_aload_n hx hb dX4_init_29 rfl (lv_at hl 0 rfl) ?_
  refine va_new (ci := 5) (fs := [.null, .null, .int 0, .int 0, .long 0]) (C := RX5) (T := TX5) (N := 5) hx hb hta ih_X5 tyX5 tyX5_ok hown (hta _ hw_657) (hta _ hw_171) (hta _ hw_83) hK hP hD hS hA rfl (hk_fX5) (Nat.le_of_ble_eq_true rfl) (Nat.le_of_ble_eq_true rfl) dX4_init_30 (fun q4 H hP hD hS => ?_)
  refine W.widen (k := 4) (n := 805) (Nat.le_of_ble_eq_true rfl) (Nat.le_of_ble_eq_true rfl) ?_
  have hP : va_P D vwCl [(h_mk, .inr (4, [.ref q1, .ref q2, .ref q3, .null, .null, .int 0])), (q1, .inl (cJ, 600, .inr (.inl (fun _ => 0)))), (q2, .inl (cI, 100, .inl (fun _ => 0))), (q3, .inl (cJ, 100, .inr (.inl (fun _ => 0)))), (q4, .inr (5, [.null, .null, .int 0, .int 0, .long 0]))] H := hP
  have hD : va_D A [(h_mk, .inr (4, [.ref q1, .ref q2, .ref q3, .null, .null, .int 0])), (q1, .inl (cJ, 600, .inr (.inl (fun _ => 0)))), (q2, .inl (cI, 100, .inl (fun _ => 0))), (q3, .inl (cJ, 100, .inr (.inl (fun _ => 0)))), (q4, .inr (5, [.null, .null, .int 0, .int 0, .long 0]))] := hD
  refine lv_dup hx hb dX4_init_33 rfl ?_
  refine hk_cv (wr := [(h_mk, .inr (4, [.ref q1, .ref q2, .ref q3, .null, .null, .int 0])), (q1, .inl (cJ, 600, .inr (.inl (fun _ => 0)))), (q2, .inl (cI, 100, .inl (fun _ => 0))), (q3, .inl (cJ, 100, .inr (.inl (fun _ => 0))))]) [4] [0, 1, 2, 3] (hk_runIN (As := []) (rest := [.ref q4, .ref h_mk]) S0 mm_sm_init (c_sm_init l D cI cJ cZ cM q4 H.size) (hN.1 _ hn_658) hk_blM (hk_atM (hP.sub (ws' := [(q4, .inr (5, [.null, .null, .int 0, .int 0, .long 0]))]) [4] rfl) hK (hD.sub (ws' := [(q4, .inr (5, [.null, .null, .int 0, .int 0, .long 0]))]) [4] (by decide) rfl) hN) ⟨rfl, rfl, Nat.le_of_ble_eq_true rfl, Nat.le_of_ble_eq_true rfl⟩ rfl hl.1 rfl (Nat.le_of_ble_eq_true rfl) dX4_init_34 ⟨Nat.le_of_ble_eq_true rfl, Nat.le_of_ble_eq_true rfl⟩) hP hD hS hA rfl rfl (by decide) (by decide) (fun b_sm H locs _ hP hD hS => ?_)
  refine W.widen (k := 6) (n := 925) (Nat.le_of_ble_eq_true rfl) (Nat.le_of_ble_eq_true rfl) ?_
  have hP : va_P D vwCl [(h_mk, .inr (4, [.ref q1, .ref q2, .ref q3, .null, .null, .int 0])), (q1, .inl (cJ, 600, .inr (.inl (fun _ => 0)))), (q2, .inl (cI, 100, .inl (fun _ => 0))), (q3, .inl (cJ, 100, .inr (.inl (fun _ => 0)))), (q4, .inr (5, [.ref (b_sm 0), .ref (b_sm 1), .int 0, .int 0, .long 0])), ((b_sm 0), .inl (cI, 60, .inl (fun _ => 0))), ((b_sm 1), .inl (cI, 60, .inl (fun _ => 0)))] H := hP
  have hD : va_D A [(h_mk, .inr (4, [.ref q1, .ref q2, .ref q3, .null, .null, .int 0])), (q1, .inl (cJ, 600, .inr (.inl (fun _ => 0)))), (q2, .inl (cI, 100, .inl (fun _ => 0))), (q3, .inl (cJ, 100, .inr (.inl (fun _ => 0)))), (q4, .inr (5, [.ref (b_sm 0), .ref (b_sm 1), .int 0, .int 0, .long 0])), ((b_sm 0), .inl (cI, 60, .inl (fun _ => 0))), ((b_sm 1), .inl (cI, 60, .inl (fun _ => 0)))] := hD
  refine va_putF (D := D) (ci := 4) (v := .ref q4) (ty := tyX4 3) (C := RX4) (T := TX4) (N := 6) hx hb hta ih_X4 tyX4 tyX4_ok nmX4 hown hK hP hD hS 0 rfl rfl 3 (by decide) (hta _ hw_667) (fun _ h9 => h9) rfl hin rfl (tyX4_ok 3 (by decide)) rfl rfl (Nat.le_of_ble_eq_true rfl) dX4_init_37 (fun H locs hP hD hS => ?_)
  have hP : va_P D vwCl [(h_mk, .inr (4, [.ref q1, .ref q2, .ref q3, .ref q4, .null, .int 0])), (q1, .inl (cJ, 600, .inr (.inl (fun _ => 0)))), (q2, .inl (cI, 100, .inl (fun _ => 0))), (q3, .inl (cJ, 100, .inr (.inl (fun _ => 0)))), (q4, .inr (5, [.ref (b_sm 0), .ref (b_sm 1), .int 0, .int 0, .long 0])), ((b_sm 0), .inl (cI, 60, .inl (fun _ => 0))), ((b_sm 1), .inl (cI, 60, .inl (fun _ => 0)))] H := hP
  have hD : va_D A [(h_mk, .inr (4, [.ref q1, .ref q2, .ref q3, .ref q4, .null, .int 0])), (q1, .inl (cJ, 600, .inr (.inl (fun _ => 0)))), (q2, .inl (cI, 100, .inl (fun _ => 0))), (q3, .inl (cJ, 100, .inr (.inl (fun _ => 0)))), (q4, .inr (5, [.ref (b_sm 0), .ref (b_sm 1), .int 0, .int 0, .long 0])), ((b_sm 0), .inl (cI, 60, .inl (fun _ => 0))), ((b_sm 1), .inl (cI, 60, .inl (fun _ => 0)))] := hD
  refine lv_aload_n hx hb dX4_init_40 rfl (lv_at hl 0 rfl) ?_
  refine va_new (ci := 6) (fs := [.null, .null, .int 0, .int 0]) (C := RX6) (T := TX6) (N := 4) hx hb hta ih_X6 tyX6 tyX6_ok hown (hta _ hw_659) (hta _ hw_197) (hta _ hw_84) hK hP hD hS hA rfl (hk_fX6) (Nat.le_of_ble_eq_true rfl) (Nat.le_of_ble_eq_true rfl) dX4_init_41 (fun q5 H hP hD hS => ?_)
  refine W.widen (k := 7) (n := 929) (Nat.le_of_ble_eq_true rfl) (Nat.le_of_ble_eq_true rfl) ?_
  have hP : va_P D vwCl [(h_mk, .inr (4, [.ref q1, .ref q2, .ref q3, .ref q4, .null, .int 0])), (q1, .inl (cJ, 600, .inr (.inl (fun _ => 0)))), (q2, .inl (cI, 100, .inl (fun _ => 0))), (q3, .inl (cJ, 100, .inr (.inl (fun _ => 0)))), (q4, .inr (5, [.ref (b_sm 0), .ref (b_sm 1), .int 0, .int 0, .long 0])), ((b_sm 0), .inl (cI, 60, .inl (fun _ => 0))), ((b_sm 1), .inl (cI, 60, .inl (fun _ => 0))), (q5, .inr (6, [.null, .null, .int 0, .int 0]))] H := hP
  have hD : va_D A [(h_mk, .inr (4, [.ref q1, .ref q2, .ref q3, .ref q4, .null, .int 0])), (q1, .inl (cJ, 600, .inr (.inl (fun _ => 0)))), (q2, .inl (cI, 100, .inl (fun _ => 0))), (q3, .inl (cJ, 100, .inr (.inl (fun _ => 0)))), (q4, .inr (5, [.ref (b_sm 0), .ref (b_sm 1), .int 0, .int 0, .long 0])), ((b_sm 0), .inl (cI, 60, .inl (fun _ => 0))), ((b_sm 1), .inl (cI, 60, .inl (fun _ => 0))), (q5, .inr (6, [.null, .null, .int 0, .int 0]))] := hD
  refine lv_dup hx hb dX4_init_44 rfl ?_
  refine hk_cv (wr := [(h_mk, .inr (4, [.ref q1, .ref q2, .ref q3, .ref q4, .null, .int 0])), (q1, .inl (cJ, 600, .inr (.inl (fun _ => 0)))), (q2, .inl (cI, 100, .inl (fun _ => 0))), (q3, .inl (cJ, 100, .inr (.inl (fun _ => 0)))), (q4, .inr (5, [.ref (b_sm 0), .ref (b_sm 1), .int 0, .int 0, .long 0])), ((b_sm 0), .inl (cI, 60, .inl (fun _ => 0))), ((b_sm 1), .inl (cI, 60, .inl (fun _ => 0)))]) [7] [0, 1, 2, 3, 4, 5, 6] (hk_runIN (As := []) (rest := [.ref q5, .ref h_mk]) S0 mm_ti_init (c_ti_init l D cI cJ cZ cM q5 H.size) (hN.1 _ hn_660) hk_blM (hk_atM (hP.sub (ws' := [(q5, .inr (6, [.null, .null, .int 0, .int 0]))]) [7] rfl) hK (hD.sub (ws' := [(q5, .inr (6, [.null, .null, .int 0, .int 0]))]) [7] (by decide) rfl) hN) ⟨rfl, rfl, Nat.le_of_ble_eq_true rfl, Nat.le_of_ble_eq_true rfl⟩ rfl hl.1 rfl (Nat.le_of_ble_eq_true rfl) dX4_init_45 ⟨Nat.le_of_ble_eq_true rfl, Nat.le_of_ble_eq_true rfl⟩) hP hD hS hA rfl rfl (by decide) (by decide) (fun b_ti H locs _ hP hD hS => ?_)
  refine W.widen (k := 9) (n := 1009) (Nat.le_of_ble_eq_true rfl) (Nat.le_of_ble_eq_true rfl) ?_
  have hP : va_P D vwCl [(h_mk, .inr (4, [.ref q1, .ref q2, .ref q3, .ref q4, .null, .int 0])), (q1, .inl (cJ, 600, .inr (.inl (fun _ => 0)))), (q2, .inl (cI, 100, .inl (fun _ => 0))), (q3, .inl (cJ, 100, .inr (.inl (fun _ => 0)))), (q4, .inr (5, [.ref (b_sm 0), .ref (b_sm 1), .int 0, .int 0, .long 0])), ((b_sm 0), .inl (cI, 60, .inl (fun _ => 0))), ((b_sm 1), .inl (cI, 60, .inl (fun _ => 0))), (q5, .inr (6, [.ref (b_ti 0), .ref (b_ti 1), .int 0, .int 0])), ((b_ti 0), .inl (cI, 40, .inl (fun _ => 0))), ((b_ti 1), .inl (cI, 40, .inl (fun _ => 0)))] H := hP
  have hD : va_D A [(h_mk, .inr (4, [.ref q1, .ref q2, .ref q3, .ref q4, .null, .int 0])), (q1, .inl (cJ, 600, .inr (.inl (fun _ => 0)))), (q2, .inl (cI, 100, .inl (fun _ => 0))), (q3, .inl (cJ, 100, .inr (.inl (fun _ => 0)))), (q4, .inr (5, [.ref (b_sm 0), .ref (b_sm 1), .int 0, .int 0, .long 0])), ((b_sm 0), .inl (cI, 60, .inl (fun _ => 0))), ((b_sm 1), .inl (cI, 60, .inl (fun _ => 0))), (q5, .inr (6, [.ref (b_ti 0), .ref (b_ti 1), .int 0, .int 0])), ((b_ti 0), .inl (cI, 40, .inl (fun _ => 0))), ((b_ti 1), .inl (cI, 40, .inl (fun _ => 0)))] := hD
  refine va_putF (D := D) (ci := 4) (v := .ref q5) (ty := tyX4 4) (C := RX4) (T := TX4) (N := 6) hx hb hta ih_X4 tyX4 tyX4_ok nmX4 hown hK hP hD hS 0 rfl rfl 4 (by decide) (hta _ hw_669) (fun _ h9 => h9) rfl hin rfl (tyX4_ok 4 (by decide)) rfl rfl (Nat.le_of_ble_eq_true rfl) dX4_init_48 (fun H locs hP hD hS => ?_)
  have hP : va_P D vwCl [(h_mk, .inr (4, [.ref q1, .ref q2, .ref q3, .ref q4, .ref q5, .int 0])), (q1, .inl (cJ, 600, .inr (.inl (fun _ => 0)))), (q2, .inl (cI, 100, .inl (fun _ => 0))), (q3, .inl (cJ, 100, .inr (.inl (fun _ => 0)))), (q4, .inr (5, [.ref (b_sm 0), .ref (b_sm 1), .int 0, .int 0, .long 0])), ((b_sm 0), .inl (cI, 60, .inl (fun _ => 0))), ((b_sm 1), .inl (cI, 60, .inl (fun _ => 0))), (q5, .inr (6, [.ref (b_ti 0), .ref (b_ti 1), .int 0, .int 0])), ((b_ti 0), .inl (cI, 40, .inl (fun _ => 0))), ((b_ti 1), .inl (cI, 40, .inl (fun _ => 0)))] H := hP
  have hD : va_D A [(h_mk, .inr (4, [.ref q1, .ref q2, .ref q3, .ref q4, .ref q5, .int 0])), (q1, .inl (cJ, 600, .inr (.inl (fun _ => 0)))), (q2, .inl (cI, 100, .inl (fun _ => 0))), (q3, .inl (cJ, 100, .inr (.inl (fun _ => 0)))), (q4, .inr (5, [.ref (b_sm 0), .ref (b_sm 1), .int 0, .int 0, .long 0])), ((b_sm 0), .inl (cI, 60, .inl (fun _ => 0))), ((b_sm 1), .inl (cI, 60, .inl (fun _ => 0))), (q5, .inr (6, [.ref (b_ti 0), .ref (b_ti 1), .int 0, .int 0])), ((b_ti 0), .inl (cI, 40, .inl (fun _ => 0))), ((b_ti 1), .inl (cI, 40, .inl (fun _ => 0)))] := hD
  have hP : va_P D vwCl (wv_mk cI cJ cZ cM h_mk (hk_adr [q1, q2, q3, 0, 0, 0]) (fun _ => 0) (fun _ => 0) (fun _ => 0) q4 q5 0 ++ (wv_sm cI cJ cZ cM q4 b_sm (fun _ => 0) (fun _ => 0) 0 0 0 ++ (wv_ti cI cJ cZ cM q5 b_ti (fun _ => 0) (fun _ => 0) 0 0))) H := hP.sub [0, 1, 2, 3, 4, 5, 6, 7, 8, 9] rfl
  have hD : va_D A (wv_mk cI cJ cZ cM h_mk (hk_adr [q1, q2, q3, 0, 0, 0]) (fun _ => 0) (fun _ => 0) (fun _ => 0) q4 q5 0 ++ (wv_sm cI cJ cZ cM q4 b_sm (fun _ => 0) (fun _ => 0) 0 0 0 ++ (wv_ti cI cJ cZ cM q5 b_ti (fun _ => 0) (fun _ => 0) 0 0))) := hD.sub [0, 1, 2, 3, 4, 5, 6, 7, 8, 9] (by decide) rfl
  exact W.vret hx hb hr (fun t ht hW => ⟨⟨((hk_adr [q1, q2, q3, 0, 0, 0]), q4, b_sm, q5, b_ti), rfl, trivial, by rw [ht]; exact hP, hD⟩, hS.F ht⟩) hS.2.2 dX4_init_51
