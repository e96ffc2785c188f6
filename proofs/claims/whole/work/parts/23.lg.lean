def wp_lg_open (p1 : Int32) (p2 : Int32) (lg_cells : Nat → Int64) (lg_newest : Int32) (lg_kept : Int32) (post : Int32 → ((Nat → Int64) × Int32 × Int32) → Prop) : Prop := ∀ x1 : Int32, x1 = (lg_newest + 1) - (lg_newest + 1) / 64 * 64 → ∀ x2 : Int32, x2 = (if 64 < (lg_kept + 1) then 64 else (lg_kept + 1)) → ∀ x3 : Int32, x3 = x1 * 8 → vp_in x3 512 ∧ (vp_in (x3 + 1) 512 ∧ ((¬ (x3 + 8) < (x3 + 2)) ∧ (¬ (x3 + 2) < 0) ∧ ((x3 + 8).toNatClampNeg ≤ 512) ∧ (post x3 (hk_fillr (vp_updL (vp_updL lg_cells x3.toNatClampNeg p1.toInt64) (x3 + 1).toNatClampNeg p2.toInt64) (x3 + 2).toNatClampNeg (x3 + 8).toNatClampNeg (-4000000000000), x1, x2))))
theorem mm_lg_open : hk_MV yX3_open cX3_open 4 (some .int) 2 := ⟨hw_616, hw_615, hw_46, hw_85, by decide +kernel⟩
set_option maxRecDepth 100000 in
set_option maxHeartbeats 4000000 in
theorem c_lg_open (l : Launch) (D : va_G) (cI cJ cZ cM : ClassId) (h_lg : Nat) (a_lg : Nat → Nat) (sz : Nat) (lg_cells : Nat → Int64) (lg_newest : Int32) (lg_kept : Int32) (p1 : Int32) (p2 : Int32) (post : Int32 → ((Nat → Int64) × Int32 × Int32) → Prop) (h : wp_lg_open p1 p2 lg_cells lg_newest lg_kept post) : Met l yX3_open (hk_ws yX3_open cX3_open 4 (some .int)) (hk_rm 2 47) (va_Pc [.ref h_lg, .int p1, .int p2] (hk_PM D (hk_ty cI cJ cZ cM) sz (wv_lg cI cJ cZ cM h_lg a_lg lg_cells lg_newest lg_kept))) (va_Qi post (hk_B D (va_A (wv_lg cI cJ cZ cM h_lg a_lg lg_cells lg_newest lg_kept) sz) (fun (u : (Nat → Int64) × Int32 × Int32) => wv_lg cI cJ cZ cM h_lg a_lg u.1 u.2.1 u.2.2)) (va_A (wv_lg cI cJ cZ cM h_lg a_lg lg_cells lg_newest lg_kept) sz)) 0 0 (va_A (wv_lg cI cJ cZ cM h_lg a_lg lg_cells lg_newest lg_kept) sz) := by
  refine Met.ofW (cc := cX3_open) (maxL := 4) (ret := (some .int)) (by decide) rfl ?_
  intro p e s m args below meth c s₁ B hml hv
  obtain ⟨rfl, hsz, hP, hK, hD0, hN⟩ := hv
  have hx := B.exec
  have hb := B.bytes
  have hr := B.returns
  have hts := atoms_spec (ws := hk_ws yX3_open cX3_open 4 (some .int)) B.pre
  have hta : ∀ w ∈ hk_all, w.before ([.ref h_lg, .int p1, .int p2] : List Value).toArray s = true := fun w hw => hts w (List.mem_cons_of_mem _ hw)
  have hown : s.vm.findClass RX3 = some m.cls := findClass_of_methodNamed B.named
  have hlocks := B.notSynchronized
  have S0 : CallFix p m c cX3_open 4 s ([.ref h_lg, .int p1, .int p2] : List Value).toArray hk_all RX3 := ⟨hx, hb, hml, hown, hta⟩
  subst hsz
  have hD := hD0.self (sz := s.heap.size)
  generalize hAe : va_A (wv_lg cI cJ cZ cM h_lg a_lg lg_cells lg_newest lg_kept) s.heap.size = A at hD ⊢
  have hA : ∀ q : Nat, s.heap.size ≤ q → A q := fun q h => by rw [← hAe]; exact Or.inr h
  have hS : va_S A s.heap s.heap [] := va_S.rf
  have hl := lv_entry ([.ref h_lg, .int p1, .int p2]) (n := 4) (Nat.le_of_ble_eq_true rfl)
  rw [lg_entry_eq]
  generalize (lg_sl ([.ref h_lg, .int p1, .int p2]) ++ List.replicate (4 - (lg_sl ([.ref h_lg, .int p1, .int p2])).length) Slot.unset).toArray = ls at hl ⊢
  have hl : lv_has ls 4 [(0, .ref h_lg), (1, .int p1), (2, .int p2)] := hl
  unfold wp_lg_open at h
  refine lv_aload_n hx hb dX3_open_0 rfl (lv_at hl 0 rfl) ?_
  refine lv_aload_n hx hb dX3_open_1 rfl (lv_at hl 0 rfl) ?_
  refine va_get (D := D) (ci := 3) (v := .int lg_newest) (C := RX3) (T := TX3) (N := 3) hx hb hta ih_X3 hown hK hP 0 rfl rfl 1 (by decide) (hta _ hw_226) (fun _ h9 => h9) rfl dX3_open_2 ?_
  refine lv_iconst (v := 1) hx hb dX3_open_5 (by decide) ?_
  refine lv_iadd hx hb dX3_open_6 ?_
  refine lv_bipush (v := 64) hx hb dX3_open_7 (by decide) ?_
  refine lv_irem hx hb dX3_open_9 (by decide) ?_
  refine lv_topi (fun x1 ex1 => ?_)
  have h := h x1 ex1
  refine va_put (D := D) (ci := 3) (v := .int x1) (ty := .int) (C := RX3) (T := TX3) (N := 3) hx hb hta ih_X3 tyX3 tyX3_ok nmX3 hown hK hP hD hS 0 rfl rfl 1 (by decide) (hta _ hw_226) (fun _ h9 => h9) rfl (by decide +kernel) rfl rfl (Nat.le_of_ble_eq_true rfl) dX3_open_10 (fun H locs hP hD hS => ?_)
  have hP : va_P D vwCl (wv_lg cI cJ cZ cM h_lg a_lg lg_cells x1 lg_kept) H := hP
  have hD : va_D A (wv_lg cI cJ cZ cM h_lg a_lg lg_cells x1 lg_kept) := hD
  refine lv_aload_n hx hb dX3_open_13 rfl (lv_at hl 0 rfl) ?_
  refine lv_aload_n hx hb dX3_open_14 rfl (lv_at hl 0 rfl) ?_
  refine va_get (D := D) (ci := 3) (v := .int lg_kept) (C := RX3) (T := TX3) (N := 3) hx hb hta ih_X3 hown hK hP 0 rfl rfl 2 (by decide) (hta _ hw_227) (fun _ h9 => h9) rfl dX3_open_15 ?_
  refine lv_iconst (v := 1) hx hb dX3_open_18 (by decide) ?_
  refine lv_iadd hx hb dX3_open_19 ?_
  refine lv_bipush (v := 64) hx hb dX3_open_20 (by decide) ?_
  refine va_mmin hx hb (hml.trans hl.1.symm) hown (hta _ hw_617) (hta _ hw_459) (hta _ hw_88) (hta _ hw_460) (Nat.le_of_ble_eq_true rfl) (Nat.le_of_ble_eq_true rfl) (Nat.le_of_ble_eq_true rfl) (Nat.le_of_ble_eq_true rfl) dX3_open_22 ?_
  refine lv_topi (fun x2 ex2 => ?_)
  have h := h x2 ex2
  refine va_put (D := D) (ci := 3) (v := .int x2) (ty := .int) (C := RX3) (T := TX3) (N := 3) hx hb hta ih_X3 tyX3 tyX3_ok nmX3 hown hK hP hD hS 0 rfl rfl 2 (by decide) (hta _ hw_227) (fun _ h9 => h9) rfl (by decide +kernel) rfl rfl (Nat.le_of_ble_eq_true rfl) dX3_open_25 (fun H locs hP hD hS => ?_)
  have hP : va_P D vwCl (wv_lg cI cJ cZ cM h_lg a_lg lg_cells x1 x2) H := hP
  have hD : va_D A (wv_lg cI cJ cZ cM h_lg a_lg lg_cells x1 x2) := hD
  refine lv_aload_n hx hb dX3_open_28 rfl (lv_at hl 0 rfl) ?_
  refine va_get (D := D) (ci := 3) (v := .int x1) (C := RX3) (T := TX3) (N := 3) hx hb hta ih_X3 hown hK hP 0 rfl rfl 1 (by decide) (hta _ hw_226) (fun _ h9 => h9) rfl dX3_open_29 ?_
  refine lv_bipush (v := 8) hx hb dX3_open_32 (by decide) ?_
  refine lv_imul hx hb dX3_open_34 ?_
  refine lv_topi (fun x3 ex3 => ?_)
  have h := h x3 ex3
  refine lv_istore_n (lv' := [(3, .int x3), (0, .ref h_lg), (1, .int p1), (2, .int p2)]) hx hb dX3_open_35 rfl hl (by decide) rfl (fun ls hl => ?_)
  refine lv_aload_n hx hb dX3_open_36 rfl (lv_at hl 1 rfl) ?_
  refine va_get (D := D) (ci := 3) (v := .ref (a_lg 0)) (C := RX3) (T := TX3) (N := 3) hx hb hta ih_X3 hown hK hP 0 rfl rfl 0 (by decide) (hta _ hw_225) (fun _ h9 => h9) rfl dX3_open_37 ?_
  refine lv_iload_n hx hb dX3_open_40 rfl (lv_at hl 0 rfl) ?_
  refine lv_iload_n hx hb dX3_open_41 rfl (lv_at hl 2 rfl) ?_
  refine lv_i2l (v := p1.toInt64) hx hb dX3_open_42 rfl ?_
  refine va_last hx hb hK hP hD hS 1 1 rfl rfl h.1 dX3_open_43 (fun H locs hP hD hS => ?_)
  have h := h.2
  have hP : va_P D vwCl (wv_lg cI cJ cZ cM h_lg a_lg (vp_updL lg_cells x3.toNatClampNeg p1.toInt64) x1 x2) H := hP
  have hD : va_D A (wv_lg cI cJ cZ cM h_lg a_lg (vp_updL lg_cells x3.toNatClampNeg p1.toInt64) x1 x2) := hD
  refine lv_aload_n hx hb dX3_open_44 rfl (lv_at hl 1 rfl) ?_
  refine va_get (D := D) (ci := 3) (v := .ref (a_lg 0)) (C := RX3) (T := TX3) (N := 3) hx hb hta ih_X3 hown hK hP 0 rfl rfl 0 (by decide) (hta _ hw_225) (fun _ h9 => h9) rfl dX3_open_45 ?_
  refine lv_iload_n hx hb dX3_open_48 rfl (lv_at hl 0 rfl) ?_
  refine lv_iconst (v := 1) hx hb dX3_open_49 (by decide) ?_
  refine lv_iadd hx hb dX3_open_50 ?_
  refine lv_iload_n hx hb dX3_open_51 rfl (lv_at hl 3 rfl) ?_
  refine lv_i2l (v := p2.toInt64) hx hb dX3_open_52 rfl ?_
  refine va_last hx hb hK hP hD hS 1 1 rfl rfl h.1 dX3_open_53 (fun H locs hP hD hS => ?_)
  have h := h.2
  have hP : va_P D vwCl (wv_lg cI cJ cZ cM h_lg a_lg (vp_updL (vp_updL lg_cells x3.toNatClampNeg p1.toInt64) (x3 + 1).toNatClampNeg p2.toInt64) x1 x2) H := hP
  have hD : va_D A (wv_lg cI cJ cZ cM h_lg a_lg (vp_updL (vp_updL lg_cells x3.toNatClampNeg p1.toInt64) (x3 + 1).toNatClampNeg p2.toInt64) x1 x2) := hD
  refine lv_aload_n hx hb dX3_open_54 rfl (lv_at hl 1 rfl) ?_
  refine va_get (D := D) (ci := 3) (v := .ref (a_lg 0)) (C := RX3) (T := TX3) (N := 3) hx hb hta ih_X3 hown hK hP 0 rfl rfl 0 (by decide) (hta _ hw_225) (fun _ h9 => h9) rfl dX3_open_55 ?_
  refine lv_iload_n hx hb dX3_open_58 rfl (lv_at hl 0 rfl) ?_
  refine lv_iconst (v := 2) hx hb dX3_open_59 (by decide) ?_
  refine lv_iadd hx hb dX3_open_60 ?_
  refine lv_iload_n hx hb dX3_open_61 rfl (lv_at hl 0 rfl) ?_
  refine lv_bipush (v := 8) hx hb dX3_open_62 (by decide) ?_
  refine lv_iadd hx hb dX3_open_64 ?_
  refine lv_ldc2 (v := (-4000000000000)) hx hb hown (hta _ hw_618) dX3_open_65 ?_
  refine hk_mv [1] (hk_runS (As := [.ref (a_lg 0), .int (x3 + 2), .int (x3 + 8), .long (-4000000000000)]) (rest := []) S0 mm_Arrays_fill_r (c_Arrays_fill_r l D cI cJ cZ cM (a_lg 0) 512 H.size (vp_updL (vp_updL lg_cells x3.toNatClampNeg p1.toInt64) (x3 + 1).toNatClampNeg p2.toInt64) (x3 + 2) (x3 + 8) (-4000000000000) (by decide) h.1 h.2.1 h.2.2.1) hw_619 hk_blM (hk_atM (hP.sub (ws' := [((a_lg 0), .inl (cJ, 512, .inr (.inl (vp_updL (vp_updL lg_cells x3.toNatClampNeg p1.toInt64) (x3 + 1).toNatClampNeg p2.toInt64))))]) [1] rfl) hK (hD.sub (ws' := [((a_lg 0), .inl (cJ, 512, .inr (.inl (vp_updL (vp_updL lg_cells x3.toNatClampNeg p1.toInt64) (x3 + 1).toNatClampNeg p2.toInt64))))]) [1] (by decide) rfl) hN) ⟨rfl, rfl, Nat.le_of_ble_eq_true rfl, Nat.le_of_ble_eq_true rfl⟩ rfl hl.1 rfl (Nat.le_of_ble_eq_true rfl) dX3_open_68 ⟨Nat.le_of_ble_eq_true rfl, Nat.le_of_ble_eq_true rfl⟩) hP hD hS hA rfl (by decide) (fun _ => rfl) (fun w4 H locs ew4 hP hD hS => ?_)
  subst ew4
  have h := h.2.2.2
  have hP : va_P D vwCl (wv_lg cI cJ cZ cM h_lg a_lg (hk_fillr (vp_updL (vp_updL lg_cells x3.toNatClampNeg p1.toInt64) (x3 + 1).toNatClampNeg p2.toInt64) (x3 + 2).toNatClampNeg (x3 + 8).toNatClampNeg (-4000000000000)) x1 x2) H := hP
  have hD : va_D A (wv_lg cI cJ cZ cM h_lg a_lg (hk_fillr (vp_updL (vp_updL lg_cells x3.toNatClampNeg p1.toInt64) (x3 + 1).toNatClampNeg p2.toInt64) (x3 + 2).toNatClampNeg (x3 + 8).toNatClampNeg (-4000000000000)) x1 x2) := hD
  refine lv_iload_n hx hb dX3_open_71 rfl (lv_at hl 0 rfl) ?_
  exact W.iret (v := x3) hx hb hr (fun t ht hW => ⟨⟨x3, (hk_fillr (vp_updL (vp_updL lg_cells x3.toNatClampNeg p1.toInt64) (x3 + 1).toNatClampNeg p2.toInt64) (x3 + 2).toNatClampNeg (x3 + 8).toNatClampNeg (-4000000000000), x1, x2), rfl, h, by rw [ht]; exact hP, hD⟩, hS.F ht⟩) hS.2.2 dX3_open_72
def wp_lg_write (p1 : Int32) (p2 : Int32) (p3 : Int64) (lg_cells : Nat → Int64) (post : ((Nat → Int64)) → Prop) : Prop := vp_in ((p1 + 2) + p2) 512 ∧ (post (vp_updL lg_cells ((p1 + 2) + p2).toNatClampNeg p3))
theorem mm_lg_write : hk_MV yX3_write cX3_write 5 none 3 := ⟨hw_628, hw_627, hw_47, hw_85, by decide +kernel⟩
set_option maxRecDepth 100000 in
set_option maxHeartbeats 4000000 in
theorem c_lg_write (l : Launch) (D : va_G) (cI cJ cZ cM : ClassId) (h_lg : Nat) (a_lg : Nat → Nat) (sz : Nat) (lg_cells : Nat → Int64) (lg_newest : Int32) (lg_kept : Int32) (p1 : Int32) (p2 : Int32) (p3 : Int64) (post : ((Nat → Int64)) → Prop) (h : wp_lg_write p1 p2 p3 lg_cells post) : Met l yX3_write (hk_ws yX3_write cX3_write 5 none) (hk_rm 0 0) (va_Pc [.ref h_lg, .int p1, .int p2, .long p3] (hk_PM D (hk_ty cI cJ cZ cM) sz (wv_lg cI cJ cZ cM h_lg a_lg lg_cells lg_newest lg_kept))) (va_Qv post (hk_B D (va_A (wv_lg cI cJ cZ cM h_lg a_lg lg_cells lg_newest lg_kept) sz) (fun (u : (Nat → Int64)) => wv_lg cI cJ cZ cM h_lg a_lg u lg_newest lg_kept)) (va_A (wv_lg cI cJ cZ cM h_lg a_lg lg_cells lg_newest lg_kept) sz)) 0 0 (va_A (wv_lg cI cJ cZ cM h_lg a_lg lg_cells lg_newest lg_kept) sz) := by
  refine Met.ofW (cc := cX3_write) (maxL := 5) (ret := none) (by decide) rfl ?_
  intro p e s m args below meth c s₁ B hml hv
  obtain ⟨rfl, hsz, hP, hK, hD0, hN⟩ := hv
  have hx := B.exec
  have hb := B.bytes
  have hr := B.returns
  have hts := atoms_spec (ws := hk_ws yX3_write cX3_write 5 none) B.pre
  have hta : ∀ w ∈ hk_all, w.before ([.ref h_lg, .int p1, .int p2, .long p3] : List Value).toArray s = true := fun w hw => hts w (List.mem_cons_of_mem _ hw)
  have hown : s.vm.findClass RX3 = some m.cls := findClass_of_methodNamed B.named
  have hlocks := B.notSynchronized
  have S0 : CallFix p m c cX3_write 5 s ([.ref h_lg, .int p1, .int p2, .long p3] : List Value).toArray hk_all RX3 := ⟨hx, hb, hml, hown, hta⟩
  subst hsz
  have hD := hD0.self (sz := s.heap.size)
  generalize hAe : va_A (wv_lg cI cJ cZ cM h_lg a_lg lg_cells lg_newest lg_kept) s.heap.size = A at hD ⊢
  have hA : ∀ q : Nat, s.heap.size ≤ q → A q := fun q h => by rw [← hAe]; exact Or.inr h
  have hS : va_S A s.heap s.heap [] := va_S.rf
  have hl := lv_entry ([.ref h_lg, .int p1, .int p2, .long p3]) (n := 5) (Nat.le_of_ble_eq_true rfl)
  rw [lg_entry_eq]
  generalize (lg_sl ([.ref h_lg, .int p1, .int p2, .long p3]) ++ List.replicate (5 - (lg_sl ([.ref h_lg, .int p1, .int p2, .long p3])).length) Slot.unset).toArray = ls at hl ⊢
  have hl : lv_has ls 5 [(0, .ref h_lg), (1, .int p1), (2, .int p2), (3, .long p3)] := hl
  unfold wp_lg_write at h
  refine lv_aload_n hx hb dX3_write_0 rfl (lv_at hl 0 rfl) ?_
  refine va_get (D := D) (ci := 3) (v := .ref (a_lg 0)) (C := RX3) (T := TX3) (N := 3) hx hb hta ih_X3 hown hK hP 0 rfl rfl 0 (by decide) (hta _ hw_225) (fun _ h9 => h9) rfl dX3_write_1 ?_
  refine lv_iload_n hx hb dX3_write_4 rfl (lv_at hl 1 rfl) ?_
  refine lv_iconst (v := 2) hx hb dX3_write_5 (by decide) ?_
  refine lv_iadd hx hb dX3_write_6 ?_
  refine lv_iload_n hx hb dX3_write_7 rfl (lv_at hl 2 rfl) ?_
  refine lv_iadd hx hb dX3_write_8 ?_
  refine lv_lload_n hx hb dX3_write_9 rfl (lv_at hl 3 rfl) ?_
  refine va_last hx hb hK hP hD hS 1 1 rfl rfl h.1 dX3_write_10 (fun H locs hP hD hS => ?_)
  have h := h.2
  have hP : va_P D vwCl (wv_lg cI cJ cZ cM h_lg a_lg (vp_updL lg_cells ((p1 + 2) + p2).toNatClampNeg p3) lg_newest lg_kept) H := hP
  have hD : va_D A (wv_lg cI cJ cZ cM h_lg a_lg (vp_updL lg_cells ((p1 + 2) + p2).toNatClampNeg p3) lg_newest lg_kept) := hD
  exact W.vret hx hb hr (fun t ht hW => ⟨⟨vp_updL lg_cells ((p1 + 2) + p2).toNatClampNeg p3, rfl, h, by rw [ht]; exact hP, hD⟩, hS.F ht⟩) hS.2.2 dX3_write_11
def wp_lg_read (p1 : Int32) (p2 : Int32) (lg_cells : Nat → Int64) (lg_newest : Int32) (post : Int64 → Prop) : Prop := wp_Math_floorMod_7cf53 (lg_newest - p1) 64 (fun (r1 : Int32) => vp_in ((r1 * 8) + p2) 512 ∧ (post (lg_cells ((r1 * 8) + p2).toNatClampNeg)))
theorem mm_lg_read : hk_MV yX3_read cX3_read 3 (some .long) 2 := ⟨hw_644, hw_643, hw_50, hw_85, by decide +kernel⟩
set_option maxRecDepth 100000 in
set_option maxHeartbeats 4000000 in
theorem c_lg_read (l : Launch) (D : va_G) (cI cJ cZ cM : ClassId) (h_lg : Nat) (a_lg : Nat → Nat)  (lg_cells : Nat → Int64) (lg_newest : Int32) (lg_kept : Int32) (p1 : Int32) (p2 : Int32) (post : Int64 → Prop) (h : wp_lg_read p1 p2 lg_cells lg_newest post) : Met l yX3_read (hk_ws yX3_read cX3_read 3 (some .long)) (hk_rm 1 22) (va_Pc [.ref h_lg, .int p1, .int p2] (hk_PR D (hk_ty cI cJ cZ cM) (wv_lg cI cJ cZ cM h_lg a_lg lg_cells lg_newest lg_kept))) (vp_Sl post) 0 0 (fun _ => False) := by
  refine Met.ofW (cc := cX3_read) (maxL := 3) (ret := (some .long)) (by decide) rfl ?_
  intro p e s m args below meth c s₁ B hml hv
  obtain ⟨rfl, hP, hK, hN⟩ := hv
  have hx := B.exec
  have hb := B.bytes
  have hr := B.returns
  have hts := atoms_spec (ws := hk_ws yX3_read cX3_read 3 (some .long)) B.pre
  have hta : ∀ w ∈ hk_all, w.before ([.ref h_lg, .int p1, .int p2] : List Value).toArray s = true := fun w hw => hts w (List.mem_cons_of_mem _ hw)
  have hown : s.vm.findClass RX3 = some m.cls := findClass_of_methodNamed B.named
  have hlocks := B.notSynchronized
  have S0 : CallFix p m c cX3_read 3 s ([.ref h_lg, .int p1, .int p2] : List Value).toArray hk_all RX3 := ⟨hx, hb, hml, hown, hta⟩
  have hl := lv_entry ([.ref h_lg, .int p1, .int p2]) (n := 3) (Nat.le_of_ble_eq_true rfl)
  rw [lg_entry_eq]
  generalize (lg_sl ([.ref h_lg, .int p1, .int p2]) ++ List.replicate (3 - (lg_sl ([.ref h_lg, .int p1, .int p2])).length) Slot.unset).toArray = ls at hl ⊢
  have hl : lv_has ls 3 [(0, .ref h_lg), (1, .int p1), (2, .int p2)] := hl
  unfold wp_lg_read at h
  refine lv_aload_n hx hb dX3_read_0 rfl (lv_at hl 0 rfl) ?_
  refine va_get (D := D) (ci := 3) (v := .ref (a_lg 0)) (C := RX3) (T := TX3) (N := 3) hx hb hta ih_X3 hown hK hP 0 rfl rfl 0 (by decide) (hta _ hw_225) (fun _ h9 => h9) rfl dX3_read_1 ?_
  refine lv_aload_n hx hb dX3_read_4 rfl (lv_at hl 0 rfl) ?_
  refine va_get (D := D) (ci := 3) (v := .int lg_newest) (C := RX3) (T := TX3) (N := 3) hx hb hta ih_X3 hown hK hP 0 rfl rfl 1 (by decide) (hta _ hw_226) (fun _ h9 => h9) rfl dX3_read_5 ?_
  refine lv_iload_n hx hb dX3_read_8 rfl (lv_at hl 1 rfl) ?_
  refine lv_isub hx hb dX3_read_9 ?_
  refine lv_bipush (v := 64) hx hb dX3_read_10 (by decide) ?_
  refine vp_callSi (hk_runS (As := [.int (lg_newest - p1), .int 64]) (rest := [.ref (a_lg 0)]) S0 mm_Math_floorMod_7cf53 (c_Math_floorMod_7cf53 l D cI cJ cZ cM (lg_newest - p1) 64 _ h) hw_645 hk_blR (hk_atR (hP.sub (ws' := ([] : va_W)) [] rfl) hK hN) ⟨rfl, rfl, Nat.le_of_ble_eq_true rfl, Nat.le_of_ble_eq_true rfl⟩ rfl hl.1 rfl (Nat.le_of_ble_eq_true rfl) dX3_read_12 ⟨Nat.le_of_ble_eq_true rfl, Nat.le_of_ble_eq_true rfl⟩).run (fun r1 h => ?_)
  refine lv_bipush (v := 8) hx hb dX3_read_15 (by decide) ?_
  refine lv_imul hx hb dX3_read_17 ?_
  refine lv_iload_n hx hb dX3_read_18 rfl (lv_at hl 2 rfl) ?_
  refine lv_iadd hx hb dX3_read_19 ?_
  refine va_lald hx hb hK hP 1 1 rfl rfl h.1 dX3_read_20 ?_
  have h := h.2
  exact W.lret (v := lg_cells ((r1 * 8) + p2).toNatClampNeg) hx hb hr (fun t ht hW => ⟨_, rfl, h, ht⟩) (fun _ hq => by cases hq) dX3_read_21
