def wp_sm_forgetAll   (post : (Int32 × Int32 × Int64) → Prop) : Prop := post (0, 0, 0)
theorem mm_sm_forgetAll : hk_MV yX5_forgetAll cX5_forgetAll 1 none 0 := ⟨hw_264, hw_263, hw_4, hw_83, by decide +kernel⟩
set_option maxRecDepth 100000 in
set_option maxHeartbeats 4000000 in
theorem c_sm_forgetAll (l : Launch) (D : va_G) (cI cJ cZ cM : ClassId) (h_sm : Nat) (a_sm : Nat → Nat) (sz : Nat) (sm_keys : Nat → Int32) (sm_weights : Nat → Int32) (sm_count : Int32) (sm_matches : Int32) (sm_out : Int64)  (post : (Int32 × Int32 × Int64) → Prop) (h : wp_sm_forgetAll post) : Met l yX5_forgetAll (hk_ws yX5_forgetAll cX5_forgetAll 1 none) (hk_rm 0 0) (va_Pc [.ref h_sm] (hk_PM D (hk_ty cI cJ cZ cM) sz (wv_sm cI cJ cZ cM h_sm a_sm sm_keys sm_weights sm_count sm_matches sm_out))) (va_Qv post (hk_B D (va_A (wv_sm cI cJ cZ cM h_sm a_sm sm_keys sm_weights sm_count sm_matches sm_out) sz) (fun (u : Int32 × Int32 × Int64) => wv_sm cI cJ cZ cM h_sm a_sm sm_keys sm_weights u.1 u.2.1 u.2.2)) (va_A (wv_sm cI cJ cZ cM h_sm a_sm sm_keys sm_weights sm_count sm_matches sm_out) sz)) 0 0 (va_A (wv_sm cI cJ cZ cM h_sm a_sm sm_keys sm_weights sm_count sm_matches sm_out) sz) := by
  refine Met.ofW (cc := cX5_forgetAll) (maxL := 1) (ret := none) (by decide) rfl ?_
  intro p e s m args below meth c s₁ B hml hv
  obtain ⟨rfl, hsz, hP, hK, hD0, hN⟩ := hv
  have hx := B.exec
  have hb := B.bytes
  have hr := B.returns
  have hts := atoms_spec (ws := hk_ws yX5_forgetAll cX5_forgetAll 1 none) B.pre
  have hta : ∀ w ∈ hk_all, w.before ([.ref h_sm] : List Value).toArray s = true := fun w hw => hts w (List.mem_cons_of_mem _ hw)
  have hown : s.vm.findClass RX5 = some m.cls := findClass_of_methodNamed B.named
  have hlocks := B.notSynchronized
  have S0 : CallFix p m c cX5_forgetAll 1 s ([.ref h_sm] : List Value).toArray hk_all RX5 := ⟨hx, hb, hml, hown, hta⟩
  subst hsz
  have hD := hD0.self (sz := s.heap.size)
  generalize hAe : va_A (wv_sm cI cJ cZ cM h_sm a_sm sm_keys sm_weights sm_count sm_matches sm_out) s.heap.size = A at hD ⊢
  have hA : ∀ q : Nat, s.heap.size ≤ q → A q := fun q h => by rw [← hAe]; exact Or.inr h
  have hS : va_S A s.heap s.heap [] := va_S.rf
  have hl := lv_entry ([.ref h_sm]) (n := 1) (Nat.le_of_ble_eq_true rfl)
  rw [lg_entry_eq]
  generalize (lg_sl ([.ref h_sm]) ++ List.replicate (1 - (lg_sl ([.ref h_sm])).length) Slot.unset).toArray = ls at hl ⊢
  have hl : lv_has ls 1 [(0, .ref h_sm)] := hl
  unfold wp_sm_forgetAll at h
  refine lv_aload_n hx hb dX5_forgetAll_0 rfl (lv_at hl 0 rfl) ?_
  refine lv_iconst (v := 0) hx hb dX5_forgetAll_1 (by decide) ?_
  refine va_put (D := D) (ci := 5) (v := .int 0) (ty := .int) (C := RX5) (T := TX5) (N := 5) hx hb hta ih_X5 tyX5 tyX5_ok nmX5 hown hK hP hD hS 0 rfl rfl 2 (by decide) (hta _ hw_179) (fun _ h9 => h9) rfl (by decide +kernel) rfl rfl (Nat.le_of_ble_eq_true rfl) dX5_forgetAll_2 (fun H locs hP hD hS => ?_)
  have hP : va_P D vwCl (wv_sm cI cJ cZ cM h_sm a_sm sm_keys sm_weights 0 sm_matches sm_out) H := hP
  have hD : va_D A (wv_sm cI cJ cZ cM h_sm a_sm sm_keys sm_weights 0 sm_matches sm_out) := hD
  refine lv_aload_n hx hb dX5_forgetAll_5 rfl (lv_at hl 0 rfl) ?_
  refine lv_iconst (v := 0) hx hb dX5_forgetAll_6 (by decide) ?_
  refine va_put (D := D) (ci := 5) (v := .int 0) (ty := .int) (C := RX5) (T := TX5) (N := 5) hx hb hta ih_X5 tyX5 tyX5_ok nmX5 hown hK hP hD hS 0 rfl rfl 3 (by decide) (hta _ hw_181) (fun _ h9 => h9) rfl (by decide +kernel) rfl rfl (Nat.le_of_ble_eq_true rfl) dX5_forgetAll_7 (fun H locs hP hD hS => ?_)
  have hP : va_P D vwCl (wv_sm cI cJ cZ cM h_sm a_sm sm_keys sm_weights 0 0 sm_out) H := hP
  have hD : va_D A (wv_sm cI cJ cZ cM h_sm a_sm sm_keys sm_weights 0 0 sm_out) := hD
  refine lv_aload_n hx hb dX5_forgetAll_10 rfl (lv_at hl 0 rfl) ?_
  refine lv_lconst (v := 0) hx hb dX5_forgetAll_11 (by decide) ?_
  refine va_put (D := D) (ci := 5) (v := .long 0) (ty := .long) (C := RX5) (T := TX5) (N := 5) hx hb hta ih_X5 tyX5 tyX5_ok nmX5 hown hK hP hD hS 0 rfl rfl 4 (by decide) (hta _ hw_183) (fun _ h9 => h9) rfl (by decide +kernel) rfl rfl (Nat.le_of_ble_eq_true rfl) dX5_forgetAll_12 (fun H locs hP hD hS => ?_)
  have hP : va_P D vwCl (wv_sm cI cJ cZ cM h_sm a_sm sm_keys sm_weights 0 0 0) H := hP
  have hD : va_D A (wv_sm cI cJ cZ cM h_sm a_sm sm_keys sm_weights 0 0 0) := hD
  exact W.vret hx hb hr (fun t ht hW => ⟨⟨(0, 0, 0), rfl, h, by rw [ht]; exact hP, hD⟩, hS.F ht⟩) hS.2.2 dX5_forgetAll_15
def wp_sm_add (p1 : Int32) (p2 : Int32) (sm_keys : Nat → Int32) (sm_weights : Nat → Int32) (sm_count : Int32) (post : ((Nat → Int32) × (Nat → Int32) × Int32) → Prop) : Prop := vp_in sm_count 60 ∧ (vp_in sm_count 60 ∧ (∀ x1 : Int32, x1 = sm_count + 1 → post (upd sm_keys sm_count.toNatClampNeg p1, upd sm_weights sm_count.toNatClampNeg p2, x1)))
theorem mm_sm_add : hk_MV yX5_add cX5_add 3 none 2 := ⟨hw_575, hw_574, hw_41, hw_83, by decide +kernel⟩
set_option maxRecDepth 100000 in
set_option maxHeartbeats 4000000 in
theorem c_sm_add (l : Launch) (D : va_G) (cI cJ cZ cM : ClassId) (h_sm : Nat) (a_sm : Nat → Nat) (sz : Nat) (sm_keys : Nat → Int32) (sm_weights : Nat → Int32) (sm_count : Int32) (sm_matches : Int32) (sm_out : Int64) (p1 : Int32) (p2 : Int32) (post : ((Nat → Int32) × (Nat → Int32) × Int32) → Prop) (h : wp_sm_add p1 p2 sm_keys sm_weights sm_count post) : Met l yX5_add (hk_ws yX5_add cX5_add 3 none) (hk_rm 0 0) (va_Pc [.ref h_sm, .int p1, .int p2] (hk_PM D (hk_ty cI cJ cZ cM) sz (wv_sm cI cJ cZ cM h_sm a_sm sm_keys sm_weights sm_count sm_matches sm_out))) (va_Qv post (hk_B D (va_A (wv_sm cI cJ cZ cM h_sm a_sm sm_keys sm_weights sm_count sm_matches sm_out) sz) (fun (u : (Nat → Int32) × (Nat → Int32) × Int32) => wv_sm cI cJ cZ cM h_sm a_sm u.1 u.2.1 u.2.2 sm_matches sm_out)) (va_A (wv_sm cI cJ cZ cM h_sm a_sm sm_keys sm_weights sm_count sm_matches sm_out) sz)) 0 0 (va_A (wv_sm cI cJ cZ cM h_sm a_sm sm_keys sm_weights sm_count sm_matches sm_out) sz) := by
  refine Met.ofW (cc := cX5_add) (maxL := 3) (ret := none) (by decide) rfl ?_
  intro p e s m args below meth c s₁ B hml hv
  obtain ⟨rfl, hsz, hP, hK, hD0, hN⟩ := hv
  have hx := B.exec
  have hb := B.bytes
  have hr := B.returns
  have hts := atoms_spec (ws := hk_ws yX5_add cX5_add 3 none) B.pre
  have hta : ∀ w ∈ hk_all, w.before ([.ref h_sm, .int p1, .int p2] : List Value).toArray s = true := fun w hw => hts w (List.mem_cons_of_mem _ hw)
  have hown : s.vm.findClass RX5 = some m.cls := findClass_of_methodNamed B.named
  have hlocks := B.notSynchronized
  have S0 : CallFix p m c cX5_add 3 s ([.ref h_sm, .int p1, .int p2] : List Value).toArray hk_all RX5 := ⟨hx, hb, hml, hown, hta⟩
  subst hsz
  have hD := hD0.self (sz := s.heap.size)
  generalize hAe : va_A (wv_sm cI cJ cZ cM h_sm a_sm sm_keys sm_weights sm_count sm_matches sm_out) s.heap.size = A at hD ⊢
  have hA : ∀ q : Nat, s.heap.size ≤ q → A q := fun q h => by rw [← hAe]; exact Or.inr h
  have hS : va_S A s.heap s.heap [] := va_S.rf
  have hl := lv_entry ([.ref h_sm, .int p1, .int p2]) (n := 3) (Nat.le_of_ble_eq_true rfl)
  rw [lg_entry_eq]
  generalize (lg_sl ([.ref h_sm, .int p1, .int p2]) ++ List.replicate (3 - (lg_sl ([.ref h_sm, .int p1, .int p2])).length) Slot.unset).toArray = ls at hl ⊢
  have hl : lv_has ls 3 [(0, .ref h_sm), (1, .int p1), (2, .int p2)] := hl
  unfold wp_sm_add at h
  refine lv_aload_n hx hb dX5_add_0 rfl (lv_at hl 0 rfl) ?_
  refine va_get (D := D) (ci := 5) (v := .ref (a_sm 0)) (C := RX5) (T := TX5) (N := 5) hx hb hta ih_X5 hown hK hP 0 rfl rfl 0 (by decide) (hta _ hw_176) (fun _ h9 => h9) rfl dX5_add_1 ?_
  refine lv_aload_n hx hb dX5_add_4 rfl (lv_at hl 0 rfl) ?_
  refine va_get (D := D) (ci := 5) (v := .int sm_count) (C := RX5) (T := TX5) (N := 5) hx hb hta ih_X5 hown hK hP 0 rfl rfl 2 (by decide) (hta _ hw_179) (fun _ h9 => h9) rfl dX5_add_5 ?_
  refine lv_iload_n hx hb dX5_add_8 rfl (lv_at hl 1 rfl) ?_
  refine va_iast hx hb hK hP hD hS 1 0 rfl rfl h.1 dX5_add_9 (fun H locs hP hD hS => ?_)
  have h := h.2
  have hP : va_P D vwCl (wv_sm cI cJ cZ cM h_sm a_sm (upd sm_keys sm_count.toNatClampNeg p1) sm_weights sm_count sm_matches sm_out) H := hP
  have hD : va_D A (wv_sm cI cJ cZ cM h_sm a_sm (upd sm_keys sm_count.toNatClampNeg p1) sm_weights sm_count sm_matches sm_out) := hD
  refine lv_aload_n hx hb dX5_add_10 rfl (lv_at hl 0 rfl) ?_
  refine va_get (D := D) (ci := 5) (v := .ref (a_sm 1)) (C := RX5) (T := TX5) (N := 5) hx hb hta ih_X5 hown hK hP 0 rfl rfl 1 (by decide) (hta _ hw_178) (fun _ h9 => h9) rfl dX5_add_11 ?_
  refine lv_aload_n hx hb dX5_add_14 rfl (lv_at hl 0 rfl) ?_
  refine va_get (D := D) (ci := 5) (v := .int sm_count) (C := RX5) (T := TX5) (N := 5) hx hb hta ih_X5 hown hK hP 0 rfl rfl 2 (by decide) (hta _ hw_179) (fun _ h9 => h9) rfl dX5_add_15 ?_
  refine lv_iload_n hx hb dX5_add_18 rfl (lv_at hl 2 rfl) ?_
  refine va_iast hx hb hK hP hD hS 2 0 rfl rfl h.1 dX5_add_19 (fun H locs hP hD hS => ?_)
  have h := h.2
  have hP : va_P D vwCl (wv_sm cI cJ cZ cM h_sm a_sm (upd sm_keys sm_count.toNatClampNeg p1) (upd sm_weights sm_count.toNatClampNeg p2) sm_count sm_matches sm_out) H := hP
  have hD : va_D A (wv_sm cI cJ cZ cM h_sm a_sm (upd sm_keys sm_count.toNatClampNeg p1) (upd sm_weights sm_count.toNatClampNeg p2) sm_count sm_matches sm_out) := hD
  refine lv_aload_n hx hb dX5_add_20 rfl (lv_at hl 0 rfl) ?_
  refine lv_dup hx hb dX5_add_21 rfl ?_
  refine va_get (D := D) (ci := 5) (v := .int sm_count) (C := RX5) (T := TX5) (N := 5) hx hb hta ih_X5 hown hK hP 0 rfl rfl 2 (by decide) (hta _ hw_179) (fun _ h9 => h9) rfl dX5_add_22 ?_
  refine lv_iconst (v := 1) hx hb dX5_add_25 (by decide) ?_
  refine lv_iadd hx hb dX5_add_26 ?_
  refine lv_topi (fun x1 ex1 => ?_)
  have h := h x1 ex1
  refine va_put (D := D) (ci := 5) (v := .int x1) (ty := .int) (C := RX5) (T := TX5) (N := 5) hx hb hta ih_X5 tyX5 tyX5_ok nmX5 hown hK hP hD hS 0 rfl rfl 2 (by decide) (hta _ hw_179) (fun _ h9 => h9) rfl (by decide +kernel) rfl rfl (Nat.le_of_ble_eq_true rfl) dX5_add_27 (fun H locs hP hD hS => ?_)
  have hP : va_P D vwCl (wv_sm cI cJ cZ cM h_sm a_sm (upd sm_keys sm_count.toNatClampNeg p1) (upd sm_weights sm_count.toNatClampNeg p2) x1 sm_matches sm_out) H := hP
  have hD : va_D A (wv_sm cI cJ cZ cM h_sm a_sm (upd sm_keys sm_count.toNatClampNeg p1) (upd sm_weights sm_count.toNatClampNeg p2) x1 sm_matches sm_out) := hD
  exact W.vret hx hb hr (fun t ht hW => ⟨⟨(upd sm_keys sm_count.toNatClampNeg p1, upd sm_weights sm_count.toNatClampNeg p2, x1), rfl, h, by rw [ht]; exact hP, hD⟩, hS.F ht⟩) hS.2.2 dX5_add_30
def wb_sm_meet_2 (sm_keys : Nat → Int32) (sm_weights : Nat → Int32) (sm_count : Int32) (p1 : Int32) (p2 : Int32) (post : (Int32 × Int64) → Prop) (K2 : (Int32 × Int32 × Int64) → Prop) (v1 : Int32 × Int32 × Int64) : Prop := (sm_count ≤ v1.1 → post (v1.2.1, v1.2.2)) ∧ (¬ sm_count ≤ v1.1 → vp_in v1.1 60 ∧ ((¬ (sm_keys v1.1.toNatClampNeg) = p1 → ∀ x4 : Int32, x4 = v1.1 + 1 → K2 (x4, v1.2.1, v1.2.2)) ∧ ((sm_keys v1.1.toNatClampNeg) = p1 → ∀ x5 : Int32, x5 = v1.2.1 + 1 → vp_in v1.1 60 ∧ (∀ x6 : Int64, x6 = v1.2.2 + (p2.toInt64 * ((sm_weights v1.1.toNatClampNeg).toInt64)) → ∀ x7 : Int32, x7 = v1.1 + 1 → K2 (x7, x5, x6)))))
def wp_sm_meet (p1 : Int32) (p2 : Int32) (sm_keys : Nat → Int32) (sm_weights : Nat → Int32) (sm_count : Int32) (sm_matches : Int32) (sm_out : Int64) (post : (Int32 × Int64) → Prop) : Prop := ∃ n, hk_lp (wb_sm_meet_2 sm_keys sm_weights sm_count p1 p2 post) n (0, sm_matches, sm_out)
theorem mm_sm_meet : hk_MV yX5_meet cX5_meet 4 none 2 := ⟨hw_408, hw_407, hw_16, hw_83, by decide +kernel⟩
set_option maxRecDepth 100000 in
set_option maxHeartbeats 4000000 in
theorem c_sm_meet (l : Launch) (D : va_G) (cI cJ cZ cM : ClassId) (h_sm : Nat) (a_sm : Nat → Nat) (sz : Nat) (sm_keys : Nat → Int32) (sm_weights : Nat → Int32) (sm_count : Int32) (sm_matches : Int32) (sm_out : Int64) (p1 : Int32) (p2 : Int32) (post : (Int32 × Int64) → Prop) (h : wp_sm_meet p1 p2 sm_keys sm_weights sm_count sm_matches sm_out post) : Met l yX5_meet (hk_ws yX5_meet cX5_meet 4 none) (hk_rm 0 0) (va_Pc [.ref h_sm, .int p1, .int p2] (hk_PM D (hk_ty cI cJ cZ cM) sz (wv_sm cI cJ cZ cM h_sm a_sm sm_keys sm_weights sm_count sm_matches sm_out))) (va_Qv post (hk_B D (va_A (wv_sm cI cJ cZ cM h_sm a_sm sm_keys sm_weights sm_count sm_matches sm_out) sz) (fun (u : Int32 × Int64) => wv_sm cI cJ cZ cM h_sm a_sm sm_keys sm_weights sm_count u.1 u.2)) (va_A (wv_sm cI cJ cZ cM h_sm a_sm sm_keys sm_weights sm_count sm_matches sm_out) sz)) 0 0 (va_A (wv_sm cI cJ cZ cM h_sm a_sm sm_keys sm_weights sm_count sm_matches sm_out) sz) := by
  refine Met.ofW (cc := cX5_meet) (maxL := 4) (ret := none) (by decide) rfl ?_
  intro p e s m args below meth c s₁ B hml hv
  obtain ⟨rfl, hsz, hP, hK, hD0, hN⟩ := hv
  have hx := B.exec
  have hb := B.bytes
  have hr := B.returns
  have hts := atoms_spec (ws := hk_ws yX5_meet cX5_meet 4 none) B.pre
  have hta : ∀ w ∈ hk_all, w.before ([.ref h_sm, .int p1, .int p2] : List Value).toArray s = true := fun w hw => hts w (List.mem_cons_of_mem _ hw)
  have hown : s.vm.findClass RX5 = some m.cls := findClass_of_methodNamed B.named
  have hlocks := B.notSynchronized
  have S0 : CallFix p m c cX5_meet 4 s ([.ref h_sm, .int p1, .int p2] : List Value).toArray hk_all RX5 := ⟨hx, hb, hml, hown, hta⟩
  subst hsz
  have hD := hD0.self (sz := s.heap.size)
  generalize hAe : va_A (wv_sm cI cJ cZ cM h_sm a_sm sm_keys sm_weights sm_count sm_matches sm_out) s.heap.size = A at hD ⊢
  have hA : ∀ q : Nat, s.heap.size ≤ q → A q := fun q h => by rw [← hAe]; exact Or.inr h
  have hS : va_S A s.heap s.heap [] := va_S.rf
  have hl := lv_entry ([.ref h_sm, .int p1, .int p2]) (n := 4) (Nat.le_of_ble_eq_true rfl)
  rw [lg_entry_eq]
  generalize (lg_sl ([.ref h_sm, .int p1, .int p2]) ++ List.replicate (4 - (lg_sl ([.ref h_sm, .int p1, .int p2])).length) Slot.unset).toArray = ls at hl ⊢
  have hl : lv_has ls 4 [(0, .ref h_sm), (1, .int p1), (2, .int p2)] := hl
  unfold wp_sm_meet at h
  refine lv_iconst (v := 0) hx hb dX5_meet_0 (by decide) ?_
  refine lv_istore_n (lv' := [(3, .int 0), (0, .ref h_sm), (1, .int p1), (2, .int p2)]) hx hb dX5_meet_1 rfl hl (by decide) rfl (fun ls hl => ?_)
  have P2 : ∀ (n : Nat) (v1 : Int32 × Int32 × Int64) (H : Heap) (locs : List Loc) (ls : Array Slot), va_P D vwCl (wv_sm cI cJ cZ cM h_sm a_sm sm_keys sm_weights sm_count v1.2.1 v1.2.2) H → va_D A (wv_sm cI cJ cZ cM h_sm a_sm sm_keys sm_weights sm_count v1.2.1 v1.2.2) → va_S A s.heap H locs → lv_has ls 4 [(0, .ref h_sm), (1, .int p1), (2, .int p2), (3, .int v1.1)] → hk_lp (wb_sm_meet_2 sm_keys sm_weights sm_count p1 p2 post) n v1 → W p l e (headSpec (hk_ws yX5_meet cX5_meet 4 none) (hk_rm 0 0)).room s m ([.ref h_sm, .int p1, .int p2] : List Value).toArray below meth c H locs 0 0 (MQ below (va_Qv post (hk_B D (A) (fun (u : Int32 × Int64) => wv_sm cI cJ cZ cM h_sm a_sm sm_keys sm_weights sm_count u.1 u.2)) (A)) ([.ref h_sm, .int p1, .int p2] : List Value).toArray s 0 0 A) (F0 m 2 ls []) := by
    intro n
    induction n with
    | zero => intro v1 H locs ls hP hD hS hl h; exact False.elim h
    | succ n ih2 =>
      intro v1 H locs ls hP hD hS hl h
      have h : wb_sm_meet_2 sm_keys sm_weights sm_count p1 p2 post (hk_lp (wb_sm_meet_2 sm_keys sm_weights sm_count p1 p2 post) n) v1 := h
      generalize hk_lp (wb_sm_meet_2 sm_keys sm_weights sm_count p1 p2 post) n = K2 at h ih2
      unfold wb_sm_meet_2 at h
      refine lv_iload_n hx hb dX5_meet_2 rfl (lv_at hl 3 rfl) ?_
      refine lv_aload_n hx hb dX5_meet_3 rfl (lv_at hl 0 rfl) ?_
      refine va_get (D := D) (ci := 5) (v := .int sm_count) (C := RX5) (T := TX5) (N := 5) hx hb hta ih_X5 hown hK hP 0 rfl rfl 2 (by decide) (hta _ hw_179) (fun _ h9 => h9) rfl dX5_meet_4 ?_
      refine lv_icmp_ge (tgt := 55) hx hb dX5_meet_7 (by decide) (fun c2 => ?_) (fun c2 => ?_)
      · have h := h.1 c2
        exact W.vret hx hb hr (fun t ht hW => ⟨⟨(v1.2.1, v1.2.2), rfl, h, by rw [ht]; exact hP, hD⟩, hS.F ht⟩) hS.2.2 dX5_meet_55
      · have h := h.2 c2
        refine lv_aload_n hx hb dX5_meet_10 rfl (lv_at hl 0 rfl) ?_
        refine va_get (D := D) (ci := 5) (v := .ref (a_sm 0)) (C := RX5) (T := TX5) (N := 5) hx hb hta ih_X5 hown hK hP 0 rfl rfl 0 (by decide) (hta _ hw_176) (fun _ h9 => h9) rfl dX5_meet_11 ?_
        refine lv_iload_n hx hb dX5_meet_14 rfl (lv_at hl 3 rfl) ?_
        refine va_iald hx hb hK hP 1 0 rfl rfl h.1 dX5_meet_15 ?_
        have h := h.2
        refine lv_iload_n hx hb dX5_meet_16 rfl (lv_at hl 1 rfl) ?_
        refine lv_icmp_ne (tgt := 49) hx hb dX5_meet_17 (by decide) (fun c3 => ?_) (fun c3 => ?_)
        · have h := h.1 c3
          obtain ⟨x4, ex4⟩ : ∃ y : Int32, y = v1.1 + 1 := ⟨_, rfl⟩
          have h := h x4 ex4
          refine lv_iinc (v := x4) (lv' := [(3, .int x4), (0, .ref h_sm), (1, .int p1), (2, .int p2)]) hx hb dX5_meet_49 hl (k := 3) rfl (by rw [ex4]; rfl) (by decide) rfl (fun ls hl => ?_)
          refine lv_goto (tgt := 2) hx hb dX5_meet_52 (by decide) ?_
          exact ih2 (x4, v1.2.1, v1.2.2) H locs ls hP hD hS (lv_sub hl [1, 2, 3, 0] rfl) h
        · have h := h.2 c3
          refine lv_aload_n hx hb dX5_meet_20 rfl (lv_at hl 0 rfl) ?_
          refine lv_dup hx hb dX5_meet_21 rfl ?_
          refine va_get (D := D) (ci := 5) (v := .int v1.2.1) (C := RX5) (T := TX5) (N := 5) hx hb hta ih_X5 hown hK hP 0 rfl rfl 3 (by decide) (hta _ hw_181) (fun _ h9 => h9) rfl dX5_meet_22 ?_
          refine lv_iconst (v := 1) hx hb dX5_meet_25 (by decide) ?_
          refine lv_iadd hx hb dX5_meet_26 ?_
          refine lv_topi (fun x5 ex5 => ?_)
          have h := h x5 ex5
          refine va_put (D := D) (ci := 5) (v := .int x5) (ty := .int) (C := RX5) (T := TX5) (N := 5) hx hb hta ih_X5 tyX5 tyX5_ok nmX5 hown hK hP hD hS 0 rfl rfl 3 (by decide) (hta _ hw_181) (fun _ h9 => h9) rfl (by decide +kernel) rfl rfl (Nat.le_of_ble_eq_true rfl) dX5_meet_27 (fun H locs hP hD hS => ?_)
          have hP : va_P D vwCl (wv_sm cI cJ cZ cM h_sm a_sm sm_keys sm_weights sm_count x5 v1.2.2) H := hP
          have hD : va_D A (wv_sm cI cJ cZ cM h_sm a_sm sm_keys sm_weights sm_count x5 v1.2.2) := hD
          refine lv_aload_n hx hb dX5_meet_30 rfl (lv_at hl 0 rfl) ?_
          refine lv_dup hx hb dX5_meet_31 rfl ?_
          refine va_get (D := D) (ci := 5) (v := .long v1.2.2) (C := RX5) (T := TX5) (N := 5) hx hb hta ih_X5 hown hK hP 0 rfl rfl 4 (by decide) (hta _ hw_183) (fun _ h9 => h9) rfl dX5_meet_32 ?_
          refine lv_iload_n hx hb dX5_meet_35 rfl (lv_at hl 2 rfl) ?_
          refine lv_i2l (v := p2.toInt64) hx hb dX5_meet_36 rfl ?_
          refine lv_aload_n hx hb dX5_meet_37 rfl (lv_at hl 0 rfl) ?_
          refine va_get (D := D) (ci := 5) (v := .ref (a_sm 1)) (C := RX5) (T := TX5) (N := 5) hx hb hta ih_X5 hown hK hP 0 rfl rfl 1 (by decide) (hta _ hw_178) (fun _ h9 => h9) rfl dX5_meet_38 ?_
          refine lv_iload_n hx hb dX5_meet_41 rfl (lv_at hl 3 rfl) ?_
          refine va_iald hx hb hK hP 2 0 rfl rfl h.1 dX5_meet_42 ?_
          have h := h.2
          refine lv_i2l (v := (sm_weights v1.1.toNatClampNeg).toInt64) hx hb dX5_meet_43 rfl ?_
          refine lv_lmul hx hb dX5_meet_44 ?_
          refine lv_ladd hx hb dX5_meet_45 ?_
          refine lv_topl (fun x6 ex6 => ?_)
          have h := h x6 ex6
          refine va_put (D := D) (ci := 5) (v := .long x6) (ty := .long) (C := RX5) (T := TX5) (N := 5) hx hb hta ih_X5 tyX5 tyX5_ok nmX5 hown hK hP hD hS 0 rfl rfl 4 (by decide) (hta _ hw_183) (fun _ h9 => h9) rfl (by decide +kernel) rfl rfl (Nat.le_of_ble_eq_true rfl) dX5_meet_46 (fun H locs hP hD hS => ?_)
          have hP : va_P D vwCl (wv_sm cI cJ cZ cM h_sm a_sm sm_keys sm_weights sm_count x5 x6) H := hP
          have hD : va_D A (wv_sm cI cJ cZ cM h_sm a_sm sm_keys sm_weights sm_count x5 x6) := hD
          obtain ⟨x7, ex7⟩ : ∃ y : Int32, y = v1.1 + 1 := ⟨_, rfl⟩
          have h := h x7 ex7
          refine lv_iinc (v := x7) (lv' := [(3, .int x7), (0, .ref h_sm), (1, .int p1), (2, .int p2)]) hx hb dX5_meet_49 hl (k := 3) rfl (by rw [ex7]; rfl) (by decide) rfl (fun ls hl => ?_)
          refine lv_goto (tgt := 2) hx hb dX5_meet_52 (by decide) ?_
          exact ih2 (x7, x5, x6) H locs ls hP hD hS (lv_sub hl [1, 2, 3, 0] rfl) h
  obtain ⟨n, h⟩ := h
  exact P2 n (0, sm_matches, sm_out) s.heap [] ls hP hD hS (lv_sub hl [1, 2, 3, 0] rfl) h
def wp_sm_copyFrom  (sm_keys : Nat → Int32) (sm_weights : Nat → Int32) (sm2_keys : Nat → Int32) (sm2_weights : Nat → Int32) (sm2_count : Int32) (sm2_matches : Int32) (sm2_out : Int64) (post : ((Nat → Int32) × (Nat → Int32) × Int32 × Int32 × Int64) → Prop) : Prop := (¬ (0 : Int32) < 0) ∧ (¬ (0 : Int32) < 0) ∧ (¬ sm2_count < 0) ∧ ((0 : Int32).toNatClampNeg + sm2_count.toNatClampNeg ≤ 60) ∧ ((0 : Int32).toNatClampNeg + sm2_count.toNatClampNeg ≤ 60) ∧ ((¬ (0 : Int32) < 0) ∧ (¬ (0 : Int32) < 0) ∧ (¬ sm2_count < 0) ∧ ((0 : Int32).toNatClampNeg + sm2_count.toNatClampNeg ≤ 60) ∧ ((0 : Int32).toNatClampNeg + sm2_count.toNatClampNeg ≤ 60) ∧ (post (va_cpy sm2_keys sm_keys (0 : Int32).toNatClampNeg (0 : Int32).toNatClampNeg sm2_count.toNatClampNeg, va_cpy sm2_weights sm_weights (0 : Int32).toNatClampNeg (0 : Int32).toNatClampNeg sm2_count.toNatClampNeg, sm2_count, sm2_matches, sm2_out)))
theorem mm_sm_copyFrom : hk_MV yX5_copyFrom cX5_copyFrom 2 none 1 := ⟨hw_688, hw_687, hw_51, hw_83, by decide +kernel⟩
set_option maxRecDepth 100000 in
set_option maxHeartbeats 4000000 in
theorem c_sm_copyFrom (l : Launch) (D : va_G) (cI cJ cZ cM : ClassId) (h_sm : Nat) (a_sm : Nat → Nat) (h_sm2 : Nat) (a_sm2 : Nat → Nat) (sz : Nat) (sm_keys : Nat → Int32) (sm_weights : Nat → Int32) (sm_count : Int32) (sm_matches : Int32) (sm_out : Int64) (sm2_keys : Nat → Int32) (sm2_weights : Nat → Int32) (sm2_count : Int32) (sm2_matches : Int32) (sm2_out : Int64)  (post : ((Nat → Int32) × (Nat → Int32) × Int32 × Int32 × Int64) → Prop) (h : wp_sm_copyFrom sm_keys sm_weights sm2_keys sm2_weights sm2_count sm2_matches sm2_out post) : Met l yX5_copyFrom (hk_ws yX5_copyFrom cX5_copyFrom 2 none) (hk_rm 1 40) (va_Pc [.ref h_sm, .ref h_sm2] (hk_PM D (hk_ty cI cJ cZ cM) sz ((wv_sm cI cJ cZ cM h_sm a_sm sm_keys sm_weights sm_count sm_matches sm_out) ++ (wv_sm cI cJ cZ cM h_sm2 a_sm2 sm2_keys sm2_weights sm2_count sm2_matches sm2_out)))) (va_Qv post (hk_B D (va_A ((wv_sm cI cJ cZ cM h_sm a_sm sm_keys sm_weights sm_count sm_matches sm_out) ++ (wv_sm cI cJ cZ cM h_sm2 a_sm2 sm2_keys sm2_weights sm2_count sm2_matches sm2_out)) sz) (fun (u : (Nat → Int32) × (Nat → Int32) × Int32 × Int32 × Int64) => (wv_sm cI cJ cZ cM h_sm a_sm u.1 u.2.1 u.2.2.1 u.2.2.2.1 u.2.2.2.2) ++ (wv_sm cI cJ cZ cM h_sm2 a_sm2 sm2_keys sm2_weights sm2_count sm2_matches sm2_out))) (va_A ((wv_sm cI cJ cZ cM h_sm a_sm sm_keys sm_weights sm_count sm_matches sm_out) ++ (wv_sm cI cJ cZ cM h_sm2 a_sm2 sm2_keys sm2_weights sm2_count sm2_matches sm2_out)) sz)) 0 0 (va_A ((wv_sm cI cJ cZ cM h_sm a_sm sm_keys sm_weights sm_count sm_matches sm_out) ++ (wv_sm cI cJ cZ cM h_sm2 a_sm2 sm2_keys sm2_weights sm2_count sm2_matches sm2_out)) sz) := by
  refine Met.ofW (cc := cX5_copyFrom) (maxL := 2) (ret := none) (by decide) rfl ?_
  intro p e s m args below meth c s₁ B hml hv
  obtain ⟨rfl, hsz, hP, hK, hD0, hN⟩ := hv
  have hx := B.exec
  have hb := B.bytes
  have hr := B.returns
  have hts := atoms_spec (ws := hk_ws yX5_copyFrom cX5_copyFrom 2 none) B.pre
  have hta : ∀ w ∈ hk_all, w.before ([.ref h_sm, .ref h_sm2] : List Value).toArray s = true := fun w hw => hts w (List.mem_cons_of_mem _ hw)
  have hown : s.vm.findClass RX5 = some m.cls := findClass_of_methodNamed B.named
  have hlocks := B.notSynchronized
  have S0 : CallFix p m c cX5_copyFrom 2 s ([.ref h_sm, .ref h_sm2] : List Value).toArray hk_all RX5 := ⟨hx, hb, hml, hown, hta⟩
  subst hsz
  have hD := hD0.self (sz := s.heap.size)
  generalize hAe : va_A ((wv_sm cI cJ cZ cM h_sm a_sm sm_keys sm_weights sm_count sm_matches sm_out) ++ (wv_sm cI cJ cZ cM h_sm2 a_sm2 sm2_keys sm2_weights sm2_count sm2_matches sm2_out)) s.heap.size = A at hD ⊢
  have hA : ∀ q : Nat, s.heap.size ≤ q → A q := fun q h => by rw [← hAe]; exact Or.inr h
  have hS : va_S A s.heap s.heap [] := va_S.rf
  have hl := lv_entry ([.ref h_sm, .ref h_sm2]) (n := 2) (Nat.le_of_ble_eq_true rfl)
  rw [lg_entry_eq]
  generalize (lg_sl ([.ref h_sm, .ref h_sm2]) ++ List.replicate (2 - (lg_sl ([.ref h_sm, .ref h_sm2])).length) Slot.unset).toArray = ls at hl ⊢
  have hl : lv_has ls 2 [(0, .ref h_sm), (1, .ref h_sm2)] := hl
  unfold wp_sm_copyFrom at h
  refine lv_aload_n hx hb dX5_copyFrom_0 rfl (lv_at hl 1 rfl) ?_
  refine va_get (D := D) (ci := 5) (v := .ref (a_sm2 0)) (C := RX5) (T := TX5) (N := 5) hx hb hta ih_X5 hown hK hP 3 rfl rfl 0 (by decide) (hta _ hw_176) (fun _ h9 => h9) rfl dX5_copyFrom_1 ?_
  refine lv_iconst (v := 0) hx hb dX5_copyFrom_4 (by decide) ?_
  refine lv_aload_n hx hb dX5_copyFrom_5 rfl (lv_at hl 0 rfl) ?_
  refine va_get (D := D) (ci := 5) (v := .ref (a_sm 0)) (C := RX5) (T := TX5) (N := 5) hx hb hta ih_X5 hown hK hP 0 rfl rfl 0 (by decide) (hta _ hw_176) (fun _ h9 => h9) rfl dX5_copyFrom_6 ?_
  refine lv_iconst (v := 0) hx hb dX5_copyFrom_9 (by decide) ?_
  refine lv_aload_n hx hb dX5_copyFrom_10 rfl (lv_at hl 1 rfl) ?_
  refine va_get (D := D) (ci := 5) (v := .int sm2_count) (C := RX5) (T := TX5) (N := 5) hx hb hta ih_X5 hown hK hP 3 rfl rfl 2 (by decide) (hta _ hw_179) (fun _ h9 => h9) rfl dX5_copyFrom_11 ?_
  refine va_copyi hx hb (hml.trans hl.1.symm) hown (hta _ hw_689) (hta _ hw_603) (hta _ hw_602) (hta _ hw_89) hK hP hD hS 4 1 0 0 rfl rfl rfl rfl rfl h.1 h.2.1 h.2.2.1 h.2.2.2.1 h.2.2.2.2.1 (fun _ _ => rfl) (Nat.le_of_ble_eq_true rfl) (Nat.le_of_ble_eq_true rfl) dX5_copyFrom_14 (fun H locs hP hD hS => ?_)
  have h := h.2.2.2.2.2
  have hP : va_P D vwCl ((wv_sm cI cJ cZ cM h_sm a_sm (va_cpy sm2_keys sm_keys (0 : Int32).toNatClampNeg (0 : Int32).toNatClampNeg sm2_count.toNatClampNeg) sm_weights sm_count sm_matches sm_out) ++ (wv_sm cI cJ cZ cM h_sm2 a_sm2 sm2_keys sm2_weights sm2_count sm2_matches sm2_out)) H := hP
  have hD : va_D A ((wv_sm cI cJ cZ cM h_sm a_sm (va_cpy sm2_keys sm_keys (0 : Int32).toNatClampNeg (0 : Int32).toNatClampNeg sm2_count.toNatClampNeg) sm_weights sm_count sm_matches sm_out) ++ (wv_sm cI cJ cZ cM h_sm2 a_sm2 sm2_keys sm2_weights sm2_count sm2_matches sm2_out)) := hD
  refine lv_aload_n hx hb dX5_copyFrom_17 rfl (lv_at hl 1 rfl) ?_
  refine va_get (D := D) (ci := 5) (v := .ref (a_sm2 1)) (C := RX5) (T := TX5) (N := 5) hx hb hta ih_X5 hown hK hP 3 rfl rfl 1 (by decide) (hta _ hw_178) (fun _ h9 => h9) rfl dX5_copyFrom_18 ?_
  refine lv_iconst (v := 0) hx hb dX5_copyFrom_21 (by decide) ?_
  refine lv_aload_n hx hb dX5_copyFrom_22 rfl (lv_at hl 0 rfl) ?_
  refine va_get (D := D) (ci := 5) (v := .ref (a_sm 1)) (C := RX5) (T := TX5) (N := 5) hx hb hta ih_X5 hown hK hP 0 rfl rfl 1 (by decide) (hta _ hw_178) (fun _ h9 => h9) rfl dX5_copyFrom_23 ?_
  refine lv_iconst (v := 0) hx hb dX5_copyFrom_26 (by decide) ?_
  refine lv_aload_n hx hb dX5_copyFrom_27 rfl (lv_at hl 1 rfl) ?_
  refine va_get (D := D) (ci := 5) (v := .int sm2_count) (C := RX5) (T := TX5) (N := 5) hx hb hta ih_X5 hown hK hP 3 rfl rfl 2 (by decide) (hta _ hw_179) (fun _ h9 => h9) rfl dX5_copyFrom_28 ?_
  refine va_copyi hx hb (hml.trans hl.1.symm) hown (hta _ hw_689) (hta _ hw_603) (hta _ hw_602) (hta _ hw_89) hK hP hD hS 5 2 0 0 rfl rfl rfl rfl rfl h.1 h.2.1 h.2.2.1 h.2.2.2.1 h.2.2.2.2.1 (fun _ _ => rfl) (Nat.le_of_ble_eq_true rfl) (Nat.le_of_ble_eq_true rfl) dX5_copyFrom_31 (fun H locs hP hD hS => ?_)
  have h := h.2.2.2.2.2
  have hP : va_P D vwCl ((wv_sm cI cJ cZ cM h_sm a_sm (va_cpy sm2_keys sm_keys (0 : Int32).toNatClampNeg (0 : Int32).toNatClampNeg sm2_count.toNatClampNeg) (va_cpy sm2_weights sm_weights (0 : Int32).toNatClampNeg (0 : Int32).toNatClampNeg sm2_count.toNatClampNeg) sm_count sm_matches sm_out) ++ (wv_sm cI cJ cZ cM h_sm2 a_sm2 sm2_keys sm2_weights sm2_count sm2_matches sm2_out)) H := hP
  have hD : va_D A ((wv_sm cI cJ cZ cM h_sm a_sm (va_cpy sm2_keys sm_keys (0 : Int32).toNatClampNeg (0 : Int32).toNatClampNeg sm2_count.toNatClampNeg) (va_cpy sm2_weights sm_weights (0 : Int32).toNatClampNeg (0 : Int32).toNatClampNeg sm2_count.toNatClampNeg) sm_count sm_matches sm_out) ++ (wv_sm cI cJ cZ cM h_sm2 a_sm2 sm2_keys sm2_weights sm2_count sm2_matches sm2_out)) := hD
  refine lv_aload_n hx hb dX5_copyFrom_34 rfl (lv_at hl 0 rfl) ?_
  refine lv_aload_n hx hb dX5_copyFrom_35 rfl (lv_at hl 1 rfl) ?_
  refine va_get (D := D) (ci := 5) (v := .int sm2_count) (C := RX5) (T := TX5) (N := 5) hx hb hta ih_X5 hown hK hP 3 rfl rfl 2 (by decide) (hta _ hw_179) (fun _ h9 => h9) rfl dX5_copyFrom_36 ?_
  refine va_put (D := D) (ci := 5) (v := .int sm2_count) (ty := .int) (C := RX5) (T := TX5) (N := 5) hx hb hta ih_X5 tyX5 tyX5_ok nmX5 hown hK hP hD hS 0 rfl rfl 2 (by decide) (hta _ hw_179) (fun _ h9 => h9) rfl (by decide +kernel) rfl rfl (Nat.le_of_ble_eq_true rfl) dX5_copyFrom_39 (fun H locs hP hD hS => ?_)
  have hP : va_P D vwCl ((wv_sm cI cJ cZ cM h_sm a_sm (va_cpy sm2_keys sm_keys (0 : Int32).toNatClampNeg (0 : Int32).toNatClampNeg sm2_count.toNatClampNeg) (va_cpy sm2_weights sm_weights (0 : Int32).toNatClampNeg (0 : Int32).toNatClampNeg sm2_count.toNatClampNeg) sm2_count sm_matches sm_out) ++ (wv_sm cI cJ cZ cM h_sm2 a_sm2 sm2_keys sm2_weights sm2_count sm2_matches sm2_out)) H := hP
  have hD : va_D A ((wv_sm cI cJ cZ cM h_sm a_sm (va_cpy sm2_keys sm_keys (0 : Int32).toNatClampNeg (0 : Int32).toNatClampNeg sm2_count.toNatClampNeg) (va_cpy sm2_weights sm_weights (0 : Int32).toNatClampNeg (0 : Int32).toNatClampNeg sm2_count.toNatClampNeg) sm2_count sm_matches sm_out) ++ (wv_sm cI cJ cZ cM h_sm2 a_sm2 sm2_keys sm2_weights sm2_count sm2_matches sm2_out)) := hD
  refine lv_aload_n hx hb dX5_copyFrom_42 rfl (lv_at hl 0 rfl) ?_
  refine lv_aload_n hx hb dX5_copyFrom_43 rfl (lv_at hl 1 rfl) ?_
  refine va_get (D := D) (ci := 5) (v := .int sm2_matches) (C := RX5) (T := TX5) (N := 5) hx hb hta ih_X5 hown hK hP 3 rfl rfl 3 (by decide) (hta _ hw_181) (fun _ h9 => h9) rfl dX5_copyFrom_44 ?_
  refine va_put (D := D) (ci := 5) (v := .int sm2_matches) (ty := .int) (C := RX5) (T := TX5) (N := 5) hx hb hta ih_X5 tyX5 tyX5_ok nmX5 hown hK hP hD hS 0 rfl rfl 3 (by decide) (hta _ hw_181) (fun _ h9 => h9) rfl (by decide +kernel) rfl rfl (Nat.le_of_ble_eq_true rfl) dX5_copyFrom_47 (fun H locs hP hD hS => ?_)
  have hP : va_P D vwCl ((wv_sm cI cJ cZ cM h_sm a_sm (va_cpy sm2_keys sm_keys (0 : Int32).toNatClampNeg (0 : Int32).toNatClampNeg sm2_count.toNatClampNeg) (va_cpy sm2_weights sm_weights (0 : Int32).toNatClampNeg (0 : Int32).toNatClampNeg sm2_count.toNatClampNeg) sm2_count sm2_matches sm_out) ++ (wv_sm cI cJ cZ cM h_sm2 a_sm2 sm2_keys sm2_weights sm2_count sm2_matches sm2_out)) H := hP
  have hD : va_D A ((wv_sm cI cJ cZ cM h_sm a_sm (va_cpy sm2_keys sm_keys (0 : Int32).toNatClampNeg (0 : Int32).toNatClampNeg sm2_count.toNatClampNeg) (va_cpy sm2_weights sm_weights (0 : Int32).toNatClampNeg (0 : Int32).toNatClampNeg sm2_count.toNatClampNeg) sm2_count sm2_matches sm_out) ++ (wv_sm cI cJ cZ cM h_sm2 a_sm2 sm2_keys sm2_weights sm2_count sm2_matches sm2_out)) := hD
  refine lv_aload_n hx hb dX5_copyFrom_50 rfl (lv_at hl 0 rfl) ?_
  refine lv_aload_n hx hb dX5_copyFrom_51 rfl (lv_at hl 1 rfl) ?_
  refine va_get (D := D) (ci := 5) (v := .long sm2_out) (C := RX5) (T := TX5) (N := 5) hx hb hta ih_X5 hown hK hP 3 rfl rfl 4 (by decide) (hta _ hw_183) (fun _ h9 => h9) rfl dX5_copyFrom_52 ?_
  refine va_put (D := D) (ci := 5) (v := .long sm2_out) (ty := .long) (C := RX5) (T := TX5) (N := 5) hx hb hta ih_X5 tyX5 tyX5_ok nmX5 hown hK hP hD hS 0 rfl rfl 4 (by decide) (hta _ hw_183) (fun _ h9 => h9) rfl (by decide +kernel) rfl rfl (Nat.le_of_ble_eq_true rfl) dX5_copyFrom_55 (fun H locs hP hD hS => ?_)
  have hP : va_P D vwCl ((wv_sm cI cJ cZ cM h_sm a_sm (va_cpy sm2_keys sm_keys (0 : Int32).toNatClampNeg (0 : Int32).toNatClampNeg sm2_count.toNatClampNeg) (va_cpy sm2_weights sm_weights (0 : Int32).toNatClampNeg (0 : Int32).toNatClampNeg sm2_count.toNatClampNeg) sm2_count sm2_matches sm2_out) ++ (wv_sm cI cJ cZ cM h_sm2 a_sm2 sm2_keys sm2_weights sm2_count sm2_matches sm2_out)) H := hP
  have hD : va_D A ((wv_sm cI cJ cZ cM h_sm a_sm (va_cpy sm2_keys sm_keys (0 : Int32).toNatClampNeg (0 : Int32).toNatClampNeg sm2_count.toNatClampNeg) (va_cpy sm2_weights sm_weights (0 : Int32).toNatClampNeg (0 : Int32).toNatClampNeg sm2_count.toNatClampNeg) sm2_count sm2_matches sm2_out) ++ (wv_sm cI cJ cZ cM h_sm2 a_sm2 sm2_keys sm2_weights sm2_count sm2_matches sm2_out)) := hD
  exact W.vret hx hb hr (fun t ht hW => ⟨⟨(va_cpy sm2_keys sm_keys (0 : Int32).toNatClampNeg (0 : Int32).toNatClampNeg sm2_count.toNatClampNeg, va_cpy sm2_weights sm_weights (0 : Int32).toNatClampNeg (0 : Int32).toNatClampNeg sm2_count.toNatClampNeg, sm2_count, sm2_matches, sm2_out), rfl, h, by rw [ht]; exact hP, hD⟩, hS.F ht⟩) hS.2.2 dX5_copyFrom_58
