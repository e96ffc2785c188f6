def wp_ti_forgetAll   (post : (Int32 × Int32) → Prop) : Prop := post (0, 0)
theorem mm_ti_forgetAll : hk_MV yX6_forgetAll cX6_forgetAll 1 none 0 := ⟨hw_268, hw_267, hw_5, hw_84, by decide +kernel⟩
set_option maxRecDepth 100000 in
set_option maxHeartbeats 4000000 in
theorem c_ti_forgetAll (l : Launch) (D : va_G) (cI cJ cZ cM : ClassId) (h_ti : Nat) (a_ti : Nat → Nat) (sz : Nat) (ti_keys : Nat → Int32) (ti_times : Nat → Int32) (ti_count : Int32) (ti_now : Int32)  (post : (Int32 × Int32) → Prop) (h : wp_ti_forgetAll post) : Met l yX6_forgetAll (hk_ws yX6_forgetAll cX6_forgetAll 1 none) (hk_rm 0 0) (va_Pc [.ref h_ti] (hk_PM D (hk_ty cI cJ cZ cM) sz (wv_ti cI cJ cZ cM h_ti a_ti ti_keys ti_times ti_count ti_now))) (va_Qv post (hk_B D (va_A (wv_ti cI cJ cZ cM h_ti a_ti ti_keys ti_times ti_count ti_now) sz) (fun (u : Int32 × Int32) => wv_ti cI cJ cZ cM h_ti a_ti ti_keys ti_times u.1 u.2)) (va_A (wv_ti cI cJ cZ cM h_ti a_ti ti_keys ti_times ti_count ti_now) sz)) 0 0 (va_A (wv_ti cI cJ cZ cM h_ti a_ti ti_keys ti_times ti_count ti_now) sz) := by
  refine Met.ofW (cc := cX6_forgetAll) (maxL := 1) (ret := none) (by decide) rfl ?_
  intro p e s m args below meth c s₁ B hml hv
  obtain ⟨rfl, hsz, hP, hK, hD0, hN⟩ := hv
  have hx := B.exec
  have hb := B.bytes
  have hr := B.returns
  have hts := atoms_spec (ws := hk_ws yX6_forgetAll cX6_forgetAll 1 none) B.pre
  have hta : ∀ w ∈ hk_all, w.before ([.ref h_ti] : List Value).toArray s = true := fun w hw => hts w (List.mem_cons_of_mem _ hw)
  have hown : s.vm.findClass RX6 = some m.cls := findClass_of_methodNamed B.named
  have hlocks := B.notSynchronized
  have S0 : CallFix p m c cX6_forgetAll 1 s ([.ref h_ti] : List Value).toArray hk_all RX6 := ⟨hx, hb, hml, hown, hta⟩
  subst hsz
  have hD := hD0.self (sz := s.heap.size)
  generalize hAe : va_A (wv_ti cI cJ cZ cM h_ti a_ti ti_keys ti_times ti_count ti_now) s.heap.size = A at hD ⊢
  have hA : ∀ q : Nat, s.heap.size ≤ q → A q := fun q h => by rw [← hAe]; exact Or.inr h
  have hS : va_S A s.heap s.heap [] := va_S.rf
  have hl := lv_entry ([.ref h_ti]) (n := 1) (Nat.le_of_ble_eq_true rfl)
  rw [lg_entry_eq]
  generalize (lg_sl ([.ref h_ti]) ++ List.replicate (1 - (lg_sl ([.ref h_ti])).length) Slot.unset).toArray = ls at hl ⊢
  have hl : lv_has ls 1 [(0, .ref h_ti)] := hl
  unfold wp_ti_forgetAll at h
  refine lv_aload_n hx hb dX6_forgetAll_0 rfl (lv_at hl 0 rfl) ?_
  refine lv_iconst (v := 0) hx hb dX6_forgetAll_1 (by decide) ?_
  refine va_put (D := D) (ci := 6) (v := .int 0) (ty := .int) (C := RX6) (T := TX6) (N := 4) hx hb hta ih_X6 tyX6 tyX6_ok nmX6 hown hK hP hD hS 0 rfl rfl 2 (by decide) (hta _ hw_206) (fun _ h9 => h9) rfl (by decide +kernel) rfl rfl (Nat.le_of_ble_eq_true rfl) dX6_forgetAll_2 (fun H locs hP hD hS => ?_)
  have hP : va_P D vwCl (wv_ti cI cJ cZ cM h_ti a_ti ti_keys ti_times 0 ti_now) H := hP
  have hD : va_D A (wv_ti cI cJ cZ cM h_ti a_ti ti_keys ti_times 0 ti_now) := hD
  refine lv_aload_n hx hb dX6_forgetAll_5 rfl (lv_at hl 0 rfl) ?_
  refine lv_iconst (v := 0) hx hb dX6_forgetAll_6 (by decide) ?_
  refine va_put (D := D) (ci := 6) (v := .int 0) (ty := .int) (C := RX6) (T := TX6) (N := 4) hx hb hta ih_X6 tyX6 tyX6_ok nmX6 hown hK hP hD hS 0 rfl rfl 3 (by decide) (hta _ hw_208) (fun _ h9 => h9) rfl (by decide +kernel) rfl rfl (Nat.le_of_ble_eq_true rfl) dX6_forgetAll_7 (fun H locs hP hD hS => ?_)
  have hP : va_P D vwCl (wv_ti cI cJ cZ cM h_ti a_ti ti_keys ti_times 0 0) H := hP
  have hD : va_D A (wv_ti cI cJ cZ cM h_ti a_ti ti_keys ti_times 0 0) := hD
  exact W.vret hx hb hr (fun t ht hW => ⟨⟨(0, 0), rfl, h, by rw [ht]; exact hP, hD⟩, hS.F ht⟩) hS.2.2 dX6_forgetAll_10
def wb_ti_dueAt_2 (ti_times : Nat → Int32) (ti_count : Int32) (p1 : Int32) (post : Int32 → Prop) (K2 : (Int32) → Prop) (v1 : Int32) : Prop := (ti_count ≤ v1 → post v1) ∧ (¬ ti_count ≤ v1 → vp_in v1 40 ∧ ((p1 < (ti_times v1.toNatClampNeg) → post v1) ∧ (¬ p1 < (ti_times v1.toNatClampNeg) → ∀ x4 : Int32, x4 = v1 + 1 → K2 x4)))
def wp_ti_dueAt (p1 : Int32) (ti_times : Nat → Int32) (ti_count : Int32) (post : Int32 → Prop) : Prop := ∃ n, hk_lp (wb_ti_dueAt_2 ti_times ti_count p1 post) n 0
theorem mm_ti_dueAt : hk_MV yX6_dueAt cX6_dueAt 3 (some .int) 1 := ⟨hw_600, hw_599, hw_44, hw_84, by decide +kernel⟩
set_option maxRecDepth 100000 in
set_option maxHeartbeats 4000000 in
theorem c_ti_dueAt (l : Launch) (D : va_G) (cI cJ cZ cM : ClassId) (h_ti : Nat) (a_ti : Nat → Nat)  (ti_keys : Nat → Int32) (ti_times : Nat → Int32) (ti_count : Int32) (ti_now : Int32) (p1 : Int32) (post : Int32 → Prop) (h : wp_ti_dueAt p1 ti_times ti_count post) : Met l yX6_dueAt (hk_ws yX6_dueAt cX6_dueAt 3 (some .int)) (hk_rm 0 0) (va_Pc [.ref h_ti, .int p1] (hk_PR D (hk_ty cI cJ cZ cM) (wv_ti cI cJ cZ cM h_ti a_ti ti_keys ti_times ti_count ti_now))) (vp_Si post) 0 0 (fun _ => False) := by
  refine Met.ofW (cc := cX6_dueAt) (maxL := 3) (ret := (some .int)) (by decide) rfl ?_
  intro p e s m args below meth c s₁ B hml hv
  obtain ⟨rfl, hP, hK, hN⟩ := hv
  have hx := B.exec
  have hb := B.bytes
  have hr := B.returns
  have hts := atoms_spec (ws := hk_ws yX6_dueAt cX6_dueAt 3 (some .int)) B.pre
  have hta : ∀ w ∈ hk_all, w.before ([.ref h_ti, .int p1] : List Value).toArray s = true := fun w hw => hts w (List.mem_cons_of_mem _ hw)
  have hown : s.vm.findClass RX6 = some m.cls := findClass_of_methodNamed B.named
  have hlocks := B.notSynchronized
  have S0 : CallFix p m c cX6_dueAt 3 s ([.ref h_ti, .int p1] : List Value).toArray hk_all RX6 := ⟨hx, hb, hml, hown, hta⟩
  have hl := lv_entry ([.ref h_ti, .int p1]) (n := 3) (Nat.le_of_ble_eq_true rfl)
  rw [lg_entry_eq]
  generalize (lg_sl ([.ref h_ti, .int p1]) ++ List.replicate (3 - (lg_sl ([.ref h_ti, .int p1])).length) Slot.unset).toArray = ls at hl ⊢
  have hl : lv_has ls 3 [(0, .ref h_ti), (1, .int p1)] := hl
  unfold wp_ti_dueAt at h
  refine lv_iconst (v := 0) hx hb dX6_dueAt_0 (by decide) ?_
  refine lv_istore_n (lv' := [(2, .int 0), (0, .ref h_ti), (1, .int p1)]) hx hb dX6_dueAt_1 rfl hl (by decide) rfl (fun ls hl => ?_)
  have P2 : ∀ (n : Nat) (v1 : Int32) (ls : Array Slot), lv_has ls 3 [(0, .ref h_ti), (1, .int p1), (2, .int v1)] → hk_lp (wb_ti_dueAt_2 ti_times ti_count p1 post) n v1 → W p l e (headSpec (hk_ws yX6_dueAt cX6_dueAt 3 (some .int)) (hk_rm 0 0)).room s m ([.ref h_ti, .int p1] : List Value).toArray below meth c s.heap [] 0 0 (MQ below (vp_Si post) ([.ref h_ti, .int p1] : List Value).toArray s 0 0 (fun _ => False)) (F0 m 2 ls []) := by
    intro n
    induction n with
    | zero => intro v1 ls hl h; exact False.elim h
    | succ n ih2 =>
      intro v1 ls hl h
      have h : wb_ti_dueAt_2 ti_times ti_count p1 post (hk_lp (wb_ti_dueAt_2 ti_times ti_count p1 post) n) v1 := h
      generalize hk_lp (wb_ti_dueAt_2 ti_times ti_count p1 post) n = K2 at h ih2
      unfold wb_ti_dueAt_2 at h
      refine lv_iload_n hx hb dX6_dueAt_2 rfl (lv_at hl 2 rfl) ?_
      refine lv_aload_n hx hb dX6_dueAt_3 rfl (lv_at hl 0 rfl) ?_
      refine va_get (D := D) (ci := 6) (v := .int ti_count) (C := RX6) (T := TX6) (N := 4) hx hb hta ih_X6 hown hK hP 0 rfl rfl 2 (by decide) (hta _ hw_206) (fun _ h9 => h9) rfl dX6_dueAt_4 ?_
      refine lv_icmp_ge (tgt := 26) hx hb dX6_dueAt_7 (by decide) (fun c2 => ?_) (fun c2 => ?_)
      · have h := h.1 c2
        refine lv_iload_n hx hb dX6_dueAt_26 rfl (lv_at hl 2 rfl) ?_
        exact W.iret (v := v1) hx hb hr (fun t ht hW => ⟨_, rfl, h, ht⟩) (fun _ hq => by cases hq) dX6_dueAt_27
      · have h := h.2 c2
        refine lv_aload_n hx hb dX6_dueAt_10 rfl (lv_at hl 0 rfl) ?_
        refine va_get (D := D) (ci := 6) (v := .ref (a_ti 1)) (C := RX6) (T := TX6) (N := 4) hx hb hta ih_X6 hown hK hP 0 rfl rfl 1 (by decide) (hta _ hw_204) (fun _ h9 => h9) rfl dX6_dueAt_11 ?_
        refine lv_iload_n hx hb dX6_dueAt_14 rfl (lv_at hl 2 rfl) ?_
        refine va_iald hx hb hK hP 2 0 rfl rfl h.1 dX6_dueAt_15 ?_
        have h := h.2
        refine lv_iload_n hx hb dX6_dueAt_16 rfl (lv_at hl 1 rfl) ?_
        refine lv_icmp_gt (tgt := 26) hx hb dX6_dueAt_17 (by decide) (fun c3 => ?_) (fun c3 => ?_)
        · have h := h.1 c3
          refine lv_iload_n hx hb dX6_dueAt_26 rfl (lv_at hl 2 rfl) ?_
          exact W.iret (v := v1) hx hb hr (fun t ht hW => ⟨_, rfl, h, ht⟩) (fun _ hq => by cases hq) dX6_dueAt_27
        · have h := h.2 c3
          obtain ⟨x4, ex4⟩ : ∃ y : Int32, y = v1 + 1 := ⟨_, rfl⟩
          have h := h x4 ex4
          refine lv_iinc (v := x4) (lv' := [(2, .int x4), (0, .ref h_ti), (1, .int p1)]) hx hb dX6_dueAt_20 hl (k := 2) rfl (by rw [ex4]; rfl) (by decide) rfl (fun ls hl => ?_)
          refine lv_goto (tgt := 2) hx hb dX6_dueAt_23 (by decide) ?_
          exact ih2 x4 ls (lv_sub hl [1, 2, 0] rfl) h
  obtain ⟨n, h⟩ := h
  exact P2 n 0 ls (lv_sub hl [1, 2, 0] rfl) h
def wp_ti_add (p1 : Int32) (p2 : Int32) (ti_keys : Nat → Int32) (ti_times : Nat → Int32) (ti_count : Int32) (post : ((Nat → Int32) × (Nat → Int32) × Int32) → Prop) : Prop := wp_ti_dueAt p2 ti_times ti_count (fun (r1 : Int32) => (¬ r1 < 0) ∧ (¬ (r1 + 1) < 0) ∧ (¬ (ti_count - r1) < 0) ∧ (r1.toNatClampNeg + (ti_count - r1).toNatClampNeg ≤ 40) ∧ ((r1 + 1).toNatClampNeg + (ti_count - r1).toNatClampNeg ≤ 40) ∧ ((¬ r1 < 0) ∧ (¬ (r1 + 1) < 0) ∧ (¬ (ti_count - r1) < 0) ∧ (r1.toNatClampNeg + (ti_count - r1).toNatClampNeg ≤ 40) ∧ ((r1 + 1).toNatClampNeg + (ti_count - r1).toNatClampNeg ≤ 40) ∧ (vp_in r1 40 ∧ (vp_in r1 40 ∧ (∀ x2 : Int32, x2 = ti_count + 1 → post (upd (va_cpy ti_keys ti_keys r1.toNatClampNeg (r1 + 1).toNatClampNeg (ti_count - r1).toNatClampNeg) r1.toNatClampNeg p1, upd (va_cpy ti_times ti_times r1.toNatClampNeg (r1 + 1).toNatClampNeg (ti_count - r1).toNatClampNeg) r1.toNatClampNeg p2, x2))))))
theorem mm_ti_add : hk_MV yX6_add cX6_add 4 none 2 := ⟨hw_596, hw_595, hw_43, hw_84, by decide +kernel⟩
set_option maxRecDepth 100000 in
set_option maxHeartbeats 4000000 in
theorem c_ti_add (l : Launch) (D : va_G) (cI cJ cZ cM : ClassId) (h_ti : Nat) (a_ti : Nat → Nat) (sz : Nat) (ti_keys : Nat → Int32) (ti_times : Nat → Int32) (ti_count : Int32) (ti_now : Int32) (p1 : Int32) (p2 : Int32) (post : ((Nat → Int32) × (Nat → Int32) × Int32) → Prop) (h : wp_ti_add p1 p2 ti_keys ti_times ti_count post) : Met l yX6_add (hk_ws yX6_add cX6_add 4 none) (hk_rm 1 40) (va_Pc [.ref h_ti, .int p1, .int p2] (hk_PM D (hk_ty cI cJ cZ cM) sz (wv_ti cI cJ cZ cM h_ti a_ti ti_keys ti_times ti_count ti_now))) (va_Qv post (hk_B D (va_A (wv_ti cI cJ cZ cM h_ti a_ti ti_keys ti_times ti_count ti_now) sz) (fun (u : (Nat → Int32) × (Nat → Int32) × Int32) => wv_ti cI cJ cZ cM h_ti a_ti u.1 u.2.1 u.2.2 ti_now)) (va_A (wv_ti cI cJ cZ cM h_ti a_ti ti_keys ti_times ti_count ti_now) sz)) 0 0 (va_A (wv_ti cI cJ cZ cM h_ti a_ti ti_keys ti_times ti_count ti_now) sz) := by
  refine Met.ofW (cc := cX6_add) (maxL := 4) (ret := none) (by decide) rfl ?_
  intro p e s m args below meth c s₁ B hml hv
  obtain ⟨rfl, hsz, hP, hK, hD0, hN⟩ := hv
  have hx := B.exec
  have hb := B.bytes
  have hr := B.returns
  have hts := atoms_spec (ws := hk_ws yX6_add cX6_add 4 none) B.pre
  have hta : ∀ w ∈ hk_all, w.before ([.ref h_ti, .int p1, .int p2] : List Value).toArray s = true := fun w hw => hts w (List.mem_cons_of_mem _ hw)
  have hown : s.vm.findClass RX6 = some m.cls := findClass_of_methodNamed B.named
  have hlocks := B.notSynchronized
  have S0 : CallFix p m c cX6_add 4 s ([.ref h_ti, .int p1, .int p2] : List Value).toArray hk_all RX6 := ⟨hx, hb, hml, hown, hta⟩
  subst hsz
  have hD := hD0.self (sz := s.heap.size)
  generalize hAe : va_A (wv_ti cI cJ cZ cM h_ti a_ti ti_keys ti_times ti_count ti_now) s.heap.size = A at hD ⊢
  have hA : ∀ q : Nat, s.heap.size ≤ q → A q := fun q h => by rw [← hAe]; exact Or.inr h
  have hS : va_S A s.heap s.heap [] := va_S.rf
  have hl := lv_entry ([.ref h_ti, .int p1, .int p2]) (n := 4) (Nat.le_of_ble_eq_true rfl)
  rw [lg_entry_eq]
  generalize (lg_sl ([.ref h_ti, .int p1, .int p2]) ++ List.replicate (4 - (lg_sl ([.ref h_ti, .int p1, .int p2])).length) Slot.unset).toArray = ls at hl ⊢
  have hl : lv_has ls 4 [(0, .ref h_ti), (1, .int p1), (2, .int p2)] := hl
  unfold wp_ti_add at h
  refine lv_aload_n hx hb dX6_add_0 rfl (lv_at hl 0 rfl) ?_
  refine lv_iload_n hx hb dX6_add_1 rfl (lv_at hl 2 rfl) ?_
  refine vp_callSi (hk_runV (As := [.int p2]) (rest := []) S0 mm_ti_dueAt (c_ti_dueAt l D cI cJ cZ cM h_ti a_ti ti_keys ti_times ti_count ti_now p2 _ h) hw_597 hk_blR (hk_atR hP hK hN) (va_recv hK hP (ci := 6) (q0 := 0) rfl rfl) ⟨rfl, rfl, Nat.le_of_ble_eq_true rfl, Nat.le_of_ble_eq_true rfl⟩ rfl hl.1 rfl (Nat.le_of_ble_eq_true rfl) dX6_add_2 ⟨Nat.le_of_ble_eq_true rfl, Nat.le_of_ble_eq_true rfl⟩).run (fun r1 h => ?_)
  refine lv_istore_n (lv' := [(3, .int r1), (0, .ref h_ti), (1, .int p1), (2, .int p2)]) hx hb dX6_add_5 rfl hl (by decide) rfl (fun ls hl => ?_)
  refine lv_aload_n hx hb dX6_add_6 rfl (lv_at hl 1 rfl) ?_
  refine va_get (D := D) (ci := 6) (v := .ref (a_ti 0)) (C := RX6) (T := TX6) (N := 4) hx hb hta ih_X6 hown hK hP 0 rfl rfl 0 (by decide) (hta _ hw_202) (fun _ h9 => h9) rfl dX6_add_7 ?_
  refine lv_iload_n hx hb dX6_add_10 rfl (lv_at hl 0 rfl) ?_
  refine lv_aload_n hx hb dX6_add_11 rfl (lv_at hl 1 rfl) ?_
  refine va_get (D := D) (ci := 6) (v := .ref (a_ti 0)) (C := RX6) (T := TX6) (N := 4) hx hb hta ih_X6 hown hK hP 0 rfl rfl 0 (by decide) (hta _ hw_202) (fun _ h9 => h9) rfl dX6_add_12 ?_
  refine lv_iload_n hx hb dX6_add_15 rfl (lv_at hl 0 rfl) ?_
  refine lv_iconst (v := 1) hx hb dX6_add_16 (by decide) ?_
  refine lv_iadd hx hb dX6_add_17 ?_
  refine lv_aload_n hx hb dX6_add_18 rfl (lv_at hl 1 rfl) ?_
  refine va_get (D := D) (ci := 6) (v := .int ti_count) (C := RX6) (T := TX6) (N := 4) hx hb hta ih_X6 hown hK hP 0 rfl rfl 2 (by decide) (hta _ hw_206) (fun _ h9 => h9) rfl dX6_add_19 ?_
  refine lv_iload_n hx hb dX6_add_22 rfl (lv_at hl 0 rfl) ?_
  refine lv_isub hx hb dX6_add_23 ?_
  refine va_copyi hx hb (hml.trans hl.1.symm) hown (hta _ hw_601) (hta _ hw_603) (hta _ hw_602) (hta _ hw_89) hK hP hD hS 1 1 0 0 rfl rfl rfl rfl rfl h.1 h.2.1 h.2.2.1 h.2.2.2.1 h.2.2.2.2.1 (fun _ _ => rfl) (Nat.le_of_ble_eq_true rfl) (Nat.le_of_ble_eq_true rfl) dX6_add_24 (fun H locs hP hD hS => ?_)
  have h := h.2.2.2.2.2
  have hP : va_P D vwCl (wv_ti cI cJ cZ cM h_ti a_ti (va_cpy ti_keys ti_keys r1.toNatClampNeg (r1 + 1).toNatClampNeg (ti_count - r1).toNatClampNeg) ti_times ti_count ti_now) H := hP
  have hD : va_D A (wv_ti cI cJ cZ cM h_ti a_ti (va_cpy ti_keys ti_keys r1.toNatClampNeg (r1 + 1).toNatClampNeg (ti_count - r1).toNatClampNeg) ti_times ti_count ti_now) := hD
  refine lv_aload_n hx hb dX6_add_27 rfl (lv_at hl 1 rfl) ?_
  refine va_get (D := D) (ci := 6) (v := .ref (a_ti 1)) (C := RX6) (T := TX6) (N := 4) hx hb hta ih_X6 hown hK hP 0 rfl rfl 1 (by decide) (hta _ hw_204) (fun _ h9 => h9) rfl dX6_add_28 ?_
  refine lv_iload_n hx hb dX6_add_31 rfl (lv_at hl 0 rfl) ?_
  refine lv_aload_n hx hb dX6_add_32 rfl (lv_at hl 1 rfl) ?_
  refine va_get (D := D) (ci := 6) (v := .ref (a_ti 1)) (C := RX6) (T := TX6) (N := 4) hx hb hta ih_X6 hown hK hP 0 rfl rfl 1 (by decide) (hta _ hw_204) (fun _ h9 => h9) rfl dX6_add_33 ?_
  refine lv_iload_n hx hb dX6_add_36 rfl (lv_at hl 0 rfl) ?_
  refine lv_iconst (v := 1) hx hb dX6_add_37 (by decide) ?_
  refine lv_iadd hx hb dX6_add_38 ?_
  refine lv_aload_n hx hb dX6_add_39 rfl (lv_at hl 1 rfl) ?_
  refine va_get (D := D) (ci := 6) (v := .int ti_count) (C := RX6) (T := TX6) (N := 4) hx hb hta ih_X6 hown hK hP 0 rfl rfl 2 (by decide) (hta _ hw_206) (fun _ h9 => h9) rfl dX6_add_40 ?_
  refine lv_iload_n hx hb dX6_add_43 rfl (lv_at hl 0 rfl) ?_
  refine lv_isub hx hb dX6_add_44 ?_
  refine va_copyi hx hb (hml.trans hl.1.symm) hown (hta _ hw_601) (hta _ hw_603) (hta _ hw_602) (hta _ hw_89) hK hP hD hS 2 2 0 0 rfl rfl rfl rfl rfl h.1 h.2.1 h.2.2.1 h.2.2.2.1 h.2.2.2.2.1 (fun _ _ => rfl) (Nat.le_of_ble_eq_true rfl) (Nat.le_of_ble_eq_true rfl) dX6_add_45 (fun H locs hP hD hS => ?_)
  have h := h.2.2.2.2.2
  have hP : va_P D vwCl (wv_ti cI cJ cZ cM h_ti a_ti (va_cpy ti_keys ti_keys r1.toNatClampNeg (r1 + 1).toNatClampNeg (ti_count - r1).toNatClampNeg) (va_cpy ti_times ti_times r1.toNatClampNeg (r1 + 1).toNatClampNeg (ti_count - r1).toNatClampNeg) ti_count ti_now) H := hP
  have hD : va_D A (wv_ti cI cJ cZ cM h_ti a_ti (va_cpy ti_keys ti_keys r1.toNatClampNeg (r1 + 1).toNatClampNeg (ti_count - r1).toNatClampNeg) (va_cpy ti_times ti_times r1.toNatClampNeg (r1 + 1).toNatClampNeg (ti_count - r1).toNatClampNeg) ti_count ti_now) := hD
  refine lv_aload_n hx hb dX6_add_48 rfl (lv_at hl 1 rfl) ?_
  refine va_get (D := D) (ci := 6) (v := .ref (a_ti 0)) (C := RX6) (T := TX6) (N := 4) hx hb hta ih_X6 hown hK hP 0 rfl rfl 0 (by decide) (hta _ hw_202) (fun _ h9 => h9) rfl dX6_add_49 ?_
  refine lv_iload_n hx hb dX6_add_52 rfl (lv_at hl 0 rfl) ?_
  refine lv_iload_n hx hb dX6_add_53 rfl (lv_at hl 2 rfl) ?_
  refine va_iast hx hb hK hP hD hS 1 0 rfl rfl h.1 dX6_add_54 (fun H locs hP hD hS => ?_)
  have h := h.2
  have hP : va_P D vwCl (wv_ti cI cJ cZ cM h_ti a_ti (upd (va_cpy ti_keys ti_keys r1.toNatClampNeg (r1 + 1).toNatClampNeg (ti_count - r1).toNatClampNeg) r1.toNatClampNeg p1) (va_cpy ti_times ti_times r1.toNatClampNeg (r1 + 1).toNatClampNeg (ti_count - r1).toNatClampNeg) ti_count ti_now) H := hP
  have hD : va_D A (wv_ti cI cJ cZ cM h_ti a_ti (upd (va_cpy ti_keys ti_keys r1.toNatClampNeg (r1 + 1).toNatClampNeg (ti_count - r1).toNatClampNeg) r1.toNatClampNeg p1) (va_cpy ti_times ti_times r1.toNatClampNeg (r1 + 1).toNatClampNeg (ti_count - r1).toNatClampNeg) ti_count ti_now) := hD
  refine lv_aload_n hx hb dX6_add_55 rfl (lv_at hl 1 rfl) ?_
  refine va_get (D := D) (ci := 6) (v := .ref (a_ti 1)) (C := RX6) (T := TX6) (N := 4) hx hb hta ih_X6 hown hK hP 0 rfl rfl 1 (by decide) (hta _ hw_204) (fun _ h9 => h9) rfl dX6_add_56 ?_
  refine lv_iload_n hx hb dX6_add_59 rfl (lv_at hl 0 rfl) ?_
  refine lv_iload_n hx hb dX6_add_60 rfl (lv_at hl 3 rfl) ?_
  refine va_iast hx hb hK hP hD hS 2 0 rfl rfl h.1 dX6_add_61 (fun H locs hP hD hS => ?_)
  have h := h.2
  have hP : va_P D vwCl (wv_ti cI cJ cZ cM h_ti a_ti (upd (va_cpy ti_keys ti_keys r1.toNatClampNeg (r1 + 1).toNatClampNeg (ti_count - r1).toNatClampNeg) r1.toNatClampNeg p1) (upd (va_cpy ti_times ti_times r1.toNatClampNeg (r1 + 1).toNatClampNeg (ti_count - r1).toNatClampNeg) r1.toNatClampNeg p2) ti_count ti_now) H := hP
  have hD : va_D A (wv_ti cI cJ cZ cM h_ti a_ti (upd (va_cpy ti_keys ti_keys r1.toNatClampNeg (r1 + 1).toNatClampNeg (ti_count - r1).toNatClampNeg) r1.toNatClampNeg p1) (upd (va_cpy ti_times ti_times r1.toNatClampNeg (r1 + 1).toNatClampNeg (ti_count - r1).toNatClampNeg) r1.toNatClampNeg p2) ti_count ti_now) := hD
  refine lv_aload_n hx hb dX6_add_62 rfl (lv_at hl 1 rfl) ?_
  refine lv_dup hx hb dX6_add_63 rfl ?_
  refine va_get (D := D) (ci := 6) (v := .int ti_count) (C := RX6) (T := TX6) (N := 4) hx hb hta ih_X6 hown hK hP 0 rfl rfl 2 (by decide) (hta _ hw_206) (fun _ h9 => h9) rfl dX6_add_64 ?_
  refine lv_iconst (v := 1) hx hb dX6_add_67 (by decide) ?_
  refine lv_iadd hx hb dX6_add_68 ?_
  refine lv_topi (fun x2 ex2 => ?_)
  have h := h x2 ex2
  refine va_put (D := D) (ci := 6) (v := .int x2) (ty := .int) (C := RX6) (T := TX6) (N := 4) hx hb hta ih_X6 tyX6 tyX6_ok nmX6 hown hK hP hD hS 0 rfl rfl 2 (by decide) (hta _ hw_206) (fun _ h9 => h9) rfl (by decide +kernel) rfl rfl (Nat.le_of_ble_eq_true rfl) dX6_add_69 (fun H locs hP hD hS => ?_)
  have hP : va_P D vwCl (wv_ti cI cJ cZ cM h_ti a_ti (upd (va_cpy ti_keys ti_keys r1.toNatClampNeg (r1 + 1).toNatClampNeg (ti_count - r1).toNatClampNeg) r1.toNatClampNeg p1) (upd (va_cpy ti_times ti_times r1.toNatClampNeg (r1 + 1).toNatClampNeg (ti_count - r1).toNatClampNeg) r1.toNatClampNeg p2) x2 ti_now) H := hP
  have hD : va_D A (wv_ti cI cJ cZ cM h_ti a_ti (upd (va_cpy ti_keys ti_keys r1.toNatClampNeg (r1 + 1).toNatClampNeg (ti_count - r1).toNatClampNeg) r1.toNatClampNeg p1) (upd (va_cpy ti_times ti_times r1.toNatClampNeg (r1 + 1).toNatClampNeg (ti_count - r1).toNatClampNeg) r1.toNatClampNeg p2) x2 ti_now) := hD
  exact W.vret hx hb hr (fun t ht hW => ⟨⟨(upd (va_cpy ti_keys ti_keys r1.toNatClampNeg (r1 + 1).toNatClampNeg (ti_count - r1).toNatClampNeg) r1.toNatClampNeg p1, upd (va_cpy ti_times ti_times r1.toNatClampNeg (r1 + 1).toNatClampNeg (ti_count - r1).toNatClampNeg) r1.toNatClampNeg p2, x2), rfl, h, by rw [ht]; exact hP, hD⟩, hS.F ht⟩) hS.2.2 dX6_add_72
def wp_ti_dropFirst (p1 : Int32) (ti_keys : Nat → Int32) (ti_times : Nat → Int32) (ti_count : Int32) (post : ((Nat → Int32) × (Nat → Int32) × Int32) → Prop) : Prop := ∀ x1 : Int32, x1 = ti_count - p1 → (¬ p1 < 0) ∧ (¬ (0 : Int32) < 0) ∧ (¬ x1 < 0) ∧ (p1.toNatClampNeg + x1.toNatClampNeg ≤ 40) ∧ ((0 : Int32).toNatClampNeg + x1.toNatClampNeg ≤ 40) ∧ ((¬ p1 < 0) ∧ (¬ (0 : Int32) < 0) ∧ (¬ x1 < 0) ∧ (p1.toNatClampNeg + x1.toNatClampNeg ≤ 40) ∧ ((0 : Int32).toNatClampNeg + x1.toNatClampNeg ≤ 40) ∧ (post (va_cpy ti_keys ti_keys p1.toNatClampNeg (0 : Int32).toNatClampNeg x1.toNatClampNeg, va_cpy ti_times ti_times p1.toNatClampNeg (0 : Int32).toNatClampNeg x1.toNatClampNeg, x1)))
theorem mm_ti_dropFirst : hk_MV yX6_dropFirst cX6_dropFirst 2 none 1 := ⟨hw_636, hw_635, hw_49, hw_84, by decide +kernel⟩
set_option maxRecDepth 100000 in
set_option maxHeartbeats 4000000 in
theorem c_ti_dropFirst (l : Launch) (D : va_G) (cI cJ cZ cM : ClassId) (h_ti : Nat) (a_ti : Nat → Nat) (sz : Nat) (ti_keys : Nat → Int32) (ti_times : Nat → Int32) (ti_count : Int32) (ti_now : Int32) (p1 : Int32) (post : ((Nat → Int32) × (Nat → Int32) × Int32) → Prop) (h : wp_ti_dropFirst p1 ti_keys ti_times ti_count post) : Met l yX6_dropFirst (hk_ws yX6_dropFirst cX6_dropFirst 2 none) (hk_rm 1 40) (va_Pc [.ref h_ti, .int p1] (hk_PM D (hk_ty cI cJ cZ cM) sz (wv_ti cI cJ cZ cM h_ti a_ti ti_keys ti_times ti_count ti_now))) (va_Qv post (hk_B D (va_A (wv_ti cI cJ cZ cM h_ti a_ti ti_keys ti_times ti_count ti_now) sz) (fun (u : (Nat → Int32) × (Nat → Int32) × Int32) => wv_ti cI cJ cZ cM h_ti a_ti u.1 u.2.1 u.2.2 ti_now)) (va_A (wv_ti cI cJ cZ cM h_ti a_ti ti_keys ti_times ti_count ti_now) sz)) 0 0 (va_A (wv_ti cI cJ cZ cM h_ti a_ti ti_keys ti_times ti_count ti_now) sz) := by
  refine Met.ofW (cc := cX6_dropFirst) (maxL := 2) (ret := none) (by decide) rfl ?_
  intro p e s m args below meth c s₁ B hml hv
  obtain ⟨rfl, hsz, hP, hK, hD0, hN⟩ := hv
  have hx := B.exec
  have hb := B.bytes
  have hr := B.returns
  have hts := atoms_spec (ws := hk_ws yX6_dropFirst cX6_dropFirst 2 none) B.pre
  have hta : ∀ w ∈ hk_all, w.before ([.ref h_ti, .int p1] : List Value).toArray s = true := fun w hw => hts w (List.mem_cons_of_mem _ hw)
  have hown : s.vm.findClass RX6 = some m.cls := findClass_of_methodNamed B.named
  have hlocks := B.notSynchronized
  have S0 : CallFix p m c cX6_dropFirst 2 s ([.ref h_ti, .int p1] : List Value).toArray hk_all RX6 := ⟨hx, hb, hml, hown, hta⟩
  subst hsz
  have hD := hD0.self (sz := s.heap.size)
  generalize hAe : va_A (wv_ti cI cJ cZ cM h_ti a_ti ti_keys ti_times ti_count ti_now) s.heap.size = A at hD ⊢
  have hA : ∀ q : Nat, s.heap.size ≤ q → A q := fun q h => by rw [← hAe]; exact Or.inr h
  have hS : va_S A s.heap s.heap [] := va_S.rf
  have hl := lv_entry ([.ref h_ti, .int p1]) (n := 2) (Nat.le_of_ble_eq_true rfl)
  rw [lg_entry_eq]
  generalize (lg_sl ([.ref h_ti, .int p1]) ++ List.replicate (2 - (lg_sl ([.ref h_ti, .int p1])).length) Slot.unset).toArray = ls at hl ⊢
  have hl : lv_has ls 2 [(0, .ref h_ti), (1, .int p1)] := hl
  unfold wp_ti_dropFirst at h
  refine lv_aload_n hx hb dX6_dropFirst_0 rfl (lv_at hl 0 rfl) ?_
  refine lv_dup hx hb dX6_dropFirst_1 rfl ?_
  refine va_get (D := D) (ci := 6) (v := .int ti_count) (C := RX6) (T := TX6) (N := 4) hx hb hta ih_X6 hown hK hP 0 rfl rfl 2 (by decide) (hta _ hw_206) (fun _ h9 => h9) rfl dX6_dropFirst_2 ?_
  refine lv_iload_n hx hb dX6_dropFirst_5 rfl (lv_at hl 1 rfl) ?_
  refine lv_isub hx hb dX6_dropFirst_6 ?_
  refine lv_topi (fun x1 ex1 => ?_)
  have h := h x1 ex1
  refine va_put (D := D) (ci := 6) (v := .int x1) (ty := .int) (C := RX6) (T := TX6) (N := 4) hx hb hta ih_X6 tyX6 tyX6_ok nmX6 hown hK hP hD hS 0 rfl rfl 2 (by decide) (hta _ hw_206) (fun _ h9 => h9) rfl (by decide +kernel) rfl rfl (Nat.le_of_ble_eq_true rfl) dX6_dropFirst_7 (fun H locs hP hD hS => ?_)
  have hP : va_P D vwCl (wv_ti cI cJ cZ cM h_ti a_ti ti_keys ti_times x1 ti_now) H := hP
  have hD : va_D A (wv_ti cI cJ cZ cM h_ti a_ti ti_keys ti_times x1 ti_now) := hD
  refine lv_aload_n hx hb dX6_dropFirst_10 rfl (lv_at hl 0 rfl) ?_
  refine va_get (D := D) (ci := 6) (v := .ref (a_ti 0)) (C := RX6) (T := TX6) (N := 4) hx hb hta ih_X6 hown hK hP 0 rfl rfl 0 (by decide) (hta _ hw_202) (fun _ h9 => h9) rfl dX6_dropFirst_11 ?_
  refine lv_iload_n hx hb dX6_dropFirst_14 rfl (lv_at hl 1 rfl) ?_
  refine lv_aload_n hx hb dX6_dropFirst_15 rfl (lv_at hl 0 rfl) ?_
  refine va_get (D := D) (ci := 6) (v := .ref (a_ti 0)) (C := RX6) (T := TX6) (N := 4) hx hb hta ih_X6 hown hK hP 0 rfl rfl 0 (by decide) (hta _ hw_202) (fun _ h9 => h9) rfl dX6_dropFirst_16 ?_
  refine lv_iconst (v := 0) hx hb dX6_dropFirst_19 (by decide) ?_
  refine lv_aload_n hx hb dX6_dropFirst_20 rfl (lv_at hl 0 rfl) ?_
  refine va_get (D := D) (ci := 6) (v := .int x1) (C := RX6) (T := TX6) (N := 4) hx hb hta ih_X6 hown hK hP 0 rfl rfl 2 (by decide) (hta _ hw_206) (fun _ h9 => h9) rfl dX6_dropFirst_21 ?_
  refine va_copyi hx hb (hml.trans hl.1.symm) hown (hta _ hw_601) (hta _ hw_603) (hta _ hw_602) (hta _ hw_89) hK hP hD hS 1 1 0 0 rfl rfl rfl rfl rfl h.1 h.2.1 h.2.2.1 h.2.2.2.1 h.2.2.2.2.1 (fun _ _ => rfl) (Nat.le_of_ble_eq_true rfl) (Nat.le_of_ble_eq_true rfl) dX6_dropFirst_24 (fun H locs hP hD hS => ?_)
  have h := h.2.2.2.2.2
  have hP : va_P D vwCl (wv_ti cI cJ cZ cM h_ti a_ti (va_cpy ti_keys ti_keys p1.toNatClampNeg (0 : Int32).toNatClampNeg x1.toNatClampNeg) ti_times x1 ti_now) H := hP
  have hD : va_D A (wv_ti cI cJ cZ cM h_ti a_ti (va_cpy ti_keys ti_keys p1.toNatClampNeg (0 : Int32).toNatClampNeg x1.toNatClampNeg) ti_times x1 ti_now) := hD
  refine lv_aload_n hx hb dX6_dropFirst_27 rfl (lv_at hl 0 rfl) ?_
  refine va_get (D := D) (ci := 6) (v := .ref (a_ti 1)) (C := RX6) (T := TX6) (N := 4) hx hb hta ih_X6 hown hK hP 0 rfl rfl 1 (by decide) (hta _ hw_204) (fun _ h9 => h9) rfl dX6_dropFirst_28 ?_
  refine lv_iload_n hx hb dX6_dropFirst_31 rfl (lv_at hl 1 rfl) ?_
  refine lv_aload_n hx hb dX6_dropFirst_32 rfl (lv_at hl 0 rfl) ?_
  refine va_get (D := D) (ci := 6) (v := .ref (a_ti 1)) (C := RX6) (T := TX6) (N := 4) hx hb hta ih_X6 hown hK hP 0 rfl rfl 1 (by decide) (hta _ hw_204) (fun _ h9 => h9) rfl dX6_dropFirst_33 ?_
  refine lv_iconst (v := 0) hx hb dX6_dropFirst_36 (by decide) ?_
  refine lv_aload_n hx hb dX6_dropFirst_37 rfl (lv_at hl 0 rfl) ?_
  refine va_get (D := D) (ci := 6) (v := .int x1) (C := RX6) (T := TX6) (N := 4) hx hb hta ih_X6 hown hK hP 0 rfl rfl 2 (by decide) (hta _ hw_206) (fun _ h9 => h9) rfl dX6_dropFirst_38 ?_
  refine va_copyi hx hb (hml.trans hl.1.symm) hown (hta _ hw_601) (hta _ hw_603) (hta _ hw_602) (hta _ hw_89) hK hP hD hS 2 2 0 0 rfl rfl rfl rfl rfl h.1 h.2.1 h.2.2.1 h.2.2.2.1 h.2.2.2.2.1 (fun _ _ => rfl) (Nat.le_of_ble_eq_true rfl) (Nat.le_of_ble_eq_true rfl) dX6_dropFirst_41 (fun H locs hP hD hS => ?_)
  have h := h.2.2.2.2.2
  have hP : va_P D vwCl (wv_ti cI cJ cZ cM h_ti a_ti (va_cpy ti_keys ti_keys p1.toNatClampNeg (0 : Int32).toNatClampNeg x1.toNatClampNeg) (va_cpy ti_times ti_times p1.toNatClampNeg (0 : Int32).toNatClampNeg x1.toNatClampNeg) x1 ti_now) H := hP
  have hD : va_D A (wv_ti cI cJ cZ cM h_ti a_ti (va_cpy ti_keys ti_keys p1.toNatClampNeg (0 : Int32).toNatClampNeg x1.toNatClampNeg) (va_cpy ti_times ti_times p1.toNatClampNeg (0 : Int32).toNatClampNeg x1.toNatClampNeg) x1 ti_now) := hD
  exact W.vret hx hb hr (fun t ht hW => ⟨⟨(va_cpy ti_keys ti_keys p1.toNatClampNeg (0 : Int32).toNatClampNeg x1.toNatClampNeg, va_cpy ti_times ti_times p1.toNatClampNeg (0 : Int32).toNatClampNeg x1.toNatClampNeg, x1), rfl, h, by rw [ht]; exact hP, hD⟩, hS.F ht⟩) hS.2.2 dX6_dropFirst_44
def wp_ti_copyFrom  (ti_keys : Nat → Int32) (ti_times : Nat → Int32) (ti2_keys : Nat → Int32) (ti2_times : Nat → Int32) (ti2_count : Int32) (ti2_now : Int32) (post : ((Nat → Int32) × (Nat → Int32) × Int32 × Int32) → Prop) : Prop := (¬ (0 : Int32) < 0) ∧ (¬ (0 : Int32) < 0) ∧ (¬ ti2_count < 0) ∧ ((0 : Int32).toNatClampNeg + ti2_count.toNatClampNeg ≤ 40) ∧ ((0 : Int32).toNatClampNeg + ti2_count.toNatClampNeg ≤ 40) ∧ ((¬ (0 : Int32) < 0) ∧ (¬ (0 : Int32) < 0) ∧ (¬ ti2_count < 0) ∧ ((0 : Int32).toNatClampNeg + ti2_count.toNatClampNeg ≤ 40) ∧ ((0 : Int32).toNatClampNeg + ti2_count.toNatClampNeg ≤ 40) ∧ (post (va_cpy ti2_keys ti_keys (0 : Int32).toNatClampNeg (0 : Int32).toNatClampNeg ti2_count.toNatClampNeg, va_cpy ti2_times ti_times (0 : Int32).toNatClampNeg (0 : Int32).toNatClampNeg ti2_count.toNatClampNeg, ti2_count, ti2_now)))
theorem mm_ti_copyFrom : hk_MV yX6_copyFrom cX6_copyFrom 2 none 1 := ⟨hw_693, hw_692, hw_52, hw_84, by decide +kernel⟩
set_option maxRecDepth 100000 in
set_option maxHeartbeats 4000000 in
theorem c_ti_copyFrom (l : Launch) (D : va_G) (cI cJ cZ cM : ClassId) (h_ti : Nat) (a_ti : Nat → Nat) (h_ti2 : Nat) (a_ti2 : Nat → Nat) (sz : Nat) (ti_keys : Nat → Int32) (ti_times : Nat → Int32) (ti_count : Int32) (ti_now : Int32) (ti2_keys : Nat → Int32) (ti2_times : Nat → Int32) (ti2_count : Int32) (ti2_now : Int32)  (post : ((Nat → Int32) × (Nat → Int32) × Int32 × Int32) → Prop) (h : wp_ti_copyFrom ti_keys ti_times ti2_keys ti2_times ti2_count ti2_now post) : Met l yX6_copyFrom (hk_ws yX6_copyFrom cX6_copyFrom 2 none) (hk_rm 1 40) (va_Pc [.ref h_ti, .ref h_ti2] (hk_PM D (hk_ty cI cJ cZ cM) sz ((wv_ti cI cJ cZ cM h_ti a_ti ti_keys ti_times ti_count ti_now) ++ (wv_ti cI cJ cZ cM h_ti2 a_ti2 ti2_keys ti2_times ti2_count ti2_now)))) (va_Qv post (hk_B D (va_A ((wv_ti cI cJ cZ cM h_ti a_ti ti_keys ti_times ti_count ti_now) ++ (wv_ti cI cJ cZ cM h_ti2 a_ti2 ti2_keys ti2_times ti2_count ti2_now)) sz) (fun (u : (Nat → Int32) × (Nat → Int32) × Int32 × Int32) => (wv_ti cI cJ cZ cM h_ti a_ti u.1 u.2.1 u.2.2.1 u.2.2.2) ++ (wv_ti cI cJ cZ cM h_ti2 a_ti2 ti2_keys ti2_times ti2_count ti2_now))) (va_A ((wv_ti cI cJ cZ cM h_ti a_ti ti_keys ti_times ti_count ti_now) ++ (wv_ti cI cJ cZ cM h_ti2 a_ti2 ti2_keys ti2_times ti2_count ti2_now)) sz)) 0 0 (va_A ((wv_ti cI cJ cZ cM h_ti a_ti ti_keys ti_times ti_count ti_now) ++ (wv_ti cI cJ cZ cM h_ti2 a_ti2 ti2_keys ti2_times ti2_count ti2_now)) sz) := by
  refine Met.ofW (cc := cX6_copyFrom) (maxL := 2) (ret := none) (by decide) rfl ?_
  intro p e s m args below meth c s₁ B hml hv
  obtain ⟨rfl, hsz, hP, hK, hD0, hN⟩ := hv
  have hx := B.exec
  have hb := B.bytes
  have hr := B.returns
  have hts := atoms_spec (ws := hk_ws yX6_copyFrom cX6_copyFrom 2 none) B.pre
  have hta : ∀ w ∈ hk_all, w.before ([.ref h_ti, .ref h_ti2] : List Value).toArray s = true := fun w hw => hts w (List.mem_cons_of_mem _ hw)
  have hown : s.vm.findClass RX6 = some m.cls := findClass_of_methodNamed B.named
  have hlocks := B.notSynchronized
  have S0 : CallFix p m c cX6_copyFrom 2 s ([.ref h_ti, .ref h_ti2] : List Value).toArray hk_all RX6 := ⟨hx, hb, hml, hown, hta⟩
  subst hsz
  have hD := hD0.self (sz := s.heap.size)
  generalize hAe : va_A ((wv_ti cI cJ cZ cM h_ti a_ti ti_keys ti_times ti_count ti_now) ++ (wv_ti cI cJ cZ cM h_ti2 a_ti2 ti2_keys ti2_times ti2_count ti2_now)) s.heap.size = A at hD ⊢
  have hA : ∀ q : Nat, s.heap.size ≤ q → A q := fun q h => by rw [← hAe]; exact Or.inr h
  have hS : va_S A s.heap s.heap [] := va_S.rf
  have hl := lv_entry ([.ref h_ti, .ref h_ti2]) (n := 2) (Nat.le_of_ble_eq_true rfl)
  rw [lg_entry_eq]
  generalize (lg_sl ([.ref h_ti, .ref h_ti2]) ++ List.replicate (2 - (lg_sl ([.ref h_ti, .ref h_ti2])).length) Slot.unset).toArray = ls at hl ⊢
  have hl : lv_has ls 2 [(0, .ref h_ti), (1, .ref h_ti2)] := hl
  unfold wp_ti_copyFrom at h
  refine lv_aload_n hx hb dX6_copyFrom_0 rfl (lv_at hl 1 rfl) ?_
  refine va_get (D := D) (ci := 6) (v := .ref (a_ti2 0)) (C := RX6) (T := TX6) (N := 4) hx hb hta ih_X6 hown hK hP 3 rfl rfl 0 (by decide) (hta _ hw_202) (fun _ h9 => h9) rfl dX6_copyFrom_1 ?_
  refine lv_iconst (v := 0) hx hb dX6_copyFrom_4 (by decide) ?_
  refine lv_aload_n hx hb dX6_copyFrom_5 rfl (lv_at hl 0 rfl) ?_
  refine va_get (D := D) (ci := 6) (v := .ref (a_ti 0)) (C := RX6) (T := TX6) (N := 4) hx hb hta ih_X6 hown hK hP 0 rfl rfl 0 (by decide) (hta _ hw_202) (fun _ h9 => h9) rfl dX6_copyFrom_6 ?_
  refine lv_iconst (v := 0) hx hb dX6_copyFrom_9 (by decide) ?_
  refine lv_aload_n hx hb dX6_copyFrom_10 rfl (lv_at hl 1 rfl) ?_
  refine va_get (D := D) (ci := 6) (v := .int ti2_count) (C := RX6) (T := TX6) (N := 4) hx hb hta ih_X6 hown hK hP 3 rfl rfl 2 (by decide) (hta _ hw_206) (fun _ h9 => h9) rfl dX6_copyFrom_11 ?_
  refine va_copyi hx hb (hml.trans hl.1.symm) hown (hta _ hw_601) (hta _ hw_603) (hta _ hw_602) (hta _ hw_89) hK hP hD hS 4 1 0 0 rfl rfl rfl rfl rfl h.1 h.2.1 h.2.2.1 h.2.2.2.1 h.2.2.2.2.1 (fun _ _ => rfl) (Nat.le_of_ble_eq_true rfl) (Nat.le_of_ble_eq_true rfl) dX6_copyFrom_14 (fun H locs hP hD hS => ?_)
  have h := h.2.2.2.2.2
  have hP : va_P D vwCl ((wv_ti cI cJ cZ cM h_ti a_ti (va_cpy ti2_keys ti_keys (0 : Int32).toNatClampNeg (0 : Int32).toNatClampNeg ti2_count.toNatClampNeg) ti_times ti_count ti_now) ++ (wv_ti cI cJ cZ cM h_ti2 a_ti2 ti2_keys ti2_times ti2_count ti2_now)) H := hP
  have hD : va_D A ((wv_ti cI cJ cZ cM h_ti a_ti (va_cpy ti2_keys ti_keys (0 : Int32).toNatClampNeg (0 : Int32).toNatClampNeg ti2_count.toNatClampNeg) ti_times ti_count ti_now) ++ (wv_ti cI cJ cZ cM h_ti2 a_ti2 ti2_keys ti2_times ti2_count ti2_now)) := hD
  refine lv_aload_n hx hb dX6_copyFrom_17 rfl (lv_at hl 1 rfl) ?_
  refine va_get (D := D) (ci := 6) (v := .ref (a_ti2 1)) (C := RX6) (T := TX6) (N := 4) hx hb hta ih_X6 hown hK hP 3 rfl rfl 1 (by decide) (hta _ hw_204) (fun _ h9 => h9) rfl dX6_copyFrom_18 ?_
  refine lv_iconst (v := 0) hx hb dX6_copyFrom_21 (by decide) ?_
  refine lv_aload_n hx hb dX6_copyFrom_22 rfl (lv_at hl 0 rfl) ?_
  refine va_get (D := D) (ci := 6) (v := .ref (a_ti 1)) (C := RX6) (T := TX6) (N := 4) hx hb hta ih_X6 hown hK hP 0 rfl rfl 1 (by decide) (hta _ hw_204) (fun _ h9 => h9) rfl dX6_copyFrom_23 ?_
  refine lv_iconst (v := 0) hx hb dX6_copyFrom_26 (by decide) ?_
  refine lv_aload_n hx hb dX6_copyFrom_27 rfl (lv_at hl 1 rfl) ?_
  refine va_get (D := D) (ci := 6) (v := .int ti2_count) (C := RX6) (T := TX6) (N := 4) hx hb hta ih_X6 hown hK hP 3 rfl rfl 2 (by decide) (hta _ hw_206) (fun _ h9 => h9) rfl dX6_copyFrom_28 ?_
  refine va_copyi hx hb (hml.trans hl.1.symm) hown (hta _ hw_601) (hta _ hw_603) (hta _ hw_602) (hta _ hw_89) hK hP hD hS 5 2 0 0 rfl rfl rfl rfl rfl h.1 h.2.1 h.2.2.1 h.2.2.2.1 h.2.2.2.2.1 (fun _ _ => rfl) (Nat.le_of_ble_eq_true rfl) (Nat.le_of_ble_eq_true rfl) dX6_copyFrom_31 (fun H locs hP hD hS => ?_)
  have h := h.2.2.2.2.2
  have hP : va_P D vwCl ((wv_ti cI cJ cZ cM h_ti a_ti (va_cpy ti2_keys ti_keys (0 : Int32).toNatClampNeg (0 : Int32).toNatClampNeg ti2_count.toNatClampNeg) (va_cpy ti2_times ti_times (0 : Int32).toNatClampNeg (0 : Int32).toNatClampNeg ti2_count.toNatClampNeg) ti_count ti_now) ++ (wv_ti cI cJ cZ cM h_ti2 a_ti2 ti2_keys ti2_times ti2_count ti2_now)) H := hP
  have hD : va_D A ((wv_ti cI cJ cZ cM h_ti a_ti (va_cpy ti2_keys ti_keys (0 : Int32).toNatClampNeg (0 : Int32).toNatClampNeg ti2_count.toNatClampNeg) (va_cpy ti2_times ti_times (0 : Int32).toNatClampNeg (0 : Int32).toNatClampNeg ti2_count.toNatClampNeg) ti_count ti_now) ++ (wv_ti cI cJ cZ cM h_ti2 a_ti2 ti2_keys ti2_times ti2_count ti2_now)) := hD
  refine lv_aload_n hx hb dX6_copyFrom_34 rfl (lv_at hl 0 rfl) ?_
  refine lv_aload_n hx hb dX6_copyFrom_35 rfl (lv_at hl 1 rfl) ?_
  refine va_get (D := D) (ci := 6) (v := .int ti2_count) (C := RX6) (T := TX6) (N := 4) hx hb hta ih_X6 hown hK hP 3 rfl rfl 2 (by decide) (hta _ hw_206) (fun _ h9 => h9) rfl dX6_copyFrom_36 ?_
  refine va_put (D := D) (ci := 6) (v := .int ti2_count) (ty := .int) (C := RX6) (T := TX6) (N := 4) hx hb hta ih_X6 tyX6 tyX6_ok nmX6 hown hK hP hD hS 0 rfl rfl 2 (by decide) (hta _ hw_206) (fun _ h9 => h9) rfl (by decide +kernel) rfl rfl (Nat.le_of_ble_eq_true rfl) dX6_copyFrom_39 (fun H locs hP hD hS => ?_)
  have hP : va_P D vwCl ((wv_ti cI cJ cZ cM h_ti a_ti (va_cpy ti2_keys ti_keys (0 : Int32).toNatClampNeg (0 : Int32).toNatClampNeg ti2_count.toNatClampNeg) (va_cpy ti2_times ti_times (0 : Int32).toNatClampNeg (0 : Int32).toNatClampNeg ti2_count.toNatClampNeg) ti2_count ti_now) ++ (wv_ti cI cJ cZ cM h_ti2 a_ti2 ti2_keys ti2_times ti2_count ti2_now)) H := hP
  have hD : va_D A ((wv_ti cI cJ cZ cM h_ti a_ti (va_cpy ti2_keys ti_keys (0 : Int32).toNatClampNeg (0 : Int32).toNatClampNeg ti2_count.toNatClampNeg) (va_cpy ti2_times ti_times (0 : Int32).toNatClampNeg (0 : Int32).toNatClampNeg ti2_count.toNatClampNeg) ti2_count ti_now) ++ (wv_ti cI cJ cZ cM h_ti2 a_ti2 ti2_keys ti2_times ti2_count ti2_now)) := hD
  refine lv_aload_n hx hb dX6_copyFrom_42 rfl (lv_at hl 0 rfl) ?_
  refine lv_aload_n hx hb dX6_copyFrom_43 rfl (lv_at hl 1 rfl) ?_
  refine va_get (D := D) (ci := 6) (v := .int ti2_now) (C := RX6) (T := TX6) (N := 4) hx hb hta ih_X6 hown hK hP 3 rfl rfl 3 (by decide) (hta _ hw_208) (fun _ h9 => h9) rfl dX6_copyFrom_44 ?_
  refine va_put (D := D) (ci := 6) (v := .int ti2_now) (ty := .int) (C := RX6) (T := TX6) (N := 4) hx hb hta ih_X6 tyX6 tyX6_ok nmX6 hown hK hP hD hS 0 rfl rfl 3 (by decide) (hta _ hw_208) (fun _ h9 => h9) rfl (by decide +kernel) rfl rfl (Nat.le_of_ble_eq_true rfl) dX6_copyFrom_47 (fun H locs hP hD hS => ?_)
  have hP : va_P D vwCl ((wv_ti cI cJ cZ cM h_ti a_ti (va_cpy ti2_keys ti_keys (0 : Int32).toNatClampNeg (0 : Int32).toNatClampNeg ti2_count.toNatClampNeg) (va_cpy ti2_times ti_times (0 : Int32).toNatClampNeg (0 : Int32).toNatClampNeg ti2_count.toNatClampNeg) ti2_count ti2_now) ++ (wv_ti cI cJ cZ cM h_ti2 a_ti2 ti2_keys ti2_times ti2_count ti2_now)) H := hP
  have hD : va_D A ((wv_ti cI cJ cZ cM h_ti a_ti (va_cpy ti2_keys ti_keys (0 : Int32).toNatClampNeg (0 : Int32).toNatClampNeg ti2_count.toNatClampNeg) (va_cpy ti2_times ti_times (0 : Int32).toNatClampNeg (0 : Int32).toNatClampNeg ti2_count.toNatClampNeg) ti2_count ti2_now) ++ (wv_ti cI cJ cZ cM h_ti2 a_ti2 ti2_keys ti2_times ti2_count ti2_now)) := hD
  exact W.vret hx hb hr (fun t ht hW => ⟨⟨(va_cpy ti2_keys ti_keys (0 : Int32).toNatClampNeg (0 : Int32).toNatClampNeg ti2_count.toNatClampNeg, va_cpy ti2_times ti_times (0 : Int32).toNatClampNeg (0 : Int32).toNatClampNeg ti2_count.toNatClampNeg, ti2_count, ti2_now), rfl, h, by rw [ht]; exact hP, hD⟩, hS.F ht⟩) hS.2.2 dX6_copyFrom_50
