def wp_cn_put (p1 : Int32) (p2 : Int32) (p3 : Int32) (cn_keys : Nat → Int32) (cn_counts : Nat → Int32) (cn_errors : Nat → Int32) (post : ((Nat → Int32) × (Nat → Int32) × (Nat → Int32)) → Prop) : Prop := vp_in p1 12 ∧ (vp_in p1 12 ∧ (∀ x1 : Int32, x1 = p3 + 1 → vp_in p1 12 ∧ (post (upd cn_keys p1.toNatClampNeg p2, upd cn_counts p1.toNatClampNeg x1, upd cn_errors p1.toNatClampNeg p3))))
theorem mm_cn_put : hk_MV yX0_put cX0_put 4 none 3 := ⟨hw_420, hw_419, hw_19, hw_82, by decide +kernel⟩
set_option maxRecDepth 100000 in
set_option maxHeartbeats 4000000 in
theorem c_cn_put (l : Launch) (D : va_G) (cI cJ cZ cM : ClassId) (h_cn : Nat) (a_cn : Nat → Nat) (sz : Nat) (cn_keys : Nat → Int32) (cn_counts : Nat → Int32) (cn_errors : Nat → Int32) (cn_limit : Int32) (cn_used : Int32) (p1 : Int32) (p2 : Int32) (p3 : Int32) (post : ((Nat → Int32) × (Nat → Int32) × (Nat → Int32)) → Prop) (h : wp_cn_put p1 p2 p3 cn_keys cn_counts cn_errors post) : Met l yX0_put (hk_ws yX0_put cX0_put 4 none) (hk_rm 0 0) (va_Pc [.ref h_cn, .int p1, .int p2, .int p3] (hk_PM D (hk_ty cI cJ cZ cM) sz (wv_cn cI cJ cZ cM h_cn a_cn cn_keys cn_counts cn_errors cn_limit cn_used))) (va_Qv post (hk_B D (va_A (wv_cn cI cJ cZ cM h_cn a_cn cn_keys cn_counts cn_errors cn_limit cn_used) sz) (fun (u : (Nat → Int32) × (Nat → Int32) × (Nat → Int32)) => wv_cn cI cJ cZ cM h_cn a_cn u.1 u.2.1 u.2.2 cn_limit cn_used)) (va_A (wv_cn cI cJ cZ cM h_cn a_cn cn_keys cn_counts cn_errors cn_limit cn_used) sz)) 0 0 (va_A (wv_cn cI cJ cZ cM h_cn a_cn cn_keys cn_counts cn_errors cn_limit cn_used) sz) := by
  refine Met.ofW (cc := cX0_put) (maxL := 4) (ret := none) (by decide) rfl ?_
  intro p e s m args below meth c s₁ B hml hv
  obtain ⟨rfl, hsz, hP, hK, hD0, hN⟩ := hv
  have hx := B.exec
  have hb := B.bytes
  have hr := B.returns
  have hts := atoms_spec (ws := hk_ws yX0_put cX0_put 4 none) B.pre
  have hta : ∀ w ∈ hk_all, w.before ([.ref h_cn, .int p1, .int p2, .int p3] : List Value).toArray s = true := fun w hw => hts w (List.mem_cons_of_mem _ hw)
  have hown : s.vm.findClass RX0 = some m.cls := findClass_of_methodNamed B.named
  have hlocks := B.notSynchronized
  have S0 : CallFix p m c cX0_put 4 s ([.ref h_cn, .int p1, .int p2, .int p3] : List Value).toArray hk_all RX0 := ⟨hx, hb, hml, hown, hta⟩
  subst hsz
  have hD := hD0.self (sz := s.heap.size)
  generalize hAe : va_A (wv_cn cI cJ cZ cM h_cn a_cn cn_keys cn_counts cn_errors cn_limit cn_used) s.heap.size = A at hD ⊢
  have hA : ∀ q : Nat, s.heap.size ≤ q → A q := fun q h => by rw [← hAe]; exact Or.inr h
  have hS : va_S A s.heap s.heap [] := va_S.rf
  have hl := lv_entry ([.ref h_cn, .int p1, .int p2, .int p3]) (n := 4) (Nat.le_of_ble_eq_true rfl)
  rw [lg_entry_eq]
  generalize (lg_sl ([.ref h_cn, .int p1, .int p2, .int p3]) ++ List.replicate (4 - (lg_sl ([.ref h_cn, .int p1, .int p2, .int p3])).length) Slot.unset).toArray = ls at hl ⊢
  have hl : lv_has ls 4 [(0, .ref h_cn), (1, .int p1), (2, .int p2), (3, .int p3)] := hl
  unfold wp_cn_put at h
  refine lv_aload_n hx hb dX0_put_0 rfl (lv_at hl 0 rfl) ?_
  refine va_get (D := D) (ci := 0) (v := .ref (a_cn 0)) (C := RX0) (T := TX0) (N := 5) hx hb hta ih_X0 hown hK hP 0 rfl rfl 0 (by decide) (hta _ hw_152) (fun _ h9 => h9) rfl dX0_put_1 ?_
  refine lv_iload_n hx hb dX0_put_4 rfl (lv_at hl 1 rfl) ?_
  refine lv_iload_n hx hb dX0_put_5 rfl (lv_at hl 2 rfl) ?_
  refine va_iast hx hb hK hP hD hS 1 0 rfl rfl h.1 dX0_put_6 (fun H locs hP hD hS => ?_)
  have h := h.2
  have hP : va_P D vwCl (wv_cn cI cJ cZ cM h_cn a_cn (upd cn_keys p1.toNatClampNeg p2) cn_counts cn_errors cn_limit cn_used) H := hP
  have hD : va_D A (wv_cn cI cJ cZ cM h_cn a_cn (upd cn_keys p1.toNatClampNeg p2) cn_counts cn_errors cn_limit cn_used) := hD
  refine lv_aload_n hx hb dX0_put_7 rfl (lv_at hl 0 rfl) ?_
  refine va_get (D := D) (ci := 0) (v := .ref (a_cn 2)) (C := RX0) (T := TX0) (N := 5) hx hb hta ih_X0 hown hK hP 0 rfl rfl 2 (by decide) (hta _ hw_154) (fun _ h9 => h9) rfl dX0_put_8 ?_
  refine lv_iload_n hx hb dX0_put_11 rfl (lv_at hl 1 rfl) ?_
  refine lv_iload_n hx hb dX0_put_12 rfl (lv_at hl 3 rfl) ?_
  refine va_iast hx hb hK hP hD hS 3 0 rfl rfl h.1 dX0_put_13 (fun H locs hP hD hS => ?_)
  have h := h.2
  have hP : va_P D vwCl (wv_cn cI cJ cZ cM h_cn a_cn (upd cn_keys p1.toNatClampNeg p2) cn_counts (upd cn_errors p1.toNatClampNeg p3) cn_limit cn_used) H := hP
  have hD : va_D A (wv_cn cI cJ cZ cM h_cn a_cn (upd cn_keys p1.toNatClampNeg p2) cn_counts (upd cn_errors p1.toNatClampNeg p3) cn_limit cn_used) := hD
  refine lv_aload_n hx hb dX0_put_14 rfl (lv_at hl 0 rfl) ?_
  refine va_get (D := D) (ci := 0) (v := .ref (a_cn 1)) (C := RX0) (T := TX0) (N := 5) hx hb hta ih_X0 hown hK hP 0 rfl rfl 1 (by decide) (hta _ hw_153) (fun _ h9 => h9) rfl dX0_put_15 ?_
  refine lv_iload_n hx hb dX0_put_18 rfl (lv_at hl 1 rfl) ?_
  refine lv_iload_n hx hb dX0_put_19 rfl (lv_at hl 3 rfl) ?_
  refine lv_iconst (v := 1) hx hb dX0_put_20 (by decide) ?_
  refine lv_iadd hx hb dX0_put_21 ?_
  refine lv_topi (fun x1 ex1 => ?_)
  have h := h x1 ex1
  refine va_iast hx hb hK hP hD hS 2 0 rfl rfl h.1 dX0_put_22 (fun H locs hP hD hS => ?_)
  have h := h.2
  have hP : va_P D vwCl (wv_cn cI cJ cZ cM h_cn a_cn (upd cn_keys p1.toNatClampNeg p2) (upd cn_counts p1.toNatClampNeg x1) (upd cn_errors p1.toNatClampNeg p3) cn_limit cn_used) H := hP
  have hD : va_D A (wv_cn cI cJ cZ cM h_cn a_cn (upd cn_keys p1.toNatClampNeg p2) (upd cn_counts p1.toNatClampNeg x1) (upd cn_errors p1.toNatClampNeg p3) cn_limit cn_used) := hD
  exact W.vret hx hb hr (fun t ht hW => ⟨⟨(upd cn_keys p1.toNatClampNeg p2, upd cn_counts p1.toNatClampNeg x1, upd cn_errors p1.toNatClampNeg p3), rfl, h, by rw [ht]; exact hP, hD⟩, hS.F ht⟩) hS.2.2 dX0_put_23
def wb_cn_find_2 (cn_keys : Nat → Int32) (cn_used : Int32) (p1 : Int32) (post : Int32 → Prop) (K2 : (Int32) → Prop) (v1 : Int32) : Prop := (cn_used ≤ v1 → post (-1)) ∧ (¬ cn_used ≤ v1 → vp_in v1 12 ∧ ((¬ (cn_keys v1.toNatClampNeg) = p1 → ∀ x4 : Int32, x4 = v1 + 1 → K2 x4) ∧ ((cn_keys v1.toNatClampNeg) = p1 → post v1)))
def wp_cn_find (p1 : Int32) (cn_keys : Nat → Int32) (cn_used : Int32) (post : Int32 → Prop) : Prop := ∃ n, hk_lp (wb_cn_find_2 cn_keys cn_used p1 post) n 0
theorem mm_cn_find : hk_MV yX0_find cX0_find 3 (some .int) 1 := ⟨hw_416, hw_415, hw_18, hw_82, by decide +kernel⟩
set_option maxRecDepth 100000 in
set_option maxHeartbeats 4000000 in
theorem c_cn_find (l : Launch) (D : va_G) (cI cJ cZ cM : ClassId) (h_cn : Nat) (a_cn : Nat → Nat)  (cn_keys : Nat → Int32) (cn_counts : Nat → Int32) (cn_errors : Nat → Int32) (cn_limit : Int32) (cn_used : Int32) (p1 : Int32) (post : Int32 → Prop) (h : wp_cn_find p1 cn_keys cn_used post) : Met l yX0_find (hk_ws yX0_find cX0_find 3 (some .int)) (hk_rm 0 0) (va_Pc [.ref h_cn, .int p1] (hk_PR D (hk_ty cI cJ cZ cM) (wv_cn cI cJ cZ cM h_cn a_cn cn_keys cn_counts cn_errors cn_limit cn_used))) (vp_Si post) 0 0 (fun _ => False) := by
  refine Met.ofW (cc := cX0_find) (maxL := 3) (ret := (some .int)) (by decide) rfl ?_
  intro p e s m args below meth c s₁ B hml hv
  obtain ⟨rfl, hP, hK, hN⟩ := hv
  have hx := B.exec
  have hb := B.bytes
  have hr := B.returns
  have hts := atoms_spec (ws := hk_ws yX0_find cX0_find 3 (some .int)) B.pre
  have hta : ∀ w ∈ hk_all, w.before ([.ref h_cn, .int p1] : List Value).toArray s = true := fun w hw => hts w (List.mem_cons_of_mem _ hw)
  have hown : s.vm.findClass RX0 = some m.cls := findClass_of_methodNamed B.named
  have hlocks := B.notSynchronized
  have S0 : CallFix p m c cX0_find 3 s ([.ref h_cn, .int p1] : List Value).toArray hk_all RX0 := ⟨hx, hb, hml, hown, hta⟩
  have hl := lv_entry ([.ref h_cn, .int p1]) (n := 3) (Nat.le_of_ble_eq_true rfl)
  rw [lg_entry_eq]
  generalize (lg_sl ([.ref h_cn, .int p1]) ++ List.replicate (3 - (lg_sl ([.ref h_cn, .int p1])).length) Slot.unset).toArray = ls at hl ⊢
  have hl : lv_has ls 3 [(0, .ref h_cn), (1, .int p1)] := hl
  unfold wp_cn_find at h
  refine lv_iconst (v := 0) hx hb dX0_find_0 (by decide) ?_
  refine lv_istore_n (lv' := [(2, .int 0), (0, .ref h_cn), (1, .int p1)]) hx hb dX0_find_1 rfl hl (by decide) rfl (fun ls hl => ?_)
  have P2 : ∀ (n : Nat) (v1 : Int32) (ls : Array Slot), lv_has ls 3 [(0, .ref h_cn), (1, .int p1), (2, .int v1)] → hk_lp (wb_cn_find_2 cn_keys cn_used p1 post) n v1 → W p l e (headSpec (hk_ws yX0_find cX0_find 3 (some .int)) (hk_rm 0 0)).room s m ([.ref h_cn, .int p1] : List Value).toArray below meth c s.heap [] 0 0 (MQ below (vp_Si post) ([.ref h_cn, .int p1] : List Value).toArray s 0 0 (fun _ => False)) (F0 m 2 ls []) := by
    intro n
    induction n with
    | zero => intro v1 ls hl h; exact False.elim h
    | succ n ih2 =>
      intro v1 ls hl h
      have h : wb_cn_find_2 cn_keys cn_used p1 post (hk_lp (wb_cn_find_2 cn_keys cn_used p1 post) n) v1 := h
      generalize hk_lp (wb_cn_find_2 cn_keys cn_used p1 post) n = K2 at h ih2
      unfold wb_cn_find_2 at h
      refine lv_iload_n hx hb dX0_find_2 rfl (lv_at hl 2 rfl) ?_
      refine lv_aload_n hx hb dX0_find_3 rfl (lv_at hl 0 rfl) ?_
      refine va_get (D := D) (ci := 0) (v := .int cn_used) (C := RX0) (T := TX0) (N := 5) hx hb hta ih_X0 hown hK hP 0 rfl rfl 4 (by decide) (hta _ hw_157) (fun _ h9 => h9) rfl dX0_find_4 ?_
      refine lv_icmp_ge (tgt := 28) hx hb dX0_find_7 (by decide) (fun c2 => ?_) (fun c2 => ?_)
      · have h := h.1 c2
        refine lv_iconst (v := (-1)) hx hb dX0_find_28 (by decide) ?_
        exact W.iret (v := (-1)) hx hb hr (fun t ht hW => ⟨_, rfl, h, ht⟩) (fun _ hq => by cases hq) dX0_find_29
      · have h := h.2 c2
        refine lv_aload_n hx hb dX0_find_10 rfl (lv_at hl 0 rfl) ?_
        refine va_get (D := D) (ci := 0) (v := .ref (a_cn 0)) (C := RX0) (T := TX0) (N := 5) hx hb hta ih_X0 hown hK hP 0 rfl rfl 0 (by decide) (hta _ hw_152) (fun _ h9 => h9) rfl dX0_find_11 ?_
        refine lv_iload_n hx hb dX0_find_14 rfl (lv_at hl 2 rfl) ?_
        refine va_iald hx hb hK hP 1 0 rfl rfl h.1 dX0_find_15 ?_
        have h := h.2
        refine lv_iload_n hx hb dX0_find_16 rfl (lv_at hl 1 rfl) ?_
        refine lv_icmp_ne (tgt := 22) hx hb dX0_find_17 (by decide) (fun c3 => ?_) (fun c3 => ?_)
        · have h := h.1 c3
          obtain ⟨x4, ex4⟩ : ∃ y : Int32, y = v1 + 1 := ⟨_, rfl⟩
          have h := h x4 ex4
          refine lv_iinc (v := x4) (lv' := [(2, .int x4), (0, .ref h_cn), (1, .int p1)]) hx hb dX0_find_22 hl (k := 2) rfl (by rw [ex4]; rfl) (by decide) rfl (fun ls hl => ?_)
          refine lv_goto (tgt := 2) hx hb dX0_find_25 (by decide) ?_
          exact ih2 x4 ls (lv_sub hl [1, 2, 0] rfl) h
        · have h := h.2 c3
          refine lv_iload_n hx hb dX0_find_20 rfl (lv_at hl 2 rfl) ?_
          exact W.iret (v := v1) hx hb hr (fun t ht hW => ⟨_, rfl, h, ht⟩) (fun _ hq => by cases hq) dX0_find_21
  obtain ⟨n, h⟩ := h
  exact P2 n 0 ls (lv_sub hl [1, 2, 0] rfl) h
def wb_cn_leastAt_4 (cn_counts : Nat → Int32) (cn_used : Int32) (post : Int32 → Prop) (K4 : (Int32 × Int32) → Prop) (v1 : Int32 × Int32) : Prop := (cn_used ≤ v1.2 → post v1.1) ∧ (¬ cn_used ≤ v1.2 → vp_in v1.2 12 ∧ (vp_in v1.1 12 ∧ (((cn_counts v1.1.toNatClampNeg) ≤ (cn_counts v1.2.toNatClampNeg) → ∀ x4 : Int32, x4 = v1.2 + 1 → K4 (v1.1, x4)) ∧ (¬ (cn_counts v1.1.toNatClampNeg) ≤ (cn_counts v1.2.toNatClampNeg) → ∀ x5 : Int32, x5 = v1.2 + 1 → K4 (v1.2, x5)))))
def wp_cn_leastAt  (cn_counts : Nat → Int32) (cn_used : Int32) (post : Int32 → Prop) : Prop := ∃ n, hk_lp (wb_cn_leastAt_4 cn_counts cn_used post) n (0, 1)
theorem mm_cn_leastAt : hk_MV yX0_leastAt cX0_leastAt 3 (some .int) 0 := ⟨hw_424, hw_423, hw_20, hw_82, by decide +kernel⟩
set_option maxRecDepth 100000 in
set_option maxHeartbeats 4000000 in
theorem c_cn_leastAt (l : Launch) (D : va_G) (cI cJ cZ cM : ClassId) (h_cn : Nat) (a_cn : Nat → Nat)  (cn_keys : Nat → Int32) (cn_counts : Nat → Int32) (cn_errors : Nat → Int32) (cn_limit : Int32) (cn_used : Int32)  (post : Int32 → Prop) (h : wp_cn_leastAt cn_counts cn_used post) : Met l yX0_leastAt (hk_ws yX0_leastAt cX0_leastAt 3 (some .int)) (hk_rm 0 0) (va_Pc [.ref h_cn] (hk_PR D (hk_ty cI cJ cZ cM) (wv_cn cI cJ cZ cM h_cn a_cn cn_keys cn_counts cn_errors cn_limit cn_used))) (vp_Si post) 0 0 (fun _ => False) := by
  refine Met.ofW (cc := cX0_leastAt) (maxL := 3) (ret := (some .int)) (by decide) rfl ?_
  intro p e s m args below meth c s₁ B hml hv
  obtain ⟨rfl, hP, hK, hN⟩ := hv
  have hx := B.exec
  have hb := B.bytes
  have hr := B.returns
  have hts := atoms_spec (ws := hk_ws yX0_leastAt cX0_leastAt 3 (some .int)) B.pre
  have hta : ∀ w ∈ hk_all, w.before ([.ref h_cn] : List Value).toArray s = true := fun w hw => hts w (List.mem_cons_of_mem _ hw)
  have hown : s.vm.findClass RX0 = some m.cls := findClass_of_methodNamed B.named
  have hlocks := B.notSynchronized
  have S0 : CallFix p m c cX0_leastAt 3 s ([.ref h_cn] : List Value).toArray hk_all RX0 := ⟨hx, hb, hml, hown, hta⟩
  have hl := lv_entry ([.ref h_cn]) (n := 3) (Nat.le_of_ble_eq_true rfl)
  rw [lg_entry_eq]
  generalize (lg_sl ([.ref h_cn]) ++ List.replicate (3 - (lg_sl ([.ref h_cn])).length) Slot.unset).toArray = ls at hl ⊢
  have hl : lv_has ls 3 [(0, .ref h_cn)] := hl
  unfold wp_cn_leastAt at h
  refine lv_iconst (v := 0) hx hb dX0_leastAt_0 (by decide) ?_
  refine lv_istore_n (lv' := [(1, .int 0), (0, .ref h_cn)]) hx hb dX0_leastAt_1 rfl hl (by decide) rfl (fun ls hl => ?_)
  refine lv_iconst (v := 1) hx hb dX0_leastAt_2 (by decide) ?_
  refine lv_istore_n (lv' := [(2, .int 1), (1, .int 0), (0, .ref h_cn)]) hx hb dX0_leastAt_3 rfl hl (by decide) rfl (fun ls hl => ?_)
  have P4 : ∀ (n : Nat) (v1 : Int32 × Int32) (ls : Array Slot), lv_has ls 3 [(0, .ref h_cn), (1, .int v1.1), (2, .int v1.2)] → hk_lp (wb_cn_leastAt_4 cn_counts cn_used post) n v1 → W p l e (headSpec (hk_ws yX0_leastAt cX0_leastAt 3 (some .int)) (hk_rm 0 0)).room s m ([.ref h_cn] : List Value).toArray below meth c s.heap [] 0 0 (MQ below (vp_Si post) ([.ref h_cn] : List Value).toArray s 0 0 (fun _ => False)) (F0 m 4 ls []) := by
    intro n
    induction n with
    | zero => intro v1 ls hl h; exact False.elim h
    | succ n ih4 =>
      intro v1 ls hl h
      have h : wb_cn_leastAt_4 cn_counts cn_used post (hk_lp (wb_cn_leastAt_4 cn_counts cn_used post) n) v1 := h
      generalize hk_lp (wb_cn_leastAt_4 cn_counts cn_used post) n = K4 at h ih4
      unfold wb_cn_leastAt_4 at h
      refine lv_iload_n hx hb dX0_leastAt_4 rfl (lv_at hl 2 rfl) ?_
      refine lv_aload_n hx hb dX0_leastAt_5 rfl (lv_at hl 0 rfl) ?_
      refine va_get (D := D) (ci := 0) (v := .int cn_used) (C := RX0) (T := TX0) (N := 5) hx hb hta ih_X0 hown hK hP 0 rfl rfl 4 (by decide) (hta _ hw_157) (fun _ h9 => h9) rfl dX0_leastAt_6 ?_
      refine lv_icmp_ge (tgt := 35) hx hb dX0_leastAt_9 (by decide) (fun c2 => ?_) (fun c2 => ?_)
      · have h := h.1 c2
        refine lv_iload_n hx hb dX0_leastAt_35 rfl (lv_at hl 1 rfl) ?_
        exact W.iret (v := v1.1) hx hb hr (fun t ht hW => ⟨_, rfl, h, ht⟩) (fun _ hq => by cases hq) dX0_leastAt_36
      · have h := h.2 c2
        refine lv_aload_n hx hb dX0_leastAt_12 rfl (lv_at hl 0 rfl) ?_
        refine va_get (D := D) (ci := 0) (v := .ref (a_cn 1)) (C := RX0) (T := TX0) (N := 5) hx hb hta ih_X0 hown hK hP 0 rfl rfl 1 (by decide) (hta _ hw_153) (fun _ h9 => h9) rfl dX0_leastAt_13 ?_
        refine lv_iload_n hx hb dX0_leastAt_16 rfl (lv_at hl 2 rfl) ?_
        refine va_iald hx hb hK hP 2 0 rfl rfl h.1 dX0_leastAt_17 ?_
        have h := h.2
        refine lv_aload_n hx hb dX0_leastAt_18 rfl (lv_at hl 0 rfl) ?_
        refine va_get (D := D) (ci := 0) (v := .ref (a_cn 1)) (C := RX0) (T := TX0) (N := 5) hx hb hta ih_X0 hown hK hP 0 rfl rfl 1 (by decide) (hta _ hw_153) (fun _ h9 => h9) rfl dX0_leastAt_19 ?_
        refine lv_iload_n hx hb dX0_leastAt_22 rfl (lv_at hl 1 rfl) ?_
        refine va_iald hx hb hK hP 2 0 rfl rfl h.1 dX0_leastAt_23 ?_
        have h := h.2
        refine lv_icmp_ge (tgt := 29) hx hb dX0_leastAt_24 (by decide) (fun c3 => ?_) (fun c3 => ?_)
        · have h := h.1 c3
          obtain ⟨x4, ex4⟩ : ∃ y : Int32, y = v1.2 + 1 := ⟨_, rfl⟩
          have h := h x4 ex4
          refine lv_iinc (v := x4) (lv' := [(2, .int x4), (0, .ref h_cn), (1, .int v1.1)]) hx hb dX0_leastAt_29 hl (k := 2) rfl (by rw [ex4]; rfl) (by decide) rfl (fun ls hl => ?_)
          refine lv_goto (tgt := 4) hx hb dX0_leastAt_32 (by decide) ?_
          exact ih4 (v1.1, x4) ls (lv_sub hl [1, 2, 0] rfl) h
        · have h := h.2 c3
          refine lv_iload_n hx hb dX0_leastAt_27 rfl (lv_at hl 2 rfl) ?_
          refine lv_istore_n (lv' := [(1, .int v1.2), (0, .ref h_cn), (2, .int v1.2)]) hx hb dX0_leastAt_28 rfl hl (by decide) rfl (fun ls hl => ?_)
          obtain ⟨x5, ex5⟩ : ∃ y : Int32, y = v1.2 + 1 := ⟨_, rfl⟩
          have h := h x5 ex5
          refine lv_iinc (v := x5) (lv' := [(2, .int x5), (1, .int v1.2), (0, .ref h_cn)]) hx hb dX0_leastAt_29 hl (k := 2) rfl (by rw [ex5]; rfl) (by decide) rfl (fun ls hl => ?_)
          refine lv_goto (tgt := 4) hx hb dX0_leastAt_32 (by decide) ?_
          exact ih4 (v1.2, x5) ls (lv_sub hl [2, 1, 0] rfl) h
  obtain ⟨n, h⟩ := h
  exact P4 n (0, 1) ls (lv_sub hl [2, 1, 0] rfl) h
def wp_cn_keyAt (p1 : Int32) (cn_keys : Nat → Int32) (cn_used : Int32) (post : Int32 → Prop) : Prop := (cn_used ≤ p1 → post (-1)) ∧ (¬ cn_used ≤ p1 → vp_in p1 12 ∧ (post (cn_keys p1.toNatClampNeg)))
theorem mm_cn_keyAt : hk_MV yX0_keyAt cX0_keyAt 2 (some .int) 1 := ⟨hw_436, hw_435, hw_23, hw_82, by decide +kernel⟩
set_option maxRecDepth 100000 in
set_option maxHeartbeats 4000000 in
theorem c_cn_keyAt (l : Launch) (D : va_G) (cI cJ cZ cM : ClassId) (h_cn : Nat) (a_cn : Nat → Nat)  (cn_keys : Nat → Int32) (cn_counts : Nat → Int32) (cn_errors : Nat → Int32) (cn_limit : Int32) (cn_used : Int32) (p1 : Int32) (post : Int32 → Prop) (h : wp_cn_keyAt p1 cn_keys cn_used post) : Met l yX0_keyAt (hk_ws yX0_keyAt cX0_keyAt 2 (some .int)) (hk_rm 0 0) (va_Pc [.ref h_cn, .int p1] (hk_PR D (hk_ty cI cJ cZ cM) (wv_cn cI cJ cZ cM h_cn a_cn cn_keys cn_counts cn_errors cn_limit cn_used))) (vp_Si post) 0 0 (fun _ => False) := by
  refine Met.ofW (cc := cX0_keyAt) (maxL := 2) (ret := (some .int)) (by decide) rfl ?_
  intro p e s m args below meth c s₁ B hml hv
  obtain ⟨rfl, hP, hK, hN⟩ := hv
  have hx := B.exec
  have hb := B.bytes
  have hr := B.returns
  have hts := atoms_spec (ws := hk_ws yX0_keyAt cX0_keyAt 2 (some .int)) B.pre
  have hta : ∀ w ∈ hk_all, w.before ([.ref h_cn, .int p1] : List Value).toArray s = true := fun w hw => hts w (List.mem_cons_of_mem _ hw)
  have hown : s.vm.findClass RX0 = some m.cls := findClass_of_methodNamed B.named
  have hlocks := B.notSynchronized
  have S0 : CallFix p m c cX0_keyAt 2 s ([.ref h_cn, .int p1] : List Value).toArray hk_all RX0 := ⟨hx, hb, hml, hown, hta⟩
  have hl := lv_entry ([.ref h_cn, .int p1]) (n := 2) (Nat.le_of_ble_eq_true rfl)
  rw [lg_entry_eq]
  generalize (lg_sl ([.ref h_cn, .int p1]) ++ List.replicate (2 - (lg_sl ([.ref h_cn, .int p1])).length) Slot.unset).toArray = ls at hl ⊢
  have hl : lv_has ls 2 [(0, .ref h_cn), (1, .int p1)] := hl
  unfold wp_cn_keyAt at h
  refine lv_iload_n hx hb dX0_keyAt_0 rfl (lv_at hl 1 rfl) ?_
  refine lv_aload_n hx hb dX0_keyAt_1 rfl (lv_at hl 0 rfl) ?_
  refine va_get (D := D) (ci := 0) (v := .int cn_used) (C := RX0) (T := TX0) (N := 5) hx hb hta ih_X0 hown hK hP 0 rfl rfl 4 (by decide) (hta _ hw_157) (fun _ h9 => h9) rfl dX0_keyAt_2 ?_
  refine lv_icmp_ge (tgt := 17) hx hb dX0_keyAt_5 (by decide) (fun c1 => ?_) (fun c1 => ?_)
  · have h := h.1 c1
    refine lv_iconst (v := (-1)) hx hb dX0_keyAt_17 (by decide) ?_
    exact W.iret (v := (-1)) hx hb hr (fun t ht hW => ⟨_, rfl, h, ht⟩) (fun _ hq => by cases hq) dX0_keyAt_18
  · have h := h.2 c1
    refine lv_aload_n hx hb dX0_keyAt_8 rfl (lv_at hl 0 rfl) ?_
    refine va_get (D := D) (ci := 0) (v := .ref (a_cn 0)) (C := RX0) (T := TX0) (N := 5) hx hb hta ih_X0 hown hK hP 0 rfl rfl 0 (by decide) (hta _ hw_152) (fun _ h9 => h9) rfl dX0_keyAt_9 ?_
    refine lv_iload_n hx hb dX0_keyAt_12 rfl (lv_at hl 1 rfl) ?_
    refine va_iald hx hb hK hP 1 0 rfl rfl h.1 dX0_keyAt_13 ?_
    have h := h.2
    refine lv_goto (tgt := 18) hx hb dX0_keyAt_14 (by decide) ?_
    exact W.iret (v := cn_keys p1.toNatClampNeg) hx hb hr (fun t ht hW => ⟨_, rfl, h, ht⟩) (fun _ hq => by cases hq) dX0_keyAt_18
def wp_cn_countAt (p1 : Int32) (cn_counts : Nat → Int32) (cn_used : Int32) (post : Int32 → Prop) : Prop := (cn_used ≤ p1 → post 0) ∧ (¬ cn_used ≤ p1 → vp_in p1 12 ∧ (post (cn_counts p1.toNatClampNeg)))
theorem mm_cn_countAt : hk_MV yX0_countAt cX0_countAt 2 (some .int) 1 := ⟨hw_444, hw_443, hw_25, hw_82, by decide +kernel⟩
set_option maxRecDepth 100000 in
set_option maxHeartbeats 4000000 in
theorem c_cn_countAt (l : Launch) (D : va_G) (cI cJ cZ cM : ClassId) (h_cn : Nat) (a_cn : Nat → Nat)  (cn_keys : Nat → Int32) (cn_counts : Nat → Int32) (cn_errors : Nat → Int32) (cn_limit : Int32) (cn_used : Int32) (p1 : Int32) (post : Int32 → Prop) (h : wp_cn_countAt p1 cn_counts cn_used post) : Met l yX0_countAt (hk_ws yX0_countAt cX0_countAt 2 (some .int)) (hk_rm 0 0) (va_Pc [.ref h_cn, .int p1] (hk_PR D (hk_ty cI cJ cZ cM) (wv_cn cI cJ cZ cM h_cn a_cn cn_keys cn_counts cn_errors cn_limit cn_used))) (vp_Si post) 0 0 (fun _ => False) := by
  refine Met.ofW (cc := cX0_countAt) (maxL := 2) (ret := (some .int)) (by decide) rfl ?_
  intro p e s m args below meth c s₁ B hml hv
  obtain ⟨rfl, hP, hK, hN⟩ := hv
  have hx := B.exec
  have hb := B.bytes
  have hr := B.returns
  have hts := atoms_spec (ws := hk_ws yX0_countAt cX0_countAt 2 (some .int)) B.pre
  have hta : ∀ w ∈ hk_all, w.before ([.ref h_cn, .int p1] : List Value).toArray s = true := fun w hw => hts w (List.mem_cons_of_mem _ hw)
  have hown : s.vm.findClass RX0 = some m.cls := findClass_of_methodNamed B.named
  have hlocks := B.notSynchronized
  have S0 : CallFix p m c cX0_countAt 2 s ([.ref h_cn, .int p1] : List Value).toArray hk_all RX0 := ⟨hx, hb, hml, hown, hta⟩
  have hl := lv_entry ([.ref h_cn, .int p1]) (n := 2) (Nat.le_of_ble_eq_true rfl)
  rw [lg_entry_eq]
  generalize (lg_sl ([.ref h_cn, .int p1]) ++ List.replicate (2 - (lg_sl ([.ref h_cn, .int p1])).length) Slot.unset).toArray = ls at hl ⊢
  have hl : lv_has ls 2 [(0, .ref h_cn), (1, .int p1)] := hl
  unfold wp_cn_countAt at h
  refine lv_iload_n hx hb dX0_countAt_0 rfl (lv_at hl 1 rfl) ?_
  refine lv_aload_n hx hb dX0_countAt_1 rfl (lv_at hl 0 rfl) ?_
  refine va_get (D := D) (ci := 0) (v := .int cn_used) (C := RX0) (T := TX0) (N := 5) hx hb hta ih_X0 hown hK hP 0 rfl rfl 4 (by decide) (hta _ hw_157) (fun _ h9 => h9) rfl dX0_countAt_2 ?_
  refine lv_icmp_ge (tgt := 17) hx hb dX0_countAt_5 (by decide) (fun c1 => ?_) (fun c1 => ?_)
  · have h := h.1 c1
    refine lv_iconst (v := 0) hx hb dX0_countAt_17 (by decide) ?_
    exact W.iret (v := 0) hx hb hr (fun t ht hW => ⟨_, rfl, h, ht⟩) (fun _ hq => by cases hq) dX0_countAt_18
  · have h := h.2 c1
    refine lv_aload_n hx hb dX0_countAt_8 rfl (lv_at hl 0 rfl) ?_
    refine va_get (D := D) (ci := 0) (v := .ref (a_cn 1)) (C := RX0) (T := TX0) (N := 5) hx hb hta ih_X0 hown hK hP 0 rfl rfl 1 (by decide) (hta _ hw_153) (fun _ h9 => h9) rfl dX0_countAt_9 ?_
    refine lv_iload_n hx hb dX0_countAt_12 rfl (lv_at hl 1 rfl) ?_
    refine va_iald hx hb hK hP 2 0 rfl rfl h.1 dX0_countAt_13 ?_
    have h := h.2
    refine lv_goto (tgt := 18) hx hb dX0_countAt_14 (by decide) ?_
    exact W.iret (v := cn_counts p1.toNatClampNeg) hx hb hr (fun t ht hW => ⟨_, rfl, h, ht⟩) (fun _ hq => by cases hq) dX0_countAt_18
def wp_cn_errorAt (p1 : Int32) (cn_errors : Nat → Int32) (cn_used : Int32) (post : Int32 → Prop) : Prop := (cn_used ≤ p1 → post 0) ∧ (¬ cn_used ≤ p1 → vp_in p1 12 ∧ (post (cn_errors p1.toNatClampNeg)))
theorem mm_cn_errorAt : hk_MV yX0_errorAt cX0_errorAt 2 (some .int) 1 := ⟨hw_448, hw_447, hw_26, hw_82, by decide +kernel⟩
set_option maxRecDepth 100000 in
set_option maxHeartbeats 4000000 in
theorem c_cn_errorAt (l : Launch) (D : va_G) (cI cJ cZ cM : ClassId) (h_cn : Nat) (a_cn : Nat → Nat)  (cn_keys : Nat → Int32) (cn_counts : Nat → Int32) (cn_errors : Nat → Int32) (cn_limit : Int32) (cn_used : Int32) (p1 : Int32) (post : Int32 → Prop) (h : wp_cn_errorAt p1 cn_errors cn_used post) : Met l yX0_errorAt (hk_ws yX0_errorAt cX0_errorAt 2 (some .int)) (hk_rm 0 0) (va_Pc [.ref h_cn, .int p1] (hk_PR D (hk_ty cI cJ cZ cM) (wv_cn cI cJ cZ cM h_cn a_cn cn_keys cn_counts cn_errors cn_limit cn_used))) (vp_Si post) 0 0 (fun _ => False) := by
  refine Met.ofW (cc := cX0_errorAt) (maxL := 2) (ret := (some .int)) (by decide) rfl ?_
  intro p e s m args below meth c s₁ B hml hv
  obtain ⟨rfl, hP, hK, hN⟩ := hv
  have hx := B.exec
  have hb := B.bytes
  have hr := B.returns
  have hts := atoms_spec (ws := hk_ws yX0_errorAt cX0_errorAt 2 (some .int)) B.pre
  have hta : ∀ w ∈ hk_all, w.before ([.ref h_cn, .int p1] : List Value).toArray s = true := fun w hw => hts w (List.mem_cons_of_mem _ hw)
  have hown : s.vm.findClass RX0 = some m.cls := findClass_of_methodNamed B.named
  have hlocks := B.notSynchronized
  have S0 : CallFix p m c cX0_errorAt 2 s ([.ref h_cn, .int p1] : List Value).toArray hk_all RX0 := ⟨hx, hb, hml, hown, hta⟩
  have hl := lv_entry ([.ref h_cn, .int p1]) (n := 2) (Nat.le_of_ble_eq_true rfl)
  rw [lg_entry_eq]
  generalize (lg_sl ([.ref h_cn, .int p1]) ++ List.replicate (2 - (lg_sl ([.ref h_cn, .int p1])).length) Slot.unset).toArray = ls at hl ⊢
  have hl : lv_has ls 2 [(0, .ref h_cn), (1, .int p1)] := hl
  unfold wp_cn_errorAt at h
  refine lv_iload_n hx hb dX0_errorAt_0 rfl (lv_at hl 1 rfl) ?_
  refine lv_aload_n hx hb dX0_errorAt_1 rfl (lv_at hl 0 rfl) ?_
  refine va_get (D := D) (ci := 0) (v := .int cn_used) (C := RX0) (T := TX0) (N := 5) hx hb hta ih_X0 hown hK hP 0 rfl rfl 4 (by decide) (hta _ hw_157) (fun _ h9 => h9) rfl dX0_errorAt_2 ?_
  refine lv_icmp_ge (tgt := 17) hx hb dX0_errorAt_5 (by decide) (fun c1 => ?_) (fun c1 => ?_)
  · have h := h.1 c1
    refine lv_iconst (v := 0) hx hb dX0_errorAt_17 (by decide) ?_
    exact W.iret (v := 0) hx hb hr (fun t ht hW => ⟨_, rfl, h, ht⟩) (fun _ hq => by cases hq) dX0_errorAt_18
  · have h := h.2 c1
    refine lv_aload_n hx hb dX0_errorAt_8 rfl (lv_at hl 0 rfl) ?_
    refine va_get (D := D) (ci := 0) (v := .ref (a_cn 2)) (C := RX0) (T := TX0) (N := 5) hx hb hta ih_X0 hown hK hP 0 rfl rfl 2 (by decide) (hta _ hw_154) (fun _ h9 => h9) rfl dX0_errorAt_9 ?_
    refine lv_iload_n hx hb dX0_errorAt_12 rfl (lv_at hl 1 rfl) ?_
    refine va_iald hx hb hK hP 3 0 rfl rfl h.1 dX0_errorAt_13 ?_
    have h := h.2
    refine lv_goto (tgt := 18) hx hb dX0_errorAt_14 (by decide) ?_
    exact W.iret (v := cn_errors p1.toNatClampNeg) hx hb hr (fun t ht hW => ⟨_, rfl, h, ht⟩) (fun _ hq => by cases hq) dX0_errorAt_18
def wp_cn_surelyAt (p1 : Int32) (cn_counts : Nat → Int32) (cn_errors : Nat → Int32) (cn_used : Int32) (post : Int32 → Prop) : Prop := wp_cn_countAt p1 cn_counts cn_used (fun (r1 : Int32) => wp_cn_errorAt p1 cn_errors cn_used (fun (r2 : Int32) => post (r1 - r2)))
theorem mm_cn_surelyAt : hk_MV yX0_surelyAt cX0_surelyAt 2 (some .int) 1 := ⟨hw_440, hw_439, hw_24, hw_82, by decide +kernel⟩
set_option maxRecDepth 100000 in
set_option maxHeartbeats 4000000 in
theorem c_cn_surelyAt (l : Launch) (D : va_G) (cI cJ cZ cM : ClassId) (h_cn : Nat) (a_cn : Nat → Nat)  (cn_keys : Nat → Int32) (cn_counts : Nat → Int32) (cn_errors : Nat → Int32) (cn_limit : Int32) (cn_used : Int32) (p1 : Int32) (post : Int32 → Prop) (h : wp_cn_surelyAt p1 cn_counts cn_errors cn_used post) : Met l yX0_surelyAt (hk_ws yX0_surelyAt cX0_surelyAt 2 (some .int)) (hk_rm 1 21) (va_Pc [.ref h_cn, .int p1] (hk_PR D (hk_ty cI cJ cZ cM) (wv_cn cI cJ cZ cM h_cn a_cn cn_keys cn_counts cn_errors cn_limit cn_used))) (vp_Si post) 0 0 (fun _ => False) := by
  refine Met.ofW (cc := cX0_surelyAt) (maxL := 2) (ret := (some .int)) (by decide) rfl ?_
  intro p e s m args below meth c s₁ B hml hv
  obtain ⟨rfl, hP, hK, hN⟩ := hv
  have hx := B.exec
  have hb := B.bytes
  have hr := B.returns
  have hts := atoms_spec (ws := hk_ws yX0_surelyAt cX0_surelyAt 2 (some .int)) B.pre
  have hta : ∀ w ∈ hk_all, w.before ([.ref h_cn, .int p1] : List Value).toArray s = true := fun w hw => hts w (List.mem_cons_of_mem _ hw)
  have hown : s.vm.findClass RX0 = some m.cls := findClass_of_methodNamed B.named
  have hlocks := B.notSynchronized
  have S0 : CallFix p m c cX0_surelyAt 2 s ([.ref h_cn, .int p1] : List Value).toArray hk_all RX0 := ⟨hx, hb, hml, hown, hta⟩
  have hl := lv_entry ([.ref h_cn, .int p1]) (n := 2) (Nat.le_of_ble_eq_true rfl)
  rw [lg_entry_eq]
  generalize (lg_sl ([.ref h_cn, .int p1]) ++ List.replicate (2 - (lg_sl ([.ref h_cn, .int p1])).length) Slot.unset).toArray = ls at hl ⊢
  have hl : lv_has ls 2 [(0, .ref h_cn), (1, .int p1)] := hl
  unfold wp_cn_surelyAt at h
  refine lv_aload_n hx hb dX0_surelyAt_0 rfl (lv_at hl 0 rfl) ?_
  refine lv_iload_n hx hb dX0_surelyAt_1 rfl (lv_at hl 1 rfl) ?_
  refine vp_callSi (hk_runV (As := [.int p1]) (rest := []) S0 mm_cn_countAt (c_cn_countAt l D cI cJ cZ cM h_cn a_cn cn_keys cn_counts cn_errors cn_limit cn_used p1 _ h) hw_441 hk_blR (hk_atR hP hK hN) (va_recv hK hP (ci := 0) (q0 := 0) rfl rfl) ⟨rfl, rfl, Nat.le_of_ble_eq_true rfl, Nat.le_of_ble_eq_true rfl⟩ rfl hl.1 rfl (Nat.le_of_ble_eq_true rfl) dX0_surelyAt_2 ⟨Nat.le_of_ble_eq_true rfl, Nat.le_of_ble_eq_true rfl⟩).run (fun r1 h => ?_)
  refine lv_aload_n hx hb dX0_surelyAt_5 rfl (lv_at hl 0 rfl) ?_
  refine lv_iload_n hx hb dX0_surelyAt_6 rfl (lv_at hl 1 rfl) ?_
  refine vp_callSi (hk_runV (As := [.int p1]) (rest := [.int r1]) S0 mm_cn_errorAt (c_cn_errorAt l D cI cJ cZ cM h_cn a_cn cn_keys cn_counts cn_errors cn_limit cn_used p1 _ h) hw_445 hk_blR (hk_atR hP hK hN) (va_recv hK hP (ci := 0) (q0 := 0) rfl rfl) ⟨rfl, rfl, Nat.le_of_ble_eq_true rfl, Nat.le_of_ble_eq_true rfl⟩ rfl hl.1 rfl (Nat.le_of_ble_eq_true rfl) dX0_surelyAt_7 ⟨Nat.le_of_ble_eq_true rfl, Nat.le_of_ble_eq_true rfl⟩).run (fun r2 h => ?_)
  refine lv_isub hx hb dX0_surelyAt_10 ?_
  exact W.iret (v := r1 - r2) hx hb hr (fun t ht hW => ⟨_, rfl, h, ht⟩) (fun _ hq => by cases hq) dX0_surelyAt_11
def wp_cn_take (p1 : Int32) (cn_keys : Nat → Int32) (cn_counts : Nat → Int32) (cn_errors : Nat → Int32) (cn_limit : Int32) (cn_used : Int32) (post : ((Nat → Int32) × (Nat → Int32) × (Nat → Int32) × Int32) → Prop) : Prop := wp_cn_find p1 cn_keys cn_used (fun (r1 : Int32) => (r1 = (-1) → (cn_limit ≤ cn_used → wp_cn_leastAt cn_counts cn_used (fun (r4 : Int32) => vp_in r4 12 ∧ (wp_cn_put r4 p1 (cn_counts r4.toNatClampNeg) cn_keys cn_counts cn_errors (fun (w5 : (Nat → Int32) × (Nat → Int32) × (Nat → Int32)) => post (w5.1, w5.2.1, w5.2.2, cn_used))))) ∧ (¬ cn_limit ≤ cn_used → wp_cn_put cn_used p1 0 cn_keys cn_counts cn_errors (fun (w6 : (Nat → Int32) × (Nat → Int32) × (Nat → Int32)) => ∀ x7 : Int32, x7 = cn_used + 1 → post (w6.1, w6.2.1, w6.2.2, x7)))) ∧ (¬ r1 = (-1) → vp_in r1 12 ∧ (∀ x8 : Int32, x8 = (cn_counts r1.toNatClampNeg) + 1 → vp_in r1 12 ∧ (post (cn_keys, upd cn_counts r1.toNatClampNeg x8, cn_errors, cn_used)))))
theorem mm_cn_take : hk_MV yX0_take cX0_take 4 none 1 := ⟨hw_412, hw_411, hw_17, hw_82, by decide +kernel⟩
set_option maxRecDepth 100000 in
set_option maxHeartbeats 4000000 in
theorem c_cn_take (l : Launch) (D : va_G) (cI cJ cZ cM : ClassId) (h_cn : Nat) (a_cn : Nat → Nat) (sz : Nat) (cn_keys : Nat → Int32) (cn_counts : Nat → Int32) (cn_errors : Nat → Int32) (cn_limit : Int32) (cn_used : Int32) (p1 : Int32) (post : ((Nat → Int32) × (Nat → Int32) × (Nat → Int32) × Int32) → Prop) (h : wp_cn_take p1 cn_keys cn_counts cn_errors cn_limit cn_used post) : Met l yX0_take (hk_ws yX0_take cX0_take 4 none) (hk_rm 1 23) (va_Pc [.ref h_cn, .int p1] (hk_PM D (hk_ty cI cJ cZ cM) sz (wv_cn cI cJ cZ cM h_cn a_cn cn_keys cn_counts cn_errors cn_limit cn_used))) (va_Qv post (hk_B D (va_A (wv_cn cI cJ cZ cM h_cn a_cn cn_keys cn_counts cn_errors cn_limit cn_used) sz) (fun (u : (Nat → Int32) × (Nat → Int32) × (Nat → Int32) × Int32) => wv_cn cI cJ cZ cM h_cn a_cn u.1 u.2.1 u.2.2.1 cn_limit u.2.2.2)) (va_A (wv_cn cI cJ cZ cM h_cn a_cn cn_keys cn_counts cn_errors cn_limit cn_used) sz)) 0 0 (va_A (wv_cn cI cJ cZ cM h_cn a_cn cn_keys cn_counts cn_errors cn_limit cn_used) sz) := by
  refine Met.ofW (cc := cX0_take) (maxL := 4) (ret := none) (by decide) rfl ?_
  intro p e s m args below meth c s₁ B hml hv
  obtain ⟨rfl, hsz, hP, hK, hD0, hN⟩ := hv
  have hx := B.exec
  have hb := B.bytes
  have hr := B.returns
  have hts := atoms_spec (ws := hk_ws yX0_take cX0_take 4 none) B.pre
  have hta : ∀ w ∈ hk_all, w.before ([.ref h_cn, .int p1] : List Value).toArray s = true := fun w hw => hts w (List.mem_cons_of_mem _ hw)
  have hown : s.vm.findClass RX0 = some m.cls := findClass_of_methodNamed B.named
  have hlocks := B.notSynchronized
  have S0 : CallFix p m c cX0_take 4 s ([.ref h_cn, .int p1] : List Value).toArray hk_all RX0 := ⟨hx, hb, hml, hown, hta⟩
  subst hsz
  have hD := hD0.self (sz := s.heap.size)
  generalize hAe : va_A (wv_cn cI cJ cZ cM h_cn a_cn cn_keys cn_counts cn_errors cn_limit cn_used) s.heap.size = A at hD ⊢
  have hA : ∀ q : Nat, s.heap.size ≤ q → A q := fun q h => by rw [← hAe]; exact Or.inr h
  have hS : va_S A s.heap s.heap [] := va_S.rf
  have hl := lv_entry ([.ref h_cn, .int p1]) (n := 4) (Nat.le_of_ble_eq_true rfl)
  rw [lg_entry_eq]
  generalize (lg_sl ([.ref h_cn, .int p1]) ++ List.replicate (4 - (lg_sl ([.ref h_cn, .int p1])).length) Slot.unset).toArray = ls at hl ⊢
  have hl : lv_has ls 4 [(0, .ref h_cn), (1, .int p1)] := hl
  unfold wp_cn_take at h
  refine lv_aload_n hx hb dX0_take_0 rfl (lv_at hl 0 rfl) ?_
  refine lv_iload_n hx hb dX0_take_1 rfl (lv_at hl 1 rfl) ?_
  refine vp_callSi (hk_runV (As := [.int p1]) (rest := []) S0 mm_cn_find (c_cn_find l D cI cJ cZ cM h_cn a_cn cn_keys cn_counts cn_errors cn_limit cn_used p1 _ h) hw_413 hk_blR (hk_atR hP hK hN) (va_recv hK hP (ci := 0) (q0 := 0) rfl rfl) ⟨rfl, rfl, Nat.le_of_ble_eq_true rfl, Nat.le_of_ble_eq_true rfl⟩ rfl hl.1 rfl (Nat.le_of_ble_eq_true rfl) dX0_take_2 ⟨Nat.le_of_ble_eq_true rfl, Nat.le_of_ble_eq_true rfl⟩).run (fun r1 h => ?_)
  refine lv_istore_n (lv' := [(2, .int r1), (0, .ref h_cn), (1, .int p1)]) hx hb dX0_take_5 rfl hl (by decide) rfl (fun ls hl => ?_)
  refine lv_iload_n hx hb dX0_take_6 rfl (lv_at hl 0 rfl) ?_
  refine lv_iconst (v := (-1)) hx hb dX0_take_7 (by decide) ?_
  refine lv_icmp_eq (tgt := 24) hx hb dX0_take_8 (by decide) (fun c2 => ?_) (fun c2 => ?_)
  · have h := h.1 c2
    refine lv_aload_n hx hb dX0_take_24 rfl (lv_at hl 1 rfl) ?_
    refine va_get (D := D) (ci := 0) (v := .int cn_used) (C := RX0) (T := TX0) (N := 5) hx hb hta ih_X0 hown hK hP 0 rfl rfl 4 (by decide) (hta _ hw_157) (fun _ h9 => h9) rfl dX0_take_25 ?_
    refine lv_aload_n hx hb dX0_take_28 rfl (lv_at hl 1 rfl) ?_
    refine va_get (D := D) (ci := 0) (v := .int cn_limit) (C := RX0) (T := TX0) (N := 5) hx hb hta ih_X0 hown hK hP 0 rfl rfl 3 (by decide) (hta _ hw_155) (fun _ h9 => h9) rfl dX0_take_29 ?_
    refine lv_icmp_ge (tgt := 58) hx hb dX0_take_32 (by decide) (fun c3 => ?_) (fun c3 => ?_)
    · have h := h.1 c3
      refine lv_aload_n hx hb dX0_take_58 rfl (lv_at hl 1 rfl) ?_
      refine vp_callSi (hk_runV (As := []) (rest := []) S0 mm_cn_leastAt (c_cn_leastAt l D cI cJ cZ cM h_cn a_cn cn_keys cn_counts cn_errors cn_limit cn_used _ h) hw_421 hk_blR (hk_atR hP hK hN) (va_recv hK hP (ci := 0) (q0 := 0) rfl rfl) ⟨rfl, rfl, Nat.le_of_ble_eq_true rfl, Nat.le_of_ble_eq_true rfl⟩ rfl hl.1 rfl (Nat.le_of_ble_eq_true rfl) dX0_take_59 ⟨Nat.le_of_ble_eq_true rfl, Nat.le_of_ble_eq_true rfl⟩).run (fun r4 h => ?_)
      refine lv_istore_n (lv' := [(3, .int r4), (2, .int r1), (0, .ref h_cn), (1, .int p1)]) hx hb dX0_take_62 rfl hl (by decide) rfl (fun ls hl => ?_)
      refine lv_aload_n hx hb dX0_take_63 rfl (lv_at hl 2 rfl) ?_
      refine lv_iload_n hx hb dX0_take_64 rfl (lv_at hl 0 rfl) ?_
      refine lv_iload_n hx hb dX0_take_65 rfl (lv_at hl 3 rfl) ?_
      refine lv_aload_n hx hb dX0_take_66 rfl (lv_at hl 2 rfl) ?_
      refine va_get (D := D) (ci := 0) (v := .ref (a_cn 1)) (C := RX0) (T := TX0) (N := 5) hx hb hta ih_X0 hown hK hP 0 rfl rfl 1 (by decide) (hta _ hw_153) (fun _ h9 => h9) rfl dX0_take_67 ?_
      refine lv_iload_n hx hb dX0_take_70 rfl (lv_at hl 0 rfl) ?_
      refine va_iald hx hb hK hP 2 0 rfl rfl h.1 dX0_take_71 ?_
      have h := h.2
      refine hk_wv (hk_runV (As := [.int r4, .int p1, .int (cn_counts r4.toNatClampNeg)]) (rest := []) S0 mm_cn_put (c_cn_put l D cI cJ cZ cM h_cn a_cn s.heap.size cn_keys cn_counts cn_errors cn_limit cn_used r4 p1 (cn_counts r4.toNatClampNeg) _ h) hw_417 hk_blM (hk_atM hP hK hD hN) (va_recv hK hP (ci := 0) (q0 := 0) rfl rfl) ⟨rfl, rfl, Nat.le_of_ble_eq_true rfl, Nat.le_of_ble_eq_true rfl⟩ rfl hl.1 rfl (Nat.le_of_ble_eq_true rfl) dX0_take_72 ⟨Nat.le_of_ble_eq_true rfl, Nat.le_of_ble_eq_true rfl⟩) hD hS hA (fun w5 H locs h hP hD hS => ?_)
      have hP : va_P D vwCl (wv_cn cI cJ cZ cM h_cn a_cn w5.1 w5.2.1 w5.2.2 cn_limit cn_used) H := hP
      have hD : va_D A (wv_cn cI cJ cZ cM h_cn a_cn w5.1 w5.2.1 w5.2.2 cn_limit cn_used) := hD
      exact W.vret hx hb hr (fun t ht hW => ⟨⟨(w5.1, w5.2.1, w5.2.2, cn_used), rfl, h, by rw [ht]; exact hP, hD⟩, hS.F ht⟩) hS.2.2 dX0_take_75
    · have h := h.2 c3
      refine lv_aload_n hx hb dX0_take_35 rfl (lv_at hl 1 rfl) ?_
      refine lv_aload_n hx hb dX0_take_36 rfl (lv_at hl 1 rfl) ?_
      refine va_get (D := D) (ci := 0) (v := .int cn_used) (C := RX0) (T := TX0) (N := 5) hx hb hta ih_X0 hown hK hP 0 rfl rfl 4 (by decide) (hta _ hw_157) (fun _ h9 => h9) rfl dX0_take_37 ?_
      refine lv_iload_n hx hb dX0_take_40 rfl (lv_at hl 2 rfl) ?_
      refine lv_iconst (v := 0) hx hb dX0_take_41 (by decide) ?_
      refine hk_wv (hk_runV (As := [.int cn_used, .int p1, .int 0]) (rest := []) S0 mm_cn_put (c_cn_put l D cI cJ cZ cM h_cn a_cn s.heap.size cn_keys cn_counts cn_errors cn_limit cn_used cn_used p1 0 _ h) hw_417 hk_blM (hk_atM hP hK hD hN) (va_recv hK hP (ci := 0) (q0 := 0) rfl rfl) ⟨rfl, rfl, Nat.le_of_ble_eq_true rfl, Nat.le_of_ble_eq_true rfl⟩ rfl hl.1 rfl (Nat.le_of_ble_eq_true rfl) dX0_take_42 ⟨Nat.le_of_ble_eq_true rfl, Nat.le_of_ble_eq_true rfl⟩) hD hS hA (fun w6 H locs h hP hD hS => ?_)
      have hP : va_P D vwCl (wv_cn cI cJ cZ cM h_cn a_cn w6.1 w6.2.1 w6.2.2 cn_limit cn_used) H := hP
      have hD : va_D A (wv_cn cI cJ cZ cM h_cn a_cn w6.1 w6.2.1 w6.2.2 cn_limit cn_used) := hD
      refine lv_aload_n hx hb dX0_take_45 rfl (lv_at hl 1 rfl) ?_
      refine lv_dup hx hb dX0_take_46 rfl ?_
      refine va_get (D := D) (ci := 0) (v := .int cn_used) (C := RX0) (T := TX0) (N := 5) hx hb hta ih_X0 hown hK hP 0 rfl rfl 4 (by decide) (hta _ hw_157) (fun _ h9 => h9) rfl dX0_take_47 ?_
      refine lv_iconst (v := 1) hx hb dX0_take_50 (by decide) ?_
      refine lv_iadd hx hb dX0_take_51 ?_
      refine lv_topi (fun x7 ex7 => ?_)
      have h := h x7 ex7
      refine va_put (D := D) (ci := 0) (v := .int x7) (ty := .int) (C := RX0) (T := TX0) (N := 5) hx hb hta ih_X0 tyX0 tyX0_ok nmX0 hown hK hP hD hS 0 rfl rfl 4 (by decide) (hta _ hw_157) (fun _ h9 => h9) rfl (by decide +kernel) rfl rfl (Nat.le_of_ble_eq_true rfl) dX0_take_52 (fun H locs hP hD hS => ?_)
      have hP : va_P D vwCl (wv_cn cI cJ cZ cM h_cn a_cn w6.1 w6.2.1 w6.2.2 cn_limit x7) H := hP
      have hD : va_D A (wv_cn cI cJ cZ cM h_cn a_cn w6.1 w6.2.1 w6.2.2 cn_limit x7) := hD
      refine lv_goto (tgt := 75) hx hb dX0_take_55 (by decide) ?_
      exact W.vret hx hb hr (fun t ht hW => ⟨⟨(w6.1, w6.2.1, w6.2.2, x7), rfl, h, by rw [ht]; exact hP, hD⟩, hS.F ht⟩) hS.2.2 dX0_take_75
  · have h := h.2 c2
    refine lv_aload_n hx hb dX0_take_11 rfl (lv_at hl 1 rfl) ?_
    refine va_get (D := D) (ci := 0) (v := .ref (a_cn 1)) (C := RX0) (T := TX0) (N := 5) hx hb hta ih_X0 hown hK hP 0 rfl rfl 1 (by decide) (hta _ hw_153) (fun _ h9 => h9) rfl dX0_take_12 ?_
    refine lv_iload_n hx hb dX0_take_15 rfl (lv_at hl 0 rfl) ?_
    refine lv_dup2_11 hx hb dX0_take_16 rfl rfl ?_
    refine va_iald hx hb hK hP 2 0 rfl rfl h.1 dX0_take_17 ?_
    have h := h.2
    refine lv_iconst (v := 1) hx hb dX0_take_18 (by decide) ?_
    refine lv_iadd hx hb dX0_take_19 ?_
    refine lv_topi (fun x8 ex8 => ?_)
    have h := h x8 ex8
    refine va_iast hx hb hK hP hD hS 2 0 rfl rfl h.1 dX0_take_20 (fun H locs hP hD hS => ?_)
    have h := h.2
    have hP : va_P D vwCl (wv_cn cI cJ cZ cM h_cn a_cn cn_keys (upd cn_counts r1.toNatClampNeg x8) cn_errors cn_limit cn_used) H := hP
    have hD : va_D A (wv_cn cI cJ cZ cM h_cn a_cn cn_keys (upd cn_counts r1.toNatClampNeg x8) cn_errors cn_limit cn_used) := hD
    refine lv_goto (tgt := 75) hx hb dX0_take_21 (by decide) ?_
    exact W.vret hx hb hr (fun t ht hW => ⟨⟨(cn_keys, upd cn_counts r1.toNatClampNeg x8, cn_errors, cn_used), rfl, h, by rw [ht]; exact hP, hD⟩, hS.F ht⟩) hS.2.2 dX0_take_75
def wp_cn_atLeast (p1 : Int32) (cn_keys : Nat → Int32) (cn_counts : Nat → Int32) (cn_errors : Nat → Int32) (cn_used : Int32) (post : Int32 → Prop) : Prop := wp_cn_find p1 cn_keys cn_used (fun (r1 : Int32) => (¬ r1 = (-1) → wp_cn_surelyAt r1 cn_counts cn_errors cn_used (fun (r3 : Int32) => post r3)) ∧ (r1 = (-1) → post 0))
theorem mm_cn_atLeast : hk_MV yX0_atLeast cX0_atLeast 3 (some .int) 1 := ⟨hw_554, hw_553, hw_39, hw_82, by decide +kernel⟩
set_option maxRecDepth 100000 in
set_option maxHeartbeats 4000000 in
theorem c_cn_atLeast (l : Launch) (D : va_G) (cI cJ cZ cM : ClassId) (h_cn : Nat) (a_cn : Nat → Nat)  (cn_keys : Nat → Int32) (cn_counts : Nat → Int32) (cn_errors : Nat → Int32) (cn_limit : Int32) (cn_used : Int32) (p1 : Int32) (post : Int32 → Prop) (h : wp_cn_atLeast p1 cn_keys cn_counts cn_errors cn_used post) : Met l yX0_atLeast (hk_ws yX0_atLeast cX0_atLeast 3 (some .int)) (hk_rm 2 42) (va_Pc [.ref h_cn, .int p1] (hk_PR D (hk_ty cI cJ cZ cM) (wv_cn cI cJ cZ cM h_cn a_cn cn_keys cn_counts cn_errors cn_limit cn_used))) (vp_Si post) 0 0 (fun _ => False) := by
  refine Met.ofW (cc := cX0_atLeast) (maxL := 3) (ret := (some .int)) (by decide) rfl ?_
  intro p e s m args below meth c s₁ B hml hv
  obtain ⟨rfl, hP, hK, hN⟩ := hv
  have hx := B.exec
  have hb := B.bytes
  have hr := B.returns
  have hts := atoms_spec (ws := hk_ws yX0_atLeast cX0_atLeast 3 (some .int)) B.pre
  have hta : ∀ w ∈ hk_all, w.before ([.ref h_cn, .int p1] : List Value).toArray s = true := fun w hw => hts w (List.mem_cons_of_mem _ hw)
  have hown : s.vm.findClass RX0 = some m.cls := findClass_of_methodNamed B.named
  have hlocks := B.notSynchronized
  have S0 : CallFix p m c cX0_atLeast 3 s ([.ref h_cn, .int p1] : List Value).toArray hk_all RX0 := ⟨hx, hb, hml, hown, hta⟩
  have hl := lv_entry ([.ref h_cn, .int p1]) (n := 3) (Nat.le_of_ble_eq_true rfl)
  rw [lg_entry_eq]
  generalize (lg_sl ([.ref h_cn, .int p1]) ++ List.replicate (3 - (lg_sl ([.ref h_cn, .int p1])).length) Slot.unset).toArray = ls at hl ⊢
  have hl : lv_has ls 3 [(0, .ref h_cn), (1, .int p1)] := hl
  unfold wp_cn_atLeast at h
  refine lv_aload_n hx hb dX0_atLeast_0 rfl (lv_at hl 0 rfl) ?_
  refine lv_iload_n hx hb dX0_atLeast_1 rfl (lv_at hl 1 rfl) ?_
  refine vp_callSi (hk_runV (As := [.int p1]) (rest := []) S0 mm_cn_find (c_cn_find l D cI cJ cZ cM h_cn a_cn cn_keys cn_counts cn_errors cn_limit cn_used p1 _ h) hw_413 hk_blR (hk_atR hP hK hN) (va_recv hK hP (ci := 0) (q0 := 0) rfl rfl) ⟨rfl, rfl, Nat.le_of_ble_eq_true rfl, Nat.le_of_ble_eq_true rfl⟩ rfl hl.1 rfl (Nat.le_of_ble_eq_true rfl) dX0_atLeast_2 ⟨Nat.le_of_ble_eq_true rfl, Nat.le_of_ble_eq_true rfl⟩).run (fun r1 h => ?_)
  refine lv_istore_n (lv' := [(2, .int r1), (0, .ref h_cn), (1, .int p1)]) hx hb dX0_atLeast_5 rfl hl (by decide) rfl (fun ls hl => ?_)
  refine lv_iload_n hx hb dX0_atLeast_6 rfl (lv_at hl 0 rfl) ?_
  refine lv_iconst (v := (-1)) hx hb dX0_atLeast_7 (by decide) ?_
  refine lv_icmp_ne (tgt := 15) hx hb dX0_atLeast_8 (by decide) (fun c2 => ?_) (fun c2 => ?_)
  · have h := h.1 c2
    refine lv_aload_n hx hb dX0_atLeast_15 rfl (lv_at hl 1 rfl) ?_
    refine lv_iload_n hx hb dX0_atLeast_16 rfl (lv_at hl 0 rfl) ?_
    refine vp_callSi (hk_runV (As := [.int r1]) (rest := []) S0 mm_cn_surelyAt (c_cn_surelyAt l D cI cJ cZ cM h_cn a_cn cn_keys cn_counts cn_errors cn_limit cn_used r1 _ h) hw_555 hk_blR (hk_atR hP hK hN) (va_recv hK hP (ci := 0) (q0 := 0) rfl rfl) ⟨rfl, rfl, Nat.le_of_ble_eq_true rfl, Nat.le_of_ble_eq_true rfl⟩ rfl hl.1 rfl (Nat.le_of_ble_eq_true rfl) dX0_atLeast_17 ⟨Nat.le_of_ble_eq_true rfl, Nat.le_of_ble_eq_true rfl⟩).run (fun r3 h => ?_)
    exact W.iret (v := r3) hx hb hr (fun t ht hW => ⟨_, rfl, h, ht⟩) (fun _ hq => by cases hq) dX0_atLeast_20
  · have h := h.2 c2
    refine lv_iconst (v := 0) hx hb dX0_atLeast_11 (by decide) ?_
    refine lv_goto (tgt := 20) hx hb dX0_atLeast_12 (by decide) ?_
    exact W.iret (v := 0) hx hb hr (fun t ht hW => ⟨_, rfl, h, ht⟩) (fun _ hq => by cases hq) dX0_atLeast_20
def wp_cn_atMost (p1 : Int32) (cn_keys : Nat → Int32) (cn_counts : Nat → Int32) (cn_limit : Int32) (cn_used : Int32) (post : Int32 → Prop) : Prop := wp_cn_find p1 cn_keys cn_used (fun (r1 : Int32) => (r1 = (-1) → (cn_limit ≤ cn_used → wp_cn_leastAt cn_counts cn_used (fun (r4 : Int32) => vp_in r4 12 ∧ (post (cn_counts r4.toNatClampNeg)))) ∧ (¬ cn_limit ≤ cn_used → post 0)) ∧ (¬ r1 = (-1) → vp_in r1 12 ∧ (post (cn_counts r1.toNatClampNeg))))
theorem mm_cn_atMost : hk_MV yX0_atMost cX0_atMost 3 (some .int) 1 := ⟨hw_476, hw_475, hw_31, hw_82, by decide +kernel⟩
set_option maxRecDepth 100000 in
set_option maxHeartbeats 4000000 in
theorem c_cn_atMost (l : Launch) (D : va_G) (cI cJ cZ cM : ClassId) (h_cn : Nat) (a_cn : Nat → Nat)  (cn_keys : Nat → Int32) (cn_counts : Nat → Int32) (cn_errors : Nat → Int32) (cn_limit : Int32) (cn_used : Int32) (p1 : Int32) (post : Int32 → Prop) (h : wp_cn_atMost p1 cn_keys cn_counts cn_limit cn_used post) : Met l yX0_atMost (hk_ws yX0_atMost cX0_atMost 3 (some .int)) (hk_rm 1 22) (va_Pc [.ref h_cn, .int p1] (hk_PR D (hk_ty cI cJ cZ cM) (wv_cn cI cJ cZ cM h_cn a_cn cn_keys cn_counts cn_errors cn_limit cn_used))) (vp_Si post) 0 0 (fun _ => False) := by
  refine Met.ofW (cc := cX0_atMost) (maxL := 3) (ret := (some .int)) (by decide) rfl ?_
  intro p e s m args below meth c s₁ B hml hv
  obtain ⟨rfl, hP, hK, hN⟩ := hv
  have hx := B.exec
  have hb := B.bytes
  have hr := B.returns
  have hts := atoms_spec (ws := hk_ws yX0_atMost cX0_atMost 3 (some .int)) B.pre
  have hta : ∀ w ∈ hk_all, w.before ([.ref h_cn, .int p1] : List Value).toArray s = true := fun w hw => hts w (List.mem_cons_of_mem _ hw)
  have hown : s.vm.findClass RX0 = some m.cls := findClass_of_methodNamed B.named
  have hlocks := B.notSynchronized
  have S0 : CallFix p m c cX0_atMost 3 s ([.ref h_cn, .int p1] : List Value).toArray hk_all RX0 := ⟨hx, hb, hml, hown, hta⟩
  have hl := lv_entry ([.ref h_cn, .int p1]) (n := 3) (Nat.le_of_ble_eq_true rfl)
  rw [lg_entry_eq]
  generalize (lg_sl ([.ref h_cn, .int p1]) ++ List.replicate (3 - (lg_sl ([.ref h_cn, .int p1])).length) Slot.unset).toArray = ls at hl ⊢
  have hl : lv_has ls 3 [(0, .ref h_cn), (1, .int p1)] := hl
  unfold wp_cn_atMost at h
  refine lv_aload_n hx hb dX0_atMost_0 rfl (lv_at hl 0 rfl) ?_
  refine lv_iload_n hx hb dX0_atMost_1 rfl (lv_at hl 1 rfl) ?_
  refine vp_callSi (hk_runV (As := [.int p1]) (rest := []) S0 mm_cn_find (c_cn_find l D cI cJ cZ cM h_cn a_cn cn_keys cn_counts cn_errors cn_limit cn_used p1 _ h) hw_413 hk_blR (hk_atR hP hK hN) (va_recv hK hP (ci := 0) (q0 := 0) rfl rfl) ⟨rfl, rfl, Nat.le_of_ble_eq_true rfl, Nat.le_of_ble_eq_true rfl⟩ rfl hl.1 rfl (Nat.le_of_ble_eq_true rfl) dX0_atMost_2 ⟨Nat.le_of_ble_eq_true rfl, Nat.le_of_ble_eq_true rfl⟩).run (fun r1 h => ?_)
  refine lv_istore_n (lv' := [(2, .int r1), (0, .ref h_cn), (1, .int p1)]) hx hb dX0_atMost_5 rfl hl (by decide) rfl (fun ls hl => ?_)
  refine lv_iload_n hx hb dX0_atMost_6 rfl (lv_at hl 0 rfl) ?_
  refine lv_iconst (v := (-1)) hx hb dX0_atMost_7 (by decide) ?_
  refine lv_icmp_eq (tgt := 18) hx hb dX0_atMost_8 (by decide) (fun c2 => ?_) (fun c2 => ?_)
  · have h := h.1 c2
    refine lv_aload_n hx hb dX0_atMost_18 rfl (lv_at hl 1 rfl) ?_
    refine va_get (D := D) (ci := 0) (v := .int cn_used) (C := RX0) (T := TX0) (N := 5) hx hb hta ih_X0 hown hK hP 0 rfl rfl 4 (by decide) (hta _ hw_157) (fun _ h9 => h9) rfl dX0_atMost_19 ?_
    refine lv_aload_n hx hb dX0_atMost_22 rfl (lv_at hl 1 rfl) ?_
    refine va_get (D := D) (ci := 0) (v := .int cn_limit) (C := RX0) (T := TX0) (N := 5) hx hb hta ih_X0 hown hK hP 0 rfl rfl 3 (by decide) (hta _ hw_155) (fun _ h9 => h9) rfl dX0_atMost_23 ?_
    refine lv_icmp_ge (tgt := 33) hx hb dX0_atMost_26 (by decide) (fun c3 => ?_) (fun c3 => ?_)
    · have h := h.1 c3
      refine lv_aload_n hx hb dX0_atMost_33 rfl (lv_at hl 1 rfl) ?_
      refine va_get (D := D) (ci := 0) (v := .ref (a_cn 1)) (C := RX0) (T := TX0) (N := 5) hx hb hta ih_X0 hown hK hP 0 rfl rfl 1 (by decide) (hta _ hw_153) (fun _ h9 => h9) rfl dX0_atMost_34 ?_
      refine lv_aload_n hx hb dX0_atMost_37 rfl (lv_at hl 1 rfl) ?_
      refine vp_callSi (hk_runV (As := []) (rest := [.ref (a_cn 1)]) S0 mm_cn_leastAt (c_cn_leastAt l D cI cJ cZ cM h_cn a_cn cn_keys cn_counts cn_errors cn_limit cn_used _ h) hw_421 hk_blR (hk_atR hP hK hN) (va_recv hK hP (ci := 0) (q0 := 0) rfl rfl) ⟨rfl, rfl, Nat.le_of_ble_eq_true rfl, Nat.le_of_ble_eq_true rfl⟩ rfl hl.1 rfl (Nat.le_of_ble_eq_true rfl) dX0_atMost_38 ⟨Nat.le_of_ble_eq_true rfl, Nat.le_of_ble_eq_true rfl⟩).run (fun r4 h => ?_)
      refine va_iald hx hb hK hP 2 0 rfl rfl h.1 dX0_atMost_41 ?_
      have h := h.2
      exact W.iret (v := cn_counts r4.toNatClampNeg) hx hb hr (fun t ht hW => ⟨_, rfl, h, ht⟩) (fun _ hq => by cases hq) dX0_atMost_42
    · have h := h.2 c3
      refine lv_iconst (v := 0) hx hb dX0_atMost_29 (by decide) ?_
      refine lv_goto (tgt := 42) hx hb dX0_atMost_30 (by decide) ?_
      exact W.iret (v := 0) hx hb hr (fun t ht hW => ⟨_, rfl, h, ht⟩) (fun _ hq => by cases hq) dX0_atMost_42
  · have h := h.2 c2
    refine lv_aload_n hx hb dX0_atMost_11 rfl (lv_at hl 1 rfl) ?_
    refine va_get (D := D) (ci := 0) (v := .ref (a_cn 1)) (C := RX0) (T := TX0) (N := 5) hx hb hta ih_X0 hown hK hP 0 rfl rfl 1 (by decide) (hta _ hw_153) (fun _ h9 => h9) rfl dX0_atMost_12 ?_
    refine lv_iload_n hx hb dX0_atMost_15 rfl (lv_at hl 0 rfl) ?_
    refine va_iald hx hb hK hP 2 0 rfl rfl h.1 dX0_atMost_16 ?_
    have h := h.2
    exact W.iret (v := cn_counts r1.toNatClampNeg) hx hb hr (fun t ht hW => ⟨_, rfl, h, ht⟩) (fun _ hq => by cases hq) dX0_atMost_17
