def wp_fo_add (p1 : Int32) (p2 : Int32) (fo_kinds : Nat → Int32) (fo_declared : Nat → Int32) (fo_count : Int32) (post : Int32 → ((Nat → Int32) × (Nat → Int32) × Int32) → Prop) : Prop := vp_in fo_count 6 ∧ (vp_in fo_count 6 ∧ (∀ x1 : Int32, x1 = fo_count + 1 → post fo_count (upd fo_kinds fo_count.toNatClampNeg p1, upd fo_declared fo_count.toNatClampNeg (vp_nar .boolean p2), x1)))
theorem mm_fo_add : hk_MV yX1_add cX1_add 4 (some .int) 2 := ⟨hw_352, hw_351, hw_9, hw_80, by decide +kernel⟩
set_option maxRecDepth 100000 in
set_option maxHeartbeats 4000000 in
theorem c_fo_add (l : Launch) (D : va_G) (cI cJ cZ cM : ClassId) (h_fo : Nat) (a_fo : Nat → Nat) (sz : Nat) (fo_kinds : Nat → Int32) (fo_declared : Nat → Int32) (fo_count : Int32) (p1 : Int32) (p2 : Int32) (post : Int32 → ((Nat → Int32) × (Nat → Int32) × Int32) → Prop) (h : wp_fo_add p1 p2 fo_kinds fo_declared fo_count post) : Met l yX1_add (hk_ws yX1_add cX1_add 4 (some .int)) (hk_rm 0 0) (va_Pc [.ref h_fo, .int p1, .int p2] (hk_PM D (hk_ty cI cJ cZ cM) sz (wv_fo cI cJ cZ cM h_fo a_fo fo_kinds fo_declared fo_count))) (va_Qi post (hk_B D (va_A (wv_fo cI cJ cZ cM h_fo a_fo fo_kinds fo_declared fo_count) sz) (fun (u : (Nat → Int32) × (Nat → Int32) × Int32) => wv_fo cI cJ cZ cM h_fo a_fo u.1 u.2.1 u.2.2)) (va_A (wv_fo cI cJ cZ cM h_fo a_fo fo_kinds fo_declared fo_count) sz)) 0 0 (va_A (wv_fo cI cJ cZ cM h_fo a_fo fo_kinds fo_declared fo_count) sz) := by
  refine Met.ofW (cc := cX1_add) (maxL := 4) (ret := (some .int)) (by decide) rfl ?_
  intro p e s m args below meth c s₁ B hml hv
  obtain ⟨rfl, hsz, hP, hK, hD0, hN⟩ := hv
  have hx := B.exec
  have hb := B.bytes
  have hr := B.returns
  have hts := atoms_spec (ws := hk_ws yX1_add cX1_add 4 (some .int)) B.pre
  have hta : ∀ w ∈ hk_all, w.before ([.ref h_fo, .int p1, .int p2] : List Value).toArray s = true := fun w hw => hts w (List.mem_cons_of_mem _ hw)
  have hown : s.vm.findClass RX1 = some m.cls := findClass_of_methodNamed B.named
  have hlocks := B.notSynchronized
  have S0 : CallFix p m c cX1_add 4 s ([.ref h_fo, .int p1, .int p2] : List Value).toArray hk_all RX1 := ⟨hx, hb, hml, hown, hta⟩
  subst hsz
  have hD := hD0.self (sz := s.heap.size)
  generalize hAe : va_A (wv_fo cI cJ cZ cM h_fo a_fo fo_kinds fo_declared fo_count) s.heap.size = A at hD ⊢
  have hA : ∀ q : Nat, s.heap.size ≤ q → A q := fun q h => by rw [← hAe]; exact Or.inr h
  have hS : va_S A s.heap s.heap [] := va_S.rf
  have hl := lv_entry ([.ref h_fo, .int p1, .int p2]) (n := 4) (Nat.le_of_ble_eq_true rfl)
  rw [lg_entry_eq]
  generalize (lg_sl ([.ref h_fo, .int p1, .int p2]) ++ List.replicate (4 - (lg_sl ([.ref h_fo, .int p1, .int p2])).length) Slot.unset).toArray = ls at hl ⊢
  have hl : lv_has ls 4 [(0, .ref h_fo), (1, .int p1), (2, .int p2)] := hl
  unfold wp_fo_add at h
  refine lv_aload_n hx hb dX1_add_0 rfl (lv_at hl 0 rfl) ?_
  refine va_get (D := D) (ci := 1) (v := .int fo_count) (C := RX1) (T := TX1) (N := 3) hx hb hta ih_X1 hown hK hP 0 rfl rfl 2 (by decide) (hta _ hw_107) (fun _ h9 => h9) rfl dX1_add_1 ?_
  refine lv_istore_n (lv' := [(3, .int fo_count), (0, .ref h_fo), (1, .int p1), (2, .int p2)]) hx hb dX1_add_4 rfl hl (by decide) rfl (fun ls hl => ?_)
  refine lv_aload_n hx hb dX1_add_5 rfl (lv_at hl 1 rfl) ?_
  refine va_get (D := D) (ci := 1) (v := .ref (a_fo 0)) (C := RX1) (T := TX1) (N := 3) hx hb hta ih_X1 hown hK hP 0 rfl rfl 0 (by decide) (hta _ hw_105) (fun _ h9 => h9) rfl dX1_add_6 ?_
  refine lv_iload_n hx hb dX1_add_9 rfl (lv_at hl 0 rfl) ?_
  refine lv_iload_n hx hb dX1_add_10 rfl (lv_at hl 2 rfl) ?_
  refine va_iast hx hb hK hP hD hS 1 0 rfl rfl h.1 dX1_add_11 (fun H locs hP hD hS => ?_)
  have h := h.2
  have hP : va_P D vwCl (wv_fo cI cJ cZ cM h_fo a_fo (upd fo_kinds fo_count.toNatClampNeg p1) fo_declared fo_count) H := hP
  have hD : va_D A (wv_fo cI cJ cZ cM h_fo a_fo (upd fo_kinds fo_count.toNatClampNeg p1) fo_declared fo_count) := hD
  refine lv_aload_n hx hb dX1_add_12 rfl (lv_at hl 1 rfl) ?_
  refine va_get (D := D) (ci := 1) (v := .ref (a_fo 1)) (C := RX1) (T := TX1) (N := 3) hx hb hta ih_X1 hown hK hP 0 rfl rfl 1 (by decide) (hta _ hw_106) (fun _ h9 => h9) rfl dX1_add_13 ?_
  refine lv_iload_n hx hb dX1_add_16 rfl (lv_at hl 0 rfl) ?_
  refine lv_iload_n hx hb dX1_add_17 rfl (lv_at hl 3 rfl) ?_
  refine va_zast hx hb hK hP hD hS 2 2 rfl rfl h.1 dX1_add_18 (fun H locs hP hD hS => ?_)
  have h := h.2
  have hP : va_P D vwCl (wv_fo cI cJ cZ cM h_fo a_fo (upd fo_kinds fo_count.toNatClampNeg p1) (upd fo_declared fo_count.toNatClampNeg (vp_nar .boolean p2)) fo_count) H := hP
  have hD : va_D A (wv_fo cI cJ cZ cM h_fo a_fo (upd fo_kinds fo_count.toNatClampNeg p1) (upd fo_declared fo_count.toNatClampNeg (vp_nar .boolean p2)) fo_count) := hD
  refine lv_aload_n hx hb dX1_add_19 rfl (lv_at hl 1 rfl) ?_
  refine lv_dup hx hb dX1_add_20 rfl ?_
  refine va_get (D := D) (ci := 1) (v := .int fo_count) (C := RX1) (T := TX1) (N := 3) hx hb hta ih_X1 hown hK hP 0 rfl rfl 2 (by decide) (hta _ hw_107) (fun _ h9 => h9) rfl dX1_add_21 ?_
  refine lv_iconst (v := 1) hx hb dX1_add_24 (by decide) ?_
  refine lv_iadd hx hb dX1_add_25 ?_
  refine lv_topi (fun x1 ex1 => ?_)
  have h := h x1 ex1
  refine va_put (D := D) (ci := 1) (v := .int x1) (ty := .int) (C := RX1) (T := TX1) (N := 3) hx hb hta ih_X1 tyX1 tyX1_ok nmX1 hown hK hP hD hS 0 rfl rfl 2 (by decide) (hta _ hw_107) (fun _ h9 => h9) rfl (by decide +kernel) rfl rfl (Nat.le_of_ble_eq_true rfl) dX1_add_26 (fun H locs hP hD hS => ?_)
  have hP : va_P D vwCl (wv_fo cI cJ cZ cM h_fo a_fo (upd fo_kinds fo_count.toNatClampNeg p1) (upd fo_declared fo_count.toNatClampNeg (vp_nar .boolean p2)) x1) H := hP
  have hD : va_D A (wv_fo cI cJ cZ cM h_fo a_fo (upd fo_kinds fo_count.toNatClampNeg p1) (upd fo_declared fo_count.toNatClampNeg (vp_nar .boolean p2)) x1) := hD
  refine lv_iload_n hx hb dX1_add_29 rfl (lv_at hl 0 rfl) ?_
  exact W.iret (v := fo_count) hx hb hr (fun t ht hW => ⟨⟨fo_count, (upd fo_kinds fo_count.toNatClampNeg p1, upd fo_declared fo_count.toNatClampNeg (vp_nar .boolean p2), x1), rfl, h, by rw [ht]; exact hP, hD⟩, hS.F ht⟩) hS.2.2 dX1_add_30
def wb_fo_allCanBeJoined_2 (fo_kinds : Nat → Int32) (fo_declared : Nat → Int32) (fo_count : Int32) (post : Int32 → Prop) (K2 : (Int32) → Prop) (v1 : Int32) : Prop := (fo_count ≤ v1 → post 1) ∧ (¬ fo_count ≤ v1 → vp_in v1 6 ∧ (((fo_declared v1.toNatClampNeg) = 0 → post 0) ∧ (¬ (fo_declared v1.toNatClampNeg) = 0 → vp_in v1 6 ∧ (((fo_kinds v1.toNatClampNeg) = 6 → post 0) ∧ (¬ (fo_kinds v1.toNatClampNeg) = 6 → vp_in v1 6 ∧ ((¬ (fo_kinds v1.toNatClampNeg) = 7 → ∀ x6 : Int32, x6 = v1 + 1 → K2 x6) ∧ ((fo_kinds v1.toNatClampNeg) = 7 → post 0)))))))
def wp_fo_allCanBeJoined  (fo_kinds : Nat → Int32) (fo_declared : Nat → Int32) (fo_count : Int32) (post : Int32 → Prop) : Prop := ∃ n, hk_lp (wb_fo_allCanBeJoined_2 fo_kinds fo_declared fo_count post) n 0
theorem mm_fo_allCanBeJoined : hk_MV yX1_allCanBeJoined cX1_allCanBeJoined 2 (some .boolean) 0 := ⟨hw_453, hw_452, hw_27, hw_80, by decide +kernel⟩
set_option maxRecDepth 100000 in
set_option maxHeartbeats 4000000 in
theorem c_fo_allCanBeJoined (l : Launch) (D : va_G) (cI cJ cZ cM : ClassId) (h_fo : Nat) (a_fo : Nat → Nat)  (fo_kinds : Nat → Int32) (fo_declared : Nat → Int32) (fo_count : Int32)  (post : Int32 → Prop) (h : wp_fo_allCanBeJoined fo_kinds fo_declared fo_count post) : Met l yX1_allCanBeJoined (hk_ws yX1_allCanBeJoined cX1_allCanBeJoined 2 (some .boolean)) (hk_rm 0 0) (va_Pc [.ref h_fo] (hk_PR D (hk_ty cI cJ cZ cM) (wv_fo cI cJ cZ cM h_fo a_fo fo_kinds fo_declared fo_count))) (vp_Si post) 0 0 (fun _ => False) := by
  refine Met.ofW (cc := cX1_allCanBeJoined) (maxL := 2) (ret := (some .boolean)) (by decide) rfl ?_
  intro p e s m args below meth c s₁ B hml hv
  obtain ⟨rfl, hP, hK, hN⟩ := hv
  have hx := B.exec
  have hb := B.bytes
  have hr := B.returns
  have hts := atoms_spec (ws := hk_ws yX1_allCanBeJoined cX1_allCanBeJoined 2 (some .boolean)) B.pre
  have hta : ∀ w ∈ hk_all, w.before ([.ref h_fo] : List Value).toArray s = true := fun w hw => hts w (List.mem_cons_of_mem _ hw)
  have hown : s.vm.findClass RX1 = some m.cls := findClass_of_methodNamed B.named
  have hlocks := B.notSynchronized
  have S0 : CallFix p m c cX1_allCanBeJoined 2 s ([.ref h_fo] : List Value).toArray hk_all RX1 := ⟨hx, hb, hml, hown, hta⟩
  have hl := lv_entry ([.ref h_fo]) (n := 2) (Nat.le_of_ble_eq_true rfl)
  rw [lg_entry_eq]
  generalize (lg_sl ([.ref h_fo]) ++ List.replicate (2 - (lg_sl ([.ref h_fo])).length) Slot.unset).toArray = ls at hl ⊢
  have hl : lv_has ls 2 [(0, .ref h_fo)] := hl
  unfold wp_fo_allCanBeJoined at h
  refine lv_iconst (v := 0) hx hb dX1_allCanBeJoined_0 (by decide) ?_
  refine lv_istore_n (lv' := [(1, .int 0), (0, .ref h_fo)]) hx hb dX1_allCanBeJoined_1 rfl hl (by decide) rfl (fun ls hl => ?_)
  have P2 : ∀ (n : Nat) (v1 : Int32) (ls : Array Slot), lv_has ls 2 [(0, .ref h_fo), (1, .int v1)] → hk_lp (wb_fo_allCanBeJoined_2 fo_kinds fo_declared fo_count post) n v1 → W p l e (headSpec (hk_ws yX1_allCanBeJoined cX1_allCanBeJoined 2 (some .boolean)) (hk_rm 0 0)).room s m ([.ref h_fo] : List Value).toArray below meth c s.heap [] 0 0 (MQ below (vp_Si post) ([.ref h_fo] : List Value).toArray s 0 0 (fun _ => False)) (F0 m 2 ls []) := by
    intro n
    induction n with
    | zero => intro v1 ls hl h; exact False.elim h
    | succ n ih2 =>
      intro v1 ls hl h
      have h : wb_fo_allCanBeJoined_2 fo_kinds fo_declared fo_count post (hk_lp (wb_fo_allCanBeJoined_2 fo_kinds fo_declared fo_count post) n) v1 := h
      generalize hk_lp (wb_fo_allCanBeJoined_2 fo_kinds fo_declared fo_count post) n = K2 at h ih2
      unfold wb_fo_allCanBeJoined_2 at h
      refine lv_iload_n hx hb dX1_allCanBeJoined_2 rfl (lv_at hl 1 rfl) ?_
      refine lv_aload_n hx hb dX1_allCanBeJoined_3 rfl (lv_at hl 0 rfl) ?_
      refine va_get (D := D) (ci := 1) (v := .int fo_count) (C := RX1) (T := TX1) (N := 3) hx hb hta ih_X1 hown hK hP 0 rfl rfl 2 (by decide) (hta _ hw_107) (fun _ h9 => h9) rfl dX1_allCanBeJoined_4 ?_
      refine lv_icmp_ge (tgt := 49) hx hb dX1_allCanBeJoined_7 (by decide) (fun c2 => ?_) (fun c2 => ?_)
      · have h := h.1 c2
        refine lv_iconst (v := 1) hx hb dX1_allCanBeJoined_49 (by decide) ?_
        exact W.zret (ty := .boolean) (v := 1) hx hb hr rfl (fun t ht hW => ⟨_, rfl, h, ht⟩) (fun _ hq => by cases hq) dX1_allCanBeJoined_50
      · have h := h.2 c2
        refine lv_aload_n hx hb dX1_allCanBeJoined_10 rfl (lv_at hl 0 rfl) ?_
        refine va_get (D := D) (ci := 1) (v := .ref (a_fo 1)) (C := RX1) (T := TX1) (N := 3) hx hb hta ih_X1 hown hK hP 0 rfl rfl 1 (by decide) (hta _ hw_106) (fun _ h9 => h9) rfl dX1_allCanBeJoined_11 ?_
        refine lv_iload_n hx hb dX1_allCanBeJoined_14 rfl (lv_at hl 1 rfl) ?_
        refine va_zald hx hb hK hP 2 2 rfl rfl h.1 dX1_allCanBeJoined_15 ?_
        have h := h.2
        refine lv_if_eq (tgt := 41) hx hb dX1_allCanBeJoined_16 (by decide) (fun c3 => ?_) (fun c3 => ?_)
        · have h := h.1 c3
          refine lv_iconst (v := 0) hx hb dX1_allCanBeJoined_41 (by decide) ?_
          exact W.zret (ty := .boolean) (v := 0) hx hb hr rfl (fun t ht hW => ⟨_, rfl, h, ht⟩) (fun _ hq => by cases hq) dX1_allCanBeJoined_42
        · have h := h.2 c3
          refine lv_aload_n hx hb dX1_allCanBeJoined_19 rfl (lv_at hl 0 rfl) ?_
          refine va_get (D := D) (ci := 1) (v := .ref (a_fo 0)) (C := RX1) (T := TX1) (N := 3) hx hb hta ih_X1 hown hK hP 0 rfl rfl 0 (by decide) (hta _ hw_105) (fun _ h9 => h9) rfl dX1_allCanBeJoined_20 ?_
          refine lv_iload_n hx hb dX1_allCanBeJoined_23 rfl (lv_at hl 1 rfl) ?_
          refine va_iald hx hb hK hP 1 0 rfl rfl h.1 dX1_allCanBeJoined_24 ?_
          have h := h.2
          refine lv_bipush (v := 6) hx hb dX1_allCanBeJoined_25 (by decide) ?_
          refine lv_icmp_eq (tgt := 41) hx hb dX1_allCanBeJoined_27 (by decide) (fun c4 => ?_) (fun c4 => ?_)
          · have h := h.1 c4
            refine lv_iconst (v := 0) hx hb dX1_allCanBeJoined_41 (by decide) ?_
            exact W.zret (ty := .boolean) (v := 0) hx hb hr rfl (fun t ht hW => ⟨_, rfl, h, ht⟩) (fun _ hq => by cases hq) dX1_allCanBeJoined_42
          · have h := h.2 c4
            refine lv_aload_n hx hb dX1_allCanBeJoined_30 rfl (lv_at hl 0 rfl) ?_
            refine va_get (D := D) (ci := 1) (v := .ref (a_fo 0)) (C := RX1) (T := TX1) (N := 3) hx hb hta ih_X1 hown hK hP 0 rfl rfl 0 (by decide) (hta _ hw_105) (fun _ h9 => h9) rfl dX1_allCanBeJoined_31 ?_
            refine lv_iload_n hx hb dX1_allCanBeJoined_34 rfl (lv_at hl 1 rfl) ?_
            refine va_iald hx hb hK hP 1 0 rfl rfl h.1 dX1_allCanBeJoined_35 ?_
            have h := h.2
            refine lv_bipush (v := 7) hx hb dX1_allCanBeJoined_36 (by decide) ?_
            refine lv_icmp_ne (tgt := 43) hx hb dX1_allCanBeJoined_38 (by decide) (fun c5 => ?_) (fun c5 => ?_)
            · have h := h.1 c5
              obtain ⟨x6, ex6⟩ : ∃ y : Int32, y = v1 + 1 := ⟨_, rfl⟩
              have h := h x6 ex6
              refine lv_iinc (v := x6) (lv' := [(1, .int x6), (0, .ref h_fo)]) hx hb dX1_allCanBeJoined_43 hl (k := 1) rfl (by rw [ex6]; rfl) (by decide) rfl (fun ls hl => ?_)
              refine lv_goto (tgt := 2) hx hb dX1_allCanBeJoined_46 (by decide) ?_
              exact ih2 x6 ls (lv_sub hl [1, 0] rfl) h
            · have h := h.2 c5
              refine lv_iconst (v := 0) hx hb dX1_allCanBeJoined_41 (by decide) ?_
              exact W.zret (ty := .boolean) (v := 0) hx hb hr rfl (fun t ht hW => ⟨_, rfl, h, ht⟩) (fun _ hq => by cases hq) dX1_allCanBeJoined_42
  obtain ⟨n, h⟩ := h
  exact P2 n 0 ls (lv_sub hl [1, 0] rfl) h
def wp_fo_emptyState (p1 : Int32) (fo_kinds : Nat → Int32) (post : Int64 → Prop) : Prop := vp_in p1 6 ∧ (∀ x1 : Int32, x1 = fo_kinds p1.toNatClampNeg → (x1 = 2 → post (-4000000000000)) ∧ (¬ x1 = 2 → (x1 = 3 → post (-4000000000000)) ∧ (¬ x1 = 3 → (x1 = 4 → post 0) ∧ (¬ x1 = 4 → (x1 = 5 → post (-4000000000000)) ∧ (¬ x1 = 5 → (x1 = 6 → post 7) ∧ (¬ x1 = 6 → post 0))))))
theorem mm_fo_emptyState : hk_MV yX1_emptyState cX1_emptyState 2 (some .long) 1 := ⟨hw_363, hw_362, hw_11, hw_80, by decide +kernel⟩
set_option maxRecDepth 100000 in
set_option maxHeartbeats 4000000 in
theorem c_fo_emptyState (l : Launch) (D : va_G) (cI cJ cZ cM : ClassId) (h_fo : Nat) (a_fo : Nat → Nat)  (fo_kinds : Nat → Int32) (fo_declared : Nat → Int32) (fo_count : Int32) (p1 : Int32) (post : Int64 → Prop) (h : wp_fo_emptyState p1 fo_kinds post) : Met l yX1_emptyState (hk_ws yX1_emptyState cX1_emptyState 2 (some .long)) (hk_rm 0 0) (va_Pc [.ref h_fo, .int p1] (hk_PR D (hk_ty cI cJ cZ cM) (wv_fo cI cJ cZ cM h_fo a_fo fo_kinds fo_declared fo_count))) (vp_Sl post) 0 0 (fun _ => False) := by
  refine Met.ofW (cc := cX1_emptyState) (maxL := 2) (ret := (some .long)) (by decide) rfl ?_
  intro p e s m args below meth c s₁ B hml hv
  obtain ⟨rfl, hP, hK, hN⟩ := hv
  have hx := B.exec
  have hb := B.bytes
  have hr := B.returns
  have hts := atoms_spec (ws := hk_ws yX1_emptyState cX1_emptyState 2 (some .long)) B.pre
  have hta : ∀ w ∈ hk_all, w.before ([.ref h_fo, .int p1] : List Value).toArray s = true := fun w hw => hts w (List.mem_cons_of_mem _ hw)
  have hown : s.vm.findClass RX1 = some m.cls := findClass_of_methodNamed B.named
  have hlocks := B.notSynchronized
  have S0 : CallFix p m c cX1_emptyState 2 s ([.ref h_fo, .int p1] : List Value).toArray hk_all RX1 := ⟨hx, hb, hml, hown, hta⟩
  have hl := lv_entry ([.ref h_fo, .int p1]) (n := 2) (Nat.le_of_ble_eq_true rfl)
  rw [lg_entry_eq]
  generalize (lg_sl ([.ref h_fo, .int p1]) ++ List.replicate (2 - (lg_sl ([.ref h_fo, .int p1])).length) Slot.unset).toArray = ls at hl ⊢
  have hl : lv_has ls 2 [(0, .ref h_fo), (1, .int p1)] := hl
  unfold wp_fo_emptyState at h
  refine lv_aload_n hx hb dX1_emptyState_0 rfl (lv_at hl 0 rfl) ?_
  refine va_get (D := D) (ci := 1) (v := .ref (a_fo 0)) (C := RX1) (T := TX1) (N := 3) hx hb hta ih_X1 hown hK hP 0 rfl rfl 0 (by decide) (hta _ hw_105) (fun _ h9 => h9) rfl dX1_emptyState_1 ?_
  refine lv_iload_n hx hb dX1_emptyState_4 rfl (lv_at hl 1 rfl) ?_
  refine va_iald hx hb hK hP 1 0 rfl rfl h.1 dX1_emptyState_5 ?_
  have h := h.2
  refine lv_topi (fun x1 ex1 => ?_)
  have h := h x1 ex1
  by_cases c2 : x1 = 2
  · have h := h.1 c2
    refine lv_tableIn (tgt := 40) hx hb dX1_emptyState_6 (by rw [c2]; decide) (by rw [c2]; decide) (by rw [c2]; rfl) (by decide) ?_
    refine lv_ldc2 (v := (-4000000000000)) hx hb hown (hta _ hw_364) dX1_emptyState_40 ?_
    exact W.lret (v := (-4000000000000)) hx hb hr (fun t ht hW => ⟨_, rfl, h, ht⟩) (fun _ hq => by cases hq) dX1_emptyState_43
  · have h := h.2 c2
    by_cases c3 : x1 = 3
    · have h := h.1 c3
      refine lv_tableIn (tgt := 40) hx hb dX1_emptyState_6 (by rw [c3]; decide) (by rw [c3]; decide) (by rw [c3]; rfl) (by decide) ?_
      refine lv_ldc2 (v := (-4000000000000)) hx hb hown (hta _ hw_364) dX1_emptyState_40 ?_
      exact W.lret (v := (-4000000000000)) hx hb hr (fun t ht hW => ⟨_, rfl, h, ht⟩) (fun _ hq => by cases hq) dX1_emptyState_43
    · have h := h.2 c3
      by_cases c4 : x1 = 4
      · have h := h.1 c4
        refine lv_tableIn (tgt := 48) hx hb dX1_emptyState_6 (by rw [c4]; decide) (by rw [c4]; decide) (by rw [c4]; rfl) (by decide) ?_
        refine lv_lconst (v := 0) hx hb dX1_emptyState_48 (by decide) ?_
        exact W.lret (v := 0) hx hb hr (fun t ht hW => ⟨_, rfl, h, ht⟩) (fun _ hq => by cases hq) dX1_emptyState_49
      · have h := h.2 c4
        by_cases c5 : x1 = 5
        · have h := h.1 c5
          refine lv_tableIn (tgt := 40) hx hb dX1_emptyState_6 (by rw [c5]; decide) (by rw [c5]; decide) (by rw [c5]; rfl) (by decide) ?_
          refine lv_ldc2 (v := (-4000000000000)) hx hb hown (hta _ hw_364) dX1_emptyState_40 ?_
          exact W.lret (v := (-4000000000000)) hx hb hr (fun t ht hW => ⟨_, rfl, h, ht⟩) (fun _ hq => by cases hq) dX1_emptyState_43
        · have h := h.2 c5
          by_cases c6 : x1 = 6
          · have h := h.1 c6
            refine lv_tableIn (tgt := 44) hx hb dX1_emptyState_6 (by rw [c6]; decide) (by rw [c6]; decide) (by rw [c6]; rfl) (by decide) ?_
            refine lv_ldc2 (v := 7) hx hb hown (hta _ hw_365) dX1_emptyState_44 ?_
            exact W.lret (v := 7) hx hb hr (fun t ht hW => ⟨_, rfl, h, ht⟩) (fun _ hq => by cases hq) dX1_emptyState_47
          · have h := h.2 c6
            refine lv_tableOut (tgt := 48) hx hb dX1_emptyState_6 (by have qc2 := lv_neT c2 (a := 2) rfl; have qc3 := lv_neT c3 (a := 3) rfl; have qc4 := lv_neT c4 (a := 4) rfl; have qc5 := lv_neT c5 (a := 5) rfl; have qc6 := lv_neT c6 (a := 6) rfl; omega) (by decide) ?_
            refine lv_lconst (v := 0) hx hb dX1_emptyState_48 (by decide) ?_
            exact W.lret (v := 0) hx hb hr (fun t ht hW => ⟨_, rfl, h, ht⟩) (fun _ hq => by cases hq) dX1_emptyState_49
def wp_fo_folded (p1 : Int32) (p2 : Int64) (p3 : Int32) (p4 : Int64) (fo_kinds : Nat → Int32) (post : Int64 → Prop) : Prop := vp_in p1 6 ∧ (∀ x1 : Int32, x1 = fo_kinds p1.toNatClampNeg → (x1 = 0 → post (p2 + 1)) ∧ (¬ x1 = 0 → (x1 = 1 → post (p2 + p3.toInt64)) ∧ (¬ x1 = 1 → (x1 = 2 → (¬ (lg_cmp p2 (-4000000000000)) = 0 → post (if p3.toInt64 < p2 then p3.toInt64 else p2)) ∧ ((lg_cmp p2 (-4000000000000)) = 0 → post p3.toInt64)) ∧ (¬ x1 = 2 → (x1 = 3 → post (if p3.toInt64 < p2 then p2 else p3.toInt64)) ∧ (¬ x1 = 3 → (x1 = 4 → post (p2 ||| (hk_lshl 1 (p3 &&& 15)))) ∧ (¬ x1 = 4 → (x1 = 5 → post p3.toInt64) ∧ (¬ x1 = 5 → (x1 = 6 → post (((31 * p2.toInt32) + p3).toInt64)) ∧ (¬ x1 = 6 → (x1 = 7 → (0 ≤ (lg_cmp p3.toInt64 p4) → post p2) ∧ (¬ 0 ≤ (lg_cmp p3.toInt64 p4) → post (p2 + 1))) ∧ (¬ x1 = 7 → post p2)))))))))
theorem mm_fo_folded : hk_MV yX1_folded cX1_folded 7 (some .long) 4 := ⟨hw_395, hw_394, hw_15, hw_80, by decide +kernel⟩
set_option maxRecDepth 100000 in
set_option maxHeartbeats 4000000 in
theorem c_fo_folded (l : Launch) (D : va_G) (cI cJ cZ cM : ClassId) (h_fo : Nat) (a_fo : Nat → Nat)  (fo_kinds : Nat → Int32) (fo_declared : Nat → Int32) (fo_count : Int32) (p1 : Int32) (p2 : Int64) (p3 : Int32) (p4 : Int64) (post : Int64 → Prop) (h : wp_fo_folded p1 p2 p3 p4 fo_kinds post) : Met l yX1_folded (hk_ws yX1_folded cX1_folded 7 (some .long)) (hk_rm 1 23) (va_Pc [.ref h_fo, .int p1, .long p2, .int p3, .long p4] (hk_PR D (hk_ty cI cJ cZ cM) (wv_fo cI cJ cZ cM h_fo a_fo fo_kinds fo_declared fo_count))) (vp_Sl post) 0 0 (fun _ => False) := by
  refine Met.ofW (cc := cX1_folded) (maxL := 7) (ret := (some .long)) (by decide) rfl ?_
  intro p e s m args below meth c s₁ B hml hv
  obtain ⟨rfl, hP, hK, hN⟩ := hv
  have hx := B.exec
  have hb := B.bytes
  have hr := B.returns
  have hts := atoms_spec (ws := hk_ws yX1_folded cX1_folded 7 (some .long)) B.pre
  have hta : ∀ w ∈ hk_all, w.before ([.ref h_fo, .int p1, .long p2, .int p3, .long p4] : List Value).toArray s = true := fun w hw => hts w (List.mem_cons_of_mem _ hw)
  have hown : s.vm.findClass RX1 = some m.cls := findClass_of_methodNamed B.named
  have hlocks := B.notSynchronized
  have S0 : CallFix p m c cX1_folded 7 s ([.ref h_fo, .int p1, .long p2, .int p3, .long p4] : List Value).toArray hk_all RX1 := ⟨hx, hb, hml, hown, hta⟩
  have hl := lv_entry ([.ref h_fo, .int p1, .long p2, .int p3, .long p4]) (n := 7) (Nat.le_of_ble_eq_true rfl)
  rw [lg_entry_eq]
  generalize (lg_sl ([.ref h_fo, .int p1, .long p2, .int p3, .long p4]) ++ List.replicate (7 - (lg_sl ([.ref h_fo, .int p1, .long p2, .int p3, .long p4])).length) Slot.unset).toArray = ls at hl ⊢
  have hl : lv_has ls 7 [(0, .ref h_fo), (1, .int p1), (2, .long p2), (4, .int p3), (5, .long p4)] := hl
  unfold wp_fo_folded at h
  refine lv_aload_n hx hb dX1_folded_0 rfl (lv_at hl 0 rfl) ?_
  refine va_get (D := D) (ci := 1) (v := .ref (a_fo 0)) (C := RX1) (T := TX1) (N := 3) hx hb hta ih_X1 hown hK hP 0 rfl rfl 0 (by decide) (hta _ hw_105) (fun _ h9 => h9) rfl dX1_folded_1 ?_
  refine lv_iload_n hx hb dX1_folded_4 rfl (lv_at hl 1 rfl) ?_
  refine va_iald hx hb hK hP 1 0 rfl rfl h.1 dX1_folded_5 ?_
  have h := h.2
  refine lv_topi (fun x1 ex1 => ?_)
  have h := h x1 ex1
  by_cases c4 : x1 = 0
  · have h := h.1 c4
    refine lv_tableIn (tgt := 52) hx hb dX1_folded_6 (by rw [c4]; decide) (by rw [c4]; decide) (by rw [c4]; rfl) (by decide) ?_
    refine lv_lload_n hx hb dX1_folded_52 rfl (lv_at hl 2 rfl) ?_
    refine lv_lconst (v := 1) hx hb dX1_folded_53 (by decide) ?_
    refine lv_ladd hx hb dX1_folded_54 ?_
    exact W.lret (v := p2 + 1) hx hb hr (fun t ht hW => ⟨_, rfl, h, ht⟩) (fun _ hq => by cases hq) dX1_folded_55
  · have h := h.2 c4
    by_cases c5 : x1 = 1
    · have h := h.1 c5
      refine lv_tableIn (tgt := 56) hx hb dX1_folded_6 (by rw [c5]; decide) (by rw [c5]; decide) (by rw [c5]; rfl) (by decide) ?_
      refine lv_lload_n hx hb dX1_folded_56 rfl (lv_at hl 2 rfl) ?_
      refine lv_iload hx hb dX1_folded_57 (lv_at hl 3 rfl) ?_
      refine lv_i2l (v := p3.toInt64) hx hb dX1_folded_59 rfl ?_
      refine lv_ladd hx hb dX1_folded_60 ?_
      exact W.lret (v := p2 + p3.toInt64) hx hb hr (fun t ht hW => ⟨_, rfl, h, ht⟩) (fun _ hq => by cases hq) dX1_folded_61
    · have h := h.2 c5
      by_cases c6 : x1 = 2
      · have h := h.1 c6
        refine lv_tableIn (tgt := 62) hx hb dX1_folded_6 (by rw [c6]; decide) (by rw [c6]; decide) (by rw [c6]; rfl) (by decide) ?_
        refine lv_lload_n hx hb dX1_folded_62 rfl (lv_at hl 2 rfl) ?_
        refine lv_ldc2 (v := (-4000000000000)) hx hb hown (hta _ hw_364) dX1_folded_63 ?_
        refine W.lcmp hx hb dX1_folded_66 ?_
        refine lv_if_ne (tgt := 76) hx hb dX1_folded_67 (by decide) (fun c2 => ?_) (fun c2 => ?_)
        · have h := h.1 c2
          refine lv_lload_n hx hb dX1_folded_76 rfl (lv_at hl 2 rfl) ?_
          refine lv_iload hx hb dX1_folded_77 (lv_at hl 3 rfl) ?_
          refine lv_i2l (v := p3.toInt64) hx hb dX1_folded_79 rfl ?_
          refine va_mmin_long hx hb (hml.trans hl.1.symm) hown (hta _ hw_396) (hta _ hw_397) (hta _ hw_88) (hta _ hw_398) (Nat.le_of_ble_eq_true rfl) (Nat.le_of_ble_eq_true rfl) (Nat.le_of_ble_eq_true rfl) (Nat.le_of_ble_eq_true rfl) dX1_folded_80 ?_
          exact W.lret (v := (if p3.toInt64 < p2 then p3.toInt64 else p2)) hx hb hr (fun t ht hW => ⟨_, rfl, h, ht⟩) (fun _ hq => by cases hq) dX1_folded_83
        · have h := h.2 c2
          refine lv_iload hx hb dX1_folded_70 (lv_at hl 3 rfl) ?_
          refine lv_i2l (v := p3.toInt64) hx hb dX1_folded_72 rfl ?_
          refine lv_goto (tgt := 83) hx hb dX1_folded_73 (by decide) ?_
          exact W.lret (v := p3.toInt64) hx hb hr (fun t ht hW => ⟨_, rfl, h, ht⟩) (fun _ hq => by cases hq) dX1_folded_83
      · have h := h.2 c6
        by_cases c7 : x1 = 3
        · have h := h.1 c7
          refine lv_tableIn (tgt := 84) hx hb dX1_folded_6 (by rw [c7]; decide) (by rw [c7]; decide) (by rw [c7]; rfl) (by decide) ?_
          refine lv_lload_n hx hb dX1_folded_84 rfl (lv_at hl 2 rfl) ?_
          refine lv_iload hx hb dX1_folded_85 (lv_at hl 3 rfl) ?_
          refine lv_i2l (v := p3.toInt64) hx hb dX1_folded_87 rfl ?_
          refine va_mmax_long hx hb (hml.trans hl.1.symm) hown (hta _ hw_399) (hta _ hw_400) (hta _ hw_88) (hta _ hw_401) (Nat.le_of_ble_eq_true rfl) (Nat.le_of_ble_eq_true rfl) (Nat.le_of_ble_eq_true rfl) (Nat.le_of_ble_eq_true rfl) dX1_folded_88 ?_
          exact W.lret (v := (if p3.toInt64 < p2 then p2 else p3.toInt64)) hx hb hr (fun t ht hW => ⟨_, rfl, h, ht⟩) (fun _ hq => by cases hq) dX1_folded_91
        · have h := h.2 c7
          by_cases c8 : x1 = 4
          · have h := h.1 c8
            refine lv_tableIn (tgt := 92) hx hb dX1_folded_6 (by rw [c8]; decide) (by rw [c8]; decide) (by rw [c8]; rfl) (by decide) ?_
            refine lv_lload_n hx hb dX1_folded_92 rfl (lv_at hl 2 rfl) ?_
            refine lv_lconst (v := 1) hx hb dX1_folded_93 (by decide) ?_
            refine lv_iload hx hb dX1_folded_94 (lv_at hl 3 rfl) ?_
            refine lv_bipush (v := 15) hx hb dX1_folded_96 (by decide) ?_
            refine lv_iand hx hb dX1_folded_98 ?_
            refine lv_lshl (v := hk_lshl 1 (p3 &&& 15)) hx hb dX1_folded_99 rfl ?_
            refine lv_lor hx hb dX1_folded_100 ?_
            exact W.lret (v := p2 ||| (hk_lshl 1 (p3 &&& 15))) hx hb hr (fun t ht hW => ⟨_, rfl, h, ht⟩) (fun _ hq => by cases hq) dX1_folded_101
          · have h := h.2 c8
            by_cases c9 : x1 = 5
            · have h := h.1 c9
              refine lv_tableIn (tgt := 102) hx hb dX1_folded_6 (by rw [c9]; decide) (by rw [c9]; decide) (by rw [c9]; rfl) (by decide) ?_
              refine lv_iload hx hb dX1_folded_102 (lv_at hl 3 rfl) ?_
              refine lv_i2l (v := p3.toInt64) hx hb dX1_folded_104 rfl ?_
              exact W.lret (v := p3.toInt64) hx hb hr (fun t ht hW => ⟨_, rfl, h, ht⟩) (fun _ hq => by cases hq) dX1_folded_105
            · have h := h.2 c9
              by_cases c10 : x1 = 6
              · have h := h.1 c10
                refine lv_tableIn (tgt := 106) hx hb dX1_folded_6 (by rw [c10]; decide) (by rw [c10]; decide) (by rw [c10]; rfl) (by decide) ?_
                refine lv_bipush (v := 31) hx hb dX1_folded_106 (by decide) ?_
                refine lv_lload_n hx hb dX1_folded_108 rfl (lv_at hl 2 rfl) ?_
                refine lv_l2i (v := p2.toInt32) hx hb dX1_folded_109 rfl ?_
                refine lv_imul hx hb dX1_folded_110 ?_
                refine lv_iload hx hb dX1_folded_111 (lv_at hl 3 rfl) ?_
                refine lv_iadd hx hb dX1_folded_113 ?_
                refine lv_i2l (v := ((31 * p2.toInt32) + p3).toInt64) hx hb dX1_folded_114 rfl ?_
                exact W.lret (v := ((31 * p2.toInt32) + p3).toInt64) hx hb hr (fun t ht hW => ⟨_, rfl, h, ht⟩) (fun _ hq => by cases hq) dX1_folded_115
              · have h := h.2 c10
                by_cases c11 : x1 = 7
                · have h := h.1 c11
                  refine lv_tableIn (tgt := 116) hx hb dX1_folded_6 (by rw [c11]; decide) (by rw [c11]; decide) (by rw [c11]; rfl) (by decide) ?_
                  refine lv_iload hx hb dX1_folded_116 (lv_at hl 3 rfl) ?_
                  refine lv_i2l (v := p3.toInt64) hx hb dX1_folded_118 rfl ?_
                  refine lv_lload hx hb dX1_folded_119 (lv_at hl 4 rfl) ?_
                  refine W.lcmp hx hb dX1_folded_121 ?_
                  refine lv_if_ge (tgt := 131) hx hb dX1_folded_122 (by decide) (fun c3 => ?_) (fun c3 => ?_)
                  · have h := h.1 c3
                    refine lv_lload_n hx hb dX1_folded_131 rfl (lv_at hl 2 rfl) ?_
                    exact W.lret (v := p2) hx hb hr (fun t ht hW => ⟨_, rfl, h, ht⟩) (fun _ hq => by cases hq) dX1_folded_132
                  · have h := h.2 c3
                    refine lv_lload_n hx hb dX1_folded_125 rfl (lv_at hl 2 rfl) ?_
                    refine lv_lconst (v := 1) hx hb dX1_folded_126 (by decide) ?_
                    refine lv_ladd hx hb dX1_folded_127 ?_
                    refine lv_goto (tgt := 132) hx hb dX1_folded_128 (by decide) ?_
                    exact W.lret (v := p2 + 1) hx hb hr (fun t ht hW => ⟨_, rfl, h, ht⟩) (fun _ hq => by cases hq) dX1_folded_132
                · have h := h.2 c11
                  refine lv_tableOut (tgt := 133) hx hb dX1_folded_6 (by have qc4 := lv_neT c4 (a := 0) rfl; have qc5 := lv_neT c5 (a := 1) rfl; have qc6 := lv_neT c6 (a := 2) rfl; have qc7 := lv_neT c7 (a := 3) rfl; have qc8 := lv_neT c8 (a := 4) rfl; have qc9 := lv_neT c9 (a := 5) rfl; have qc10 := lv_neT c10 (a := 6) rfl; have qc11 := lv_neT c11 (a := 7) rfl; omega) (by decide) ?_
                  refine lv_lload_n hx hb dX1_folded_133 rfl (lv_at hl 2 rfl) ?_
                  exact W.lret (v := p2) hx hb hr (fun t ht hW => ⟨_, rfl, h, ht⟩) (fun _ hq => by cases hq) dX1_folded_134
def wp_fo_joined (p1 : Int32) (p2 : Int64) (p3 : Int64) (p4 : Int32) (fo_kinds : Nat → Int32) (post : Int64 → Prop) : Prop := vp_in p1 6 ∧ (∀ x1 : Int32, x1 = fo_kinds p1.toNatClampNeg → (x1 = 0 → post (p2 + p3)) ∧ (¬ x1 = 0 → (x1 = 1 → post (p2 + p3)) ∧ (¬ x1 = 1 → (x1 = 2 → ((lg_cmp p2 (-4000000000000)) = 0 → post (if p3 < p2 then p2 else p3)) ∧ (¬ (lg_cmp p2 (-4000000000000)) = 0 → (¬ (lg_cmp p3 (-4000000000000)) = 0 → post (if p3 < p2 then p3 else p2)) ∧ ((lg_cmp p3 (-4000000000000)) = 0 → post (if p3 < p2 then p2 else p3)))) ∧ (¬ x1 = 2 → (x1 = 3 → post (if p3 < p2 then p2 else p3)) ∧ (¬ x1 = 3 → (x1 = 4 → post (p2 ||| p3)) ∧ (¬ x1 = 4 → (x1 = 5 → (p4 = 0 → post p2) ∧ (¬ p4 = 0 → post p3)) ∧ (¬ x1 = 5 → post p2)))))))
theorem mm_fo_joined : hk_MV yX1_joined cX1_joined 7 (some .long) 4 := ⟨hw_488, hw_487, hw_34, hw_80, by decide +kernel⟩
set_option maxRecDepth 100000 in
set_option maxHeartbeats 4000000 in
theorem c_fo_joined (l : Launch) (D : va_G) (cI cJ cZ cM : ClassId) (h_fo : Nat) (a_fo : Nat → Nat)  (fo_kinds : Nat → Int32) (fo_declared : Nat → Int32) (fo_count : Int32) (p1 : Int32) (p2 : Int64) (p3 : Int64) (p4 : Int32) (post : Int64 → Prop) (h : wp_fo_joined p1 p2 p3 p4 fo_kinds post) : Met l yX1_joined (hk_ws yX1_joined cX1_joined 7 (some .long)) (hk_rm 1 23) (va_Pc [.ref h_fo, .int p1, .long p2, .long p3, .int p4] (hk_PR D (hk_ty cI cJ cZ cM) (wv_fo cI cJ cZ cM h_fo a_fo fo_kinds fo_declared fo_count))) (vp_Sl post) 0 0 (fun _ => False) := by
  refine Met.ofW (cc := cX1_joined) (maxL := 7) (ret := (some .long)) (by decide) rfl ?_
  intro p e s m args below meth c s₁ B hml hv
  obtain ⟨rfl, hP, hK, hN⟩ := hv
  have hx := B.exec
  have hb := B.bytes
  have hr := B.returns
  have hts := atoms_spec (ws := hk_ws yX1_joined cX1_joined 7 (some .long)) B.pre
  have hta : ∀ w ∈ hk_all, w.before ([.ref h_fo, .int p1, .long p2, .long p3, .int p4] : List Value).toArray s = true := fun w hw => hts w (List.mem_cons_of_mem _ hw)
  have hown : s.vm.findClass RX1 = some m.cls := findClass_of_methodNamed B.named
  have hlocks := B.notSynchronized
  have S0 : CallFix p m c cX1_joined 7 s ([.ref h_fo, .int p1, .long p2, .long p3, .int p4] : List Value).toArray hk_all RX1 := ⟨hx, hb, hml, hown, hta⟩
  have hl := lv_entry ([.ref h_fo, .int p1, .long p2, .long p3, .int p4]) (n := 7) (Nat.le_of_ble_eq_true rfl)
  rw [lg_entry_eq]
  generalize (lg_sl ([.ref h_fo, .int p1, .long p2, .long p3, .int p4]) ++ List.replicate (7 - (lg_sl ([.ref h_fo, .int p1, .long p2, .long p3, .int p4])).length) Slot.unset).toArray = ls at hl ⊢
  have hl : lv_has ls 7 [(0, .ref h_fo), (1, .int p1), (2, .long p2), (4, .long p3), (6, .int p4)] := hl
  unfold wp_fo_joined at h
  refine lv_aload_n hx hb dX1_joined_0 rfl (lv_at hl 0 rfl) ?_
  refine va_get (D := D) (ci := 1) (v := .ref (a_fo 0)) (C := RX1) (T := TX1) (N := 3) hx hb hta ih_X1 hown hK hP 0 rfl rfl 0 (by decide) (hta _ hw_105) (fun _ h9 => h9) rfl dX1_joined_1 ?_
  refine lv_iload_n hx hb dX1_joined_4 rfl (lv_at hl 1 rfl) ?_
  refine va_iald hx hb hK hP 1 0 rfl rfl h.1 dX1_joined_5 ?_
  have h := h.2
  refine lv_topi (fun x1 ex1 => ?_)
  have h := h x1 ex1
  by_cases c5 : x1 = 0
  · have h := h.1 c5
    refine lv_tableIn (tgt := 44) hx hb dX1_joined_6 (by rw [c5]; decide) (by rw [c5]; decide) (by rw [c5]; rfl) (by decide) ?_
    refine lv_lload_n hx hb dX1_joined_44 rfl (lv_at hl 2 rfl) ?_
    refine lv_lload hx hb dX1_joined_45 (lv_at hl 3 rfl) ?_
    refine lv_ladd hx hb dX1_joined_47 ?_
    exact W.lret (v := p2 + p3) hx hb hr (fun t ht hW => ⟨_, rfl, h, ht⟩) (fun _ hq => by cases hq) dX1_joined_48
  · have h := h.2 c5
    by_cases c6 : x1 = 1
    · have h := h.1 c6
      refine lv_tableIn (tgt := 44) hx hb dX1_joined_6 (by rw [c6]; decide) (by rw [c6]; decide) (by rw [c6]; rfl) (by decide) ?_
      refine lv_lload_n hx hb dX1_joined_44 rfl (lv_at hl 2 rfl) ?_
      refine lv_lload hx hb dX1_joined_45 (lv_at hl 3 rfl) ?_
      refine lv_ladd hx hb dX1_joined_47 ?_
      exact W.lret (v := p2 + p3) hx hb hr (fun t ht hW => ⟨_, rfl, h, ht⟩) (fun _ hq => by cases hq) dX1_joined_48
    · have h := h.2 c6
      by_cases c7 : x1 = 2
      · have h := h.1 c7
        refine lv_tableIn (tgt := 49) hx hb dX1_joined_6 (by rw [c7]; decide) (by rw [c7]; decide) (by rw [c7]; rfl) (by decide) ?_
        refine lv_lload_n hx hb dX1_joined_49 rfl (lv_at hl 2 rfl) ?_
        refine lv_ldc2 (v := (-4000000000000)) hx hb hown (hta _ hw_364) dX1_joined_50 ?_
        refine W.lcmp hx hb dX1_joined_53 ?_
        refine lv_if_eq (tgt := 66) hx hb dX1_joined_54 (by decide) (fun c2 => ?_) (fun c2 => ?_)
        · have h := h.1 c2
          refine lv_lload_n hx hb dX1_joined_66 rfl (lv_at hl 2 rfl) ?_
          refine lv_lload hx hb dX1_joined_67 (lv_at hl 3 rfl) ?_
          refine va_mmax_long hx hb (hml.trans hl.1.symm) hown (hta _ hw_399) (hta _ hw_400) (hta _ hw_88) (hta _ hw_401) (Nat.le_of_ble_eq_true rfl) (Nat.le_of_ble_eq_true rfl) (Nat.le_of_ble_eq_true rfl) (Nat.le_of_ble_eq_true rfl) dX1_joined_69 ?_
          refine lv_goto (tgt := 81) hx hb dX1_joined_72 (by decide) ?_
          exact W.lret (v := (if p3 < p2 then p2 else p3)) hx hb hr (fun t ht hW => ⟨_, rfl, h, ht⟩) (fun _ hq => by cases hq) dX1_joined_81
        · have h := h.2 c2
          refine lv_lload hx hb dX1_joined_57 (lv_at hl 3 rfl) ?_
          refine lv_ldc2 (v := (-4000000000000)) hx hb hown (hta _ hw_364) dX1_joined_59 ?_
          refine W.lcmp hx hb dX1_joined_62 ?_
          refine lv_if_ne (tgt := 75) hx hb dX1_joined_63 (by decide) (fun c3 => ?_) (fun c3 => ?_)
          · have h := h.1 c3
            refine lv_lload_n hx hb dX1_joined_75 rfl (lv_at hl 2 rfl) ?_
            refine lv_lload hx hb dX1_joined_76 (lv_at hl 3 rfl) ?_
            refine va_mmin_long hx hb (hml.trans hl.1.symm) hown (hta _ hw_396) (hta _ hw_397) (hta _ hw_88) (hta _ hw_398) (Nat.le_of_ble_eq_true rfl) (Nat.le_of_ble_eq_true rfl) (Nat.le_of_ble_eq_true rfl) (Nat.le_of_ble_eq_true rfl) dX1_joined_78 ?_
            exact W.lret (v := (if p3 < p2 then p3 else p2)) hx hb hr (fun t ht hW => ⟨_, rfl, h, ht⟩) (fun _ hq => by cases hq) dX1_joined_81
          · have h := h.2 c3
            refine lv_lload_n hx hb dX1_joined_66 rfl (lv_at hl 2 rfl) ?_
            refine lv_lload hx hb dX1_joined_67 (lv_at hl 3 rfl) ?_
            refine va_mmax_long hx hb (hml.trans hl.1.symm) hown (hta _ hw_399) (hta _ hw_400) (hta _ hw_88) (hta _ hw_401) (Nat.le_of_ble_eq_true rfl) (Nat.le_of_ble_eq_true rfl) (Nat.le_of_ble_eq_true rfl) (Nat.le_of_ble_eq_true rfl) dX1_joined_69 ?_
            refine lv_goto (tgt := 81) hx hb dX1_joined_72 (by decide) ?_
            exact W.lret (v := (if p3 < p2 then p2 else p3)) hx hb hr (fun t ht hW => ⟨_, rfl, h, ht⟩) (fun _ hq => by cases hq) dX1_joined_81
      · have h := h.2 c7
        by_cases c8 : x1 = 3
        · have h := h.1 c8
          refine lv_tableIn (tgt := 82) hx hb dX1_joined_6 (by rw [c8]; decide) (by rw [c8]; decide) (by rw [c8]; rfl) (by decide) ?_
          refine lv_lload_n hx hb dX1_joined_82 rfl (lv_at hl 2 rfl) ?_
          refine lv_lload hx hb dX1_joined_83 (lv_at hl 3 rfl) ?_
          refine va_mmax_long hx hb (hml.trans hl.1.symm) hown (hta _ hw_399) (hta _ hw_400) (hta _ hw_88) (hta _ hw_401) (Nat.le_of_ble_eq_true rfl) (Nat.le_of_ble_eq_true rfl) (Nat.le_of_ble_eq_true rfl) (Nat.le_of_ble_eq_true rfl) dX1_joined_85 ?_
          exact W.lret (v := (if p3 < p2 then p2 else p3)) hx hb hr (fun t ht hW => ⟨_, rfl, h, ht⟩) (fun _ hq => by cases hq) dX1_joined_88
        · have h := h.2 c8
          by_cases c9 : x1 = 4
          · have h := h.1 c9
            refine lv_tableIn (tgt := 89) hx hb dX1_joined_6 (by rw [c9]; decide) (by rw [c9]; decide) (by rw [c9]; rfl) (by decide) ?_
            refine lv_lload_n hx hb dX1_joined_89 rfl (lv_at hl 2 rfl) ?_
            refine lv_lload hx hb dX1_joined_90 (lv_at hl 3 rfl) ?_
            refine lv_lor hx hb dX1_joined_92 ?_
            exact W.lret (v := p2 ||| p3) hx hb hr (fun t ht hW => ⟨_, rfl, h, ht⟩) (fun _ hq => by cases hq) dX1_joined_93
          · have h := h.2 c9
            by_cases c10 : x1 = 5
            · have h := h.1 c10
              refine lv_tableIn (tgt := 94) hx hb dX1_joined_6 (by rw [c10]; decide) (by rw [c10]; decide) (by rw [c10]; rfl) (by decide) ?_
              refine lv_iload hx hb dX1_joined_94 (lv_at hl 4 rfl) ?_
              refine lv_if_eq (tgt := 104) hx hb dX1_joined_96 (by decide) (fun c4 => ?_) (fun c4 => ?_)
              · have h := h.1 c4
                refine lv_lload_n hx hb dX1_joined_104 rfl (lv_at hl 2 rfl) ?_
                exact W.lret (v := p2) hx hb hr (fun t ht hW => ⟨_, rfl, h, ht⟩) (fun _ hq => by cases hq) dX1_joined_105
              · have h := h.2 c4
                refine lv_lload hx hb dX1_joined_99 (lv_at hl 3 rfl) ?_
                refine lv_goto (tgt := 105) hx hb dX1_joined_101 (by decide) ?_
                exact W.lret (v := p3) hx hb hr (fun t ht hW => ⟨_, rfl, h, ht⟩) (fun _ hq => by cases hq) dX1_joined_105
            · have h := h.2 c10
              refine lv_tableOut (tgt := 106) hx hb dX1_joined_6 (by have qc5 := lv_neT c5 (a := 0) rfl; have qc6 := lv_neT c6 (a := 1) rfl; have qc7 := lv_neT c7 (a := 2) rfl; have qc8 := lv_neT c8 (a := 3) rfl; have qc9 := lv_neT c9 (a := 4) rfl; have qc10 := lv_neT c10 (a := 5) rfl; omega) (by decide) ?_
              refine lv_lload_n hx hb dX1_joined_106 rfl (lv_at hl 2 rfl) ?_
              exact W.lret (v := p2) hx hb hr (fun t ht hW => ⟨_, rfl, h, ht⟩) (fun _ hq => by cases hq) dX1_joined_107
