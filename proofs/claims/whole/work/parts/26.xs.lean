def wp_x_isWithin (p1 : Int32) (p2 : Int32) (p3 : Int32)  (post : Int32 → Prop) : Prop := (p1 < p2 → post 0) ∧ (¬ p1 < p2 → (p3 < p1 → post 0) ∧ (¬ p3 < p1 → post 1))
theorem mm_x_isWithin : hk_MS yX7_isWithin cX7_isWithin 3 (some .boolean) 3 := ⟨hw_335, hw_334, hw_79, by decide +kernel⟩
set_option maxRecDepth 100000 in
set_option maxHeartbeats 4000000 in
theorem c_x_isWithin (l : Launch) (D : va_G) (cI cJ cZ cM : ClassId)    (p1 : Int32) (p2 : Int32) (p3 : Int32) (post : Int32 → Prop) (h : wp_x_isWithin p1 p2 p3 post) : Met l yX7_isWithin (hk_ws yX7_isWithin cX7_isWithin 3 (some .boolean)) (hk_rm 0 0) (va_Pc [.int p1, .int p2, .int p3] (hk_PR D (hk_ty cI cJ cZ cM) (([] : va_W)))) (vp_Si post) 0 0 (fun _ => False) := by
  refine Met.ofW (cc := cX7_isWithin) (maxL := 3) (ret := (some .boolean)) (by decide) rfl ?_
  intro p e s m args below meth c s₁ B hml hv
  obtain ⟨rfl, hP, hK, hN⟩ := hv
  have hx := B.exec
  have hb := B.bytes
  have hr := B.returns
  have hts := atoms_spec (ws := hk_ws yX7_isWithin cX7_isWithin 3 (some .boolean)) B.pre
  have hta : ∀ w ∈ hk_all, w.before ([.int p1, .int p2, .int p3] : List Value).toArray s = true := fun w hw => hts w (List.mem_cons_of_mem _ hw)
  have hown : s.vm.findClass RX7 = some m.cls := findClass_of_methodNamed B.named
  have hlocks := B.notSynchronized
  have S0 : CallFix p m c cX7_isWithin 3 s ([.int p1, .int p2, .int p3] : List Value).toArray hk_all RX7 := ⟨hx, hb, hml, hown, hta⟩
  have hl := lv_entry ([.int p1, .int p2, .int p3]) (n := 3) (Nat.le_of_ble_eq_true rfl)
  rw [lg_entry_eq]
  generalize (lg_sl ([.int p1, .int p2, .int p3]) ++ List.replicate (3 - (lg_sl ([.int p1, .int p2, .int p3])).length) Slot.unset).toArray = ls at hl ⊢
  have hl : lv_has ls 3 [(0, .int p1), (1, .int p2), (2, .int p3)] := hl
  unfold wp_x_isWithin at h
  refine lv_iload_n hx hb dX7_isWithin_0 rfl (lv_at hl 0 rfl) ?_
  refine lv_iload_n hx hb dX7_isWithin_1 rfl (lv_at hl 1 rfl) ?_
  refine lv_icmp_lt (tgt := 14) hx hb dX7_isWithin_2 (by decide) (fun c1 => ?_) (fun c1 => ?_)
  · have h := h.1 c1
    refine lv_iconst (v := 0) hx hb dX7_isWithin_14 (by decide) ?_
    exact W.zret (ty := .boolean) (v := 0) hx hb hr rfl (fun t ht hW => ⟨_, rfl, h, ht⟩) (fun _ hq => by cases hq) dX7_isWithin_15
  · have h := h.2 c1
    refine lv_iload_n hx hb dX7_isWithin_5 rfl (lv_at hl 0 rfl) ?_
    refine lv_iload_n hx hb dX7_isWithin_6 rfl (lv_at hl 2 rfl) ?_
    refine lv_icmp_gt (tgt := 14) hx hb dX7_isWithin_7 (by decide) (fun c2 => ?_) (fun c2 => ?_)
    · have h := h.1 c2
      refine lv_iconst (v := 0) hx hb dX7_isWithin_14 (by decide) ?_
      exact W.zret (ty := .boolean) (v := 0) hx hb hr rfl (fun t ht hW => ⟨_, rfl, h, ht⟩) (fun _ hq => by cases hq) dX7_isWithin_15
    · have h := h.2 c2
      refine lv_iconst (v := 1) hx hb dX7_isWithin_10 (by decide) ?_
      refine lv_goto (tgt := 15) hx hb dX7_isWithin_11 (by decide) ?_
      exact W.zret (ty := .boolean) (v := 1) hx hb hr rfl (fun t ht hW => ⟨_, rfl, h, ht⟩) (fun _ hq => by cases hq) dX7_isWithin_15
def wp_x_isKey (p1 : Int32)  (post : Int32 → Prop) : Prop := wp_x_isWithin p1 0 99 (fun (r1 : Int32) => (r1 = 0 ∨ r1 = 1) ∧ post r1)
theorem mm_x_isKey : hk_MS yX7_isKey cX7_isKey 1 (some .boolean) 1 := ⟨hw_372, hw_371, hw_79, by decide +kernel⟩
set_option maxRecDepth 100000 in
set_option maxHeartbeats 4000000 in
theorem c_x_isKey (l : Launch) (D : va_G) (cI cJ cZ cM : ClassId)    (p1 : Int32) (post : Int32 → Prop) (h : wp_x_isKey p1 post) : Met l yX7_isKey (hk_ws yX7_isKey cX7_isKey 1 (some .boolean)) (hk_rm 1 22) (va_Pc [.int p1] (hk_PR D (hk_ty cI cJ cZ cM) (([] : va_W)))) (vp_Si post) 0 0 (fun _ => False) := by
  refine Met.ofW (cc := cX7_isKey) (maxL := 1) (ret := (some .boolean)) (by decide) rfl ?_
  intro p e s m args below meth c s₁ B hml hv
  obtain ⟨rfl, hP, hK, hN⟩ := hv
  have hx := B.exec
  have hb := B.bytes
  have hr := B.returns
  have hts := atoms_spec (ws := hk_ws yX7_isKey cX7_isKey 1 (some .boolean)) B.pre
  have hta : ∀ w ∈ hk_all, w.before ([.int p1] : List Value).toArray s = true := fun w hw => hts w (List.mem_cons_of_mem _ hw)
  have hown : s.vm.findClass RX7 = some m.cls := findClass_of_methodNamed B.named
  have hlocks := B.notSynchronized
  have S0 : CallFix p m c cX7_isKey 1 s ([.int p1] : List Value).toArray hk_all RX7 := ⟨hx, hb, hml, hown, hta⟩
  have hl := lv_entry ([.int p1]) (n := 1) (Nat.le_of_ble_eq_true rfl)
  rw [lg_entry_eq]
  generalize (lg_sl ([.int p1]) ++ List.replicate (1 - (lg_sl ([.int p1])).length) Slot.unset).toArray = ls at hl ⊢
  have hl : lv_has ls 1 [(0, .int p1)] := hl
  unfold wp_x_isKey at h
  refine lv_iload_n hx hb dX7_isKey_0 rfl (lv_at hl 0 rfl) ?_
  refine lv_iconst (v := 0) hx hb dX7_isKey_1 (by decide) ?_
  refine lv_bipush (v := 99) hx hb dX7_isKey_2 (by decide) ?_
  refine vp_callSi (hk_runS (As := [.int p1, .int 0, .int 99]) (rest := []) S0 mm_x_isWithin (c_x_isWithin l D cI cJ cZ cM p1 0 99 _ h) hw_333 hk_blR (hk_atR hP hK hN) ⟨rfl, rfl, Nat.le_of_ble_eq_true rfl, Nat.le_of_ble_eq_true rfl⟩ rfl hl.1 rfl (Nat.le_of_ble_eq_true rfl) dX7_isKey_4 ⟨Nat.le_of_ble_eq_true rfl, Nat.le_of_ble_eq_true rfl⟩).run (fun r1 h => ?_)
  exact W.zret (ty := .boolean) (v := r1) hx hb hr (hk_nz h.1) (fun t ht hW => ⟨_, rfl, h.2, ht⟩) (fun _ hq => by cases hq) dX7_isKey_7
def wp_x_remainder (p1 : Int32) (p2 : Int32)  (post : Int32 → Prop) : Prop := (p2 ≤ 0 → post 0) ∧ (¬ p2 ≤ 0 → ¬ p2 = 0 ∧ (post (p1 - p1 / p2 * p2)))
theorem mm_x_remainder : hk_MS yX7_remainder cX7_remainder 2 (some .int) 2 := ⟨hw_383, hw_382, hw_79, by decide +kernel⟩
set_option maxRecDepth 100000 in
set_option maxHeartbeats 4000000 in
theorem c_x_remainder (l : Launch) (D : va_G) (cI cJ cZ cM : ClassId)    (p1 : Int32) (p2 : Int32) (post : Int32 → Prop) (h : wp_x_remainder p1 p2 post) : Met l yX7_remainder (hk_ws yX7_remainder cX7_remainder 2 (some .int)) (hk_rm 0 0) (va_Pc [.int p1, .int p2] (hk_PR D (hk_ty cI cJ cZ cM) (([] : va_W)))) (vp_Si post) 0 0 (fun _ => False) := by
  refine Met.ofW (cc := cX7_remainder) (maxL := 2) (ret := (some .int)) (by decide) rfl ?_
  intro p e s m args below meth c s₁ B hml hv
  obtain ⟨rfl, hP, hK, hN⟩ := hv
  have hx := B.exec
  have hb := B.bytes
  have hr := B.returns
  have hts := atoms_spec (ws := hk_ws yX7_remainder cX7_remainder 2 (some .int)) B.pre
  have hta : ∀ w ∈ hk_all, w.before ([.int p1, .int p2] : List Value).toArray s = true := fun w hw => hts w (List.mem_cons_of_mem _ hw)
  have hown : s.vm.findClass RX7 = some m.cls := findClass_of_methodNamed B.named
  have hlocks := B.notSynchronized
  have S0 : CallFix p m c cX7_remainder 2 s ([.int p1, .int p2] : List Value).toArray hk_all RX7 := ⟨hx, hb, hml, hown, hta⟩
  have hl := lv_entry ([.int p1, .int p2]) (n := 2) (Nat.le_of_ble_eq_true rfl)
  rw [lg_entry_eq]
  generalize (lg_sl ([.int p1, .int p2]) ++ List.replicate (2 - (lg_sl ([.int p1, .int p2])).length) Slot.unset).toArray = ls at hl ⊢
  have hl : lv_has ls 2 [(0, .int p1), (1, .int p2)] := hl
  unfold wp_x_remainder at h
  refine lv_iload_n hx hb dX7_remainder_0 rfl (lv_at hl 1 rfl) ?_
  refine lv_if_le (tgt := 10) hx hb dX7_remainder_1 (by decide) (fun c1 => ?_) (fun c1 => ?_)
  · have h := h.1 c1
    refine lv_iconst (v := 0) hx hb dX7_remainder_10 (by decide) ?_
    exact W.iret (v := 0) hx hb hr (fun t ht hW => ⟨_, rfl, h, ht⟩) (fun _ hq => by cases hq) dX7_remainder_11
  · have h := h.2 c1
    refine lv_iload_n hx hb dX7_remainder_4 rfl (lv_at hl 0 rfl) ?_
    refine lv_iload_n hx hb dX7_remainder_5 rfl (lv_at hl 1 rfl) ?_
    refine lv_irem hx hb dX7_remainder_6 h.1 ?_
    have h := h.2
    refine lv_goto (tgt := 11) hx hb dX7_remainder_7 (by decide) ?_
    exact W.iret (v := p1 - p1 / p2 * p2) hx hb hr (fun t ht hW => ⟨_, rfl, h, ht⟩) (fun _ hq => by cases hq) dX7_remainder_11
def wp_x_quotient (p1 : Int32) (p2 : Int32)  (post : Int32 → Prop) : Prop := (p2 ≤ 0 → post 0) ∧ (¬ p2 ≤ 0 → ¬ p2 = 0 ∧ (post (p1 / p2)))
theorem mm_x_quotient : hk_MS yX7_quotient cX7_quotient 2 (some .int) 2 := ⟨hw_457, hw_456, hw_79, by decide +kernel⟩
set_option maxRecDepth 100000 in
set_option maxHeartbeats 4000000 in
theorem c_x_quotient (l : Launch) (D : va_G) (cI cJ cZ cM : ClassId)    (p1 : Int32) (p2 : Int32) (post : Int32 → Prop) (h : wp_x_quotient p1 p2 post) : Met l yX7_quotient (hk_ws yX7_quotient cX7_quotient 2 (some .int)) (hk_rm 0 0) (va_Pc [.int p1, .int p2] (hk_PR D (hk_ty cI cJ cZ cM) (([] : va_W)))) (vp_Si post) 0 0 (fun _ => False) := by
  refine Met.ofW (cc := cX7_quotient) (maxL := 2) (ret := (some .int)) (by decide) rfl ?_
  intro p e s m args below meth c s₁ B hml hv
  obtain ⟨rfl, hP, hK, hN⟩ := hv
  have hx := B.exec
  have hb := B.bytes
  have hr := B.returns
  have hts := atoms_spec (ws := hk_ws yX7_quotient cX7_quotient 2 (some .int)) B.pre
  have hta : ∀ w ∈ hk_all, w.before ([.int p1, .int p2] : List Value).toArray s = true := fun w hw => hts w (List.mem_cons_of_mem _ hw)
  have hown : s.vm.findClass RX7 = some m.cls := findClass_of_methodNamed B.named
  have hlocks := B.notSynchronized
  have S0 : CallFix p m c cX7_quotient 2 s ([.int p1, .int p2] : List Value).toArray hk_all RX7 := ⟨hx, hb, hml, hown, hta⟩
  have hl := lv_entry ([.int p1, .int p2]) (n := 2) (Nat.le_of_ble_eq_true rfl)
  rw [lg_entry_eq]
  generalize (lg_sl ([.int p1, .int p2]) ++ List.replicate (2 - (lg_sl ([.int p1, .int p2])).length) Slot.unset).toArray = ls at hl ⊢
  have hl : lv_has ls 2 [(0, .int p1), (1, .int p2)] := hl
  unfold wp_x_quotient at h
  refine lv_iload_n hx hb dX7_quotient_0 rfl (lv_at hl 1 rfl) ?_
  refine lv_if_le (tgt := 10) hx hb dX7_quotient_1 (by decide) (fun c1 => ?_) (fun c1 => ?_)
  · have h := h.1 c1
    refine lv_iconst (v := 0) hx hb dX7_quotient_10 (by decide) ?_
    exact W.iret (v := 0) hx hb hr (fun t ht hW => ⟨_, rfl, h, ht⟩) (fun _ hq => by cases hq) dX7_quotient_11
  · have h := h.2 c1
    refine lv_iload_n hx hb dX7_quotient_4 rfl (lv_at hl 0 rfl) ?_
    refine lv_iload_n hx hb dX7_quotient_5 rfl (lv_at hl 1 rfl) ?_
    refine lv_idiv hx hb dX7_quotient_6 h.1 ?_
    have h := h.2
    refine lv_goto (tgt := 11) hx hb dX7_quotient_7 (by decide) ?_
    exact W.iret (v := p1 / p2) hx hb hr (fun t ht hW => ⟨_, rfl, h, ht⟩) (fun _ hq => by cases hq) dX7_quotient_11
def wp_x_partOfRow (p1 : Int32) (p2 : Int32)  (post : Int32 → Prop) : Prop := wp_x_remainder (hk_ushr (p1 * (-1640531535)) 16) p2 (fun (r1 : Int32) => post r1)
theorem mm_x_partOfRow : hk_MS yX7_partOfRow cX7_partOfRow 2 (some .int) 2 := ⟨hw_379, hw_378, hw_79, by decide +kernel⟩
set_option maxRecDepth 100000 in
set_option maxHeartbeats 4000000 in
theorem c_x_partOfRow (l : Launch) (D : va_G) (cI cJ cZ cM : ClassId)    (p1 : Int32) (p2 : Int32) (post : Int32 → Prop) (h : wp_x_partOfRow p1 p2 post) : Met l yX7_partOfRow (hk_ws yX7_partOfRow cX7_partOfRow 2 (some .int)) (hk_rm 1 21) (va_Pc [.int p1, .int p2] (hk_PR D (hk_ty cI cJ cZ cM) (([] : va_W)))) (vp_Si post) 0 0 (fun _ => False) := by
  refine Met.ofW (cc := cX7_partOfRow) (maxL := 2) (ret := (some .int)) (by decide) rfl ?_
  intro p e s m args below meth c s₁ B hml hv
  obtain ⟨rfl, hP, hK, hN⟩ := hv
  have hx := B.exec
  have hb := B.bytes
  have hr := B.returns
  have hts := atoms_spec (ws := hk_ws yX7_partOfRow cX7_partOfRow 2 (some .int)) B.pre
  have hta : ∀ w ∈ hk_all, w.before ([.int p1, .int p2] : List Value).toArray s = true := fun w hw => hts w (List.mem_cons_of_mem _ hw)
  have hown : s.vm.findClass RX7 = some m.cls := findClass_of_methodNamed B.named
  have hlocks := B.notSynchronized
  have S0 : CallFix p m c cX7_partOfRow 2 s ([.int p1, .int p2] : List Value).toArray hk_all RX7 := ⟨hx, hb, hml, hown, hta⟩
  have hl := lv_entry ([.int p1, .int p2]) (n := 2) (Nat.le_of_ble_eq_true rfl)
  rw [lg_entry_eq]
  generalize (lg_sl ([.int p1, .int p2]) ++ List.replicate (2 - (lg_sl ([.int p1, .int p2])).length) Slot.unset).toArray = ls at hl ⊢
  have hl : lv_has ls 2 [(0, .int p1), (1, .int p2)] := hl
  unfold wp_x_partOfRow at h
  refine lv_iload_n hx hb dX7_partOfRow_0 rfl (lv_at hl 0 rfl) ?_
  refine lv_ldcw (v := (-1640531535)) hx hb hown (hta _ hw_380) dX7_partOfRow_1 ?_
  refine lv_imul hx hb dX7_partOfRow_4 ?_
  refine lv_bipush (v := 16) hx hb dX7_partOfRow_5 (by decide) ?_
  refine lv_iushr (v := hk_ushr (p1 * (-1640531535)) 16) hx hb dX7_partOfRow_7 rfl ?_
  refine lv_iload_n hx hb dX7_partOfRow_8 rfl (lv_at hl 1 rfl) ?_
  refine vp_callSi (hk_runS (As := [.int (hk_ushr (p1 * (-1640531535)) 16), .int p2]) (rest := []) S0 mm_x_remainder (c_x_remainder l D cI cJ cZ cM (hk_ushr (p1 * (-1640531535)) 16) p2 _ h) hw_381 hk_blR (hk_atR hP hK hN) ⟨rfl, rfl, Nat.le_of_ble_eq_true rfl, Nat.le_of_ble_eq_true rfl⟩ rfl hl.1 rfl (Nat.le_of_ble_eq_true rfl) dX7_partOfRow_9 ⟨Nat.le_of_ble_eq_true rfl, Nat.le_of_ble_eq_true rfl⟩).run (fun r1 h => ?_)
  exact W.iret (v := r1) hx hb hr (fun t ht hW => ⟨_, rfl, h, ht⟩) (fun _ hq => by cases hq) dX7_partOfRow_12
def wb_x_joinOfTree_12 (p1 : Int32) (p2 : Int32) (post : Int32 → Prop) (v1 : Int32 × Int32) (K4 : (Int32 × Int32) → Prop) (K12 : (Int32 × Int32) → Prop) (v3 : Int32 × Int32) : Prop := (p1 ≤ (v3.2 + v1.2) → ∀ x5 : Int32, x5 = v1.2 + v1.2 → K4 (v3.1, x5)) ∧ (¬ p1 ≤ (v3.2 + v1.2) → (¬ v3.1 = p2 → ∀ x7 : Int32, x7 = v3.1 + 1 → ∀ x8 : Int32, x8 = v3.2 + (2 * v1.2) → K12 (x7, x8)) ∧ (v3.1 = p2 → post (((8 * v3.2) + v3.2) + v1.2)))
def wb_x_joinOfTree_4 (p1 : Int32) (p2 : Int32) (post : Int32 → Prop) (K4 : (Int32 × Int32) → Prop) (v1 : Int32 × Int32) : Prop := (p1 ≤ v1.2 → post (-1)) ∧ (¬ p1 ≤ v1.2 → ∃ n, hk_lp (wb_x_joinOfTree_12 p1 p2 post v1 K4) n (v1.1, 0))
def wp_x_joinOfTree (p1 : Int32) (p2 : Int32)  (post : Int32 → Prop) : Prop := ∃ n, hk_lp (wb_x_joinOfTree_4 p1 p2 post) n (0, 1)
theorem mm_x_joinOfTree : hk_MS yX7_joinOfTree cX7_joinOfTree 5 (some .int) 2 := ⟨hw_541, hw_540, hw_79, by decide +kernel⟩
set_option maxRecDepth 100000 in
set_option maxHeartbeats 4000000 in
theorem c_x_joinOfTree (l : Launch) (D : va_G) (cI cJ cZ cM : ClassId)    (p1 : Int32) (p2 : Int32) (post : Int32 → Prop) (h : wp_x_joinOfTree p1 p2 post) : Met l yX7_joinOfTree (hk_ws yX7_joinOfTree cX7_joinOfTree 5 (some .int)) (hk_rm 0 0) (va_Pc [.int p1, .int p2] (hk_PR D (hk_ty cI cJ cZ cM) (([] : va_W)))) (vp_Si post) 0 0 (fun _ => False) := by
  refine Met.ofW (cc := cX7_joinOfTree) (maxL := 5) (ret := (some .int)) (by decide) rfl ?_
  intro p e s m args below meth c s₁ B hml hv
  obtain ⟨rfl, hP, hK, hN⟩ := hv
  have hx := B.exec
  have hb := B.bytes
  have hr := B.returns
  have hts := atoms_spec (ws := hk_ws yX7_joinOfTree cX7_joinOfTree 5 (some .int)) B.pre
  have hta : ∀ w ∈ hk_all, w.before ([.int p1, .int p2] : List Value).toArray s = true := fun w hw => hts w (List.mem_cons_of_mem _ hw)
  have hown : s.vm.findClass RX7 = some m.cls := findClass_of_methodNamed B.named
  have hlocks := B.notSynchronized
  have S0 : CallFix p m c cX7_joinOfTree 5 s ([.int p1, .int p2] : List Value).toArray hk_all RX7 := ⟨hx, hb, hml, hown, hta⟩
  have hl := lv_entry ([.int p1, .int p2]) (n := 5) (Nat.le_of_ble_eq_true rfl)
  rw [lg_entry_eq]
  generalize (lg_sl ([.int p1, .int p2]) ++ List.replicate (5 - (lg_sl ([.int p1, .int p2])).length) Slot.unset).toArray = ls at hl ⊢
  have hl : lv_has ls 5 [(0, .int p1), (1, .int p2)] := hl
  unfold wp_x_joinOfTree at h
  refine lv_iconst (v := 0) hx hb dX7_joinOfTree_0 (by decide) ?_
  refine lv_istore_n (lv' := [(2, .int 0), (0, .int p1), (1, .int p2)]) hx hb dX7_joinOfTree_1 rfl hl (by decide) rfl (fun ls hl => ?_)
  refine lv_iconst (v := 1) hx hb dX7_joinOfTree_2 (by decide) ?_
  refine lv_istore_n (lv' := [(3, .int 1), (2, .int 0), (0, .int p1), (1, .int p2)]) hx hb dX7_joinOfTree_3 rfl hl (by decide) rfl (fun ls hl => ?_)
  have P4 : ∀ (n : Nat) (v1 : Int32 × Int32) (ls : Array Slot), lv_has ls 5 [(0, .int p1), (1, .int p2), (2, .int v1.1), (3, .int v1.2)] → hk_lp (wb_x_joinOfTree_4 p1 p2 post) n v1 → W p l e (headSpec (hk_ws yX7_joinOfTree cX7_joinOfTree 5 (some .int)) (hk_rm 0 0)).room s m ([.int p1, .int p2] : List Value).toArray below meth c s.heap [] 0 0 (MQ below (vp_Si post) ([.int p1, .int p2] : List Value).toArray s 0 0 (fun _ => False)) (F0 m 4 ls []) := by
    intro n
    induction n with
    | zero => intro v1 ls hl h; exact False.elim h
    | succ n ih4 =>
      intro v1 ls hl h
      have h : wb_x_joinOfTree_4 p1 p2 post (hk_lp (wb_x_joinOfTree_4 p1 p2 post) n) v1 := h
      generalize hk_lp (wb_x_joinOfTree_4 p1 p2 post) n = K4 at h ih4
      unfold wb_x_joinOfTree_4 at h
      refine lv_iload_n hx hb dX7_joinOfTree_4 rfl (lv_at hl 3 rfl) ?_
      refine lv_iload_n hx hb dX7_joinOfTree_5 rfl (lv_at hl 0 rfl) ?_
      refine lv_icmp_ge (tgt := 57) hx hb dX7_joinOfTree_6 (by decide) (fun c2 => ?_) (fun c2 => ?_)
      · have h := h.1 c2
        refine lv_iconst (v := (-1)) hx hb dX7_joinOfTree_57 (by decide) ?_
        exact W.iret (v := (-1)) hx hb hr (fun t ht hW => ⟨_, rfl, h, ht⟩) (fun _ hq => by cases hq) dX7_joinOfTree_58
      · have h := h.2 c2
        refine lv_iconst (v := 0) hx hb dX7_joinOfTree_9 (by decide) ?_
        refine lv_istore (lv' := [(4, .int 0), (0, .int p1), (1, .int p2), (2, .int v1.1), (3, .int v1.2)]) hx hb dX7_joinOfTree_10 hl (by decide) rfl (fun ls hl => ?_)
        have P12 : ∀ (n : Nat) (v3 : Int32 × Int32) (ls : Array Slot), lv_has ls 5 [(0, .int p1), (1, .int p2), (2, .int v3.1), (3, .int v1.2), (4, .int v3.2)] → hk_lp (wb_x_joinOfTree_12 p1 p2 post v1 K4) n v3 → W p l e (headSpec (hk_ws yX7_joinOfTree cX7_joinOfTree 5 (some .int)) (hk_rm 0 0)).room s m ([.int p1, .int p2] : List Value).toArray below meth c s.heap [] 0 0 (MQ below (vp_Si post) ([.int p1, .int p2] : List Value).toArray s 0 0 (fun _ => False)) (F0 m 12 ls []) := by
          intro n
          induction n with
          | zero => intro v3 ls hl h; exact False.elim h
          | succ n ih12 =>
            intro v3 ls hl h
            have h : wb_x_joinOfTree_12 p1 p2 post v1 K4 (hk_lp (wb_x_joinOfTree_12 p1 p2 post v1 K4) n) v3 := h
            generalize hk_lp (wb_x_joinOfTree_12 p1 p2 post v1 K4) n = K12 at h ih12
            unfold wb_x_joinOfTree_12 at h
            refine lv_iload hx hb dX7_joinOfTree_12 (lv_at hl 4 rfl) ?_
            refine lv_iload_n hx hb dX7_joinOfTree_14 rfl (lv_at hl 3 rfl) ?_
            refine lv_iadd hx hb dX7_joinOfTree_15 ?_
            refine lv_iload_n hx hb dX7_joinOfTree_16 rfl (lv_at hl 0 rfl) ?_
            refine lv_icmp_ge (tgt := 50) hx hb dX7_joinOfTree_17 (by decide) (fun c4 => ?_) (fun c4 => ?_)
            · have h := h.1 c4
              refine lv_iload_n hx hb dX7_joinOfTree_50 rfl (lv_at hl 3 rfl) ?_
              refine lv_iload_n hx hb dX7_joinOfTree_51 rfl (lv_at hl 3 rfl) ?_
              refine lv_iadd hx hb dX7_joinOfTree_52 ?_
              refine lv_topi (fun x5 ex5 => ?_)
              have h := h x5 ex5
              refine lv_istore_n (lv' := [(3, .int x5), (0, .int p1), (1, .int p2), (2, .int v3.1), (4, .int v3.2)]) hx hb dX7_joinOfTree_53 rfl hl (by decide) rfl (fun ls hl => ?_)
              refine lv_goto (tgt := 4) hx hb dX7_joinOfTree_54 (by decide) ?_
              exact ih4 (v3.1, x5) ls (lv_sub hl [1, 2, 3, 0] rfl) h
            · have h := h.2 c4
              refine lv_iload_n hx hb dX7_joinOfTree_20 rfl (lv_at hl 2 rfl) ?_
              refine lv_iload_n hx hb dX7_joinOfTree_21 rfl (lv_at hl 1 rfl) ?_
              refine lv_icmp_ne (tgt := 36) hx hb dX7_joinOfTree_22 (by decide) (fun c6 => ?_) (fun c6 => ?_)
              · have h := h.1 c6
                obtain ⟨x7, ex7⟩ : ∃ y : Int32, y = v3.1 + 1 := ⟨_, rfl⟩
                have h := h x7 ex7
                refine lv_iinc (v := x7) (lv' := [(2, .int x7), (0, .int p1), (1, .int p2), (3, .int v1.2), (4, .int v3.2)]) hx hb dX7_joinOfTree_36 hl (k := 2) rfl (by rw [ex7]; rfl) (by decide) rfl (fun ls hl => ?_)
                refine lv_iload hx hb dX7_joinOfTree_39 (lv_at hl 4 rfl) ?_
                refine lv_iconst (v := 2) hx hb dX7_joinOfTree_41 (by decide) ?_
                refine lv_iload_n hx hb dX7_joinOfTree_42 rfl (lv_at hl 3 rfl) ?_
                refine lv_imul hx hb dX7_joinOfTree_43 ?_
                refine lv_iadd hx hb dX7_joinOfTree_44 ?_
                refine lv_topi (fun x8 ex8 => ?_)
                have h := h x8 ex8
                refine lv_istore (lv' := [(4, .int x8), (2, .int x7), (0, .int p1), (1, .int p2), (3, .int v1.2)]) hx hb dX7_joinOfTree_45 hl (by decide) rfl (fun ls hl => ?_)
                refine lv_goto (tgt := 12) hx hb dX7_joinOfTree_47 (by decide) ?_
                exact ih12 (x7, x8) ls (lv_sub hl [2, 3, 1, 4, 0] rfl) h
              · have h := h.2 c6
                refine lv_bipush (v := 8) hx hb dX7_joinOfTree_25 (by decide) ?_
                refine lv_iload hx hb dX7_joinOfTree_27 (lv_at hl 4 rfl) ?_
                refine lv_imul hx hb dX7_joinOfTree_29 ?_
                refine lv_iload hx hb dX7_joinOfTree_30 (lv_at hl 4 rfl) ?_
                refine lv_iadd hx hb dX7_joinOfTree_32 ?_
                refine lv_iload_n hx hb dX7_joinOfTree_33 rfl (lv_at hl 3 rfl) ?_
                refine lv_iadd hx hb dX7_joinOfTree_34 ?_
                exact W.iret (v := ((8 * v3.2) + v3.2) + v1.2) hx hb hr (fun t ht hW => ⟨_, rfl, h, ht⟩) (fun _ hq => by cases hq) dX7_joinOfTree_35
        obtain ⟨n, h⟩ := h
        exact P12 n (v1.1, 0) ls (lv_sub hl [1, 2, 3, 4, 0] rfl) h
  obtain ⟨n, h⟩ := h
  exact P4 n (0, 1) ls (lv_sub hl [2, 3, 1, 0] rfl) h
