theorem hk_ext_i {D : va_G} {q n : Nat} {cA : ClassId} {g g2 : Nat → Int32} {H : Heap} (h : va_P D vwCl [(q, .inl (cA, n, .inl g))] H) (e : ∀ j, j < n → g j = g2 j) : va_P D vwCl [(q, .inl (cA, n, .inl g2))] H := by
  have h0 : H[q]? = some (vp_cell cA (n, .inl g)) := h 0 _ rfl
  have hf : (fun j : Fin n => Value.int (g j.val)) = fun j : Fin n => Value.int (g2 j.val) := funext fun j => by rw [e j.val j.isLt]
  have hc : vp_cell cA (n, .inl g) = vp_cell cA (n, .inl g2) := by
    rw [vp_cell_i, vp_cell_i]
    simp only [arrV, hf]
  intro k x hk
  match k, hk with
  | 0, hk => cases hk; show H[q]? = some (vp_cell cA (n, .inl g2)); rw [h0, hc]
  | k + 1, hk => simp at hk
theorem hk_ext_l {D : va_G} {q n : Nat} {cA : ClassId} {g g2 : Nat → Int64} {H : Heap} (h : va_P D vwCl [(q, .inl (cA, n, .inr (.inl g)))] H) (e : ∀ j, j < n → g j = g2 j) : va_P D vwCl [(q, .inl (cA, n, .inr (.inl g2)))] H := by
  have h0 : H[q]? = some (vp_cell cA (n, .inr (.inl g))) := h 0 _ rfl
  have hf : (fun j : Fin n => Value.long (g j.val)) = fun j : Fin n => Value.long (g2 j.val) := funext fun j => by rw [e j.val j.isLt]
  have hc : vp_cell cA (n, .inr (.inl g)) = vp_cell cA (n, .inr (.inl g2)) := by
    rw [vp_cell_l, vp_cell_l]
    simp only [arrV, hf]
  intro k x hk
  match k, hk with
  | 0, hk => cases hk; show H[q]? = some (vp_cell cA (n, .inr (.inl g2))); rw [h0, hc]
  | k + 1, hk => simp at hk
theorem hk_dif {A : Nat → Prop} {q : Nat} {e1 e2 : va_E} (h : va_D A [(q, e1)]) : va_D A [(q, e2)] := h.set (p := 0) (a := q) (e0 := e1) (e := e2) rfl
def hk_fillr (f : Nat → Int64) (a b : Nat) (v : Int64) : Nat → Int64 := fun j => if a ≤ j ∧ j < b then v else f j
theorem mm_Arrays_rc : hk_MS yJ7_rangeCheck_23922 cJ7_rangeCheck_23922 3 none 3 := ⟨hw_624, hw_623, hw_86, by decide +kernel⟩
set_option maxRecDepth 100000 in
set_option maxHeartbeats 4000000 in
theorem c_Arrays_rc (l : Launch) (D : va_G) (ty : List (ClassId × FieldType)) (n a b : Int32) (h1 : ¬ b < a) (h2 : ¬ a < 0) (h3 : b ≤ n) : Met l yJ7_rangeCheck_23922 (hk_ws yJ7_rangeCheck_23922 cJ7_rangeCheck_23922 3 none) (hk_rm 0 0) (va_Pc [.int n, .int a, .int b] (hk_PR D ty [])) (va_Sv (fun _ => True)) 0 0 (fun _ => False) := by
  refine va_MetF (cc := cJ7_rangeCheck_23922) (maxL := 3) (ret := none) (by decide) rfl ?_
  intro p e s m args below meth c s₁ B hml hv
  obtain ⟨rfl, hP, hK, hN⟩ := hv
  have hx := B.exec
  have hb := B.bytes
  have hr := B.returns
  have hlocks := B.notSynchronized
  have hl := lv_entry ([.int n, .int a, .int b]) (n := 3) (Nat.le_of_ble_eq_true rfl)
  rw [lg_entry_eq]
  generalize (lg_sl ([.int n, .int a, .int b]) ++ List.replicate (3 - (lg_sl ([.int n, .int a, .int b])).length) Slot.unset).toArray = ls at hl ⊢
  have hl : lv_has ls 3 [(0, .int n), (1, .int a), (2, .int b)] := hl
  refine lv_iload_n hx hb dJ7_rangeCheck_23922_0 rfl (lv_at hl 1 rfl) ?_
  refine lv_iload_n hx hb dJ7_rangeCheck_23922_1 rfl (lv_at hl 2 rfl) ?_
  refine lv_icmp_le (tgt := 46) hx hb dJ7_rangeCheck_23922_2 (by decide) (fun _ => ?_) (fun q => absurd (Int32.not_lt.mp h1) q)
  refine lv_iload_n hx hb dJ7_rangeCheck_23922_46 rfl (lv_at hl 1 rfl) ?_
  refine lv_if_ge (tgt := 59) hx hb dJ7_rangeCheck_23922_47 (by decide) (fun _ => ?_) (fun q => absurd (Int32.not_lt.mp h2) q)
  refine lv_iload_n hx hb dJ7_rangeCheck_23922_59 rfl (lv_at hl 2 rfl) ?_
  refine lv_iload_n hx hb dJ7_rangeCheck_23922_60 rfl (lv_at hl 0 rfl) ?_
  refine lv_icmp_le (tgt := 73) hx hb dJ7_rangeCheck_23922_61 (by decide) (fun _ => ?_) (fun q => absurd h3 q)
  exact W.vret hx hb hr (fun t ht hW => ⟨rfl, trivial, ht⟩) (fun _ hq => by cases hq) dJ7_rangeCheck_23922_73
theorem mm_Arrays_fill_i : hk_MS yJ7_fill_53178 cJ7_fill_53178 4 none 2 := ⟨hw_256, hw_255, hw_86, by decide +kernel⟩
set_option maxRecDepth 100000 in
set_option maxHeartbeats 4000000 in
theorem c_Arrays_fill_i (l : Launch) (D : va_G) (cI cJ cZ cM : ClassId) (q n sz : Nat) (f : Nat → Int32) (v : Int32) (hn : n < 2 ^ 31) : Met l yJ7_fill_53178 (hk_ws yJ7_fill_53178 cJ7_fill_53178 4 none) (hk_rm 0 0) (va_Pc [.ref q, .int v] (hk_PM D (hk_ty cI cJ cZ cM) sz [(q, .inl (cI, n, .inl f))])) (va_Qv (fun (g : Nat → Int32) => g = fun _ => v) (hk_B D (va_A [(q, .inl (cI, n, .inl f))] sz) (fun (g : Nat → Int32) => [(q, .inl (cI, n, .inl g))])) (va_A [(q, .inl (cI, n, .inl f))] sz)) 0 0 (va_A [(q, .inl (cI, n, .inl f))] sz) := by
  refine va_MetF (cc := cJ7_fill_53178) (maxL := 4) (ret := none) (by decide) rfl ?_
  intro p e s m args below meth c s₁ B hml hv
  obtain ⟨rfl, hsz, hP, hK, hD0, hN⟩ := hv
  have hx := B.exec
  have hb := B.bytes
  have hr := B.returns
  have hts := atoms_spec (ws := hk_ws yJ7_fill_53178 cJ7_fill_53178 4 none) B.pre
  have hta : ∀ w ∈ hk_all, w.before ([.ref q, .int v] : List Value).toArray s = true := fun w hw => hts w (List.mem_cons_of_mem _ hw)
  have hown : s.vm.findClass RJ7 = some m.cls := findClass_of_methodNamed B.named
  have hlocks := B.notSynchronized
  have S0 : CallFix p m c cJ7_fill_53178 4 s ([.ref q, .int v] : List Value).toArray hk_all RJ7 := ⟨hx, hb, hml, hown, hta⟩
  subst hsz
  have hD := hD0.self (sz := s.heap.size)
  generalize hAe : va_A [(q, .inl (cI, n, .inl f))] s.heap.size = A at hD ⊢
  have hA : ∀ q : Nat, s.heap.size ≤ q → A q := fun q h => by rw [← hAe]; exact Or.inr h
  have hS : va_S A s.heap s.heap [] := va_S.rf
  have hl := lv_entry ([.ref q, .int v]) (n := 4) (Nat.le_of_ble_eq_true rfl)
  rw [lg_entry_eq]
  generalize (lg_sl ([.ref q, .int v]) ++ List.replicate (4 - (lg_sl ([.ref q, .int v])).length) Slot.unset).toArray = ls at hl ⊢
  have hl : lv_has ls 4 [(0, .ref q), (1, .int v)] := hl
  have P : ∀ (d k : Nat) (g : Nat → Int32) (H : Heap) (locs : List Loc) (ls : Array Slot), k + d = n → (∀ j, j < k → g j = v) → va_P D vwCl [(q, .inl (cI, n, .inl g))] H → va_D A [(q, .inl (cI, n, .inl g))] → va_S A s.heap H locs → lv_has ls 4 [(0, .ref q), (1, .int v), (2, .int (nI k)), (3, .int (nI n))] → W p l e (headSpec (hk_ws yJ7_fill_53178 cJ7_fill_53178 4 none) (hk_rm 0 0)).room s m ([.ref q, .int v] : List Value).toArray below meth c H locs 0 0 (MQ below (va_Qv (fun (g : Nat → Int32) => g = fun _ => v) (hk_B D (A) (fun (g : Nat → Int32) => [(q, .inl (cI, n, .inl g))])) (A)) ([.ref q, .int v] : List Value).toArray s 0 0 A) (F0 m 5 ls []) := by
    intro d
    induction d with
    | zero =>
      intro k g H locs ls hk hg hP hD hS hl
      refine lv_iload_n hx hb dJ7_fill_53178_5 rfl (lv_at hl 2 rfl) ?_
      refine lv_iload_n hx hb dJ7_fill_53178_6 rfl (lv_at hl 3 rfl) ?_
      refine lv_icmp_ge (tgt := 20) hx hb dJ7_fill_53178_7 (by decide) (fun _ => ?_) (fun z => absurd (nI_le (by omega) (by omega)) z)
      exact W.vret hx hb hr (fun t ht hW => ⟨⟨fun _ => v, rfl, rfl, by rw [ht]; exact hk_ext_i hP (fun j hj => hg j (by omega)), hk_dif hD⟩, hS.F ht⟩) hS.2.2 dJ7_fill_53178_20
    | succ d ih =>
      intro k g H locs ls hk hg hP hD hS hl
      refine lv_iload_n hx hb dJ7_fill_53178_5 rfl (lv_at hl 2 rfl) ?_
      refine lv_iload_n hx hb dJ7_fill_53178_6 rfl (lv_at hl 3 rfl) ?_
      refine lv_icmp_ge (tgt := 20) hx hb dJ7_fill_53178_7 (by decide) (fun z => absurd z (nI_ge (by omega) hn)) (fun _ => ?_)
      refine lv_aload_n hx hb dJ7_fill_53178_10 rfl (lv_at hl 0 rfl) ?_
      refine lv_iload_n hx hb dJ7_fill_53178_11 rfl (lv_at hl 2 rfl) ?_
      refine lv_iload_n hx hb dJ7_fill_53178_12 rfl (lv_at hl 1 rfl) ?_
      refine va_iast hx hb hK hP hD hS 0 0 rfl rfl (vp_in_nI (by omega) hn) dJ7_fill_53178_13 (fun H locs hP hD hS => ?_)
      rw [nI_clamp (show k < 2 ^ 31 by omega)] at hP hD
      refine lv_iinc (v := nI (k + 1)) (lv' := [(2, .int (nI (k + 1))), (0, .ref q), (1, .int v), (3, .int (nI n))]) hx hb dJ7_fill_53178_14 hl (k := 2) rfl (nI_1 k) (by decide) rfl (fun ls hl => ?_)
      refine lv_goto (tgt := 5) hx hb dJ7_fill_53178_17 (by decide) ?_
      refine ih (k + 1) _ H locs ls (by omega) ?_ hP hD hS (lv_sub hl [1, 2, 0, 3] rfl)
      intro j hj
      by_cases hjk : j = k
      · subst hjk; exact pk_us
      · rw [pk_un hjk]; exact hg j (by omega)
  refine lv_iconst (v := 0) hx hb dJ7_fill_53178_0 (by decide) ?_
  refine lv_istore_n (lv' := [(2, .int 0), (0, .ref q), (1, .int v)]) hx hb dJ7_fill_53178_1 rfl hl (by decide) rfl (fun ls hl => ?_)
  refine lv_aload_n hx hb dJ7_fill_53178_2 rfl (lv_at hl 1 rfl) ?_
  refine va_alen (v := nI n) hx hb hK hP 0 0 rfl rfl rfl dJ7_fill_53178_3 ?_
  refine lv_istore_n (lv' := [(3, .int (nI n)), (2, .int 0), (0, .ref q), (1, .int v)]) hx hb dJ7_fill_53178_4 rfl hl (by decide) rfl (fun ls hl => ?_)
  exact P n 0 f s.heap [] ls (by omega) (fun j hj => absurd hj (Nat.not_lt_zero j)) hP hD hS (lv_sub hl [2, 3, 1, 0] rfl)
theorem mm_Arrays_fill_l : hk_MS yJ7_fill_d0a16 cJ7_fill_d0a16 5 none 2 := ⟨hw_260, hw_259, hw_86, by decide +kernel⟩
set_option maxRecDepth 100000 in
set_option maxHeartbeats 4000000 in
theorem c_Arrays_fill_l (l : Launch) (D : va_G) (cI cJ cZ cM : ClassId) (q n sz : Nat) (f : Nat → Int64) (v : Int64) (hn : n < 2 ^ 31) : Met l yJ7_fill_d0a16 (hk_ws yJ7_fill_d0a16 cJ7_fill_d0a16 5 none) (hk_rm 0 0) (va_Pc [.ref q, .long v] (hk_PM D (hk_ty cI cJ cZ cM) sz [(q, .inl (cJ, n, .inr (.inl f)))])) (va_Qv (fun (g : Nat → Int64) => g = fun _ => v) (hk_B D (va_A [(q, .inl (cJ, n, .inr (.inl f)))] sz) (fun (g : Nat → Int64) => [(q, .inl (cJ, n, .inr (.inl g)))])) (va_A [(q, .inl (cJ, n, .inr (.inl f)))] sz)) 0 0 (va_A [(q, .inl (cJ, n, .inr (.inl f)))] sz) := by
  refine va_MetF (cc := cJ7_fill_d0a16) (maxL := 5) (ret := none) (by decide) rfl ?_
  intro p e s m args below meth c s₁ B hml hv
  obtain ⟨rfl, hsz, hP, hK, hD0, hN⟩ := hv
  have hx := B.exec
  have hb := B.bytes
  have hr := B.returns
  have hts := atoms_spec (ws := hk_ws yJ7_fill_d0a16 cJ7_fill_d0a16 5 none) B.pre
  have hta : ∀ w ∈ hk_all, w.before ([.ref q, .long v] : List Value).toArray s = true := fun w hw => hts w (List.mem_cons_of_mem _ hw)
  have hown : s.vm.findClass RJ7 = some m.cls := findClass_of_methodNamed B.named
  have hlocks := B.notSynchronized
  have S0 : CallFix p m c cJ7_fill_d0a16 5 s ([.ref q, .long v] : List Value).toArray hk_all RJ7 := ⟨hx, hb, hml, hown, hta⟩
  subst hsz
  have hD := hD0.self (sz := s.heap.size)
  generalize hAe : va_A [(q, .inl (cJ, n, .inr (.inl f)))] s.heap.size = A at hD ⊢
  have hA : ∀ q : Nat, s.heap.size ≤ q → A q := fun q h => by rw [← hAe]; exact Or.inr h
  have hS : va_S A s.heap s.heap [] := va_S.rf
  have hl := lv_entry ([.ref q, .long v]) (n := 5) (Nat.le_of_ble_eq_true rfl)
  rw [lg_entry_eq]
  generalize (lg_sl ([.ref q, .long v]) ++ List.replicate (5 - (lg_sl ([.ref q, .long v])).length) Slot.unset).toArray = ls at hl ⊢
  have hl : lv_has ls 5 [(0, .ref q), (1, .long v)] := hl
  have P : ∀ (d k : Nat) (g : Nat → Int64) (H : Heap) (locs : List Loc) (ls : Array Slot), k + d = n → (∀ j, j < k → g j = v) → va_P D vwCl [(q, .inl (cJ, n, .inr (.inl g)))] H → va_D A [(q, .inl (cJ, n, .inr (.inl g)))] → va_S A s.heap H locs → lv_has ls 5 [(0, .ref q), (1, .long v), (3, .int (nI k)), (4, .int (nI n))] → W p l e (headSpec (hk_ws yJ7_fill_d0a16 cJ7_fill_d0a16 5 none) (hk_rm 0 0)).room s m ([.ref q, .long v] : List Value).toArray below meth c H locs 0 0 (MQ below (va_Qv (fun (g : Nat → Int64) => g = fun _ => v) (hk_B D (A) (fun (g : Nat → Int64) => [(q, .inl (cJ, n, .inr (.inl g)))])) (A)) ([.ref q, .long v] : List Value).toArray s 0 0 A) (F0 m 6 ls []) := by
    intro d
    induction d with
    | zero =>
      intro k g H locs ls hk hg hP hD hS hl
      refine lv_iload_n hx hb dJ7_fill_d0a16_6 rfl (lv_at hl 2 rfl) ?_
      refine lv_iload hx hb dJ7_fill_d0a16_7 (lv_at hl 3 rfl) ?_
      refine lv_icmp_ge (tgt := 22) hx hb dJ7_fill_d0a16_9 (by decide) (fun _ => ?_) (fun z => absurd (nI_le (by omega) (by omega)) z)
      exact W.vret hx hb hr (fun t ht hW => ⟨⟨fun _ => v, rfl, rfl, by rw [ht]; exact hk_ext_l hP (fun j hj => hg j (by omega)), hk_dif hD⟩, hS.F ht⟩) hS.2.2 dJ7_fill_d0a16_22
    | succ d ih =>
      intro k g H locs ls hk hg hP hD hS hl
      refine lv_iload_n hx hb dJ7_fill_d0a16_6 rfl (lv_at hl 2 rfl) ?_
      refine lv_iload hx hb dJ7_fill_d0a16_7 (lv_at hl 3 rfl) ?_
      refine lv_icmp_ge (tgt := 22) hx hb dJ7_fill_d0a16_9 (by decide) (fun z => absurd z (nI_ge (by omega) hn)) (fun _ => ?_)
      refine lv_aload_n hx hb dJ7_fill_d0a16_12 rfl (lv_at hl 0 rfl) ?_
      refine lv_iload_n hx hb dJ7_fill_d0a16_13 rfl (lv_at hl 2 rfl) ?_
      refine lv_lload_n hx hb dJ7_fill_d0a16_14 rfl (lv_at hl 1 rfl) ?_
      refine va_last hx hb hK hP hD hS 0 1 rfl rfl (vp_in_nI (by omega) hn) dJ7_fill_d0a16_15 (fun H locs hP hD hS => ?_)
      rw [nI_clamp (show k < 2 ^ 31 by omega)] at hP hD
      refine lv_iinc (v := nI (k + 1)) (lv' := [(3, .int (nI (k + 1))), (0, .ref q), (1, .long v), (4, .int (nI n))]) hx hb dJ7_fill_d0a16_16 hl (k := 2) rfl (nI_1 k) (by decide) rfl (fun ls hl => ?_)
      refine lv_goto (tgt := 6) hx hb dJ7_fill_d0a16_19 (by decide) ?_
      refine ih (k + 1) _ H locs ls (by omega) ?_ hP hD hS (lv_sub hl [1, 2, 0, 3] rfl)
      intro j hj
      by_cases hjk : j = k
      · subst hjk; exact pk_uLs
      · rw [pk_uLn hjk]; exact hg j (by omega)
  refine lv_iconst (v := 0) hx hb dJ7_fill_d0a16_0 (by decide) ?_
  refine lv_istore_n (lv' := [(3, .int 0), (0, .ref q), (1, .long v)]) hx hb dJ7_fill_d0a16_1 rfl hl (by decide) rfl (fun ls hl => ?_)
  refine lv_aload_n hx hb dJ7_fill_d0a16_2 rfl (lv_at hl 1 rfl) ?_
  refine va_alen (v := nI n) hx hb hK hP 0 1 rfl rfl rfl dJ7_fill_d0a16_3 ?_
  refine lv_istore (lv' := [(4, .int (nI n)), (3, .int 0), (0, .ref q), (1, .long v)]) hx hb dJ7_fill_d0a16_4 hl (by decide) rfl (fun ls hl => ?_)
  exact P n 0 f s.heap [] ls (by omega) (fun j hj => absurd hj (Nat.not_lt_zero j)) hP hD hS (lv_sub hl [2, 3, 1, 0] rfl)
theorem mm_Arrays_fill_r : hk_MS yJ7_fill_bad5a cJ7_fill_bad5a 6 none 4 := ⟨hw_621, hw_620, hw_86, by decide +kernel⟩
set_option maxRecDepth 100000 in
set_option maxHeartbeats 4000000 in
theorem c_Arrays_fill_r (l : Launch) (D : va_G) (cI cJ cZ cM : ClassId) (q n sz : Nat) (f : Nat → Int64) (a b : Int32) (v : Int64) (hn : n < 2 ^ 31) (h1 : ¬ b < a) (h2 : ¬ a < 0) (h3 : b.toNatClampNeg ≤ n) : Met l yJ7_fill_bad5a (hk_ws yJ7_fill_bad5a cJ7_fill_bad5a 6 none) (hk_rm 1 22) (va_Pc [.ref q, .int a, .int b, .long v] (hk_PM D (hk_ty cI cJ cZ cM) sz [(q, .inl (cJ, n, .inr (.inl f)))])) (va_Qv (fun (g : Nat → Int64) => g = hk_fillr f a.toNatClampNeg b.toNatClampNeg v) (hk_B D (va_A [(q, .inl (cJ, n, .inr (.inl f)))] sz) (fun (g : Nat → Int64) => [(q, .inl (cJ, n, .inr (.inl g)))])) (va_A [(q, .inl (cJ, n, .inr (.inl f)))] sz)) 0 0 (va_A [(q, .inl (cJ, n, .inr (.inl f)))] sz) := by
  refine va_MetF (cc := cJ7_fill_bad5a) (maxL := 6) (ret := none) (by decide) rfl ?_
  intro p e s m args below meth c s₁ B hml hv
  obtain ⟨rfl, hsz, hP, hK, hD0, hN⟩ := hv
  have hx := B.exec
  have hb := B.bytes
  have hr := B.returns
  have hts := atoms_spec (ws := hk_ws yJ7_fill_bad5a cJ7_fill_bad5a 6 none) B.pre
  have hta : ∀ w ∈ hk_all, w.before ([.ref q, .int a, .int b, .long v] : List Value).toArray s = true := fun w hw => hts w (List.mem_cons_of_mem _ hw)
  have hown : s.vm.findClass RJ7 = some m.cls := findClass_of_methodNamed B.named
  have hlocks := B.notSynchronized
  have S0 : CallFix p m c cJ7_fill_bad5a 6 s ([.ref q, .int a, .int b, .long v] : List Value).toArray hk_all RJ7 := ⟨hx, hb, hml, hown, hta⟩
  subst hsz
  have hD := hD0.self (sz := s.heap.size)
  generalize hAe : va_A [(q, .inl (cJ, n, .inr (.inl f)))] s.heap.size = A at hD ⊢
  have hA : ∀ q : Nat, s.heap.size ≤ q → A q := fun q h => by rw [← hAe]; exact Or.inr h
  have hS : va_S A s.heap s.heap [] := va_S.rf
  have hl := lv_entry ([.ref q, .int a, .int b, .long v]) (n := 6) (Nat.le_of_ble_eq_true rfl)
  rw [lg_entry_eq]
  generalize (lg_sl ([.ref q, .int a, .int b, .long v]) ++ List.replicate (6 - (lg_sl ([.ref q, .int a, .int b, .long v])).length) Slot.unset).toArray = ls at hl ⊢
  have hl : lv_has ls 6 [(0, .ref q), (1, .int a), (2, .int b), (3, .long v)] := hl
  obtain ⟨x, hx31, rfl⟩ := nI_of h2
  obtain ⟨z, hz31, rfl⟩ := nI_of (x := b) (fun hh => h1 (by first | exact Int32.lt_of_lt_of_le hh (nI_pos' hx31) | exact Int32.lt_of_lt_of_le hh (nI_pos' (n := x) hx31)))
  have hxz : x ≤ z := by
    rcases Nat.lt_or_ge z x with hq | hq
    · exact absurd ((nI_ltI hz31 hx31).mpr hq) h1
    · exact hq
  simp only [nI_clamp hx31, nI_clamp hz31] at h3 ⊢
  have P : ∀ (d k : Nat) (g : Nat → Int64) (H : Heap) (locs : List Loc) (ls : Array Slot), k + d = z → x ≤ k → (∀ j, j < n → g j = hk_fillr f x k v j) → va_P D vwCl [(q, .inl (cJ, n, .inr (.inl g)))] H → va_D A [(q, .inl (cJ, n, .inr (.inl g)))] → va_S A s.heap H locs → lv_has ls 6 [(0, .ref q), (2, .int (nI z)), (3, .long v), (5, .int (nI k))] → W p l e (headSpec (hk_ws yJ7_fill_bad5a cJ7_fill_bad5a 6 none) (hk_rm 1 22)).room s m ([.ref q, .int (nI x), .int (nI z), .long v] : List Value).toArray below meth c H locs 0 0 (MQ below (va_Qv (fun (g : Nat → Int64) => g = hk_fillr f x z v) (hk_B D A (fun (g : Nat → Int64) => [(q, .inl (cJ, n, .inr (.inl g)))])) A) ([.ref q, .int (nI x), .int (nI z), .long v] : List Value).toArray s 0 0 A) (F0 m 10 ls []) := by
    intro d
    induction d with
    | zero =>
      intro k g H locs ls hk hxk hg hP hD hS hl
      refine lv_iload hx hb dJ7_fill_bad5a_10 (lv_at hl 3 rfl) ?_
      refine lv_iload_n hx hb dJ7_fill_bad5a_12 rfl (lv_at hl 1 rfl) ?_
      refine lv_icmp_ge (tgt := 27) hx hb dJ7_fill_bad5a_13 (by decide) (fun _ => ?_) (fun w => absurd (nI_le (by omega) (by omega)) w)
      have hkz : k = z := by omega
      subst hkz
      exact W.vret hx hb hr (fun t ht hW => ⟨⟨_, rfl, rfl, by rw [ht]; exact hk_ext_l hP hg, hk_dif hD⟩, hS.F ht⟩) hS.2.2 dJ7_fill_bad5a_27
    | succ d ih =>
      intro k g H locs ls hk hxk hg hP hD hS hl
      refine lv_iload hx hb dJ7_fill_bad5a_10 (lv_at hl 3 rfl) ?_
      refine lv_iload_n hx hb dJ7_fill_bad5a_12 rfl (lv_at hl 1 rfl) ?_
      refine lv_icmp_ge (tgt := 27) hx hb dJ7_fill_bad5a_13 (by decide) (fun w => absurd w (nI_ge (by omega) hz31)) (fun _ => ?_)
      refine lv_aload_n hx hb dJ7_fill_bad5a_16 rfl (lv_at hl 0 rfl) ?_
      refine lv_iload hx hb dJ7_fill_bad5a_17 (lv_at hl 3 rfl) ?_
      refine lv_lload_n hx hb dJ7_fill_bad5a_19 rfl (lv_at hl 2 rfl) ?_
      refine va_last hx hb hK hP hD hS 0 1 rfl rfl (vp_in_nI (by omega) hn) dJ7_fill_bad5a_20 (fun H locs hP hD hS => ?_)
      rw [nI_clamp (show k < 2 ^ 31 by omega)] at hP hD
      refine lv_iinc (v := nI (k + 1)) (lv' := [(5, .int (nI (k + 1))), (0, .ref q), (2, .int (nI z)), (3, .long v)]) hx hb dJ7_fill_bad5a_21 hl (k := 3) rfl (nI_1 k) (by decide) rfl (fun ls hl => ?_)
      refine lv_goto (tgt := 10) hx hb dJ7_fill_bad5a_24 (by decide) ?_
      refine ih (k + 1) _ H locs ls (by omega) (by omega) ?_ hP hD hS (lv_sub hl [1, 2, 3, 0] rfl)
      intro j hj
      by_cases hjk : j = k
      · subst hjk; rw [pk_uLs]; simp only [hk_fillr]; rw [if_pos (by omega)]
      · rw [pk_uLn hjk, hg j hj]; simp only [hk_fillr]
        by_cases hc : x ≤ j ∧ j < k
        · rw [if_pos hc, if_pos (by omega)]
        · rw [if_neg hc, if_neg (by omega)]
  refine lv_aload_n hx hb dJ7_fill_bad5a_0 rfl (lv_at hl 0 rfl) ?_
  refine va_alen (v := nI n) hx hb hK hP 0 1 rfl rfl rfl dJ7_fill_bad5a_1 ?_
  refine lv_iload_n hx hb dJ7_fill_bad5a_2 rfl (lv_at hl 1 rfl) ?_
  refine lv_iload_n hx hb dJ7_fill_bad5a_3 rfl (lv_at hl 2 rfl) ?_
  refine va_csv (hk_runS (As := [.int (nI n), .int (nI x), .int (nI z)]) (rest := []) S0 mm_Arrays_rc (c_Arrays_rc l D (hk_ty cI cJ cZ cM) (nI n) (nI x) (nI z) h1 h2 (nI_le h3 hn)) hw_622 hk_blR (hk_atR (hP.sub (ws' := []) [] rfl) hK hN) ⟨rfl, rfl, Nat.le_of_ble_eq_true rfl, Nat.le_of_ble_eq_true rfl⟩ rfl hl.1 rfl (Nat.le_of_ble_eq_true rfl) dJ7_fill_bad5a_4 ⟨Nat.le_of_ble_eq_true rfl, Nat.le_of_ble_eq_true rfl⟩).run (fun _ => ?_)
  refine lv_iload_n hx hb dJ7_fill_bad5a_7 rfl (lv_at hl 1 rfl) ?_
  refine lv_istore (lv' := [(5, .int (nI x)), (0, .ref q), (1, .int (nI x)), (2, .int (nI z)), (3, .long v)]) hx hb dJ7_fill_bad5a_8 hl (by decide) rfl (fun ls hl => ?_)
  refine P (z - x) x f s.heap [] ls (by omega) (Nat.le_refl x) (fun j hj => ?_) hP hD hS (lv_sub hl [1, 3, 4, 0] rfl)
  simp only [hk_fillr]; rw [if_neg (by omega)]
