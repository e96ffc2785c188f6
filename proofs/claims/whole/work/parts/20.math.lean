def wp_Math_floorMod_7cf53 (p1 : Int32) (p2 : Int32)  (post : Int32 → Prop) : Prop := ¬ p2 = 0 ∧ (∀ x1 : Int32, x1 = p1 - p1 / p2 * p2 → (0 ≤ (p1 ^^^ p2) → post x1) ∧ (¬ 0 ≤ (p1 ^^^ p2) → (x1 = 0 → post x1) ∧ (¬ x1 = 0 → post (x1 + p2))))
theorem mm_Math_floorMod_7cf53 : hk_MS yJ9_floorMod_7cf53 cJ9_floorMod_7cf53 3 (some .int) 2 := ⟨hw_647, hw_646, hw_88, by decide +kernel⟩
set_option maxRecDepth 100000 in
set_option maxHeartbeats 4000000 in
theorem c_Math_floorMod_7cf53 (l : Launch) (D : va_G) (cI cJ cZ cM : ClassId)    (p1 : Int32) (p2 : Int32) (post : Int32 → Prop) (h : wp_Math_floorMod_7cf53 p1 p2 post) : Met l yJ9_floorMod_7cf53 (hk_ws yJ9_floorMod_7cf53 cJ9_floorMod_7cf53 3 (some .int)) (hk_rm 0 0) (va_Pc [.int p1, .int p2] (hk_PR D (hk_ty cI cJ cZ cM) (([] : va_W)))) (vp_Si post) 0 0 (fun _ => False) := by
  refine va_MetF (cc := cJ9_floorMod_7cf53) (maxL := 3) (ret := (some .int)) (by decide +kernel) rfl ?_
  intro p e s m args below meth c s₁ B hml hv
  obtain ⟨rfl, hP, hK, hN⟩ := hv
  have hx := B.exec
  have hb := B.bytes
  have hr := B.returns
  have hts := atoms_spec (ws := hk_ws yJ9_floorMod_7cf53 cJ9_floorMod_7cf53 3 (some .int)) B.pre
  have hta : ∀ w ∈ hk_all, w.before ([.int p1, .int p2] : List Value).toArray s = true := fun w hw => hts w (List.mem_cons_of_mem _ hw)
  have hown : s.vm.findClass RJ9 = some m.cls := findClass_of_methodNamed B.named
  have hlocks := B.notSynchronized
  have S0 : CallFix p m c cJ9_floorMod_7cf53 3 s ([.int p1, .int p2] : List Value).toArray hk_all RJ9 := ⟨hx, hb, hml, hown, hta⟩
  have hl := lv_entry ([.int p1, .int p2]) (n := 3) (Nat.le_of_ble_eq_true rfl)
  rw [lg_entry_eq]
  generalize (lg_sl ([.int p1, .int p2]) ++ List.replicate (3 - (lg_sl ([.int p1, .int p2])).length) Slot.unset).toArray = ls at hl ⊢
  have hl : lv_has ls 3 [(0, .int p1), (1, .int p2)] := hl
  unfold wp_Math_floorMod_7cf53 at h
  refine lv_iload_n hx hb dJ9_floorMod_7cf53_0 rfl (lv_at hl 0 rfl) ?_
  refine lv_iload_n hx hb dJ9_floorMod_7cf53_1 rfl (lv_at hl 1 rfl) ?_
  refine lv_irem hx hb dJ9_floorMod_7cf53_2 h.1 ?_
  have h := h.2
  refine lv_topi (fun x1 ex1 => ?_)
  have h := h x1 ex1
  refine lv_istore_n (lv' := [(2, .int x1), (0, .int p1), (1, .int p2)]) hx hb dJ9_floorMod_7cf53_3 rfl hl (by decide) rfl (fun ls hl => ?_)
  refine lv_iload_n hx hb dJ9_floorMod_7cf53_4 rfl (lv_at hl 1 rfl) ?_
  refine lv_iload_n hx hb dJ9_floorMod_7cf53_5 rfl (lv_at hl 2 rfl) ?_
  refine lv_ixor hx hb dJ9_floorMod_7cf53_6 ?_
  refine lv_if_ge (tgt := 18) hx hb dJ9_floorMod_7cf53_7 (by decide) (fun c2 => ?_) (fun c2 => ?_)
  · have h := h.1 c2
    refine lv_iload_n hx hb dJ9_floorMod_7cf53_18 rfl (lv_at hl 0 rfl) ?_
    exact W.iret (v := x1) hx hb hr (fun t ht hW => ⟨_, rfl, h, ht⟩) (fun _ hq => by cases hq) dJ9_floorMod_7cf53_19
  · have h := h.2 c2
    refine lv_iload_n hx hb dJ9_floorMod_7cf53_10 rfl (lv_at hl 0 rfl) ?_
    refine lv_if_eq (tgt := 18) hx hb dJ9_floorMod_7cf53_11 (by decide) (fun c3 => ?_) (fun c3 => ?_)
    · have h := h.1 c3
      refine lv_iload_n hx hb dJ9_floorMod_7cf53_18 rfl (lv_at hl 0 rfl) ?_
      exact W.iret (v := x1) hx hb hr (fun t ht hW => ⟨_, rfl, h, ht⟩) (fun _ hq => by cases hq) dJ9_floorMod_7cf53_19
    · have h := h.2 c3
      refine lv_iload_n hx hb dJ9_floorMod_7cf53_14 rfl (lv_at hl 0 rfl) ?_
      refine lv_iload_n hx hb dJ9_floorMod_7cf53_15 rfl (lv_at hl 2 rfl) ?_
      refine lv_iadd hx hb dJ9_floorMod_7cf53_16 ?_
      exact W.iret (v := x1 + p2) hx hb hr (fun t ht hW => ⟨_, rfl, h, ht⟩) (fun _ hq => by cases hq) dJ9_floorMod_7cf53_17
