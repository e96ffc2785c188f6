def wb_ks_joinedState_27 (ks_partCounts : Nat → Int32) (ks_states : Nat → Int64) (ks_latestRows : Nat → Int32) (fo_kinds : Nat → Int32) (p1 : Int32) (p2 : Int32) (post : Int64 → Prop) (K27 : (Int64 × Int32 × Int32) → Prop) (v5 : Int64 × Int32 × Int32) : Prop := vp_in p1 100 ∧ (((ks_partCounts p1.toNatClampNeg) ≤ v5.2.2 → post v5.1) ∧ (¬ (ks_partCounts p1.toNatClampNeg) ≤ v5.2.2 → wp_ks_slot p1 v5.2.2 (fun (r7 : Int32) => vp_in r7 800 ∧ (∀ x8 : Int32, x8 = ks_latestRows r7.toNatClampNeg → wp_ks_cell p1 v5.2.2 p2 (fun (r9 : Int32) => vp_in r9 4800 ∧ ((x8 ≤ v5.2.1 → wp_fo_joined p2 v5.1 (ks_states r9.toNatClampNeg) 0 fo_kinds (fun (r11 : Int64) => ∀ x12 : Int32, x12 = (if v5.2.1 < x8 then x8 else v5.2.1) → ∀ x13 : Int32, x13 = v5.2.2 + 1 → K27 (r11, x12, x13))) ∧ (¬ x8 ≤ v5.2.1 → wp_fo_joined p2 v5.1 (ks_states r9.toNatClampNeg) 1 fo_kinds (fun (r14 : Int64) => ∀ x15 : Int32, x15 = (if v5.2.1 < x8 then x8 else v5.2.1) → ∀ x16 : Int32, x16 = v5.2.2 + 1 → K27 (r14, x15, x16)))))))))
def wp_ks_joinedState (p1 : Int32) (p2 : Int32) (ks_partCounts : Nat → Int32) (ks_states : Nat → Int64) (ks_latestRows : Nat → Int32) (fo_kinds : Nat → Int32) (post : Int64 → Prop) : Prop := wp_ks_cell p1 0 p2 (fun (r1 : Int32) => vp_in r1 4800 ∧ (∀ x2 : Int64, x2 = ks_states r1.toNatClampNeg → wp_ks_slot p1 0 (fun (r3 : Int32) => vp_in r3 800 ∧ (∀ x4 : Int32, x4 = ks_latestRows r3.toNatClampNeg → ∃ n, hk_lp (wb_ks_joinedState_27 ks_partCounts ks_states ks_latestRows fo_kinds p1 p2 post) n (x2, x4, 1)))))
theorem mm_ks_joinedState : hk_MV yX2_joinedState cX2_joinedState 8 (some .long) 2 := ⟨hw_484, hw_483, hw_33, hw_81, by decide +kernel⟩
set_option maxRecDepth 100000 in
set_option maxHeartbeats 4000000 in
theorem c_ks_joinedState (l : Launch) (D : va_G) (cI cJ cZ cM : ClassId) (h_ks : Nat) (a_ks : Nat → Nat) (h_fo : Nat) (a_fo : Nat → Nat)  (ks_partCounts : Nat → Int32) (ks_states : Nat → Int64) (ks_latestRows : Nat → Int32) (ks_latestValues : Nat → Int64) (ks_moved : Int32) (fo_kinds : Nat → Int32) (fo_declared : Nat → Int32) (fo_count : Int32) (p1 : Int32) (p2 : Int32) (post : Int64 → Prop) (h : wp_ks_joinedState p1 p2 ks_partCounts ks_states ks_latestRows fo_kinds post) : Met l yX2_joinedState (hk_ws yX2_joinedState cX2_joinedState 8 (some .long)) (hk_rm 2 49) (va_Pc [.ref h_ks, .int p1, .int p2] (hk_PR D (hk_ty cI cJ cZ cM) ((wv_ks cI cJ cZ cM h_ks a_ks h_fo ks_partCounts ks_states ks_latestRows ks_latestValues ks_moved) ++ (wv_fo cI cJ cZ cM h_fo a_fo fo_kinds fo_declared fo_count)))) (vp_Sl post) 0 0 (fun _ => False) := by
  refine Met.ofW (cc := cX2_joinedState) (maxL := 8) (ret := (some .long)) (by decide) rfl ?_
  intro p e s m args below meth c s₁ B hml hv
  obtain ⟨rfl, hP, hK, hN⟩ := hv
  have hx := B.exec
  have hb := B.bytes
  have hr := B.returns
  have hts := atoms_spec (ws := hk_ws yX2_joinedState cX2_joinedState 8 (some .long)) B.pre
  have hta : ∀ w ∈ hk_all, w.before ([.ref h_ks, .int p1, .int p2] : List Value).toArray s = true := fun w hw => hts w (List.mem_cons_of_mem _ hw)
  have hown : s.vm.findClass RX2 = some m.cls := findClass_of_methodNamed B.named
  have hlocks := B.notSynchronized
  have S0 : CallFix p m c cX2_joinedState 8 s ([.ref h_ks, .int p1, .int p2] : List Value).toArray hk_all RX2 := ⟨hx, hb, hml, hown, hta⟩
  have hl := lv_entry ([.ref h_ks, .int p1, .int p2]) (n := 8) (Nat.le_of_ble_eq_true rfl)
  rw [lg_entry_eq]
  generalize (lg_sl ([.ref h_ks, .int p1, .int p2]) ++ List.replicate (8 - (lg_sl ([.ref h_ks, .int p1, .int p2])).length) Slot.unset).toArray = ls at hl ⊢
  have hl : lv_has ls 8 [(0, .ref h_ks), (1, .int p1), (2, .int p2)] := hl
  unfold wp_ks_joinedState at h
  refine lv_aload_n hx hb dX2_joinedState_0 rfl (lv_at hl 0 rfl) ?_
  refine va_get (D := D) (ci := 2) (v := .ref (a_ks 2)) (C := RX2) (T := TX2) (N := 6) hx hb hta ih_X2 hown hK hP 0 rfl rfl 2 (by decide) (hta _ hw_127) (fun _ h9 => h9) rfl dX2_joinedState_1 ?_
  refine lv_iload_n hx hb dX2_joinedState_4 rfl (lv_at hl 1 rfl) ?_
  refine lv_iconst (v := 0) hx hb dX2_joinedState_5 (by decide) ?_
  refine lv_iload_n hx hb dX2_joinedState_6 rfl (lv_at hl 2 rfl) ?_
  refine vp_callSi (hk_runS (As := [.int p1, .int 0, .int p2]) (rest := [.ref (a_ks 2)]) S0 mm_ks_cell (c_ks_cell l D cI cJ cZ cM p1 0 p2 _ h) hw_357 hk_blR (hk_atR (hP.sub (ws' := ([] : va_W)) [] rfl) hK hN) ⟨rfl, rfl, Nat.le_of_ble_eq_true rfl, Nat.le_of_ble_eq_true rfl⟩ rfl hl.1 rfl (Nat.le_of_ble_eq_true rfl) dX2_joinedState_7 ⟨Nat.le_of_ble_eq_true rfl, Nat.le_of_ble_eq_true rfl⟩).run (fun r1 h => ?_)
  refine va_lald hx hb hK hP 2 1 rfl rfl h.1 dX2_joinedState_10 ?_
  have h := h.2
  refine lv_topl (fun x2 ex2 => ?_)
  have h := h x2 ex2
  refine lv_lstore_n (lv' := [(3, .long x2), (0, .ref h_ks), (1, .int p1), (2, .int p2)]) hx hb dX2_joinedState_11 rfl hl (by decide) rfl (fun ls hl => ?_)
  refine lv_aload_n hx hb dX2_joinedState_12 rfl (lv_at hl 1 rfl) ?_
  refine va_get (D := D) (ci := 2) (v := .ref (a_ks 3)) (C := RX2) (T := TX2) (N := 6) hx hb hta ih_X2 hown hK hP 0 rfl rfl 3 (by decide) (hta _ hw_128) (fun _ h9 => h9) rfl dX2_joinedState_13 ?_
  refine lv_iload_n hx hb dX2_joinedState_16 rfl (lv_at hl 2 rfl) ?_
  refine lv_iconst (v := 0) hx hb dX2_joinedState_17 (by decide) ?_
  refine vp_callSi (hk_runS (As := [.int p1, .int 0]) (rest := [.ref (a_ks 3)]) S0 mm_ks_slot (c_ks_slot l D cI cJ cZ cM p1 0 _ h) hw_402 hk_blR (hk_atR (hP.sub (ws' := ([] : va_W)) [] rfl) hK hN) ⟨rfl, rfl, Nat.le_of_ble_eq_true rfl, Nat.le_of_ble_eq_true rfl⟩ rfl hl.1 rfl (Nat.le_of_ble_eq_true rfl) dX2_joinedState_18 ⟨Nat.le_of_ble_eq_true rfl, Nat.le_of_ble_eq_true rfl⟩).run (fun r3 h => ?_)
  refine va_iald hx hb hK hP 3 0 rfl rfl h.1 dX2_joinedState_21 ?_
  have h := h.2
  refine lv_topi (fun x4 ex4 => ?_)
  have h := h x4 ex4
  refine lv_istore (lv' := [(5, .int x4), (3, .long x2), (0, .ref h_ks), (1, .int p1), (2, .int p2)]) hx hb dX2_joinedState_22 hl (by decide) rfl (fun ls hl => ?_)
  refine lv_iconst (v := 1) hx hb dX2_joinedState_24 (by decide) ?_
  refine lv_istore (lv' := [(6, .int 1), (5, .int x4), (3, .long x2), (0, .ref h_ks), (1, .int p1), (2, .int p2)]) hx hb dX2_joinedState_25 hl (by decide) rfl (fun ls hl => ?_)
  have P27 : ∀ (n : Nat) (v5 : Int64 × Int32 × Int32) (ls : Array Slot), lv_has ls 8 [(0, .ref h_ks), (1, .int p1), (2, .int p2), (3, .long v5.1), (5, .int v5.2.1), (6, .int v5.2.2)] → hk_lp (wb_ks_joinedState_27 ks_partCounts ks_states ks_latestRows fo_kinds p1 p2 post) n v5 → W p l e (headSpec (hk_ws yX2_joinedState cX2_joinedState 8 (some .long)) (hk_rm 2 49)).room s m ([.ref h_ks, .int p1, .int p2] : List Value).toArray below meth c s.heap [] 0 0 (MQ below (vp_Sl post) ([.ref h_ks, .int p1, .int p2] : List Value).toArray s 0 0 (fun _ => False)) (F0 m 27 ls []) := by
    intro n
    induction n with
    | zero => intro v5 ls hl h; exact False.elim h
    | succ n ih27 =>
      intro v5 ls hl h
      have h : wb_ks_joinedState_27 ks_partCounts ks_states ks_latestRows fo_kinds p1 p2 post (hk_lp (wb_ks_joinedState_27 ks_partCounts ks_states ks_latestRows fo_kinds p1 p2 post) n) v5 := h
      generalize hk_lp (wb_ks_joinedState_27 ks_partCounts ks_states ks_latestRows fo_kinds p1 p2 post) n = K27 at h ih27
      unfold wb_ks_joinedState_27 at h
      refine lv_iload hx hb dX2_joinedState_27 (lv_at hl 5 rfl) ?_
      refine lv_aload_n hx hb dX2_joinedState_29 rfl (lv_at hl 0 rfl) ?_
      refine va_get (D := D) (ci := 2) (v := .ref (a_ks 1)) (C := RX2) (T := TX2) (N := 6) hx hb hta ih_X2 hown hK hP 0 rfl rfl 1 (by decide) (hta _ hw_126) (fun _ h9 => h9) rfl dX2_joinedState_30 ?_
      refine lv_iload_n hx hb dX2_joinedState_33 rfl (lv_at hl 1 rfl) ?_
      refine va_iald hx hb hK hP 1 0 rfl rfl h.1 dX2_joinedState_34 ?_
      have h := h.2
      refine lv_icmp_ge (tgt := 100) hx hb dX2_joinedState_35 (by decide) (fun c6 => ?_) (fun c6 => ?_)
      · have h := h.1 c6
        refine lv_lload_n hx hb dX2_joinedState_100 rfl (lv_at hl 3 rfl) ?_
        exact W.lret (v := v5.1) hx hb hr (fun t ht hW => ⟨_, rfl, h, ht⟩) (fun _ hq => by cases hq) dX2_joinedState_101
      · have h := h.2 c6
        refine lv_aload_n hx hb dX2_joinedState_38 rfl (lv_at hl 0 rfl) ?_
        refine va_get (D := D) (ci := 2) (v := .ref (a_ks 3)) (C := RX2) (T := TX2) (N := 6) hx hb hta ih_X2 hown hK hP 0 rfl rfl 3 (by decide) (hta _ hw_128) (fun _ h9 => h9) rfl dX2_joinedState_39 ?_
        refine lv_iload_n hx hb dX2_joinedState_42 rfl (lv_at hl 1 rfl) ?_
        refine lv_iload hx hb dX2_joinedState_43 (lv_at hl 5 rfl) ?_
        refine vp_callSi (hk_runS (As := [.int p1, .int v5.2.2]) (rest := [.ref (a_ks 3)]) S0 mm_ks_slot (c_ks_slot l D cI cJ cZ cM p1 v5.2.2 _ h) hw_402 hk_blR (hk_atR (hP.sub (ws' := ([] : va_W)) [] rfl) hK hN) ⟨rfl, rfl, Nat.le_of_ble_eq_true rfl, Nat.le_of_ble_eq_true rfl⟩ rfl hl.1 rfl (Nat.le_of_ble_eq_true rfl) dX2_joinedState_45 ⟨Nat.le_of_ble_eq_true rfl, Nat.le_of_ble_eq_true rfl⟩).run (fun r7 h => ?_)
        refine va_iald hx hb hK hP 3 0 rfl rfl h.1 dX2_joinedState_48 ?_
        have h := h.2
        refine lv_topi (fun x8 ex8 => ?_)
        have h := h x8 ex8
        refine lv_istore (lv' := [(7, .int x8), (0, .ref h_ks), (1, .int p1), (2, .int p2), (3, .long v5.1), (5, .int v5.2.1), (6, .int v5.2.2)]) hx hb dX2_joinedState_49 hl (by decide) rfl (fun ls hl => ?_)
        refine lv_aload_n hx hb dX2_joinedState_51 rfl (lv_at hl 1 rfl) ?_
        refine va_get (D := D) (ci := 2) (v := .ref h_fo) (C := RX2) (T := TX2) (N := 6) hx hb hta ih_X2 hown hK hP 0 rfl rfl 0 (by decide) (hta _ hw_125) (fun _ h9 => h9) rfl dX2_joinedState_52 ?_
        refine lv_iload_n hx hb dX2_joinedState_55 rfl (lv_at hl 3 rfl) ?_
        refine lv_lload_n hx hb dX2_joinedState_56 rfl (lv_at hl 4 rfl) ?_
        refine lv_aload_n hx hb dX2_joinedState_57 rfl (lv_at hl 1 rfl) ?_
        refine va_get (D := D) (ci := 2) (v := .ref (a_ks 2)) (C := RX2) (T := TX2) (N := 6) hx hb hta ih_X2 hown hK hP 0 rfl rfl 2 (by decide) (hta _ hw_127) (fun _ h9 => h9) rfl dX2_joinedState_58 ?_
        refine lv_iload_n hx hb dX2_joinedState_61 rfl (lv_at hl 2 rfl) ?_
        refine lv_iload hx hb dX2_joinedState_62 (lv_at hl 6 rfl) ?_
        refine lv_iload_n hx hb dX2_joinedState_64 rfl (lv_at hl 3 rfl) ?_
        refine vp_callSi (hk_runS (As := [.int p1, .int v5.2.2, .int p2]) (rest := [.ref (a_ks 2), .long v5.1, .int p2, .ref h_fo]) S0 mm_ks_cell (c_ks_cell l D cI cJ cZ cM p1 v5.2.2 p2 _ h) hw_357 hk_blR (hk_atR (hP.sub (ws' := ([] : va_W)) [] rfl) hK hN) ⟨rfl, rfl, Nat.le_of_ble_eq_true rfl, Nat.le_of_ble_eq_true rfl⟩ rfl hl.1 rfl (Nat.le_of_ble_eq_true rfl) dX2_joinedState_65 ⟨Nat.le_of_ble_eq_true rfl, Nat.le_of_ble_eq_true rfl⟩).run (fun r9 h => ?_)
        refine va_lald hx hb hK hP 2 1 rfl rfl h.1 dX2_joinedState_68 ?_
        have h := h.2
        refine lv_iload hx hb dX2_joinedState_69 (lv_at hl 0 rfl) ?_
        refine lv_iload hx hb dX2_joinedState_71 (lv_at hl 5 rfl) ?_
        refine lv_icmp_le (tgt := 80) hx hb dX2_joinedState_73 (by decide) (fun c10 => ?_) (fun c10 => ?_)
        · have h := h.1 c10
          refine lv_iconst (v := 0) hx hb dX2_joinedState_80 (by decide) ?_
          refine vp_callSl (hk_runVN (As := [.int p2, .long v5.1, .long (ks_states r9.toNatClampNeg), .int 0]) (rest := []) S0 mm_fo_joined (c_fo_joined l D cI cJ cZ cM h_fo a_fo fo_kinds fo_declared fo_count p2 v5.1 (ks_states r9.toNatClampNeg) 0 _ h) (hN.1 _ hn_485) hk_blR (hk_atR (hP.sub (ws' := wv_fo cI cJ cZ cM h_fo a_fo fo_kinds fo_declared fo_count) [5, 6, 7] rfl) hK hN) (va_recv hK hP (ci := 1) (q0 := 5) rfl rfl) ⟨rfl, rfl, Nat.le_of_ble_eq_true rfl, Nat.le_of_ble_eq_true rfl⟩ rfl hl.1 rfl (Nat.le_of_ble_eq_true rfl) dX2_joinedState_81 ⟨Nat.le_of_ble_eq_true rfl, Nat.le_of_ble_eq_true rfl⟩).run (fun r11 h => ?_)
          refine lv_lstore_n (lv' := [(3, .long r11), (7, .int x8), (0, .ref h_ks), (1, .int p1), (2, .int p2), (5, .int v5.2.1), (6, .int v5.2.2)]) hx hb dX2_joinedState_84 rfl hl (by decide) rfl (fun ls hl => ?_)
          refine lv_iload hx hb dX2_joinedState_85 (lv_at hl 5 rfl) ?_
          refine lv_iload hx hb dX2_joinedState_87 (lv_at hl 1 rfl) ?_
          refine va_mmax hx hb (hml.trans hl.1.symm) hown (hta _ hw_489) (hta _ hw_490) (hta _ hw_88) (hta _ hw_491) (Nat.le_of_ble_eq_true rfl) (Nat.le_of_ble_eq_true rfl) (Nat.le_of_ble_eq_true rfl) (Nat.le_of_ble_eq_true rfl) dX2_joinedState_89 ?_
          refine lv_topi (fun x12 ex12 => ?_)
          have h := h x12 ex12
          refine lv_istore (lv' := [(5, .int x12), (3, .long r11), (7, .int x8), (0, .ref h_ks), (1, .int p1), (2, .int p2), (6, .int v5.2.2)]) hx hb dX2_joinedState_92 hl (by decide) rfl (fun ls hl => ?_)
          obtain ⟨x13, ex13⟩ : ∃ y : Int32, y = v5.2.2 + 1 := ⟨_, rfl⟩
          have h := h x13 ex13
          refine lv_iinc (v := x13) (lv' := [(6, .int x13), (5, .int x12), (3, .long r11), (7, .int x8), (0, .ref h_ks), (1, .int p1), (2, .int p2)]) hx hb dX2_joinedState_94 hl (k := 6) rfl (by rw [ex13]; rfl) (by decide) rfl (fun ls hl => ?_)
          refine lv_goto (tgt := 27) hx hb dX2_joinedState_97 (by decide) ?_
          exact ih27 (r11, x12, x13) ls (lv_sub hl [4, 5, 6, 2, 1, 0] rfl) h
        · have h := h.2 c10
          refine lv_iconst (v := 1) hx hb dX2_joinedState_76 (by decide) ?_
          refine lv_goto (tgt := 81) hx hb dX2_joinedState_77 (by decide) ?_
          refine vp_callSl (hk_runVN (As := [.int p2, .long v5.1, .long (ks_states r9.toNatClampNeg), .int 1]) (rest := []) S0 mm_fo_joined (c_fo_joined l D cI cJ cZ cM h_fo a_fo fo_kinds fo_declared fo_count p2 v5.1 (ks_states r9.toNatClampNeg) 1 _ h) (hN.1 _ hn_485) hk_blR (hk_atR (hP.sub (ws' := wv_fo cI cJ cZ cM h_fo a_fo fo_kinds fo_declared fo_count) [5, 6, 7] rfl) hK hN) (va_recv hK hP (ci := 1) (q0 := 5) rfl rfl) ⟨rfl, rfl, Nat.le_of_ble_eq_true rfl, Nat.le_of_ble_eq_true rfl⟩ rfl hl.1 rfl (Nat.le_of_ble_eq_true rfl) dX2_joinedState_81 ⟨Nat.le_of_ble_eq_true rfl, Nat.le_of_ble_eq_true rfl⟩).run (fun r14 h => ?_)
          refine lv_lstore_n (lv' := [(3, .long r14), (7, .int x8), (0, .ref h_ks), (1, .int p1), (2, .int p2), (5, .int v5.2.1), (6, .int v5.2.2)]) hx hb dX2_joinedState_84 rfl hl (by decide) rfl (fun ls hl => ?_)
          refine lv_iload hx hb dX2_joinedState_85 (lv_at hl 5 rfl) ?_
          refine lv_iload hx hb dX2_joinedState_87 (lv_at hl 1 rfl) ?_
          refine va_mmax hx hb (hml.trans hl.1.symm) hown (hta _ hw_489) (hta _ hw_490) (hta _ hw_88) (hta _ hw_491) (Nat.le_of_ble_eq_true rfl) (Nat.le_of_ble_eq_true rfl) (Nat.le_of_ble_eq_true rfl) (Nat.le_of_ble_eq_true rfl) dX2_joinedState_89 ?_
          refine lv_topi (fun x15 ex15 => ?_)
          have h := h x15 ex15
          refine lv_istore (lv' := [(5, .int x15), (3, .long r14), (7, .int x8), (0, .ref h_ks), (1, .int p1), (2, .int p2), (6, .int v5.2.2)]) hx hb dX2_joinedState_92 hl (by decide) rfl (fun ls hl => ?_)
          obtain ⟨x16, ex16⟩ : ∃ y : Int32, y = v5.2.2 + 1 := ⟨_, rfl⟩
          have h := h x16 ex16
          refine lv_iinc (v := x16) (lv' := [(6, .int x16), (5, .int x15), (3, .long r14), (7, .int x8), (0, .ref h_ks), (1, .int p1), (2, .int p2)]) hx hb dX2_joinedState_94 hl (k := 6) rfl (by rw [ex16]; rfl) (by decide) rfl (fun ls hl => ?_)
          refine lv_goto (tgt := 27) hx hb dX2_joinedState_97 (by decide) ?_
          exact ih27 (r14, x15, x16) ls (lv_sub hl [4, 5, 6, 2, 1, 0] rfl) h
  obtain ⟨n, h⟩ := h
  exact P27 n (x2, x4, 1) ls (lv_sub hl [3, 4, 5, 2, 1, 0] rfl) h
def wb_ks_joinedLatestRow_4 (ks_partCounts : Nat → Int32) (ks_latestRows : Nat → Int32) (p1 : Int32) (post : Int32 → Prop) (K4 : (Int32 × Int32) → Prop) (v1 : Int32 × Int32) : Prop := vp_in p1 100 ∧ (((ks_partCounts p1.toNatClampNeg) ≤ v1.2 → post v1.1) ∧ (¬ (ks_partCounts p1.toNatClampNeg) ≤ v1.2 → wp_ks_slot p1 v1.2 (fun (r3 : Int32) => vp_in r3 800 ∧ (∀ x4 : Int32, x4 = (if v1.1 < (ks_latestRows r3.toNatClampNeg) then (ks_latestRows r3.toNatClampNeg) else v1.1) → ∀ x5 : Int32, x5 = v1.2 + 1 → K4 (x4, x5)))))
def wp_ks_joinedLatestRow (p1 : Int32) (ks_partCounts : Nat → Int32) (ks_latestRows : Nat → Int32) (post : Int32 → Prop) : Prop := ∃ n, hk_lp (wb_ks_joinedLatestRow_4 ks_partCounts ks_latestRows p1 post) n ((-1), 0)
theorem mm_ks_joinedLatestRow : hk_MV yX2_joinedLatestRow cX2_joinedLatestRow 4 (some .int) 1 := ⟨hw_495, hw_494, hw_35, hw_81, by decide +kernel⟩
set_option maxRecDepth 100000 in
set_option maxHeartbeats 4000000 in
theorem c_ks_joinedLatestRow (l : Launch) (D : va_G) (cI cJ cZ cM : ClassId) (h_ks : Nat) (a_ks : Nat → Nat) (h_fo : Nat) (a_fo : Nat → Nat)  (ks_partCounts : Nat → Int32) (ks_states : Nat → Int64) (ks_latestRows : Nat → Int32) (ks_latestValues : Nat → Int64) (ks_moved : Int32) (fo_kinds : Nat → Int32) (fo_declared : Nat → Int32) (fo_count : Int32) (p1 : Int32) (post : Int32 → Prop) (h : wp_ks_joinedLatestRow p1 ks_partCounts ks_latestRows post) : Met l yX2_joinedLatestRow (hk_ws yX2_joinedLatestRow cX2_joinedLatestRow 4 (some .int)) (hk_rm 1 23) (va_Pc [.ref h_ks, .int p1] (hk_PR D (hk_ty cI cJ cZ cM) ((wv_ks cI cJ cZ cM h_ks a_ks h_fo ks_partCounts ks_states ks_latestRows ks_latestValues ks_moved) ++ (wv_fo cI cJ cZ cM h_fo a_fo fo_kinds fo_declared fo_count)))) (vp_Si post) 0 0 (fun _ => False) := by
  refine Met.ofW (cc := cX2_joinedLatestRow) (maxL := 4) (ret := (some .int)) (by decide) rfl ?_
  intro p e s m args below meth c s₁ B hml hv
  obtain ⟨rfl, hP, hK, hN⟩ := hv
  have hx := B.exec
  have hb := B.bytes
  have hr := B.returns
  have hts := atoms_spec (ws := hk_ws yX2_joinedLatestRow cX2_joinedLatestRow 4 (some .int)) B.pre
  have hta : ∀ w ∈ hk_all, w.before ([.ref h_ks, .int p1] : List Value).toArray s = true := fun w hw => hts w (List.mem_cons_of_mem _ hw)
  have hown : s.vm.findClass RX2 = some m.cls := findClass_of_methodNamed B.named
  have hlocks := B.notSynchronized
  have S0 : CallFix p m c cX2_joinedLatestRow 4 s ([.ref h_ks, .int p1] : List Value).toArray hk_all RX2 := ⟨hx, hb, hml, hown, hta⟩
  have hl := lv_entry ([.ref h_ks, .int p1]) (n := 4) (Nat.le_of_ble_eq_true rfl)
  rw [lg_entry_eq]
  generalize (lg_sl ([.ref h_ks, .int p1]) ++ List.replicate (4 - (lg_sl ([.ref h_ks, .int p1])).length) Slot.unset).toArray = ls at hl ⊢
  have hl : lv_has ls 4 [(0, .ref h_ks), (1, .int p1)] := hl
  unfold wp_ks_joinedLatestRow at h
  refine lv_iconst (v := (-1)) hx hb dX2_joinedLatestRow_0 (by decide) ?_
  refine lv_istore_n (lv' := [(2, .int (-1)), (0, .ref h_ks), (1, .int p1)]) hx hb dX2_joinedLatestRow_1 rfl hl (by decide) rfl (fun ls hl => ?_)
  refine lv_iconst (v := 0) hx hb dX2_joinedLatestRow_2 (by decide) ?_
  refine lv_istore_n (lv' := [(3, .int 0), (2, .int (-1)), (0, .ref h_ks), (1, .int p1)]) hx hb dX2_joinedLatestRow_3 rfl hl (by decide) rfl (fun ls hl => ?_)
  have P4 : ∀ (n : Nat) (v1 : Int32 × Int32) (ls : Array Slot), lv_has ls 4 [(0, .ref h_ks), (1, .int p1), (2, .int v1.1), (3, .int v1.2)] → hk_lp (wb_ks_joinedLatestRow_4 ks_partCounts ks_latestRows p1 post) n v1 → W p l e (headSpec (hk_ws yX2_joinedLatestRow cX2_joinedLatestRow 4 (some .int)) (hk_rm 1 23)).room s m ([.ref h_ks, .int p1] : List Value).toArray below meth c s.heap [] 0 0 (MQ below (vp_Si post) ([.ref h_ks, .int p1] : List Value).toArray s 0 0 (fun _ => False)) (F0 m 4 ls []) := by
    intro n
    induction n with
    | zero => intro v1 ls hl h; exact False.elim h
    | succ n ih4 =>
      intro v1 ls hl h
      have h : wb_ks_joinedLatestRow_4 ks_partCounts ks_latestRows p1 post (hk_lp (wb_ks_joinedLatestRow_4 ks_partCounts ks_latestRows p1 post) n) v1 := h
      generalize hk_lp (wb_ks_joinedLatestRow_4 ks_partCounts ks_latestRows p1 post) n = K4 at h ih4
      unfold wb_ks_joinedLatestRow_4 at h
      refine lv_iload_n hx hb dX2_joinedLatestRow_4 rfl (lv_at hl 3 rfl) ?_
      refine lv_aload_n hx hb dX2_joinedLatestRow_5 rfl (lv_at hl 0 rfl) ?_
      refine va_get (D := D) (ci := 2) (v := .ref (a_ks 1)) (C := RX2) (T := TX2) (N := 6) hx hb hta ih_X2 hown hK hP 0 rfl rfl 1 (by decide) (hta _ hw_126) (fun _ h9 => h9) rfl dX2_joinedLatestRow_6 ?_
      refine lv_iload_n hx hb dX2_joinedLatestRow_9 rfl (lv_at hl 1 rfl) ?_
      refine va_iald hx hb hK hP 1 0 rfl rfl h.1 dX2_joinedLatestRow_10 ?_
      have h := h.2
      refine lv_icmp_ge (tgt := 35) hx hb dX2_joinedLatestRow_11 (by decide) (fun c2 => ?_) (fun c2 => ?_)
      · have h := h.1 c2
        refine lv_iload_n hx hb dX2_joinedLatestRow_35 rfl (lv_at hl 2 rfl) ?_
        exact W.iret (v := v1.1) hx hb hr (fun t ht hW => ⟨_, rfl, h, ht⟩) (fun _ hq => by cases hq) dX2_joinedLatestRow_36
      · have h := h.2 c2
        refine lv_iload_n hx hb dX2_joinedLatestRow_14 rfl (lv_at hl 2 rfl) ?_
        refine lv_aload_n hx hb dX2_joinedLatestRow_15 rfl (lv_at hl 0 rfl) ?_
        refine va_get (D := D) (ci := 2) (v := .ref (a_ks 3)) (C := RX2) (T := TX2) (N := 6) hx hb hta ih_X2 hown hK hP 0 rfl rfl 3 (by decide) (hta _ hw_128) (fun _ h9 => h9) rfl dX2_joinedLatestRow_16 ?_
        refine lv_iload_n hx hb dX2_joinedLatestRow_19 rfl (lv_at hl 1 rfl) ?_
        refine lv_iload_n hx hb dX2_joinedLatestRow_20 rfl (lv_at hl 3 rfl) ?_
        refine vp_callSi (hk_runS (As := [.int p1, .int v1.2]) (rest := [.ref (a_ks 3), .int v1.1]) S0 mm_ks_slot (c_ks_slot l D cI cJ cZ cM p1 v1.2 _ h) hw_402 hk_blR (hk_atR (hP.sub (ws' := ([] : va_W)) [] rfl) hK hN) ⟨rfl, rfl, Nat.le_of_ble_eq_true rfl, Nat.le_of_ble_eq_true rfl⟩ rfl hl.1 rfl (Nat.le_of_ble_eq_true rfl) dX2_joinedLatestRow_21 ⟨Nat.le_of_ble_eq_true rfl, Nat.le_of_ble_eq_true rfl⟩).run (fun r3 h => ?_)
        refine va_iald hx hb hK hP 3 0 rfl rfl h.1 dX2_joinedLatestRow_24 ?_
        have h := h.2
        refine va_mmax hx hb (hml.trans hl.1.symm) hown (hta _ hw_489) (hta _ hw_490) (hta _ hw_88) (hta _ hw_491) (Nat.le_of_ble_eq_true rfl) (Nat.le_of_ble_eq_true rfl) (Nat.le_of_ble_eq_true rfl) (Nat.le_of_ble_eq_true rfl) dX2_joinedLatestRow_25 ?_
        refine lv_topi (fun x4 ex4 => ?_)
        have h := h x4 ex4
        refine lv_istore_n (lv' := [(2, .int x4), (0, .ref h_ks), (1, .int p1), (3, .int v1.2)]) hx hb dX2_joinedLatestRow_28 rfl hl (by decide) rfl (fun ls hl => ?_)
        obtain ⟨x5, ex5⟩ : ∃ y : Int32, y = v1.2 + 1 := ⟨_, rfl⟩
        have h := h x5 ex5
        refine lv_iinc (v := x5) (lv' := [(3, .int x5), (2, .int x4), (0, .ref h_ks), (1, .int p1)]) hx hb dX2_joinedLatestRow_29 hl (k := 3) rfl (by rw [ex5]; rfl) (by decide) rfl (fun ls hl => ?_)
        refine lv_goto (tgt := 4) hx hb dX2_joinedLatestRow_32 (by decide) ?_
        exact ih4 (x4, x5) ls (lv_sub hl [2, 3, 1, 0] rfl) h
  obtain ⟨n, h⟩ := h
  exact P4 n ((-1), 0) ls (lv_sub hl [2, 3, 1, 0] rfl) h
def wb_ks_emptyPart_2 (ks_latestRows : Nat → Int32) (fo_kinds : Nat → Int32) (fo_count : Int32) (p1 : Int32) (p2 : Int32) (post : ((Nat → Int64) × (Nat → Int32)) → Prop) (K2 : (Int32 × (Nat → Int64)) → Prop) (v1 : Int32 × (Nat → Int64)) : Prop := (fo_count ≤ v1.1 → wp_ks_slot p1 p2 (fun (r3 : Int32) => vp_in r3 800 ∧ (post (v1.2, upd ks_latestRows r3.toNatClampNeg (-1))))) ∧ (¬ fo_count ≤ v1.1 → wp_ks_cell p1 p2 v1.1 (fun (r4 : Int32) => wp_fo_emptyState v1.1 fo_kinds (fun (r5 : Int64) => vp_in r4 4800 ∧ (∀ x6 : Int32, x6 = v1.1 + 1 → K2 (x6, vp_updL v1.2 r4.toNatClampNeg r5)))))
def wp_ks_emptyPart (p1 : Int32) (p2 : Int32) (ks_states : Nat → Int64) (ks_latestRows : Nat → Int32) (fo_kinds : Nat → Int32) (fo_count : Int32) (post : ((Nat → Int64) × (Nat → Int32)) → Prop) : Prop := ∃ n, hk_lp (wb_ks_emptyPart_2 ks_latestRows fo_kinds fo_count p1 p2 post) n (0, ks_states)
theorem mm_ks_emptyPart : hk_MV yX2_emptyPart cX2_emptyPart 4 none 2 := ⟨hw_468, hw_467, hw_29, hw_81, by decide +kernel⟩
set_option maxRecDepth 100000 in
set_option maxHeartbeats 4000000 in
theorem c_ks_emptyPart (l : Launch) (D : va_G) (cI cJ cZ cM : ClassId) (h_ks : Nat) (a_ks : Nat → Nat) (h_fo : Nat) (a_fo : Nat → Nat) (sz : Nat) (ks_partCounts : Nat → Int32) (ks_states : Nat → Int64) (ks_latestRows : Nat → Int32) (ks_latestValues : Nat → Int64) (ks_moved : Int32) (fo_kinds : Nat → Int32) (fo_declared : Nat → Int32) (fo_count : Int32) (p1 : Int32) (p2 : Int32) (post : ((Nat → Int64) × (Nat → Int32)) → Prop) (h : wp_ks_emptyPart p1 p2 ks_states ks_latestRows fo_kinds fo_count post) : Met l yX2_emptyPart (hk_ws yX2_emptyPart cX2_emptyPart 4 none) (hk_rm 1 22) (va_Pc [.ref h_ks, .int p1, .int p2] (hk_PM D (hk_ty cI cJ cZ cM) sz ((wv_ks cI cJ cZ cM h_ks a_ks h_fo ks_partCounts ks_states ks_latestRows ks_latestValues ks_moved) ++ (wv_fo cI cJ cZ cM h_fo a_fo fo_kinds fo_declared fo_count)))) (va_Qv post (hk_B D (va_A ((wv_ks cI cJ cZ cM h_ks a_ks h_fo ks_partCounts ks_states ks_latestRows ks_latestValues ks_moved) ++ (wv_fo cI cJ cZ cM h_fo a_fo fo_kinds fo_declared fo_count)) sz) (fun (u : (Nat → Int64) × (Nat → Int32)) => (wv_ks cI cJ cZ cM h_ks a_ks h_fo ks_partCounts u.1 u.2 ks_latestValues ks_moved) ++ (wv_fo cI cJ cZ cM h_fo a_fo fo_kinds fo_declared fo_count))) (va_A ((wv_ks cI cJ cZ cM h_ks a_ks h_fo ks_partCounts ks_states ks_latestRows ks_latestValues ks_moved) ++ (wv_fo cI cJ cZ cM h_fo a_fo fo_kinds fo_declared fo_count)) sz)) 0 0 (va_A ((wv_ks cI cJ cZ cM h_ks a_ks h_fo ks_partCounts ks_states ks_latestRows ks_latestValues ks_moved) ++ (wv_fo cI cJ cZ cM h_fo a_fo fo_kinds fo_declared fo_count)) sz) := by
  refine Met.ofW (cc := cX2_emptyPart) (maxL := 4) (ret := none) (by decide) rfl ?_
  intro p e s m args below meth c s₁ B hml hv
  obtain ⟨rfl, hsz, hP, hK, hD0, hN⟩ := hv
  have hx := B.exec
  have hb := B.bytes
  have hr := B.returns
  have hts := atoms_spec (ws := hk_ws yX2_emptyPart cX2_emptyPart 4 none) B.pre
  have hta : ∀ w ∈ hk_all, w.before ([.ref h_ks, .int p1, .int p2] : List Value).toArray s = true := fun w hw => hts w (List.mem_cons_of_mem _ hw)
  have hown : s.vm.findClass RX2 = some m.cls := findClass_of_methodNamed B.named
  have hlocks := B.notSynchronized
  have S0 : CallFix p m c cX2_emptyPart 4 s ([.ref h_ks, .int p1, .int p2] : List Value).toArray hk_all RX2 := ⟨hx, hb, hml, hown, hta⟩
  subst hsz
  have hD := hD0.self (sz := s.heap.size)
  generalize hAe : va_A ((wv_ks cI cJ cZ cM h_ks a_ks h_fo ks_partCounts ks_states ks_latestRows ks_latestValues ks_moved) ++ (wv_fo cI cJ cZ cM h_fo a_fo fo_kinds fo_declared fo_count)) s.heap.size = A at hD ⊢
  have hA : ∀ q : Nat, s.heap.size ≤ q → A q := fun q h => by rw [← hAe]; exact Or.inr h
  have hS : va_S A s.heap s.heap [] := va_S.rf
  have hl := lv_entry ([.ref h_ks, .int p1, .int p2]) (n := 4) (Nat.le_of_ble_eq_true rfl)
  rw [lg_entry_eq]
  generalize (lg_sl ([.ref h_ks, .int p1, .int p2]) ++ List.replicate (4 - (lg_sl ([.ref h_ks, .int p1, .int p2])).length) Slot.unset).toArray = ls at hl ⊢
  have hl : lv_has ls 4 [(0, .ref h_ks), (1, .int p1), (2, .int p2)] := hl
  unfold wp_ks_emptyPart at h
  refine lv_iconst (v := 0) hx hb dX2_emptyPart_0 (by decide) ?_
  refine lv_istore_n (lv' := [(3, .int 0), (0, .ref h_ks), (1, .int p1), (2, .int p2)]) hx hb dX2_emptyPart_1 rfl hl (by decide) rfl (fun ls hl => ?_)
  have P2 : ∀ (n : Nat) (v1 : Int32 × (Nat → Int64)) (H : Heap) (locs : List Loc) (ls : Array Slot), va_P D vwCl ((wv_ks cI cJ cZ cM h_ks a_ks h_fo ks_partCounts v1.2 ks_latestRows ks_latestValues ks_moved) ++ (wv_fo cI cJ cZ cM h_fo a_fo fo_kinds fo_declared fo_count)) H → va_D A ((wv_ks cI cJ cZ cM h_ks a_ks h_fo ks_partCounts v1.2 ks_latestRows ks_latestValues ks_moved) ++ (wv_fo cI cJ cZ cM h_fo a_fo fo_kinds fo_declared fo_count)) → va_S A s.heap H locs → lv_has ls 4 [(0, .ref h_ks), (1, .int p1), (2, .int p2), (3, .int v1.1)] → hk_lp (wb_ks_emptyPart_2 ks_latestRows fo_kinds fo_count p1 p2 post) n v1 → W p l e (headSpec (hk_ws yX2_emptyPart cX2_emptyPart 4 none) (hk_rm 1 22)).room s m ([.ref h_ks, .int p1, .int p2] : List Value).toArray below meth c H locs 0 0 (MQ below (va_Qv post (hk_B D (A) (fun (u : (Nat → Int64) × (Nat → Int32)) => (wv_ks cI cJ cZ cM h_ks a_ks h_fo ks_partCounts u.1 u.2 ks_latestValues ks_moved) ++ (wv_fo cI cJ cZ cM h_fo a_fo fo_kinds fo_declared fo_count))) (A)) ([.ref h_ks, .int p1, .int p2] : List Value).toArray s 0 0 A) (F0 m 2 ls []) := by
    intro n
    induction n with
    | zero => intro v1 H locs ls hP hD hS hl h; exact False.elim h
    | succ n ih2 =>
      intro v1 H locs ls hP hD hS hl h
      have h : wb_ks_emptyPart_2 ks_latestRows fo_kinds fo_count p1 p2 post (hk_lp (wb_ks_emptyPart_2 ks_latestRows fo_kinds fo_count p1 p2 post) n) v1 := h
      generalize hk_lp (wb_ks_emptyPart_2 ks_latestRows fo_kinds fo_count p1 p2 post) n = K2 at h ih2
      unfold wb_ks_emptyPart_2 at h
      refine lv_iload_n hx hb dX2_emptyPart_2 rfl (lv_at hl 3 rfl) ?_
      refine lv_aload_n hx hb dX2_emptyPart_3 rfl (lv_at hl 0 rfl) ?_
      refine va_get (D := D) (ci := 2) (v := .ref h_fo) (C := RX2) (T := TX2) (N := 6) hx hb hta ih_X2 hown hK hP 0 rfl rfl 0 (by decide) (hta _ hw_125) (fun _ h9 => h9) rfl dX2_emptyPart_4 ?_
      refine va_getN (D := D) (ci := 1) (v := .int fo_count) (C := RX1) (T := TX1) (N := 3) hx hb hta ih_X1 hown hK hP 5 rfl rfl 2 (by decide) (va_Nw.use rfl (hN.1 _ hn_109)) (fun _ h9 => h9) rfl dX2_emptyPart_7 ?_
      refine lv_icmp_ge (tgt := 38) hx hb dX2_emptyPart_10 (by decide) (fun c2 => ?_) (fun c2 => ?_)
      · have h := h.1 c2
        refine lv_aload_n hx hb dX2_emptyPart_38 rfl (lv_at hl 0 rfl) ?_
        refine va_get (D := D) (ci := 2) (v := .ref (a_ks 3)) (C := RX2) (T := TX2) (N := 6) hx hb hta ih_X2 hown hK hP 0 rfl rfl 3 (by decide) (hta _ hw_128) (fun _ h9 => h9) rfl dX2_emptyPart_39 ?_
        refine lv_iload_n hx hb dX2_emptyPart_42 rfl (lv_at hl 1 rfl) ?_
        refine lv_iload_n hx hb dX2_emptyPart_43 rfl (lv_at hl 2 rfl) ?_
        refine vp_callSi (hk_runS (As := [.int p1, .int p2]) (rest := [.ref (a_ks 3)]) S0 mm_ks_slot (c_ks_slot l D cI cJ cZ cM p1 p2 _ h) hw_402 hk_blR (hk_atR (hP.sub (ws' := ([] : va_W)) [] rfl) hK hN) ⟨rfl, rfl, Nat.le_of_ble_eq_true rfl, Nat.le_of_ble_eq_true rfl⟩ rfl hl.1 rfl (Nat.le_of_ble_eq_true rfl) dX2_emptyPart_44 ⟨Nat.le_of_ble_eq_true rfl, Nat.le_of_ble_eq_true rfl⟩).run (fun r3 h => ?_)
        refine lv_iconst (v := (-1)) hx hb dX2_emptyPart_47 (by decide) ?_
        refine va_iast hx hb hK hP hD hS 3 0 rfl rfl h.1 dX2_emptyPart_48 (fun H locs hP hD hS => ?_)
        have h := h.2
        have hP : va_P D vwCl ((wv_ks cI cJ cZ cM h_ks a_ks h_fo ks_partCounts v1.2 (upd ks_latestRows r3.toNatClampNeg (-1)) ks_latestValues ks_moved) ++ (wv_fo cI cJ cZ cM h_fo a_fo fo_kinds fo_declared fo_count)) H := hP
        have hD : va_D A ((wv_ks cI cJ cZ cM h_ks a_ks h_fo ks_partCounts v1.2 (upd ks_latestRows r3.toNatClampNeg (-1)) ks_latestValues ks_moved) ++ (wv_fo cI cJ cZ cM h_fo a_fo fo_kinds fo_declared fo_count)) := hD
        exact W.vret hx hb hr (fun t ht hW => ⟨⟨(v1.2, upd ks_latestRows r3.toNatClampNeg (-1)), rfl, h, by rw [ht]; exact hP, hD⟩, hS.F ht⟩) hS.2.2 dX2_emptyPart_49
      · have h := h.2 c2
        refine lv_aload_n hx hb dX2_emptyPart_13 rfl (lv_at hl 0 rfl) ?_
        refine va_get (D := D) (ci := 2) (v := .ref (a_ks 2)) (C := RX2) (T := TX2) (N := 6) hx hb hta ih_X2 hown hK hP 0 rfl rfl 2 (by decide) (hta _ hw_127) (fun _ h9 => h9) rfl dX2_emptyPart_14 ?_
        refine lv_iload_n hx hb dX2_emptyPart_17 rfl (lv_at hl 1 rfl) ?_
        refine lv_iload_n hx hb dX2_emptyPart_18 rfl (lv_at hl 2 rfl) ?_
        refine lv_iload_n hx hb dX2_emptyPart_19 rfl (lv_at hl 3 rfl) ?_
        refine vp_callSi (hk_runS (As := [.int p1, .int p2, .int v1.1]) (rest := [.ref (a_ks 2)]) S0 mm_ks_cell (c_ks_cell l D cI cJ cZ cM p1 p2 v1.1 _ h) hw_357 hk_blR (hk_atR (hP.sub (ws' := ([] : va_W)) [] rfl) hK hN) ⟨rfl, rfl, Nat.le_of_ble_eq_true rfl, Nat.le_of_ble_eq_true rfl⟩ rfl hl.1 rfl (Nat.le_of_ble_eq_true rfl) dX2_emptyPart_20 ⟨Nat.le_of_ble_eq_true rfl, Nat.le_of_ble_eq_true rfl⟩).run (fun r4 h => ?_)
        refine lv_aload_n hx hb dX2_emptyPart_23 rfl (lv_at hl 0 rfl) ?_
        refine va_get (D := D) (ci := 2) (v := .ref h_fo) (C := RX2) (T := TX2) (N := 6) hx hb hta ih_X2 hown hK hP 0 rfl rfl 0 (by decide) (hta _ hw_125) (fun _ h9 => h9) rfl dX2_emptyPart_24 ?_
        refine lv_iload_n hx hb dX2_emptyPart_27 rfl (lv_at hl 3 rfl) ?_
        refine vp_callSl (hk_runVN (As := [.int v1.1]) (rest := [.int r4, .ref (a_ks 2)]) S0 mm_fo_emptyState (c_fo_emptyState l D cI cJ cZ cM h_fo a_fo fo_kinds fo_declared fo_count v1.1 _ h) (hN.1 _ hn_360) hk_blR (hk_atR (hP.sub (ws' := wv_fo cI cJ cZ cM h_fo a_fo fo_kinds fo_declared fo_count) [5, 6, 7] rfl) hK hN) (va_recv hK hP (ci := 1) (q0 := 5) rfl rfl) ⟨rfl, rfl, Nat.le_of_ble_eq_true rfl, Nat.le_of_ble_eq_true rfl⟩ rfl hl.1 rfl (Nat.le_of_ble_eq_true rfl) dX2_emptyPart_28 ⟨Nat.le_of_ble_eq_true rfl, Nat.le_of_ble_eq_true rfl⟩).run (fun r5 h => ?_)
        refine va_last hx hb hK hP hD hS 2 1 rfl rfl h.1 dX2_emptyPart_31 (fun H locs hP hD hS => ?_)
        have h := h.2
        have hP : va_P D vwCl ((wv_ks cI cJ cZ cM h_ks a_ks h_fo ks_partCounts (vp_updL v1.2 r4.toNatClampNeg r5) ks_latestRows ks_latestValues ks_moved) ++ (wv_fo cI cJ cZ cM h_fo a_fo fo_kinds fo_declared fo_count)) H := hP
        have hD : va_D A ((wv_ks cI cJ cZ cM h_ks a_ks h_fo ks_partCounts (vp_updL v1.2 r4.toNatClampNeg r5) ks_latestRows ks_latestValues ks_moved) ++ (wv_fo cI cJ cZ cM h_fo a_fo fo_kinds fo_declared fo_count)) := hD
        obtain ⟨x6, ex6⟩ : ∃ y : Int32, y = v1.1 + 1 := ⟨_, rfl⟩
        have h := h x6 ex6
        refine lv_iinc (v := x6) (lv' := [(3, .int x6), (0, .ref h_ks), (1, .int p1), (2, .int p2)]) hx hb dX2_emptyPart_32 hl (k := 3) rfl (by rw [ex6]; rfl) (by decide) rfl (fun ls hl => ?_)
        refine lv_goto (tgt := 2) hx hb dX2_emptyPart_35 (by decide) ?_
        exact ih2 (x6, vp_updL v1.2 r4.toNatClampNeg r5) H locs ls hP hD hS (lv_sub hl [1, 2, 3, 0] rfl) h
  obtain ⟨n, h⟩ := h
  exact P2 n (0, ks_states) s.heap [] ls hP hD hS (lv_sub hl [1, 2, 3, 0] rfl) h
def wb_ks_emptyKey_2 (ks_partCounts : Nat → Int32) (ks_latestValues : Nat → Int64) (fo_kinds : Nat → Int32) (fo_count : Int32) (p1 : Int32) (post : ((Nat → Int64) × (Nat → Int32) × (Nat → Int64)) → Prop) (K2 : (Int32 × (Nat → Int64) × (Nat → Int32)) → Prop) (v1 : Int32 × (Nat → Int64) × (Nat → Int32)) : Prop := vp_in p1 100 ∧ (((ks_partCounts p1.toNatClampNeg) ≤ v1.1 → vp_in p1 100 ∧ (post (v1.2.1, v1.2.2, vp_updL ks_latestValues p1.toNatClampNeg (-4000000000000)))) ∧ (¬ (ks_partCounts p1.toNatClampNeg) ≤ v1.1 → wp_ks_emptyPart p1 v1.1 v1.2.1 v1.2.2 fo_kinds fo_count (fun (w3 : (Nat → Int64) × (Nat → Int32)) => ∀ x4 : Int32, x4 = v1.1 + 1 → K2 (x4, w3.1, w3.2))))
def wp_ks_emptyKey (p1 : Int32) (ks_partCounts : Nat → Int32) (ks_states : Nat → Int64) (ks_latestRows : Nat → Int32) (ks_latestValues : Nat → Int64) (fo_kinds : Nat → Int32) (fo_count : Int32) (post : ((Nat → Int64) × (Nat → Int32) × (Nat → Int64)) → Prop) : Prop := ∃ n, hk_lp (wb_ks_emptyKey_2 ks_partCounts ks_latestValues fo_kinds fo_count p1 post) n (0, ks_states, ks_latestRows)
theorem mm_ks_emptyKey : hk_MV yX2_emptyKey cX2_emptyKey 3 none 1 := ⟨hw_632, hw_631, hw_48, hw_81, by decide +kernel⟩
set_option maxRecDepth 100000 in
set_option maxHeartbeats 4000000 in
theorem c_ks_emptyKey (l : Launch) (D : va_G) (cI cJ cZ cM : ClassId) (h_ks : Nat) (a_ks : Nat → Nat) (h_fo : Nat) (a_fo : Nat → Nat) (sz : Nat) (ks_partCounts : Nat → Int32) (ks_states : Nat → Int64) (ks_latestRows : Nat → Int32) (ks_latestValues : Nat → Int64) (ks_moved : Int32) (fo_kinds : Nat → Int32) (fo_declared : Nat → Int32) (fo_count : Int32) (p1 : Int32) (post : ((Nat → Int64) × (Nat → Int32) × (Nat → Int64)) → Prop) (h : wp_ks_emptyKey p1 ks_partCounts ks_states ks_latestRows ks_latestValues fo_kinds fo_count post) : Met l yX2_emptyKey (hk_ws yX2_emptyKey cX2_emptyKey 3 none) (hk_rm 2 45) (va_Pc [.ref h_ks, .int p1] (hk_PM D (hk_ty cI cJ cZ cM) sz ((wv_ks cI cJ cZ cM h_ks a_ks h_fo ks_partCounts ks_states ks_latestRows ks_latestValues ks_moved) ++ (wv_fo cI cJ cZ cM h_fo a_fo fo_kinds fo_declared fo_count)))) (va_Qv post (hk_B D (va_A ((wv_ks cI cJ cZ cM h_ks a_ks h_fo ks_partCounts ks_states ks_latestRows ks_latestValues ks_moved) ++ (wv_fo cI cJ cZ cM h_fo a_fo fo_kinds fo_declared fo_count)) sz) (fun (u : (Nat → Int64) × (Nat → Int32) × (Nat → Int64)) => (wv_ks cI cJ cZ cM h_ks a_ks h_fo ks_partCounts u.1 u.2.1 u.2.2 ks_moved) ++ (wv_fo cI cJ cZ cM h_fo a_fo fo_kinds fo_declared fo_count))) (va_A ((wv_ks cI cJ cZ cM h_ks a_ks h_fo ks_partCounts ks_states ks_latestRows ks_latestValues ks_moved) ++ (wv_fo cI cJ cZ cM h_fo a_fo fo_kinds fo_declared fo_count)) sz)) 0 0 (va_A ((wv_ks cI cJ cZ cM h_ks a_ks h_fo ks_partCounts ks_states ks_latestRows ks_latestValues ks_moved) ++ (wv_fo cI cJ cZ cM h_fo a_fo fo_kinds fo_declared fo_count)) sz) := by
  refine Met.ofW (cc := cX2_emptyKey) (maxL := 3) (ret := none) (by decide) rfl ?_
  intro p e s m args below meth c s₁ B hml hv
  obtain ⟨rfl, hsz, hP, hK, hD0, hN⟩ := hv
  have hx := B.exec
  have hb := B.bytes
  have hr := B.returns
  have hts := atoms_spec (ws := hk_ws yX2_emptyKey cX2_emptyKey 3 none) B.pre
  have hta : ∀ w ∈ hk_all, w.before ([.ref h_ks, .int p1] : List Value).toArray s = true := fun w hw => hts w (List.mem_cons_of_mem _ hw)
  have hown : s.vm.findClass RX2 = some m.cls := findClass_of_methodNamed B.named
  have hlocks := B.notSynchronized
  have S0 : CallFix p m c cX2_emptyKey 3 s ([.ref h_ks, .int p1] : List Value).toArray hk_all RX2 := ⟨hx, hb, hml, hown, hta⟩
  subst hsz
  have hD := hD0.self (sz := s.heap.size)
  generalize hAe : va_A ((wv_ks cI cJ cZ cM h_ks a_ks h_fo ks_partCounts ks_states ks_latestRows ks_latestValues ks_moved) ++ (wv_fo cI cJ cZ cM h_fo a_fo fo_kinds fo_declared fo_count)) s.heap.size = A at hD ⊢
  have hA : ∀ q : Nat, s.heap.size ≤ q → A q := fun q h => by rw [← hAe]; exact Or.inr h
  have hS : va_S A s.heap s.heap [] := va_S.rf
  have hl := lv_entry ([.ref h_ks, .int p1]) (n := 3) (Nat.le_of_ble_eq_true rfl)
  rw [lg_entry_eq]
  generalize (lg_sl ([.ref h_ks, .int p1]) ++ List.replicate (3 - (lg_sl ([.ref h_ks, .int p1])).length) Slot.unset).toArray = ls at hl ⊢
  have hl : lv_has ls 3 [(0, .ref h_ks), (1, .int p1)] := hl
  unfold wp_ks_emptyKey at h
  refine lv_iconst (v := 0) hx hb dX2_emptyKey_0 (by decide) ?_
  refine lv_istore_n (lv' := [(2, .int 0), (0, .ref h_ks), (1, .int p1)]) hx hb dX2_emptyKey_1 rfl hl (by decide) rfl (fun ls hl => ?_)
  have P2 : ∀ (n : Nat) (v1 : Int32 × (Nat → Int64) × (Nat → Int32)) (H : Heap) (locs : List Loc) (ls : Array Slot), va_P D vwCl ((wv_ks cI cJ cZ cM h_ks a_ks h_fo ks_partCounts v1.2.1 v1.2.2 ks_latestValues ks_moved) ++ (wv_fo cI cJ cZ cM h_fo a_fo fo_kinds fo_declared fo_count)) H → va_D A ((wv_ks cI cJ cZ cM h_ks a_ks h_fo ks_partCounts v1.2.1 v1.2.2 ks_latestValues ks_moved) ++ (wv_fo cI cJ cZ cM h_fo a_fo fo_kinds fo_declared fo_count)) → va_S A s.heap H locs → lv_has ls 3 [(0, .ref h_ks), (1, .int p1), (2, .int v1.1)] → hk_lp (wb_ks_emptyKey_2 ks_partCounts ks_latestValues fo_kinds fo_count p1 post) n v1 → W p l e (headSpec (hk_ws yX2_emptyKey cX2_emptyKey 3 none) (hk_rm 2 45)).room s m ([.ref h_ks, .int p1] : List Value).toArray below meth c H locs 0 0 (MQ below (va_Qv post (hk_B D (A) (fun (u : (Nat → Int64) × (Nat → Int32) × (Nat → Int64)) => (wv_ks cI cJ cZ cM h_ks a_ks h_fo ks_partCounts u.1 u.2.1 u.2.2 ks_moved) ++ (wv_fo cI cJ cZ cM h_fo a_fo fo_kinds fo_declared fo_count))) (A)) ([.ref h_ks, .int p1] : List Value).toArray s 0 0 A) (F0 m 2 ls []) := by
    intro n
    induction n with
    | zero => intro v1 H locs ls hP hD hS hl h; exact False.elim h
    | succ n ih2 =>
      intro v1 H locs ls hP hD hS hl h
      have h : wb_ks_emptyKey_2 ks_partCounts ks_latestValues fo_kinds fo_count p1 post (hk_lp (wb_ks_emptyKey_2 ks_partCounts ks_latestValues fo_kinds fo_count p1 post) n) v1 := h
      generalize hk_lp (wb_ks_emptyKey_2 ks_partCounts ks_latestValues fo_kinds fo_count p1 post) n = K2 at h ih2
      unfold wb_ks_emptyKey_2 at h
      refine lv_iload_n hx hb dX2_emptyKey_2 rfl (lv_at hl 2 rfl) ?_
      refine lv_aload_n hx hb dX2_emptyKey_3 rfl (lv_at hl 0 rfl) ?_
      refine va_get (D := D) (ci := 2) (v := .ref (a_ks 1)) (C := RX2) (T := TX2) (N := 6) hx hb hta ih_X2 hown hK hP 0 rfl rfl 1 (by decide) (hta _ hw_126) (fun _ h9 => h9) rfl dX2_emptyKey_4 ?_
      refine lv_iload_n hx hb dX2_emptyKey_7 rfl (lv_at hl 1 rfl) ?_
      refine va_iald hx hb hK hP 1 0 rfl rfl h.1 dX2_emptyKey_8 ?_
      have h := h.2
      refine lv_icmp_ge (tgt := 24) hx hb dX2_emptyKey_9 (by decide) (fun c2 => ?_) (fun c2 => ?_)
      · have h := h.1 c2
        refine lv_aload_n hx hb dX2_emptyKey_24 rfl (lv_at hl 0 rfl) ?_
        refine va_get (D := D) (ci := 2) (v := .ref (a_ks 4)) (C := RX2) (T := TX2) (N := 6) hx hb hta ih_X2 hown hK hP 0 rfl rfl 4 (by decide) (hta _ hw_129) (fun _ h9 => h9) rfl dX2_emptyKey_25 ?_
        refine lv_iload_n hx hb dX2_emptyKey_28 rfl (lv_at hl 1 rfl) ?_
        refine lv_ldc2 (v := (-4000000000000)) hx hb hown (hta _ hw_257) dX2_emptyKey_29 ?_
        refine va_last hx hb hK hP hD hS 4 1 rfl rfl h.1 dX2_emptyKey_32 (fun H locs hP hD hS => ?_)
        have h := h.2
        have hP : va_P D vwCl ((wv_ks cI cJ cZ cM h_ks a_ks h_fo ks_partCounts v1.2.1 v1.2.2 (vp_updL ks_latestValues p1.toNatClampNeg (-4000000000000)) ks_moved) ++ (wv_fo cI cJ cZ cM h_fo a_fo fo_kinds fo_declared fo_count)) H := hP
        have hD : va_D A ((wv_ks cI cJ cZ cM h_ks a_ks h_fo ks_partCounts v1.2.1 v1.2.2 (vp_updL ks_latestValues p1.toNatClampNeg (-4000000000000)) ks_moved) ++ (wv_fo cI cJ cZ cM h_fo a_fo fo_kinds fo_declared fo_count)) := hD
        exact W.vret hx hb hr (fun t ht hW => ⟨⟨(v1.2.1, v1.2.2, vp_updL ks_latestValues p1.toNatClampNeg (-4000000000000)), rfl, h, by rw [ht]; exact hP, hD⟩, hS.F ht⟩) hS.2.2 dX2_emptyKey_33
      · have h := h.2 c2
        refine lv_aload_n hx hb dX2_emptyKey_12 rfl (lv_at hl 0 rfl) ?_
        refine lv_iload_n hx hb dX2_emptyKey_13 rfl (lv_at hl 1 rfl) ?_
        refine lv_iload_n hx hb dX2_emptyKey_14 rfl (lv_at hl 2 rfl) ?_
        refine hk_wv (hk_runV (As := [.int p1, .int v1.1]) (rest := []) S0 mm_ks_emptyPart (c_ks_emptyPart l D cI cJ cZ cM h_ks a_ks h_fo a_fo H.size ks_partCounts v1.2.1 v1.2.2 ks_latestValues ks_moved fo_kinds fo_declared fo_count p1 v1.1 _ h) hw_465 hk_blM (hk_atM hP hK hD hN) (va_recv hK hP (ci := 2) (q0 := 0) rfl rfl) ⟨rfl, rfl, Nat.le_of_ble_eq_true rfl, Nat.le_of_ble_eq_true rfl⟩ rfl hl.1 rfl (Nat.le_of_ble_eq_true rfl) dX2_emptyKey_15 ⟨Nat.le_of_ble_eq_true rfl, Nat.le_of_ble_eq_true rfl⟩) hD hS hA (fun w3 H locs h hP hD hS => ?_)
        have hP : va_P D vwCl ((wv_ks cI cJ cZ cM h_ks a_ks h_fo ks_partCounts w3.1 w3.2 ks_latestValues ks_moved) ++ (wv_fo cI cJ cZ cM h_fo a_fo fo_kinds fo_declared fo_count)) H := hP
        have hD : va_D A ((wv_ks cI cJ cZ cM h_ks a_ks h_fo ks_partCounts w3.1 w3.2 ks_latestValues ks_moved) ++ (wv_fo cI cJ cZ cM h_fo a_fo fo_kinds fo_declared fo_count)) := hD
        obtain ⟨x4, ex4⟩ : ∃ y : Int32, y = v1.1 + 1 := ⟨_, rfl⟩
        have h := h x4 ex4
        refine lv_iinc (v := x4) (lv' := [(2, .int x4), (0, .ref h_ks), (1, .int p1)]) hx hb dX2_emptyKey_18 hl (k := 2) rfl (by rw [ex4]; rfl) (by decide) rfl (fun ls hl => ?_)
        refine lv_goto (tgt := 2) hx hb dX2_emptyKey_21 (by decide) ?_
        exact ih2 (x4, w3.1, w3.2) H locs ls hP hD hS (lv_sub hl [1, 2, 0] rfl) h
  obtain ⟨n, h⟩ := h
  exact P2 n (0, ks_states, ks_latestRows) s.heap [] ls hP hD hS (lv_sub hl [1, 2, 0] rfl) h
def wb_ks_breakUp_2 (ks_partCounts : Nat → Int32) (fo_kinds : Nat → Int32) (fo_count : Int32) (p1 : Int32) (p2 : Int32) (post : ((Nat → Int32) × (Nat → Int64) × (Nat → Int32)) → Prop) (K2 : (Int32 × (Nat → Int64) × (Nat → Int32)) → Prop) (v1 : Int32 × (Nat → Int64) × (Nat → Int32)) : Prop := (p2 ≤ v1.1 → vp_in p1 100 ∧ (post (upd ks_partCounts p1.toNatClampNeg p2, v1.2.1, v1.2.2))) ∧ (¬ p2 ≤ v1.1 → wp_ks_emptyPart p1 v1.1 v1.2.1 v1.2.2 fo_kinds fo_count (fun (w3 : (Nat → Int64) × (Nat → Int32)) => ∀ x4 : Int32, x4 = v1.1 + 1 → K2 (x4, w3.1, w3.2)))
def wp_ks_breakUp (p1 : Int32) (p2 : Int32) (ks_partCounts : Nat → Int32) (ks_states : Nat → Int64) (ks_latestRows : Nat → Int32) (fo_kinds : Nat → Int32) (fo_count : Int32) (post : ((Nat → Int32) × (Nat → Int64) × (Nat → Int32)) → Prop) : Prop := ∃ n, hk_lp (wb_ks_breakUp_2 ks_partCounts fo_kinds fo_count p1 p2 post) n (1, ks_states, ks_latestRows)
theorem mm_ks_breakUp : hk_MV yX2_breakUp cX2_breakUp 4 none 2 := ⟨hw_464, hw_463, hw_28, hw_81, by decide +kernel⟩
set_option maxRecDepth 100000 in
set_option maxHeartbeats 4000000 in
theorem c_ks_breakUp (l : Launch) (D : va_G) (cI cJ cZ cM : ClassId) (h_ks : Nat) (a_ks : Nat → Nat) (h_fo : Nat) (a_fo : Nat → Nat) (sz : Nat) (ks_partCounts : Nat → Int32) (ks_states : Nat → Int64) (ks_latestRows : Nat → Int32) (ks_latestValues : Nat → Int64) (ks_moved : Int32) (fo_kinds : Nat → Int32) (fo_declared : Nat → Int32) (fo_count : Int32) (p1 : Int32) (p2 : Int32) (post : ((Nat → Int32) × (Nat → Int64) × (Nat → Int32)) → Prop) (h : wp_ks_breakUp p1 p2 ks_partCounts ks_states ks_latestRows fo_kinds fo_count post) : Met l yX2_breakUp (hk_ws yX2_breakUp cX2_breakUp 4 none) (hk_rm 2 45) (va_Pc [.ref h_ks, .int p1, .int p2] (hk_PM D (hk_ty cI cJ cZ cM) sz ((wv_ks cI cJ cZ cM h_ks a_ks h_fo ks_partCounts ks_states ks_latestRows ks_latestValues ks_moved) ++ (wv_fo cI cJ cZ cM h_fo a_fo fo_kinds fo_declared fo_count)))) (va_Qv post (hk_B D (va_A ((wv_ks cI cJ cZ cM h_ks a_ks h_fo ks_partCounts ks_states ks_latestRows ks_latestValues ks_moved) ++ (wv_fo cI cJ cZ cM h_fo a_fo fo_kinds fo_declared fo_count)) sz) (fun (u : (Nat → Int32) × (Nat → Int64) × (Nat → Int32)) => (wv_ks cI cJ cZ cM h_ks a_ks h_fo u.1 u.2.1 u.2.2 ks_latestValues ks_moved) ++ (wv_fo cI cJ cZ cM h_fo a_fo fo_kinds fo_declared fo_count))) (va_A ((wv_ks cI cJ cZ cM h_ks a_ks h_fo ks_partCounts ks_states ks_latestRows ks_latestValues ks_moved) ++ (wv_fo cI cJ cZ cM h_fo a_fo fo_kinds fo_declared fo_count)) sz)) 0 0 (va_A ((wv_ks cI cJ cZ cM h_ks a_ks h_fo ks_partCounts ks_states ks_latestRows ks_latestValues ks_moved) ++ (wv_fo cI cJ cZ cM h_fo a_fo fo_kinds fo_declared fo_count)) sz) := by
  refine Met.ofW (cc := cX2_breakUp) (maxL := 4) (ret := none) (by decide) rfl ?_
  intro p e s m args below meth c s₁ B hml hv
  obtain ⟨rfl, hsz, hP, hK, hD0, hN⟩ := hv
  have hx := B.exec
  have hb := B.bytes
  have hr := B.returns
  have hts := atoms_spec (ws := hk_ws yX2_breakUp cX2_breakUp 4 none) B.pre
  have hta : ∀ w ∈ hk_all, w.before ([.ref h_ks, .int p1, .int p2] : List Value).toArray s = true := fun w hw => hts w (List.mem_cons_of_mem _ hw)
  have hown : s.vm.findClass RX2 = some m.cls := findClass_of_methodNamed B.named
  have hlocks := B.notSynchronized
  have S0 : CallFix p m c cX2_breakUp 4 s ([.ref h_ks, .int p1, .int p2] : List Value).toArray hk_all RX2 := ⟨hx, hb, hml, hown, hta⟩
  subst hsz
  have hD := hD0.self (sz := s.heap.size)
  generalize hAe : va_A ((wv_ks cI cJ cZ cM h_ks a_ks h_fo ks_partCounts ks_states ks_latestRows ks_latestValues ks_moved) ++ (wv_fo cI cJ cZ cM h_fo a_fo fo_kinds fo_declared fo_count)) s.heap.size = A at hD ⊢
  have hA : ∀ q : Nat, s.heap.size ≤ q → A q := fun q h => by rw [← hAe]; exact Or.inr h
  have hS : va_S A s.heap s.heap [] := va_S.rf
  have hl := lv_entry ([.ref h_ks, .int p1, .int p2]) (n := 4) (Nat.le_of_ble_eq_true rfl)
  rw [lg_entry_eq]
  generalize (lg_sl ([.ref h_ks, .int p1, .int p2]) ++ List.replicate (4 - (lg_sl ([.ref h_ks, .int p1, .int p2])).length) Slot.unset).toArray = ls at hl ⊢
  have hl : lv_has ls 4 [(0, .ref h_ks), (1, .int p1), (2, .int p2)] := hl
  unfold wp_ks_breakUp at h
  refine lv_iconst (v := 1) hx hb dX2_breakUp_0 (by decide) ?_
  refine lv_istore_n (lv' := [(3, .int 1), (0, .ref h_ks), (1, .int p1), (2, .int p2)]) hx hb dX2_breakUp_1 rfl hl (by decide) rfl (fun ls hl => ?_)
  have P2 : ∀ (n : Nat) (v1 : Int32 × (Nat → Int64) × (Nat → Int32)) (H : Heap) (locs : List Loc) (ls : Array Slot), va_P D vwCl ((wv_ks cI cJ cZ cM h_ks a_ks h_fo ks_partCounts v1.2.1 v1.2.2 ks_latestValues ks_moved) ++ (wv_fo cI cJ cZ cM h_fo a_fo fo_kinds fo_declared fo_count)) H → va_D A ((wv_ks cI cJ cZ cM h_ks a_ks h_fo ks_partCounts v1.2.1 v1.2.2 ks_latestValues ks_moved) ++ (wv_fo cI cJ cZ cM h_fo a_fo fo_kinds fo_declared fo_count)) → va_S A s.heap H locs → lv_has ls 4 [(0, .ref h_ks), (1, .int p1), (2, .int p2), (3, .int v1.1)] → hk_lp (wb_ks_breakUp_2 ks_partCounts fo_kinds fo_count p1 p2 post) n v1 → W p l e (headSpec (hk_ws yX2_breakUp cX2_breakUp 4 none) (hk_rm 2 45)).room s m ([.ref h_ks, .int p1, .int p2] : List Value).toArray below meth c H locs 0 0 (MQ below (va_Qv post (hk_B D (A) (fun (u : (Nat → Int32) × (Nat → Int64) × (Nat → Int32)) => (wv_ks cI cJ cZ cM h_ks a_ks h_fo u.1 u.2.1 u.2.2 ks_latestValues ks_moved) ++ (wv_fo cI cJ cZ cM h_fo a_fo fo_kinds fo_declared fo_count))) (A)) ([.ref h_ks, .int p1, .int p2] : List Value).toArray s 0 0 A) (F0 m 2 ls []) := by
    intro n
    induction n with
    | zero => intro v1 H locs ls hP hD hS hl h; exact False.elim h
    | succ n ih2 =>
      intro v1 H locs ls hP hD hS hl h
      have h : wb_ks_breakUp_2 ks_partCounts fo_kinds fo_count p1 p2 post (hk_lp (wb_ks_breakUp_2 ks_partCounts fo_kinds fo_count p1 p2 post) n) v1 := h
      generalize hk_lp (wb_ks_breakUp_2 ks_partCounts fo_kinds fo_count p1 p2 post) n = K2 at h ih2
      unfold wb_ks_breakUp_2 at h
      refine lv_iload_n hx hb dX2_breakUp_2 rfl (lv_at hl 3 rfl) ?_
      refine lv_iload_n hx hb dX2_breakUp_3 rfl (lv_at hl 2 rfl) ?_
      refine lv_icmp_ge (tgt := 19) hx hb dX2_breakUp_4 (by decide) (fun c2 => ?_) (fun c2 => ?_)
      · have h := h.1 c2
        refine lv_aload_n hx hb dX2_breakUp_19 rfl (lv_at hl 0 rfl) ?_
        refine va_get (D := D) (ci := 2) (v := .ref (a_ks 1)) (C := RX2) (T := TX2) (N := 6) hx hb hta ih_X2 hown hK hP 0 rfl rfl 1 (by decide) (hta _ hw_126) (fun _ h9 => h9) rfl dX2_breakUp_20 ?_
        refine lv_iload_n hx hb dX2_breakUp_23 rfl (lv_at hl 1 rfl) ?_
        refine lv_iload_n hx hb dX2_breakUp_24 rfl (lv_at hl 2 rfl) ?_
        refine va_iast hx hb hK hP hD hS 1 0 rfl rfl h.1 dX2_breakUp_25 (fun H locs hP hD hS => ?_)
        have h := h.2
        have hP : va_P D vwCl ((wv_ks cI cJ cZ cM h_ks a_ks h_fo (upd ks_partCounts p1.toNatClampNeg p2) v1.2.1 v1.2.2 ks_latestValues ks_moved) ++ (wv_fo cI cJ cZ cM h_fo a_fo fo_kinds fo_declared fo_count)) H := hP
        have hD : va_D A ((wv_ks cI cJ cZ cM h_ks a_ks h_fo (upd ks_partCounts p1.toNatClampNeg p2) v1.2.1 v1.2.2 ks_latestValues ks_moved) ++ (wv_fo cI cJ cZ cM h_fo a_fo fo_kinds fo_declared fo_count)) := hD
        exact W.vret hx hb hr (fun t ht hW => ⟨⟨(upd ks_partCounts p1.toNatClampNeg p2, v1.2.1, v1.2.2), rfl, h, by rw [ht]; exact hP, hD⟩, hS.F ht⟩) hS.2.2 dX2_breakUp_26
      · have h := h.2 c2
        refine lv_aload_n hx hb dX2_breakUp_7 rfl (lv_at hl 0 rfl) ?_
        refine lv_iload_n hx hb dX2_breakUp_8 rfl (lv_at hl 1 rfl) ?_
        refine lv_iload_n hx hb dX2_breakUp_9 rfl (lv_at hl 3 rfl) ?_
        refine hk_wv (hk_runV (As := [.int p1, .int v1.1]) (rest := []) S0 mm_ks_emptyPart (c_ks_emptyPart l D cI cJ cZ cM h_ks a_ks h_fo a_fo H.size ks_partCounts v1.2.1 v1.2.2 ks_latestValues ks_moved fo_kinds fo_declared fo_count p1 v1.1 _ h) hw_465 hk_blM (hk_atM hP hK hD hN) (va_recv hK hP (ci := 2) (q0 := 0) rfl rfl) ⟨rfl, rfl, Nat.le_of_ble_eq_true rfl, Nat.le_of_ble_eq_true rfl⟩ rfl hl.1 rfl (Nat.le_of_ble_eq_true rfl) dX2_breakUp_10 ⟨Nat.le_of_ble_eq_true rfl, Nat.le_of_ble_eq_true rfl⟩) hD hS hA (fun w3 H locs h hP hD hS => ?_)
        have hP : va_P D vwCl ((wv_ks cI cJ cZ cM h_ks a_ks h_fo ks_partCounts w3.1 w3.2 ks_latestValues ks_moved) ++ (wv_fo cI cJ cZ cM h_fo a_fo fo_kinds fo_declared fo_count)) H := hP
        have hD : va_D A ((wv_ks cI cJ cZ cM h_ks a_ks h_fo ks_partCounts w3.1 w3.2 ks_latestValues ks_moved) ++ (wv_fo cI cJ cZ cM h_fo a_fo fo_kinds fo_declared fo_count)) := hD
        obtain ⟨x4, ex4⟩ : ∃ y : Int32, y = v1.1 + 1 := ⟨_, rfl⟩
        have h := h x4 ex4
        refine lv_iinc (v := x4) (lv' := [(3, .int x4), (0, .ref h_ks), (1, .int p1), (2, .int p2)]) hx hb dX2_breakUp_13 hl (k := 3) rfl (by rw [ex4]; rfl) (by decide) rfl (fun ls hl => ?_)
        refine lv_goto (tgt := 2) hx hb dX2_breakUp_16 (by decide) ?_
        exact ih2 (x4, w3.1, w3.2) H locs ls hP hD hS (lv_sub hl [1, 2, 3, 0] rfl) h
  obtain ⟨n, h⟩ := h
  exact P2 n (1, ks_states, ks_latestRows) s.heap [] ls hP hD hS (lv_sub hl [1, 2, 3, 0] rfl) h
def wb_ks_bringBack_39 (ks_partCounts : Nat → Int32) (ks_latestRows : Nat → Int32) (ks_moved : Int32) (fo_kinds : Nat → Int32) (fo_count : Int32) (p1 : Int32) (post : Int32 → ((Nat → Int32) × (Nat → Int64) × (Nat → Int32) × Int32) → Prop) (v1 : Int32 × Int32) (K39 : (Int32 × (Nat → Int64)) → Prop) (v3 : Int32 × (Nat → Int64)) : Prop := (fo_count ≤ v3.1 → wp_ks_slot p1 0 (fun (r5 : Int32) => wp_ks_joinedLatestRow p1 ks_partCounts ks_latestRows (fun (r6 : Int32) => vp_in r5 800 ∧ (vp_in p1 100 ∧ (∀ x7 : Int32, x7 = ks_moved + v1.1 → post v1.1 (upd ks_partCounts p1.toNatClampNeg 1, v3.2, upd ks_latestRows r5.toNatClampNeg r6, x7)))))) ∧ (¬ fo_count ≤ v3.1 → wp_ks_cell p1 0 v3.1 (fun (r8 : Int32) => wp_ks_joinedState p1 v3.1 ks_partCounts v3.2 ks_latestRows fo_kinds (fun (r9 : Int64) => vp_in r8 4800 ∧ (∀ x10 : Int32, x10 = v3.1 + 1 → K39 (x10, vp_updL v3.2 r8.toNatClampNeg r9)))))
def wb_ks_bringBack_4 (ks_partCounts : Nat → Int32) (ks_states : Nat → Int64) (ks_latestRows : Nat → Int32) (ks_moved : Int32) (fo_kinds : Nat → Int32) (fo_count : Int32) (p1 : Int32) (post : Int32 → ((Nat → Int32) × (Nat → Int64) × (Nat → Int32) × Int32) → Prop) (K4 : (Int32 × Int32) → Prop) (v1 : Int32 × Int32) : Prop := vp_in p1 100 ∧ (((ks_partCounts p1.toNatClampNeg) ≤ v1.2 → ∃ n, hk_lp (wb_ks_bringBack_39 ks_partCounts ks_latestRows ks_moved fo_kinds fo_count p1 post v1) n (0, ks_states)) ∧ (¬ (ks_partCounts p1.toNatClampNeg) ≤ v1.2 → wp_ks_slot p1 v1.2 (fun (r11 : Int32) => vp_in r11 800 ∧ (((ks_latestRows r11.toNatClampNeg) = (-1) → ∀ x13 : Int32, x13 = v1.2 + 1 → K4 (v1.1, x13)) ∧ (¬ (ks_latestRows r11.toNatClampNeg) = (-1) → ∀ x14 : Int32, x14 = v1.1 + 1 → ∀ x15 : Int32, x15 = v1.2 + 1 → K4 (x14, x15))))))
def wp_ks_bringBack (p1 : Int32) (ks_partCounts : Nat → Int32) (ks_states : Nat → Int64) (ks_latestRows : Nat → Int32) (ks_moved : Int32) (fo_kinds : Nat → Int32) (fo_count : Int32) (post : Int32 → ((Nat → Int32) × (Nat → Int64) × (Nat → Int32) × Int32) → Prop) : Prop := ∃ n, hk_lp (wb_ks_bringBack_4 ks_partCounts ks_states ks_latestRows ks_moved fo_kinds fo_count p1 post) n (0, 1)
theorem mm_ks_bringBack : hk_MV yX2_bringBack cX2_bringBack 4 (some .int) 1 := ⟨hw_480, hw_479, hw_32, hw_81, by decide +kernel⟩
set_option maxRecDepth 100000 in
set_option maxHeartbeats 4000000 in
theorem c_ks_bringBack (l : Launch) (D : va_G) (cI cJ cZ cM : ClassId) (h_ks : Nat) (a_ks : Nat → Nat) (h_fo : Nat) (a_fo : Nat → Nat) (sz : Nat) (ks_partCounts : Nat → Int32) (ks_states : Nat → Int64) (ks_latestRows : Nat → Int32) (ks_latestValues : Nat → Int64) (ks_moved : Int32) (fo_kinds : Nat → Int32) (fo_declared : Nat → Int32) (fo_count : Int32) (p1 : Int32) (post : Int32 → ((Nat → Int32) × (Nat → Int64) × (Nat → Int32) × Int32) → Prop) (h : wp_ks_bringBack p1 ks_partCounts ks_states ks_latestRows ks_moved fo_kinds fo_count post) : Met l yX2_bringBack (hk_ws yX2_bringBack cX2_bringBack 4 (some .int)) (hk_rm 3 76) (va_Pc [.ref h_ks, .int p1] (hk_PM D (hk_ty cI cJ cZ cM) sz ((wv_ks cI cJ cZ cM h_ks a_ks h_fo ks_partCounts ks_states ks_latestRows ks_latestValues ks_moved) ++ (wv_fo cI cJ cZ cM h_fo a_fo fo_kinds fo_declared fo_count)))) (va_Qi post (hk_B D (va_A ((wv_ks cI cJ cZ cM h_ks a_ks h_fo ks_partCounts ks_states ks_latestRows ks_latestValues ks_moved) ++ (wv_fo cI cJ cZ cM h_fo a_fo fo_kinds fo_declared fo_count)) sz) (fun (u : (Nat → Int32) × (Nat → Int64) × (Nat → Int32) × Int32) => (wv_ks cI cJ cZ cM h_ks a_ks h_fo u.1 u.2.1 u.2.2.1 ks_latestValues u.2.2.2) ++ (wv_fo cI cJ cZ cM h_fo a_fo fo_kinds fo_declared fo_count))) (va_A ((wv_ks cI cJ cZ cM h_ks a_ks h_fo ks_partCounts ks_states ks_latestRows ks_latestValues ks_moved) ++ (wv_fo cI cJ cZ cM h_fo a_fo fo_kinds fo_declared fo_count)) sz)) 0 0 (va_A ((wv_ks cI cJ cZ cM h_ks a_ks h_fo ks_partCounts ks_states ks_latestRows ks_latestValues ks_moved) ++ (wv_fo cI cJ cZ cM h_fo a_fo fo_kinds fo_declared fo_count)) sz) := by
  refine Met.ofW (cc := cX2_bringBack) (maxL := 4) (ret := (some .int)) (by decide) rfl ?_
  intro p e s m args below meth c s₁ B hml hv
  obtain ⟨rfl, hsz, hP, hK, hD0, hN⟩ := hv
  have hx := B.exec
  have hb := B.bytes
  have hr := B.returns
  have hts := atoms_spec (ws := hk_ws yX2_bringBack cX2_bringBack 4 (some .int)) B.pre
  have hta : ∀ w ∈ hk_all, w.before ([.ref h_ks, .int p1] : List Value).toArray s = true := fun w hw => hts w (List.mem_cons_of_mem _ hw)
  have hown : s.vm.findClass RX2 = some m.cls := findClass_of_methodNamed B.named
  have hlocks := B.notSynchronized
  have S0 : CallFix p m c cX2_bringBack 4 s ([.ref h_ks, .int p1] : List Value).toArray hk_all RX2 := ⟨hx, hb, hml, hown, hta⟩
  subst hsz
  have hD := hD0.self (sz := s.heap.size)
  generalize hAe : va_A ((wv_ks cI cJ cZ cM h_ks a_ks h_fo ks_partCounts ks_states ks_latestRows ks_latestValues ks_moved) ++ (wv_fo cI cJ cZ cM h_fo a_fo fo_kinds fo_declared fo_count)) s.heap.size = A at hD ⊢
  have hA : ∀ q : Nat, s.heap.size ≤ q → A q := fun q h => by rw [← hAe]; exact Or.inr h
  have hS : va_S A s.heap s.heap [] := va_S.rf
  have hl := lv_entry ([.ref h_ks, .int p1]) (n := 4) (Nat.le_of_ble_eq_true rfl)
  rw [lg_entry_eq]
  generalize (lg_sl ([.ref h_ks, .int p1]) ++ List.replicate (4 - (lg_sl ([.ref h_ks, .int p1])).length) Slot.unset).toArray = ls at hl ⊢
  have hl : lv_has ls 4 [(0, .ref h_ks), (1, .int p1)] := hl
  unfold wp_ks_bringBack at h
  refine lv_iconst (v := 0) hx hb dX2_bringBack_0 (by decide) ?_
  refine lv_istore_n (lv' := [(2, .int 0), (0, .ref h_ks), (1, .int p1)]) hx hb dX2_bringBack_1 rfl hl (by decide) rfl (fun ls hl => ?_)
  refine lv_iconst (v := 1) hx hb dX2_bringBack_2 (by decide) ?_
  refine lv_istore_n (lv' := [(3, .int 1), (2, .int 0), (0, .ref h_ks), (1, .int p1)]) hx hb dX2_bringBack_3 rfl hl (by decide) rfl (fun ls hl => ?_)
  have P4 : ∀ (n : Nat) (v1 : Int32 × Int32) (H : Heap) (locs : List Loc) (ls : Array Slot), va_P D vwCl ((wv_ks cI cJ cZ cM h_ks a_ks h_fo ks_partCounts ks_states ks_latestRows ks_latestValues ks_moved) ++ (wv_fo cI cJ cZ cM h_fo a_fo fo_kinds fo_declared fo_count)) H → va_D A ((wv_ks cI cJ cZ cM h_ks a_ks h_fo ks_partCounts ks_states ks_latestRows ks_latestValues ks_moved) ++ (wv_fo cI cJ cZ cM h_fo a_fo fo_kinds fo_declared fo_count)) → va_S A s.heap H locs → lv_has ls 4 [(0, .ref h_ks), (1, .int p1), (2, .int v1.1), (3, .int v1.2)] → hk_lp (wb_ks_bringBack_4 ks_partCounts ks_states ks_latestRows ks_moved fo_kinds fo_count p1 post) n v1 → W p l e (headSpec (hk_ws yX2_bringBack cX2_bringBack 4 (some .int)) (hk_rm 3 76)).room s m ([.ref h_ks, .int p1] : List Value).toArray below meth c H locs 0 0 (MQ below (va_Qi post (hk_B D (A) (fun (u : (Nat → Int32) × (Nat → Int64) × (Nat → Int32) × Int32) => (wv_ks cI cJ cZ cM h_ks a_ks h_fo u.1 u.2.1 u.2.2.1 ks_latestValues u.2.2.2) ++ (wv_fo cI cJ cZ cM h_fo a_fo fo_kinds fo_declared fo_count))) (A)) ([.ref h_ks, .int p1] : List Value).toArray s 0 0 A) (F0 m 4 ls []) := by
    intro n
    induction n with
    | zero => intro v1 H locs ls hP hD hS hl h; exact False.elim h
    | succ n ih4 =>
      intro v1 H locs ls hP hD hS hl h
      have h : wb_ks_bringBack_4 ks_partCounts ks_states ks_latestRows ks_moved fo_kinds fo_count p1 post (hk_lp (wb_ks_bringBack_4 ks_partCounts ks_states ks_latestRows ks_moved fo_kinds fo_count p1 post) n) v1 := h
      generalize hk_lp (wb_ks_bringBack_4 ks_partCounts ks_states ks_latestRows ks_moved fo_kinds fo_count p1 post) n = K4 at h ih4
      unfold wb_ks_bringBack_4 at h
      refine lv_iload_n hx hb dX2_bringBack_4 rfl (lv_at hl 3 rfl) ?_
      refine lv_aload_n hx hb dX2_bringBack_5 rfl (lv_at hl 0 rfl) ?_
      refine va_get (D := D) (ci := 2) (v := .ref (a_ks 1)) (C := RX2) (T := TX2) (N := 6) hx hb hta ih_X2 hown hK hP 0 rfl rfl 1 (by decide) (hta _ hw_126) (fun _ h9 => h9) rfl dX2_bringBack_6 ?_
      refine lv_iload_n hx hb dX2_bringBack_9 rfl (lv_at hl 1 rfl) ?_
      refine va_iald hx hb hK hP 1 0 rfl rfl h.1 dX2_bringBack_10 ?_
      have h := h.2
      refine lv_icmp_ge (tgt := 37) hx hb dX2_bringBack_11 (by decide) (fun c2 => ?_) (fun c2 => ?_)
      · have h := h.1 c2
        refine lv_iconst (v := 0) hx hb dX2_bringBack_37 (by decide) ?_
        refine lv_istore_n (lv' := [(3, .int 0), (0, .ref h_ks), (1, .int p1), (2, .int v1.1)]) hx hb dX2_bringBack_38 rfl hl (by decide) rfl (fun ls hl => ?_)
        have P39 : ∀ (n : Nat) (v3 : Int32 × (Nat → Int64)) (H : Heap) (locs : List Loc) (ls : Array Slot), va_P D vwCl ((wv_ks cI cJ cZ cM h_ks a_ks h_fo ks_partCounts v3.2 ks_latestRows ks_latestValues ks_moved) ++ (wv_fo cI cJ cZ cM h_fo a_fo fo_kinds fo_declared fo_count)) H → va_D A ((wv_ks cI cJ cZ cM h_ks a_ks h_fo ks_partCounts v3.2 ks_latestRows ks_latestValues ks_moved) ++ (wv_fo cI cJ cZ cM h_fo a_fo fo_kinds fo_declared fo_count)) → va_S A s.heap H locs → lv_has ls 4 [(0, .ref h_ks), (1, .int p1), (2, .int v1.1), (3, .int v3.1)] → hk_lp (wb_ks_bringBack_39 ks_partCounts ks_latestRows ks_moved fo_kinds fo_count p1 post v1) n v3 → W p l e (headSpec (hk_ws yX2_bringBack cX2_bringBack 4 (some .int)) (hk_rm 3 76)).room s m ([.ref h_ks, .int p1] : List Value).toArray below meth c H locs 0 0 (MQ below (va_Qi post (hk_B D (A) (fun (u : (Nat → Int32) × (Nat → Int64) × (Nat → Int32) × Int32) => (wv_ks cI cJ cZ cM h_ks a_ks h_fo u.1 u.2.1 u.2.2.1 ks_latestValues u.2.2.2) ++ (wv_fo cI cJ cZ cM h_fo a_fo fo_kinds fo_declared fo_count))) (A)) ([.ref h_ks, .int p1] : List Value).toArray s 0 0 A) (F0 m 39 ls []) := by
          intro n
          induction n with
          | zero => intro v3 H locs ls hP hD hS hl h; exact False.elim h
          | succ n ih39 =>
            intro v3 H locs ls hP hD hS hl h
            have h : wb_ks_bringBack_39 ks_partCounts ks_latestRows ks_moved fo_kinds fo_count p1 post v1 (hk_lp (wb_ks_bringBack_39 ks_partCounts ks_latestRows ks_moved fo_kinds fo_count p1 post v1) n) v3 := h
            generalize hk_lp (wb_ks_bringBack_39 ks_partCounts ks_latestRows ks_moved fo_kinds fo_count p1 post v1) n = K39 at h ih39
            unfold wb_ks_bringBack_39 at h
            refine lv_iload_n hx hb dX2_bringBack_39 rfl (lv_at hl 3 rfl) ?_
            refine lv_aload_n hx hb dX2_bringBack_40 rfl (lv_at hl 0 rfl) ?_
            refine va_get (D := D) (ci := 2) (v := .ref h_fo) (C := RX2) (T := TX2) (N := 6) hx hb hta ih_X2 hown hK hP 0 rfl rfl 0 (by decide) (hta _ hw_125) (fun _ h9 => h9) rfl dX2_bringBack_41 ?_
            refine va_getN (D := D) (ci := 1) (v := .int fo_count) (C := RX1) (T := TX1) (N := 3) hx hb hta ih_X1 hown hK hP 5 rfl rfl 2 (by decide) (va_Nw.use rfl (hN.1 _ hn_109)) (fun _ h9 => h9) rfl dX2_bringBack_44 ?_
            refine lv_icmp_ge (tgt := 73) hx hb dX2_bringBack_47 (by decide) (fun c4 => ?_) (fun c4 => ?_)
            · have h := h.1 c4
              refine lv_aload_n hx hb dX2_bringBack_73 rfl (lv_at hl 0 rfl) ?_
              refine va_get (D := D) (ci := 2) (v := .ref (a_ks 3)) (C := RX2) (T := TX2) (N := 6) hx hb hta ih_X2 hown hK hP 0 rfl rfl 3 (by decide) (hta _ hw_128) (fun _ h9 => h9) rfl dX2_bringBack_74 ?_
              refine lv_iload_n hx hb dX2_bringBack_77 rfl (lv_at hl 1 rfl) ?_
              refine lv_iconst (v := 0) hx hb dX2_bringBack_78 (by decide) ?_
              refine vp_callSi (hk_runS (As := [.int p1, .int 0]) (rest := [.ref (a_ks 3)]) S0 mm_ks_slot (c_ks_slot l D cI cJ cZ cM p1 0 _ h) hw_402 hk_blR (hk_atR (hP.sub (ws' := ([] : va_W)) [] rfl) hK hN) ⟨rfl, rfl, Nat.le_of_ble_eq_true rfl, Nat.le_of_ble_eq_true rfl⟩ rfl hl.1 rfl (Nat.le_of_ble_eq_true rfl) dX2_bringBack_79 ⟨Nat.le_of_ble_eq_true rfl, Nat.le_of_ble_eq_true rfl⟩).run (fun r5 h => ?_)
              refine lv_aload_n hx hb dX2_bringBack_82 rfl (lv_at hl 0 rfl) ?_
              refine lv_iload_n hx hb dX2_bringBack_83 rfl (lv_at hl 1 rfl) ?_
              refine vp_callSi (hk_runV (As := [.int p1]) (rest := [.int r5, .ref (a_ks 3)]) S0 mm_ks_joinedLatestRow (c_ks_joinedLatestRow l D cI cJ cZ cM h_ks a_ks h_fo a_fo ks_partCounts v3.2 ks_latestRows ks_latestValues ks_moved fo_kinds fo_declared fo_count p1 _ h) hw_492 hk_blR (hk_atR hP hK hN) (va_recv hK hP (ci := 2) (q0 := 0) rfl rfl) ⟨rfl, rfl, Nat.le_of_ble_eq_true rfl, Nat.le_of_ble_eq_true rfl⟩ rfl hl.1 rfl (Nat.le_of_ble_eq_true rfl) dX2_bringBack_84 ⟨Nat.le_of_ble_eq_true rfl, Nat.le_of_ble_eq_true rfl⟩).run (fun r6 h => ?_)
              refine va_iast hx hb hK hP hD hS 3 0 rfl rfl h.1 dX2_bringBack_87 (fun H locs hP hD hS => ?_)
              have h := h.2
              have hP : va_P D vwCl ((wv_ks cI cJ cZ cM h_ks a_ks h_fo ks_partCounts v3.2 (upd ks_latestRows r5.toNatClampNeg r6) ks_latestValues ks_moved) ++ (wv_fo cI cJ cZ cM h_fo a_fo fo_kinds fo_declared fo_count)) H := hP
              have hD : va_D A ((wv_ks cI cJ cZ cM h_ks a_ks h_fo ks_partCounts v3.2 (upd ks_latestRows r5.toNatClampNeg r6) ks_latestValues ks_moved) ++ (wv_fo cI cJ cZ cM h_fo a_fo fo_kinds fo_declared fo_count)) := hD
              refine lv_aload_n hx hb dX2_bringBack_88 rfl (lv_at hl 0 rfl) ?_
              refine va_get (D := D) (ci := 2) (v := .ref (a_ks 1)) (C := RX2) (T := TX2) (N := 6) hx hb hta ih_X2 hown hK hP 0 rfl rfl 1 (by decide) (hta _ hw_126) (fun _ h9 => h9) rfl dX2_bringBack_89 ?_
              refine lv_iload_n hx hb dX2_bringBack_92 rfl (lv_at hl 1 rfl) ?_
              refine lv_iconst (v := 1) hx hb dX2_bringBack_93 (by decide) ?_
              refine va_iast hx hb hK hP hD hS 1 0 rfl rfl h.1 dX2_bringBack_94 (fun H locs hP hD hS => ?_)
              have h := h.2
              have hP : va_P D vwCl ((wv_ks cI cJ cZ cM h_ks a_ks h_fo (upd ks_partCounts p1.toNatClampNeg 1) v3.2 (upd ks_latestRows r5.toNatClampNeg r6) ks_latestValues ks_moved) ++ (wv_fo cI cJ cZ cM h_fo a_fo fo_kinds fo_declared fo_count)) H := hP
              have hD : va_D A ((wv_ks cI cJ cZ cM h_ks a_ks h_fo (upd ks_partCounts p1.toNatClampNeg 1) v3.2 (upd ks_latestRows r5.toNatClampNeg r6) ks_latestValues ks_moved) ++ (wv_fo cI cJ cZ cM h_fo a_fo fo_kinds fo_declared fo_count)) := hD
              refine lv_aload_n hx hb dX2_bringBack_95 rfl (lv_at hl 0 rfl) ?_
              refine lv_dup hx hb dX2_bringBack_96 rfl ?_
              refine va_get (D := D) (ci := 2) (v := .int ks_moved) (C := RX2) (T := TX2) (N := 6) hx hb hta ih_X2 hown hK hP 0 rfl rfl 5 (by decide) (hta _ hw_130) (fun _ h9 => h9) rfl dX2_bringBack_97 ?_
              refine lv_iload_n hx hb dX2_bringBack_100 rfl (lv_at hl 2 rfl) ?_
              refine lv_iadd hx hb dX2_bringBack_101 ?_
              refine lv_topi (fun x7 ex7 => ?_)
              have h := h x7 ex7
              refine va_put (D := D) (ci := 2) (v := .int x7) (ty := .int) (C := RX2) (T := TX2) (N := 6) hx hb hta ih_X2 tyX2 tyX2_ok nmX2 hown hK hP hD hS 0 rfl rfl 5 (by decide) (hta _ hw_130) (fun _ h9 => h9) rfl (by decide +kernel) rfl rfl (Nat.le_of_ble_eq_true rfl) dX2_bringBack_102 (fun H locs hP hD hS => ?_)
              have hP : va_P D vwCl ((wv_ks cI cJ cZ cM h_ks a_ks h_fo (upd ks_partCounts p1.toNatClampNeg 1) v3.2 (upd ks_latestRows r5.toNatClampNeg r6) ks_latestValues x7) ++ (wv_fo cI cJ cZ cM h_fo a_fo fo_kinds fo_declared fo_count)) H := hP
              have hD : va_D A ((wv_ks cI cJ cZ cM h_ks a_ks h_fo (upd ks_partCounts p1.toNatClampNeg 1) v3.2 (upd ks_latestRows r5.toNatClampNeg r6) ks_latestValues x7) ++ (wv_fo cI cJ cZ cM h_fo a_fo fo_kinds fo_declared fo_count)) := hD
              refine lv_iload_n hx hb dX2_bringBack_105 rfl (lv_at hl 2 rfl) ?_
              exact W.iret (v := v1.1) hx hb hr (fun t ht hW => ⟨⟨v1.1, (upd ks_partCounts p1.toNatClampNeg 1, v3.2, upd ks_latestRows r5.toNatClampNeg r6, x7), rfl, h, by rw [ht]; exact hP, hD⟩, hS.F ht⟩) hS.2.2 dX2_bringBack_106
            · have h := h.2 c4
              refine lv_aload_n hx hb dX2_bringBack_50 rfl (lv_at hl 0 rfl) ?_
              refine va_get (D := D) (ci := 2) (v := .ref (a_ks 2)) (C := RX2) (T := TX2) (N := 6) hx hb hta ih_X2 hown hK hP 0 rfl rfl 2 (by decide) (hta _ hw_127) (fun _ h9 => h9) rfl dX2_bringBack_51 ?_
              refine lv_iload_n hx hb dX2_bringBack_54 rfl (lv_at hl 1 rfl) ?_
              refine lv_iconst (v := 0) hx hb dX2_bringBack_55 (by decide) ?_
              refine lv_iload_n hx hb dX2_bringBack_56 rfl (lv_at hl 3 rfl) ?_
              refine vp_callSi (hk_runS (As := [.int p1, .int 0, .int v3.1]) (rest := [.ref (a_ks 2)]) S0 mm_ks_cell (c_ks_cell l D cI cJ cZ cM p1 0 v3.1 _ h) hw_357 hk_blR (hk_atR (hP.sub (ws' := ([] : va_W)) [] rfl) hK hN) ⟨rfl, rfl, Nat.le_of_ble_eq_true rfl, Nat.le_of_ble_eq_true rfl⟩ rfl hl.1 rfl (Nat.le_of_ble_eq_true rfl) dX2_bringBack_57 ⟨Nat.le_of_ble_eq_true rfl, Nat.le_of_ble_eq_true rfl⟩).run (fun r8 h => ?_)
              refine lv_aload_n hx hb dX2_bringBack_60 rfl (lv_at hl 0 rfl) ?_
              refine lv_iload_n hx hb dX2_bringBack_61 rfl (lv_at hl 1 rfl) ?_
              refine lv_iload_n hx hb dX2_bringBack_62 rfl (lv_at hl 3 rfl) ?_
              refine vp_callSl (hk_runV (As := [.int p1, .int v3.1]) (rest := [.int r8, .ref (a_ks 2)]) S0 mm_ks_joinedState (c_ks_joinedState l D cI cJ cZ cM h_ks a_ks h_fo a_fo ks_partCounts v3.2 ks_latestRows ks_latestValues ks_moved fo_kinds fo_declared fo_count p1 v3.1 _ h) hw_481 hk_blR (hk_atR hP hK hN) (va_recv hK hP (ci := 2) (q0 := 0) rfl rfl) ⟨rfl, rfl, Nat.le_of_ble_eq_true rfl, Nat.le_of_ble_eq_true rfl⟩ rfl hl.1 rfl (Nat.le_of_ble_eq_true rfl) dX2_bringBack_63 ⟨Nat.le_of_ble_eq_true rfl, Nat.le_of_ble_eq_true rfl⟩).run (fun r9 h => ?_)
              refine va_last hx hb hK hP hD hS 2 1 rfl rfl h.1 dX2_bringBack_66 (fun H locs hP hD hS => ?_)
              have h := h.2
              have hP : va_P D vwCl ((wv_ks cI cJ cZ cM h_ks a_ks h_fo ks_partCounts (vp_updL v3.2 r8.toNatClampNeg r9) ks_latestRows ks_latestValues ks_moved) ++ (wv_fo cI cJ cZ cM h_fo a_fo fo_kinds fo_declared fo_count)) H := hP
              have hD : va_D A ((wv_ks cI cJ cZ cM h_ks a_ks h_fo ks_partCounts (vp_updL v3.2 r8.toNatClampNeg r9) ks_latestRows ks_latestValues ks_moved) ++ (wv_fo cI cJ cZ cM h_fo a_fo fo_kinds fo_declared fo_count)) := hD
              obtain ⟨x10, ex10⟩ : ∃ y : Int32, y = v3.1 + 1 := ⟨_, rfl⟩
              have h := h x10 ex10
              refine lv_iinc (v := x10) (lv' := [(3, .int x10), (0, .ref h_ks), (1, .int p1), (2, .int v1.1)]) hx hb dX2_bringBack_67 hl (k := 3) rfl (by rw [ex10]; rfl) (by decide) rfl (fun ls hl => ?_)
              refine lv_goto (tgt := 39) hx hb dX2_bringBack_70 (by decide) ?_
              exact ih39 (x10, vp_updL v3.2 r8.toNatClampNeg r9) H locs ls hP hD hS (lv_sub hl [1, 2, 3, 0] rfl) h
        obtain ⟨n, h⟩ := h
        exact P39 n (0, ks_states) H locs ls hP hD hS (lv_sub hl [1, 2, 3, 0] rfl) h
      · have h := h.2 c2
        refine lv_aload_n hx hb dX2_bringBack_14 rfl (lv_at hl 0 rfl) ?_
        refine va_get (D := D) (ci := 2) (v := .ref (a_ks 3)) (C := RX2) (T := TX2) (N := 6) hx hb hta ih_X2 hown hK hP 0 rfl rfl 3 (by decide) (hta _ hw_128) (fun _ h9 => h9) rfl dX2_bringBack_15 ?_
        refine lv_iload_n hx hb dX2_bringBack_18 rfl (lv_at hl 1 rfl) ?_
        refine lv_iload_n hx hb dX2_bringBack_19 rfl (lv_at hl 3 rfl) ?_
        refine vp_callSi (hk_runS (As := [.int p1, .int v1.2]) (rest := [.ref (a_ks 3)]) S0 mm_ks_slot (c_ks_slot l D cI cJ cZ cM p1 v1.2 _ h) hw_402 hk_blR (hk_atR (hP.sub (ws' := ([] : va_W)) [] rfl) hK hN) ⟨rfl, rfl, Nat.le_of_ble_eq_true rfl, Nat.le_of_ble_eq_true rfl⟩ rfl hl.1 rfl (Nat.le_of_ble_eq_true rfl) dX2_bringBack_20 ⟨Nat.le_of_ble_eq_true rfl, Nat.le_of_ble_eq_true rfl⟩).run (fun r11 h => ?_)
        refine va_iald hx hb hK hP 3 0 rfl rfl h.1 dX2_bringBack_23 ?_
        have h := h.2
        refine lv_iconst (v := (-1)) hx hb dX2_bringBack_24 (by decide) ?_
        refine lv_icmp_eq (tgt := 31) hx hb dX2_bringBack_25 (by decide) (fun c12 => ?_) (fun c12 => ?_)
        · have h := h.1 c12
          obtain ⟨x13, ex13⟩ : ∃ y : Int32, y = v1.2 + 1 := ⟨_, rfl⟩
          have h := h x13 ex13
          refine lv_iinc (v := x13) (lv' := [(3, .int x13), (0, .ref h_ks), (1, .int p1), (2, .int v1.1)]) hx hb dX2_bringBack_31 hl (k := 3) rfl (by rw [ex13]; rfl) (by decide) rfl (fun ls hl => ?_)
          refine lv_goto (tgt := 4) hx hb dX2_bringBack_34 (by decide) ?_
          exact ih4 (v1.1, x13) H locs ls hP hD hS (lv_sub hl [1, 2, 3, 0] rfl) h
        · have h := h.2 c12
          obtain ⟨x14, ex14⟩ : ∃ y : Int32, y = v1.1 + 1 := ⟨_, rfl⟩
          have h := h x14 ex14
          refine lv_iinc (v := x14) (lv' := [(2, .int x14), (0, .ref h_ks), (1, .int p1), (3, .int v1.2)]) hx hb dX2_bringBack_28 hl (k := 2) rfl (by rw [ex14]; rfl) (by decide) rfl (fun ls hl => ?_)
          obtain ⟨x15, ex15⟩ : ∃ y : Int32, y = v1.2 + 1 := ⟨_, rfl⟩
          have h := h x15 ex15
          refine lv_iinc (v := x15) (lv' := [(3, .int x15), (2, .int x14), (0, .ref h_ks), (1, .int p1)]) hx hb dX2_bringBack_31 hl (k := 3) rfl (by rw [ex15]; rfl) (by decide) rfl (fun ls hl => ?_)
          refine lv_goto (tgt := 4) hx hb dX2_bringBack_34 (by decide) ?_
          exact ih4 (x14, x15) H locs ls hP hD hS (lv_sub hl [2, 3, 1, 0] rfl) h
  obtain ⟨n, h⟩ := h
  exact P4 n (0, 1) s.heap [] ls hP hD hS (lv_sub hl [2, 3, 1, 0] rfl) h
