def wb_ks_holdIn_10 (ks_partCounts : Nat → Int32) (ks_states : Nat → Int64) (ks_latestRows : Nat → Int32) (ks_latestValues : Nat → Int64) (fo_kinds : Nat → Int32) (fo_count : Int32) (v1 : Int32 × (Nat → Int64) × (Nat → Int32) × (Nat → Int64)) (K2 : (Int32 × (Nat → Int64) × (Nat → Int32) × (Nat → Int64)) → Prop) (K10 : (Int32 × (Nat → Int64)) → Prop) (v3 : Int32 × (Nat → Int64)) : Prop := (fo_count ≤ v3.1 → wp_ks_joinedLatestRow v1.1 ks_partCounts ks_latestRows (fun (r5 : Int32) => vp_in v1.1 100 ∧ (vp_in v1.1 100 ∧ (∀ x6 : Int64, x6 = ks_latestValues v1.1.toNatClampNeg → vp_in v1.1 100 ∧ (∀ x7 : Int32, x7 = v1.1 + 1 → K2 (x7, v3.2, upd v1.2.2.1 v1.1.toNatClampNeg r5, vp_updL v1.2.2.2 v1.1.toNatClampNeg x6)))))) ∧ (¬ fo_count ≤ v3.1 → wp_ks_joinedState v1.1 v3.1 ks_partCounts ks_states ks_latestRows fo_kinds (fun (r8 : Int64) => vp_in ((v1.1 * 6) + v3.1) 600 ∧ (∀ x9 : Int32, x9 = v3.1 + 1 → K10 (x9, vp_updL v3.2 ((v1.1 * 6) + v3.1).toNatClampNeg r8))))
def wb_ks_holdIn_2 (ks_partCounts : Nat → Int32) (ks_states : Nat → Int64) (ks_latestRows : Nat → Int32) (ks_latestValues : Nat → Int64) (fo_kinds : Nat → Int32) (fo_count : Int32) (post : ((Nat → Int64) × (Nat → Int32) × (Nat → Int64)) → Prop) (K2 : (Int32 × (Nat → Int64) × (Nat → Int32) × (Nat → Int64)) → Prop) (v1 : Int32 × (Nat → Int64) × (Nat → Int32) × (Nat → Int64)) : Prop := (100 ≤ v1.1 → post (v1.2.1, v1.2.2.1, v1.2.2.2)) ∧ (¬ 100 ≤ v1.1 → ∃ n, hk_lp (wb_ks_holdIn_10 ks_partCounts ks_states ks_latestRows ks_latestValues fo_kinds fo_count v1 K2) n (0, v1.2.1))
def wp_ks_holdIn  (ks_partCounts : Nat → Int32) (ks_states : Nat → Int64) (ks_latestRows : Nat → Int32) (ks_latestValues : Nat → Int64) (fo_kinds : Nat → Int32) (fo_count : Int32) (mk_states : Nat → Int64) (mk_latestRows : Nat → Int32) (mk_latestValues : Nat → Int64) (post : ((Nat → Int64) × (Nat → Int32) × (Nat → Int64)) → Prop) : Prop := ∃ n, hk_lp (wb_ks_holdIn_2 ks_partCounts ks_states ks_latestRows ks_latestValues fo_kinds fo_count post) n (0, mk_states, mk_latestRows, mk_latestValues)
theorem mm_ks_holdIn : hk_MV yX2_holdIn cX2_holdIn 4 none 1 := ⟨hw_697, hw_696, hw_53, hw_81, by decide +kernel⟩
set_option maxRecDepth 100000 in
set_option maxHeartbeats 4000000 in
theorem c_ks_holdIn (l : Launch) (D : va_G) (cI cJ cZ cM : ClassId) (h_ks : Nat) (a_ks : Nat → Nat) (h_fo : Nat) (a_fo : Nat → Nat) (h_mk : Nat) (a_mk : Nat → Nat) (r_mk_smalls : Nat) (r_mk_timers : Nat) (sz : Nat) (ks_partCounts : Nat → Int32) (ks_states : Nat → Int64) (ks_latestRows : Nat → Int32) (ks_latestValues : Nat → Int64) (ks_moved : Int32) (fo_kinds : Nat → Int32) (fo_declared : Nat → Int32) (fo_count : Int32) (mk_states : Nat → Int64) (mk_latestRows : Nat → Int32) (mk_latestValues : Nat → Int64) (mk_rows : Int32)  (post : ((Nat → Int64) × (Nat → Int32) × (Nat → Int64)) → Prop) (h : wp_ks_holdIn ks_partCounts ks_states ks_latestRows ks_latestValues fo_kinds fo_count mk_states mk_latestRows mk_latestValues post) : Met l yX2_holdIn (hk_ws yX2_holdIn cX2_holdIn 4 none) (hk_rm 3 76) (va_Pc [.ref h_ks, .ref h_mk] (hk_PM D (hk_ty cI cJ cZ cM) sz (wv_ks cI cJ cZ cM h_ks a_ks h_fo ks_partCounts ks_states ks_latestRows ks_latestValues ks_moved ++ (wv_fo cI cJ cZ cM h_fo a_fo fo_kinds fo_declared fo_count ++ (wv_mk cI cJ cZ cM h_mk a_mk mk_states mk_latestRows mk_latestValues r_mk_smalls r_mk_timers mk_rows))))) (va_Qv post (hk_B D (va_A (wv_ks cI cJ cZ cM h_ks a_ks h_fo ks_partCounts ks_states ks_latestRows ks_latestValues ks_moved ++ (wv_fo cI cJ cZ cM h_fo a_fo fo_kinds fo_declared fo_count ++ (wv_mk cI cJ cZ cM h_mk a_mk mk_states mk_latestRows mk_latestValues r_mk_smalls r_mk_timers mk_rows))) sz) (fun (u : (Nat → Int64) × (Nat → Int32) × (Nat → Int64)) => wv_ks cI cJ cZ cM h_ks a_ks h_fo ks_partCounts ks_states ks_latestRows ks_latestValues ks_moved ++ (wv_fo cI cJ cZ cM h_fo a_fo fo_kinds fo_declared fo_count ++ (wv_mk cI cJ cZ cM h_mk a_mk u.1 u.2.1 u.2.2 r_mk_smalls r_mk_timers mk_rows)))) (va_A (wv_ks cI cJ cZ cM h_ks a_ks h_fo ks_partCounts ks_states ks_latestRows ks_latestValues ks_moved ++ (wv_fo cI cJ cZ cM h_fo a_fo fo_kinds fo_declared fo_count ++ (wv_mk cI cJ cZ cM h_mk a_mk mk_states mk_latestRows mk_latestValues r_mk_smalls r_mk_timers mk_rows))) sz)) 0 0 (va_A (wv_ks cI cJ cZ cM h_ks a_ks h_fo ks_partCounts ks_states ks_latestRows ks_latestValues ks_moved ++ (wv_fo cI cJ cZ cM h_fo a_fo fo_kinds fo_declared fo_count ++ (wv_mk cI cJ cZ cM h_mk a_mk mk_states mk_latestRows mk_latestValues r_mk_smalls r_mk_timers mk_rows))) sz) := by
  refine Met.ofW (cc := cX2_holdIn) (maxL := 4) (ret := none) (by decide) rfl ?_
  intro p e s m args below meth c s₁ B hml hv
  obtain ⟨rfl, hsz, hP, hK, hD0, hN⟩ := hv
  have hx := B.exec
  have hb := B.bytes
  have hr := B.returns
  have hts := atoms_spec (ws := hk_ws yX2_holdIn cX2_holdIn 4 none) B.pre
  have hta : ∀ w ∈ hk_all, w.before ([.ref h_ks, .ref h_mk] : List Value).toArray s = true := fun w hw => hts w (List.mem_cons_of_mem _ hw)
  have hown : s.vm.findClass RX2 = some m.cls := findClass_of_methodNamed B.named
  have hlocks := B.notSynchronized
  have S0 : CallFix p m c cX2_holdIn 4 s ([.ref h_ks, .ref h_mk] : List Value).toArray hk_all RX2 := ⟨hx, hb, hml, hown, hta⟩
  subst hsz
  have hD := hD0.self (sz := s.heap.size)
  generalize hAe : va_A (wv_ks cI cJ cZ cM h_ks a_ks h_fo ks_partCounts ks_states ks_latestRows ks_latestValues ks_moved ++ (wv_fo cI cJ cZ cM h_fo a_fo fo_kinds fo_declared fo_count ++ (wv_mk cI cJ cZ cM h_mk a_mk mk_states mk_latestRows mk_latestValues r_mk_smalls r_mk_timers mk_rows))) s.heap.size = A at hD ⊢
  have hA : ∀ q : Nat, s.heap.size ≤ q → A q := fun q h => by rw [← hAe]; exact Or.inr h
  have hS : va_S A s.heap s.heap [] := va_S.rf
  have hl := lv_entry ([.ref h_ks, .ref h_mk]) (n := 4) (Nat.le_of_ble_eq_true rfl)
  rw [lg_entry_eq]
  generalize (lg_sl ([.ref h_ks, .ref h_mk]) ++ List.replicate (4 - (lg_sl ([.ref h_ks, .ref h_mk])).length) Slot.unset).toArray = ls at hl ⊢
  have hl : lv_has ls 4 [(0, .ref h_ks), (1, .ref h_mk)] := hl
  unfold wp_ks_holdIn at h
  refine lv_iconst (v := 0) hx hb dX2_holdIn_0 (by decide) ?_
  refine lv_istore_n (lv' := [(2, .int 0), (0, .ref h_ks), (1, .ref h_mk)]) hx hb dX2_holdIn_1 rfl hl (by decide) rfl (fun ls hl => ?_)
  have P2 : ∀ (n : Nat) (v1 : Int32 × (Nat → Int64) × (Nat → Int32) × (Nat → Int64)) (H : Heap) (locs : List Loc) (ls : Array Slot), va_P D vwCl (wv_ks cI cJ cZ cM h_ks a_ks h_fo ks_partCounts ks_states ks_latestRows ks_latestValues ks_moved ++ (wv_fo cI cJ cZ cM h_fo a_fo fo_kinds fo_declared fo_count ++ (wv_mk cI cJ cZ cM h_mk a_mk v1.2.1 v1.2.2.1 v1.2.2.2 r_mk_smalls r_mk_timers mk_rows))) H → va_D A (wv_ks cI cJ cZ cM h_ks a_ks h_fo ks_partCounts ks_states ks_latestRows ks_latestValues ks_moved ++ (wv_fo cI cJ cZ cM h_fo a_fo fo_kinds fo_declared fo_count ++ (wv_mk cI cJ cZ cM h_mk a_mk v1.2.1 v1.2.2.1 v1.2.2.2 r_mk_smalls r_mk_timers mk_rows))) → va_S A s.heap H locs → lv_has ls 4 [(0, .ref h_ks), (1, .ref h_mk), (2, .int v1.1)] → hk_lp (wb_ks_holdIn_2 ks_partCounts ks_states ks_latestRows ks_latestValues fo_kinds fo_count post) n v1 → W p l e (headSpec (hk_ws yX2_holdIn cX2_holdIn 4 none) (hk_rm 3 76)).room s m ([.ref h_ks, .ref h_mk] : List Value).toArray below meth c H locs 0 0 (MQ below (va_Qv post (hk_B D (A) (fun (u : (Nat → Int64) × (Nat → Int32) × (Nat → Int64)) => wv_ks cI cJ cZ cM h_ks a_ks h_fo ks_partCounts ks_states ks_latestRows ks_latestValues ks_moved ++ (wv_fo cI cJ cZ cM h_fo a_fo fo_kinds fo_declared fo_count ++ (wv_mk cI cJ cZ cM h_mk a_mk u.1 u.2.1 u.2.2 r_mk_smalls r_mk_timers mk_rows)))) (A)) ([.ref h_ks, .ref h_mk] : List Value).toArray s 0 0 A) (F0 m 2 ls []) := by
    intro n
    induction n with
    | zero => intro v1 H locs ls hP hD hS hl h; exact False.elim h
    | succ n ih2 =>
      intro v1 H locs ls hP hD hS hl h
      have h : wb_ks_holdIn_2 ks_partCounts ks_states ks_latestRows ks_latestValues fo_kinds fo_count post (hk_lp (wb_ks_holdIn_2 ks_partCounts ks_states ks_latestRows ks_latestValues fo_kinds fo_count post) n) v1 := h
      generalize hk_lp (wb_ks_holdIn_2 ks_partCounts ks_states ks_latestRows ks_latestValues fo_kinds fo_count post) n = K2 at h ih2
      unfold wb_ks_holdIn_2 at h
      refine lv_iload_n hx hb dX2_holdIn_2 rfl (lv_at hl 2 rfl) ?_
      refine lv_bipush (v := 100) hx hb dX2_holdIn_3 (by decide) ?_
      refine lv_icmp_ge (tgt := 73) hx hb dX2_holdIn_5 (by decide) (fun c2 => ?_) (fun c2 => ?_)
      · have h := h.1 c2
        exact W.vret hx hb hr (fun t ht hW => ⟨⟨(v1.2.1, v1.2.2.1, v1.2.2.2), rfl, h, by rw [ht]; exact hP, hD⟩, hS.F ht⟩) hS.2.2 dX2_holdIn_73
      · have h := h.2 c2
        refine lv_iconst (v := 0) hx hb dX2_holdIn_8 (by decide) ?_
        refine lv_istore_n (lv' := [(3, .int 0), (0, .ref h_ks), (1, .ref h_mk), (2, .int v1.1)]) hx hb dX2_holdIn_9 rfl hl (by decide) rfl (fun ls hl => ?_)
        have P10 : ∀ (n : Nat) (v3 : Int32 × (Nat → Int64)) (H : Heap) (locs : List Loc) (ls : Array Slot), va_P D vwCl (wv_ks cI cJ cZ cM h_ks a_ks h_fo ks_partCounts ks_states ks_latestRows ks_latestValues ks_moved ++ (wv_fo cI cJ cZ cM h_fo a_fo fo_kinds fo_declared fo_count ++ (wv_mk cI cJ cZ cM h_mk a_mk v3.2 v1.2.2.1 v1.2.2.2 r_mk_smalls r_mk_timers mk_rows))) H → va_D A (wv_ks cI cJ cZ cM h_ks a_ks h_fo ks_partCounts ks_states ks_latestRows ks_latestValues ks_moved ++ (wv_fo cI cJ cZ cM h_fo a_fo fo_kinds fo_declared fo_count ++ (wv_mk cI cJ cZ cM h_mk a_mk v3.2 v1.2.2.1 v1.2.2.2 r_mk_smalls r_mk_timers mk_rows))) → va_S A s.heap H locs → lv_has ls 4 [(0, .ref h_ks), (1, .ref h_mk), (2, .int v1.1), (3, .int v3.1)] → hk_lp (wb_ks_holdIn_10 ks_partCounts ks_states ks_latestRows ks_latestValues fo_kinds fo_count v1 K2) n v3 → W p l e (headSpec (hk_ws yX2_holdIn cX2_holdIn 4 none) (hk_rm 3 76)).room s m ([.ref h_ks, .ref h_mk] : List Value).toArray below meth c H locs 0 0 (MQ below (va_Qv post (hk_B D (A) (fun (u : (Nat → Int64) × (Nat → Int32) × (Nat → Int64)) => wv_ks cI cJ cZ cM h_ks a_ks h_fo ks_partCounts ks_states ks_latestRows ks_latestValues ks_moved ++ (wv_fo cI cJ cZ cM h_fo a_fo fo_kinds fo_declared fo_count ++ (wv_mk cI cJ cZ cM h_mk a_mk u.1 u.2.1 u.2.2 r_mk_smalls r_mk_timers mk_rows)))) (A)) ([.ref h_ks, .ref h_mk] : List Value).toArray s 0 0 A) (F0 m 10 ls []) := by
          intro n
          induction n with
          | zero => intro v3 H locs ls hP hD hS hl h; exact False.elim h
          | succ n ih10 =>
            intro v3 H locs ls hP hD hS hl h
            have h : wb_ks_holdIn_10 ks_partCounts ks_states ks_latestRows ks_latestValues fo_kinds fo_count v1 K2 (hk_lp (wb_ks_holdIn_10 ks_partCounts ks_states ks_latestRows ks_latestValues fo_kinds fo_count v1 K2) n) v3 := h
            generalize hk_lp (wb_ks_holdIn_10 ks_partCounts ks_states ks_latestRows ks_latestValues fo_kinds fo_count v1 K2) n = K10 at h ih10
            unfold wb_ks_holdIn_10 at h
            refine lv_iload_n hx hb dX2_holdIn_10 rfl (lv_at hl 3 rfl) ?_
            refine lv_aload_n hx hb dX2_holdIn_11 rfl (lv_at hl 0 rfl) ?_
            refine va_get (D := D) (ci := 2) (v := .ref h_fo) (C := RX2) (T := TX2) (N := 6) hx hb hta ih_X2 hown hK hP 0 rfl rfl 0 (by decide) (hta _ hw_125) (fun _ h9 => h9) rfl dX2_holdIn_12 ?_
            refine va_getN (D := D) (ci := 1) (v := .int fo_count) (C := RX1) (T := TX1) (N := 3) hx hb hta ih_X1 hown hK hP 5 rfl rfl 2 (by decide) (va_Nw.use rfl (hN.1 _ hn_109)) (fun _ h9 => h9) rfl dX2_holdIn_15 ?_
            refine lv_icmp_ge (tgt := 44) hx hb dX2_holdIn_18 (by decide) (fun c4 => ?_) (fun c4 => ?_)
            · have h := h.1 c4
              refine lv_aload_n hx hb dX2_holdIn_44 rfl (lv_at hl 1 rfl) ?_
              refine va_getN (D := D) (ci := 4) (v := .ref (a_mk 1)) (C := RX4) (T := TX4) (N := 6) hx hb hta ih_X4 hown hK hP 8 rfl rfl 1 (by decide) (va_Nw.use rfl (hN.1 _ hn_664)) (fun _ h9 => h9) rfl dX2_holdIn_45 ?_
              refine lv_iload_n hx hb dX2_holdIn_48 rfl (lv_at hl 2 rfl) ?_
              refine lv_aload_n hx hb dX2_holdIn_49 rfl (lv_at hl 0 rfl) ?_
              refine lv_iload_n hx hb dX2_holdIn_50 rfl (lv_at hl 2 rfl) ?_
              refine vp_callSi (hk_runV (As := [.int v1.1]) (rest := [.int v1.1, .ref (a_mk 1)]) S0 mm_ks_joinedLatestRow (c_ks_joinedLatestRow l D cI cJ cZ cM h_ks a_ks h_fo a_fo ks_partCounts ks_states ks_latestRows ks_latestValues ks_moved fo_kinds fo_declared fo_count v1.1 _ h) hw_492 hk_blR (hk_atR (hP.sub (ws' := (wv_ks cI cJ cZ cM h_ks a_ks h_fo ks_partCounts ks_states ks_latestRows ks_latestValues ks_moved) ++ (wv_fo cI cJ cZ cM h_fo a_fo fo_kinds fo_declared fo_count)) [0, 1, 2, 3, 4, 5, 6, 7] rfl) hK hN) (va_recv hK hP (ci := 2) (q0 := 0) rfl rfl) ⟨rfl, rfl, Nat.le_of_ble_eq_true rfl, Nat.le_of_ble_eq_true rfl⟩ rfl hl.1 rfl (Nat.le_of_ble_eq_true rfl) dX2_holdIn_51 ⟨Nat.le_of_ble_eq_true rfl, Nat.le_of_ble_eq_true rfl⟩).run (fun r5 h => ?_)
              refine va_iast hx hb hK hP hD hS 10 0 rfl rfl h.1 dX2_holdIn_54 (fun H locs hP hD hS => ?_)
              have h := h.2
              have hP : va_P D vwCl (wv_ks cI cJ cZ cM h_ks a_ks h_fo ks_partCounts ks_states ks_latestRows ks_latestValues ks_moved ++ (wv_fo cI cJ cZ cM h_fo a_fo fo_kinds fo_declared fo_count ++ (wv_mk cI cJ cZ cM h_mk a_mk v3.2 (upd v1.2.2.1 v1.1.toNatClampNeg r5) v1.2.2.2 r_mk_smalls r_mk_timers mk_rows))) H := hP
              have hD : va_D A (wv_ks cI cJ cZ cM h_ks a_ks h_fo ks_partCounts ks_states ks_latestRows ks_latestValues ks_moved ++ (wv_fo cI cJ cZ cM h_fo a_fo fo_kinds fo_declared fo_count ++ (wv_mk cI cJ cZ cM h_mk a_mk v3.2 (upd v1.2.2.1 v1.1.toNatClampNeg r5) v1.2.2.2 r_mk_smalls r_mk_timers mk_rows))) := hD
              refine lv_aload_n hx hb dX2_holdIn_55 rfl (lv_at hl 1 rfl) ?_
              refine va_getN (D := D) (ci := 4) (v := .ref (a_mk 2)) (C := RX4) (T := TX4) (N := 6) hx hb hta ih_X4 hown hK hP 8 rfl rfl 2 (by decide) (va_Nw.use rfl (hN.1 _ hn_666)) (fun _ h9 => h9) rfl dX2_holdIn_56 ?_
              refine lv_iload_n hx hb dX2_holdIn_59 rfl (lv_at hl 2 rfl) ?_
              refine lv_aload_n hx hb dX2_holdIn_60 rfl (lv_at hl 0 rfl) ?_
              refine va_get (D := D) (ci := 2) (v := .ref (a_ks 4)) (C := RX2) (T := TX2) (N := 6) hx hb hta ih_X2 hown hK hP 0 rfl rfl 4 (by decide) (hta _ hw_129) (fun _ h9 => h9) rfl dX2_holdIn_61 ?_
              refine lv_iload_n hx hb dX2_holdIn_64 rfl (lv_at hl 2 rfl) ?_
              refine va_lald hx hb hK hP 4 1 rfl rfl h.1 dX2_holdIn_65 ?_
              have h := h.2
              refine lv_topl (fun x6 ex6 => ?_)
              have h := h x6 ex6
              refine va_last hx hb hK hP hD hS 11 1 rfl rfl h.1 dX2_holdIn_66 (fun H locs hP hD hS => ?_)
              have h := h.2
              have hP : va_P D vwCl (wv_ks cI cJ cZ cM h_ks a_ks h_fo ks_partCounts ks_states ks_latestRows ks_latestValues ks_moved ++ (wv_fo cI cJ cZ cM h_fo a_fo fo_kinds fo_declared fo_count ++ (wv_mk cI cJ cZ cM h_mk a_mk v3.2 (upd v1.2.2.1 v1.1.toNatClampNeg r5) (vp_updL v1.2.2.2 v1.1.toNatClampNeg x6) r_mk_smalls r_mk_timers mk_rows))) H := hP
              have hD : va_D A (wv_ks cI cJ cZ cM h_ks a_ks h_fo ks_partCounts ks_states ks_latestRows ks_latestValues ks_moved ++ (wv_fo cI cJ cZ cM h_fo a_fo fo_kinds fo_declared fo_count ++ (wv_mk cI cJ cZ cM h_mk a_mk v3.2 (upd v1.2.2.1 v1.1.toNatClampNeg r5) (vp_updL v1.2.2.2 v1.1.toNatClampNeg x6) r_mk_smalls r_mk_timers mk_rows))) := hD
              obtain ⟨x7, ex7⟩ : ∃ y : Int32, y = v1.1 + 1 := ⟨_, rfl⟩
              have h := h x7 ex7
              refine lv_iinc (v := x7) (lv' := [(2, .int x7), (0, .ref h_ks), (1, .ref h_mk), (3, .int v3.1)]) hx hb dX2_holdIn_67 hl (k := 2) rfl (by rw [ex7]; rfl) (by decide) rfl (fun ls hl => ?_)
              refine lv_goto (tgt := 2) hx hb dX2_holdIn_70 (by decide) ?_
              exact ih2 (x7, v3.2, upd v1.2.2.1 v1.1.toNatClampNeg r5, vp_updL v1.2.2.2 v1.1.toNatClampNeg x6) H locs ls hP hD hS (lv_sub hl [1, 2, 0] rfl) h
            · have h := h.2 c4
              refine lv_aload_n hx hb dX2_holdIn_21 rfl (lv_at hl 1 rfl) ?_
              refine va_getN (D := D) (ci := 4) (v := .ref (a_mk 0)) (C := RX4) (T := TX4) (N := 6) hx hb hta ih_X4 hown hK hP 8 rfl rfl 0 (by decide) (va_Nw.use rfl (hN.1 _ hn_662)) (fun _ h9 => h9) rfl dX2_holdIn_22 ?_
              refine lv_iload_n hx hb dX2_holdIn_25 rfl (lv_at hl 2 rfl) ?_
              refine lv_bipush (v := 6) hx hb dX2_holdIn_26 (by decide) ?_
              refine lv_imul hx hb dX2_holdIn_28 ?_
              refine lv_iload_n hx hb dX2_holdIn_29 rfl (lv_at hl 3 rfl) ?_
              refine lv_iadd hx hb dX2_holdIn_30 ?_
              refine lv_aload_n hx hb dX2_holdIn_31 rfl (lv_at hl 0 rfl) ?_
              refine lv_iload_n hx hb dX2_holdIn_32 rfl (lv_at hl 2 rfl) ?_
              refine lv_iload_n hx hb dX2_holdIn_33 rfl (lv_at hl 3 rfl) ?_
              refine vp_callSl (hk_runV (As := [.int v1.1, .int v3.1]) (rest := [.int ((v1.1 * 6) + v3.1), .ref (a_mk 0)]) S0 mm_ks_joinedState (c_ks_joinedState l D cI cJ cZ cM h_ks a_ks h_fo a_fo ks_partCounts ks_states ks_latestRows ks_latestValues ks_moved fo_kinds fo_declared fo_count v1.1 v3.1 _ h) hw_481 hk_blR (hk_atR (hP.sub (ws' := (wv_ks cI cJ cZ cM h_ks a_ks h_fo ks_partCounts ks_states ks_latestRows ks_latestValues ks_moved) ++ (wv_fo cI cJ cZ cM h_fo a_fo fo_kinds fo_declared fo_count)) [0, 1, 2, 3, 4, 5, 6, 7] rfl) hK hN) (va_recv hK hP (ci := 2) (q0 := 0) rfl rfl) ⟨rfl, rfl, Nat.le_of_ble_eq_true rfl, Nat.le_of_ble_eq_true rfl⟩ rfl hl.1 rfl (Nat.le_of_ble_eq_true rfl) dX2_holdIn_34 ⟨Nat.le_of_ble_eq_true rfl, Nat.le_of_ble_eq_true rfl⟩).run (fun r8 h => ?_)
              refine va_last hx hb hK hP hD hS 9 1 rfl rfl h.1 dX2_holdIn_37 (fun H locs hP hD hS => ?_)
              have h := h.2
              have hP : va_P D vwCl (wv_ks cI cJ cZ cM h_ks a_ks h_fo ks_partCounts ks_states ks_latestRows ks_latestValues ks_moved ++ (wv_fo cI cJ cZ cM h_fo a_fo fo_kinds fo_declared fo_count ++ (wv_mk cI cJ cZ cM h_mk a_mk (vp_updL v3.2 ((v1.1 * 6) + v3.1).toNatClampNeg r8) v1.2.2.1 v1.2.2.2 r_mk_smalls r_mk_timers mk_rows))) H := hP
              have hD : va_D A (wv_ks cI cJ cZ cM h_ks a_ks h_fo ks_partCounts ks_states ks_latestRows ks_latestValues ks_moved ++ (wv_fo cI cJ cZ cM h_fo a_fo fo_kinds fo_declared fo_count ++ (wv_mk cI cJ cZ cM h_mk a_mk (vp_updL v3.2 ((v1.1 * 6) + v3.1).toNatClampNeg r8) v1.2.2.1 v1.2.2.2 r_mk_smalls r_mk_timers mk_rows))) := hD
              obtain ⟨x9, ex9⟩ : ∃ y : Int32, y = v3.1 + 1 := ⟨_, rfl⟩
              have h := h x9 ex9
              refine lv_iinc (v := x9) (lv' := [(3, .int x9), (0, .ref h_ks), (1, .ref h_mk), (2, .int v1.1)]) hx hb dX2_holdIn_38 hl (k := 3) rfl (by rw [ex9]; rfl) (by decide) rfl (fun ls hl => ?_)
              refine lv_goto (tgt := 10) hx hb dX2_holdIn_41 (by decide) ?_
              exact ih10 (x9, vp_updL v3.2 ((v1.1 * 6) + v3.1).toNatClampNeg r8) H locs ls hP hD hS (lv_sub hl [1, 2, 3, 0] rfl) h
        obtain ⟨n, h⟩ := h
        exact P10 n (0, v1.2.1) H locs ls hP hD hS (lv_sub hl [1, 2, 3, 0] rfl) h
  obtain ⟨n, h⟩ := h
  exact P2 n (0, mk_states, mk_latestRows, mk_latestValues) s.heap [] ls hP hD hS (lv_sub hl [1, 2, 0] rfl) h
def wb_ks_takeFrom_14 (fo_count : Int32) (mk_states : Nat → Int64) (mk_latestRows : Nat → Int32) (mk_latestValues : Nat → Int64) (v2 : Int32 × (Nat → Int64) × (Nat → Int32) × (Nat → Int64)) (K6 : (Int32 × (Nat → Int64) × (Nat → Int32) × (Nat → Int64)) → Prop) (K14 : (Int32 × (Nat → Int64)) → Prop) (v4 : Int32 × (Nat → Int64)) : Prop := (fo_count ≤ v4.1 → wp_ks_slot v2.1 0 (fun (r6 : Int32) => vp_in v2.1 100 ∧ (∀ x7 : Int32, x7 = mk_latestRows v2.1.toNatClampNeg → vp_in r6 800 ∧ (vp_in v2.1 100 ∧ (∀ x8 : Int64, x8 = mk_latestValues v2.1.toNatClampNeg → vp_in v2.1 100 ∧ (∀ x9 : Int32, x9 = v2.1 + 1 → K6 (x9, v4.2, upd v2.2.2.1 r6.toNatClampNeg x7, vp_updL v2.2.2.2 v2.1.toNatClampNeg x8))))))) ∧ (¬ fo_count ≤ v4.1 → wp_ks_cell v2.1 0 v4.1 (fun (r10 : Int32) => vp_in ((v2.1 * 6) + v4.1) 600 ∧ (∀ x11 : Int64, x11 = mk_states ((v2.1 * 6) + v4.1).toNatClampNeg → vp_in r10 4800 ∧ (∀ x12 : Int32, x12 = v4.1 + 1 → K14 (x12, vp_updL v4.2 r10.toNatClampNeg x11)))))
def wb_ks_takeFrom_6 (fo_count : Int32) (mk_states : Nat → Int64) (mk_latestRows : Nat → Int32) (mk_latestValues : Nat → Int64) (post : ((Nat → Int32) × (Nat → Int64) × (Nat → Int32) × (Nat → Int64)) → Prop) (w1 : (Nat → Int32)) (K6 : (Int32 × (Nat → Int64) × (Nat → Int32) × (Nat → Int64)) → Prop) (v2 : Int32 × (Nat → Int64) × (Nat → Int32) × (Nat → Int64)) : Prop := (100 ≤ v2.1 → post (w1, v2.2.1, v2.2.2.1, v2.2.2.2)) ∧ (¬ 100 ≤ v2.1 → ∃ n, hk_lp (wb_ks_takeFrom_14 fo_count mk_states mk_latestRows mk_latestValues v2 K6) n (0, v2.2.1))
def wp_ks_takeFrom  (ks_states : Nat → Int64) (ks_latestRows : Nat → Int32) (ks_latestValues : Nat → Int64) (fo_count : Int32) (mk_states : Nat → Int64) (mk_latestRows : Nat → Int32) (mk_latestValues : Nat → Int64) (post : ((Nat → Int32) × (Nat → Int64) × (Nat → Int32) × (Nat → Int64)) → Prop) : Prop := wp_ks_makeAllOne (fun (w1 : (Nat → Int32)) => ∃ n, hk_lp (wb_ks_takeFrom_6 fo_count mk_states mk_latestRows mk_latestValues post w1) n (0, ks_states, ks_latestRows, ks_latestValues))
theorem mm_ks_takeFrom : hk_MV yX2_takeFrom cX2_takeFrom 4 none 1 := ⟨hw_705, hw_704, hw_54, hw_81, by decide +kernel⟩
set_option maxRecDepth 100000 in
set_option maxHeartbeats 4000000 in
theorem c_ks_takeFrom (l : Launch) (D : va_G) (cI cJ cZ cM : ClassId) (h_ks : Nat) (a_ks : Nat → Nat) (h_fo : Nat) (a_fo : Nat → Nat) (h_mk : Nat) (a_mk : Nat → Nat) (r_mk_smalls : Nat) (r_mk_timers : Nat) (sz : Nat) (ks_partCounts : Nat → Int32) (ks_states : Nat → Int64) (ks_latestRows : Nat → Int32) (ks_latestValues : Nat → Int64) (ks_moved : Int32) (fo_kinds : Nat → Int32) (fo_declared : Nat → Int32) (fo_count : Int32) (mk_states : Nat → Int64) (mk_latestRows : Nat → Int32) (mk_latestValues : Nat → Int64) (mk_rows : Int32)  (post : ((Nat → Int32) × (Nat → Int64) × (Nat → Int32) × (Nat → Int64)) → Prop) (h : wp_ks_takeFrom ks_states ks_latestRows ks_latestValues fo_count mk_states mk_latestRows mk_latestValues post) : Met l yX2_takeFrom (hk_ws yX2_takeFrom cX2_takeFrom 4 none) (hk_rm 2 43) (va_Pc [.ref h_ks, .ref h_mk] (hk_PM D (hk_ty cI cJ cZ cM) sz (wv_ks cI cJ cZ cM h_ks a_ks h_fo ks_partCounts ks_states ks_latestRows ks_latestValues ks_moved ++ (wv_fo cI cJ cZ cM h_fo a_fo fo_kinds fo_declared fo_count ++ (wv_mk cI cJ cZ cM h_mk a_mk mk_states mk_latestRows mk_latestValues r_mk_smalls r_mk_timers mk_rows))))) (va_Qv post (hk_B D (va_A (wv_ks cI cJ cZ cM h_ks a_ks h_fo ks_partCounts ks_states ks_latestRows ks_latestValues ks_moved ++ (wv_fo cI cJ cZ cM h_fo a_fo fo_kinds fo_declared fo_count ++ (wv_mk cI cJ cZ cM h_mk a_mk mk_states mk_latestRows mk_latestValues r_mk_smalls r_mk_timers mk_rows))) sz) (fun (u : (Nat → Int32) × (Nat → Int64) × (Nat → Int32) × (Nat → Int64)) => wv_ks cI cJ cZ cM h_ks a_ks h_fo u.1 u.2.1 u.2.2.1 u.2.2.2 ks_moved ++ (wv_fo cI cJ cZ cM h_fo a_fo fo_kinds fo_declared fo_count ++ (wv_mk cI cJ cZ cM h_mk a_mk mk_states mk_latestRows mk_latestValues r_mk_smalls r_mk_timers mk_rows)))) (va_A (wv_ks cI cJ cZ cM h_ks a_ks h_fo ks_partCounts ks_states ks_latestRows ks_latestValues ks_moved ++ (wv_fo cI cJ cZ cM h_fo a_fo fo_kinds fo_declared fo_count ++ (wv_mk cI cJ cZ cM h_mk a_mk mk_states mk_latestRows mk_latestValues r_mk_smalls r_mk_timers mk_rows))) sz)) 0 0 (va_A (wv_ks cI cJ cZ cM h_ks a_ks h_fo ks_partCounts ks_states ks_latestRows ks_latestValues ks_moved ++ (wv_fo cI cJ cZ cM h_fo a_fo fo_kinds fo_declared fo_count ++ (wv_mk cI cJ cZ cM h_mk a_mk mk_states mk_latestRows mk_latestValues r_mk_smalls r_mk_timers mk_rows))) sz) := by
  refine Met.ofW (cc := cX2_takeFrom) (maxL := 4) (ret := none) (by decide) rfl ?_
  intro p e s m args below meth c s₁ B hml hv
  obtain ⟨rfl, hsz, hP, hK, hD0, hN⟩ := hv
  have hx := B.exec
  have hb := B.bytes
  have hr := B.returns
  have hts := atoms_spec (ws := hk_ws yX2_takeFrom cX2_takeFrom 4 none) B.pre
  have hta : ∀ w ∈ hk_all, w.before ([.ref h_ks, .ref h_mk] : List Value).toArray s = true := fun w hw => hts w (List.mem_cons_of_mem _ hw)
  have hown : s.vm.findClass RX2 = some m.cls := findClass_of_methodNamed B.named
  have hlocks := B.notSynchronized
  have S0 : CallFix p m c cX2_takeFrom 4 s ([.ref h_ks, .ref h_mk] : List Value).toArray hk_all RX2 := ⟨hx, hb, hml, hown, hta⟩
  subst hsz
  have hD := hD0.self (sz := s.heap.size)
  generalize hAe : va_A (wv_ks cI cJ cZ cM h_ks a_ks h_fo ks_partCounts ks_states ks_latestRows ks_latestValues ks_moved ++ (wv_fo cI cJ cZ cM h_fo a_fo fo_kinds fo_declared fo_count ++ (wv_mk cI cJ cZ cM h_mk a_mk mk_states mk_latestRows mk_latestValues r_mk_smalls r_mk_timers mk_rows))) s.heap.size = A at hD ⊢
  have hA : ∀ q : Nat, s.heap.size ≤ q → A q := fun q h => by rw [← hAe]; exact Or.inr h
  have hS : va_S A s.heap s.heap [] := va_S.rf
  have hl := lv_entry ([.ref h_ks, .ref h_mk]) (n := 4) (Nat.le_of_ble_eq_true rfl)
  rw [lg_entry_eq]
  generalize (lg_sl ([.ref h_ks, .ref h_mk]) ++ List.replicate (4 - (lg_sl ([.ref h_ks, .ref h_mk])).length) Slot.unset).toArray = ls at hl ⊢
  have hl : lv_has ls 4 [(0, .ref h_ks), (1, .ref h_mk)] := hl
  unfold wp_ks_takeFrom at h
  refine lv_aload_n hx hb dX2_takeFrom_0 rfl (lv_at hl 0 rfl) ?_
  have hP1 : va_P D vwCl ((([] : va_W)) ++ (((wv_ks cI cJ cZ cM h_ks a_ks h_fo ks_partCounts ks_states ks_latestRows ks_latestValues ks_moved) ++ (wv_fo cI cJ cZ cM h_fo a_fo fo_kinds fo_declared fo_count)) ++ (wv_mk cI cJ cZ cM h_mk a_mk mk_states mk_latestRows mk_latestValues r_mk_smalls r_mk_timers mk_rows))) s.heap := hP
  have hD1 : va_D A ((([] : va_W)) ++ (((wv_ks cI cJ cZ cM h_ks a_ks h_fo ks_partCounts ks_states ks_latestRows ks_latestValues ks_moved) ++ (wv_fo cI cJ cZ cM h_fo a_fo fo_kinds fo_declared fo_count)) ++ (wv_mk cI cJ cZ cM h_mk a_mk mk_states mk_latestRows mk_latestValues r_mk_smalls r_mk_timers mk_rows))) := hD
  refine hk_sv (([] : va_W)) ((wv_ks cI cJ cZ cM h_ks a_ks h_fo ks_partCounts ks_states ks_latestRows ks_latestValues ks_moved) ++ (wv_fo cI cJ cZ cM h_fo a_fo fo_kinds fo_declared fo_count)) (wv_mk cI cJ cZ cM h_mk a_mk mk_states mk_latestRows mk_latestValues r_mk_smalls r_mk_timers mk_rows) (hk_runV (As := []) (rest := []) S0 mm_ks_makeAllOne (c_ks_makeAllOne l D cI cJ cZ cM h_ks a_ks h_fo a_fo s.heap.size ks_partCounts ks_states ks_latestRows ks_latestValues ks_moved fo_kinds fo_declared fo_count _ h) hw_250 hk_blM (hk_atM (hk_Pl (hk_Pr hP1)) hK (hk_Dl (hk_Dr hD1)) hN) (va_recv hK hP (ci := 2) (q0 := 0) rfl rfl) ⟨rfl, rfl, Nat.le_of_ble_eq_true rfl, Nat.le_of_ble_eq_true rfl⟩ rfl hl.1 rfl (Nat.le_of_ble_eq_true rfl) dX2_takeFrom_1 ⟨Nat.le_of_ble_eq_true rfl, Nat.le_of_ble_eq_true rfl⟩) hP1 hD1 hS hA (fun _ => rfl) (fun w1 H locs h hP hD hS => ?_)
  have hP : va_P D vwCl (wv_ks cI cJ cZ cM h_ks a_ks h_fo w1 ks_states ks_latestRows ks_latestValues ks_moved ++ (wv_fo cI cJ cZ cM h_fo a_fo fo_kinds fo_declared fo_count ++ (wv_mk cI cJ cZ cM h_mk a_mk mk_states mk_latestRows mk_latestValues r_mk_smalls r_mk_timers mk_rows))) H := hP
  have hD : va_D A (wv_ks cI cJ cZ cM h_ks a_ks h_fo w1 ks_states ks_latestRows ks_latestValues ks_moved ++ (wv_fo cI cJ cZ cM h_fo a_fo fo_kinds fo_declared fo_count ++ (wv_mk cI cJ cZ cM h_mk a_mk mk_states mk_latestRows mk_latestValues r_mk_smalls r_mk_timers mk_rows))) := hD
  refine lv_iconst (v := 0) hx hb dX2_takeFrom_4 (by decide) ?_
  refine lv_istore_n (lv' := [(2, .int 0), (0, .ref h_ks), (1, .ref h_mk)]) hx hb dX2_takeFrom_5 rfl hl (by decide) rfl (fun ls hl => ?_)
  have P6 : ∀ (n : Nat) (v2 : Int32 × (Nat → Int64) × (Nat → Int32) × (Nat → Int64)) (H : Heap) (locs : List Loc) (ls : Array Slot), va_P D vwCl (wv_ks cI cJ cZ cM h_ks a_ks h_fo w1 v2.2.1 v2.2.2.1 v2.2.2.2 ks_moved ++ (wv_fo cI cJ cZ cM h_fo a_fo fo_kinds fo_declared fo_count ++ (wv_mk cI cJ cZ cM h_mk a_mk mk_states mk_latestRows mk_latestValues r_mk_smalls r_mk_timers mk_rows))) H → va_D A (wv_ks cI cJ cZ cM h_ks a_ks h_fo w1 v2.2.1 v2.2.2.1 v2.2.2.2 ks_moved ++ (wv_fo cI cJ cZ cM h_fo a_fo fo_kinds fo_declared fo_count ++ (wv_mk cI cJ cZ cM h_mk a_mk mk_states mk_latestRows mk_latestValues r_mk_smalls r_mk_timers mk_rows))) → va_S A s.heap H locs → lv_has ls 4 [(0, .ref h_ks), (1, .ref h_mk), (2, .int v2.1)] → hk_lp (wb_ks_takeFrom_6 fo_count mk_states mk_latestRows mk_latestValues post w1) n v2 → W p l e (headSpec (hk_ws yX2_takeFrom cX2_takeFrom 4 none) (hk_rm 2 43)).room s m ([.ref h_ks, .ref h_mk] : List Value).toArray below meth c H locs 0 0 (MQ below (va_Qv post (hk_B D (A) (fun (u : (Nat → Int32) × (Nat → Int64) × (Nat → Int32) × (Nat → Int64)) => wv_ks cI cJ cZ cM h_ks a_ks h_fo u.1 u.2.1 u.2.2.1 u.2.2.2 ks_moved ++ (wv_fo cI cJ cZ cM h_fo a_fo fo_kinds fo_declared fo_count ++ (wv_mk cI cJ cZ cM h_mk a_mk mk_states mk_latestRows mk_latestValues r_mk_smalls r_mk_timers mk_rows)))) (A)) ([.ref h_ks, .ref h_mk] : List Value).toArray s 0 0 A) (F0 m 6 ls []) := by
    intro n
    induction n with
    | zero => intro v2 H locs ls hP hD hS hl h; exact False.elim h
    | succ n ih6 =>
      intro v2 H locs ls hP hD hS hl h
      have h : wb_ks_takeFrom_6 fo_count mk_states mk_latestRows mk_latestValues post w1 (hk_lp (wb_ks_takeFrom_6 fo_count mk_states mk_latestRows mk_latestValues post w1) n) v2 := h
      generalize hk_lp (wb_ks_takeFrom_6 fo_count mk_states mk_latestRows mk_latestValues post w1) n = K6 at h ih6
      unfold wb_ks_takeFrom_6 at h
      refine lv_iload_n hx hb dX2_takeFrom_6 rfl (lv_at hl 2 rfl) ?_
      refine lv_bipush (v := 100) hx hb dX2_takeFrom_7 (by decide) ?_
      refine lv_icmp_ge (tgt := 87) hx hb dX2_takeFrom_9 (by decide) (fun c3 => ?_) (fun c3 => ?_)
      · have h := h.1 c3
        exact W.vret hx hb hr (fun t ht hW => ⟨⟨(w1, v2.2.1, v2.2.2.1, v2.2.2.2), rfl, h, by rw [ht]; exact hP, hD⟩, hS.F ht⟩) hS.2.2 dX2_takeFrom_87
      · have h := h.2 c3
        refine lv_iconst (v := 0) hx hb dX2_takeFrom_12 (by decide) ?_
        refine lv_istore_n (lv' := [(3, .int 0), (0, .ref h_ks), (1, .ref h_mk), (2, .int v2.1)]) hx hb dX2_takeFrom_13 rfl hl (by decide) rfl (fun ls hl => ?_)
        have P14 : ∀ (n : Nat) (v4 : Int32 × (Nat → Int64)) (H : Heap) (locs : List Loc) (ls : Array Slot), va_P D vwCl (wv_ks cI cJ cZ cM h_ks a_ks h_fo w1 v4.2 v2.2.2.1 v2.2.2.2 ks_moved ++ (wv_fo cI cJ cZ cM h_fo a_fo fo_kinds fo_declared fo_count ++ (wv_mk cI cJ cZ cM h_mk a_mk mk_states mk_latestRows mk_latestValues r_mk_smalls r_mk_timers mk_rows))) H → va_D A (wv_ks cI cJ cZ cM h_ks a_ks h_fo w1 v4.2 v2.2.2.1 v2.2.2.2 ks_moved ++ (wv_fo cI cJ cZ cM h_fo a_fo fo_kinds fo_declared fo_count ++ (wv_mk cI cJ cZ cM h_mk a_mk mk_states mk_latestRows mk_latestValues r_mk_smalls r_mk_timers mk_rows))) → va_S A s.heap H locs → lv_has ls 4 [(0, .ref h_ks), (1, .ref h_mk), (2, .int v2.1), (3, .int v4.1)] → hk_lp (wb_ks_takeFrom_14 fo_count mk_states mk_latestRows mk_latestValues v2 K6) n v4 → W p l e (headSpec (hk_ws yX2_takeFrom cX2_takeFrom 4 none) (hk_rm 2 43)).room s m ([.ref h_ks, .ref h_mk] : List Value).toArray below meth c H locs 0 0 (MQ below (va_Qv post (hk_B D (A) (fun (u : (Nat → Int32) × (Nat → Int64) × (Nat → Int32) × (Nat → Int64)) => wv_ks cI cJ cZ cM h_ks a_ks h_fo u.1 u.2.1 u.2.2.1 u.2.2.2 ks_moved ++ (wv_fo cI cJ cZ cM h_fo a_fo fo_kinds fo_declared fo_count ++ (wv_mk cI cJ cZ cM h_mk a_mk mk_states mk_latestRows mk_latestValues r_mk_smalls r_mk_timers mk_rows)))) (A)) ([.ref h_ks, .ref h_mk] : List Value).toArray s 0 0 A) (F0 m 14 ls []) := by
          intro n
          induction n with
          | zero => intro v4 H locs ls hP hD hS hl h; exact False.elim h
          | succ n ih14 =>
            intro v4 H locs ls hP hD hS hl h
            have h : wb_ks_takeFrom_14 fo_count mk_states mk_latestRows mk_latestValues v2 K6 (hk_lp (wb_ks_takeFrom_14 fo_count mk_states mk_latestRows mk_latestValues v2 K6) n) v4 := h
            generalize hk_lp (wb_ks_takeFrom_14 fo_count mk_states mk_latestRows mk_latestValues v2 K6) n = K14 at h ih14
            unfold wb_ks_takeFrom_14 at h
            refine lv_iload_n hx hb dX2_takeFrom_14 rfl (lv_at hl 3 rfl) ?_
            refine lv_aload_n hx hb dX2_takeFrom_15 rfl (lv_at hl 0 rfl) ?_
            refine va_get (D := D) (ci := 2) (v := .ref h_fo) (C := RX2) (T := TX2) (N := 6) hx hb hta ih_X2 hown hK hP 0 rfl rfl 0 (by decide) (hta _ hw_125) (fun _ h9 => h9) rfl dX2_takeFrom_16 ?_
            refine va_getN (D := D) (ci := 1) (v := .int fo_count) (C := RX1) (T := TX1) (N := 3) hx hb hta ih_X1 hown hK hP 5 rfl rfl 2 (by decide) (va_Nw.use rfl (hN.1 _ hn_109)) (fun _ h9 => h9) rfl dX2_takeFrom_19 ?_
            refine lv_icmp_ge (tgt := 53) hx hb dX2_takeFrom_22 (by decide) (fun c5 => ?_) (fun c5 => ?_)
            · have h := h.1 c5
              refine lv_aload_n hx hb dX2_takeFrom_53 rfl (lv_at hl 0 rfl) ?_
              refine va_get (D := D) (ci := 2) (v := .ref (a_ks 3)) (C := RX2) (T := TX2) (N := 6) hx hb hta ih_X2 hown hK hP 0 rfl rfl 3 (by decide) (hta _ hw_128) (fun _ h9 => h9) rfl dX2_takeFrom_54 ?_
              refine lv_iload_n hx hb dX2_takeFrom_57 rfl (lv_at hl 2 rfl) ?_
              refine lv_iconst (v := 0) hx hb dX2_takeFrom_58 (by decide) ?_
              refine vp_callSi (hk_runS (As := [.int v2.1, .int 0]) (rest := [.ref (a_ks 3)]) S0 mm_ks_slot (c_ks_slot l D cI cJ cZ cM v2.1 0 _ h) hw_402 hk_blR (hk_atR (hP.sub (ws' := ([] : va_W)) [] rfl) hK hN) ⟨rfl, rfl, Nat.le_of_ble_eq_true rfl, Nat.le_of_ble_eq_true rfl⟩ rfl hl.1 rfl (Nat.le_of_ble_eq_true rfl) dX2_takeFrom_59 ⟨Nat.le_of_ble_eq_true rfl, Nat.le_of_ble_eq_true rfl⟩).run (fun r6 h => ?_)
              refine lv_aload_n hx hb dX2_takeFrom_62 rfl (lv_at hl 1 rfl) ?_
              refine va_getN (D := D) (ci := 4) (v := .ref (a_mk 1)) (C := RX4) (T := TX4) (N := 6) hx hb hta ih_X4 hown hK hP 8 rfl rfl 1 (by decide) (va_Nw.use rfl (hN.1 _ hn_664)) (fun _ h9 => h9) rfl dX2_takeFrom_63 ?_
              refine lv_iload_n hx hb dX2_takeFrom_66 rfl (lv_at hl 2 rfl) ?_
              refine va_iald hx hb hK hP 10 0 rfl rfl h.1 dX2_takeFrom_67 ?_
              have h := h.2
              refine lv_topi (fun x7 ex7 => ?_)
              have h := h x7 ex7
              refine va_iast hx hb hK hP hD hS 3 0 rfl rfl h.1 dX2_takeFrom_68 (fun H locs hP hD hS => ?_)
              have h := h.2
              have hP : va_P D vwCl (wv_ks cI cJ cZ cM h_ks a_ks h_fo w1 v4.2 (upd v2.2.2.1 r6.toNatClampNeg x7) v2.2.2.2 ks_moved ++ (wv_fo cI cJ cZ cM h_fo a_fo fo_kinds fo_declared fo_count ++ (wv_mk cI cJ cZ cM h_mk a_mk mk_states mk_latestRows mk_latestValues r_mk_smalls r_mk_timers mk_rows))) H := hP
              have hD : va_D A (wv_ks cI cJ cZ cM h_ks a_ks h_fo w1 v4.2 (upd v2.2.2.1 r6.toNatClampNeg x7) v2.2.2.2 ks_moved ++ (wv_fo cI cJ cZ cM h_fo a_fo fo_kinds fo_declared fo_count ++ (wv_mk cI cJ cZ cM h_mk a_mk mk_states mk_latestRows mk_latestValues r_mk_smalls r_mk_timers mk_rows))) := hD
              refine lv_aload_n hx hb dX2_takeFrom_69 rfl (lv_at hl 0 rfl) ?_
              refine va_get (D := D) (ci := 2) (v := .ref (a_ks 4)) (C := RX2) (T := TX2) (N := 6) hx hb hta ih_X2 hown hK hP 0 rfl rfl 4 (by decide) (hta _ hw_129) (fun _ h9 => h9) rfl dX2_takeFrom_70 ?_
              refine lv_iload_n hx hb dX2_takeFrom_73 rfl (lv_at hl 2 rfl) ?_
              refine lv_aload_n hx hb dX2_takeFrom_74 rfl (lv_at hl 1 rfl) ?_
              refine va_getN (D := D) (ci := 4) (v := .ref (a_mk 2)) (C := RX4) (T := TX4) (N := 6) hx hb hta ih_X4 hown hK hP 8 rfl rfl 2 (by decide) (va_Nw.use rfl (hN.1 _ hn_666)) (fun _ h9 => h9) rfl dX2_takeFrom_75 ?_
              refine lv_iload_n hx hb dX2_takeFrom_78 rfl (lv_at hl 2 rfl) ?_
              refine va_lald hx hb hK hP 11 1 rfl rfl h.1 dX2_takeFrom_79 ?_
              have h := h.2
              refine lv_topl (fun x8 ex8 => ?_)
              have h := h x8 ex8
              refine va_last hx hb hK hP hD hS 4 1 rfl rfl h.1 dX2_takeFrom_80 (fun H locs hP hD hS => ?_)
              have h := h.2
              have hP : va_P D vwCl (wv_ks cI cJ cZ cM h_ks a_ks h_fo w1 v4.2 (upd v2.2.2.1 r6.toNatClampNeg x7) (vp_updL v2.2.2.2 v2.1.toNatClampNeg x8) ks_moved ++ (wv_fo cI cJ cZ cM h_fo a_fo fo_kinds fo_declared fo_count ++ (wv_mk cI cJ cZ cM h_mk a_mk mk_states mk_latestRows mk_latestValues r_mk_smalls r_mk_timers mk_rows))) H := hP
              have hD : va_D A (wv_ks cI cJ cZ cM h_ks a_ks h_fo w1 v4.2 (upd v2.2.2.1 r6.toNatClampNeg x7) (vp_updL v2.2.2.2 v2.1.toNatClampNeg x8) ks_moved ++ (wv_fo cI cJ cZ cM h_fo a_fo fo_kinds fo_declared fo_count ++ (wv_mk cI cJ cZ cM h_mk a_mk mk_states mk_latestRows mk_latestValues r_mk_smalls r_mk_timers mk_rows))) := hD
              obtain ⟨x9, ex9⟩ : ∃ y : Int32, y = v2.1 + 1 := ⟨_, rfl⟩
              have h := h x9 ex9
              refine lv_iinc (v := x9) (lv' := [(2, .int x9), (0, .ref h_ks), (1, .ref h_mk), (3, .int v4.1)]) hx hb dX2_takeFrom_81 hl (k := 2) rfl (by rw [ex9]; rfl) (by decide) rfl (fun ls hl => ?_)
              refine lv_goto (tgt := 6) hx hb dX2_takeFrom_84 (by decide) ?_
              exact ih6 (x9, v4.2, upd v2.2.2.1 r6.toNatClampNeg x7, vp_updL v2.2.2.2 v2.1.toNatClampNeg x8) H locs ls hP hD hS (lv_sub hl [1, 2, 0] rfl) h
            · have h := h.2 c5
              refine lv_aload_n hx hb dX2_takeFrom_25 rfl (lv_at hl 0 rfl) ?_
              refine va_get (D := D) (ci := 2) (v := .ref (a_ks 2)) (C := RX2) (T := TX2) (N := 6) hx hb hta ih_X2 hown hK hP 0 rfl rfl 2 (by decide) (hta _ hw_127) (fun _ h9 => h9) rfl dX2_takeFrom_26 ?_
              refine lv_iload_n hx hb dX2_takeFrom_29 rfl (lv_at hl 2 rfl) ?_
              refine lv_iconst (v := 0) hx hb dX2_takeFrom_30 (by decide) ?_
              refine lv_iload_n hx hb dX2_takeFrom_31 rfl (lv_at hl 3 rfl) ?_
              refine vp_callSi (hk_runS (As := [.int v2.1, .int 0, .int v4.1]) (rest := [.ref (a_ks 2)]) S0 mm_ks_cell (c_ks_cell l D cI cJ cZ cM v2.1 0 v4.1 _ h) hw_357 hk_blR (hk_atR (hP.sub (ws' := ([] : va_W)) [] rfl) hK hN) ⟨rfl, rfl, Nat.le_of_ble_eq_true rfl, Nat.le_of_ble_eq_true rfl⟩ rfl hl.1 rfl (Nat.le_of_ble_eq_true rfl) dX2_takeFrom_32 ⟨Nat.le_of_ble_eq_true rfl, Nat.le_of_ble_eq_true rfl⟩).run (fun r10 h => ?_)
              refine lv_aload_n hx hb dX2_takeFrom_35 rfl (lv_at hl 1 rfl) ?_
              refine va_getN (D := D) (ci := 4) (v := .ref (a_mk 0)) (C := RX4) (T := TX4) (N := 6) hx hb hta ih_X4 hown hK hP 8 rfl rfl 0 (by decide) (va_Nw.use rfl (hN.1 _ hn_662)) (fun _ h9 => h9) rfl dX2_takeFrom_36 ?_
              refine lv_iload_n hx hb dX2_takeFrom_39 rfl (lv_at hl 2 rfl) ?_
              refine lv_bipush (v := 6) hx hb dX2_takeFrom_40 (by decide) ?_
              refine lv_imul hx hb dX2_takeFrom_42 ?_
              refine lv_iload_n hx hb dX2_takeFrom_43 rfl (lv_at hl 3 rfl) ?_
              refine lv_iadd hx hb dX2_takeFrom_44 ?_
              refine va_lald hx hb hK hP 9 1 rfl rfl h.1 dX2_takeFrom_45 ?_
              have h := h.2
              refine lv_topl (fun x11 ex11 => ?_)
              have h := h x11 ex11
              refine va_last hx hb hK hP hD hS 2 1 rfl rfl h.1 dX2_takeFrom_46 (fun H locs hP hD hS => ?_)
              have h := h.2
              have hP : va_P D vwCl (wv_ks cI cJ cZ cM h_ks a_ks h_fo w1 (vp_updL v4.2 r10.toNatClampNeg x11) v2.2.2.1 v2.2.2.2 ks_moved ++ (wv_fo cI cJ cZ cM h_fo a_fo fo_kinds fo_declared fo_count ++ (wv_mk cI cJ cZ cM h_mk a_mk mk_states mk_latestRows mk_latestValues r_mk_smalls r_mk_timers mk_rows))) H := hP
              have hD : va_D A (wv_ks cI cJ cZ cM h_ks a_ks h_fo w1 (vp_updL v4.2 r10.toNatClampNeg x11) v2.2.2.1 v2.2.2.2 ks_moved ++ (wv_fo cI cJ cZ cM h_fo a_fo fo_kinds fo_declared fo_count ++ (wv_mk cI cJ cZ cM h_mk a_mk mk_states mk_latestRows mk_latestValues r_mk_smalls r_mk_timers mk_rows))) := hD
              obtain ⟨x12, ex12⟩ : ∃ y : Int32, y = v4.1 + 1 := ⟨_, rfl⟩
              have h := h x12 ex12
              refine lv_iinc (v := x12) (lv' := [(3, .int x12), (0, .ref h_ks), (1, .ref h_mk), (2, .int v2.1)]) hx hb dX2_takeFrom_47 hl (k := 3) rfl (by rw [ex12]; rfl) (by decide) rfl (fun ls hl => ?_)
              refine lv_goto (tgt := 14) hx hb dX2_takeFrom_50 (by decide) ?_
              exact ih14 (x12, vp_updL v4.2 r10.toNatClampNeg x11) H locs ls hP hD hS (lv_sub hl [1, 2, 3, 0] rfl) h
        obtain ⟨n, h⟩ := h
        exact P14 n (0, v2.2.1) H locs ls hP hD hS (lv_sub hl [1, 2, 3, 0] rfl) h
  obtain ⟨n, h⟩ := h
  exact P6 n (0, ks_states, ks_latestRows, ks_latestValues) H locs ls hP hD hS (lv_sub hl [1, 2, 0] rfl) h
