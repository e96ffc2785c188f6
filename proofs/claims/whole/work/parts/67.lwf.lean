def ObAll (R : Nat → XS → DS → List MS → Prop) : Prop := Ob_shape R ∧ Ob_fold R ∧ Ob_row R ∧ Ob_state R ∧ Ob_part R ∧ Ob_parts R ∧ Ob_place R ∧ Ob_split R ∧ Ob_back R ∧ Ob_tree R ∧ Ob_counter R ∧ Ob_hot R ∧ Ob_splitKey R ∧ Ob_load R ∧ Ob_small R ∧ Ob_copies R ∧ Ob_out R ∧ Ob_timer R ∧ Ob_tick R ∧ Ob_log R ∧ Ob_told R ∧ Ob_clear R ∧ Ob_markA R ∧ Ob_markB R ∧ Ob_markC R ∧ Ob_restoreA R ∧ Ob_restoreB R ∧ Ob_init R ∧ Ob_step R ∧ Ob_count R
section LAWC
variable {p : Program} {l : Launch} {e : Env} {s : State} {m : MethodId} {below : List Frame} {meth : Method} {c : Code} {b L : Nat} {sc : Nat → Int32} {D : va_G} {cI cJ cZ cM : ClassId} {h_x : Nat} {a_x : Nat → Nat} {h_cn : Nat} {a_cn : Nat → Nat} {h_sm : Nat} {a_sm : Nat → Nat} {h_ti : Nat} {a_ti : Nat → Nat} {h_lg : Nat} {a_lg : Nat → Nat} {h_ks : Nat} {a_ks : Nat → Nat} {h_fo : Nat} {a_fo : Nat → Nat} {h_d : Nat} {a_d : Nat → Nat} {R : Nat → XS → DS → List MS → Prop}
set_option maxRecDepth 100000 in
set_option maxHeartbeats 4000000 in
theorem lw_loop (C : lwC p s m meth c b L sc D cI cJ cZ cM) (OB : ObAll R) (hL : L ≤ 3072) : ∀ (n t i : Nat) (x3 : Int32) (ls : Array Slot) (marks : Nat → Option Nat) (xs : XS) (ds : DS) (PL : List (AD × MS)) (cells slots : Nat) (H : Heap) (locs : List Loc), i = 6 * t → i ≤ L → L - i < n → x3 = nI i → lv_has ls 4 [(0, .ref b), (1, .ref h_x), (2, .ref h_d), (3, .int x3)] → lwI s D cI cJ cZ cM h_x a_x h_cn a_cn h_sm a_sm h_ti a_ti h_lg a_lg h_ks a_ks h_fo a_fo h_d a_d R t marks xs ds PL cells slots H locs → W p l e room_1 s m #[Value.ref b] below meth c H locs cells slots (lw_Z below #[Value.ref b] s) (F0 m 18 ls []) := by
  obtain ⟨ob_shape, ob_fold, ob_row, ob_state, ob_part, ob_parts, ob_place, ob_split, ob_back, ob_tree, ob_counter, ob_hot, ob_splitKey, ob_load, ob_small, ob_copies, ob_out, ob_timer, ob_tick, ob_log, ob_told, ob_clear, ob_markA, ob_markB, ob_markC, ob_restoreA, ob_restoreB, ob_init, ob_step, ob_count⟩ := OB
  intro n
  induction n with
  | zero => intro t i x3 ls marks xs ds PL cells slots H locs _ _ h _ _ _; exact absurd h (Nat.not_lt_zero _)
  | succ n ih =>
    intro t i x3 ls marks xs ds PL cells slots H locs eit hi hn ex hl I
    obtain ⟨hx, hb, hr, hml, hown, hta, hK, hN, hX, hbl, hlocks⟩ := id C
    obtain ⟨hR, hm, hc, hs, hP, hD, hS⟩ := id I
    have hbA : ¬ (fun q : Nat => s.heap.size ≤ q) b := Nat.not_le.mpr hbl
    have j0 : (x3 : Int32).toInt = (i : Int) := by rw [ex]; exact nI_toInt (by omega)
    have jL : (nI L - 6 : Int32).toInt = (L : Int) - 6 := by
      have e6 : (6 : Int32) = nI 6 := rfl
      rw [e6]; exact pk_sub_toInt (by omega) (by omega)
    refine lv_iload_n hx hb dL_law_18 rfl (lv_at hl 3 rfl) ?_
    refine lv_aload_n hx hb dL_law_19 rfl (lv_at hl 0 rfl) ?_
    refine va_slen hx hb hX hbl hbA hS dL_law_20 ?_
    refine lv_bipush (v := 6) hx hb dL_law_21 (by decide) ?_
    refine lv_isub hx hb dL_law_23 ?_
    refine lv_icmp_gt (tgt := 852) hx hb dL_law_24 (by decide) (fun c0 => ?_) (fun c0 => ?_)
    · refine lv_iconst (v := 1) hx hb dL_law_852 (by decide) ?_
      refine va_forget hS.2.2 ?_
      refine W.widen (k := 600000) (n := 7302250) (by omega) (by omega) ?_
      exact lw_ret hx hb hr hlocks dL_law_853
    · have hi6 : i + 6 ≤ L := by
        have h1 := Int32.not_lt.mp c0
        have h2 := Int32.le_iff_toInt_le.mp h1
        rw [j0] at h2
        have h3 : ((i : Int)) ≤ (L : Int) - 6 := by rw [← jL]; exact h2
        omega
      have j00 : vp_in x3 L := by rw [ex]; exact vp_in_nI (by omega) (by omega)
      have next : ∀ (marks : Nat → Option Nat) (xs : XS) (ds : DS) (PL : List (AD × MS)) (cells slots : Nat) (H : Heap) (locs : List Loc), lwI s D cI cJ cZ cM h_x a_x h_cn a_cn h_sm a_sm h_ti a_ti h_lg a_lg h_ks a_ks h_fo a_fo h_d a_d R (t + 1) marks xs ds PL cells slots H locs → W p l e room_1 s m #[Value.ref b] below meth c H locs cells slots (lw_Z below #[Value.ref b] s) (F0 m 846 ls []) := by
        intro marks xs ds PL cells slots H locs I
        obtain ⟨x9, ex9⟩ : ∃ y : Int32, y = x3 + 6 := ⟨_, rfl⟩
        refine lv_iinc (v := x9) (lv' := [(3, .int x9), (0, .ref b), (1, .ref h_x), (2, .ref h_d)]) hx hb dL_law_846 hl (k := 3) rfl (by rw [ex9]; rfl) (by decide) rfl (fun ls hl => ?_)
        refine lv_goto (tgt := 18) hx hb dL_law_849 (by decide) ?_
        exact ih (t + 1) (i + 6) x9 ls marks xs ds PL cells slots H locs (by omega) hi6 (by omega) (by rw [ex9, ex]; exact nI_add i 6) (lv_sub hl [1, 2, 3, 0] rfl) I
      refine lv_aload_n hx hb dL_law_27 rfl (lv_at hl 0 rfl) ?_
      refine lv_iload_n hx hb dL_law_28 rfl (lv_at hl 3 rfl) ?_
      refine va_sld hx hb hX hbl hbA hS j00 dL_law_29 ?_
      refine lv_bipush (v := 31) hx hb dL_law_30 (by decide) ?_
      refine lv_iand hx hb dL_law_32 ?_
      refine lv_topi (fun o eo => ?_)
      by_cases c1 : o = 0
      · refine lv_tableIn (tgt := 144) hx hb dL_law_33 (by rw [c1]; decide) (by rw [c1]; decide) (by rw [c1]; rfl) (by decide) ?_
        exact lw_case_shape C ob_shape (by omega) hi6 hL ex hl I next
      by_cases c2 : o = 1
      · refine lv_tableIn (tgt := 207) hx hb dL_law_33 (by rw [c2]; decide) (by rw [c2]; decide) (by rw [c2]; rfl) (by decide) ?_
        exact lw_case_fold C ob_fold (by omega) hi6 hL ex hl I next
      by_cases c3 : o = 2
      · refine lv_tableIn (tgt := 256) hx hb dL_law_33 (by rw [c3]; decide) (by rw [c3]; decide) (by rw [c3]; rfl) (by decide) ?_
        exact lw_case_row C ob_row (by omega) hi6 hL ex hl I next
      by_cases c4 : o = 3
      · refine lv_tableIn (tgt := 289) hx hb dL_law_33 (by rw [c4]; decide) (by rw [c4]; decide) (by rw [c4]; rfl) (by decide) ?_
        exact lw_case_state C ob_state (by omega) hi6 hL ex hl I next
      by_cases c5 : o = 4
      · refine lv_tableIn (tgt := 323) hx hb dL_law_33 (by rw [c5]; decide) (by rw [c5]; decide) (by rw [c5]; rfl) (by decide) ?_
        exact lw_case_part C ob_part (by omega) hi6 hL ex hl I next
      by_cases c6 : o = 5
      · refine lv_tableIn (tgt := 367) hx hb dL_law_33 (by rw [c6]; decide) (by rw [c6]; decide) (by rw [c6]; rfl) (by decide) ?_
        exact lw_case_parts C ob_parts (by omega) hi6 hL ex hl I next
      by_cases c7 : o = 6
      · refine lv_tableIn (tgt := 390) hx hb dL_law_33 (by rw [c7]; decide) (by rw [c7]; decide) (by rw [c7]; rfl) (by decide) ?_
        exact lw_case_place C ob_place (by omega) hi6 hL ex hl I next
      by_cases c8 : o = 7
      · refine lv_tableIn (tgt := 423) hx hb dL_law_33 (by rw [c8]; decide) (by rw [c8]; decide) (by rw [c8]; rfl) (by decide) ?_
        exact lw_case_split C ob_split (by omega) hi6 hL ex hl I next
      by_cases c9 : o = 8
      · refine lv_tableIn (tgt := 456) hx hb dL_law_33 (by rw [c9]; decide) (by rw [c9]; decide) (by rw [c9]; rfl) (by decide) ?_
        exact lw_case_back C ob_back (by omega) hi6 hL ex hl I next
      by_cases c10 : o = 9
      · refine lv_tableIn (tgt := 479) hx hb dL_law_33 (by rw [c10]; decide) (by rw [c10]; decide) (by rw [c10]; rfl) (by decide) ?_
        exact lw_case_tree C ob_tree (by omega) hi6 hL ex hl I next
      by_cases c11 : o = 10
      · refine lv_tableIn (tgt := 512) hx hb dL_law_33 (by rw [c11]; decide) (by rw [c11]; decide) (by rw [c11]; rfl) (by decide) ?_
        exact lw_case_counter C ob_counter (by omega) hi6 hL ex hl I next
      by_cases c12 : o = 11
      · refine lv_tableIn (tgt := 545) hx hb dL_law_33 (by rw [c12]; decide) (by rw [c12]; decide) (by rw [c12]; rfl) (by decide) ?_
        exact lw_case_hot C ob_hot (by omega) hi6 hL ex hl I next
      by_cases c13 : o = 12
      · refine lv_tableIn (tgt := 568) hx hb dL_law_33 (by rw [c13]; decide) (by rw [c13]; decide) (by rw [c13]; rfl) (by decide) ?_
        exact lw_case_splitKey C ob_splitKey (by omega) hi6 hL ex hl I next
      by_cases c14 : o = 13
      · refine lv_tableIn (tgt := 591) hx hb dL_law_33 (by rw [c14]; decide) (by rw [c14]; decide) (by rw [c14]; rfl) (by decide) ?_
        exact lw_case_load C ob_load (by omega) hi6 hL ex hl I next
      by_cases c15 : o = 14
      · refine lv_tableIn (tgt := 614) hx hb dL_law_33 (by rw [c15]; decide) (by rw [c15]; decide) (by rw [c15]; rfl) (by decide) ?_
        exact lw_case_small C ob_small (by omega) hi6 hL ex hl I next
      by_cases c16 : o = 15
      · refine lv_tableIn (tgt := 647) hx hb dL_law_33 (by rw [c16]; decide) (by rw [c16]; decide) (by rw [c16]; rfl) (by decide) ?_
        exact lw_case_copies C ob_copies (by omega) hi6 hL ex hl I next
      by_cases c17 : o = 16
      · refine lv_tableIn (tgt := 670) hx hb dL_law_33 (by rw [c17]; decide) (by rw [c17]; decide) (by rw [c17]; rfl) (by decide) ?_
        exact lw_case_out C ob_out (by omega) hi6 hL ex hl I next
      by_cases c18 : o = 17
      · refine lv_tableIn (tgt := 684) hx hb dL_law_33 (by rw [c18]; decide) (by rw [c18]; decide) (by rw [c18]; rfl) (by decide) ?_
        exact lw_case_timer C ob_timer (by omega) hi6 hL ex hl I next
      by_cases c19 : o = 18
      · refine lv_tableIn (tgt := 717) hx hb dL_law_33 (by rw [c19]; decide) (by rw [c19]; decide) (by rw [c19]; rfl) (by decide) ?_
        exact lw_case_tick C ob_tick (by omega) hi6 hL ex hl I next
      by_cases c20 : o = 19
      · refine lv_tableIn (tgt := 740) hx hb dL_law_33 (by rw [c20]; decide) (by rw [c20]; decide) (by rw [c20]; rfl) (by decide) ?_
        exact lw_case_log C ob_log (by omega) hi6 hL ex hl I next
      by_cases c21 : o = 20
      · refine lv_tableIn (tgt := 774) hx hb dL_law_33 (by rw [c21]; decide) (by rw [c21]; decide) (by rw [c21]; rfl) (by decide) ?_
        exact lw_case_mark C ob_markA ob_markB ob_markC ob_count (by omega) hi6 hL ex hl I next
      by_cases c22 : o = 21
      · refine lv_tableIn (tgt := 787) hx hb dL_law_33 (by rw [c22]; decide) (by rw [c22]; decide) (by rw [c22]; rfl) (by decide) ?_
        exact lw_case_restore C ob_restoreA ob_restoreB ob_count (by omega) hi6 hL ex hl I next
      by_cases c23 : o = 22
      · refine lv_tableIn (tgt := 810) hx hb dL_law_33 (by rw [c23]; decide) (by rw [c23]; decide) (by rw [c23]; rfl) (by decide) ?_
        exact lw_case_told C ob_told (by omega) hi6 hL ex hl I next
      by_cases c24 : o = 23
      · refine lv_tableIn (tgt := 833) hx hb dL_law_33 (by rw [c24]; decide) (by rw [c24]; decide) (by rw [c24]; rfl) (by decide) ?_
        exact lw_case_clear C ob_clear (by omega) hi6 hL ex hl I next
      refine lv_tableOut (tgt := 846) hx hb dL_law_33 (by have q1 := lv_neT c1 (a := 0) rfl; have q2 := lv_neT c2 (a := 1) rfl; have q3 := lv_neT c3 (a := 2) rfl; have q4 := lv_neT c4 (a := 3) rfl; have q5 := lv_neT c5 (a := 4) rfl; have q6 := lv_neT c6 (a := 5) rfl; have q7 := lv_neT c7 (a := 6) rfl; have q8 := lv_neT c8 (a := 7) rfl; have q9 := lv_neT c9 (a := 8) rfl; have q10 := lv_neT c10 (a := 9) rfl; have q11 := lv_neT c11 (a := 10) rfl; have q12 := lv_neT c12 (a := 11) rfl; have q13 := lv_neT c13 (a := 12) rfl; have q14 := lv_neT c14 (a := 13) rfl; have q15 := lv_neT c15 (a := 14) rfl; have q16 := lv_neT c16 (a := 15) rfl; have q17 := lv_neT c17 (a := 16) rfl; have q18 := lv_neT c18 (a := 17) rfl; have q19 := lv_neT c19 (a := 18) rfl; have q20 := lv_neT c20 (a := 19) rfl; have q21 := lv_neT c21 (a := 20) rfl; have q22 := lv_neT c22 (a := 21) rfl; have q23 := lv_neT c23 (a := 22) rfl; have q24 := lv_neT c24 (a := 23) rfl; omega) (by decide) ?_
      exact next marks xs ds PL cells slots H locs ⟨ob_step _ _ _ _ hR, hm, hc, hs, hP, hD, hS⟩
end LAWC
