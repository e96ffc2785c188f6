def tolds (a1 v0 v1 v2 v3 v4 v5 v6 v7 v8 v9 v10 v11 v12 v13 : Int32) : Int32 := if a1 = 0 then v0 else if a1 = 1 then v1 else if a1 = 2 then v2 else if a1 = 3 then v3 else if a1 = 4 then v4 else if a1 = 5 then v5 else if a1 = 6 then v6 else if a1 = 7 then v7 else if a1 = 8 then v8 else if a1 = 9 then v9 else if a1 = 10 then v10 else if a1 = 11 then v11 else if a1 = 12 then v12 else if a1 = 13 then v13 else -102
theorem sp_d_splitKeys {pc : Nat → Int32} {post : Int32 → Prop} (h : post (nSp pc 100)) : wp_d_splitKeys pc post := by
  unfold wp_d_splitKeys
  refine hk_upE (fun j w => w.2 = nI j ∧ w.1 = nSp pc j) 100 0 _ (Nat.zero_le _) ⟨rfl, rfl⟩ ?_ ?_
  · rintro j ⟨a, w⟩ Kk hj ⟨e, h2⟩ hk
    have e : w = nI j := e
    have h2 : a = _ := h2
    subst e
    subst h2
    unfold wb_d_splitKeys_4
    dsimp only
    refine pk_le 100 j (fun hh => absurd hh (by omega)) (fun _ => ⟨pk_in j 100 hj, ?_⟩)
    rw [ncl j]
    refine ⟨fun c x4 e4 x5 e5 => hk _ ⟨by rw [e5]; exact nI_1 j, ?_⟩, fun c x6 e6 x7 e7 => hk _ ⟨by rw [e7]; exact nI_1 j, ?_⟩⟩
    · show x4 = nSp pc (j + 1); simp only [nSp]; rw [if_pos c, e4, Int32.add_zero]
    · show x6 = nSp pc (j + 1); simp only [nSp]; rw [if_neg c, e6]
  · rintro ⟨a, w⟩ Kk ⟨e, h2⟩
    have e : w = nI 100 := e
    have h2 : a = _ := h2
    subst e
    subst h2
    unfold wb_d_splitKeys_4
    exact pk_le 100 100 (fun _ => h) (fun hh => absurd hh (by omega))
theorem nSp_congr {a b : Nat → Int32} : ∀ n, (∀ i, i < n → a i = b i) → nSp a n = nSp b n
  | 0, _ => rfl
  | n + 1, h => by
    simp only [nSp]
    rw [nSp_congr n (fun i hi => h i (by omega)), h n (by omega)]
theorem ks_sp {F P N : Nat} {kc kd pc L dp Ld tc : Nat → Int32} {S D : Nat → Int64} (r : ksR F P N kc kd pc S L dp D Ld tc) : nSp pc 100 = nSp dp 100 := nSp_congr 100 (fun i hi => by
  obtain ⟨q, q1, qP, q8, b3, b4⟩ := ks_q r hi
  rw [b3, b4])
theorem sp_d_kept {lg : Int32} {post : Int32 → Prop} (h : post (if 64 ≤ lg then 64 else lg)) : wp_d_keptLogs lg post := by
  unfold wp_d_keptLogs
  exact hk_pif h id id
theorem sp_x_told {a1 x_markCount x_rows x_roundRows x_rounds x_flips x_passedOver sm_count sm_matches ti_count ti_now lg_kept ks_moved fo_count : Int32} {pc : Nat → Int32} {post : Int32 → Prop} (h : post (tolds a1 x_rows x_roundRows x_rounds x_flips x_passedOver sm_matches ks_moved ti_count ti_now lg_kept fo_count x_markCount (nSp pc 100) sm_count)) : wp_x_told a1 x_markCount x_rows x_roundRows x_rounds x_flips x_passedOver sm_count sm_matches ti_count ti_now lg_kept pc ks_moved fo_count post := by
  unfold wp_x_told
  unfold tolds at h
  exact hk_pif h id (fun h => hk_pif h id (fun h => hk_pif h id (fun h => hk_pif h id (fun h => hk_pif h id (fun h => hk_pif h id (fun h => hk_pif h id (fun h => hk_pif h id (fun h => hk_pif h id (fun h => hk_pif h id (fun h => hk_pif h id (fun h => hk_pif h id (fun h => hk_pif h (fun h => sp_ks_splitKeys h) (fun h => hk_pif h id id)))))))))))))
theorem sp_d_told {a1 d_folds d_rows d_inRound d_rounds d_flips d_passed d_matches d_moved d_time d_smalls d_timers d_logged d_marks : Int32} {dp : Nat → Int32} {post : Int32 → Prop} (h : post (tolds a1 d_rows d_inRound d_rounds d_flips d_passed d_matches d_moved d_timers d_time (if 64 ≤ d_logged then 64 else d_logged) d_folds d_marks (nSp dp 100) d_smalls)) : wp_d_told a1 d_folds dp d_rows d_inRound d_rounds d_flips d_passed d_matches d_moved d_time d_smalls d_timers d_logged d_marks post := by
  unfold wp_d_told
  unfold tolds at h
  exact hk_pif h id (fun h => hk_pif h id (fun h => hk_pif h id (fun h => hk_pif h id (fun h => hk_pif h id (fun h => hk_pif h id (fun h => hk_pif h id (fun h => hk_pif h id (fun h => hk_pif h id (fun h => hk_pif h (fun h => sp_d_kept h) (fun h => hk_pif h id (fun h => hk_pif h id (fun h => hk_pif h (fun h => sp_d_splitKeys h) (fun h => hk_pif h id id)))))))))))))
theorem tolds_eq {a1 x0 x1 x2 x3 x4 x5 x6 x7 x8 x9 x10 x11 x12 x13 y0 y1 y2 y3 y4 y5 y6 y7 y8 y9 y10 y11 y12 y13 : Int32} (h0 : x0 = y0) (h1 : x1 = y1) (h2 : x2 = y2) (h3 : x3 = y3) (h4 : x4 = y4) (h5 : x5 = y5) (h6 : x6 = y6) (h7 : x7 = y7) (h8 : x8 = y8) (h9 : x9 = y9) (h10 : x10 = y10) (h11 : x11 = y11) (h12 : x12 = y12) (h13 : x13 = y13) : tolds a1 x0 x1 x2 x3 x4 x5 x6 x7 x8 x9 x10 x11 x12 x13 = tolds a1 y0 y1 y2 y3 y4 y5 y6 y7 y8 y9 y10 y11 y12 y13 := by
  subst h0 h1 h2 h3 h4 h5 h6 h7 h8 h9 h10 h11 h12 h13
  rfl
theorem lg_kept {t : Nat} (ht : t < 512) {cells : Nat → Int64} {newest kept logged : Int32} {lk lt : Nat → Int32} {ls : Nat → Int64} (h : lgR t cells newest kept logged lk lt ls) : kept = if 64 ≤ logged then 64 else logged := by
  obtain ⟨w, g, h1, h2, h3, h4, h5, h6⟩ := h
  rw [h4, h5, if_iff (show (64 : Int32) ≤ nI g ↔ 64 ≤ g from nI_leI (a := 64) (by omega) (by omega))]
  by_cases c : g < 64
  · rw [if_pos c, if_neg (by omega)]
  · rw [if_neg c, if_pos (by omega)]; rfl
theorem ob_told : Ob_told Rab := by
  intro t a1 xs ds ms ht hR
  have hR0 := ob_step _ _ _ _ hR
  obtain ⟨P, Rd, T, M, F, N, G, U, J, hP, hR, hT, hSl, hM, hJ, hN, hG, hF, hU, hE, rl, rc, rs, rt, rg, rk, rf, rv, rm⟩ := hR
  refine sp_x_told (sp_d_told ⟨?_, hR0⟩)
  obtain ⟨C, -, hC1, hC2, -⟩ := rs.2.2
  obtain ⟨l, -, hl1, hl2, -⟩ := rt.2
  exact tolds_eq (hN.1.trans hN.2.symm) (hG.1.trans hG.2.1.symm) hE.1 hE.2.1 hE.2.2.1 rs.1 hE.2.2.2 (hl1.trans hl2.symm) rt.1 (lg_kept ht rg) (hF.1.trans hF.2.symm) (hJ.1.trans hJ.2.1.symm) (ks_sp rk) (hC1.trans hC2.symm)
theorem op_counter {U M G : Nat} {keys counts errors ck cc ce : Nat → Int32} {a1 a2 limit used d_m : Int32} (hM : limit = nI M ∧ d_m = nI M) (hU : used = nI U) (rc : cnR keys counts errors U M G ck cc ce) {Q : Prop} (hR0 : Q) : wp_x_counter a1 a2 keys counts errors limit used (fun r => wp_d_counter a1 a2 d_m ck cc ce (fun r2 => r = r2 ∧ Q)) := by
  obtain ⟨rfl, rfl⟩ := hM
  subst hU
  obtain ⟨m1, m12, um, un, r1, r2⟩ := rc
  rcases ix32 a1 (n := M) (by omega) with ⟨i, hi, rfl⟩ | hn
  · refine sp_isW_Y (ix_r hi (by omega)).1 (ix_r hi (by omega)).2 ⟨fun _ => ?_, fun c => absurd c (by decide)⟩
    have ri := r1 i (by omega)
    have go : ∀ pd : Int32 → Prop, (0 : Int32) ≤ a2 ∧ a2 ≤ 2 → ((¬ a2 = 0 → (¬ a2 = 1 → pd (ce i)) ∧ (a2 = 1 → pd (cc i))) ∧ (a2 = 0 → pd (ck i))) → wp_d_counter (nI i) a2 (nI M) ck cc ce pd := fun pd hr hpd => by
      unfold wp_d_counter
      refine sp_in_Y (ix_r hi (by omega)).1 (ix_r hi (by omega)).2 ⟨fun c => absurd c (by decide), fun _ => ?_⟩ rfl rfl
      refine sp_in_Y hr.1 hr.2 ⟨fun _ => ?_, fun c => absurd c (by decide)⟩ rfl rfl
      rw [ncl i]
      exact ⟨fun c => ⟨fun c2 => ⟨pk_in i 12 (by omega), (hpd.1 c).1 c2⟩, fun c2 => ⟨pk_in i 12 (by omega), (hpd.1 c).2 c2⟩⟩, fun c => ⟨pk_in i 12 (by omega), hpd.2 c⟩⟩
    refine ⟨fun c => ?_, fun c0 => ⟨fun c => ?_, fun c1 => ⟨fun c => ?_, fun c2 => ?_⟩⟩⟩
    · subst c
      refine pk_le U i (fun z => go _ (by decide) ⟨fun c => absurd rfl c, fun _ => ⟨(ri.2 z).1.symm, hR0⟩⟩) (fun z => ⟨pk_in i 12 (by omega), ?_⟩)
      rw [ncl i]
      exact go _ (by decide) ⟨fun c => absurd rfl c, fun _ => ⟨(ri.1 z).1.symm, hR0⟩⟩
    · subst c
      refine pk_le U i (fun z => go _ (by decide) ⟨fun _ => ⟨fun c => absurd rfl c, fun _ => ⟨(ri.2 z).2.1.symm, hR0⟩⟩, fun c => absurd c (by decide)⟩) (fun z => ⟨pk_in i 12 (by omega), ?_⟩)
      rw [ncl i]
      exact go _ (by decide) ⟨fun _ => ⟨fun c => absurd rfl c, fun _ => ⟨(ri.1 z).2.1.symm, hR0⟩⟩, fun c => absurd c (by decide)⟩
    · subst c
      refine pk_le U i (fun z => go _ (by decide) ⟨fun _ => ⟨fun _ => ⟨(ri.2 z).2.2.symm, hR0⟩, fun c => absurd c (by decide)⟩, fun c => absurd c (by decide)⟩) (fun z => ⟨pk_in i 12 (by omega), ?_⟩)
      rw [ncl i]
      exact go _ (by decide) ⟨fun _ => ⟨fun _ => ⟨(ri.1 z).2.2.symm, hR0⟩, fun c => absurd c (by decide)⟩, fun c => absurd c (by decide)⟩
    · unfold wp_d_counter
      refine sp_in_Y (ix_r hi (by omega)).1 (ix_r hi (by omega)).2 ⟨fun c => absurd c (by decide), fun _ => ?_⟩ rfl rfl
      refine sp_in_N (a := 0) (b := 2) (fun z => ?_) ⟨fun c => absurd rfl c, fun _ => ⟨rfl, hR0⟩⟩ rfl rfl
      rcases rg32 a2 0 2 (by omega) (by omega) with ⟨j, -, hj, rfl⟩ | hn2
      · rcases (show j = 0 ∨ j = 1 ∨ j = 2 by omega) with z | z | z <;> subst z
        · exact c0 rfl
        · exact c1 rfl
        · exact c2 rfl
      · exact hn2 z
  · refine sp_isW_N hn ⟨fun c => absurd rfl c, fun _ => ?_⟩
    exact sp_in_N hn ⟨fun _ => ⟨rfl, hR0⟩, fun c => absurd rfl c⟩ rfl rfl
theorem ob_counter : Ob_counter Rab := by
  intro t a1 a2 xs ds ms ht hR
  have hR0 := ob_step _ _ _ _ hR
  obtain ⟨P, Rd, T, M, F, N, G, U, J, hP, hR, hT, hSl, hM, hJ, hN, hG, hF, hU, hE, rl, rc, rs, rt, rg, rk, rf, rv, rm⟩ := hR
  exact op_counter hM hU rc hR0
theorem op_hot {U M G T : Nat} {keys counts errors ck cc ce : Nat → Int32} {a1 limit used thr d_t d_m : Int32} (hT1 : 1 ≤ T) (hT2 : T < 2 ^ 30) (hT : thr = nI T ∧ d_t = nI T) (hM : limit = nI M ∧ d_m = nI M) (hU : used = nI U) (rc : cnR keys counts errors U M G ck cc ce) {Q : Prop} (hR0 : Q) : wp_x_hot a1 thr keys counts errors limit used (fun r => wp_d_hot a1 d_t d_m ck cc ce (fun r2 => r = r2 ∧ Q)) := by
  obtain ⟨rfl, rfl⟩ := hM
  obtain ⟨rfl, rfl⟩ := hT
  subst hU
  obtain ⟨m1, m12, um, un, r1, r2⟩ := rc
  have zT : (0 : Int32) < nI T := nI_lt (a := 0) (by omega) (by omega)
  rcases key32 a1 with ⟨K, hK, rfl⟩ | hn
  · refine sp_isKey_Y hK ⟨fun _ => ?_, fun c => absurd c (by decide)⟩
    have kne : ∀ i, i < 12 → U ≤ i → ¬ ck i = nI K := fun i hi hu q => nI_nm1 hK (by rw [← q]; exact ((r1 i hi).2 hu).1)
    have hpre : ∀ j, j < U → ¬ ck j = -1 := fun j hj q => by
      obtain ⟨K2, c2, e2, hK2, ek, -⟩ := r2 j hj
      rw [((r1 j (by omega)).1 hj).1, ek] at q
      exact nI_nm1 hK2 q
    unfold wp_cn_atLeast
    refine sp_cn_find (by omega) (fun hno => ?_) (fun i hi hk hf => ?_)
    · have dno : ∀ i, i < M → ¬ ck i = nI K := fun i hi q => by
        rcases Nat.lt_or_ge i U with c | c
        · exact hno i c (by rw [← ((r1 i (by omega)).1 c).1]; exact q)
        · exact kne i (by omega) c q
      refine ⟨fun c => absurd rfl c, fun _ => ⟨fun _ => ?_, fun c => absurd zT c⟩⟩
      unfold wp_cn_atMost
      refine sp_cn_find (by omega) (fun _ => ?_) (fun i hi hk _ => absurd hk (hno i hi))
      refine ⟨fun _ => ?_, fun c => absurd rfl c⟩
      refine pk_le M U (fun hmu => ?_) (fun hum => ?_)
      · refine sp_cn_leastAt (by omega) (by omega) (fun i hi hl hs => ?_)
        refine ⟨pk_in i 12 (by omega), ?_⟩
        rw [ncl i]
        have go : ∀ pd : Int32 → Prop, ((counts i < nI T → pd 0) ∧ (¬ counts i < nI T → pd 1)) → wp_d_hot (nI K) (nI T) (nI M) ck cc ce pd := fun pd hpd => by
          unfold wp_d_hot
          refine sp_noKey_Y hK ⟨fun _ => ?_, fun c => absurd rfl c⟩
          refine sp_d_counterOf m12 (fun _ => ?_) (fun j hj q => absurd q (dno j hj))
          refine ⟨fun _ => ?_, fun c => absurd (by decide) c⟩
          refine sp_d_weakest m1 m12 (fun j hj q => absurd q (hpre j (by omega))) (fun _ j hj g1 g2 => ?_)
          have eji : j = i := by
            have c1 : cc j = counts j := ((r1 j (by omega)).1 (by omega)).2.1
            have c2 : cc i = counts i := ((r1 i (by omega)).1 (by omega)).2.1
            rcases Nat.lt_trichotomy j i with q | q | q
            · have a1 := hs j q
              have a2 := g1 i (by omega)
              rw [c1, c2] at a2
              exact absurd a1 (Int32.not_lt.mpr a2)
            · exact q
            · have a1 := g2 i q
              rw [c1, c2] at a1
              exact absurd a1 (Int32.not_lt.mpr (hl j (by omega)))
          subst eji
          refine ⟨pk_in j 12 (by omega), ?_⟩
          rw [ncl j]
          refine ⟨fun q => absurd q (hpre j (by omega)), fun _ => ⟨pk_in j 12 (by omega), ?_⟩⟩
          rw [((r1 j (by omega)).1 (by omega)).2.1]
          exact hpd
        exact ⟨fun c => go _ ⟨fun _ => ⟨rfl, hR0⟩, fun c2 => absurd c c2⟩, fun c => go _ ⟨fun c2 => absurd c2 c, fun _ => ⟨rfl, hR0⟩⟩⟩
      · refine ⟨fun _ => ?_, fun c => absurd zT c⟩
        have hu0 := (r1 U (by omega)).2 (Nat.le_refl U)
        unfold wp_d_hot
        refine sp_noKey_Y hK ⟨fun _ => ?_, fun c => absurd rfl c⟩
        refine sp_d_counterOf m12 (fun _ => ?_) (fun j hj q => absurd q (dno j hj))
        refine ⟨fun _ => ?_, fun c => absurd (by decide) c⟩
        refine sp_d_weakest m1 m12 (fun j hj q g => ?_) (fun q => absurd hu0.1 (q U (by omega)))
        refine ⟨pk_in j 12 (by omega), ?_⟩
        rw [ncl j]
        exact ⟨fun _ => ⟨rfl, hR0⟩, fun c => absurd q c⟩
    · have hci := (r1 i (by omega)).1 hi
      have same : ∀ j, keys j = nI K → (∀ l, l < j → ¬ keys l = nI K) → j = i := fun j q g => by
        rcases Nat.lt_trichotomy j i with c | c | c
        · exact absurd q (hf j c)
        · exact c
        · exact absurd hk (g i c)
      have go : ∀ pd : Int32 → Prop, (((counts i - errors i) < nI T → (counts i < nI T → pd 0) ∧ (¬ counts i < nI T → pd 1)) ∧ (¬ (counts i - errors i) < nI T → pd 2)) → wp_d_hot (nI K) (nI T) (nI M) ck cc ce pd := fun pd hpd => by
        unfold wp_d_hot
        refine sp_noKey_Y hK ⟨fun _ => ?_, fun c => absurd rfl c⟩
        refine sp_d_counterOf m12 (fun q => absurd (by rw [hci.1]; exact hk) (q i (by omega))) (fun j hj q g => ?_)
        have eji : j = i := by
          rcases Nat.lt_trichotomy j i with c | c | c
          · exact absurd (by rw [← ((r1 j (by omega)).1 (by omega)).1]; exact q) (hf j c)
          · exact c
          · exact absurd (by rw [hci.1]; exact hk) (g i c)
        subst eji
        refine ⟨fun c => absurd c (nI_pos (by omega)), fun _ => ⟨pk_in j 12 (by omega), pk_in j 12 (by omega), ?_⟩⟩
        rw [ncl j, hci.2.1, hci.2.2]
        exact ⟨fun c => ⟨pk_in j 12 (by omega), hpd.1 c⟩, hpd.2⟩
      refine ⟨fun _ => sp_cn_surelyAt hi (by omega) ?_, fun c => absurd c (fun q => absurd (nI_ge0 (K := i) (by omega)) (by rw [q]; decide))⟩
      refine ⟨fun c => ?_, fun c => go _ ⟨fun c2 => absurd c2 c, fun _ => ⟨rfl, hR0⟩⟩⟩
      unfold wp_cn_atMost
      refine sp_cn_find (by omega) (fun q => absurd hk (q i hi)) (fun j hj q g => ?_)
      have eji := same j q g
      subst eji
      refine ⟨fun c => absurd c (fun q => absurd (nI_ge0 (K := j) (by omega)) (by rw [q]; decide)), fun _ => ⟨pk_in j 12 (by omega), ?_⟩⟩
      rw [ncl j]
      exact ⟨fun c2 => go _ ⟨fun _ => ⟨fun _ => ⟨rfl, hR0⟩, fun c3 => absurd c2 c3⟩, fun c3 => absurd c c3⟩, fun c2 => go _ ⟨fun _ => ⟨fun c3 => absurd c3 c2, fun _ => ⟨rfl, hR0⟩⟩, fun c3 => absurd c c3⟩⟩
  · refine sp_isKey_N hn ⟨fun c => absurd rfl c, fun _ => ?_⟩
    exact sp_noKey_N hn ⟨fun c => absurd c (by decide), fun _ => ⟨rfl, hR0⟩⟩
theorem ob_hot : Ob_hot Rab := by
  intro t a1 xs ds ms ht hR
  have hR0 := ob_step _ _ _ _ hR
  obtain ⟨P, Rd, T, M, F, N, G, U, J, hP, hR, hT, hSl, hM, hJ, hN, hG, hF, hU, hE, rl, rc, rs, rt, rg, rk, rf, rv, rm⟩ := hR
  exact op_hot hT.2.2.1 (by have := hT.2.2.2; have := hR.2.2.2; omega) ⟨hT.1, hT.2.1⟩ hM hU rc hR0
theorem op_splitKey {pc dp : Nat → Int32} {a1 : Int32} (he : ∀ k, k < 100 → pc k = dp k) {Q : Prop} (hR0 : Q) : wp_x_splitKey a1 pc (fun r => wp_d_splitKey a1 dp (fun r2 => r = r2 ∧ Q)) := by
  unfold wp_x_splitKey
  refine hk_upE (fun j v => v.2 = nI j ∧ ∀ pd, hk_lp (wb_d_splitKey_4 dp a1 pd) (100 - j + 1) v → hk_lp (wb_d_splitKey_4 dp a1 pd) 101 (0, 0)) 100 0 _ (Nat.zero_le _) ⟨rfl, fun pd h => h⟩ ?_ ?_
  · rintro j ⟨b, v⟩ K hj ⟨e, hM⟩ hk
    have e : v = nI j := e
    subst e
    unfold wb_x_splitKey_4
    dsimp only
    refine pk_le 100 j (fun q => absurd q (by omega)) (fun _ => ?_)
    have step : ∀ pd : Int32 → Prop, ((dp j ≤ 1 → hk_lp (wb_d_splitKey_4 dp a1 pd) (100 - (j + 1) + 1) (b, nI (j + 1))) ∧ (¬ dp j ≤ 1 → (¬ b = a1 → hk_lp (wb_d_splitKey_4 dp a1 pd) (100 - (j + 1) + 1) (b + 1, nI (j + 1))) ∧ (b = a1 → pd (nI j)))) → hk_lp (wb_d_splitKey_4 dp a1 pd) 101 (0, 0) := fun pd h => by
      refine hM pd ?_
      rw [show 100 - j + 1 = (100 - (j + 1) + 1) + 1 by omega]
      show wb_d_splitKey_4 dp a1 pd (hk_lp (wb_d_splitKey_4 dp a1 pd) (100 - (j + 1) + 1)) (b, nI j)
      unfold wb_d_splitKey_4
      dsimp only
      refine pk_le 100 j (fun q => absurd q (by omega)) (fun _ => ⟨pk_in j 100 hj, ?_⟩)
      rw [ncl j]
      refine ⟨fun c x e => ?_, fun c => ⟨fun c2 x e x2 e2 => ?_, fun c2 => (h.2 c).2 c2⟩⟩
      · rw [e, nI_1]; exact h.1 c
      · rw [e2, nI_1, e]; exact (h.2 c).1 c2
    unfold wp_ks_isSplit
    refine ⟨pk_in j 100 hj, ?_⟩
    dsimp only
    rw [ncl j, he j hj]
    refine ⟨fun c => ⟨fun _ x5 e5 => ?_, fun c2 => absurd rfl c2⟩, fun c => ⟨fun c2 => absurd c2 (by decide), fun _ => ⟨fun c2 x7 e7 x8 e8 => ?_, fun c2 => ?_⟩⟩⟩
    · rw [e5, nI_1]
      exact hk _ ⟨rfl, fun pd h => step pd ⟨fun _ => h, fun c2 => absurd c c2⟩⟩
    · rw [e8, nI_1, e7]
      exact hk _ ⟨rfl, fun pd h => step pd ⟨fun c3 => absurd c3 c, fun _ => ⟨fun _ => h, fun c3 => absurd c3 c2⟩⟩⟩
    · unfold wp_d_splitKey
      exact ⟨101, step _ ⟨fun c3 => absurd c3 c, fun _ => ⟨fun c3 => absurd c2 c3, fun _ => ⟨rfl, hR0⟩⟩⟩⟩
  · rintro ⟨b, v⟩ K ⟨e, hM⟩
    have e : v = nI 100 := e
    subst e
    unfold wb_x_splitKey_4
    dsimp only
    refine pk_le 100 100 (fun _ => ?_) (fun q => absurd q (by omega))
    unfold wp_d_splitKey
    refine ⟨101, hM _ ?_⟩
    change wb_d_splitKey_4 dp a1 (fun r2 => (-1) = r2 ∧ Q) (hk_lp (wb_d_splitKey_4 dp a1 (fun r2 => (-1) = r2 ∧ Q)) 0) (b, nI 100)
    unfold wb_d_splitKey_4
    exact pk_le 100 100 (fun _ => ⟨rfl, hR0⟩) (fun q => absurd q (by omega))
theorem ks_pc {F P N : Nat} {kc kd pc L dp Ld tc : Nat → Int32} {S D : Nat → Int64} (r : ksR F P N kc kd pc S L dp D Ld tc) : ∀ k, k < 100 → pc k = dp k := fun k hk => by
  obtain ⟨q, q1, qP, q8, b3, b4⟩ := ks_q r hk
  rw [b3, b4]
theorem ob_splitKey : Ob_splitKey Rab := by
  intro t a1 xs ds ms ht hR
  have hR0 := ob_step _ _ _ _ hR
  obtain ⟨P, Rd, T, M, F, N, G, U, J, hP, hR, hT, hSl, hM, hJ, hN, hG, hF, hU, hE, rl, rc, rs, rt, rg, rk, rf, rv, rm⟩ := hR
  exact op_splitKey (ks_pc rk) hR0
