theorem sp_d_restore {F J j C H : Nat} (hF : F ≤ 6) (hj : j < J) (hJ : J ≤ 4) (hC : C ≤ 60) (hH : H ≤ 40) {Ld lv hv tc dp ld ck cc ce dk dw dtk dtt mV mH mSm mSk mSw mT mTk mTt mTime mRows mMat : Nat → Int32} {D mS mOut : Nat → Int64} {rows inr mat tim dsc dtc lgd : Int32} {out : Int64} (hSm : mSm j = nI C) (hT : mT j = nI H) {post : Int32 → (Nat → Int64) × (Nat → Int32) × (Nat → Int32) × (Nat → Int32) × (Nat → Int32) × (Nat → Int32) × Int32 × Int32 × Int32 × Int32 × Int64 × (Nat → Int32) × (Nat → Int32) × (Nat → Int32) × (Nat → Int32) × Int32 × (Nat → Int32) × (Nat → Int32) × Int32 × (Nat → Int32) × (Nat → Int32) × Int32 → Prop} (h : ∀ (D2 : Nat → Int64) (Ld2 lv2 hv2 tc2 dp2 ld2 ck2 cc2 ce2 dk2 dw2 dtk2 dtt2 : Nat → Int32), (∀ k f, k < 100 → f < F → D2 (dx k 0 f) = mS (600 * j + 6 * k + f)) → (∀ k, k < 100 → Ld2 (dl k 0) = -1 ∧ lv2 (dl k 0) = mV (100 * j + k) ∧ hv2 (dl k 0) = vp_nar .boolean (mH (100 * j + k)) ∧ dp2 k = 1) → (∀ i, i < 8 → ld2 i = 0) → (∀ i, i < 12 → ck2 i = -1 ∧ cc2 i = 0 ∧ ce2 i = 0) → (∀ i, i < C → dk2 i = mSk (60 * j + i) ∧ dw2 i = mSw (60 * j + i)) → (∀ i, i < H → dtk2 i = mTk (40 * j + i) ∧ dtt2 i = mTt (40 * j + i)) → post (mRows j) (D2, Ld2, lv2, hv2, tc2, dp2, mRows j, 0, mMat j, mTime j, mOut j, ld2, ck2, cc2, ce2, nI C, dk2, dw2, nI H, dtk2, dtt2, 0)) : wp_d_restore (nI j) (nI F) D Ld lv hv tc dp rows inr mat tim out ld ck cc ce dsc dk dw dtc dtk dtt lgd (nI J) mS mV mH mSm mSk mSw mT mTk mTt mTime mRows mMat mOut post := by
  unfold wp_d_restore
  have hjr := ix_r hj (by omega)
  refine sp_in_Y (a := 0) (b := nI J - 1) hjr.1 hjr.2 ⟨fun _ => ?_, fun z => absurd z (by decide)⟩ rfl rfl
  refine hk_upE (fun k' v => v.1 = nI k' ∧ (∀ k f, k < k' → f < F → v.2.1 (dx k 0 f) = mS (600 * j + 6 * k + f)) ∧ (∀ k, k < k' → v.2.2.1 (dl k 0) = -1 ∧ v.2.2.2.1 (dl k 0) = mV (100 * j + k) ∧ v.2.2.2.2.1 (dl k 0) = vp_nar .boolean (mH (100 * j + k)) ∧ v.2.2.2.2.2.2 k = 1)) 100 0 _ (Nat.zero_le _) ⟨rfl, fun k f hk => absurd hk (Nat.not_lt_zero _), fun k hk => absurd hk (Nat.not_lt_zero _)⟩ ?_ ?_
  · rintro i ⟨v, D', Ld', lv', hv', tc', dp'⟩ Kk hi ⟨e, a1, a2⟩ hk
    have e : v = nI i := e
    subst e
    dsimp only at a1 a2
    unfold wb_d_restore_21
    dsimp only
    refine pk_le 100 i (fun z => absurd z (by omega)) (fun _ => ⟨pk_in i 100 hi, ?_⟩)
    refine hk_upE (fun f' w => w.1 = nI f' ∧ (∀ k f, (k < i ∧ f < F) ∨ (k = i ∧ f < f') → w.2 (dx k 0 f) = mS (600 * j + 6 * k + f))) F 0 _ (Nat.zero_le _) ⟨rfl, fun k f hc => ?_⟩ ?_ ?_
    · rcases hc with hc | hc
      · exact a1 k f hc.1 hc.2
      · exact absurd hc.2 (Nat.not_lt_zero _)
    · rintro g ⟨w, s'⟩ Kk' hg ⟨e, c1⟩ hk'
      have e : w = nI g := e
      subst e
      dsimp only at c1
      unfold wb_d_restore_36
      dsimp only
      have edx : (6 * nI i + nI g : Int32) = nI (dx i 0 g) := by
        rw [show (6 : Int32) = nI 6 from rfl, pk_mul, nI_add]
        unfold dx
        congr 1
        omega
      have hdx := dx_lt (k := i) (i := 0) (f := g) hi (by omega) (by omega)
      rw [ix600, edx, ncl (600 * j + 6 * i + g), ncl (dx i 0 g)]
      refine pk_le F g (fun z => absurd z (by omega)) (fun _ => ⟨pk_in (600 * j + 6 * i + g) 2400 (by omega), fun x27 e27 => ⟨pk_in (dx i 0 g) 4800 hdx, fun x28 e28 => hk' _ ⟨by rw [e28]; exact nI_1 g, fun k f hc => ?_⟩⟩⟩)
      show vp_updL s' (dx i 0 g) x27 (dx k 0 f) = _
      by_cases cc : k = i ∧ f = g
      · obtain ⟨rfl, rfl⟩ := cc
        rw [pk_uLs, e27]
      · rw [pk_uLn (by unfold dx; omega)]
        exact c1 k f (by omega)
    · rintro ⟨w, s'⟩ Kk' ⟨e, c1⟩
      have e : w = nI F := e
      subst e
      dsimp only at c1
      unfold wb_d_restore_36
      dsimp only
      rw [ix100, ncl i, ncl (100 * j + i)]
      refine pk_le F F (fun _ => ⟨pk_in i 800 (by omega), pk_in (100 * j + i) 400 (by omega), fun x24 e24 => ⟨pk_in i 800 (by omega), pk_in (100 * j + i) 400 (by omega), fun x25 e25 => ⟨pk_in i 800 (by omega), pk_in i 800 (by omega), fun x26 e26 => hk _ ⟨by rw [e26]; exact nI_1 i, fun k f hk1 hf => c1 k f (by omega), fun k hk1 => ?_⟩⟩⟩⟩) (fun z => absurd z (by omega))
      show upd Ld' i (-1) (dl k 0) = -1 ∧ upd lv' i x24 (dl k 0) = _ ∧ upd hv' i (vp_nar .boolean x25) (dl k 0) = _ ∧ upd dp' i 1 k = 1
      have ek : dl k 0 = k := by unfold dl; omega
      by_cases cc : k = i
      · subst cc
        rw [ek, pk_us, pk_us, pk_us, pk_us, e24, e25]
        exact ⟨rfl, rfl, rfl, rfl⟩
      · rw [pk_un (by omega), pk_un (by omega), pk_un (by omega), pk_un cc]
        exact a2 k (by omega)
  · rintro ⟨v, D', Ld', lv', hv', tc', dp'⟩ Kk ⟨e, a1, a2⟩
    have e : v = nI 100 := e
    subst e
    dsimp only at a1 a2
    unfold wb_d_restore_21
    dsimp only
    refine pk_le 100 100 (fun _ => ⟨pk_in j 4 (by omega), fun x5 e5 => ?_⟩) (fun z => absurd z (by omega))
    rw [ncl j, hSm] at e5
    subst e5
    refine hk_upE (fun i v => v.1 = nI i ∧ ∀ n, n < i → v.2.1 n = mSk (60 * j + n) ∧ v.2.2 n = mSw (60 * j + n)) C 0 _ (Nat.zero_le _) ⟨rfl, fun i hi => absurd hi (Nat.not_lt_zero _)⟩ ?_ ?_
    · rintro i ⟨v, p, q⟩ Kk hi ⟨e, c1⟩ hk
      have e : v = nI i := e
      subst e
      dsimp only at c1
      unfold wb_d_restore_144
      dsimp only
      rw [ix60, ncl i, ncl (60 * j + i)]
      refine pk_le C i (fun z => absurd z (by omega)) (fun _ => ⟨pk_in (60 * j + i) 240 (by omega), fun x19 e19 => ⟨pk_in i 60 (by omega), pk_in (60 * j + i) 240 (by omega), fun x20 e20 => ⟨pk_in i 60 (by omega), fun x21 e21 => hk _ ⟨by rw [e21]; exact nI_1 i, fun n hn => ?_⟩⟩⟩⟩)
      show upd p i x19 n = _ ∧ upd q i x20 n = _
      by_cases cc : n = i
      · subst cc
        rw [pk_us, pk_us, e19, e20]
        exact ⟨rfl, rfl⟩
      · rw [pk_un cc, pk_un cc]
        exact c1 n (by omega)
    · rintro ⟨v, p, q⟩ Kk ⟨e, c1⟩
      have e : v = nI C := e
      subst e
      dsimp only at c1
      unfold wb_d_restore_144
      dsimp only
      refine pk_le C C (fun _ => ⟨pk_in j 4 (by omega), fun x8 e8 => ?_⟩) (fun z => absurd z (by omega))
      rw [ncl j, hT] at e8
      subst e8
      refine hk_upE (fun i v => v.1 = nI i ∧ ∀ n, n < i → v.2.1 n = mTk (40 * j + n) ∧ v.2.2 n = mTt (40 * j + n)) H 0 _ (Nat.zero_le _) ⟨rfl, fun i hi => absurd hi (Nat.not_lt_zero _)⟩ ?_ ?_
      · rintro i ⟨v, r, s⟩ Kk hi ⟨e, d1⟩ hk
        have e : v = nI i := e
        subst e
        dsimp only at d1
        unfold wb_d_restore_204
        dsimp only
        rw [ix40, ncl i, ncl (40 * j + i)]
        refine pk_le H i (fun z => absurd z (by omega)) (fun _ => ⟨pk_in (40 * j + i) 160 (by omega), fun x16 e16 => ⟨pk_in i 40 (by omega), pk_in (40 * j + i) 160 (by omega), fun x17 e17 => ⟨pk_in i 40 (by omega), fun x18 e18 => hk _ ⟨by rw [e18]; exact nI_1 i, fun n hn => ?_⟩⟩⟩⟩)
        show upd r i x16 n = _ ∧ upd s i x17 n = _
        by_cases cc : n = i
        · subst cc
          rw [pk_us, pk_us, e16, e17]
          exact ⟨rfl, rfl⟩
        · rw [pk_un cc, pk_un cc]
          exact d1 n (by omega)
      · rintro ⟨v, r, s⟩ Kk ⟨e, d1⟩
        have e : v = nI H := e
        subst e
        dsimp only at d1
        unfold wb_d_restore_204
        dsimp only
        rw [ncl j]
        refine pk_le H H (fun _ => ⟨pk_in j 4 (by omega), fun x11 e11 => ⟨pk_in j 4 (by omega), fun x12 e12 => ⟨pk_in j 4 (by omega), fun x13 e13 => ⟨pk_in j 4 (by omega), fun x14 e14 => ?_⟩⟩⟩⟩) (fun z => absurd z (by omega))
        subst e11
        subst e12
        subst e13
        subst e14
        exact sp_d_freshRun (fun ld2 ck2 cc2 ce2 f1 f2 => h D' Ld' lv' hv' tc' dp' ld2 ck2 cc2 ce2 p q r s a1 a2 f1 f2 c1 d1)
theorem ksR_rest {F P N Nj : Nat} {kc kd pc L dp Ld tc L2 Ld2 tc2 dp2 ml : Nat → Int32} {S D S2 D2 ms : Nat → Int64} (rk : ksR F P N kc kd pc S L dp D Ld tc) (hNj : Nj ≤ 450) (hS : ∀ k f, k < 100 → f < F → S2 (cs k 0 f) = ms (k * 6 + f)) (hL : ∀ k, k < 100 → L2 (sl k 0) = ml k) (hD : ∀ k f, k < 100 → f < F → D2 (dx k 0 f) = ms (k * 6 + f)) (hLd : ∀ k, k < 100 → Ld2 (dl k 0) = -1 ∧ dp2 k = 1) (hd : ∀ k f, k < 100 → f < F → dom (kc f) (fun _ => ms (k * 6 + f)) (fun _ => ml k) 0 (1000 * Nj)) (hl : ∀ k, k < 100 → -1 ≤ ml k ∧ ml k < nI Nj) : ksR F P Nj kc kd (fun _ => 1) S2 L2 dp2 D2 Ld2 tc2 := by
  obtain ⟨hF, hP2, hP8, hN, hkd, hk⟩ := rk
  refine ⟨hF, hP2, hP8, hNj, hkd, fun k hk1 => ⟨1, Nat.le_refl _, by omega, rfl, (hLd k hk1).2, Or.inl rfl, fun f hf i hi => ?_, fun f hf => ?_, ⟨fun i hi => ?_, fun i h1 hi => absurd h1 (by omega), Or.inr ⟨(hLd k hk1).1, fun i h1 hi => absurd h1 (by omega)⟩⟩, fun i hi => ?_, fun i h1 hi => absurd h1 (by omega)⟩⟩
  · rw [show i = 0 by omega, hS k f hk1 hf, hD k f hk1 hf]
  · obtain ⟨d1, d2, d3, d4⟩ := hd k f hk1 hf
    refine ⟨fun c => ?_, fun c i hi => ?_, fun c i hi => ?_, fun c i hi => ?_⟩
    · show (S2 (cs k 0 f)).toInt.natAbs ≤ _
      rw [hS k f hk1 hf]
      exact d1 c
    · rw [show i = 0 by omega]
      show inV (S2 (cs k 0 f))
      rw [hS k f hk1 hf]
      exact d2 c 0 (by omega)
    · rw [show i = 0 by omega]
      show 0 ≤ (S2 (cs k 0 f)).toInt ∧ (S2 (cs k 0 f)).toInt < 65536
      rw [hS k f hk1 hf]
      exact d3 c 0 (by omega)
    · rw [show i = 0 by omega]
      show S2 (cs k 0 f) = NO ↔ L2 (sl k 0) = -1
      rw [hS k f hk1 hf, hL k hk1]
      exact d4 c 0 (by omega)
  · rw [show i = 0 by omega]
    show -1 ≤ L2 (sl k 0)
    rw [hL k hk1]
    exact (hl k hk1).1
  · rw [show i = 0 by omega, hL k hk1]
    exact (hl k hk1).2
theorem op_restoreB {F P N J j : Nat} {kd Ld lv hv tc dp ld ck cc ce dk dw dtk dtt mV mH mSm mSk mSw mT mTk mTt mTime mRows mMat : Nat → Int32} {D mS mOut : Nat → Int64} {rows inr mat tim dsc dtc lgd : Int32} {out : Int64} {kc pc L xl sk sw tk tt : Nat → Int32} {S V : Nat → Int64} {a1 mc xrows xrr used sc xmat tc_ xtim kept fc d_f d_marks : Int32} {xout : Int64} {marks : Nat → Option Nat} {h_ : Nat} {mm : MS} (ha : a1 = nI j) (hJ : mc = nI J ∧ d_marks = nI J) (hj : j < J) (hJ4 : J ≤ 4) (hF : fc = nI F ∧ d_f = nI F) (rk : ksR F P N kc kd pc S L dp D Ld tc) (hm : marks j = some h_) (rm : mkR F j kc mm mS mV mH mSm mSk mSw mT mTk mTt mTime mRows mMat mOut) {Q : (Nat → Int32) × Int32 × Int32 × Int32 × (Nat → Int32) × (Nat → Int32) × Int32 × Int32 × Int64 × (Nat → Int32) × (Nat → Int32) × Int32 × Int32 × Int32 × (Nat → Int32) × (Nat → Int64) × (Nat → Int32) × (Nat → Int64) → (Nat → Int64) × (Nat → Int32) × (Nat → Int32) × (Nat → Int32) × (Nat → Int32) × (Nat → Int32) × Int32 × Int32 × Int32 × Int32 × Int64 × (Nat → Int32) × (Nat → Int32) × (Nat → Int32) × (Nat → Int32) × Int32 × (Nat → Int32) × (Nat → Int32) × Int32 × (Nat → Int32) × (Nat → Int32) × Int32 → Prop} (hQ : ∀ (Nj : Nat) (sk2 sw2 : Nat → Int32) (sc2 mat2 : Int32) (out2 : Int64) (tk2 tt2 : Nat → Int32) (tc2_ tim2 : Int32) (S2 : Nat → Int64) (L2 : Nat → Int32) (V2 : Nat → Int64) (D2 : Nat → Int64) (Ld2 lv2 hv2 tc2 dp2 : Nat → Int32) (dmat2 dtim2 : Int32) (dout2 : Int64) (ld2 ck2 cc2 ce2 : Nat → Int32) (dsc2 : Int32) (dk2 dw2 : Nat → Int32) (dtc2 : Int32) (dtk2 dtt2 : Nat → Int32), ksR F P Nj kc kd (fun _ => 1) S2 L2 dp2 D2 Ld2 tc2 → smR sk2 sw2 sc2 mat2 out2 dsc2 dk2 dw2 dmat2 dout2 → tiR tk2 tt2 tc2_ tim2 dtc2 dtk2 dtt2 dtim2 → vR F Nj J kc V2 hv2 lv2 → (∀ i, i < 8 → ld2 i = 0) → (∀ i, i < 12 → ck2 i = -1 ∧ cc2 i = 0 ∧ ce2 i = 0) → Q ((fun _ => 0), nI Nj, 0, 0, sk2, sw2, sc2, mat2, out2, tk2, tt2, tc2_, tim2, 0, (fun _ => 1), S2, L2, V2) (D2, Ld2, lv2, hv2, tc2, dp2, nI Nj, 0, dmat2, dtim2, dout2, ld2, ck2, cc2, ce2, dsc2, dk2, dw2, dtc2, dtk2, dtt2, 0)) : wp_x_restoreB h_ a1 marks xl mc xrows xrr used sk sw sc xmat xout tk tt tc_ xtim kept pc S L V fc (gm_mk_states mm) (gm_mk_latestRows mm) (gm_mk_latestValues mm) (gm_mk_rows mm) (gm_sm2_keys mm) (gm_sm2_weights mm) (gm_sm2_count mm) (gm_sm2_matches mm) (gm_sm2_out mm) (gm_ti2_keys mm) (gm_ti2_times mm) (gm_ti2_count mm) (gm_ti2_now mm) (fun r w => wp_d_restore a1 d_f D Ld lv hv tc dp rows inr mat tim out ld ck cc ce dsc dk dw dtc dtk dtt lgd d_marks mS mV mH mSm mSk mSw mT mTk mTt mTime mRows mMat mOut (fun r2 w2 => r = r2 ∧ Q w w2)) := by
  subst ha
  obtain ⟨rfl, rfl⟩ := hJ
  obtain ⟨rfl, rfl⟩ := hF
  have hF6 := rk.1
  obtain ⟨Nj, h1, h2, h3, h4, h5, h6, rs, rt⟩ := rm
  have hjr := ix_r hj (by omega)
  have rs0 := rs
  have rt0 := rt
  obtain ⟨s1, s2, C, hC, s3, s4, s5⟩ := rs
  obtain ⟨t1, l, hl, t3, t4, t5, t6, t7⟩ := rt
  unfold wp_x_restoreB
  refine sp_isW_Y hjr.1 hjr.2 ⟨fun _ => ⟨pk_in j 4 (by omega), by rw [ncl j]; exact hm, ?_⟩, fun z => absurd z (by decide)⟩
  rw [s3, t3, h2]
  refine sp_sm_copy hC (fun k2 w2 g4 => sp_ti_copy hl (fun k3 w3 g5 => sp_ks_takeFrom hF6 (fun S2 L2 V2 g1 g2 g3 => ?_)))
  unfold wp_x_beginWork
  refine sp_d_restore hF6 hj hJ4 hC hl s4 t4 (fun D2 Ld2 lv2 hv2 tc2 dp2 ld2 ck2 cc2 ce2 dk2 dw2 dtk2 dtt2 a1 a2 f1 f2 c1 d1 => ?_)
  rw [h3]
  refine ⟨rfl, hQ Nj _ _ _ _ _ _ _ _ _ _ _ _ _ _ _ _ _ _ _ _ _ _ _ _ _ _ _ _ _ _ _ (ksR_rest rk h1 g1 g2 (fun k f hk hf => by rw [a1 k f hk hf, (h4 k f hk hf).1]) (fun k hk => ⟨(a2 k hk).1, (a2 k hk).2.2.2⟩) (fun k f hk hf => (h4 k f hk hf).2) h5) ?_ ?_ ⟨fun _ z => absurd z (by omega), fun c k hk => ?_⟩ f1 f2⟩
  · refine smR_same (by rw [s3, s4] at rs0; exact rs0) (fun C' i e _ hi => ?_) (fun C' i e _ hi => ?_)
    · have : C = C' := (nI_eq (by omega) (by omega)).mp e
      exact g4 i (by omega)
    · have : C = C' := (nI_eq (by omega) (by omega)).mp e
      exact c1 i (by omega)
  · refine tiR_same (by rw [t3, t4] at rt0; exact rt0) (fun C' i e _ hi => ?_) (fun C' i e _ hi => ?_)
    · have : l.length = C' := (nI_eq (by omega) (by omega)).mp e
      exact g5 i (by omega)
    · have : l.length = C' := (nI_eq (by omega) (by omega)).mp e
      exact d1 i (by omega)
  · obtain ⟨v1, v2⟩ := h6 c k hk
    dsimp only
    rw [g3 k hk, (a2 k hk).2.1, (a2 k hk).2.2.1, nar01 v2]
    exact ⟨v1, v2⟩
theorem ob_restoreB : Ob_restoreB Rab := by
  intro t a1 xs ds ms j k mm h marks ht hR ha hk hjk hk4 hmm hmk
  have hR0 := ob_step _ _ _ _ hR
  obtain ⟨P, Rd, T, M, F, N, G, U, J, hP, hR, hT, hSl, hM, hJ, hN, hG, hF, hU, hE, rl, rc, rs, rt, rg, rk, rf, rv, rm⟩ := hR
  have ek : J = k := (nI_eq (by have := hJ.2.2; omega) (by omega)).mp (hJ.1.symm.trans hk)
  subst ek
  obtain ⟨m0, e0, hmk2⟩ := rm j hjk
  rw [hmm] at e0
  have e0 := Option.some.inj e0
  subst e0
  exact op_restoreB ha ⟨hJ.1, hJ.2.1⟩ hjk hk4 hF rk hmk hmk2 (fun Nj sk2 sw2 sc2 mat2 out2 tk2 tt2 tc2_ tim2 S2 L2 V2 D2 Ld2 lv2 hv2 tc2 dp2 dmat2 dtim2 dout2 ld2 ck2 cc2 ce2 dsc2 dk2 dw2 dtc2 dtk2 dtt2 rk2 rs2 rt2 rv2 h2 h3 => Rab_mk (G := 0) (U := 0) hP hR hT hSl hM hJ ⟨rfl, rfl⟩ ⟨rfl, rfl, by have := hR.2.2.1; omega, Nat.zero_le _⟩ hF rfl hE (fun i hi => (h2 i hi).symm) (cnR_0 rc.1 rc.2.1 h3) rs2 rt2 (lgR_0 (by obtain ⟨w, g, hw, _, e, _⟩ := rg; exact ⟨w, hw, e⟩)) rk2 rf rv2 rm)
theorem ob_restoreA : Ob_restoreA Rab := by
  intro t a1 xs ds ms ht hR hno
  have hR0 := ob_step _ _ _ _ hR
  obtain ⟨P, Rd, T, M, F, N, G, U, J, hP, hR, hT, hSl, hM, hJ, hN, hG, hF, hU, hE, rl, rc, rs, rt, rg, rk, rf, rv, rm⟩ := hR
  have h4 := hJ.2.2
  have hn : ¬ ((0 : Int32) ≤ a1 ∧ a1 ≤ nI J - 1) := fun z => by
    rcases ix32 a1 (n := J) (by omega) with ⟨j, hj, e⟩ | y
    · have := hno j e (by omega) J hJ.1 (by omega)
      omega
    · exact y z
  have hx : gx_markCount xs = nI J := hJ.1
  have hd : gd_marks ds = nI J := hJ.2.1
  unfold wp_x_restoreA wp_d_restore
  refine sp_isW_N (show ¬ ((0 : Int32) ≤ a1 ∧ a1 ≤ gx_markCount xs - 1) from by rw [hx]; exact hn) ⟨fun z => absurd rfl z, fun _ => ?_⟩
  exact sp_in_N (a := 0) (b := nI J - 1) hn ⟨fun z => absurd rfl z, fun _ => ⟨rfl, hR0⟩⟩ rfl (show (gd_marks ds - 1).toInt64 = (nI J - 1).toInt64 from by rw [hd])
