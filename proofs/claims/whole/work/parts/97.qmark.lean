theorem ix600 (j k f : Nat) : 600 * nI j + 6 * nI k + nI f = nI (600 * j + 6 * k + f) := by
  rw [show (600 : Int32) = nI 600 from rfl, show (6 : Int32) = nI 6 from rfl, pk_mul, pk_mul, nI_add, nI_add]
theorem ix100 (j k : Nat) : 100 * nI j + nI k = nI (100 * j + k) := by
  rw [show (100 : Int32) = nI 100 from rfl, pk_mul, nI_add]
theorem ix60 (j k : Nat) : 60 * nI j + nI k = nI (60 * j + k) := by
  rw [show (60 : Int32) = nI 60 from rfl, pk_mul, nI_add]
theorem ix40 (j k : Nat) : 40 * nI j + nI k = nI (40 * j + k) := by
  rw [show (40 : Int32) = nI 40 from rfl, pk_mul, nI_add]
theorem sp_d_mark {F J C H : Nat} (Qf : Nat → Nat) (hF : F ≤ 6) (hJ : J < 4) (hC : C ≤ 60) (hH : H ≤ 40) {kd Ld lv hv dp sk sw tk tt mV mH mSm mSk mSw mT mTk mTt mTime mRows mMat : Nat → Int32} {D mS mOut : Nat → Int64} {rows mat tim : Int32} {out : Int64} (hdp : ∀ k, k < 100 → dp k = nI (Qf k) ∧ 1 ≤ Qf k ∧ Qf k ≤ 8) {post : Int32 → Int32 × (Nat → Int64) × (Nat → Int32) × (Nat → Int32) × (Nat → Int32) × (Nat → Int32) × (Nat → Int32) × (Nat → Int32) × (Nat → Int32) × (Nat → Int32) × (Nat → Int32) × (Nat → Int32) × (Nat → Int32) × (Nat → Int64) → Prop} (h : ∀ (mS2 : Nat → Int64) (mV2 mH2 mSk2 mSw2 mTk2 mTt2 : Nat → Int32), (∀ n, ¬ (600 * J ≤ n ∧ n < 600 * J + 600) → mS2 n = mS n) → (∀ k f, k < 100 → f < F → mS2 (600 * J + 6 * k + f) = (kJ dJn (kd f) (fun i => D (dx k i f)) (fun i => Ld (dl k i)) (Qf k - 1)).1) → (∀ n, ¬ (100 * J ≤ n ∧ n < 100 * J + 100) → mV2 n = mV n ∧ mH2 n = mH n) → (∀ k, k < 100 → mV2 (100 * J + k) = lv (dl k 0) ∧ mH2 (100 * J + k) = vp_nar .boolean (hv (dl k 0))) → (∀ n, ¬ (60 * J ≤ n ∧ n < 60 * J + 60) → mSk2 n = mSk n ∧ mSw2 n = mSw n) → (∀ i, i < C → mSk2 (60 * J + i) = sk i ∧ mSw2 (60 * J + i) = sw i) → (∀ n, ¬ (40 * J ≤ n ∧ n < 40 * J + 40) → mTk2 n = mTk n ∧ mTt2 n = mTt n) → (∀ i, i < H → mTk2 (40 * J + i) = tk i ∧ mTt2 (40 * J + i) = tt i) → post (nI J) (nI (J + 1), mS2, mV2, mH2, upd mSm J (nI C), mSk2, mSw2, upd mT J (nI H), mTk2, mTt2, upd mTime J tim, upd mRows J rows, upd mMat J mat, vp_updL mOut J out)) : wp_d_mark (nI F) kd D Ld lv hv dp rows mat tim out (nI C) sk sw (nI H) tk tt (nI J) mS mV mH mSm mSk mSw mT mTk mTt mTime mRows mMat mOut post := by
  unfold wp_d_mark
  refine ⟨fun _ => ?_, fun z => absurd ((nI_eq (b := 4) (by omega) (by omega)).mp z) (by omega)⟩
  refine hk_upE (fun j v => v.1 = nI j ∧ (∀ n, ¬ (600 * J ≤ n ∧ n < 600 * J + 600) → v.2.1 n = mS n) ∧ (∀ k f, k < j → f < F → v.2.1 (600 * J + 6 * k + f) = (kJ dJn (kd f) (fun i => D (dx k i f)) (fun i => Ld (dl k i)) (Qf k - 1)).1) ∧ (∀ n, ¬ (100 * J ≤ n ∧ n < 100 * J + 100) → v.2.2.1 n = mV n ∧ v.2.2.2 n = mH n) ∧ (∀ k, k < j → v.2.2.1 (100 * J + k) = lv (dl k 0) ∧ v.2.2.2 (100 * J + k) = vp_nar .boolean (hv (dl k 0)))) 100 0 _ (Nat.zero_le _) ⟨rfl, fun n _ => rfl, fun k f hk => absurd hk (Nat.not_lt_zero _), fun n _ => ⟨rfl, rfl⟩, fun k hk => absurd hk (Nat.not_lt_zero _)⟩ ?_ ?_
  · rintro j ⟨v, s, mv, mh⟩ Kk hj ⟨e, a1, a2, a3, a4⟩ hk
    have e : v = nI j := e
    subst e
    dsimp only at a1 a2 a3 a4
    unfold wb_d_mark_18
    dsimp only
    refine pk_le 100 j (fun z => absurd z (by omega)) (fun _ => ?_)
    refine hk_upE (fun i w => w.1 = nI i ∧ (∀ n, ¬ (600 * J ≤ n ∧ n < 600 * J + 600) → w.2 n = mS n) ∧ (∀ k f, (k < j ∧ f < F) ∨ (k = j ∧ f < i) → w.2 (600 * J + 6 * k + f) = (kJ dJn (kd f) (fun i => D (dx k i f)) (fun i => Ld (dl k i)) (Qf k - 1)).1)) F 0 _ (Nat.zero_le _) ⟨rfl, a1, fun k f hc => ?_⟩ ?_ ?_
    · rcases hc with hc | hc
      · exact a2 k f hc.1 hc.2
      · exact absurd hc.2 (Nat.not_lt_zero _)
    · rintro i ⟨w, s'⟩ Kk' hi ⟨e, c1, c2⟩ hk'
      have e : w = nI i := e
      subst e
      dsimp only at c1 c2
      unfold wb_d_mark_26
      dsimp only
      refine pk_le F i (fun z => absurd z (by omega)) (fun _ => sp_d_come hj (by omega) (hdp j hj).2.1 (hdp j hj).2.2 (hdp j hj).1 ?_)
      rw [ix600, ncl (600 * J + 6 * j + i)]
      refine ⟨pk_in (600 * J + 6 * j + i) 2400 (by omega), fun x21 e21 => hk' _ ⟨by rw [e21]; exact nI_1 i, fun n hn => ?_, fun k f hc => ?_⟩⟩
      · show vp_updL s' (600 * J + 6 * j + i) _ n = _
        rw [pk_uLn (by omega)]
        exact c1 n hn
      · show vp_updL s' (600 * J + 6 * j + i) _ (600 * J + 6 * k + f) = _
        by_cases cc : k = j ∧ f = i
        · obtain ⟨rfl, rfl⟩ := cc
          exact pk_uLs
        · rw [pk_uLn (by omega)]
          exact c2 k f (by omega)
    · rintro ⟨w, s'⟩ Kk' ⟨e, c1, c2⟩
      have e : w = nI F := e
      subst e
      dsimp only at c1 c2
      unfold wb_d_mark_26
      dsimp only
      refine pk_le F F (fun _ => ?_) (fun z => absurd z (by omega))
      rw [ix100, ncl j, ncl (100 * J + j)]
      refine ⟨pk_in j 800 (by omega), fun x17 e17 => ⟨pk_in (100 * J + j) 400 (by omega), pk_in j 800 (by omega), fun x18 e18 => ⟨pk_in (100 * J + j) 400 (by omega), fun x19 e19 => hk _ ⟨by rw [e19]; exact nI_1 j, c1, fun k f hk1 hf => c2 k f (by omega), fun n hn => ?_, fun k hk1 => ?_⟩⟩⟩⟩
      · show upd mv (100 * J + j) x17 n = mV n ∧ upd mh (100 * J + j) (vp_nar .boolean x18) n = mH n
        rw [pk_un (by omega), pk_un (by omega)]
        exact a3 n hn
      · show upd mv (100 * J + j) x17 (100 * J + k) = _ ∧ upd mh (100 * J + j) (vp_nar .boolean x18) (100 * J + k) = _
        by_cases cc : k = j
        · subst cc
          rw [pk_us, pk_us, e17, e18, show dl k 0 = k by unfold dl; omega]
          exact ⟨rfl, rfl⟩
        · rw [pk_un (by omega), pk_un (by omega)]
          exact a4 k (by omega)
  · rintro ⟨v, s, mv, mh⟩ Kk ⟨e, a1, a2, a3, a4⟩
    have e : v = nI 100 := e
    subst e
    dsimp only at a1 a2 a3 a4
    unfold wb_d_mark_18
    dsimp only
    refine pk_le 100 100 (fun _ => ⟨pk_in J 4 hJ, ?_⟩) (fun z => absurd z (by omega))
    refine hk_upE (fun j v => v.1 = nI j ∧ (∀ n, ¬ (60 * J ≤ n ∧ n < 60 * J + 60) → v.2.1 n = mSk n ∧ v.2.2 n = mSw n) ∧ (∀ i, i < j → v.2.1 (60 * J + i) = sk i ∧ v.2.2 (60 * J + i) = sw i)) C 0 _ (Nat.zero_le _) ⟨rfl, fun n _ => ⟨rfl, rfl⟩, fun i hi => absurd hi (Nat.not_lt_zero _)⟩ ?_ ?_
    · rintro j ⟨v, p, q⟩ Kk hj ⟨e, c1, c2⟩ hk
      have e : v = nI j := e
      subst e
      dsimp only at c1 c2
      unfold wb_d_mark_115
      dsimp only
      rw [ix60, ncl j, ncl (60 * J + j)]
      refine pk_le C j (fun z => absurd z (by omega)) (fun _ => ⟨pk_in j 60 (by omega), fun x12 e12 => ⟨pk_in (60 * J + j) 240 (by omega), pk_in j 60 (by omega), fun x13 e13 => ⟨pk_in (60 * J + j) 240 (by omega), fun x14 e14 => hk _ ⟨by rw [e14]; exact nI_1 j, fun n hn => ?_, fun i hi => ?_⟩⟩⟩⟩)
      · show upd p (60 * J + j) x12 n = _ ∧ upd q (60 * J + j) x13 n = _
        rw [pk_un (by omega), pk_un (by omega)]
        exact c1 n hn
      · show upd p (60 * J + j) x12 (60 * J + i) = _ ∧ upd q (60 * J + j) x13 (60 * J + i) = _
        by_cases cc : i = j
        · subst cc
          rw [pk_us, pk_us, e12, e13]
          exact ⟨rfl, rfl⟩
        · rw [pk_un (by omega), pk_un (by omega)]
          exact c2 i (by omega)
    · rintro ⟨v, p, q⟩ Kk ⟨e, c1, c2⟩
      have e : v = nI C := e
      subst e
      dsimp only at c1 c2
      unfold wb_d_mark_115
      dsimp only
      refine pk_le C C (fun _ => ⟨pk_in J 4 hJ, ?_⟩) (fun z => absurd z (by omega))
      refine hk_upE (fun j v => v.1 = nI j ∧ (∀ n, ¬ (40 * J ≤ n ∧ n < 40 * J + 40) → v.2.1 n = mTk n ∧ v.2.2 n = mTt n) ∧ (∀ i, i < j → v.2.1 (40 * J + i) = tk i ∧ v.2.2 (40 * J + i) = tt i)) H 0 _ (Nat.zero_le _) ⟨rfl, fun n _ => ⟨rfl, rfl⟩, fun i hi => absurd hi (Nat.not_lt_zero _)⟩ ?_ ?_
      · rintro j ⟨v, r, t⟩ Kk hj ⟨e, d1, d2⟩ hk
        have e : v = nI j := e
        subst e
        dsimp only at d1 d2
        unfold wb_d_mark_175
        dsimp only
        rw [ix40, ncl j, ncl (40 * J + j)]
        refine pk_le H j (fun z => absurd z (by omega)) (fun _ => ⟨pk_in j 40 (by omega), fun x9 e9 => ⟨pk_in (40 * J + j) 160 (by omega), pk_in j 40 (by omega), fun x10 e10 => ⟨pk_in (40 * J + j) 160 (by omega), fun x11 e11 => hk _ ⟨by rw [e11]; exact nI_1 j, fun n hn => ?_, fun i hi => ?_⟩⟩⟩⟩)
        · show upd r (40 * J + j) x9 n = _ ∧ upd t (40 * J + j) x10 n = _
          rw [pk_un (by omega), pk_un (by omega)]
          exact d1 n hn
        · show upd r (40 * J + j) x9 (40 * J + i) = _ ∧ upd t (40 * J + j) x10 (40 * J + i) = _
          by_cases cc : i = j
          · subst cc
            rw [pk_us, pk_us, e9, e10]
            exact ⟨rfl, rfl⟩
          · rw [pk_un (by omega), pk_un (by omega)]
            exact d2 i (by omega)
      · rintro ⟨v, r, t⟩ Kk ⟨e, d1, d2⟩
        have e : v = nI H := e
        subst e
        dsimp only at d1 d2
        unfold wb_d_mark_175
        dsimp only
        rw [ncl J]
        refine pk_le H H (fun _ => ⟨pk_in J 4 hJ, pk_in J 4 hJ, pk_in J 4 hJ, pk_in J 4 hJ, fun x8 e8 => ?_⟩) (fun z => absurd z (by omega))
        rw [nI_1] at e8
        subst e8
        exact h s mv mh p q r t a1 a2 a3 a4 c1 c2 d1 d2
theorem sp_sm_copy {C : Nat} (hC : C ≤ 60) {keys weights keys2 weights2 : Nat → Int32} {mat : Int32} {out : Int64} {post : (Nat → Int32) × (Nat → Int32) × Int32 × Int32 × Int64 → Prop} (h : ∀ k w : Nat → Int32, (∀ i, i < C → k i = keys2 i ∧ w i = weights2 i) → post (k, w, nI C, mat, out)) : wp_sm_copyFrom keys weights keys2 weights2 (nI C) mat out post := by
  unfold wp_sm_copyFrom
  rw [ncl C, show (0 : Int32).toNatClampNeg = 0 from rfl]
  refine ⟨by decide, by decide, nI_pos (by omega), by omega, by omega, by decide, by decide, nI_pos (by omega), by omega, by omega, h _ _ (fun i hi => ?_)⟩
  rw [pk_cpy_in (by omega) (by omega), pk_cpy_in (by omega) (by omega), Nat.sub_zero, Nat.zero_add]
  exact ⟨rfl, rfl⟩
theorem sp_ti_copy {C : Nat} (hC : C ≤ 40) {keys weights keys2 weights2 : Nat → Int32} {now : Int32} {post : (Nat → Int32) × (Nat → Int32) × Int32 × Int32 → Prop} (h : ∀ k w : Nat → Int32, (∀ i, i < C → k i = keys2 i ∧ w i = weights2 i) → post (k, w, nI C, now)) : wp_ti_copyFrom keys weights keys2 weights2 (nI C) now post := by
  unfold wp_ti_copyFrom
  rw [ncl C, show (0 : Int32).toNatClampNeg = 0 from rfl]
  refine ⟨by decide, by decide, nI_pos (by omega), by omega, by omega, by decide, by decide, nI_pos (by omega), by omega, by omega, h _ _ (fun i hi => ?_)⟩
  rw [pk_cpy_in (by omega) (by omega), pk_cpy_in (by omega) (by omega), Nat.sub_zero, Nat.zero_add]
  exact ⟨rfl, rfl⟩
theorem rep_same {k t k2 t2 : Nat → Int32} {l : List (Int32 × Int32)} (h : rep k t l) (e : ∀ i, i < l.length → k2 i = k i ∧ t2 i = t i) : rep k2 t2 l := fun i hi => by
  rw [(e i hi).1, (e i hi).2]
  exact h i hi
theorem smR_same {keys weights keys2 weights2 dk dw dk2 dw2 : Nat → Int32} {count mat dc dm : Int32} {out dout : Int64} (h : smR keys weights count mat out dc dk dw dm dout) (e1 : ∀ C i, count = nI C → C ≤ 60 → i < C → keys2 i = keys i ∧ weights2 i = weights i) (e2 : ∀ C i, count = nI C → C ≤ 60 → i < C → dk2 i = dk i ∧ dw2 i = dw i) : smR keys2 weights2 count mat out dc dk2 dw2 dm dout := by
  obtain ⟨h1, h2, C, hC, h3, h4, h5⟩ := h
  refine ⟨h1, h2, C, hC, h3, h4, fun i hi => ?_⟩
  rw [(e1 C i h3 hC hi).1, (e1 C i h3 hC hi).2, (e2 C i h3 hC hi).1, (e2 C i h3 hC hi).2]
  exact h5 i hi
theorem tiR_same {keys times keys2 times2 dk dt dk2 dt2 : Nat → Int32} {count now dc dnow : Int32} (h : tiR keys times count now dc dk dt dnow) (e1 : ∀ C i, count = nI C → C ≤ 40 → i < C → keys2 i = keys i ∧ times2 i = times i) (e2 : ∀ C i, count = nI C → C ≤ 40 → i < C → dk2 i = dk i ∧ dt2 i = dt i) : tiR keys2 times2 count now dc dk2 dt2 dnow := by
  obtain ⟨h1, l, hl, h3, h4, h5, h6, h7⟩ := h
  exact ⟨h1, l, hl, h3, h4, rep_same h5 (fun i hi => e2 l.length i h3 hl hi), rep_same h6 (fun i hi => e1 l.length i h3 hl (by rw [tSort_len] at hi; exact hi)), h7⟩
theorem mkR_same {F j : Nat} {kc : Nat → Int32} {mm : MS} {mS mOut mS2 mOut2 : Nat → Int64} {mV mH mSm mSk mSw mT mTk mTt mTime mRows mMat mV2 mH2 mSm2 mSk2 mSw2 mT2 mTk2 mTt2 mTime2 mRows2 mMat2 : Nat → Int32} (h : mkR F j kc mm mS mV mH mSm mSk mSw mT mTk mTt mTime mRows mMat mOut) (hF : F ≤ 6) (e1 : ∀ n, 600 * j ≤ n ∧ n < 600 * j + 600 → mS2 n = mS n) (e2 : ∀ n, 100 * j ≤ n ∧ n < 100 * j + 100 → mV2 n = mV n ∧ mH2 n = mH n) (e3 : ∀ n, 60 * j ≤ n ∧ n < 60 * j + 60 → mSk2 n = mSk n ∧ mSw2 n = mSw n) (e4 : ∀ n, 40 * j ≤ n ∧ n < 40 * j + 40 → mTk2 n = mTk n ∧ mTt2 n = mTt n) (e5 : mSm2 j = mSm j) (e6 : mT2 j = mT j) (e7 : mTime2 j = mTime j) (e8 : mRows2 j = mRows j) (e9 : mMat2 j = mMat j) (e10 : mOut2 j = mOut j) : mkR F j kc mm mS2 mV2 mH2 mSm2 mSk2 mSw2 mT2 mTk2 mTt2 mTime2 mRows2 mMat2 mOut2 := by
  obtain ⟨Nj, h1, h2, h3, h4, h5, h6, h7, h8⟩ := h
  refine ⟨Nj, h1, h2, by rw [e8]; exact h3, fun k f hk hf => ?_, h5, fun c k hk => ?_, ?_, ?_⟩
  · rw [e1 _ (by omega)]
    exact h4 k f hk hf
  · rw [(e2 (100 * j + k) (by omega)).1, (e2 (100 * j + k) (by omega)).2]
    exact h6 c k hk
  · rw [e5, e9, e10]
    exact smR_same h7 (fun _ _ _ _ _ => ⟨rfl, rfl⟩) (fun C i _ hC hi => e3 _ (by omega))
  · rw [e6, e7]
    exact tiR_same h8 (fun _ _ _ _ _ => ⟨rfl, rfl⟩) (fun C i _ hC hi => e4 _ (by omega))
theorem nar01 {x : Int32} (h : x = 0 ∨ x = 1) : vp_nar .boolean x = x := by
  rcases h with rfl | rfl
  · exact hk_b0
  · exact hk_b1
/-- the new mark -/
theorem mkR_new {F P N J C H : Nat} {kc kd pc L dp Ld tc hv lv : Nat → Int32} {S D V : Nat → Int64} {sk sw tk tt dk dw dtk dtt : Nat → Int32} {mat tim : Int32} {out : Int64} {ms mv : Nat → Int64} {ml k2 w2 k3 w3 : Nat → Int32} {mS2 mOut : Nat → Int64} {mV2 mH2 mSm mSk2 mSw2 mT mTk2 mTt2 mTime mRows mMat : Nat → Int32} (Qf : Nat → Nat) (rk : ksR F P N kc kd pc S L dp D Ld tc) (hQ : ∀ k, k < 100 → pc k = nI (Qf k) ∧ 1 ≤ Qf k ∧ Qf k ≤ 8) (rv : vR F N J kc V hv lv) (rs : smR sk sw (nI C) mat out (nI C) dk dw mat out) (hC : C ≤ 60) (rt : tiR tk tt (nI H) tim (nI H) dtk dtt tim) (hH : H ≤ 40) (g1 : ∀ k f, k < 100 → f < F → ms (k * 6 + f) = (kJ cJn (kc f) (fun i => S (cs k i f)) (fun i => L (sl k i)) (Qf k - 1)).1) (g2 : ∀ k, k < 100 → ml k = mR (fun i => L (sl k i)) (Qf k)) (g3 : ∀ k, k < 100 → mv k = V k) (g4 : ∀ i, i < C → k2 i = sk i ∧ w2 i = sw i) (g5 : ∀ i, i < H → k3 i = tk i ∧ w3 i = tt i) (a2 : ∀ k f, k < 100 → f < F → mS2 (600 * J + 6 * k + f) = (kJ dJn (kd f) (fun i => D (dx k i f)) (fun i => Ld (dl k i)) (Qf k - 1)).1) (a4 : ∀ k, k < 100 → mV2 (100 * J + k) = lv (dl k 0) ∧ mH2 (100 * J + k) = vp_nar .boolean (hv (dl k 0))) (c2 : ∀ i, i < C → mSk2 (60 * J + i) = dk i ∧ mSw2 (60 * J + i) = dw i) (d2 : ∀ i, i < H → mTk2 (40 * J + i) = dtk i ∧ mTt2 (40 * J + i) = dtt i) : mkR F J kc (ms, ml, mv, nI N, k2, w2, nI C, mat, out, k3, w3, nI H, tim) mS2 mV2 mH2 (upd mSm J (nI C)) mSk2 mSw2 (upd mT J (nI H)) mTk2 mTt2 (upd mTime J tim) (upd mRows J (nI N)) (upd mMat J mat) (vp_updL mOut J out) := by
  have hN := rk.2.2.2.1
  have key : ∀ k, k < 100 → keyR F N kc (Qf k) k S L D Ld tc := fun k hk => by
    obtain ⟨q, b1, b2, b3, b4, b5⟩ := rk.2.2.2.2.2 k hk
    have hP8 := rk.2.2.1
    have : q = Qf k := (nI_eq (by omega) (by have := (hQ k hk).2.2; omega)).mp (b3.symm.trans (hQ k hk).1)
    rw [← this]
    exact b5
  refine ⟨N, hN, rfl, pk_us, fun k f hk hf => ?_, fun k hk => ?_, fun c k hk => ?_, ?_, ?_⟩
  · obtain ⟨k1, k2', k3', k4, k5, k6⟩ := key k hk
    have hq1 := (hQ k hk).2.1
    refine ⟨?_, ?_⟩
    · show ms (k * 6 + f) = _
      rw [g1 k f hk hf, a2 k f hk hf]
      exact ks_joined rk hk hf (hQ k hk).1 (hQ k hk).2.2
    · refine hk_jd (by omega) (k3' f hf) k4.1 _ _ ?_ ?_
      · show ms (k * 6 + f) = _
        exact g1 k f hk hf
      · show ml k = _
        rw [g2 k hk, show Qf k - 1 + 1 = Qf k by omega]
  · obtain ⟨k1, k2', k3', k4, k5, k6⟩ := key k hk
    show -1 ≤ ml k ∧ ml k < nI N
    rw [g2 k hk]
    exact ⟨mR_ge _, mR_bd (m1_lt hN) (Qf k) k5⟩
  · obtain ⟨v1, v2⟩ := rv.2 c k hk
    show (mv k = _) ∧ _
    rw [g3 k hk, (a4 k hk).1, (a4 k hk).2, nar01 v2]
    exact ⟨v1, v2⟩
  · rw [pk_us, pk_us, pk_uLs]
    exact smR_same rs (fun C' i e _ hi => by
      have : C = C' := (nI_eq (by omega) (by omega)).mp e
      exact g4 i (by omega)) (fun C' i e _ hi => by
      have : C = C' := (nI_eq (by omega) (by omega)).mp e
      exact c2 i (by omega))
  · rw [pk_us, pk_us]
    exact tiR_same rt (fun C' i e _ hi => by
      have : H = C' := (nI_eq (by omega) (by omega)).mp e
      exact g5 i (by omega)) (fun C' i e _ hi => by
      have : H = C' := (nI_eq (by omega) (by omega)).mp e
      exact d2 i (by omega))
theorem ks_Qf {F P N : Nat} {kc kd pc L dp Ld tc : Nat → Int32} {S D : Nat → Int64} (rk : ksR F P N kc kd pc S L dp D Ld tc) : ∃ Qf : Nat → Nat, (∀ k, k < 100 → pc k = nI (Qf k) ∧ 1 ≤ Qf k ∧ Qf k ≤ 8) ∧ (∀ k, k < 100 → dp k = nI (Qf k) ∧ 1 ≤ Qf k ∧ Qf k ≤ 8) := by
  refine ⟨fun k => (pc k).toNatClampNeg, fun k hk => ?_, fun k hk => ?_⟩
  · obtain ⟨q, q1, qP, q8, b3, b4⟩ := ks_q rk hk
    show pc k = nI (pc k).toNatClampNeg ∧ 1 ≤ (pc k).toNatClampNeg ∧ (pc k).toNatClampNeg ≤ 8
    rw [b3, ncl q]
    exact ⟨rfl, q1, q8⟩
  · obtain ⟨q, q1, qP, q8, b3, b4⟩ := ks_q rk hk
    show dp k = nI (pc k).toNatClampNeg ∧ 1 ≤ (pc k).toNatClampNeg ∧ (pc k).toNatClampNeg ≤ 8
    rw [b3, b4, ncl q]
    exact ⟨rfl, q1, q8⟩
theorem op_markB {F P N J : Nat} {kc kd pc L dp Ld tc hv lv sk sw tk tt dk dw dtk dtt : Nat → Int32} {S D V : Nat → Int64} {mc rows sc mat tc_ tim fc d_f d_rows mat2 tim2 dsc dtc d_marks : Int32} {out out2 : Int64} {mS mOut : Nat → Int64} {mV mH mSm mSk mSw mT mTk mTt mTime mRows mMat : Nat → Int32} {marks : Nat → Option Nat} (hJ : mc = nI J ∧ d_marks = nI J) (hJ4 : J < 4) (hN : rows = nI N ∧ d_rows = nI N) (hF : fc = nI F ∧ d_f = nI F) (rs : smR sk sw sc mat out dsc dk dw mat2 out2) (rt : tiR tk tt tc_ tim dtc dtk dtt tim2) (rk : ksR F P N kc kd pc S L dp D Ld tc) (rv : vR F N J kc V hv lv) {h_ : Nat} (hm : marks J = some h_) {o1 o3 : Nat → Int64} {o2 o5 o6 o10 o11 : Nat → Int32} {o4 o7 o8 o12 o13 : Int32} {o9 : Int64} {Q : (Nat → Option Nat) × Int32 × (Nat → Int64) × (Nat → Int32) × (Nat → Int64) × Int32 × (Nat → Int32) × (Nat → Int32) × Int32 × Int32 × Int64 × (Nat → Int32) × (Nat → Int32) × Int32 × Int32 → Int32 × (Nat → Int64) × (Nat → Int32) × (Nat → Int32) × (Nat → Int32) × (Nat → Int32) × (Nat → Int32) × (Nat → Int32) × (Nat → Int32) × (Nat → Int32) × (Nat → Int32) × (Nat → Int32) × (Nat → Int32) × (Nat → Int64) → Prop} (hQ : ∀ (mks : Nat → Option Nat) (b0 : (Nat → Int64)) (b1 : (Nat → Int32)) (b2 : (Nat → Int64)) (b3 : Int32) (b4 : (Nat → Int32)) (b5 : (Nat → Int32)) (b6 : Int32) (b7 : Int32) (b8 : Int64) (b9 : (Nat → Int32)) (b10 : (Nat → Int32)) (b11 : Int32) (b12 : Int32) (mS2 : Nat → Int64) (mV2 mH2 mSm2 mSk2 mSw2 mT2 mTk2 mTt2 mTime2 mRows2 mMat2 : Nat → Int32) (mOut2 : Nat → Int64), mkR F J kc (b0, b1, b2, b3, b4, b5, b6, b7, b8, b9, b10, b11, b12) mS2 mV2 mH2 mSm2 mSk2 mSw2 mT2 mTk2 mTt2 mTime2 mRows2 mMat2 mOut2 → (∀ j, j < J → ∀ mm : MS, mkR F j kc mm mS mV mH mSm mSk mSw mT mTk mTt mTime mRows mMat mOut → mkR F j kc mm mS2 mV2 mH2 mSm2 mSk2 mSw2 mT2 mTk2 mTt2 mTime2 mRows2 mMat2 mOut2) → Q (mks, nI (J + 1), b0, b1, b2, b3, b4, b5, b6, b7, b8, b9, b10, b11, b12) (nI (J + 1), mS2, mV2, mH2, mSm2, mSk2, mSw2, mT2, mTk2, mTt2, mTime2, mRows2, mMat2, mOut2)) : wp_x_markB h_ marks mc rows sk sw sc mat out tk tt tc_ tim pc S L V kc fc o1 o2 o3 o4 o5 o6 o7 o8 o9 o10 o11 o12 o13 (fun r w => wp_d_mark d_f kd D Ld lv hv dp d_rows mat2 tim2 out2 dsc dk dw dtc dtk dtt d_marks mS mV mH mSm mSk mSw mT mTk mTt mTime mRows mMat mOut (fun r2 w2 => r = r2 ∧ (∀ j, j < 4 → w.1 j = marks j) ∧ Q w w2)) := by
  obtain ⟨rfl, rfl⟩ := hJ
  obtain ⟨rfl, rfl⟩ := hN
  obtain ⟨rfl, rfl⟩ := hF
  have rs0 := rs
  have rt0 := rt
  obtain ⟨rfl, rfl, C, hC, rfl, rfl, hs⟩ := rs
  obtain ⟨rfl, l, hl, rfl, rfl, r1, r2, hkey⟩ := rt
  have hF6 := rk.1
  obtain ⟨Qf, q1, q2⟩ := ks_Qf rk
  unfold wp_x_markB
  rw [ncl J]
  refine pk_lt J 4 (fun _ => ⟨pk_in J 4 hJ4, hm, pk_in J 4 hJ4, hm, pk_in J 4 hJ4, ?_⟩) (fun z => absurd z (by omega))
  refine sp_sm_copy hC (fun k2 w2 g4 => sp_ti_copy hl (fun k3 w3 g5 => sp_ks_holdIn hF6 Qf q1 (fun ms ml mv g1 g2 g3 x5 e5 => ?_)))
  rw [nI_1] at e5
  subst e5
  refine sp_d_mark Qf hF6 hJ4 hC hl q2 (fun mS2 mV2 mH2 mSk2 mSw2 mTk2 mTt2 a1 a2 a3 a4 c1 c2 d1 d2 => ⟨rfl, ?_, hQ _ ms ml mv (nI N) k2 w2 (nI C) mat out k3 w3 (nI l.length) tim _ _ _ _ _ _ _ _ _ _ _ _ _ (mkR_new Qf rk q1 rv rs0 hC rt0 hl g1 g2 g3 g4 g5 a2 a4 c2 d2) (fun j hj mm h => mkR_same h hF6 (fun n hn => a1 n (by omega)) (fun n hn => a3 n (by omega)) (fun n hn => c1 n (by omega)) (fun n hn => d1 n (by omega)) (pk_un (by omega)) (pk_un (by omega)) (pk_un (by omega)) (pk_un (by omega)) (pk_un (by omega)) (pk_uLn (by omega)))⟩)
  intro j hj
  show va_up marks J (some h_) j = marks j
  unfold va_up
  by_cases c : j = J
  · subst c
    rw [if_pos rfl, hm]
  · rw [if_neg c]
theorem op_markC {F P N J : Nat} {kc kd pc L dp Ld tc hv lv sk sw tk tt dk dw dtk dtt : Nat → Int32} {S D V : Nat → Int64} {mc rows sc mat tc_ tim fc d_f d_rows mat2 tim2 dsc dtc d_marks : Int32} {out out2 : Int64} {mS mOut : Nat → Int64} {mV mH mSm mSk mSw mT mTk mTt mTime mRows mMat : Nat → Int32} {marks : Nat → Option Nat} (hJ : mc = nI J ∧ d_marks = nI J) (hJ4 : J < 4) (hN : rows = nI N ∧ d_rows = nI N) (hF : fc = nI F ∧ d_f = nI F) (rs : smR sk sw sc mat out dsc dk dw mat2 out2) (rt : tiR tk tt tc_ tim dtc dtk dtt tim2) (rk : ksR F P N kc kd pc S L dp D Ld tc) (rv : vR F N J kc V hv lv) (hm : marks J = none) {Q : (Nat → Option Nat) × Int32 × (Nat → Int64) × (Nat → Int32) × (Nat → Int64) × Int32 × (Nat → Int32) × (Nat → Int32) × Int32 × Int32 × Int64 × (Nat → Int32) × (Nat → Int32) × Int32 × Int32 → Int32 × (Nat → Int64) × (Nat → Int32) × (Nat → Int32) × (Nat → Int32) × (Nat → Int32) × (Nat → Int32) × (Nat → Int32) × (Nat → Int32) × (Nat → Int32) × (Nat → Int32) × (Nat → Int32) × (Nat → Int32) × (Nat → Int64) → Prop} (hQ : ∀ (mks : Nat → Option Nat) (b0 : (Nat → Int64)) (b1 : (Nat → Int32)) (b2 : (Nat → Int64)) (b3 : Int32) (b4 : (Nat → Int32)) (b5 : (Nat → Int32)) (b6 : Int32) (b7 : Int32) (b8 : Int64) (b9 : (Nat → Int32)) (b10 : (Nat → Int32)) (b11 : Int32) (b12 : Int32) (mS2 : Nat → Int64) (mV2 mH2 mSm2 mSk2 mSw2 mT2 mTk2 mTt2 mTime2 mRows2 mMat2 : Nat → Int32) (mOut2 : Nat → Int64), mkR F J kc (b0, b1, b2, b3, b4, b5, b6, b7, b8, b9, b10, b11, b12) mS2 mV2 mH2 mSm2 mSk2 mSw2 mT2 mTk2 mTt2 mTime2 mRows2 mMat2 mOut2 → (∀ j, j < J → ∀ mm : MS, mkR F j kc mm mS mV mH mSm mSk mSw mT mTk mTt mTime mRows mMat mOut → mkR F j kc mm mS2 mV2 mH2 mSm2 mSk2 mSw2 mT2 mTk2 mTt2 mTime2 mRows2 mMat2 mOut2) → Q (mks, nI (J + 1), b0, b1, b2, b3, b4, b5, b6, b7, b8, b9, b10, b11, b12) (nI (J + 1), mS2, mV2, mH2, mSm2, mSk2, mSw2, mT2, mTk2, mTt2, mTime2, mRows2, mMat2, mOut2)) : wp_x_markC marks mc rows sk sw sc mat out tk tt tc_ tim pc S L V kc fc (fun h_ r w => wp_d_mark d_f kd D Ld lv hv dp d_rows mat2 tim2 out2 dsc dk dw dtc dtk dtt d_marks mS mV mH mSm mSk mSw mT mTk mTt mTime mRows mMat mOut (fun r2 w2 => r = r2 ∧ (∀ j, j < 4 → w.1 j = if j = J then some h_ else marks j) ∧ Q w w2)) := by
  obtain ⟨rfl, rfl⟩ := hJ
  obtain ⟨rfl, rfl⟩ := hN
  obtain ⟨rfl, rfl⟩ := hF
  have rs0 := rs
  have rt0 := rt
  obtain ⟨rfl, rfl, C, hC, rfl, rfl, hs⟩ := rs
  obtain ⟨rfl, l, hl, rfl, rfl, r1, r2, hkey⟩ := rt
  have hF6 := rk.1
  obtain ⟨Qf, q1, q2⟩ := ks_Qf rk
  unfold wp_x_markC
  rw [ncl J]
  refine pk_lt J 4 (fun _ => ⟨pk_in J 4 hJ4, hm, fun h_ => ⟨pk_in J 4 hJ4, ?_⟩⟩) (fun z => absurd z (by omega))
  refine sp_sm_copy hC (fun k2 w2 g4 => sp_ti_copy hl (fun k3 w3 g5 => sp_ks_holdIn hF6 Qf q1 (fun ms ml mv g1 g2 g3 x5 e5 => ?_)))
  rw [nI_1] at e5
  subst e5
  refine sp_d_mark Qf hF6 hJ4 hC hl q2 (fun mS2 mV2 mH2 mSk2 mSw2 mTk2 mTt2 a1 a2 a3 a4 c1 c2 d1 d2 => ⟨rfl, ?_, hQ _ ms ml mv (nI N) k2 w2 (nI C) mat out k3 w3 (nI l.length) tim _ _ _ _ _ _ _ _ _ _ _ _ _ (mkR_new Qf rk q1 rv rs0 hC rt0 hl g1 g2 g3 g4 g5 a2 a4 c2 d2) (fun j hj mm h => mkR_same h hF6 (fun n hn => a1 n (by omega)) (fun n hn => a3 n (by omega)) (fun n hn => c1 n (by omega)) (fun n hn => d1 n (by omega)) (pk_un (by omega)) (pk_un (by omega)) (pk_un (by omega)) (pk_un (by omega)) (pk_un (by omega)) (pk_uLn (by omega)))⟩)
  intro j hj
  rfl
theorem ob_markB : Ob_markB Rab := by
  intro t xs ds ms k mm h marks ht hR hk hk4 hmm hmk
  have hR0 := ob_step _ _ _ _ hR
  obtain ⟨P, Rd, T, M, F, N, G, U, J, hP, hR, hT, hSl, hM, hJ, hN, hG, hF, hU, hE, rl, rc, rs, rt, rg, rk, rf, rv, rm⟩ := hR
  have ek : J = k := (nI_eq (by have := hJ.2.2; omega) (by omega)).mp (hJ.1.symm.trans hk)
  subst ek
  have hlen : J < ms.length := by
    rcases Nat.lt_or_ge J ms.length with z | z
    · exact z
    · rw [List.getElem?_eq_none z] at hmm
      exact absurd hmm (by simp)
  exact op_markB ⟨hJ.1, hJ.2.1⟩ hk4 hN hF rs rt rk rv hmk (fun mks b0 b1 b2 b3 b4 b5 b6 b7 b8 b9 b10 b11 b12 mS2 mV2 mH2 mSm2 mSk2 mSw2 mT2 mTk2 mTt2 mTime2 mRows2 mMat2 mOut2 hnew hkeep => Rab_mk (J := J + 1) (ms := ms.set J (b0, b1, b2, b3, b4, b5, b6, b7, b8, b9, b10, b11, b12)) hP hR hT hSl hM ⟨rfl, rfl, by rw [List.length_set]; omega, by rw [List.length_set]; exact hJ.2.2.2⟩ hN hG hF hU hE rl rc rs rt (lgR_step rg) rk rf ⟨fun _ z => absurd z (by omega), rv.2⟩ (by
    intro j hj
    by_cases cj : j = J
    · subst cj
      exact ⟨(b0, b1, b2, b3, b4, b5, b6, b7, b8, b9, b10, b11, b12), by rw [List.getElem?_set_self hlen], hnew⟩
    · obtain ⟨m0, h0, h1⟩ := rm j (by omega)
      exact ⟨m0, by rw [List.getElem?_set_ne (by omega)]; exact h0, hkeep j (by omega) m0 h1⟩))
theorem ob_markC : Ob_markC Rab := by
  intro t xs ds ms k marks ht hR hk hk4 hlen hmk
  have hR0 := ob_step _ _ _ _ hR
  obtain ⟨P, Rd, T, M, F, N, G, U, J, hP, hR, hT, hSl, hM, hJ, hN, hG, hF, hU, hE, rl, rc, rs, rt, rg, rk, rf, rv, rm⟩ := hR
  have ek : J = k := (nI_eq (by have := hJ.2.2; omega) (by omega)).mp (hJ.1.symm.trans hk)
  subst ek
  exact op_markC ⟨hJ.1, hJ.2.1⟩ hk4 hN hF rs rt rk rv hmk (fun mks b0 b1 b2 b3 b4 b5 b6 b7 b8 b9 b10 b11 b12 mS2 mV2 mH2 mSm2 mSk2 mSw2 mT2 mTk2 mTt2 mTime2 mRows2 mMat2 mOut2 hnew hkeep => Rab_mk (J := J + 1) (ms := ms ++ [(b0, b1, b2, b3, b4, b5, b6, b7, b8, b9, b10, b11, b12)]) hP hR hT hSl hM ⟨rfl, rfl, by rw [List.length_append, List.length_singleton]; omega, by rw [List.length_append, List.length_singleton]; omega⟩ hN hG hF hU hE rl rc rs rt (lgR_step rg) rk rf ⟨fun _ z => absurd z (by omega), rv.2⟩ (by
    intro j hj
    by_cases cj : j = J
    · subst cj
      exact ⟨(b0, b1, b2, b3, b4, b5, b6, b7, b8, b9, b10, b11, b12), by rw [List.getElem?_append_right (by omega), hlen, Nat.sub_self]; rfl, hnew⟩
    · obtain ⟨m0, h0, h1⟩ := rm j (by omega)
      exact ⟨m0, by rw [List.getElem?_append_left (by omega)]; exact h0, hkeep j (by omega) m0 h1⟩))
theorem ob_markA : Ob_markA Rab := by
  intro t xs ds ms ht hR hk
  have hR0 := ob_step _ _ _ _ hR
  obtain ⟨P, Rd, T, M, F, N, G, U, J, hP, hR, hT, hSl, hM, hJ, hN, hG, hF, hU, hE, rl, rc, rs, rt, rg, rk, rf, rv, rm⟩ := hR
  refine ⟨fun z => absurd z hk, fun _ => ⟨fun z => absurd ?_ z, fun _ => ⟨rfl, hR0⟩⟩⟩
  have h3 := hJ.2.2
  have : ¬ J < 4 := fun z => hk (by rw [hJ.1]; exact nI_lt (b := 4) z (by omega))
  rw [show J = 4 by omega] at hJ
  exact hJ.2.1
