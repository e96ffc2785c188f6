/-- two loops in step: the class's, and the model's that goes with it -/
theorem hk_llE {σ τ π ρ : Type} {body : (σ → Prop) → σ → Prop} {bd : ρ → π → (τ → Prop) → τ → Prop} (Rel : ρ → Nat → σ → τ → Prop) (e : Nat) (s0 : σ) (h0 : ∃ r t, Rel r 0 s0 t) (hs : ∀ (i : Nat) (s : σ) (K : σ → Prop), i < e → (∃ r t, Rel r i s t) → (∀ s2, (∃ r t, Rel r (i + 1) s2 t) → (∀ r t, Rel r i s t → ∀ p Kd, (∀ t2, Rel r (i + 1) s2 t2 → Kd t2) → bd r p Kd t) → K s2) → body K s) (hx : ∀ (s : σ) (K : σ → Prop), (∃ r t, Rel r e s t) → (∀ r t0, Rel r 0 s0 t0 → ∀ p m, (∀ t, Rel r e s t → hk_lp (bd r p) m t) → hk_lp (bd r p) (m + e) t0) → body K s) : ∃ n, hk_lp body n s0 := by
  refine hk_upE (fun i s => (∃ r t, Rel r i s t) ∧ ∀ r t0, Rel r 0 s0 t0 → ∀ p m, (∀ t, Rel r i s t → hk_lp (bd r p) m t) → hk_lp (bd r p) (m + i) t0) e 0 s0 (Nat.zero_le _) ⟨h0, fun r t0 h p m hh => hh t0 h⟩ ?_ ?_
  · intro i s K hi hI hk
    refine hs i s K hi hI.1 (fun s2 hE hM => hk s2 ⟨hE, fun r t0 h p m hh => ?_⟩)
    rw [show m + (i + 1) = (m + 1) + i by omega]
    exact hI.2 r t0 h p (m + 1) (fun t ht => hM r t ht p (hk_lp (bd r p) m) hh)
  · intro s K hI
    exact hx s K hI.1 hI.2
theorem sp_cn_keyAt {i u : Nat} {keys : Nat → Int32} (hi : i < u) (hu : u ≤ 12) {post : Int32 → Prop} (h : post (keys i)) : wp_cn_keyAt (nI i) keys (nI u) post := by
  unfold wp_cn_keyAt
  refine pk_le u i (fun hh => absurd hh (by omega)) (fun _ => ⟨pk_in i 12 (by omega), ?_⟩)
  rw [ncl i]; exact h
theorem sp_cn_countAt {i u : Nat} {keys : Nat → Int32} (hi : i < u) (hu : u ≤ 12) {post : Int32 → Prop} (h : post (keys i)) : wp_cn_countAt (nI i) keys (nI u) post := by
  unfold wp_cn_countAt
  refine pk_le u i (fun hh => absurd hh (by omega)) (fun _ => ⟨pk_in i 12 (by omega), ?_⟩)
  rw [ncl i]; exact h
theorem sp_cn_errorAt {i u : Nat} {keys : Nat → Int32} (hi : i < u) (hu : u ≤ 12) {post : Int32 → Prop} (h : post (keys i)) : wp_cn_errorAt (nI i) keys (nI u) post := by
  unfold wp_cn_errorAt
  refine pk_le u i (fun hh => absurd hh (by omega)) (fun _ => ⟨pk_in i 12 (by omega), ?_⟩)
  rw [ncl i]; exact h
theorem sp_cn_surelyAt {i u : Nat} {cc ce : Nat → Int32} (hi : i < u) (hu : u ≤ 12) {post : Int32 → Prop} (h : post (cc i - ce i)) : wp_cn_surelyAt (nI i) cc ce (nI u) post := by
  unfold wp_cn_surelyAt
  exact sp_cn_countAt hi hu (sp_cn_errorAt hi hu h)
theorem sp_x_quotient {a b : Nat} (ha : a < 2 ^ 31) (hb : 1 ≤ b) (hb2 : b < 2 ^ 31) {post : Int32 → Prop} (h : post (nI (a / b))) : wp_x_quotient (nI a) (nI b) post := by
  unfold wp_x_quotient
  refine ⟨fun c => absurd c (nI_nle (by omega) hb2), fun _ => ⟨nI_ne0 (by omega) hb2, ?_⟩⟩
  rw [pk_div ha (by omega) hb2]; exact h
theorem sp_ks_isSplit {K q : Nat} (hK : K < 100) (hq : q ≤ 8) {pc : Nat → Int32} (hpc : pc K = nI q) {post : Int32 → Prop} (h0 : q ≤ 1 → post 0) (h1 : 1 < q → post 1) : wp_ks_isSplit (nI K) pc post := by
  unfold wp_ks_isSplit
  refine ⟨pk_in K 100 hK, ?_⟩
  rw [ncl K, hpc]
  exact pk_le q 1 (fun c => h0 c) (fun c => h1 c)
theorem er_split {F P N T u m n : Nat} {sl rounds fl pa moved : Int32} {kc dc kd dd keys counts errors ck cc ce pc L dp Ld hv tc : Nat → Int32} {S D cm : Nat → Int64} (rk : ksR F P N kc kd pc S L dp D Ld tc) (rf : foR F kc dc kd dd) (rc : cnR keys counts errors u m n ck cc ce) (hT1 : 1 ≤ T) (hT : T ≤ 200) (hn : n ≤ 1000) {post : Int32 × Int32 × (Nat → Int32) × (Nat → Int64) × (Nat → Int32) → Prop} (h : ∀ (fl2 pa2 : Int32) (pc2 : Nat → Int32) (S2 : Nat → Int64) (L2 : Nat → Int32), (∃ dp2 D2 Ld2 tc2, ksR F P N kc kd pc2 S2 L2 dp2 D2 Ld2 tc2) → (∀ pd : (Nat → Int64) × (Nat → Int32) × (Nat → Int32) × (Nat → Int32) × (Nat → Int32) × Int32 × Int32 × Int32 × Int32 × Int32 × (Nat → Int32) × (Nat → Int32) × (Nat → Int32) × (Nat → Int64) → Prop, (∀ (D2 : Nat → Int64) (Ld2 hv2 tc2 dp2 : Nat → Int32), ksR F P N kc kd pc2 S2 L2 dp2 D2 Ld2 tc2 → (∀ k, k < 100 → hv2 (dl k 0) = hv (dl k 0)) → ∃ x, hk_lp (wb_d_endRound_125 (nI T) sl (nI m) (nI F) kd rounds ck cc ce pd (nI m, D2, Ld2, hv2, tc2, dp2, fl2, pa2)) x (0, D2, Ld2, dp2, fl2, moved, cm)) → wp_d_endRound (nI P) (nI T) sl (nI m) (nI F) kd dd D Ld hv tc dp rounds fl pa moved ck cc ce cm pd) → post (fl2, pa2, pc2, S2, L2)) : wp_x_splitHotKeys (nI P) (nI T) fl pa keys counts errors (nI u) pc S L kc dc (nI F) post := by
  obtain ⟨m1, m12, um, un, r1, r2⟩ := rc
  unfold wp_x_splitHotKeys
  refine hk_llE (bd := fun (_ : Unit) p => wb_d_endRound_2 (nI P) (nI T) sl (nI m) (nI F) kd dd rounds moved ck cc ce cm p) (fun _ i s t => s.1 = nI i ∧ t.1 = nI i ∧ t.2.2.2.2.2.2.1 = s.2.1 ∧ t.2.2.2.2.2.2.2 = s.2.2.1 ∧ ksR F P N kc kd s.2.2.2.1 s.2.2.2.2.1 s.2.2.2.2.2 t.2.2.2.2.2.1 t.2.1 t.2.2.1 t.2.2.2.2.1 ∧ ∀ k, k < 100 → t.2.2.2.1 (dl k 0) = hv (dl k 0)) u _ ⟨(), (nI 0, D, Ld, hv, tc, dp, fl, pa), rfl, rfl, rfl, rfl, rk, fun _ _ => rfl⟩ ?_ ?_
  · intro i s K hi hE hk
    obtain ⟨v, fl1, pa1, pc1, S1, L1⟩ := s
    obtain ⟨-, ⟨t1, D1, Ld1, hv1, tc1, dp1, tf, tp⟩, e1, -, -, -, rk1, -⟩ := hE
    have e1 : v = nI i := e1
    subst e1
    obtain ⟨K0, c, e, hK, ek, ec, ee, hlt, hcn⟩ := r2 i hi
    obtain ⟨dk, dc', de⟩ := (r1 i (by omega)).1 hi
    have hP8 : P ≤ 8 := rk1.2.2.1
    have hP2 : 2 ≤ P := rk1.2.1
    unfold wb_x_splitHotKeys_2
    dsimp only
    refine pk_le u i (fun hh => absurd hh (by omega)) (fun _ => ?_)
    refine sp_cn_keyAt hi (by omega) (sp_cn_surelyAt hi (by omega) ?_)
    rw [ek, ec, ee, pk_sub (by omega)]
    -- the model's part of a step that goes on
    have open1 : ∀ (D1 : Nat → Int64) (Ld1 hv1 tc1 dp1 : Nat → Int32) (tf tp : Int32) (p) (Kd), ((c - e < T → Kd (nI (i + 1), D1, Ld1, hv1, tc1, dp1, tf, tp)) ∧ (T ≤ c - e → (¬ (dp1 K0) = 1 → Kd (nI (i + 1), D1, Ld1, hv1, tc1, dp1, tf, tp)) ∧ ((dp1 K0) = 1 → wp_d_canSplit (nI F) kd dd (fun (r24 : Int32) => (r24 = 0 → ∀ x26 : Int32, x26 = tp + 1 → ∀ x27 : Int32, x27 = nI i + 1 → Kd (x27, D1, Ld1, hv1, tc1, dp1, tf, x26)) ∧ (¬ r24 = 0 → (nI P ≤ nI (c / T + 1) → wp_d_makeParts (nI K0) (nI P) (nI F) kd D1 Ld1 hv1 tc1 dp1 (fun (w29 : (Nat → Int64) × (Nat → Int32) × (Nat → Int32) × (Nat → Int32) × (Nat → Int32)) => ∀ x30 : Int32, x30 = tf + 1 → ∀ x31 : Int32, x31 = nI i + 1 → Kd (x31, w29.1, w29.2.1, w29.2.2.1, w29.2.2.2.1, w29.2.2.2.2, x30, tp))) ∧ (¬ nI P ≤ nI (c / T + 1) → wp_d_makeParts (nI K0) (nI (c / T + 1)) (nI F) kd D1 Ld1 hv1 tc1 dp1 (fun (w29 : (Nat → Int64) × (Nat → Int32) × (Nat → Int32) × (Nat → Int32) × (Nat → Int32)) => ∀ x30 : Int32, x30 = tf + 1 → ∀ x31 : Int32, x31 = nI i + 1 → Kd (x31, w29.1, w29.2.1, w29.2.2.1, w29.2.2.2.1, w29.2.2.2.2, x30, tp)))))))) → wb_d_endRound_2 (nI P) (nI T) sl (nI m) (nI F) kd dd rounds moved ck cc ce cm p Kd (nI i, D1, Ld1, hv1, tc1, dp1, tf, tp) := by
      intro D1 Ld1 hv1 tc1 dp1 tf tp p Kd hg
      unfold wb_d_endRound_2
      dsimp only
      rw [ncl i, dk, dc', de, ek, ec, ee, pk_sub (by omega)]
      refine pk_le m i (fun hh => absurd hh (by omega)) (fun _ => ⟨pk_in i 12 (by omega), fun x16 e16 => ?_⟩)
      subst e16
      refine ⟨fun q => absurd q (nI_nm1 hK), fun _ => ⟨pk_in i 12 (by omega), pk_in i 12 (by omega), ?_⟩⟩
      refine pk_lt (c - e) T (fun q x e => ?_) (fun q => ⟨pk_in K0 100 hK, ?_⟩)
      · rw [e, nI_1]; exact hg.1 q
      · rw [ncl K0]
        refine ⟨fun q1 x e => ?_, fun q1 => ⟨pk_in i 12 (by omega), nI_ne0 (by omega) (by omega), fun x23 e23 => ?_⟩⟩
        · rw [e, nI_1]; exact (hg.2 q).1 q1
        · rw [pk_div (by omega) (by omega) (by omega), nI_1] at e23
          subst e23
          exact (hg.2 q).2 q1
    have rk1 : ksR F P N kc kd pc1 S1 L1 dp1 D1 Ld1 tc1 := rk1
    obtain ⟨q, q1, qP, b3, b4, b5⟩ := rk1.2.2.2.2.2 K0 hK
    have dpq : ∀ (dp2 : Nat → Int32) (D2 : Nat → Int64) (Ld2 tc2 : Nat → Int32), ksR F P N kc kd pc1 S1 L1 dp2 D2 Ld2 tc2 → dp2 K0 = nI q := fun dp2 D2 Ld2 tc2 r => by
      obtain ⟨q', -, hq', c3, c4, -⟩ := r.2.2.2.2.2 K0 hK
      rw [c4, ← c3, b3]
    have hq : c / T + 1 < 2 ^ 31 := by have := Nat.div_le_self c T; omega
    refine pk_lt (c - e) T (fun z x6 e6 => ?_) (fun z => ?_)
    · rw [e6, nI_1]
      refine hk _ ⟨(), (nI (i + 1), D1, Ld1, hv, tc1, dp1, fl1, pa1), rfl, rfl, rfl, rfl, rk1, fun _ _ => rfl⟩ ?_
      rintro - ⟨t1, D1, Ld1, hv1, tc1, dp1, tf, tp⟩ ⟨-, et, ef, ep, rr, rh⟩ p Kd hKd
      have et : t1 = nI i := et
      subst et
      exact open1 D1 Ld1 hv1 tc1 dp1 tf tp p Kd ⟨fun _ => hKd _ ⟨rfl, rfl, ef, ep, rr, rh⟩, fun z2 => absurd z (by omega)⟩
    · refine sp_ks_isSplit hK (by omega) b3 (fun hq1 => ?_) (fun hq1 => ?_)
      · refine ⟨fun x => absurd rfl x, fun _ => ?_⟩
        have eq1 : q = 1 := by omega
        subst eq1
        refine fo_can rf (fun hj can => ?_) (fun can => ?_)
        · refine ⟨fun x => absurd x (by decide), fun _ => sp_cn_countAt hi (by omega) ?_⟩
          rw [ec]
          refine sp_x_quotient (by omega) (by omega) (by omega) (fun x16 e16 => ?_)
          rw [nI_1] at e16
          subst e16
          have hc1 : 1 ≤ c / T := (Nat.one_le_div_iff (by omega)).mpr (by omega)
          have emin : (if nI (c / T + 1) < nI P then nI (c / T + 1) else nI P) = nI (if c / T + 1 < P then c / T + 1 else P) := by
            rw [if_iff (nI_ltI hq (by omega))]
            by_cases zz : c / T + 1 < P
            · rw [if_pos zz, if_pos zz]
            · rw [if_neg zz, if_neg zz]
          rw [emin]
          refine ks_break ⟨_, _, _, _, rk1⟩ hK (by split <;> omega) (by split <;> omega) hj b3 (fun S2 L2 hE2 hmod x18 e18 x19 e19 => ?_)
          rw [e19, nI_1, e18]
          obtain ⟨dp2, D2, Ld2, tc2, rk2⟩ := hE2
          refine hk _ ⟨(), (nI (i + 1), D2, Ld2, hv, tc2, dp2, fl1 + 1, pa1), rfl, rfl, rfl, rfl, rk2, fun _ _ => rfl⟩ ?_
          rintro - ⟨t1, D1, Ld1, hv1, tc1, dp1, tf, tp⟩ ⟨-, et, ef, ep, rr, rh⟩ p Kd hKd
          have et : t1 = nI i := et
          subst et
          have ef : tf = fl1 := ef
          subst ef
          refine open1 D1 Ld1 hv1 tc1 dp1 tf tp p Kd ⟨fun z2 => absurd z (by omega), fun z2 => ⟨fun z3 => absurd (dpq _ _ _ _ rr) z3, fun _ => can _ ⟨fun x => absurd x (by decide), fun _ => pk_le P (c / T + 1) (fun q3 => ?_) (fun q3 => ?_)⟩⟩⟩
          · have hm := hmod _ _ _ _ hv1 rr
            rw [if_neg (by omega)] at hm
            refine hm _ (fun D2 Ld2 hv2 tc2 rr2 rh2 x30 e30 x31 e31 => ?_)
            rw [e31, nI_1, e30]
            rw [if_neg (by omega)] at hKd
            exact hKd _ ⟨rfl, rfl, rfl, ep, rr2, fun k hk => (rh2 k hk).trans (rh k hk)⟩
          · have hm := hmod _ _ _ _ hv1 rr
            rw [if_pos (by omega)] at hm
            refine hm _ (fun D2 Ld2 hv2 tc2 rr2 rh2 x30 e30 x31 e31 => ?_)
            rw [e31, nI_1, e30]
            rw [if_pos (by omega)] at hKd
            exact hKd _ ⟨rfl, rfl, rfl, ep, rr2, fun k hk => (rh2 k hk).trans (rh k hk)⟩
        · refine ⟨fun _ x12 e12 x13 e13 => ?_, fun x => absurd rfl x⟩
          rw [e13, nI_1, e12]
          refine hk _ ⟨(), (nI (i + 1), D1, Ld1, hv, tc1, dp1, fl1, pa1 + 1), rfl, rfl, rfl, rfl, rk1, fun _ _ => rfl⟩ ?_
          rintro - ⟨t1, D1, Ld1, hv1, tc1, dp1, tf, tp⟩ ⟨-, et, ef, ep, rr, rh⟩ p Kd hKd
          have et : t1 = nI i := et
          subst et
          refine open1 D1 Ld1 hv1 tc1 dp1 tf tp p Kd ⟨fun z2 => absurd z (by omega), fun z2 => ⟨fun z3 => absurd (dpq _ _ _ _ rr) z3, fun _ => can _ ⟨fun _ x26 e26 x27 e27 => ?_, fun x => absurd rfl x⟩⟩⟩
          rw [e27, nI_1, e26]
          have ep : tp = pa1 := ep
          exact hKd _ ⟨rfl, rfl, ef, by rw [ep], rr, rh⟩
      · refine ⟨fun _ x9 e9 => ?_, fun x => absurd x (by decide)⟩
        rw [e9, nI_1]
        refine hk _ ⟨(), (nI (i + 1), D1, Ld1, hv, tc1, dp1, fl1, pa1), rfl, rfl, rfl, rfl, rk1, fun _ _ => rfl⟩ ?_
        rintro - ⟨t1, D1, Ld1, hv1, tc1, dp1, tf, tp⟩ ⟨-, et, ef, ep, rr, rh⟩ p Kd hKd
        have et : t1 = nI i := et
        subst et
        refine open1 D1 Ld1 hv1 tc1 dp1 tf tp p Kd ⟨fun z2 => absurd z (by omega), fun z2 => ⟨fun z3 => hKd _ ⟨rfl, rfl, ef, ep, rr, rh⟩, fun z3 => ?_⟩⟩
        have z4 := (dpq _ _ _ _ rr).symm.trans z3
        rw [show (1 : Int32) = nI 1 from rfl, nI_eq (by omega) (by omega)] at z4
        omega
  · intro s K hE hM
    obtain ⟨v, fl1, pa1, pc1, S1, L1⟩ := s
    obtain ⟨-, ⟨t1, D1, Ld1, hv1, tc1, dp1, tf, tp⟩, e1, -, -, -, rk1, -⟩ := hE
    have e1 : v = nI u := e1
    subst e1
    unfold wb_x_splitHotKeys_2
    dsimp only
    refine pk_le u u (fun _ => ?_) (fun hh => absurd hh (by omega))
    refine h fl1 pa1 pc1 S1 L1 ⟨_, _, _, _, rk1⟩ (fun pd hpd => ?_)
    unfold wp_d_endRound
    refine ⟨m - u + 1 + u, hM () _ ⟨rfl, rfl, rfl, rfl, rk, fun _ _ => rfl⟩ pd (m - u + 1) (fun t ht => ?_)⟩
    refine hk_up (fun i s => s.1 = nI i ∧ u ≤ i ∧ s.2.2.2.2.2.2.1 = fl1 ∧ s.2.2.2.2.2.2.2 = pa1 ∧ ksR F P N kc kd pc1 S1 L1 s.2.2.2.2.2.1 s.2.1 s.2.2.1 s.2.2.2.2.1 ∧ ∀ k, k < 100 → s.2.2.2.1 (dl k 0) = hv (dl k 0)) m ?_ ?_ (m - u) u t (by omega) ⟨ht.2.1, Nat.le_refl _, ht.2.2.1, ht.2.2.2.1, ht.2.2.2.2.1, ht.2.2.2.2.2⟩
    · rintro i ⟨t1, D1, Ld1, hv1, tc1, dp1, tf, tp⟩ Kd hi ⟨et, hui, ef, ep, rr, rh⟩ hk
      have et : t1 = nI i := et
      subst et
      have z := (r1 i (by omega)).2 hui
      unfold wb_d_endRound_2
      dsimp only
      rw [ncl i, z.1]
      refine pk_le m i (fun hh => absurd hh (by omega)) (fun _ => ⟨pk_in i 12 (by omega), fun x16 e16 => ⟨fun _ x18 e18 => ?_, fun zz => absurd e16 zz⟩⟩)
      exact hk _ ⟨by rw [e18]; exact nI_1 i, by omega, ef, ep, rr, rh⟩
    · rintro ⟨t1, D1, Ld1, hv1, tc1, dp1, tf, tp⟩ Kd ⟨et, hui, ef, ep, rr, rh⟩
      have et : t1 = nI m := et
      subst et
      have ef : tf = fl1 := ef
      have ep : tp = pa1 := ep
      subst ef ep
      unfold wb_d_endRound_2
      dsimp only
      exact pk_le m m (fun _ => hpd D1 Ld1 hv1 tc1 dp1 rr rh) (fun hh => absurd hh (by omega))
