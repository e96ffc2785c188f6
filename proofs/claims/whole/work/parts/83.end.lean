theorem sp_d_freshRound {ck cc ce : Nat → Int32} {post : Int32 × (Nat → Int32) × (Nat → Int32) × (Nat → Int32) → Prop} (h : ∀ ck2 cc2 ce2 : Nat → Int32, (∀ i, i < 12 → ck2 i = -1 ∧ cc2 i = 0 ∧ ce2 i = 0) → post (0, ck2, cc2, ce2)) : wp_d_freshRound ck cc ce post := by
  unfold wp_d_freshRound
  refine hk_upE (fun j v => v.1 = nI j ∧ ∀ i, i < j → v.2.1 i = -1 ∧ v.2.2.1 i = 0 ∧ v.2.2.2 i = 0) 12 0 _ (Nat.zero_le _) ⟨rfl, fun i hi => absurd hi (Nat.not_lt_zero _)⟩ ?_ ?_
  · rintro j ⟨v, a, b, c⟩ K hj ⟨e, hh⟩ hk
    have e : v = nI j := e
    subst e
    unfold wb_d_freshRound_7
    dsimp only
    refine pk_le 12 j (fun q => absurd q (by omega)) (fun _ => ⟨pk_in j 12 (by omega), pk_in j 12 (by omega), pk_in j 12 (by omega), fun x3 e3 => ?_⟩)
    rw [ncl j]
    refine hk _ ⟨by rw [e3]; exact nI_1 j, fun i hi => ?_⟩
    show upd a j (-1) i = -1 ∧ upd b j 0 i = 0 ∧ upd c j 0 i = 0
    rw [upd_at, upd_at, upd_at]
    by_cases z : i = j
    · rw [if_pos z, if_pos z, if_pos z]; exact ⟨rfl, rfl, rfl⟩
    · rw [if_neg z, if_neg z, if_neg z]; exact hh i (by omega)
  · rintro ⟨v, a, b, c⟩ K ⟨e, hh⟩
    have e : v = nI 12 := e
    subst e
    unfold wb_d_freshRound_7
    dsimp only
    exact pk_le 12 12 (fun _ => h a b c hh) (fun q => absurd q (by omega))
theorem er_cool {F P N T u m n : Nat} {sl rounds fl moved : Int32} {kc kd keys counts errors ck cc ce pc L : Nat → Int32} {S cm : Nat → Int64} (rk : ∃ dp D Ld tc, ksR F P N kc kd pc S L dp D Ld tc) (rc : cnR keys counts errors u m n ck cc ce) {post : Int32 × (Nat → Int32) × (Nat → Int64) × (Nat → Int32) × Int32 → Prop} (h : ∀ (fl2 : Int32) (pc2 : Nat → Int32) (S2 : Nat → Int64) (L2 : Nat → Int32) (moved2 : Int32), (∀ (D : Nat → Int64) (Ld hv tc dp : Nat → Int32) (pa : Int32), ksR F P N kc kd pc S L dp D Ld tc → ∀ pd : (Nat → Int64) × (Nat → Int32) × (Nat → Int32) × (Nat → Int32) × (Nat → Int32) × Int32 × Int32 × Int32 × Int32 × Int32 × (Nat → Int32) × (Nat → Int32) × (Nat → Int32) × (Nat → Int64) → Prop, (∀ (D2 : Nat → Int64) (Ld2 dp2 ck2 cc2 ce2 : Nat → Int32) (cm2 : Nat → Int64), ksR F P N kc kd pc2 S2 L2 dp2 D2 Ld2 tc → (∀ i, i < 12 → ck2 i = -1 ∧ cc2 i = 0 ∧ ce2 i = 0) → pd (D2, Ld2, hv, tc, dp2, 0, rounds + 1, fl2, pa, moved2, ck2, cc2, ce2, cm2)) → ∃ x, hk_lp (wb_d_endRound_125 (nI T) sl (nI m) (nI F) kd rounds ck cc ce pd (nI m, D, Ld, hv, tc, dp, fl, pa)) x (0, D, Ld, dp, fl, moved, cm)) → post (fl2, pc2, S2, L2, moved2)) : wp_x_joinCoolKeys (nI T) sl fl keys counts (nI m) (nI u) pc S L moved kc (nI F) post := by
  unfold wp_x_joinCoolKeys
  obtain ⟨dp, D, Ld, tc, rk⟩ := rk
  refine hk_llE (bd := fun (r : Int32 × (Nat → Int64) × (Nat → Int32) × (Nat → Int32) × (Nat → Int32) × (Nat → Int32) × Int32 × Int32) p => wb_d_endRound_125 (nI T) sl (nI m) (nI F) kd rounds ck cc ce p r) (fun r i s t => s.1 = nI i ∧ t.1 = nI i ∧ t.2.2.2.2.1 = s.2.1 ∧ t.2.2.2.2.2.1 = s.2.2.2.2.2 ∧ ksR F P N kc kd s.2.2.1 s.2.2.2.1 s.2.2.2.2.1 t.2.2.2.1 t.2.1 t.2.2.1 r.2.2.2.2.1) 100 _ ⟨(nI m, D, Ld, tc, tc, dp, fl, fl), (nI 0, D, Ld, dp, fl, moved, cm), rfl, rfl, rfl, rfl, rk⟩ ?_ ?_
  · intro i s K hi hE hk
    obtain ⟨v, fl1, pc1, S1, L1, mo1⟩ := s
    obtain ⟨⟨r1, r2, r3, r4, r5, r6⟩, ⟨t1, D1, Ld1, dp1, tf, tm, tcm⟩, e1, -, -, -, rk1⟩ := hE
    have e1 : v = nI i := e1
    subst e1
    have rk1 : ksR F P N kc kd pc1 S1 L1 dp1 D1 Ld1 r5 := rk1
    have hP8 : P ≤ 8 := rk1.2.2.1
    obtain ⟨q, q1, qP, b3, b4, b5⟩ := rk1.2.2.2.2.2 i hi
    have dpq : ∀ (dp2 : Nat → Int32) (D2 : Nat → Int64) (Ld2 tc2 : Nat → Int32), ksR F P N kc kd pc1 S1 L1 dp2 D2 Ld2 tc2 → dp2 i = nI q := fun dp2 D2 Ld2 tc2 r => by
      obtain ⟨q', -, hq', c3, c4, -⟩ := r.2.2.2.2.2 i hi
      rw [c4, ← c3, b3]
    unfold wb_x_joinCoolKeys_2
    dsimp only
    refine pk_le 100 i (fun hh => absurd hh (by omega)) (fun _ => ?_)
    refine sp_ks_isSplit hi (by omega) b3 (fun hq1 => ?_) (fun hq1 => ?_)
    · refine ⟨fun _ x5 e5 => ?_, fun x => absurd rfl x⟩
      rw [e5, nI_1]
      refine hk _ ⟨(r1, r2, r3, r4, r5, r6), (nI (i + 1), D1, Ld1, dp1, fl1, mo1, cm), rfl, rfl, rfl, rfl, rk1⟩ ?_
      rintro r ⟨t1, D1, Ld1, dp1, tf, tm, tcm⟩ ⟨-, et, ef, em, rr⟩ p Kd hKd
      have et : t1 = nI i := et
      subst et
      unfold wb_d_endRound_125
      dsimp only
      refine pk_le 100 i (fun hh => absurd hh (by omega)) (fun _ => ⟨pk_in i 100 hi, ?_⟩)
      rw [ncl i, show dp1 i = nI q from dpq _ _ _ _ rr]
      refine pk_le q 1 (fun _ x8 e8 => ?_) (fun z => absurd z (by omega))
      rw [e8, nI_1]
      exact hKd _ ⟨rfl, rfl, ef, em, rr⟩
    · refine ⟨fun x => absurd x (by decide), fun _ => ?_⟩
      refine cn_most hi rc (fun c most => ?_)
      have open1 : ∀ r (D1 : Nat → Int64) (Ld1 dp1 : Nat → Int32) (tf tm : Int32) (tcm : Nat → Int64) (p) (Kd), dp1 i = nI q → (((nI T - sl) ≤ c → ∀ x11 : Int32, x11 = nI i + 1 → Kd (x11, D1, Ld1, dp1, tf, tm, tcm)) ∧ (¬ (nI T - sl) ≤ c → wp_d_joinBack (nI i) (nI F) kd D1 Ld1 r.2.2.2.2.1 dp1 tm tcm (fun (r12 : Int32) (w13 : (Nat → Int64) × (Nat → Int32) × (Nat → Int32) × Int32 × (Nat → Int64)) => ∀ x14 : Int32, x14 = tf + 1 → ∀ x15 : Int32, x15 = nI i + 1 → Kd (x15, w13.1, w13.2.1, w13.2.2.1, x14, w13.2.2.2.1, w13.2.2.2.2)))) → wb_d_endRound_125 (nI T) sl (nI m) (nI F) kd rounds ck cc ce p r Kd (nI i, D1, Ld1, dp1, tf, tm, tcm) := by
        intro r D1 Ld1 dp1 tf tm tcm p Kd ed hg
        unfold wb_d_endRound_125
        dsimp only
        refine pk_le 100 i (fun hh => absurd hh (by omega)) (fun _ => ⟨pk_in i 100 hi, ?_⟩)
        rw [ncl i, ed]
        exact pk_le q 1 (fun z => absurd z (by omega)) (fun _ => most _ hg)
      refine ⟨fun z x8 e8 => ?_, fun z => ?_⟩
      · rw [e8, nI_1]
        refine hk _ ⟨(r1, r2, r3, r4, r5, r6), (nI (i + 1), D1, Ld1, dp1, fl1, mo1, cm), rfl, rfl, rfl, rfl, rk1⟩ ?_
        rintro r ⟨t1, D1, Ld1, dp1, tf, tm, tcm⟩ ⟨-, et, ef, em, rr⟩ p Kd hKd
        have et : t1 = nI i := et
        subst et
        refine open1 r D1 Ld1 dp1 tf tm tcm p Kd (dpq _ _ _ _ rr) ⟨fun _ x11 e11 => ?_, fun x => absurd z x⟩
        rw [e11, nI_1]
        exact hKd _ ⟨rfl, rfl, ef, em, rr⟩
      · refine ks_back ⟨_, _, _, _, rk1⟩ hi b3 (by omega) (fun nn S2 L2 hE2 hmod x11 e11 x12 e12 => ?_)
        rw [e12, nI_1, e11]
        obtain ⟨dp2, D2, Ld2, tc2, rk2⟩ := hE2
        refine hk _ ⟨(r1, r2, r3, r4, tc2, r6), (nI (i + 1), D2, Ld2, dp2, fl1 + 1, mo1 + nn, cm), rfl, rfl, rfl, rfl, rk2⟩ ?_
        rintro r ⟨t1, D1, Ld1, dp1, tf, tm, tcm⟩ ⟨-, et, ef, em, rr⟩ p Kd hKd
        have et : t1 = nI i := et
        subst et
        have ef : tf = fl1 := ef
        subst ef
        have em : tm = mo1 := em
        subst em
        refine open1 r D1 Ld1 dp1 tf tm tcm p Kd (dpq _ _ _ _ rr) ⟨fun x => absurd x z, fun _ => hmod _ _ _ _ tcm tm rr _ (fun D2 Ld2 cm2 rr2 x14 e14 x15 e15 => ?_)⟩
        rw [e15, nI_1, e14]
        exact hKd _ ⟨rfl, rfl, rfl, rfl, rr2⟩
  · intro s K hE hM
    obtain ⟨v, fl1, pc1, S1, L1, mo1⟩ := s
    obtain ⟨-, -, e1, -⟩ := hE
    have e1 : v = nI 100 := e1
    subst e1
    unfold wb_x_joinCoolKeys_2
    dsimp only
    refine pk_le 100 100 (fun _ => ?_) (fun hh => absurd hh (by omega))
    refine h fl1 pc1 S1 L1 mo1 (fun D Ld hv tc dp pa rk pd hpd => ?_)
    refine ⟨1 + 100, hM (nI m, D, Ld, hv, tc, dp, fl, pa) (0, D, Ld, dp, fl, moved, cm) ⟨rfl, rfl, rfl, rfl, rk⟩ pd 1 ?_⟩
    rintro ⟨t1, D1, Ld1, dp1, tf, tm, tcm⟩ ⟨-, et, ef, em, rr⟩
    have et : t1 = nI 100 := et
    subst et
    have ef : tf = fl1 := ef
    subst ef
    have em : tm = mo1 := em
    subst em
    show wb_d_endRound_125 _ _ _ _ _ _ _ _ _ _ _ _ _
    unfold wb_d_endRound_125
    dsimp only
    refine pk_le 100 100 (fun _ => ?_) (fun hh => absurd hh (by omega))
    refine sp_d_freshRound (fun ck2 cc2 ce2 hz x6 e6 => ?_)
    rw [e6]
    exact hpd D1 Ld1 dp1 ck2 cc2 ce2 tcm rr hz
/-- a round ends: class, and the model's run -/
theorem end_round {F P N T u m n : Nat} {sl rounds fl pa moved : Int32} {kc dc kd dd keys counts errors ck cc ce pc L dp Ld hv tc : Nat → Int32} {S D cm : Nat → Int64} (rk : ksR F P N kc kd pc S L dp D Ld tc) (rf : foR F kc dc kd dd) (rc : cnR keys counts errors u m n ck cc ce) (hT1 : 1 ≤ T) (hT : T ≤ 200) (hn : n ≤ 1000) {post : Int32 × Int32 × Int32 × Int32 × Int32 × (Nat → Int32) × (Nat → Int64) × (Nat → Int32) × Int32 → Prop} (h : ∀ (fl2 pa2 : Int32) (pc2 : Nat → Int32) (S2 : Nat → Int64) (L2 : Nat → Int32) (moved2 : Int32), (∀ pd : (Nat → Int64) × (Nat → Int32) × (Nat → Int32) × (Nat → Int32) × (Nat → Int32) × Int32 × Int32 × Int32 × Int32 × Int32 × (Nat → Int32) × (Nat → Int32) × (Nat → Int32) × (Nat → Int64) → Prop, (∀ (D2 : Nat → Int64) (Ld2 hv2 tc2 dp2 ck2 cc2 ce2 : Nat → Int32) (cm2 : Nat → Int64), ksR F P N kc kd pc2 S2 L2 dp2 D2 Ld2 tc2 → (∀ k, k < 100 → hv2 (dl k 0) = hv (dl k 0)) → (∀ i, i < 12 → ck2 i = -1 ∧ cc2 i = 0 ∧ ce2 i = 0) → pd (D2, Ld2, hv2, tc2, dp2, 0, rounds + 1, fl2, pa2, moved2, ck2, cc2, ce2, cm2)) → wp_d_endRound (nI P) (nI T) sl (nI m) (nI F) kd dd D Ld hv tc dp rounds fl pa moved ck cc ce cm pd) → post (0, rounds + 1, fl2, pa2, 0, pc2, S2, L2, moved2)) : wp_x_endRound (nI P) (nI T) sl rounds fl pa keys counts errors (nI m) (nI u) pc S L moved kc dc (nI F) post := by
  unfold wp_x_endRound
  refine er_split (sl := sl) (rounds := rounds) (moved := moved) (hv := hv) (cm := cm) rk rf rc hT1 hT hn (fun fl2 pa2 pc2 S2 L2 hE2 hm2 => ?_)
  refine er_cool (rounds := rounds) (cm := cm) hE2 rc (fun fl3 pc3 S3 L3 moved3 hm3 x3 e3 => ?_)
  rw [e3]
  refine h fl3 pa2 pc3 S3 L3 moved3 (fun pd hpd => hm2 pd (fun D2 Ld2 hv2 tc2 dp2 rr rh => hm3 D2 Ld2 hv2 tc2 dp2 pa2 rr pd (fun D3 Ld3 dp3 ck3 cc3 ce3 cm3 rr3 hz => hpd D3 Ld3 hv2 tc2 dp3 ck3 cc3 ce3 cm3 rr3 rh hz)))
