theorem keyR_one {F N q k : Nat} {kc : Nat → Int32} {S D : Nat → Int64} {L Ld tc : Nat → Int32} (hq : 1 ≤ q) (h : keyR F N kc q k S L D Ld tc) : keyR F N kc 1 k S L D Ld tc := by
  obtain ⟨a1, a2, a3, a4, a5, a6⟩ := h
  refine ⟨Or.inl rfl, fun f hf i hi => a2 f hf i (by omega), fun f hf => ?_, ⟨fun i hi => a4.1 i (by omega), fun i h1 hi => absurd h1 (by omega), ?_⟩, fun i hi => a5 i (by omega), fun i h1 hi => absurd h1 (by omega)⟩
  · obtain ⟨d1, d2, d3, d4⟩ := a3 f hf
    refine ⟨fun c => Nat.le_trans (absS_le (st := fun i => S (cs k i f)) (i := 0) (Nat.zero_le (q - 1))) (d1 c), fun c i hi => d2 c i (by omega), fun c i hi => d3 c i (by omega), fun c i hi => d4 c i (by omega)⟩
  · rcases a4.2.2 with b | b
    · exact Or.inl b
    · exact Or.inr ⟨b.1, fun i h1 hi => absurd h1 (by omega)⟩
theorem ksR_one {F P P2 N : Nat} {kc kd pc L dp dp2 Ld tc : Nat → Int32} {S D : Nat → Int64} (r : ksR F P N kc kd pc S L dp D Ld tc) (h2 : 2 ≤ P2) (h8 : P2 ≤ 8) (hd : ∀ k, k < 100 → dp2 k = 1) : ksR F P2 N kc kd (fun _ => 1) S L dp2 D Ld tc := by
  obtain ⟨hF, hP2, hP8, hN, hkd, hk⟩ := r
  refine ⟨hF, h2, h8, hN, hkd, fun k hk1 => ?_⟩
  obtain ⟨q, b1, b2, b3, b4, b5⟩ := hk k hk1
  exact ⟨1, Nat.le_refl _, by omega, rfl, hd k hk1, keyR_one b1 b5⟩
theorem sh_one {p1 p2 p3 p4 p5 : Int32} {dp : Nat → Int32} {post : Int32 → Int32 × Int32 × Int32 × Int32 × Int32 × (Nat → Int32) → Prop} (h : ∀ dp2 : Nat → Int32, (∀ k, k < 100 → dp2 k = 1) → post 1 (p1, p2, p3, p4, p5, dp2)) : ∃ n, hk_lp (wb_d_shape_121 p1 p2 p3 p4 p5 post) n (0, dp) := by
  refine hk_upE (fun j v => v.1 = nI j ∧ ∀ k, k < j → v.2 k = 1) 100 0 _ (Nat.zero_le _) ⟨rfl, fun k hk => absurd hk (Nat.not_lt_zero _)⟩ ?_ ?_
  · rintro j ⟨v, f⟩ K hj ⟨e, hh⟩ hk
    have e : v = nI j := e
    subst e
    unfold wb_d_shape_121
    dsimp only
    refine pk_le 100 j (fun z => absurd z (by omega)) (fun _ => ⟨pk_in j 100 hj, fun x8 e8 => hk _ ⟨by rw [e8]; exact nI_1 j, fun k hk => ?_⟩⟩)
    rw [ncl j]
    show upd f j 1 k = 1
    by_cases c : k = j
    · subst c; exact pk_us
    · rw [pk_un c]; exact hh k (by omega)
  · rintro ⟨v, f⟩ K ⟨e, hh⟩
    have e : v = nI 100 := e
    subst e
    unfold wb_d_shape_121
    dsimp only
    exact pk_le 100 100 (fun _ => h f hh) (fun z => absurd z (by omega))
theorem op_shape {P Rd T M N : Nat} {a1 a2 a3 a4 a5 x_places x_round x_threshold x_slack x_rows cn_limit d_p d_r d_t d_slack d_m d_rows : Int32} {pc dp : Nat → Int32} (hN : x_rows = nI N ∧ d_rows = nI N) (hN2 : N ≤ 450) {Q : Int32 × Int32 × Int32 × Int32 × Int32 × (Nat → Int32) → Int32 × Int32 × Int32 × Int32 × Int32 × (Nat → Int32) → Prop} (hno : Q (x_places, x_round, x_threshold, x_slack, cn_limit, pc) (d_p, d_r, d_t, d_slack, d_m, dp)) (hQ : ∀ (P2 R2 T2 M2 : Nat) (dp2 : Nat → Int32), N = 0 → 2 ≤ P2 → P2 ≤ 8 → 8 ≤ R2 → R2 ≤ 200 → 1 ≤ T2 → T2 ≤ R2 → 1 ≤ M2 → M2 ≤ 12 → (∀ k, k < 100 → dp2 k = 1) → Q (nI P2, nI R2, nI T2, a4, nI M2, fun _ => 1) (nI P2, nI R2, nI T2, a4, nI M2, dp2)) : wp_x_shape a1 a2 a3 a4 a5 x_places x_round x_threshold x_slack x_rows cn_limit pc (fun r w => wp_d_shape a1 a2 a3 a4 a5 d_p d_r d_t d_slack d_m dp d_rows (fun r2 w2 => r = r2 ∧ Q w w2)) := by
  obtain ⟨rfl, rfl⟩ := hN
  have no : wj_d_shape_71 d_p d_r d_t d_slack d_m dp (nI N) a1 a2 a3 a4 a5 (fun r2 w2 => (-102) = r2 ∧ Q (x_places, x_round, x_threshold, x_slack, cn_limit, pc) w2) 0 := ⟨fun z => absurd rfl z, fun _ => ⟨rfl, hno⟩⟩
  rcases rg32 a1 2 8 (by omega) (by omega) with ⟨P2, p2, p8, rfl⟩ | hn
  · have y1 : (2 : Int32) ≤ nI P2 := nI_le (a := 2) p2 (by omega)
    have y2 : nI P2 ≤ (8 : Int32) := nI_le (b := 8) p8 (by omega)
    refine sp_isW_Y y1 y2 ⟨fun z => absurd z (by decide), fun _ => ?_⟩
    rcases rg32 a2 8 200 (by omega) (by omega) with ⟨R2, r8, r2, rfl⟩ | hn
    · have y3 : (8 : Int32) ≤ nI R2 := nI_le (a := 8) r8 (by omega)
      have y4 : nI R2 ≤ (200 : Int32) := nI_le (b := 200) r2 (by omega)
      refine sp_isW_Y y3 y4 ⟨fun z => absurd z (by decide), fun _ => ?_⟩
      rcases rg32 a3 1 R2 (by omega) (by omega) with ⟨T2, t1, t2, rfl⟩ | hn
      · have y5 : (1 : Int32) ≤ nI T2 := nI_le (a := 1) t1 (by omega)
        have y6 : nI T2 ≤ nI R2 := nI_le t2 (by omega)
        refine sp_isW_Y y5 y6 ⟨fun z => absurd z (by decide), fun _ => ?_⟩
        by_cases h4 : (0 : Int32) ≤ a4 ∧ a4 ≤ nI T2 - 1
        · refine sp_isW_Y h4.1 h4.2 ⟨fun z => absurd z (by decide), fun _ => ?_⟩
          rcases rg32 a5 1 12 (by omega) (by omega) with ⟨M2, m1, m2, rfl⟩ | hn
          · have y7 : (1 : Int32) ≤ nI M2 := nI_le (a := 1) m1 (by omega)
            have y8 : nI M2 ≤ (12 : Int32) := nI_le (b := 12) m2 (by omega)
            have md : ∀ pd : Int32 → Int32 × Int32 × Int32 × Int32 × Int32 × (Nat → Int32) → Prop, wj_d_shape_71 d_p d_r d_t d_slack d_m dp (nI N) (nI P2) (nI R2) (nI T2) a4 (nI M2) pd 1 → wp_d_shape (nI P2) (nI R2) (nI T2) a4 (nI M2) d_p d_r d_t d_slack d_m dp (nI N) pd := fun pd h => by
              unfold wp_d_shape
              refine sp_in_Y (a := 2) (b := 8) y1 y2 ⟨fun z => absurd z (by decide), fun _ => ?_⟩ rfl rfl
              refine sp_in_Y (a := 8) (b := 200) y3 y4 ⟨fun z => absurd z (by decide), fun _ => ?_⟩ rfl rfl
              refine sp_in_Y (a := 1) (b := nI R2) y5 y6 ⟨fun z => absurd z (by decide), fun _ => ?_⟩ rfl rfl
              refine sp_in_Y (a := 0) (b := nI T2 - 1) h4.1 h4.2 ⟨fun z => absurd z (by decide), fun _ => ?_⟩ rfl rfl
              exact sp_in_Y (a := 1) (b := 12) y7 y8 ⟨fun z => absurd z (by decide), fun _ => h⟩ rfl rfl
            refine sp_isW_Y y7 y8 ⟨fun _ => pk_le N 0 (fun c => ?_) (fun c => ?_), fun z => absurd z (by decide)⟩
            · refine md _ ⟨fun _ => ⟨fun _ => sh_one (fun dp2 hd => ⟨rfl, hQ P2 R2 T2 M2 dp2 (by omega) p2 p8 r8 r2 t1 t2 m1 m2 hd⟩), fun z => absurd (nI_le (b := 0) c (by omega)) z⟩, fun z => absurd z (by decide)⟩
            · refine md _ ⟨fun _ => ⟨fun z => absurd z (nI_nle (by omega) (by omega)), fun _ => ⟨rfl, hno⟩⟩, fun z => absurd z (by decide)⟩
          · refine sp_isW_N hn ⟨fun z => absurd rfl z, fun _ => ?_⟩
            unfold wp_d_shape
            refine sp_in_Y (a := 2) (b := 8) y1 y2 ⟨fun z => absurd z (by decide), fun _ => ?_⟩ rfl rfl
            refine sp_in_Y (a := 8) (b := 200) y3 y4 ⟨fun z => absurd z (by decide), fun _ => ?_⟩ rfl rfl
            refine sp_in_Y (a := 1) (b := nI R2) y5 y6 ⟨fun z => absurd z (by decide), fun _ => ?_⟩ rfl rfl
            refine sp_in_Y (a := 0) (b := nI T2 - 1) h4.1 h4.2 ⟨fun z => absurd z (by decide), fun _ => ?_⟩ rfl rfl
            exact sp_in_N (a := 1) (b := 12) hn ⟨fun _ => no, fun z => absurd rfl z⟩ rfl rfl
        · refine sp_isW_N h4 ⟨fun _ => ?_, fun z => absurd rfl z⟩
          unfold wp_d_shape
          refine sp_in_Y (a := 2) (b := 8) y1 y2 ⟨fun z => absurd z (by decide), fun _ => ?_⟩ rfl rfl
          refine sp_in_Y (a := 8) (b := 200) y3 y4 ⟨fun z => absurd z (by decide), fun _ => ?_⟩ rfl rfl
          refine sp_in_Y (a := 1) (b := nI R2) y5 y6 ⟨fun z => absurd z (by decide), fun _ => ?_⟩ rfl rfl
          exact sp_in_N (a := 0) (b := nI T2 - 1) h4 ⟨fun _ => no, fun z => absurd rfl z⟩ rfl rfl
      · refine sp_isW_N hn ⟨fun _ => ?_, fun z => absurd rfl z⟩
        unfold wp_d_shape
        refine sp_in_Y (a := 2) (b := 8) y1 y2 ⟨fun z => absurd z (by decide), fun _ => ?_⟩ rfl rfl
        refine sp_in_Y (a := 8) (b := 200) y3 y4 ⟨fun z => absurd z (by decide), fun _ => ?_⟩ rfl rfl
        exact sp_in_N (a := 1) (b := nI R2) hn ⟨fun _ => no, fun z => absurd rfl z⟩ rfl rfl
    · refine sp_isW_N hn ⟨fun _ => ?_, fun z => absurd rfl z⟩
      unfold wp_d_shape
      refine sp_in_Y (a := 2) (b := 8) y1 y2 ⟨fun z => absurd z (by decide), fun _ => ?_⟩ rfl rfl
      exact sp_in_N (a := 8) (b := 200) hn ⟨fun _ => no, fun z => absurd rfl z⟩ rfl rfl
  · refine sp_isW_N hn ⟨fun _ => ?_, fun z => absurd rfl z⟩
    unfold wp_d_shape
    exact sp_in_N (a := 2) (b := 8) hn ⟨fun _ => no, fun z => absurd rfl z⟩ rfl rfl
theorem cnR_m {keys counts errors ck cc ce : Nat → Int32} {u m m2 n : Nat} (r : cnR keys counts errors u m n ck cc ce) (hn : n = 0) (h1 : 1 ≤ m2) (h2 : m2 ≤ 12) : cnR keys counts errors u m2 n ck cc ce := by
  obtain ⟨a1, a2, a3, a4, a5, a6⟩ := r
  exact ⟨h1, h2, by omega, a4, a5, a6⟩
theorem ob_shape : Ob_shape Rab := by
  intro t a1 a2 a3 a4 a5 xs ds ms ht hR
  have hR0 := ob_step _ _ _ _ hR
  obtain ⟨P, Rd, T, M, F, N, G, U, J, hP, hR, hT, hSl, hM, hJ, hN, hG, hF, hU, hE, rl, rc, rs, rt, rg, rk, rf, rv, rm⟩ := hR
  have hG2 := hG.2.2.2
  exact op_shape (P := P) (Rd := Rd) (T := T) (M := M) hN rk.2.2.2.1 hR0 (fun P2 R2 T2 M2 dp2 h0 p2 p8 r8 r2 t1 t2 m1 m2 hd => Rab_mk ⟨rfl, rfl⟩ ⟨rfl, rfl, r8, r2⟩ ⟨rfl, rfl, t1, t2⟩ rfl ⟨rfl, rfl⟩ hJ hN ⟨hG.1, hG.2.1, by omega, hG.2.2.2⟩ hF hU hE rl (cnR_m rc (by omega) m1 m2) rs rt (lgR_step rg) (ksR_one rk p2 p8 hd) rf rv rm)
theorem nSp_n {pc : Nat → Int32} : ∀ n, ∃ c, c ≤ n ∧ nSp pc n = nI c ∧ (c = 0 → ∀ k, k < n → pc k ≤ 1)
  | 0 => ⟨0, Nat.le_refl _, rfl, fun _ k hk => absurd hk (Nat.not_lt_zero _)⟩
  | n + 1 => by
    obtain ⟨c, h1, h2, h3⟩ := nSp_n (pc := pc) n
    by_cases z : pc n ≤ 1
    · refine ⟨c, by omega, by simp only [nSp]; rw [if_pos z, h2], fun e k hk => ?_⟩
      by_cases y : k = n
      · subst y; exact z
      · exact h3 e k (by omega)
    · exact ⟨c + 1, by omega, by simp only [nSp]; rw [if_neg z, h2, nI_1], fun e => absurd e (by omega)⟩
theorem eV_dom {x : Int32} {L : Nat → Int32} (hL : L 0 = -1) : dom x (fun _ => eV x) L 0 0 := by
  obtain ⟨v1, v2, v3⟩ := eV_jk (kd := x)
  refine ⟨fun c => ?_, fun c i hi => ?_, fun c i hi => ?_, fun c i hi => ?_⟩
  · show (eV x).toInt.natAbs ≤ 0
    rw [v1 c]
    decide
  · show inV (eV x)
    rw [v2 c]
    exact Or.inl rfl
  · show 0 ≤ (eV x).toInt ∧ (eV x).toInt < 65536
    rw [v3 c]
    decide
  · have hi0 : i = 0 := by omega
    subst hi0
    show eV x = NO ↔ L 0 = -1
    rw [v2 (Or.inr (Or.inr c)), hL]
    exact ⟨fun _ => rfl, fun _ => rfl⟩
theorem op_fold {F P N J : Nat} {kc kd pc L dp Ld tc hv lv dc dd : Nat → Int32} {S D V : Nat → Int64} {mc rows count folds drows dmarks a1 a2 : Int32} (hJ : mc = nI J ∧ dmarks = nI J) (hJ4 : J ≤ 4) (hN : rows = nI N ∧ drows = nI N) (hF : count = nI F ∧ folds = nI F) (rk : ksR F P N kc kd pc S L dp D Ld tc) (rf : foR F kc dc kd dd) (rv : vR F N J kc V hv lv) {Q : (Nat → Int64) × (Nat → Int32) × (Nat → Int32) × Int32 → Int32 × (Nat → Int32) × (Nat → Int32) × (Nat → Int64) × (Nat → Int32) × (Nat → Int32) × (Nat → Int32) → Prop} (hQ : ∀ (S2 : Nat → Int64) (kc2 dc2 : Nat → Int32) (F2 : Nat) (D2 : Nat → Int64) (Ld2 hv2 tc2 kd2 dd2 : Nat → Int32), ksR F2 P N kc2 kd2 pc S2 L dp D2 Ld2 tc2 → foR F2 kc2 dc2 kd2 dd2 → vR F2 N J kc2 V hv2 lv → ((F2 = F ∧ kc2 = kc) ∨ J = 0) → Q (S2, kc2, dc2, nI F2) (nI F2, kd2, dd2, D2, Ld2, hv2, tc2)) : wp_x_fold a1 a2 mc rows pc S kc dc count (fun r w => wp_d_fold a1 a2 folds kd dd D Ld hv tc dp drows dmarks (fun r2 w2 => r = r2 ∧ Q w w2)) := by
  obtain ⟨rfl, rfl⟩ := hJ
  obtain ⟨rfl, rfl⟩ := hN
  obtain ⟨rfl, rfl⟩ := hF
  have hno := hQ S kc dc F D Ld hv tc kd dd rk rf rv (Or.inl ⟨rfl, rfl⟩)
  have hF6 := rk.1
  have hN4 := rk.2.2.2.1
  rcases rg32 a1 0 7 (by omega) (by omega) with ⟨x, -, hx, rfl⟩ | hn
  · have y1 : (0 : Int32) ≤ nI x := nI_ge0 (by omega)
    have y2 : nI x ≤ (7 : Int32) := nI_le (b := 7) hx (by omega)
    refine sp_isW_Y y1 y2 ⟨fun _ => pk_lt 0 N (fun c => ?_) (fun c => pk_lt 0 J (fun c2 => ?_) (fun c2 => ?_)), fun z => absurd z (by decide)⟩
    · exact sp_in_Y (a := 0) (b := 7) y1 y2 ⟨fun _ => ⟨fun _ => ⟨rfl, hno⟩, fun z => absurd (nI_lt (a := 0) c (by omega)) z⟩, fun z => absurd z (by decide)⟩ rfl rfl
    · exact sp_in_Y (a := 0) (b := 7) y1 y2 ⟨fun _ => ⟨fun z => absurd z (nI_nlt (b := N) (a := 0) c (by omega)), fun _ => ⟨fun _ => ⟨rfl, hno⟩, fun z => absurd (nI_lt (a := 0) c2 (by omega)) z⟩⟩, fun z => absurd z (by decide)⟩ rfl rfl
    · have eN : N = 0 := by omega
      have eJ : J = 0 := by omega
      subst eN
      subst eJ
      have md : ∀ pd : Int32 → Int32 × (Nat → Int32) × (Nat → Int32) × (Nat → Int64) × (Nat → Int32) × (Nat → Int32) × (Nat → Int32) → Prop, ((nSp pc 100 ≤ 0 → (¬ nI F = 6 → vp_in (nI F) 6 ∧ (vp_in (nI F) 6 ∧ (∃ n, hk_lp (wb_d_fold_73 (nI F) kd dd (nI x) a2 pd) n (0, D, Ld, hv, tc)))) ∧ (nI F = 6 → pd (-104) (nI F, kd, dd, D, Ld, hv, tc))) ∧ (¬ nSp pc 100 ≤ 0 → pd (-103) (nI F, kd, dd, D, Ld, hv, tc))) → wp_d_fold (nI x) a2 (nI F) kd dd D Ld hv tc dp (nI 0) (nI 0) pd := fun pd h => by
        rw [ks_sp rk] at h
        unfold wp_d_fold
        exact sp_in_Y (a := 0) (b := 7) y1 y2 ⟨fun _ => ⟨fun z => absurd z (by decide), fun _ => ⟨fun z => absurd z (by decide), fun _ => sp_d_splitKeys h⟩⟩, fun z => absurd z (by decide)⟩ rfl rfl
      refine sp_ks_splitKeys ⟨fun c3 => pk_lt F 6 (fun c4 => ?_) (fun c4 => ?_), fun c3 => md _ ⟨fun z => absurd z c3, fun _ => ⟨rfl, hno⟩⟩⟩
      · have one : ∀ k, k < 100 → pc k = nI 1 ∧ dp k = nI 1 ∧ keyR F 0 kc 1 k S L D Ld tc := fun k hk => by
          obtain ⟨c, d1, d2, d3⟩ := nSp_n (pc := pc) 100
          rw [d2] at c3
          have c0 : c = 0 := by
            have := (nI_leI (b := 0) (by omega) (by omega)).mp c3
            omega
          have hle := d3 c0 k hk
          obtain ⟨q, b1, b2, b3, b4, b5⟩ := rk.2.2.2.2.2 k hk
          rw [b3] at hle
          have hP8 := rk.2.2.1
          have q1 : q = 1 := by
            have := (nI_leI (b := 1) (by omega) (by omega)).mp hle
            omega
          subst q1
          exact ⟨b3, b4, b5⟩
        have hL : ∀ k, k < 100 → L (sl k 0) = -1 := fun k hk => by
          obtain ⟨-, -, -, a4, a5, -⟩ := (one k hk).2.2
          have h1 := a4.1 0 (by omega)
          have h2 := a5 0 (by omega)
          have h1 : (-1 : Int32) ≤ L (sl k 0) := h1
          have h2 : L (sl k 0) < 0 := h2
          have h3 := Int32.le_iff_toInt_le.mp h1
          have h4 := Int32.lt_iff_toInt_lt.mp h2
          have e1 : (-1 : Int32).toInt = -1 := by decide
          have e2 : (0 : Int32).toInt = 0 := by decide
          rw [e1] at h3
          rw [e2] at h4
          exact Int32.toInt_inj.mp (by rw [e1]; omega)
        unfold wp_fo_add
        rw [ncl F]
        refine ⟨pk_in F 6 c4, pk_in F 6 c4, fun x1 e1 => ?_⟩
        rw [nI_1] at e1
        subst e1
        refine sp_ks_startFold c4 (fun S2 g1 => ?_)
        dsimp only at g1
        refine md _ ⟨fun _ => ⟨fun _ => ⟨pk_in F 6 c4, pk_in F 6 c4, ?_⟩, fun z => absurd ((nI_eq (b := 6) (by omega) (by omega)).mp z) (by omega)⟩, fun z => absurd c3 z⟩
        refine hk_upE (fun j v => v.1 = nI j ∧ (∀ k i f, k < 100 → i < 8 → f < 6 → v.2.1 (dx k i f) = if k < j ∧ i = 0 ∧ f = F then eV (nI x) else D (dx k i f)) ∧ ∀ k, k < j → v.2.2.1 (dl k 0) = -1 ∧ v.2.2.2.1 (dl k 0) = 0) 100 0 _ (Nat.zero_le _) ⟨rfl, fun k i f _ _ _ => by rw [if_neg (by omega)], fun k hk => absurd hk (Nat.not_lt_zero _)⟩ ?_ ?_
        · rintro j ⟨v, D', Ld', hv', tc'⟩ Kk hj ⟨e, hD, hh⟩ hk
          have e : v = nI j := e
          subst e
          dsimp only at hD hh
          unfold wb_d_fold_73
          dsimp only
          refine pk_le 100 j (fun z => absurd z (by omega)) (fun _ => ?_)
          rw [ncl F, show (6 * nI j + nI F : Int32) = nI (dx j 0 F) by rw [show (6 : Int32) = nI 6 from rfl, pk_mul, nI_add]; unfold dx; congr 1; omega, ncl j, ncl (dx j 0 F) (by have := dx_lt (k := j) (i := 0) (f := F) hj (by omega) c4; omega)]
          refine sp_d_emptyOf c4 ?_
          rw [pk_us]
          refine ⟨pk_in (dx j 0 F) 4800 (dx_lt hj (by omega) c4), pk_in j 800 (by omega), pk_in j 800 (by omega), pk_in j 800 (by omega), fun x12 e12 => hk _ ⟨by rw [e12]; exact nI_1 j, fun k i f k1 i1 f1 => ?_, fun k hk => ?_⟩⟩
          · show vp_updL D' (dx j 0 F) (eV (nI x)) (dx k i f) = _
            by_cases c : k = j ∧ i = 0 ∧ f = F
            · obtain ⟨rfl, rfl, rfl⟩ := c
              rw [pk_uLs, if_pos ⟨by omega, rfl, rfl⟩]
            · rw [pk_uLn (fun z => c ((dx_eq k1 f1 hj c4).mp z)), hD k i f k1 i1 f1]
              exact if_iff (by omega)
          · show upd Ld' j (-1) (dl k 0) = -1 ∧ upd hv' j (vp_nar .boolean 0) (dl k 0) = 0
            have ek : dl k 0 = k := by unfold dl; omega
            by_cases c : k = j
            · subst c
              rw [ek, pk_us, pk_us]
              exact ⟨rfl, hk_b0⟩
            · rw [pk_un (by omega), pk_un (by omega)]
              exact hh k (by omega)
        · rintro ⟨v, D', Ld', hv', tc'⟩ Kk ⟨e, hD, hh⟩
          have e : v = nI 100 := e
          subst e
          dsimp only at hD hh
          unfold wb_d_fold_73
          dsimp only
          refine pk_le 100 100 (fun _ x10 e10 => ?_) (fun z => absurd z (by omega))
          rw [nI_1] at e10
          subst e10
          rw [ncl F, nI_pred]
          have hkk : ∀ f, f < F → upd kc F (nI x) f = kc f := fun f hf => pk_un (by omega)
          have hkd : ∀ f, f < F → upd kd F (nI x) f = kd f := fun f hf => pk_un (by omega)
          refine ⟨rfl, hQ S2 (upd kc F (nI x)) (upd dc F (vp_nar .boolean a2)) (F + 1) D' Ld' hv' tc' (upd kd F (nI x)) (upd dd F (vp_nar .boolean a2)) ⟨by omega, rk.2.1, rk.2.2.1, by omega, fun f hf => ?_, fun k hk => ?_⟩ ⟨by omega, fun f hf => ?_⟩ ⟨rv.1, fun _ k hk => ?_⟩ (Or.inr rfl)⟩
          · by_cases c : f = F
            · subst c; rw [pk_us, pk_us]
            · rw [hkk f (by omega), hkd f (by omega)]; exact rk.2.2.2.2.1 f (by omega)
          · obtain ⟨o1, o2, a1, a2, a3, a4, a5, a6⟩ := one k hk
            have hL0 := hL k hk
            refine ⟨1, Nat.le_refl _, by have := rk.2.1; omega, o1, o2, Or.inl rfl, fun f hf i hi => ?_, fun f hf => ?_, ⟨fun i hi => a4.1 i hi, fun i h1 hi => absurd h1 (by omega), Or.inl ?_⟩, a5, fun i h1 hi => absurd h1 (by omega)⟩
            · have hi0 : i = 0 := by omega
              subst hi0
              rw [g1 k 0 f hk (by omega) (by omega), hD k 0 f hk (by omega) (by omega)]
              by_cases c : f = F
              · subst c
                rw [if_pos ⟨rfl, rfl⟩, if_pos ⟨by omega, rfl, rfl⟩, pk_us]
              · rw [if_neg (fun z => c z.2), if_neg (fun z => c z.2.2)]
                exact a2 f (by omega) 0 (by omega)
            · by_cases c : f = F
              · subst c
                have hS : S2 (cs k 0 f) = eV (nI x) := by rw [g1 k 0 f hk (by omega) (by omega), if_pos ⟨rfl, rfl⟩, pk_us]
                rw [pk_us]
                obtain ⟨d1, d2, d3, d4⟩ := eV_dom (x := nI x) (L := fun i => L (sl k i)) hL0
                refine ⟨fun c => ?_, fun c i hi => ?_, fun c i hi => ?_, fun c i hi => ?_⟩
                · show (S2 (cs k 0 f)).toInt.natAbs ≤ _
                  rw [hS]; exact d1 c
                · have hi0 : i = 0 := by omega
                  subst hi0
                  show inV (S2 (cs k 0 f))
                  rw [hS]; exact d2 c 0 hi
                · have hi0 : i = 0 := by omega
                  subst hi0
                  show 0 ≤ (S2 (cs k 0 f)).toInt ∧ (S2 (cs k 0 f)).toInt < 65536
                  rw [hS]; exact d3 c 0 hi
                · have hi0 : i = 0 := by omega
                  subst hi0
                  show S2 (cs k 0 f) = NO ↔ L (sl k 0) = -1
                  rw [hS]; exact d4 c 0 hi
              · have hS : ∀ i, i < 8 → S2 (cs k i f) = S (cs k i f) := fun i hi => by rw [g1 k i f hk hi (by omega), if_neg (fun z => c z.2)]
                rw [hkk f (by omega)]
                obtain ⟨d1, d2, d3, d4⟩ := a3 f (by omega)
                refine ⟨fun c => ?_, fun c i hi => ?_, fun c i hi => ?_, fun c i hi => ?_⟩
                · show (S2 (cs k 0 f)).toInt.natAbs ≤ _
                  rw [hS 0 (by omega)]; exact d1 c
                · show inV (S2 (cs k i f))
                  rw [hS i (by omega)]; exact d2 c i hi
                · show 0 ≤ (S2 (cs k i f)).toInt ∧ (S2 (cs k i f)).toInt < 65536
                  rw [hS i (by omega)]; exact d3 c i hi
                · show S2 (cs k i f) = NO ↔ L (sl k i) = -1
                  rw [hS i (by omega)]; exact d4 c i hi
            · show Ld' (dl k 0) = L (sl k 0)
              rw [(hh k hk).1, hL0]
          · by_cases c : f = F
            · subst c
              rw [pk_us, pk_us, pk_us, pk_us]
              exact ⟨rfl, rfl, x, by omega, rfl⟩
            · rw [hkk f (by omega), hkd f (by omega), pk_un c, pk_un c]
              exact rf.2 f (by omega)
          · rw [(hh k hk).2, if_pos rfl]
            exact ⟨rv.1 rfl rfl k hk, Or.inl rfl⟩
      · refine md _ ⟨fun _ => ⟨fun z => absurd (by rw [show F = 6 by omega]; rfl) z, fun _ => ⟨rfl, hno⟩⟩, fun z => absurd c3 z⟩
  · refine sp_isW_N hn ⟨fun z => absurd rfl z, fun _ => ?_⟩
    exact sp_in_N (a := 0) (b := 7) hn ⟨fun z => absurd rfl z, fun _ => ⟨rfl, hno⟩⟩ rfl rfl
theorem ob_fold : Ob_fold Rab := by
  intro t a1 a2 xs ds ms ht hR
  have hR0 := ob_step _ _ _ _ hR
  obtain ⟨P, Rd, T, M, F, N, G, U, J, hP, hR, hT, hSl, hM, hJ, hN, hG, hF, hU, hE, rl, rc, rs, rt, rg, rk, rf, rv, rm⟩ := hR
  exact op_fold ⟨hJ.1, hJ.2.1⟩ (by omega) hN hF rk rf rv (fun S2 kc2 dc2 F2 D2 Ld2 hv2 tc2 kd2 dd2 rk2 rf2 rv2 hm => Rab_mk hP hR hT hSl hM hJ hN hG ⟨rfl, rfl⟩ hU hE rl rc rs rt (lgR_step rg) rk2 rf2 rv2 (by rcases hm with ⟨rfl, rfl⟩ | rfl <;> first | exact rm | exact fun j hj => absurd hj (Nat.not_lt_zero _)))
theorem sp_d_freshRun {ld ck cc ce : Nat → Int32} {post : Int32 × (Nat → Int32) × (Nat → Int32) × (Nat → Int32) × (Nat → Int32) × Int32 → Prop} (h : ∀ ld2 ck2 cc2 ce2 : Nat → Int32, (∀ i, i < 8 → ld2 i = 0) → (∀ i, i < 12 → ck2 i = -1 ∧ cc2 i = 0 ∧ ce2 i = 0) → post (0, ld2, ck2, cc2, ce2, 0)) : wp_d_freshRun ld ck cc ce post := by
  unfold wp_d_freshRun
  refine hk_upE (fun j v => v.1 = nI j ∧ ∀ k, k < j → v.2 k = 0) 8 0 _ (Nat.zero_le _) ⟨rfl, fun k hk => absurd hk (Nat.not_lt_zero _)⟩ ?_ ?_
  · rintro j ⟨v, f⟩ K hj ⟨e, hh⟩ hk
    have e : v = nI j := e
    subst e
    unfold wb_d_freshRun_7
    dsimp only
    refine pk_le 8 j (fun z => absurd z (by omega)) (fun _ => ⟨pk_in j 8 hj, fun x8 e8 => hk _ ⟨by rw [e8]; exact nI_1 j, fun k hk => ?_⟩⟩)
    rw [ncl j]
    show upd f j 0 k = 0
    by_cases c : k = j
    · subst c; exact pk_us
    · rw [pk_un c]; exact hh k (by omega)
  · rintro ⟨v, f⟩ K ⟨e, hh⟩
    have e : v = nI 8 := e
    subst e
    unfold wb_d_freshRun_7
    dsimp only
    exact pk_le 8 8 (fun _ => sp_d_freshRound (fun ck2 cc2 ce2 h2 => h f ck2 cc2 ce2 hh h2)) (fun z => absurd z (by omega))
theorem cnR_0 {keys counts errors ck cc ce : Nat → Int32} {m n : Nat} (h1 : 1 ≤ m) (h2 : m ≤ 12) (h : ∀ i, i < 12 → ck i = -1 ∧ cc i = 0 ∧ ce i = 0) : cnR keys counts errors 0 m n ck cc ce := ⟨h1, h2, by omega, by omega, fun i hi => ⟨fun z => absurd z (Nat.not_lt_zero _), fun _ => h i hi⟩, fun i hi => absurd hi (Nat.not_lt_zero _)⟩
theorem op_begin {kd Ld hv tc dp dld ck cc ce : Nat → Int32} {D : Nat → Int64} {Q : (Int32 × Int32 × Int32 × Int32 × (Nat → Int32) × Int32 × Int32 × Int32 × Int32 × Int32 × Int32 × Int32 × Int32 × Int32 × Int32 × Int64 × Int32 × Int32 × Int32 × (Nat → Int32) × (Nat → Int32) × (Nat → Int64) × Int32 × Int32) → (Int32 × Int32 × Int32 × Int32 × Int32 × Int32 × (Nat → Int64) × (Nat → Int32) × (Nat → Int32) × (Nat → Int32) × (Nat → Int32) × Int32 × Int32 × Int32 × Int32 × Int32 × Int32 × Int32 × Int32 × Int64 × (Nat → Int32) × (Nat → Int32) × (Nat → Int32) × (Nat → Int32) × Int32 × Int32 × Int32 × Int32) → Prop} (hQ : ∀ (D2 : Nat → Int64) (Ld2 hv2 tc2 dp2 ld2 ck2 cc2 ce2 : Nat → Int32), (∀ k, k < 100 → Ld2 (dl k 0) = -1 ∧ dp2 k = 1) → (∀ i, i < 8 → ld2 i = 0) → (∀ i, i < 12 → ck2 i = -1 ∧ cc2 i = 0 ∧ ce2 i = 0) → Q (4, 32, 8, 2, (fun _ => 0), 0, 0, 0, 0, 0, 0, 4, 0, 0, 0, 0, 0, 0, 0, (fun _ => 1), (fun _ => -1), (fun _ => NO), 0, 0) (4, 32, 8, 2, 4, 0, D2, Ld2, hv2, tc2, dp2, 0, 0, 0, 0, 0, 0, 0, 0, 0, ld2, ck2, cc2, ce2, 0, 0, 0, 0)) : wp_x_begin (fun w => wp_d_begin kd D Ld hv tc dp dld ck cc ce (fun w2 => Q w w2)) := by
  unfold wp_x_begin wp_x_setShape wp_ks_forgetAll wp_ks_makeAllOne wp_sm_forgetAll wp_ti_forgetAll wp_x_beginWork
  dsimp only
  unfold wp_d_begin
  refine hk_upE (fun j v => v.1 = nI j ∧ ∀ k, k < j → v.2.2.1 (dl k 0) = -1 ∧ v.2.2.2.2.2 k = 1) 100 0 _ (Nat.zero_le _) ⟨rfl, fun k hk => absurd hk (Nat.not_lt_zero _)⟩ ?_ ?_
  · rintro j ⟨v, D', Ld', hv', tc', dp'⟩ K hj ⟨e, hh⟩ hk
    have e : v = nI j := e
    subst e
    unfold wb_d_begin_89
    dsimp only
    refine pk_le 100 j (fun z => absurd z (by omega)) (fun _ => ⟨pk_in j 100 hj, ?_⟩)
    rw [ncl j]
    refine sp_d_empty (K := j) (I := 0) (F := 0) hj (by omega) (by omega) (fun S2 g1 x5 e5 => hk _ ⟨by rw [e5]; exact nI_1 j, fun k hk => ?_⟩)
    show upd Ld' (dl j 0) (-1) (dl k 0) = -1 ∧ upd dp' j 1 k = 1
    by_cases c : k = j
    · subst c; exact ⟨pk_us, pk_us⟩
    · rw [pk_un c, pk_un (by unfold dl; omega)]; exact hh k (by omega)
  · rintro ⟨v, D', Ld', hv', tc', dp'⟩ K ⟨e, hh⟩
    have e : v = nI 100 := e
    subst e
    unfold wb_d_begin_89
    dsimp only
    exact pk_le 100 100 (fun _ => sp_d_freshRun (fun ld2 ck2 cc2 ce2 h1 h2 => hQ D' Ld' hv' tc' dp' ld2 ck2 cc2 ce2 hh h1 h2)) (fun z => absurd z (by omega))
theorem ksR_0 {kc kd dp Ld tc : Nat → Int32} {S D : Nat → Int64} (h : ∀ k, k < 100 → Ld (dl k 0) = -1 ∧ dp k = 1) : ksR 0 4 0 kc kd (fun _ => 1) S (fun _ => -1) dp D Ld tc := by
  refine ⟨by omega, by omega, by omega, by omega, fun f hf => absurd hf (Nat.not_lt_zero _), fun k hk => ⟨1, Nat.le_refl _, by omega, rfl, (h k hk).2, Or.inl rfl, fun f hf => absurd hf (Nat.not_lt_zero _), fun f hf => absurd hf (Nat.not_lt_zero _), ⟨fun i hi => by show (-1 : Int32) ≤ -1; decide, fun i h1 hi => absurd h1 (by omega), Or.inl (h k hk).1⟩, fun i hi => by show (-1 : Int32) < nI 0; decide, fun i h1 hi => absurd h1 (by omega)⟩⟩
theorem smR_0 {k w dk dw : Nat → Int32} : smR k w 0 0 0 0 dk dw 0 0 := ⟨rfl, rfl, 0, by omega, rfl, rfl, fun i hi => absurd hi (Nat.not_lt_zero _)⟩
theorem tiR_0 {k w dk dw : Nat → Int32} : tiR k w 0 0 0 dk dw 0 := ⟨rfl, [], by simp, rfl, rfl, fun i hi => absurd hi (Nat.not_lt_zero _), fun i hi => absurd hi (Nat.not_lt_zero _), fun x hx => absurd hx (by simp)⟩
theorem lgR_0 {t : Nat} {cells ls : Nat → Int64} {newest : Int32} {lk lt : Nat → Int32} (h : ∃ w, w < 64 ∧ newest = nI w) : lgR t cells newest 0 0 lk lt ls := by
  obtain ⟨w, h1, h2⟩ := h
  exact ⟨w, 0, h1, by omega, h2, rfl, rfl, fun i hi => absurd hi (Nat.not_lt_zero _)⟩
theorem ob_init : Ob_init Rab := by
  unfold Ob_init
  exact op_begin (fun D2 Ld2 hv2 tc2 dp2 ld2 ck2 cc2 ce2 h1 h2 h3 => Rab_mk (P := 4) (Rd := 32) (T := 8) (M := 4) (F := 0) (N := 0) (G := 0) (U := 0) (J := 0) ⟨rfl, rfl⟩ ⟨rfl, rfl, by omega, by omega⟩ ⟨rfl, rfl, by omega, by omega⟩ (rfl) ⟨rfl, rfl⟩ ⟨rfl, rfl, by simp, by simp⟩ ⟨rfl, rfl⟩ ⟨rfl, rfl, by omega, by omega⟩ ⟨rfl, rfl⟩ (rfl) ⟨rfl, rfl, rfl, rfl⟩ (fun i hi => (h2 i hi).symm) (cnR_0 (by omega) (by omega) h3) (smR_0) (tiR_0) (lgR_0 ⟨0, by omega, rfl⟩) (ksR_0 h1) ⟨by omega, fun f hf => absurd hf (Nat.not_lt_zero _)⟩ ⟨fun _ _ k hk => rfl, fun z => absurd z (fun ⟨f, hf, _⟩ => Nat.not_lt_zero _ hf)⟩ (fun f hf => absurd hf (Nat.not_lt_zero _)))
theorem op_clear {kd Ld hv tc dp dld ck cc ce : Nat → Int32} {D : Nat → Int64} {rows drows : Int32} (he : rows = drows) {Q : (Int32 × Int32 × Int32 × Int32 × (Nat → Int32) × Int32 × Int32 × Int32 × Int32 × Int32 × Int32 × Int32 × Int32 × Int32 × Int32 × Int64 × Int32 × Int32 × Int32 × (Nat → Int32) × (Nat → Int32) × (Nat → Int64) × Int32 × Int32) → (Int32 × Int32 × Int32 × Int32 × Int32 × Int32 × (Nat → Int64) × (Nat → Int32) × (Nat → Int32) × (Nat → Int32) × (Nat → Int32) × Int32 × Int32 × Int32 × Int32 × Int32 × Int32 × Int32 × Int32 × Int64 × (Nat → Int32) × (Nat → Int32) × (Nat → Int32) × (Nat → Int32) × Int32 × Int32 × Int32 × Int32) → Prop} (hQ : ∀ (D2 : Nat → Int64) (Ld2 hv2 tc2 dp2 ld2 ck2 cc2 ce2 : Nat → Int32), (∀ k, k < 100 → Ld2 (dl k 0) = -1 ∧ dp2 k = 1) → (∀ i, i < 8 → ld2 i = 0) → (∀ i, i < 12 → ck2 i = -1 ∧ cc2 i = 0 ∧ ce2 i = 0) → Q (4, 32, 8, 2, (fun _ => 0), 0, 0, 0, 0, 0, 0, 4, 0, 0, 0, 0, 0, 0, 0, (fun _ => 1), (fun _ => -1), (fun _ => NO), 0, 0) (4, 32, 8, 2, 4, 0, D2, Ld2, hv2, tc2, dp2, 0, 0, 0, 0, 0, 0, 0, 0, 0, ld2, ck2, cc2, ce2, 0, 0, 0, 0)) : wp_x_clear rows (fun r w => wp_d_clear kd D Ld hv tc dp drows dld ck cc ce (fun r2 w2 => r = r2 ∧ Q w w2)) := by
  subst he
  unfold wp_x_clear wp_d_clear
  exact op_begin (Q := fun w w2 => rows = rows ∧ Q w w2) (fun D2 Ld2 hv2 tc2 dp2 ld2 ck2 cc2 ce2 h1 h2 h3 => ⟨rfl, hQ D2 Ld2 hv2 tc2 dp2 ld2 ck2 cc2 ce2 h1 h2 h3⟩)
theorem ob_clear : Ob_clear Rab := by
  intro t  xs ds ms ht hR
  have hR0 := ob_step _ _ _ _ hR
  obtain ⟨P, Rd, T, M, F, N, G, U, J, hP, hR, hT, hSl, hM, hJ, hN, hG, hF, hU, hE, rl, rc, rs, rt, rg, rk, rf, rv, rm⟩ := hR
  exact op_clear (hN.1.trans hN.2.symm) (fun D2 Ld2 hv2 tc2 dp2 ld2 ck2 cc2 ce2 h1 h2 h3 => Rab_mk (P := 4) (Rd := 32) (T := 8) (M := 4) (F := 0) (N := 0) (G := 0) (U := 0) (J := 0) ⟨rfl, rfl⟩ ⟨rfl, rfl, by omega, by omega⟩ ⟨rfl, rfl, by omega, by omega⟩ (rfl) ⟨rfl, rfl⟩ ⟨rfl, rfl, Nat.zero_le _, hJ.2.2.2⟩ ⟨rfl, rfl⟩ ⟨rfl, rfl, by omega, by omega⟩ ⟨rfl, rfl⟩ (rfl) ⟨rfl, rfl, rfl, rfl⟩ (fun i hi => (h2 i hi).symm) (cnR_0 (by omega) (by omega) h3) (smR_0) (tiR_0) (lgR_0 (by obtain ⟨w, g, hw, _, e, _⟩ := rg; exact ⟨w, hw, e⟩)) (ksR_0 h1) ⟨by omega, fun f hf => absurd hf (Nat.not_lt_zero _)⟩ ⟨fun _ _ k hk => rfl, fun z => absurd z (fun ⟨f, hf, _⟩ => Nat.not_lt_zero _ hf)⟩ (fun f hf => absurd hf (Nat.not_lt_zero _)))
