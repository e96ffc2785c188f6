def sq : Nat → Nat
  | 0 => 1
  | 1 => 2
  | 2 => 4
  | _ => 8
def lq (q : Nat) : Nat → Nat
  | 0 => q
  | n + 1 => (lq q n + 1) / 2
theorem lv_F {q : Nat} : ∀ lv, lv < 3 → (sq lv = 1 ∧ lq q lv = q ∨ sq lv = 2 ∧ lq q lv = (q + 1) / 2 ∨ sq lv = 4 ∧ lq q lv = ((q + 1) / 2 + 1) / 2) ∧ sq (lv + 1) = sq lv + sq lv
  | 0, _ => ⟨Or.inl ⟨rfl, rfl⟩, rfl⟩
  | 1, _ => ⟨Or.inr (Or.inl ⟨rfl, rfl⟩), rfl⟩
  | 2, _ => ⟨Or.inr (Or.inr ⟨rfl, rfl⟩), rfl⟩
  | lv + 3, h => absurd h (by omega)
theorem tree_in {q : Nat} (q1 : 1 ≤ q) (q8 : q ≤ 8) {p2 : Int32} {W : (Int32 → Prop) → Prop} (md : ∀ pd : Int32 → Prop, (∃ n, hk_lp (wb_d_tree_27 p2 pd) n (nI q, 1, 0, 0)) → W pd) {Q : Prop} (hR0 : Q) : wp_x_joinOfTree (nI q) p2 (fun r => W (fun r2 => r = r2 ∧ Q)) := by
  unfold wp_x_joinOfTree
  refine hk_upE (fun (lv : Nat) (v : Int32 × Int32) => v.2 = nI (sq lv) ∧ ∀ pd : Int32 → Prop, hk_lp (wb_d_tree_27 p2 pd) (3 - lv + 1) (nI (lq q lv), nI (sq lv), v.1, nI lv) → hk_lp (wb_d_tree_27 p2 pd) 4 (nI q, 1, 0, 0)) 3 0 _ (by omega) ⟨rfl, fun pd h => h⟩ ?_ ?_
  · rintro lv ⟨b, st⟩ K hlv ⟨e, hM⟩ hk
    have e : st = nI (sq lv) := e
    subst e
    obtain ⟨hsl, hs2⟩ := lv_F (q := q) lv hlv
    obtain ⟨s, hs⟩ : ∃ s, sq lv = s := ⟨_, rfl⟩
    obtain ⟨l, hl⟩ : ∃ l, lq q lv = l := ⟨_, rfl⟩
    rw [hs, hl] at hsl
    rw [hs] at hs2
    have hM : ∀ pd : Int32 → Prop, hk_lp (wb_d_tree_27 p2 pd) (3 - lv + 1) (nI l, nI s, b, nI lv) → hk_lp (wb_d_tree_27 p2 pd) 4 (nI q, 1, 0, 0) := fun pd h => hM pd (by rw [hs, hl]; exact h)
    rw [hs]
    unfold wb_x_joinOfTree_4
    dsimp only
    refine pk_le q s (fun c => ?_) (fun c => ?_)
    · refine md _ ⟨4, hM _ ?_⟩
      change wb_d_tree_27 p2 (fun r2 => (-1) = r2 ∧ Q) (hk_lp (wb_d_tree_27 p2 (fun r2 => (-1) = r2 ∧ Q)) (3 - lv)) (nI l, nI s, b, nI lv)
      unfold wb_d_tree_27
      dsimp only
      exact pk_le 3 lv (fun z => absurd z (by omega)) (fun _ => pk_le l 1 (fun _ => ⟨rfl, hR0⟩) (fun z => absurd z (by omega)))
    · have hM2 : ∀ (pd : Int32 → Prop) (m : Nat), hk_lp (wb_d_tree_41 p2 pd (nI l, nI s, b, nI lv) (hk_lp (wb_d_tree_27 p2 pd) (3 - lv))) m (b, 0) → hk_lp (wb_d_tree_27 p2 pd) 4 (nI q, 1, 0, 0) := fun pd m h => hM pd (by
        change wb_d_tree_27 p2 pd (hk_lp (wb_d_tree_27 p2 pd) (3 - lv)) (nI l, nI s, b, nI lv)
        unfold wb_d_tree_27
        dsimp only
        exact pk_le 3 lv (fun z => absurd z (by omega)) (fun _ => pk_le l 1 (fun z => absurd z (by omega)) (fun _ => ⟨m, h⟩)))
      refine hk_upE (fun (i : Nat) (w : Int32 × Int32) => w.2 = nI (2 * i * s) ∧ ∀ pd : Int32 → Prop, hk_lp (wb_d_tree_41 p2 pd (nI l, nI s, b, nI lv) (hk_lp (wb_d_tree_27 p2 pd) (3 - lv))) (l / 2 - i + 1) (w.1, nI (2 * i)) → hk_lp (wb_d_tree_27 p2 pd) 4 (nI q, 1, 0, 0)) (l / 2) 0 _ (by omega) ⟨by show (0 : Int32) = nI (2 * 0 * s); rw [Nat.mul_zero, Nat.zero_mul]; rfl, fun pd h => hM2 pd _ h⟩ ?_ ?_
      · rintro i ⟨n, a⟩ Kk hi ⟨e, hI⟩ hkk
        have e : a = nI (2 * i * s) := e
        subst e
        have hb : 2 * i * s + s < q := by rcases hsl with ⟨rfl, rfl⟩ | ⟨rfl, rfl⟩ | ⟨rfl, rfl⟩ <;> omega
        have mstep : ∀ pd : Int32 → Prop, (¬ n = p2 → hk_lp (wb_d_tree_41 p2 pd (nI l, nI s, b, nI lv) (hk_lp (wb_d_tree_27 p2 pd) (3 - lv))) (l / 2 - (i + 1) + 1) (n + 1, nI (2 * (i + 1)))) → (n = p2 → pd (8 * (nI (2 * i) * nI s) + nI (2 * i + 1) * nI s)) → hk_lp (wb_d_tree_27 p2 pd) 4 (nI q, 1, 0, 0) := fun pd h1 h2 => hI pd (by
          rw [show l / 2 - i + 1 = (l / 2 - (i + 1) + 1) + 1 by omega]
          change wb_d_tree_41 p2 pd (nI l, nI s, b, nI lv) (hk_lp (wb_d_tree_27 p2 pd) (3 - lv)) (hk_lp (wb_d_tree_41 p2 pd (nI l, nI s, b, nI lv) (hk_lp (wb_d_tree_27 p2 pd) (3 - lv))) (l / 2 - (i + 1) + 1)) (n, nI (2 * i))
          unfold wb_d_tree_41
          dsimp only
          rw [nI_1]
          refine pk_le l (2 * i + 1) (fun z => absurd z (by omega)) (fun _ => ⟨fun c x13 e13 x14 e14 => ?_, fun c => h2 c⟩)
          rw [e13, e14, show (2 : Int32) = nI 2 from rfl, nI_add]
          exact h1 c)
        unfold wb_x_joinOfTree_12
        dsimp only
        rw [nI_add (2 * i * s) s]
        refine pk_le q (2 * i * s + s) (fun z => absurd z (by omega)) (fun _ => ⟨fun c x7 e7 x8 e8 => hkk _ ⟨?_, fun pd h => mstep pd (fun _ => ?_) (fun c2 => absurd c2 c)⟩, fun c => md _ ⟨4, mstep _ (fun c2 => absurd c c2) (fun _ => ⟨?_, hR0⟩)⟩⟩)
        · show x8 = nI (2 * (i + 1) * s)
          rw [e8, show (2 : Int32) = nI 2 from rfl, pk_mul, nI_add]
          congr 1
          rw [show 2 * (i + 1) = 2 * i + 2 by omega, Nat.add_mul]
        · rw [e7] at h
          exact h
        · rw [show (8 : Int32) = nI 8 from rfl, pk_mul, nI_add, nI_add, pk_mul, pk_mul, pk_mul, nI_add]
          congr 1
          rw [Nat.add_mul]
          omega
      · rintro ⟨n, a⟩ Kk ⟨e, hI⟩
        have e : a = nI (2 * (l / 2) * s) := e
        subst e
        have hb : q ≤ 2 * (l / 2) * s + s ∧ 2 * (l / 2) * s + s < 100 := by rcases hsl with ⟨rfl, rfl⟩ | ⟨rfl, rfl⟩ | ⟨rfl, rfl⟩ <;> omega
        unfold wb_x_joinOfTree_12
        dsimp only
        rw [nI_add (2 * (l / 2) * s) s]
        refine pk_le q (2 * (l / 2) * s + s) (fun _ x5 e5 => hk _ ⟨?_, fun pd h => hI pd ?_⟩) (fun z => absurd z (by omega))
        · show x5 = nI (sq (lv + 1))
          rw [e5, nI_add, hs2]
        · rw [Nat.sub_self]
          change wb_d_tree_41 p2 pd (nI l, nI s, b, nI lv) (hk_lp (wb_d_tree_27 p2 pd) (3 - lv)) (hk_lp (wb_d_tree_41 p2 pd (nI l, nI s, b, nI lv) (hk_lp (wb_d_tree_27 p2 pd) (3 - lv))) 0) (n, nI (2 * (l / 2)))
          unfold wb_d_tree_41
          dsimp only
          rw [nI_1]
          refine pk_le l (2 * (l / 2) + 1) (fun _ x9 e9 x10 e10 x11 e11 => ?_) (fun z => absurd z (by omega))
          rw [nI_1, show (2 : Int32) = nI 2 from rfl, pk_div (by omega) (by omega) (by omega)] at e9
          rw [show (2 : Int32) = nI 2 from rfl, pk_mul, Nat.two_mul] at e10
          rw [nI_1] at e11
          have h : hk_lp (wb_d_tree_27 p2 pd) (3 - (lv + 1) + 1) (nI ((lq q lv + 1) / 2), nI (sq (lv + 1)), n, nI (lv + 1)) := h
          rw [hs2, hl, show 3 - (lv + 1) + 1 = 3 - lv by omega] at h
          rw [e9, e10, e11]
          exact h
  · rintro ⟨b, st⟩ K ⟨e, hM⟩
    have e : st = nI 8 := e
    subst e
    unfold wb_x_joinOfTree_4
    dsimp only
    refine pk_le q 8 (fun _ => md _ ⟨4, hM _ ?_⟩) (fun z => absurd z (by omega))
    change wb_d_tree_27 p2 (fun r2 => (-1) = r2 ∧ Q) (hk_lp (wb_d_tree_27 p2 (fun r2 => (-1) = r2 ∧ Q)) 0) (nI (lq q 3), nI (sq 3), b, nI 3)
    unfold wb_d_tree_27
    dsimp only
    exact pk_le 3 3 (fun _ => ⟨rfl, hR0⟩) (fun z => absurd z (by omega))
theorem tree_neg {q : Nat} (q1 : 1 ≤ q) (q8 : q ≤ 8) {p2 : Int32} (hp : ¬ 0 ≤ p2) {pd : Int32 → Prop} (h : pd (-1)) : ∃ n, hk_lp (wb_d_tree_27 p2 pd) n (nI q, 1, 0, 0) := by
  refine hk_upE (fun lv v => ∃ b, b ≤ 8 * lv ∧ v = (nI (lq q lv), nI (sq lv), nI b, nI lv)) 3 0 _ (by omega) ⟨0, by omega, rfl⟩ ?_ ?_
  · rintro lv _ K hlv ⟨b, hb, rfl⟩ hk
    obtain ⟨hsl, hs2⟩ := lv_F (q := q) lv hlv
    have hl8 : lq q lv ≤ 8 := by omega
    unfold wb_d_tree_27
    dsimp only
    refine pk_le 3 lv (fun z => absurd z (by omega)) (fun _ => pk_le (lq q lv) 1 (fun _ => h) (fun c => ?_))
    refine hk_upE (fun i w => w = (nI (b + i), nI (2 * i))) (lq q lv / 2) 0 _ (by omega) rfl ?_ ?_
    · rintro i _ Kk hi rfl hkk
      unfold wb_d_tree_41
      dsimp only
      rw [nI_1]
      refine pk_le (lq q lv) (2 * i + 1) (fun z => absurd z (by omega)) (fun _ => ⟨fun c x13 e13 x14 e14 => hkk _ ?_, fun c2 => absurd (c2 ▸ nI_ge0 (by omega)) hp⟩)
      rw [e13, e14, nI_1, show (2 : Int32) = nI 2 from rfl, nI_add]
      rfl
    · rintro _ Kk rfl
      unfold wb_d_tree_41
      dsimp only
      rw [nI_1]
      refine pk_le (lq q lv) (2 * (lq q lv / 2) + 1) (fun _ x9 e9 x10 e10 x11 e11 => hk _ ⟨b + lq q lv / 2, by omega, ?_⟩) (fun z => absurd z (by omega))
      rw [nI_1, show (2 : Int32) = nI 2 from rfl, pk_div (by omega) (by omega) (by omega)] at e9
      rw [show (2 : Int32) = nI 2 from rfl, pk_mul, Nat.two_mul] at e10
      rw [nI_1] at e11
      rw [e9, e10, e11, hs2]
      rfl
  · rintro _ K ⟨b, hb, rfl⟩
    unfold wb_d_tree_27
    dsimp only
    exact pk_le 3 3 (fun _ => h) (fun z => absurd z (by omega))
theorem op_tree {F P N : Nat} {kc kd pc L dp Ld tc : Nat → Int32} {S D : Nat → Int64} {a1 a2 : Int32} (rk : ksR F P N kc kd pc S L dp D Ld tc) {Q : Prop} (hR0 : Q) : wp_x_tree a1 a2 pc (fun r => wp_d_tree a1 a2 dp (fun r2 => r = r2 ∧ Q)) := by
  rcases key32 a1 with ⟨K, hK, rfl⟩ | hn
  · obtain ⟨q, q1, qP, q8, b3, b4⟩ := ks_q rk hK
    have md : ∀ pd : Int32 → Prop, (∃ n, hk_lp (wb_d_tree_27 a2 pd) n (nI q, 1, 0, 0)) → wp_d_tree (nI K) a2 dp pd := fun pd h => by
      unfold wp_d_tree
      refine sp_noKey_Y hK ⟨fun _ => ⟨pk_in K 100 hK, fun x3 e3 => ?_⟩, fun z => absurd rfl z⟩
      rw [ncl K, b4] at e3
      rw [e3]
      exact h
    refine sp_isKey_Y hK ⟨fun _ => ⟨fun c => sp_ks_partCount hK ?_, fun c => md _ (tree_neg q1 q8 c ⟨rfl, hR0⟩)⟩, fun z => absurd z (by decide)⟩
    rw [b3]
    exact tree_in q1 q8 md hR0
  · refine sp_isKey_N hn ⟨fun z => absurd rfl z, fun _ => ?_⟩
    unfold wp_d_tree
    exact sp_noKey_N hn ⟨fun z => absurd z (by decide), fun _ => ⟨rfl, hR0⟩⟩
theorem ob_tree : Ob_tree Rab := by
  intro t a1 a2 xs ds ms ht hR
  have hR0 := ob_step _ _ _ _ hR
  obtain ⟨P, Rd, T, M, F, N, G, U, J, hP, hR, hT, hSl, hM, hJ, hN, hG, hF, hU, hE, rl, rc, rs, rt, rg, rk, rf, rv, rm⟩ := hR
  exact op_tree rk hR0
theorem op_split {F P N : Nat} {kc kd pc L dp Ld tc hv dc dd : Nat → Int32} {S D : Nat → Int64} {places d_p count folds a1 a2 : Int32} (hP : places = nI P ∧ d_p = nI P) (hF : count = nI F ∧ folds = nI F) (rf : foR F kc dc kd dd) (rk : ksR F P N kc kd pc S L dp D Ld tc) {Q : (Nat → Int32) × (Nat → Int64) × (Nat → Int32) → (Nat → Int64) × (Nat → Int32) × (Nat → Int32) × (Nat → Int32) × (Nat → Int32) → Prop} (hQ : ∀ (pc2 : Nat → Int32) (S2 : Nat → Int64) (L2 : Nat → Int32) (D2 : Nat → Int64) (Ld2 hv2 tc2 dp2 : Nat → Int32), ksR F P N kc kd pc2 S2 L2 dp2 D2 Ld2 tc2 → (∀ k, k < 100 → hv2 (dl k 0) = hv (dl k 0)) → Q (pc2, S2, L2) (D2, Ld2, hv2, tc2, dp2)) : wp_x_split a1 a2 places pc S L kc dc count (fun r w => wp_d_split a1 a2 d_p folds kd dd D Ld hv tc dp (fun r2 w2 => r = r2 ∧ Q w w2)) := by
  obtain ⟨rfl, rfl⟩ := hP
  obtain ⟨rfl, rfl⟩ := hF
  have hno := hQ pc S L D Ld hv tc dp rk (fun _ _ => rfl)
  have hP8 := rk.2.2.1
  rcases key32 a1 with ⟨K, hK, rfl⟩ | hn
  · obtain ⟨q, q1, qP, q8, b3, b4⟩ := ks_q rk hK
    refine sp_isKey_Y hK ⟨fun _ => ?_, fun z => absurd z (by decide)⟩
    rcases rg32 a2 2 P (by omega) (by omega) with ⟨p, h2, hpP, rfl⟩ | hn2
    · refine sp_isW_Y (nI_le (a := 2) h2 (by omega)) (nI_le hpP (by omega)) ⟨fun _ => ?_, fun z => absurd z (by decide)⟩
      refine sp_ks_isSplit hK q8 b3 (fun c => ⟨fun z => absurd rfl z, fun _ => ?_⟩) (fun c => ⟨fun _ => ?_, fun z => absurd z (by decide)⟩)
      · have e1 : q = 1 := by omega
        subst e1
        refine fo_can rf (fun hj hm => ⟨fun _ => ?_, fun z => absurd z (by decide)⟩) (fun hm => ⟨fun z => absurd rfl z, fun _ => ?_⟩)
        · refine ks_break ⟨dp, D, Ld, tc, rk⟩ hK h2 hpP hj b3 (fun S2 L2 _ hmod => ?_)
          refine sp_noKey_Y hK ⟨fun _ => sp_in_Y (a := 2) (b := nI P) (nI_le (a := 2) h2 (by omega)) (nI_le hpP (by omega)) ⟨fun _ => ⟨pk_in K 100 hK, ?_⟩, fun z => absurd z (by decide)⟩ rfl rfl, fun z => absurd rfl z⟩
          rw [ncl K, b4]
          refine pk_lt 1 1 (fun z => absurd z (by omega)) (fun _ => hm _ ⟨fun _ => ?_, fun z => absurd z (by decide)⟩)
          refine hmod dp D Ld tc hv rk _ (fun D2 Ld2 hv2 tc2 r2 hh => ⟨rfl, hQ _ _ _ _ _ _ _ _ r2 hh⟩)
        · refine sp_noKey_Y hK ⟨fun _ => sp_in_Y (a := 2) (b := nI P) (nI_le (a := 2) h2 (by omega)) (nI_le hpP (by omega)) ⟨fun _ => ⟨pk_in K 100 hK, ?_⟩, fun z => absurd z (by decide)⟩ rfl rfl, fun z => absurd rfl z⟩
          rw [ncl K, b4]
          exact pk_lt 1 1 (fun z => absurd z (by omega)) (fun _ => hm _ ⟨fun z => absurd rfl z, fun _ => ⟨rfl, hno⟩⟩)
      · refine sp_noKey_Y hK ⟨fun _ => sp_in_Y (a := 2) (b := nI P) (nI_le (a := 2) h2 (by omega)) (nI_le hpP (by omega)) ⟨fun _ => ⟨pk_in K 100 hK, ?_⟩, fun z => absurd z (by decide)⟩ rfl rfl, fun z => absurd rfl z⟩
        rw [ncl K, b4]
        exact pk_lt 1 q (fun _ => ⟨rfl, hno⟩) (fun z => absurd z (by omega))
    · refine sp_isW_N hn2 ⟨fun z => absurd rfl z, fun _ => ?_⟩
      exact sp_noKey_Y hK ⟨fun _ => sp_in_N (a := 2) (b := nI P) hn2 ⟨fun z => absurd rfl z, fun _ => ⟨rfl, hno⟩⟩ rfl rfl, fun z => absurd rfl z⟩
  · refine sp_isKey_N hn ⟨fun z => absurd rfl z, fun _ => ?_⟩
    exact sp_noKey_N hn ⟨fun z => absurd z (by decide), fun _ => ⟨rfl, hno⟩⟩
theorem vR_hv {F N J : Nat} {kc : Nat → Int32} {V : Nat → Int64} {hv lv hv2 : Nat → Int32} (r : vR F N J kc V hv lv) (h : ∀ k, k < 100 → hv2 (dl k 0) = hv (dl k 0)) : vR F N J kc V hv2 lv := ⟨r.1, fun c k hk => by rw [h k hk]; exact r.2 c k hk⟩
theorem ob_split : Ob_split Rab := by
  intro t a1 a2 xs ds ms ht hR
  have hR0 := ob_step _ _ _ _ hR
  obtain ⟨P, Rd, T, M, F, N, G, U, J, hP, hR, hT, hSl, hM, hJ, hN, hG, hF, hU, hE, rl, rc, rs, rt, rg, rk, rf, rv, rm⟩ := hR
  exact op_split hP hF rf rk (fun pc2 S2 L2 D2 Ld2 hv2 tc2 dp2 rk2 hh => Rab_mk hP hR hT hSl hM hJ hN hG hF hU hE rl rc rs rt (lgR_step rg) rk2 rf (vR_hv rv hh) rm)
theorem op_back {F P N : Nat} {kc kd pc L dp Ld tc : Nat → Int32} {S D cm : Nat → Int64} {count folds a1 moved dmoved : Int32} (hF : count = nI F ∧ folds = nI F) (hm : moved = dmoved) (rk : ksR F P N kc kd pc S L dp D Ld tc) {Q : (Nat → Int32) × (Nat → Int64) × (Nat → Int32) × Int32 → (Nat → Int64) × (Nat → Int32) × (Nat → Int32) × Int32 × (Nat → Int64) → Prop} (hQ : ∀ (pc2 : Nat → Int32) (S2 : Nat → Int64) (L2 : Nat → Int32) (D2 : Nat → Int64) (Ld2 dp2 : Nat → Int32) (m2 : Int32) (cm2 : Nat → Int64), ksR F P N kc kd pc2 S2 L2 dp2 D2 Ld2 tc → Q (pc2, S2, L2, m2) (D2, Ld2, dp2, m2, cm2)) : wp_x_back a1 pc S L moved kc count (fun r w => wp_d_back a1 folds kd D Ld tc dp dmoved cm (fun r2 w2 => r = r2 ∧ Q w w2)) := by
  obtain ⟨rfl, rfl⟩ := hF
  subst hm
  have hno := hQ pc S L D Ld dp moved cm rk
  rcases key32 a1 with ⟨K, hK, rfl⟩ | hn
  · obtain ⟨q, q1, qP, q8, b3, b4⟩ := ks_q rk hK
    refine sp_isKey_Y hK ⟨fun _ => ?_, fun z => absurd z (by decide)⟩
    refine sp_ks_isSplit hK q8 b3 (fun c => ⟨fun z => absurd rfl z, fun _ => ?_⟩) (fun c => ⟨fun _ => ?_, fun z => absurd z (by decide)⟩)
    · have e1 : q = 1 := by omega
      subst e1
      unfold wp_d_back
      refine sp_noKey_Y hK ⟨fun _ => ⟨pk_in K 100 hK, ?_⟩, fun z => absurd rfl z⟩
      rw [ncl K, b4]
      exact ⟨fun z => absurd rfl z, fun _ => ⟨rfl, hno⟩⟩
    · refine ks_back ⟨dp, D, Ld, tc, rk⟩ hK b3 q8 (fun n S2 L2 _ hmod => ?_)
      unfold wp_d_back
      refine sp_noKey_Y hK ⟨fun _ => ⟨pk_in K 100 hK, ?_⟩, fun z => absurd rfl z⟩
      rw [ncl K, b4]
      refine ⟨fun _ => hmod dp D Ld tc cm moved rk _ (fun D2 Ld2 cm2 r2 => ⟨rfl, hQ _ _ _ _ _ _ _ _ r2⟩), fun z => absurd ((nI_eq (b := 1) (by omega) (by omega)).mp z) (by omega)⟩
  · refine sp_isKey_N hn ⟨fun z => absurd rfl z, fun _ => ?_⟩
    unfold wp_d_back
    exact sp_noKey_N hn ⟨fun z => absurd z (by decide), fun _ => ⟨rfl, hno⟩⟩
theorem ob_back : Ob_back Rab := by
  intro t a1 xs ds ms ht hR
  have hR0 := ob_step _ _ _ _ hR
  obtain ⟨P, Rd, T, M, F, N, G, U, J, hP, hR, hT, hSl, hM, hJ, hN, hG, hF, hU, hE, rl, rc, rs, rt, rg, rk, rf, rv, rm⟩ := hR
  exact op_back hF hE.2.2.2 rk (fun pc2 S2 L2 D2 Ld2 dp2 m2 cm2 rk2 => Rab_mk hP hR hT hSl hM hJ hN hG hF hU ⟨hE.1, hE.2.1, hE.2.2.1, rfl⟩ rl rc rs rt (lgR_step rg) rk2 rf rv rm)
theorem op_small {keys weights dk dw : Nat → Int32} {count mat dc dm a1 a2 : Int32} {out dout : Int64} (rs : smR keys weights count mat out dc dk dw dm dout) {Q : (Nat → Int32) × (Nat → Int32) × Int32 → Int32 × (Nat → Int32) × (Nat → Int32) → Prop} (hQ : ∀ (k2 w2 : Nat → Int32) (c2 dc2 : Int32) (dk2 dw2 : Nat → Int32), smR k2 w2 c2 mat out dc2 dk2 dw2 dm dout → Q (k2, w2, c2) (dc2, dk2, dw2)) : wp_x_small a1 a2 keys weights count (fun r w => wp_d_small a1 a2 dc dk dw (fun r2 w2 => r = r2 ∧ Q w w2)) := by
  have hno := hQ _ _ _ _ _ _ rs
  obtain ⟨hm, ho, C, hC, rfl, rfl, hs⟩ := rs
  rcases key32 a1 with ⟨K, hK, rfl⟩ | hn
  · refine sp_isKey_Y hK ⟨fun _ => ?_, fun z => absurd z (by decide)⟩
    by_cases hw : (-1000 : Int32) ≤ a2 ∧ a2 ≤ 1000
    · refine sp_isW_Y hw.1 hw.2 ⟨fun _ => pk_lt C 60 (fun c => ?_) (fun c => ?_), fun z => absurd z (by decide)⟩
      · refine ⟨pk_in C 60 c, pk_in C 60 c, fun x1 e1 => ?_⟩
        rw [nI_1] at e1
        subst e1
        refine sp_noKey_Y hK ⟨fun _ => sp_in_Y (a := -1000) (b := 1000) hw.1 hw.2 ⟨fun _ => ⟨fun _ => ⟨pk_in C 60 c, pk_in C 60 c, fun x6 e6 => ?_⟩, fun z => absurd ((nI_eq (b := 60) (by omega) (by omega)).mp z) (by omega)⟩, fun z => absurd z (by decide)⟩ (by decide) (by decide), fun z => absurd rfl z⟩
        rw [nI_1] at e6
        subst e6
        dsimp only
        refine ⟨rfl, hQ _ _ _ _ _ _ ⟨hm, ho, C + 1, by omega, rfl, rfl, fun i hi => ?_⟩⟩
        rw [ncl C]
        by_cases ci : i = C
        · subst ci
          rw [pk_us, pk_us, pk_us, pk_us]
          exact ⟨rfl, rfl, K, hK, rfl⟩
        · rw [pk_un ci, pk_un ci, pk_un ci, pk_un ci]
          exact hs i (by omega)
      · refine sp_noKey_Y hK ⟨fun _ => sp_in_Y (a := -1000) (b := 1000) hw.1 hw.2 ⟨fun _ => ⟨fun z => absurd (by rw [show C = 60 by omega]; rfl) z, fun _ => ⟨rfl, hno⟩⟩, fun z => absurd z (by decide)⟩ (by decide) (by decide), fun z => absurd rfl z⟩
    · refine sp_isW_N hw ⟨fun z => absurd rfl z, fun _ => ?_⟩
      exact sp_noKey_Y hK ⟨fun _ => sp_in_N (a := -1000) (b := 1000) hw ⟨fun z => absurd rfl z, fun _ => ⟨rfl, hno⟩⟩ (by decide) (by decide), fun z => absurd rfl z⟩
  · refine sp_isKey_N hn ⟨fun z => absurd rfl z, fun _ => ?_⟩
    exact sp_noKey_N hn ⟨fun z => absurd z (by decide), fun _ => ⟨rfl, hno⟩⟩
theorem ob_small : Ob_small Rab := by
  intro t a1 a2 xs ds ms ht hR
  have hR0 := ob_step _ _ _ _ hR
  obtain ⟨P, Rd, T, M, F, N, G, U, J, hP, hR, hT, hSl, hM, hJ, hN, hG, hF, hU, hE, rl, rc, rs, rt, rg, rk, rf, rv, rm⟩ := hR
  exact op_small rs (fun k2 w2 c2 dc2 dk2 dw2 rs2 => Rab_mk hP hR hT hSl hM hJ hN hG hF hU hE rl rc rs2 rt (lgR_step rg) rk rf rv rm)
theorem tIns_len {x : Int32 × Int32} : ∀ s : List (Int32 × Int32), (tIns x s).length = s.length + 1
  | [] => rfl
  | y :: s => by
    unfold tIns
    split
    · rfl
    · rw [List.length_cons, List.length_cons, tIns_len s]
theorem tSort_app {l : List (Int32 × Int32)} {x : Int32 × Int32} : tSort (l ++ [x]) = tIns x (tSort l) := by
  unfold tSort
  rw [List.foldl_append]
  rfl
theorem tFold_len : ∀ (l s : List (Int32 × Int32)), (l.foldl (fun s x => tIns x s) s).length = s.length + l.length
  | [], s => rfl
  | y :: l, s => by
    rw [List.foldl_cons, tFold_len l, tIns_len, List.length_cons]
    omega
theorem tSort_len (l : List (Int32 × Int32)) : (tSort l).length = l.length := by
  unfold tSort
  rw [tFold_len]
  exact Nat.zero_add _
theorem rep_ins {x : Int32 × Int32} : ∀ (s : List (Int32 × Int32)) (k t : Nat → Int32) (r : Nat), rep k t s → r ≤ s.length → (∀ i, i < r → ¬ x.2 < t i) → (r < s.length → x.2 < t r) → ∀ i, i ≤ s.length → (tIns x s)[i]? = some (if i < r then (k i, t i) else if i = r then x else (k (i - 1), t (i - 1)))
  | [], k, t, r, _, hr, _, _, i, hi => by
    have h1 : r = 0 := by simpa using hr
    have h2 : i = 0 := by simpa using hi
    subst h1
    subst h2
    rw [if_neg (by omega), if_pos rfl]
    rfl
  | y :: s, k, t, r, hrep, hr, hlo, hhi, i, hi => by
    have hy : y = (k 0, t 0) := by
      have := hrep 0 (by simp)
      simpa using this
    have hrep' : rep (fun j => k (j + 1)) (fun j => t (j + 1)) s := fun j hj => by
      have := hrep (j + 1) (by rw [List.length_cons]; omega)
      rw [List.getElem?_cons_succ] at this
      exact this
    rw [List.length_cons] at hr hi hhi
    match r, hr, hlo, hhi with
    | 0, hr, hlo, hhi =>
      have hlt : x.2 < y.2 := by rw [hy]; exact hhi (by omega)
      unfold tIns
      rw [if_pos hlt]
      match i, hi with
      | 0, _ => rw [if_neg (by omega), if_pos rfl]; rfl
      | j + 1, hi =>
        rw [if_neg (by omega), if_neg (by omega), List.getElem?_cons_succ, Nat.add_sub_cancel]
        exact hrep j (by rw [List.length_cons]; omega)
    | r + 1, hr, hlo, hhi =>
      have hge : ¬ x.2 < y.2 := by rw [hy]; exact hlo 0 (by omega)
      unfold tIns
      rw [if_neg hge]
      match i, hi with
      | 0, _ => rw [if_pos (by omega), hy]; rfl
      | j + 1, hi =>
        rw [List.getElem?_cons_succ, rep_ins s (fun j => k (j + 1)) (fun j => t (j + 1)) r hrep' (by omega) (fun i hi => hlo (i + 1) (by omega)) (fun h => hhi (by omega)) j (by omega)]
        by_cases c1 : j < r
        · rw [if_pos c1, if_pos (show j + 1 < r + 1 by omega)]
        · rw [if_neg c1, if_neg (show ¬ j + 1 < r + 1 by omega)]
          by_cases c2 : j = r
          · rw [if_pos c2, if_pos (show j + 1 = r + 1 by omega)]
          · rw [if_neg c2, if_neg (show ¬ j + 1 = r + 1 by omega)]
            show some (k (j - 1 + 1), t (j - 1 + 1)) = some (k (j + 1 - 1), t (j + 1 - 1))
            rw [show j - 1 + 1 = j by omega, Nat.add_sub_cancel]
theorem sp_ti_dueAt {n : Nat} (hn : n ≤ 40) {times : Nat → Int32} {p : Int32} {post : Int32 → Prop} (h : ∀ r, r ≤ n → (∀ i, i < r → ¬ p < times i) → (r < n → p < times r) → post (nI r)) : wp_ti_dueAt p times (nI n) post := by
  unfold wp_ti_dueAt
  refine hk_upE (fun j v => v = nI j ∧ ∀ i, i < j → ¬ p < times i) n 0 _ (Nat.zero_le _) ⟨rfl, fun i hi => absurd hi (Nat.not_lt_zero _)⟩ ?_ ?_
  · rintro j _ K hj ⟨rfl, hh⟩ hk
    unfold wb_ti_dueAt_2
    refine pk_le n j (fun z => absurd z (by omega)) (fun _ => ⟨pk_in j 40 (by omega), ?_⟩)
    rw [ncl j]
    refine ⟨fun c => h j (by omega) hh (fun _ => c), fun c x4 e4 => hk _ ⟨by rw [e4]; exact nI_1 j, fun i hi => ?_⟩⟩
    by_cases z : i = j
    · subst z; exact c
    · exact hh i (by omega)
  · rintro _ K ⟨rfl, hh⟩
    unfold wb_ti_dueAt_2
    exact pk_le n n (fun _ => h n (Nat.le_refl _) hh (fun z => absurd z (by omega))) (fun z => absurd z (by omega))
theorem op_timer {keys times dk dt : Nat → Int32} {count now dc dnow a1 a2 : Int32} (rt : tiR keys times count now dc dk dt dnow) {Q : (Nat → Int32) × (Nat → Int32) × Int32 → Int32 × (Nat → Int32) × (Nat → Int32) → Prop} (hQ : ∀ (k2 w2 : Nat → Int32) (c2 dc2 : Int32) (dk2 dw2 : Nat → Int32), tiR k2 w2 c2 now dc2 dk2 dw2 dnow → Q (k2, w2, c2) (dc2, dk2, dw2)) : wp_x_timer a1 a2 keys times count now (fun r w => wp_d_timer a1 a2 dnow dc dk dt (fun r2 w2 => r = r2 ∧ Q w w2)) := by
  have hno := hQ _ _ _ _ _ _ rt
  obtain ⟨rfl, l, hl, rfl, rfl, r1, r2, hk⟩ := rt
  rcases key32 a1 with ⟨K, hK, rfl⟩ | hn
  · refine sp_isKey_Y hK ⟨fun _ => ⟨fun c => ?_, fun c => ⟨fun c2 => pk_lt l.length 40 (fun c3 => ?_) (fun c3 => ?_), fun c2 => ?_⟩⟩, fun z => absurd z (by decide)⟩
    · exact sp_noKey_Y hK ⟨fun _ => ⟨fun _ => ⟨rfl, hno⟩, fun z => absurd c z⟩, fun z => absurd rfl z⟩
    · unfold wp_ti_add
      refine sp_ti_dueAt hl (fun r hr h1 h2 => ?_)
      have b1 : nI l.length - nI r = nI (l.length - r) := pk_sub hr
      rw [b1, nI_1, ncl r, ncl (r + 1), ncl (l.length - r)]
      refine ⟨nI_pos (by omega), nI_pos (by omega), nI_pos (by omega), by omega, by omega, nI_pos (by omega), nI_pos (by omega), nI_pos (by omega), by omega, by omega, pk_in r 40 (by omega), pk_in r 40 (by omega), fun x2 e2 => ?_⟩
      rw [nI_1] at e2
      subst e2
      refine sp_noKey_Y hK ⟨fun _ => ⟨fun z => absurd z c, fun _ => ⟨fun _ => ⟨fun _ => ⟨pk_in l.length 40 c3, pk_in l.length 40 c3, fun x6 e6 => ?_⟩, fun z => absurd ((nI_eq (b := 40) (by omega) (by omega)).mp z) (by omega)⟩, fun z => absurd c2 z⟩⟩, fun z => absurd rfl z⟩
      rw [nI_1] at e6
      subst e6
      rw [ncl l.length]
      have hlen : (l ++ [(nI K, a2)]).length = l.length + 1 := by rw [List.length_append]; rfl
      dsimp only
      refine ⟨rfl, hQ _ _ _ _ _ _ ⟨rfl, l ++ [(nI K, a2)], by omega, by rw [hlen], by rw [hlen], fun i hi => ?_, fun i hi => ?_, fun x hx => ?_⟩⟩
      · by_cases ci : i = l.length
        · subst ci
          rw [pk_us, pk_us, List.getElem?_append_right (Nat.le_refl _), Nat.sub_self]
          rfl
        · rw [pk_un ci, pk_un ci, List.getElem?_append_left (by omega)]
          exact r1 i (by omega)
      · rw [tSort_app] at hi ⊢
        rw [tIns_len, tSort_len] at hi
        rw [rep_ins (x := (nI K, a2)) (tSort l) keys times r r2 (by rw [tSort_len]; exact hr) h1 (by rw [tSort_len]; exact h2) i (by rw [tSort_len]; omega)]
        by_cases d1 : i < r
        · rw [if_pos d1, pk_un (by omega), pk_un (by omega), pk_cpy_out (Or.inl (by omega)), pk_cpy_out (Or.inl (by omega))]
        · rw [if_neg d1]
          by_cases d2 : i = r
          · subst d2
            rw [if_pos rfl, pk_us, pk_us]
          · rw [if_neg d2, pk_un d2, pk_un d2, pk_cpy_in (by omega) (by omega), pk_cpy_in (by omega) (by omega), show r + (i - (r + 1)) = i - 1 by omega]
      · rcases List.mem_append.mp hx with hx | hx
        · exact hk x hx
        · rw [List.mem_singleton.mp hx]
          exact ⟨K, hK, rfl⟩
    · exact sp_noKey_Y hK ⟨fun _ => ⟨fun z => absurd z c, fun _ => ⟨fun _ => ⟨fun z => absurd (by rw [show l.length = 40 by omega]; rfl) z, fun _ => ⟨rfl, hno⟩⟩, fun z => absurd c2 z⟩⟩, fun z => absurd rfl z⟩
    · exact sp_noKey_Y hK ⟨fun _ => ⟨fun z => absurd z c, fun _ => ⟨fun z => absurd z c2, fun _ => ⟨rfl, hno⟩⟩⟩, fun z => absurd rfl z⟩
  · refine sp_isKey_N hn ⟨fun z => absurd rfl z, fun _ => ?_⟩
    exact sp_noKey_N hn ⟨fun z => absurd z (by decide), fun _ => ⟨rfl, hno⟩⟩
theorem ob_timer : Ob_timer Rab := by
  intro t a1 a2 xs ds ms ht hR
  have hR0 := ob_step _ _ _ _ hR
  obtain ⟨P, Rd, T, M, F, N, G, U, J, hP, hR, hT, hSl, hM, hJ, hN, hG, hF, hU, hE, rl, rc, rs, rt, rg, rk, rf, rv, rm⟩ := hR
  exact op_timer rt (fun k2 w2 c2 dc2 dk2 dw2 rt2 => Rab_mk hP hR hT hSl hM hJ hN hG hF hU hE rl rc rs rt2 (lgR_step rg) rk rf rv rm)
