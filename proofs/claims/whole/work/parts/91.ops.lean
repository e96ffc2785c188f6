theorem ix32 (x : Int32) {n : Nat} (hn : n < 2 ^ 30) : (∃ j, j < n ∧ x = nI j) ∨ ¬ ((0 : Int32) ≤ x ∧ x ≤ nI n - 1) := by
  rcases pk_ix x (n := n) (by omega) with h | h | h
  · exact Or.inr (fun q => absurd h (Int32.not_lt.mpr q.1))
  · refine Or.inr (fun q => ?_)
    cases n with
    | zero =>
      have := Int32.le_trans q.1 q.2
      exact absurd this (by decide)
    | succ m =>
      have z := q.2
      rw [nI_pred] at z
      have := Int32.le_trans h z
      exact absurd ((nI_leI (by omega) (by omega)).mp this) (by omega)
  · exact Or.inl h
theorem ix_r {j n : Nat} (h : j < n) (hn : n < 2 ^ 30) : (0 : Int32) ≤ nI j ∧ nI j ≤ nI n - 1 := by
  refine ⟨nI_ge0 (by omega), ?_⟩
  obtain ⟨m, rfl⟩ : ∃ m, n = m + 1 := ⟨n - 1, by omega⟩
  rw [nI_pred]
  exact nI_le (by omega) (by omega)
theorem rg32 (x : Int32) (a b : Nat) (ha : a < 2 ^ 30) (hb : b < 2 ^ 30) : (∃ j, a ≤ j ∧ j ≤ b ∧ x = nI j) ∨ ¬ (nI a ≤ x ∧ x ≤ nI b) := by
  rcases pk_ix x (n := b + 1) (by omega) with h | h | ⟨j, hj, rfl⟩
  · refine Or.inr (fun q => ?_)
    have := Int32.le_trans (nI_ge0 (K := a) (by omega)) q.1
    exact absurd h (Int32.not_lt.mpr this)
  · refine Or.inr (fun q => ?_)
    exact absurd ((nI_leI (by omega) (by omega)).mp (Int32.le_trans h q.2)) (by omega)
  · by_cases c : a ≤ j
    · exact Or.inl ⟨j, c, by omega, rfl⟩
    · exact Or.inr (fun q => absurd ((nI_leI (by omega) (by omega)).mp q.1) (by omega))
theorem sp_isFold_Y {j F : Nat} (h : j < F) (hF : F ≤ 6) {post : Int32 → Prop} (hp : post 1) : wp_x_isFold (nI j) (nI F) post := by
  unfold wp_x_isFold
  exact sp_isW_Y (ix_r h (by omega)).1 (ix_r h (by omega)).2 ⟨Or.inr rfl, hp⟩
theorem sp_isFold_N {x : Int32} {F : Nat} (h : ¬ ((0 : Int32) ≤ x ∧ x ≤ nI F - 1)) {post : Int32 → Prop} (hp : post 0) : wp_x_isFold x (nI F) post := by
  unfold wp_x_isFold
  exact sp_isW_N h ⟨Or.inl rfl, hp⟩
theorem sp_isPlace_Y {j F : Nat} (h : j < F) (hF : F ≤ 8) {post : Int32 → Prop} (hp : post 1) : wp_x_isPlace (nI j) (nI F) post := by
  unfold wp_x_isPlace
  exact sp_isW_Y (ix_r h (by omega)).1 (ix_r h (by omega)).2 ⟨Or.inr rfl, hp⟩
theorem sp_isPlace_N {x : Int32} {F : Nat} (h : ¬ ((0 : Int32) ≤ x ∧ x ≤ nI F - 1)) {post : Int32 → Prop} (hp : post 0) : wp_x_isPlace x (nI F) post := by
  unfold wp_x_isPlace
  exact sp_isW_N h ⟨Or.inl rfl, hp⟩
theorem sp_hasPart_Y {K i q : Nat} {pc : Nat → Int32} (hK : K < 100) (hpc : pc K = nI q) (h : i < q) (hq : q ≤ 8) {post : Int32 → Prop} (hp : post 1) : wp_ks_hasPart (nI K) (nI i) pc post := by
  unfold wp_ks_hasPart
  refine ⟨pk_in K 100 hK, ?_⟩
  rw [ncl K, hpc]
  exact sp_isW_Y (ix_r h (by omega)).1 (ix_r h (by omega)).2 ⟨Or.inr rfl, hp⟩
theorem sp_hasPart_N {K q : Nat} {x : Int32} {pc : Nat → Int32} (hK : K < 100) (hpc : pc K = nI q) (h : ¬ ((0 : Int32) ≤ x ∧ x ≤ nI q - 1)) {post : Int32 → Prop} (hp : post 0) : wp_ks_hasPart (nI K) x pc post := by
  unfold wp_ks_hasPart
  refine ⟨pk_in K 100 hK, ?_⟩
  rw [ncl K, hpc]
  exact sp_isW_N h ⟨Or.inl rfl, hp⟩
theorem sp_ks_partCount {K : Nat} {pc : Nat → Int32} (hK : K < 100) {post : Int32 → Prop} (hp : post (pc K)) : wp_ks_partCount (nI K) pc post := by
  unfold wp_ks_partCount
  refine ⟨pk_in K 100 hK, ?_⟩
  rw [ncl K]; exact hp
/-- the place of a part -/
def plc (P K i : Nat) : Nat := (K % P + i) % P
theorem sp_x_rem {a b : Nat} (ha : a < 2 ^ 31) (hb : 1 ≤ b) (hb2 : b < 2 ^ 31) {post : Int32 → Prop} (h : post (nI (a % b))) : wp_x_remainder (nI a) (nI b) post := by
  unfold wp_x_remainder
  refine ⟨fun c => absurd c (nI_nle (by omega) hb2), fun _ => ⟨nI_ne0 (by omega) hb2, ?_⟩⟩
  rw [pk_rem ha (by omega) hb2]; exact h
theorem sp_x_placeOf {P K i : Nat} (hP : 2 ≤ P) (hP8 : P ≤ 8) (hK : K < 100) (hi : i < 8) {post : Int32 → Prop} (h : post (nI (plc P K i))) : wp_x_placeOfPart (nI K) (nI i) (nI P) post := by
  unfold wp_x_placeOfPart
  refine sp_x_rem (by omega) (by omega) (by omega) ?_
  have := Nat.mod_lt K (show 0 < P by omega)
  rw [nI_add]
  exact sp_x_rem (by omega) (by omega) (by omega) h
theorem sp_d_placeOf {P K i : Nat} (hP : 2 ≤ P) (hP8 : P ≤ 8) (hK : K < 100) (hi : i < 8) {post : Int32 → Prop} (h : post (nI (plc P K i))) : wp_d_placeOf (nI K) (nI i) (nI P) post := by
  unfold wp_d_placeOf wp_d_home
  refine ⟨nI_ne0 (by omega) (by omega), ?_⟩
  have := Nat.mod_lt K (show 0 < P by omega)
  rw [pk_rem (by omega) (by omega) (by omega)]
  dsimp only
  rw [nI_add]
  refine ⟨nI_ne0 (by omega) (by omega), ?_⟩
  rw [pk_rem (by omega) (by omega) (by omega)]
  exact h
/-- the parts' number, class and model -/
theorem ks_q {F P N K : Nat} {kc kd pc L dp Ld tc : Nat → Int32} {S D : Nat → Int64} (r : ksR F P N kc kd pc S L dp D Ld tc) (hK : K < 100) : ∃ q, 1 ≤ q ∧ q ≤ P ∧ q ≤ 8 ∧ pc K = nI q ∧ dp K = nI q := by
  obtain ⟨q, b1, b2, b3, b4, b5⟩ := r.2.2.2.2.2 K hK
  exact ⟨q, b1, b2, Nat.le_trans b2 r.2.2.1, b3, b4⟩
/-- the joined state, class and model -/
theorem ks_joined {F P N K f q : Nat} {kc kd pc L dp Ld tc : Nat → Int32} {S D : Nat → Int64} (r : ksR F P N kc kd pc S L dp D Ld tc) (hK : K < 100) (hf : f < F) (hpc : pc K = nI q) (hq : q ≤ 8) : (kJ cJn (kc f) (fun i => S (cs K i f)) (fun i => L (sl K i)) (q - 1)).1 = (kJ dJn (kd f) (fun i => D (dx K i f)) (fun i => Ld (dl K i)) (q - 1)).1 := by
  obtain ⟨hF, hP2, hP8, hN, hkd, hk⟩ := r
  obtain ⟨q0, b1, b2, b3, b4, a1, a2, a3, a4, a5, a6⟩ := hk K hK
  have eq0 : q0 = q := (nI_eq (by omega) (by omega)).mp (b3.symm.trans hpc)
  subst eq0
  rw [hkd f hf, hk_jj (show 1000 * N ≤ 1000000 by omega) (a3 f hf) a4 (by
    rcases a1 with z | z
    · exact Or.inl (by omega)
    · exact Or.inr (z f hf))]
  exact congrArg Prod.fst (kJ_congr (q0 - 1) (fun i hi => a2 f hf i (by omega)) (fun _ _ => rfl))
theorem op_state {F P N : Nat} {pc L dp Ld tc kc kd dc dd : Nat → Int32} {S D : Nat → Int64} {fo_count d_folds a1 a2 : Int32} (hF : fo_count = nI F ∧ d_folds = nI F) (rk : ksR F P N kc kd pc S L dp D Ld tc) (rf : foR F kc dc kd dd) {Q : Prop} (hR0 : Q) : wp_x_state a1 a2 pc S L kc fo_count (fun r => wp_d_state a1 a2 d_folds kd D Ld dp (fun r2 => r = r2 ∧ Q)) := by
  obtain ⟨rfl, rfl⟩ := hF
  rcases ix32 a1 (n := F) (by have := rf.1; omega) with ⟨f, hf, rfl⟩ | hn
  · refine sp_isFold_Y hf rf.1 ⟨fun c => absurd c (by decide), fun _ => ?_⟩
    rcases key32 a2 with ⟨K, hK, rfl⟩ | hn2
    · refine sp_isKey_Y hK ⟨fun _ => ?_, fun c => absurd c (by decide)⟩
      obtain ⟨q, q1, qP, q8, b3, b4⟩ := ks_q rk hK
      have hF6 := rf.1
      refine sp_ks_joinedState hK (by omega) q1 q8 b3 ?_
      unfold wp_d_state
      refine sp_in_Y (ix_r hf (by omega)).1 (ix_r hf (by omega)).2 ⟨fun c => absurd c (by decide), fun _ => ?_⟩ rfl rfl
      refine sp_noKey_Y hK ⟨fun _ => ?_, fun c => absurd rfl c⟩
      exact sp_d_come hK (by omega) q1 q8 b4 ⟨ks_joined rk hK hf b3 q8, hR0⟩
    · refine sp_isKey_N hn2 ⟨fun c => absurd rfl c, fun _ => ?_⟩
      unfold wp_d_state
      have hF6 := rf.1
      refine sp_in_Y (ix_r hf (by omega)).1 (ix_r hf (by omega)).2 ⟨fun c => absurd c (by decide), fun _ => ?_⟩ rfl rfl
      exact sp_noKey_N hn2 ⟨fun c => absurd c (by decide), fun _ => ⟨rfl, hR0⟩⟩
  · refine sp_isFold_N hn ⟨fun _ => ?_, fun c => absurd rfl c⟩
    unfold wp_d_state
    exact sp_in_N hn ⟨fun _ => ⟨rfl, hR0⟩, fun c => absurd rfl c⟩ rfl rfl
theorem op_part {F P N : Nat} {pc L dp Ld tc kc kd dc dd : Nat → Int32} {S D : Nat → Int64} {fo_count d_folds a1 a2 a3 : Int32} (hF : fo_count = nI F ∧ d_folds = nI F) (rk : ksR F P N kc kd pc S L dp D Ld tc) (rf : foR F kc dc kd dd) {Q : Prop} (hR0 : Q) : wp_x_part a1 a2 a3 pc S fo_count (fun r => wp_d_part a1 a2 a3 d_folds D dp (fun r2 => r = r2 ∧ Q)) := by
  obtain ⟨rfl, rfl⟩ := hF
  have hF6 := rf.1
  have no : ∀ pd : Int64 → Prop, pd NO → wj_d_part_59 D a1 a2 a3 pd 0 := fun pd hpd => ⟨fun _ => hpd, fun c => absurd rfl c⟩
  rcases ix32 a1 (n := F) (by omega) with ⟨f, hf, rfl⟩ | hn
  · refine sp_isFold_Y hf hF6 ⟨fun c => absurd c (by decide), fun _ => ?_⟩
    rcases key32 a2 with ⟨K, hK, rfl⟩ | hn2
    · refine sp_isKey_Y hK ⟨fun c => absurd c (by decide), fun _ => ?_⟩
      obtain ⟨q, q1, qP, q8, b3, b4⟩ := ks_q rk hK
      have go : ∀ pd : Int64 → Prop, wj_d_part_44 D dp (nI f) (nI K) a3 pd (nI K) → wp_d_part (nI f) (nI K) a3 (nI F) D dp pd := fun pd hpd => by
        unfold wp_d_part
        refine sp_in_Y (ix_r hf (by omega)).1 (ix_r hf (by omega)).2 ⟨fun c => absurd c (by decide), fun _ => ?_⟩ rfl rfl
        refine sp_noKey_Y hK ⟨fun c => absurd rfl c, fun _ => ?_⟩
        exact sp_noKey_Y hK ⟨fun _ => hpd, fun c => absurd rfl c⟩
      rcases ix32 a3 (n := q) (by omega) with ⟨i, hi, rfl⟩ | hn3
      · refine sp_hasPart_Y hK b3 hi q8 ⟨fun _ => ?_, fun c => absurd c (by decide)⟩
        have hlt := cs_lt hK (show i < 8 by omega) (show f < 6 by omega)
        unfold wp_ks_partState wp_ks_cell
        rw [cs_nI]
        dsimp only
        rw [ncl (cs K i f) (by omega)]
        refine ⟨pk_in (cs K i f) 4800 hlt, ?_⟩
        refine go _ ?_
        unfold wj_d_part_44
        refine ⟨pk_in K 100 hK, ?_⟩
        rw [ncl K, b4]
        refine sp_in_Y (ix_r hi (by omega)).1 (ix_r hi (by omega)).2 ⟨fun c => absurd c (by decide), fun _ => ?_⟩ rfl rfl
        refine ⟨fun c => absurd c (by decide), fun _ => sp_d_slot ?_⟩
        have hlt2 := dx_lt hK (show i < 8 by omega) (show f < 6 by omega)
        rw [dx_nI, ncl (dx K i f) (by omega)]
        refine ⟨pk_in (dx K i f) 4800 hlt2, ?_, hR0⟩
        obtain ⟨q0, c1, c2, c3, c4, a1, a2, -⟩ := rk.2.2.2.2.2 K hK
        have eq0 : q0 = q := (nI_eq (by have := rk.2.2.1; omega) (by omega)).mp (c3.symm.trans b3)
        subst eq0
        exact a2 f hf i hi
      · refine sp_hasPart_N hK b3 hn3 ⟨fun c => absurd rfl c, fun _ => ?_⟩
        refine go _ ?_
        unfold wj_d_part_44
        refine ⟨pk_in K 100 hK, ?_⟩
        rw [ncl K, b4]
        exact sp_in_N hn3 ⟨fun _ => no _ ⟨rfl, hR0⟩, fun c => absurd rfl c⟩ rfl rfl
    · refine sp_isKey_N hn2 ⟨fun _ => ?_, fun c => absurd rfl c⟩
      unfold wp_d_part
      refine sp_in_Y (ix_r hf (by omega)).1 (ix_r hf (by omega)).2 ⟨fun c => absurd c (by decide), fun _ => ?_⟩ rfl rfl
      exact sp_noKey_N hn2 ⟨fun _ => no _ ⟨rfl, hR0⟩, fun c => absurd c (by decide)⟩
  · refine sp_isFold_N hn ⟨fun _ => ?_, fun c => absurd rfl c⟩
    unfold wp_d_part
    exact sp_in_N hn ⟨fun _ => no _ ⟨rfl, hR0⟩, fun c => absurd rfl c⟩ rfl rfl
theorem op_parts {F P N : Nat} {pc L dp Ld tc kc kd : Nat → Int32} {S D : Nat → Int64} {a1 : Int32} (rk : ksR F P N kc kd pc S L dp D Ld tc) {Q : Prop} (hR0 : Q) : wp_x_parts a1 pc (fun r => wp_d_parts a1 dp (fun r2 => r = r2 ∧ Q)) := by
  rcases key32 a1 with ⟨K, hK, rfl⟩ | hn2
  · obtain ⟨q, q1, qP, q8, b3, b4⟩ := ks_q rk hK
    refine sp_isKey_Y hK ⟨fun c => absurd c (by decide), fun _ => sp_ks_partCount hK ?_⟩
    refine sp_noKey_Y hK ⟨fun _ => ⟨pk_in K 100 hK, ?_⟩, fun c => absurd rfl c⟩
    rw [ncl K, b3, b4]
    exact ⟨rfl, hR0⟩
  · refine sp_isKey_N hn2 ⟨fun _ => ?_, fun c => absurd rfl c⟩
    exact sp_noKey_N hn2 ⟨fun c => absurd c (by decide), fun _ => ⟨rfl, hR0⟩⟩
theorem op_place {F P N : Nat} {pc L dp Ld tc kc kd : Nat → Int32} {S D : Nat → Int64} {places d_p a1 a2 : Int32} (hP : places = nI P ∧ d_p = nI P) (rk : ksR F P N kc kd pc S L dp D Ld tc) {Q : Prop} (hR0 : Q) : wp_x_place a1 a2 places pc (fun r => wp_d_place a1 a2 d_p dp (fun r2 => r = r2 ∧ Q)) := by
  obtain ⟨rfl, rfl⟩ := hP
  rcases key32 a1 with ⟨K, hK, rfl⟩ | hn2
  · obtain ⟨q, q1, qP, q8, b3, b4⟩ := ks_q rk hK
    have hP2 := rk.2.1
    have hP8 := rk.2.2.1
    refine sp_isKey_Y hK ⟨fun _ => ?_, fun c => absurd c (by decide)⟩
    rcases ix32 a2 (n := q) (by omega) with ⟨i, hi, rfl⟩ | hn3
    · refine sp_hasPart_Y hK b3 hi q8 ⟨fun c => absurd c (by decide), fun _ => sp_x_placeOf hP2 hP8 hK (by omega) ?_⟩
      refine sp_noKey_Y hK ⟨fun _ => ⟨pk_in K 100 hK, ?_⟩, fun c => absurd rfl c⟩
      rw [ncl K, b4]
      refine sp_in_Y (ix_r hi (by omega)).1 (ix_r hi (by omega)).2 ⟨fun c => absurd c (by decide), fun _ => ?_⟩ rfl rfl
      exact sp_d_placeOf hP2 hP8 hK (by omega) ⟨rfl, hR0⟩
    · refine sp_hasPart_N hK b3 hn3 ⟨fun _ => ?_, fun c => absurd rfl c⟩
      refine sp_noKey_Y hK ⟨fun _ => ⟨pk_in K 100 hK, ?_⟩, fun c => absurd rfl c⟩
      rw [ncl K, b4]
      exact sp_in_N hn3 ⟨fun _ => ⟨rfl, hR0⟩, fun c => absurd rfl c⟩ rfl rfl
  · refine sp_isKey_N hn2 ⟨fun c => absurd rfl c, fun _ => ?_⟩
    exact sp_noKey_N hn2 ⟨fun c => absurd c (by decide), fun _ => ⟨rfl, hR0⟩⟩
theorem op_load {F P N : Nat} {pc L dp Ld tc kc kd loads dloads : Nat → Int32} {S D : Nat → Int64} {places d_p a1 : Int32} (hP : places = nI P ∧ d_p = nI P) (rk : ksR F P N kc kd pc S L dp D Ld tc) (rl : ldR loads dloads) {Q : Prop} (hR0 : Q) : wp_x_load a1 places loads (fun r => wp_d_load a1 d_p dloads (fun r2 => r = r2 ∧ Q)) := by
  obtain ⟨rfl, rfl⟩ := hP
  have hP8 := rk.2.2.1
  rcases ix32 a1 (n := P) (by omega) with ⟨i, hi, rfl⟩ | hn
  · refine sp_isPlace_Y hi hP8 ⟨fun c => absurd c (by decide), fun _ => ⟨pk_in i 8 (by omega), ?_⟩⟩
    refine sp_in_Y (ix_r hi (by omega)).1 (ix_r hi (by omega)).2 ⟨fun c => absurd c (by decide), fun _ => ⟨pk_in i 8 (by omega), ?_⟩⟩ rfl rfl
    rw [ncl i]
    exact ⟨rl i (by omega), hR0⟩
  · refine sp_isPlace_N hn ⟨fun _ => ?_, fun c => absurd rfl c⟩
    exact sp_in_N hn ⟨fun _ => ⟨rfl, hR0⟩, fun c => absurd rfl c⟩ rfl rfl
theorem ob_state : Ob_state Rab := by
  intro t a1 a2 xs ds ms ht hR
  have hR0 := ob_step _ _ _ _ hR
  obtain ⟨P, Rd, T, M, F, N, G, U, J, hP, hR, hT, hSl, hM, hJ, hN, hG, hF, hU, hE, rl, rc, rs, rt, rg, rk, rf, rv, rm⟩ := hR
  exact op_state hF rk rf hR0
theorem ob_part : Ob_part Rab := by
  intro t a1 a2 a3 xs ds ms ht hR
  have hR0 := ob_step _ _ _ _ hR
  obtain ⟨P, Rd, T, M, F, N, G, U, J, hP, hR, hT, hSl, hM, hJ, hN, hG, hF, hU, hE, rl, rc, rs, rt, rg, rk, rf, rv, rm⟩ := hR
  exact op_part hF rk rf hR0
theorem ob_parts : Ob_parts Rab := by
  intro t a1 xs ds ms ht hR
  have hR0 := ob_step _ _ _ _ hR
  obtain ⟨P, Rd, T, M, F, N, G, U, J, hP, hR, hT, hSl, hM, hJ, hN, hG, hF, hU, hE, rl, rc, rs, rt, rg, rk, rf, rv, rm⟩ := hR
  exact op_parts rk hR0
theorem ob_place : Ob_place Rab := by
  intro t a1 a2 xs ds ms ht hR
  have hR0 := ob_step _ _ _ _ hR
  obtain ⟨P, Rd, T, M, F, N, G, U, J, hP, hR, hT, hSl, hM, hJ, hN, hG, hF, hU, hE, rl, rc, rs, rt, rg, rk, rf, rv, rm⟩ := hR
  exact op_place hP rk hR0
theorem ob_load : Ob_load Rab := by
  intro t a1 xs ds ms ht hR
  have hR0 := ob_step _ _ _ _ hR
  obtain ⟨P, Rd, T, M, F, N, G, U, J, hP, hR, hT, hSl, hM, hJ, hN, hG, hF, hU, hE, rl, rc, rs, rt, rg, rk, rf, rv, rm⟩ := hR
  exact op_load hP rk rl hR0
theorem ob_out : Ob_out Rab := by
  intro t  xs ds ms ht hR
  have hR0 := ob_step _ _ _ _ hR
  obtain ⟨P, Rd, T, M, F, N, G, U, J, hP, hR, hT, hSl, hM, hJ, hN, hG, hF, hU, hE, rl, rc, rs, rt, rg, rk, rf, rv, rm⟩ := hR
  exact ⟨rs.2.1, hR0⟩
