theorem sp_fo_all {F : Nat} (hF : F ≤ 6) {kc dc : Nat → Int32} {post : Int32 → Prop} (h1 : (∀ f, f < F → ¬ dc f = 0 ∧ ¬ kc f = 6 ∧ ¬ kc f = 7) → post 1) (h0 : (¬ ∀ f, f < F → ¬ dc f = 0 ∧ ¬ kc f = 6 ∧ ¬ kc f = 7) → post 0) : wp_fo_allCanBeJoined kc dc (nI F) post := by
  unfold wp_fo_allCanBeJoined
  refine hk_upE (fun j v => v = nI j ∧ ∀ f, f < j → ¬ dc f = 0 ∧ ¬ kc f = 6 ∧ ¬ kc f = 7) F 0 _ (Nat.zero_le _) ⟨rfl, fun f hf => absurd hf (Nat.not_lt_zero _)⟩ ?_ ?_
  · intro j s Kk hj hs hk
    obtain ⟨rfl, h2⟩ := hs
    unfold wb_fo_allCanBeJoined_2
    refine pk_le F j (fun hh => absurd hh (by omega)) (fun _ => ?_)
    refine ⟨pk_in j 6 (by omega), ?_⟩
    rw [ncl j]
    refine ⟨fun c => h0 (fun q => (q j hj).1 c), fun c1 => ⟨pk_in j 6 (by omega), fun c => h0 (fun q => (q j hj).2.1 c), fun c2 => ⟨pk_in j 6 (by omega), fun c3 x6 e6 => hk _ ⟨by rw [e6]; exact nI_1 j, fun f hf => ?_⟩, fun c => h0 (fun q => (q j hj).2.2 c)⟩⟩⟩
    by_cases cf : f = j
    · subst cf; exact ⟨c1, c2, c3⟩
    · exact h2 f (by omega)
  · intro s Kk hs
    obtain ⟨rfl, h2⟩ := hs
    unfold wb_fo_allCanBeJoined_2
    exact pk_le F F (fun _ => h1 h2) (fun hh => absurd hh (by omega))
theorem sp_d_can {F : Nat} (hF : F ≤ 6) {kd dd : Nat → Int32} {post : Int32 → Prop} (h1 : (∀ f, f < F → ¬ dd f = 0 ∧ ¬ 6 ≤ kd f) → post 1) (h0 : (¬ ∀ f, f < F → ¬ dd f = 0 ∧ ¬ 6 ≤ kd f) → post 0) : wp_d_canSplit (nI F) kd dd post := by
  unfold wp_d_canSplit
  refine hk_upE (fun j v => v.2 = nI j ∧ ((v.1 = 1 ∧ ∀ f, f < j → ¬ dd f = 0 ∧ ¬ 6 ≤ kd f) ∨ (v.1 = 0 ∧ ¬ ∀ f, f < F → ¬ dd f = 0 ∧ ¬ 6 ≤ kd f))) F 0 _ (Nat.zero_le _) ⟨rfl, Or.inl ⟨rfl, fun f hf => absurd hf (Nat.not_lt_zero _)⟩⟩ ?_ ?_
  · intro j s Kk hj hs hk
    obtain ⟨a, v⟩ := s
    obtain ⟨e, w⟩ := hs
    have e : v = nI j := e
    subst e
    unfold wb_d_canSplit_4
    dsimp only
    refine pk_le F j (fun hh => absurd hh (by omega)) (fun _ => ?_)
    rcases w with ⟨w1, w2⟩ | ⟨w1, w2⟩
    · have w1 : a = 1 := w1
      subst w1
      refine ⟨fun c => absurd c (by decide), fun _ => ⟨pk_in j 6 (by omega), ?_⟩⟩
      rw [ncl j]
      refine ⟨fun c x6 e6 => hk _ ⟨by rw [e6]; exact nI_1 j, Or.inr ⟨rfl, fun q => (q j hj).1 c⟩⟩, fun c1 => ⟨pk_in j 6 (by omega), fun c x8 e8 => hk _ ⟨by rw [e8]; exact nI_1 j, Or.inr ⟨rfl, fun q => (q j hj).2 c⟩⟩, fun c2 x9 e9 => hk _ ⟨by rw [e9]; exact nI_1 j, Or.inl ⟨rfl, fun f hf => ?_⟩⟩⟩⟩
      by_cases cf : f = j
      · subst cf; exact ⟨c1, c2⟩
      · exact w2 f (by omega)
    · have w1 : a = 0 := w1
      subst w1
      exact ⟨fun _ x4 e4 => hk _ ⟨by rw [e4]; exact nI_1 j, Or.inr ⟨rfl, w2⟩⟩, fun c => absurd rfl c⟩
  · intro s Kk hs
    obtain ⟨a, v⟩ := s
    obtain ⟨e, w⟩ := hs
    have e : v = nI F := e
    subst e
    unfold wb_d_canSplit_4
    dsimp only
    refine pk_le F F (fun _ => ?_) (fun hh => absurd hh (by omega))
    rcases w with ⟨w1, w2⟩ | ⟨w1, w2⟩
    · have w1 : a = 1 := w1
      subst w1
      exact ⟨Or.inr rfl, h1 w2⟩
    · have w1 : a = 0 := w1
      subst w1
      exact ⟨Or.inl rfl, h0 w2⟩
/-- the folds, class and model -/
def foR (F : Nat) (kc dc kd dd : Nat → Int32) : Prop := F ≤ 6 ∧ ∀ f, f < F → kd f = kc f ∧ dd f = dc f ∧ ∃ x, x < 8 ∧ kc f = nI x
/-- whether all can be joined: class, and the model's run -/
theorem fo_can {F : Nat} {kc dc kd dd : Nat → Int32} (r : foR F kc dc kd dd) {post : Int32 → Prop} (h1 : (∀ f, f < F → jk (kc f)) → (∀ pd : Int32 → Prop, pd 1 → wp_d_canSplit (nI F) kd dd pd) → post 1) (h0 : (∀ pd : Int32 → Prop, pd 0 → wp_d_canSplit (nI F) kd dd pd) → post 0) : wp_fo_allCanBeJoined kc dc (nI F) post := by
  obtain ⟨hF, hf⟩ := r
  have iff : (∀ f, f < F → ¬ dc f = 0 ∧ ¬ kc f = 6 ∧ ¬ kc f = 7) ↔ ∀ f, f < F → ¬ dd f = 0 ∧ ¬ 6 ≤ kd f := by
    have key : ∀ f, f < F → ((¬ kc f = 6 ∧ ¬ kc f = 7) ↔ ¬ 6 ≤ kd f) := fun f hff => by
      obtain ⟨e1, e2, x, hx, ex⟩ := hf f hff
      rw [e1, ex, show (6 : Int32) = nI 6 from rfl, show (7 : Int32) = nI 7 from rfl, nI_eq (by omega) (by omega), nI_eq (by omega) (by omega), nI_leI (by omega) (by omega)]
      omega
    exact ⟨fun q f hff => ⟨by rw [(hf f hff).2.1]; exact (q f hff).1, (key f hff).mp (q f hff).2⟩, fun q f hff => ⟨by rw [← (hf f hff).2.1]; exact (q f hff).1, (key f hff).mpr (q f hff).2⟩⟩
  refine sp_fo_all hF (fun q => h1 (fun f hff => ?_) (fun pd hpd => sp_d_can hF (fun _ => hpd) (fun z => absurd (iff.mp q) z))) (fun q => h0 (fun pd hpd => sp_d_can hF (fun z => absurd (iff.mpr z) q) (fun _ => hpd)))
  obtain ⟨e1, e2, x, hx, ex⟩ := hf f hff
  have h6 := (q f hff).2.1
  have h7 := (q f hff).2.2
  rw [ex, show (6 : Int32) = nI 6 from rfl, nI_eq (by omega) (by omega)] at h6
  rw [ex, show (7 : Int32) = nI 7 from rfl, nI_eq (by omega) (by omega)] at h7
  unfold jk
  rw [ex]
  rcases (show x = 0 ∨ x = 1 ∨ x = 2 ∨ x = 3 ∨ x = 4 ∨ x = 5 by omega) with z | z | z | z | z | z <;> subst z
  · exact Or.inl rfl
  · exact Or.inr (Or.inl rfl)
  · exact Or.inr (Or.inr (Or.inl rfl))
  · exact Or.inr (Or.inr (Or.inr (Or.inl rfl)))
  · exact Or.inr (Or.inr (Or.inr (Or.inr (Or.inl rfl))))
  · exact Or.inr (Or.inr (Or.inr (Or.inr (Or.inr rfl))))
/-- how often a key came at most: class, and the model's run -/
theorem cn_most {keys counts errors ck cc ce : Nat → Int32} {u m n K : Nat} (hK : K < 100) (r : cnR keys counts errors u m n ck cc ce) {post : Int32 → Prop} (h : ∀ c : Int32, (∀ pd : Int32 → Prop, pd c → wp_d_mostOf (nI K) (nI m) ck cc pd) → post c) : wp_cn_atMost (nI K) keys counts (nI m) (nI u) post := by
  obtain ⟨m1, m12, um, un, r1, r2⟩ := r
  have kne : ∀ i, i < 12 → u ≤ i → ¬ ck i = nI K := fun i hi hu q => nI_nm1 hK (by rw [← q]; exact ((r1 i hi).2 hu).1)
  have hpre : ∀ j, j < u → ¬ ck j = -1 := fun j hj q => by
    obtain ⟨K2, c2, e2, hK2, ek, -⟩ := r2 j hj
    rw [((r1 j (by omega)).1 hj).1, ek] at q
    exact nI_nm1 hK2 q
  unfold wp_cn_atMost
  refine sp_cn_find (by omega) (fun hno => ?_) (fun i hi hk hf => ?_)
  · have dno : ∀ i, i < m → ¬ ck i = nI K := fun i hi q => by
      rcases Nat.lt_or_ge i u with c | c
      · exact hno i c (by rw [← ((r1 i (by omega)).1 c).1]; exact q)
      · exact kne i (by omega) c q
    refine ⟨fun _ => ?_, fun c => absurd rfl c⟩
    refine pk_le m u (fun hmu => ?_) (fun hum => ?_)
    · refine sp_cn_leastAt (by omega) (by omega) (fun i hi hl hs => ?_)
      refine ⟨pk_in i 12 (by omega), ?_⟩
      rw [ncl i]
      refine h _ (fun pd hpd => ?_)
      unfold wp_d_mostOf
      refine sp_d_counterOf m12 (fun _ => ?_) (fun j hj q => absurd q (dno j hj))
      refine sp_d_weakest m1 m12 (fun j hj q => absurd q (hpre j (by omega))) (fun _ j hj g1 g2 => ?_)
      have eji : j = i := by
        have c1 : cc j = counts j := ((r1 j (by omega)).1 (by omega)).2.1
        have c2 : cc i = counts i := ((r1 i (by omega)).1 (by omega)).2.1
        rcases Nat.lt_trichotomy j i with q | q | q
        · have a1 := hs j q
          have a2 := g1 i (by omega)
          rw [c1, c2] at a2
          exact absurd a1 (Int32.not_lt.mpr a2)
        · exact q
        · have a1 := g2 i q
          rw [c1, c2] at a1
          exact absurd a1 (Int32.not_lt.mpr (hl j (by omega)))
      subst eji
      refine ⟨fun _ => ⟨pk_in j 12 (by omega), ?_⟩, fun c => absurd (show (-1 : Int32) < 0 by decide) c⟩
      rw [ncl j]
      refine ⟨fun _ => ⟨pk_in j 12 (by omega), ?_⟩, fun c => absurd c (hpre j (by omega))⟩
      rw [((r1 j (by omega)).1 (by omega)).2.1]
      exact hpd
    · refine h _ (fun pd hpd => ?_)
      have hu0 := (r1 u (by omega)).2 (Nat.le_refl u)
      unfold wp_d_mostOf
      refine sp_d_counterOf m12 (fun _ => ?_) (fun j hj q => absurd q (dno j hj))
      refine sp_d_weakest m1 m12 (fun j hj q g => ?_) (fun q => absurd hu0.1 (q u (by omega)))
      refine ⟨fun _ => ⟨pk_in j 12 (by omega), ?_⟩, fun c => absurd (show (-1 : Int32) < 0 by decide) c⟩
      rw [ncl j]
      exact ⟨fun c => absurd q c, fun _ => hpd⟩
  · refine ⟨fun c => absurd c (fun q => absurd (nI_ge0 (K := i) (by omega)) (by rw [q]; decide)), fun _ => ⟨pk_in i 12 (by omega), ?_⟩⟩
    rw [ncl i]
    refine h _ (fun pd hpd => ?_)
    have hci := (r1 i (by omega)).1 hi
    unfold wp_d_mostOf
    refine sp_d_counterOf m12 (fun q => absurd (by rw [hci.1]; exact hk) (q i (by omega))) (fun j hj q g => ?_)
    have eji : j = i := by
      rcases Nat.lt_trichotomy j i with c | c | c
      · exact absurd (by rw [← ((r1 j (by omega)).1 (by omega)).1]; exact q) (hf j c)
      · exact c
      · exact absurd (by rw [hci.1]; exact hk) (g i c)
    subst eji
    have fin : ∀ z : Int32, (nI j < 0 → vp_in z 12 ∧ ((¬ (ck z.toNatClampNeg) = -1 → vp_in z 12 ∧ (pd (cc z.toNatClampNeg))) ∧ ((ck z.toNatClampNeg) = -1 → pd 0))) ∧ (¬ nI j < 0 → vp_in (nI j) 12 ∧ (pd (cc (nI j).toNatClampNeg))) := fun z => ⟨fun c => absurd c (nI_pos (by omega)), fun _ => ⟨pk_in j 12 (by omega), by rw [ncl j, hci.2.1]; exact hpd⟩⟩
    exact sp_d_weakest m1 m12 (fun z _ _ _ => fin (nI z)) (fun _ z _ _ _ => fin (nI z))
