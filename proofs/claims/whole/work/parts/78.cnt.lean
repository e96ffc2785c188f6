/-- the class's counters and the model's: u are used of m; n rows of the round -/
def cnR (keys counts errors : Nat → Int32) (u m n : Nat) (ck cc ce : Nat → Int32) : Prop :=
  1 ≤ m ∧ m ≤ 12 ∧ u ≤ m ∧ u ≤ n ∧ (∀ i, i < 12 → (i < u → ck i = keys i ∧ cc i = counts i ∧ ce i = errors i) ∧ (u ≤ i → ck i = -1 ∧ cc i = 0 ∧ ce i = 0)) ∧ (∀ i, i < u → ∃ K c e, K < 100 ∧ keys i = nI K ∧ counts i = nI c ∧ errors i = nI e ∧ e < c ∧ c ≤ n)
theorem nI_nm1 {K : Nat} (h : K < 100) : ¬ nI K = -1 := fun q => by
  have h2 : (0 : Int32) ≤ nI K := nI_pos' (by omega)
  rw [q] at h2
  exact absurd h2 (by decide)
theorem nI_ge0 {K : Nat} (h : K < 2 ^ 31) : (0 : Int32) ≤ nI K := nI_pos' h
/-- a row is counted: the class's call, and the model's run that goes with it -/
theorem cn_take {keys counts errors ck cc ce : Nat → Int32} {u m n K : Nat} (hK : K < 100) (hn : n ≤ 1000) (r : cnR keys counts errors u m n ck cc ce) {post : (Nat → Int32) × (Nat → Int32) × (Nat → Int32) × Int32 → Prop} (h : ∀ (keys2 counts2 errors2 : Nat → Int32) (u2 : Nat) (ck2 cc2 ce2 : Nat → Int32), cnR keys2 counts2 errors2 u2 m (n + 1) ck2 cc2 ce2 → (∀ pd : (Nat → Int32) × (Nat → Int32) × (Nat → Int32) → Prop, pd (ck2, cc2, ce2) → wp_d_countKey (nI K) (nI m) ck cc ce pd) → post (keys2, counts2, errors2, nI u2)) : wp_cn_take (nI K) keys counts errors (nI m) (nI u) post := by
  obtain ⟨m1, m12, um, un, r1, r2⟩ := r
  have kne : ∀ i, i < 12 → u ≤ i → ¬ ck i = nI K := fun i hi hu q => nI_nm1 hK (by rw [← q]; exact ((r1 i hi).2 hu).1)
  unfold wp_cn_take
  refine sp_cn_find (by omega) (fun hno => ?_) (fun i hi hk hf => ?_)
  · -- no counter has the key
    have dno : ∀ i, i < m → ¬ ck i = nI K := fun i hi q => by
      rcases Nat.lt_or_ge i u with c | c
      · exact hno i c (by rw [← ((r1 i (by omega)).1 c).1]; exact q)
      · exact kne i (by omega) c q
    refine ⟨fun _ => ?_, fun c => absurd rfl c⟩
    refine pk_le m u (fun hmu => ?_) (fun hum => ?_)
    · -- none is empty
      have eum : u = m := by omega
      refine sp_cn_leastAt (by omega) (by omega) (fun i hi hl hs => ?_)
      refine ⟨pk_in i 12 (by omega), ?_⟩
      rw [ncl i]
      unfold wp_cn_put
      refine ⟨pk_in i 12 (by omega), pk_in i 12 (by omega), fun x1 e1 => ⟨pk_in i 12 (by omega), ?_⟩⟩
      rw [ncl i]
      have hall : ∀ j, j < m → ¬ ck j = -1 := fun j hj q => by
        obtain ⟨K2, c2, e2, hK2, ek, -⟩ := r2 j (by omega)
        rw [((r1 j (by omega)).1 (by omega)).1, ek] at q
        exact nI_nm1 hK2 q
      refine h (upd keys i (nI K)) (upd counts i x1) (upd errors i (counts i)) u (upd ck i (nI K)) (upd cc i x1) (upd ce i (counts i)) ⟨m1, m12, um, by omega, fun j hj => ⟨fun hju => ?_, fun hju => ?_⟩, fun j hj => ?_⟩ (fun pd hpd => ?_)
      · rw [upd_at, upd_at, upd_at, upd_at, upd_at, upd_at]
        by_cases c : j = i
        · rw [if_pos c, if_pos c, if_pos c, if_pos c, if_pos c, if_pos c]; exact ⟨rfl, rfl, rfl⟩
        · rw [if_neg c, if_neg c, if_neg c, if_neg c, if_neg c, if_neg c]; exact (r1 j hj).1 hju
      · rw [upd_at, upd_at, upd_at, if_neg (by omega), if_neg (by omega), if_neg (by omega)]
        exact (r1 j hj).2 hju
      · rw [upd_at, upd_at, upd_at]
        by_cases c : j = i
        · rw [if_pos c, if_pos c, if_pos c]
          obtain ⟨K2, c2, e2, hK2, ek, ec, ee, hlt, hcn⟩ := r2 i (by omega)
          exact ⟨K, c2 + 1, c2, hK, rfl, by rw [e1, ec]; exact nI_1 c2, ec, by omega, by omega⟩
        · rw [if_neg c, if_neg c, if_neg c]
          obtain ⟨K2, c2, e2, hK2, ek, ec, ee, hlt, hcn⟩ := r2 j hj
          exact ⟨K2, c2, e2, hK2, ek, ec, ee, hlt, by omega⟩
      · unfold wp_d_countKey
        refine sp_d_counterOf m12 (fun _ => ?_) (fun j hj q => absurd q (dno j hj))
        refine ⟨fun c => absurd c (by decide), fun _ => ?_⟩
        refine sp_d_weakest m1 m12 (fun j hj q => absurd q (hall j hj)) (fun _ j hj g1 g2 => ?_)
        have eji : j = i := by
          have c1 : cc j = counts j := ((r1 j (by omega)).1 (by omega)).2.1
          have c2 : cc i = counts i := ((r1 i (by omega)).1 (by omega)).2.1
          rcases Nat.lt_trichotomy j i with q | q | q
          · have a1 := hs j q
            have a2 := g1 i (by omega)
            rw [c1, c2] at a2
            exact absurd a1 (Int32.not_lt.mpr a2)
          · exact q
          · have a1 := g2 i q
            rw [c1, c2] at a1
            exact absurd a1 (Int32.not_lt.mpr (hl j (by omega)))
        subst eji
        refine ⟨pk_in j 12 (by omega), ?_⟩
        rw [ncl j]
        refine ⟨fun _ => ⟨pk_in j 12 (by omega), ?_⟩, fun c => absurd c (hall j hj)⟩
        unfold wj_d_countKey_40
        refine ⟨pk_in j 12 (by omega), pk_in j 12 (by omega), pk_in j 12 (by omega), fun x7 e7 => ⟨pk_in j 12 (by omega), ?_⟩⟩
        rw [ncl j] at e7 ⊢
        have c2 : cc j = counts j := ((r1 j (by omega)).1 (by omega)).2.1
        rw [e7, c2, ← e1]
        exact hpd
    · -- the next one is empty
      unfold wp_cn_put
      refine ⟨pk_in u 12 (by omega), pk_in u 12 (by omega), fun x1 e1 => ⟨pk_in u 12 (by omega), fun x7 e7 => ?_⟩⟩
      rw [ncl u, e7, nI_1 u]
      have ex1 : x1 = 1 := by rw [e1]; rfl
      refine h (upd keys u (nI K)) (upd counts u x1) (upd errors u 0) (u + 1) (upd ck u (nI K)) (upd cc u x1) (upd ce u 0) ⟨m1, m12, by omega, by omega, fun j hj => ⟨fun hju => ?_, fun hju => ?_⟩, fun j hj => ?_⟩ (fun pd hpd => ?_)
      · rw [upd_at, upd_at, upd_at, upd_at, upd_at, upd_at]
        by_cases c : j = u
        · rw [if_pos c, if_pos c, if_pos c, if_pos c, if_pos c, if_pos c]; exact ⟨rfl, rfl, rfl⟩
        · rw [if_neg c, if_neg c, if_neg c, if_neg c, if_neg c, if_neg c]; exact (r1 j hj).1 (by omega)
      · rw [upd_at, upd_at, upd_at, if_neg (by omega), if_neg (by omega), if_neg (by omega)]
        exact (r1 j hj).2 (by omega)
      · rw [upd_at, upd_at, upd_at]
        by_cases c : j = u
        · rw [if_pos c, if_pos c, if_pos c]
          exact ⟨K, 1, 0, hK, rfl, ex1, rfl, by omega, by omega⟩
        · rw [if_neg c, if_neg c, if_neg c]
          obtain ⟨K2, c2, e2, hK2, ek, ec, ee, hlt, hcn⟩ := r2 j (by omega)
          exact ⟨K2, c2, e2, hK2, ek, ec, ee, hlt, by omega⟩
      · have hu0 := (r1 u (by omega)).2 (Nat.le_refl u)
        have hpre : ∀ j, j < u → ¬ ck j = -1 := fun j hj q => by
          obtain ⟨K2, c2, e2, hK2, ek, -⟩ := r2 j hj
          rw [((r1 j (by omega)).1 hj).1, ek] at q
          exact nI_nm1 hK2 q
        unfold wp_d_countKey
        refine sp_d_counterOf m12 (fun _ => ?_) (fun j hj q => absurd q (dno j hj))
        refine ⟨fun c => absurd c (by decide), fun _ => ?_⟩
        refine sp_d_weakest m1 m12 (fun j hj q g => ?_) (fun q => absurd hu0.1 (q u (by omega)))
        have eju : j = u := by
          rcases Nat.lt_trichotomy j u with c | c | c
          · exact absurd q (hpre j c)
          · exact c
          · exact absurd hu0.1 (g u c)
        subst eju
        refine ⟨pk_in j 12 (by omega), ?_⟩
        rw [ncl j]
        refine ⟨fun c => absurd hu0.1 c, fun _ => ?_⟩
        unfold wj_d_countKey_40
        refine ⟨pk_in j 12 (by omega), pk_in j 12 (by omega), pk_in j 12 (by omega), fun x9 e9 => ⟨pk_in j 12 (by omega), ?_⟩⟩
        rw [ncl j] at e9 ⊢
        rw [e9, hu0.2.1, show (0 : Int32) + 1 = x1 by rw [ex1]; rfl]
        exact hpd
  · -- its counter
    refine ⟨fun c => absurd c (fun q => absurd (nI_ge0 (K := i) (by omega)) (by rw [q]; decide)), fun _ => ?_⟩
    refine ⟨pk_in i 12 (by omega), fun x8 e8 => ⟨pk_in i 12 (by omega), ?_⟩⟩
    rw [ncl i] at e8 ⊢
    refine h keys (upd counts i x8) errors u ck (upd cc i x8) ce ⟨m1, m12, um, by omega, fun j hj => ⟨fun hju => ?_, fun hju => ?_⟩, fun j hj => ?_⟩ (fun pd hpd => ?_)
    · rw [upd_at, upd_at]
      by_cases c : j = i
      · rw [if_pos c, if_pos c]; exact ⟨((r1 j hj).1 hju).1, rfl, ((r1 j hj).1 hju).2.2⟩
      · rw [if_neg c, if_neg c]; exact (r1 j hj).1 hju
    · rw [upd_at, if_neg (by omega)]
      exact (r1 j hj).2 hju
    · rw [upd_at]
      obtain ⟨K2, c2, e2, hK2, ek, ec, ee, hlt, hcn⟩ := r2 j hj
      by_cases c : j = i
      · rw [if_pos c]; subst c
        exact ⟨K2, c2 + 1, e2, hK2, ek, by rw [e8, ec]; exact nI_1 c2, ee, by omega, by omega⟩
      · rw [if_neg c]
        exact ⟨K2, c2, e2, hK2, ek, ec, ee, hlt, by omega⟩
    · have hci := (r1 i (by omega)).1 hi
      unfold wp_d_countKey
      refine sp_d_counterOf m12 (fun q => absurd (by rw [hci.1]; exact hk) (q i (by omega))) (fun j hj q g => ?_)
      have eji : j = i := by
        rcases Nat.lt_trichotomy j i with c | c | c
        · exact absurd (by rw [← ((r1 j (by omega)).1 (by omega)).1]; exact q) (hf j c)
        · exact c
        · exact absurd (by rw [hci.1]; exact hk) (g i c)
      subst eji
      refine ⟨fun _ => ⟨pk_in j 12 (by omega), fun x3 e3 => ⟨pk_in j 12 (by omega), ?_⟩⟩, fun c => absurd (nI_ge0 (by omega)) c⟩
      rw [ncl j] at e3 ⊢
      rw [e3, hci.2.1, ← e8]
      exact hpd
