theorem sp_isW_Y {n a b : Int32} {post : Int32 → Prop} (h1 : a ≤ n) (h2 : n ≤ b) (h : post 1) : wp_x_isWithin n a b post := ⟨fun c => absurd c (Int32.not_lt.mpr h1), fun _ => ⟨fun c => absurd c (Int32.not_lt.mpr h2), fun _ => h⟩⟩
theorem sp_isW_N {n a b : Int32} {post : Int32 → Prop} (hn : ¬ (a ≤ n ∧ n ≤ b)) (h : post 0) : wp_x_isWithin n a b post := ⟨fun _ => h, fun c => ⟨fun _ => h, fun c2 => absurd ⟨Int32.not_lt.mp c, Int32.not_lt.mp c2⟩ hn⟩⟩
theorem i64_le {x y : Int32} : x.toInt64 ≤ y.toInt64 ↔ x ≤ y := by
  rw [Int64.le_iff_toInt_le, Int32.le_iff_toInt_le, Int32.toInt_toInt64, Int32.toInt_toInt64]
theorem i64_lt {x y : Int32} : x.toInt64 < y.toInt64 ↔ x < y := by
  rw [Int64.lt_iff_toInt_lt, Int32.lt_iff_toInt_lt, Int32.toInt_toInt64, Int32.toInt_toInt64]
theorem sp_in_Y {n a b : Int32} {a2 b2 : Int64} {post : Int32 → Prop} (h1 : a ≤ n) (h2 : n ≤ b) (h : post 1) (ea : a2 = a.toInt64) (eb : b2 = b.toInt64) : wp_d_in n.toInt64 a2 b2 post := by
  subst ea eb
  exact ⟨fun c => absurd (i64_lt.mp (hk_lclt.mp c)) (Int32.not_lt.mpr h1), fun _ => ⟨fun c => absurd (i64_lt.mp (hk_lcgt.mp c)) (Int32.not_lt.mpr h2), fun _ => h⟩⟩
theorem sp_in_N {n a b : Int32} {a2 b2 : Int64} {post : Int32 → Prop} (hn : ¬ (a ≤ n ∧ n ≤ b)) (h : post 0) (ea : a2 = a.toInt64) (eb : b2 = b.toInt64) : wp_d_in n.toInt64 a2 b2 post := by
  subst ea eb
  exact ⟨fun _ => h, fun c => ⟨fun _ => h, fun c2 => absurd ⟨Int32.not_lt.mp (fun q => c (hk_lclt.mpr (i64_lt.mpr q))), Int32.not_lt.mp (fun q => c2 (hk_lcgt.mpr (i64_lt.mpr q)))⟩ hn⟩⟩
/-- a key, or none -/
theorem key32 (x : Int32) : (∃ K, K < 100 ∧ x = nI K) ∨ ¬ ((0 : Int32) ≤ x ∧ x ≤ 99) := by
  rcases pk_ix x (n := 100) (by omega) with h | h | h
  · exact Or.inr (fun q => absurd h (Int32.not_lt.mpr q.1))
  · refine Or.inr (fun q => ?_)
    have := Int32.le_trans h q.2
    exact absurd this (by decide)
  · exact Or.inl h
theorem key_r {K : Nat} (h : K < 100) : (0 : Int32) ≤ nI K ∧ nI K ≤ 99 := ⟨nI_pos' (by omega), nI_le (b := 99) (by omega) (by omega)⟩
theorem sp_isKey_Y {K : Nat} (hK : K < 100) {post : Int32 → Prop} (h : post 1) : wp_x_isKey (nI K) post := by
  unfold wp_x_isKey
  exact sp_isW_Y (key_r hK).1 (key_r hK).2 ⟨Or.inr rfl, h⟩
theorem sp_isKey_N {x : Int32} (hn : ¬ ((0 : Int32) ≤ x ∧ x ≤ 99)) {post : Int32 → Prop} (h : post 0) : wp_x_isKey x post := by
  unfold wp_x_isKey
  exact sp_isW_N hn ⟨Or.inl rfl, h⟩
theorem sp_noKey_Y {K : Nat} (hK : K < 100) {post : Int32 → Prop} (h : post 0) : wp_d_noKey (nI K) post := by
  unfold wp_d_noKey
  exact sp_in_Y (a := 0) (b := 99) (key_r hK).1 (key_r hK).2 ⟨fun _ => h, fun c => absurd c (by decide)⟩ (by decide) (by decide)
theorem sp_noKey_N {x : Int32} (hn : ¬ ((0 : Int32) ≤ x ∧ x ≤ 99)) {post : Int32 → Prop} (h : post 1) : wp_d_noKey x post := by
  unfold wp_d_noKey
  exact sp_in_N (a := 0) (b := 99) hn ⟨fun c => absurd rfl c, fun _ => h⟩ (by decide) (by decide)
/-! counters -/
theorem sp_cn_find {key : Int32} {keys : Nat → Int32} {u : Nat} (hu : u ≤ 12) {post : Int32 → Prop} (h1 : (∀ i, i < u → ¬ keys i = key) → post (-1)) (h2 : ∀ i, i < u → keys i = key → (∀ j, j < i → ¬ keys j = key) → post (nI i)) : wp_cn_find key keys (nI u) post := by
  unfold wp_cn_find
  refine hk_upE (fun i v => v = nI i ∧ ∀ j, j < i → ¬ keys j = key) u 0 _ (Nat.zero_le _) ⟨rfl, fun j hj => absurd hj (Nat.not_lt_zero _)⟩ ?_ ?_
  · intro i s Kk hi hs hk
    obtain ⟨rfl, h3⟩ := hs
    unfold wb_cn_find_2
    refine pk_le u i (fun hh => absurd hh (by omega)) (fun _ => ?_)
    refine ⟨pk_in i 12 (by omega), ?_⟩
    rw [ncl i]
    refine ⟨fun c x4 e4 => hk _ ⟨by rw [e4]; exact nI_1 i, fun j hj => ?_⟩, fun c => h2 i hi c h3⟩
    by_cases cj : j = i
    · subst cj; exact c
    · exact h3 j (by omega)
  · intro s Kk hs
    obtain ⟨rfl, h3⟩ := hs
    unfold wb_cn_find_2
    exact pk_le u u (fun _ => h1 h3) (fun hh => absurd hh (by omega))
theorem sp_cn_leastAt {counts : Nat → Int32} {u : Nat} (h0 : 1 ≤ u) (hu : u ≤ 12) {post : Int32 → Prop} (h : ∀ i, i < u → (∀ j, j < u → counts i ≤ counts j) → (∀ j, j < i → counts i < counts j) → post (nI i)) : wp_cn_leastAt counts (nI u) post := by
  unfold wp_cn_leastAt
  refine hk_upE (fun n v => v.2 = nI n ∧ 1 ≤ n ∧ ∃ i, i < n ∧ v.1 = nI i ∧ (∀ j, j < n → counts i ≤ counts j) ∧ (∀ j, j < i → counts i < counts j)) u 1 _ h0 ⟨rfl, Nat.le_refl 1, 0, by omega, rfl, fun j hj => by rw [show j = 0 by omega]; exact Int32.le_refl _, fun j hj => absurd hj (Nat.not_lt_zero _)⟩ ?_ ?_
  · intro n s Kk hn hs hk
    obtain ⟨a, v⟩ := s
    obtain ⟨e, hn1, i, hi, ea, h3, h4⟩ := hs
    have e : v = nI n := e
    have ea : a = nI i := ea
    subst e
    subst ea
    unfold wb_cn_leastAt_4
    dsimp only
    refine pk_le u n (fun hh => absurd hh (by omega)) (fun _ => ?_)
    refine ⟨pk_in n 12 (by omega), pk_in i 12 (by omega), ?_⟩
    rw [ncl n, ncl i]
    refine ⟨fun c x4 e4 => hk _ ⟨by rw [e4]; exact nI_1 n, by omega, i, by omega, rfl, fun j hj => ?_, h4⟩, fun c x5 e5 => hk _ ⟨by rw [e5]; exact nI_1 n, by omega, n, by omega, rfl, fun j hj => ?_, fun j hj => ?_⟩⟩
    · by_cases cj : j = n
      · subst cj; exact c
      · exact h3 j (by omega)
    · by_cases cj : j = n
      · subst cj; exact Int32.le_refl _
      · exact Int32.le_trans (Int32.le_of_lt (Int32.not_le.mp c)) (h3 j (by omega))
    · exact Int32.lt_of_lt_of_le (Int32.not_le.mp c) (h3 j (by omega))
  · intro s Kk hs
    obtain ⟨a, v⟩ := s
    obtain ⟨e, hn1, i, hi, ea, h3, h4⟩ := hs
    have e : v = nI u := e
    have ea : a = nI i := ea
    subst e
    subst ea
    unfold wb_cn_leastAt_4
    exact pk_le u u (fun _ => h i hi h3 h4) (fun hh => absurd hh (by omega))
theorem nI_pm (n : Nat) : nI (n + 1) - 1 = nI n := nI_pred n
theorem sp_d_counterOf {key : Int32} {ck : Nat → Int32} {m : Nat} (hm : m ≤ 12) {post : Int32 → Prop} (h1 : (∀ i, i < m → ¬ ck i = key) → post (-1)) (h2 : ∀ i, i < m → ck i = key → (∀ j, j < i → ¬ ck j = key) → post (nI i)) : wp_d_counterOf key (nI m) ck post := by
  unfold wp_d_counterOf
  intro x1 e1
  refine hk_upE (fun d v => d ≤ m ∧ v.2 = nI (m - d) - 1 ∧ ((v.1 = -1 ∧ ∀ j, m - d ≤ j → j < m → ¬ ck j = key) ∨ ∃ i, m - d ≤ i ∧ i < m ∧ v.1 = nI i ∧ ck i = key ∧ ∀ j, m - d ≤ j → j < i → ¬ ck j = key)) m 0 _ (Nat.zero_le _) ⟨Nat.zero_le _, e1, Or.inl ⟨rfl, fun j q1 q2 => absurd q2 (by omega)⟩⟩ ?_ ?_
  · intro d s Kk hd hs hk
    obtain ⟨a, v⟩ := s
    obtain ⟨hdm, e, w⟩ := hs
    obtain ⟨k, hk1⟩ : ∃ k, m - d = k + 1 := ⟨m - d - 1, by omega⟩
    have hk2 : m - (d + 1) = k := by omega
    have e : v = nI k := by
      have e : v = nI (m - d) - 1 := e
      rw [hk1] at e
      rw [e]; exact nI_pm k
    subst e
    rw [hk1] at w
    unfold wb_d_counterOf_9
    dsimp only
    refine ⟨fun c => absurd c (nI_pos (by omega)), fun _ => ⟨pk_in k 12 (by omega), ?_⟩⟩
    rw [ncl k]
    have e9 : ∀ x5 : Int32, x5 = nI k + (-1) → x5 = nI (m - (d + 1)) - 1 := fun x5 q => by rw [q, hk2]; exact (Int32.sub_eq_add_neg _ _).symm
    refine ⟨fun c x5 e5 => hk _ ⟨by omega, e9 x5 e5, ?_⟩, fun c x6 e6 => hk _ ⟨by omega, e9 x6 e6, Or.inr ⟨k, by omega, by omega, rfl, c, fun j q1 q2 => absurd q2 (by omega)⟩⟩⟩
    rw [hk2]
    rcases w with ⟨w1, w2⟩ | ⟨i, w1, w2, w3, w4, w5⟩
    · refine Or.inl ⟨w1, fun j q1 q2 => ?_⟩
      by_cases cj : j = k
      · subst cj; exact c
      · exact w2 j (by omega) q2
    · refine Or.inr ⟨i, by omega, w2, w3, w4, fun j q1 q2 => ?_⟩
      by_cases cj : j = k
      · subst cj; exact c
      · exact w5 j (by omega) q2
  · intro s Kk hs
    obtain ⟨a, v⟩ := s
    obtain ⟨hdm, e, w⟩ := hs
    have e : v = -1 := by
      have e : v = nI (m - m) - 1 := e
      rw [Nat.sub_self] at e
      rw [e]; rfl
    subst e
    rw [Nat.sub_self] at w
    unfold wb_d_counterOf_9
    refine ⟨fun _ => ?_, fun c => absurd (show (-1 : Int32) < 0 by decide) c⟩
    rcases w with ⟨w1, w2⟩ | ⟨i, w1, w2, w3, w4, w5⟩
    · have w1 : a = -1 := w1
      subst w1
      exact h1 (fun i hi => w2 i (Nat.zero_le _) hi)
    · have w3 : a = nI i := w3
      subst w3
      exact h2 i w2 w4 (fun j hj => w5 j (Nat.zero_le _) hj)
theorem sp_d_weakest {ck cc : Nat → Int32} {m : Nat} (h0 : 1 ≤ m) (hm : m ≤ 12) {post : Int32 → Prop} (h1 : ∀ i, i < m → ck i = -1 → (∀ j, j < i → ¬ ck j = -1) → post (nI i)) (h2 : (∀ j, j < m → ¬ ck j = -1) → ∀ i, i < m → (∀ j, j < m → cc i ≤ cc j) → (∀ j, j < i → cc i < cc j) → post (nI i)) : wp_d_weakest (nI m) ck cc post := by
  unfold wp_d_weakest
  refine hk_upE (fun n v => v.2 = nI n ∧ 1 ≤ n ∧ ∃ i, i < n ∧ v.1 = nI i ∧ ((ck i = -1 ∧ ∀ j, j < i → ¬ ck j = -1) ∨ ((∀ j, j < n → ¬ ck j = -1) ∧ (∀ j, j < n → cc i ≤ cc j) ∧ (∀ j, j < i → cc i < cc j)))) m 1 _ h0 ⟨rfl, Nat.le_refl 1, 0, by omega, rfl, ?_⟩ ?_ ?_
  · by_cases c : ck 0 = -1
    · exact Or.inl ⟨c, fun j hj => absurd hj (Nat.not_lt_zero _)⟩
    · exact Or.inr ⟨fun j hj => by rw [show j = 0 by omega]; exact c, fun j hj => by rw [show j = 0 by omega]; exact Int32.le_refl _, fun j hj => absurd hj (Nat.not_lt_zero _)⟩
  · intro n s Kk hn hs hk
    obtain ⟨a, v⟩ := s
    obtain ⟨e, hn1, i, hi, ea, w⟩ := hs
    have e : v = nI n := e
    have ea : a = nI i := ea
    subst e
    subst ea
    unfold wb_d_weakest_4
    dsimp only
    refine pk_le m n (fun hh => absurd hh (by omega)) (fun _ => ?_)
    refine ⟨pk_in i 12 (by omega), ?_⟩
    rw [ncl n, ncl i]
    refine ⟨fun c x5 e5 => hk _ ⟨by rw [e5]; exact nI_1 n, by omega, i, by omega, rfl, ?_⟩, fun c => ⟨pk_in n 12 (by omega), fun c2 x8 e8 => hk _ ⟨by rw [e8]; exact nI_1 n, by omega, n, by omega, rfl, ?_⟩, fun c2 => ⟨pk_in n 12 (by omega), pk_in i 12 (by omega), fun c3 x11 e11 => hk _ ⟨by rw [e11]; exact nI_1 n, by omega, i, by omega, rfl, ?_⟩, fun c3 x13 e13 => hk _ ⟨by rw [e13]; exact nI_1 n, by omega, n, by omega, rfl, ?_⟩⟩⟩⟩
    · rcases w with w | w
      · exact Or.inl w
      · exact absurd c (w.1 i hi)
    · rcases w with w | w
      · exact absurd w.1 c
      · exact Or.inl ⟨c2, w.1⟩
    · rcases w with w | w
      · exact absurd w.1 c
      · refine Or.inr ⟨fun j hj => ?_, fun j hj => ?_, w.2.2⟩
        · by_cases cj : j = n
          · subst cj; exact c2
          · exact w.1 j (by omega)
        · by_cases cj : j = n
          · subst cj; exact c3
          · exact w.2.1 j (by omega)
    · rcases w with w | w
      · exact absurd w.1 c
      · refine Or.inr ⟨fun j hj => ?_, fun j hj => ?_, fun j hj => ?_⟩
        · by_cases cj : j = n
          · subst cj; exact c2
          · exact w.1 j (by omega)
        · by_cases cj : j = n
          · subst cj; exact Int32.le_refl _
          · exact Int32.le_trans (Int32.le_of_lt (Int32.not_le.mp c3)) (w.2.1 j (by omega))
        · exact Int32.lt_of_lt_of_le (Int32.not_le.mp c3) (w.2.1 j (by omega))
  · intro s Kk hs
    obtain ⟨a, v⟩ := s
    obtain ⟨e, hn1, i, hi, ea, w⟩ := hs
    have e : v = nI m := e
    have ea : a = nI i := ea
    subst e
    subst ea
    unfold wb_d_weakest_4
    refine pk_le m m (fun _ => ?_) (fun hh => absurd hh (by omega))
    rcases w with w | w
    · exact h1 i hi w.1 w.2
    · exact h2 w.1 i hi w.2.1 w.2.2
