theorem sp_d_slot {k i : Nat} {post : Int32 → Prop} (h : post (nI (dl k i))) : wp_d_slot (nI i) (nI k) post := by
  unfold wp_d_slot
  rw [dl_nI]
  exact h
theorem dx0 (k f : Nat) : 6 * nI k + nI f = nI (dx k 0 f) := by
  have := dx_nI k 0 f
  rw [show dl k 0 = k by unfold dl; omega] at this
  exact this
theorem dl0 (k : Nat) : dl k 0 = k := by unfold dl; omega
theorem sp_d_empty {K I F : Nat} (hK : K < 100) (hI : I < 8) (hF : F ≤ 6) {S : Nat → Int64} {L hv tc kinds : Nat → Int32} {post : (Nat → Int64) × (Nat → Int32) × (Nat → Int32) × (Nat → Int32) → Prop} (h : ∀ S2 : Nat → Int64, (∀ k i f, k < 100 → i < 8 → f < 6 → S2 (dx k i f) = if k = K ∧ i = I ∧ f < F then eV (kinds f) else S (dx k i f)) → post (S2, upd L (dl K I) (-1), upd hv (dl K I) 0, upd tc (dl K I) 0)) : wp_d_empty (nI I) (nI K) (nI F) kinds S L hv tc post := by
  unfold wp_d_empty
  refine sp_d_slot ?_
  have hc := dl_lt hK hI
  refine hk_upE (fun j v => v.1 = nI j ∧ ∀ k i f, k < 100 → i < 8 → f < 6 → v.2 (dx k i f) = if k = K ∧ i = I ∧ f < j then eV (kinds f) else S (dx k i f)) F 0 _ (Nat.zero_le _) ⟨rfl, fun k i f _ _ _ => by rw [if_neg (by omega)]⟩ ?_ ?_
  · intro j s Kk hj hs hk
    obtain ⟨v, S1⟩ := s
    obtain ⟨e, h2⟩ := hs
    have e : v = nI j := e
    subst e
    have h2 : ∀ k i f, k < 100 → i < 8 → f < 6 → S1 (dx k i f) = if k = K ∧ i = I ∧ f < j then eV (kinds f) else S (dx k i f) := h2
    have hx := dx_lt hK hI (show j < 6 by omega)
    unfold wb_d_empty_10
    refine pk_le F j (fun hh => absurd hh (by omega)) (fun _ => ?_)
    refine sp_d_emptyOf (by omega) ?_
    dsimp only
    rw [dx_nI]
    refine ⟨pk_in (dx K I j) 4800 hx, fun x6 e6 => hk _ ⟨by rw [e6]; exact nI_1 j, fun k i f hk hi hf => ?_⟩⟩
    show vp_updL S1 _ _ _ = _
    rw [ncl (dx K I j), updL_at, if_iff (dx_eq hk hf hK (by omega)), h2 k i f hk hi hf]
    by_cases c : k = K ∧ i = I ∧ f = j
    · rw [if_pos c, if_pos (by omega), c.2.2]
    · rw [if_neg c]; exact if_iff (by omega)
  · intro s Kk hs
    obtain ⟨v, S1⟩ := s
    obtain ⟨e, h2⟩ := hs
    have e : v = nI F := e
    subst e
    unfold wb_d_empty_10
    refine pk_le F F (fun _ => ?_) (fun hh => absurd hh (by omega))
    refine ⟨pk_in (dl K I) 800 hc, pk_in (dl K I) 800 hc, pk_in (dl K I) 800 hc, ?_⟩
    rw [ncl (dl K I), hk_b0]
    exact h S1 h2
theorem sp_d_come {K f q : Nat} (hK : K < 100) (hf : f < 6) (hq : 1 ≤ q) (hq8 : q ≤ 8) {pc : Nat → Int32} (hpc : pc K = nI q) {S : Nat → Int64} {L kinds : Nat → Int32} {post : Int64 → Prop} (h : post (kJ dJn (kinds f) (fun i => S (dx K i f)) (fun i => L (dl K i)) (q - 1)).1) : wp_d_come (nI f) (nI K) kinds S L pc post := by
  unfold wp_d_come
  have hc0 := dx_lt hK (show 0 < 8 by omega) hf
  rw [dx0]
  refine ⟨pk_in (dx K 0 f) 4800 hc0, fun x2 e2 => ⟨pk_in K 800 (by omega), fun x4 e4 => ?_⟩⟩
  rw [ncl (dx K 0 f)] at e2
  rw [ncl K] at e4
  refine hk_upE (fun i v => 1 ≤ i ∧ v.2.2 = nI i ∧ (v.1, v.2.1) = kJ dJn (kinds f) (fun i => S (dx K i f)) (fun i => L (dl K i)) (i - 1)) q 1 _ hq ⟨Nat.le_refl 1, rfl, by rw [e2, e4]; show _ = (_, L (dl K 0)); rw [dl0]⟩ ?_ ?_
  · intro i s Kk hi hs hk
    obtain ⟨a, l, v⟩ := s
    obtain ⟨h1, e, h2⟩ := hs
    have e : v = nI i := e
    subst e
    have h2 : (a, l) = kJ dJn (kinds f) (fun i => S (dx K i f)) (fun i => L (dl K i)) (i - 1) := h2
    obtain ⟨j, rfl⟩ : ∃ j, i = j + 1 := ⟨i - 1, by omega⟩
    rw [Nat.add_sub_cancel] at h2
    have hc := dx_lt hK (show j + 1 < 8 by omega) hf
    have hs1 := dl_lt hK (show j + 1 < 8 by omega)
    have ea : a = (kJ dJn (kinds f) (fun i => S (dx K i f)) (fun i => L (dl K i)) j).1 := by rw [← h2]
    have el : l = (kJ dJn (kinds f) (fun i => S (dx K i f)) (fun i => L (dl K i)) j).2 := by rw [← h2]
    unfold wb_d_come_23
    dsimp only
    refine ⟨pk_in K 100 hK, ?_⟩
    refine pk_le q (j + 1) (fun hh => absurd hh (by omega)) (fun _ => ?_) (by rw [ncl K]; exact hpc)
    refine sp_d_slot ?_
    refine ⟨pk_in f 6 hf, ?_⟩
    rw [dx_nI]
    refine ⟨pk_in (dx K (j + 1) f) 4800 hc, pk_in (dl K (j + 1)) 800 hs1, ?_⟩
    rw [ncl (dl K (j + 1))]
    have fin : ∀ (b : Int32), b = (if L (dl K (j + 1)) ≤ l then 0 else 1) → wj_d_come_79 kinds S L (nI f) (a, l, nI (j + 1)) (nI (dl K (j + 1))) Kk b := by
      intro b hb
      unfold wj_d_come_79
      dsimp only
      rw [dx_nI, ncl (dx K (j + 1) f), ncl f, ncl (dl K (j + 1))]
      refine sp_d_joinedOf ⟨pk_in (dl K (j + 1)) 800 hs1, fun c x10 e10 => hk _ ⟨by omega, by rw [e10]; exact nI_1 (j + 1), ?_⟩, fun c => ⟨pk_in (dl K (j + 1)) 800 hs1, fun x11 e11 x12 e12 => hk _ ⟨by omega, by rw [e12]; exact nI_1 (j + 1), ?_⟩⟩⟩
      · rw [Nat.add_sub_cancel]
        show (_, _) = kJ dJn (kinds f) _ _ (j + 1)
        simp only [kJ]
        rw [← el, ← ea, hb, if_pos c, if_neg (Int32.not_lt.mpr c)]
      · rw [Nat.add_sub_cancel]
        show (_, _) = kJ dJn (kinds f) _ _ (j + 1)
        simp only [kJ]
        rw [← el, ← ea, hb, if_neg c, if_pos (Int32.not_le.mp c), e11]
    exact ⟨fun c => fin 0 (by rw [if_pos c]), fun c => fin 1 (by rw [if_neg c])⟩
  · intro s Kk hs
    obtain ⟨a, l, v⟩ := s
    obtain ⟨h1, e, h2⟩ := hs
    have e : v = nI q := e
    subst e
    have h2 : (a, l) = kJ dJn (kinds f) (fun i => S (dx K i f)) (fun i => L (dl K i)) (q - 1) := h2
    unfold wb_d_come_23
    refine ⟨pk_in K 100 hK, ?_⟩
    refine pk_le q q (fun _ => ?_) (fun hh => absurd hh (by omega)) (by rw [ncl K]; exact hpc)
    rw [← h2] at h
    exact h
theorem sp_d_makeParts {K F q : Nat} (hK : K < 100) (hF : F ≤ 6) (hq : 1 ≤ q) (hq8 : q ≤ 8) {pc : Nat → Int32} {S : Nat → Int64} {L hv tc kinds : Nat → Int32} {post : (Nat → Int64) × (Nat → Int32) × (Nat → Int32) × (Nat → Int32) × (Nat → Int32) → Prop} (h : ∀ (S2 : Nat → Int64) (L2 hv2 tc2 : Nat → Int32), (∀ k i f, k < 100 → i < 8 → f < 6 → S2 (dx k i f) = if k = K ∧ (1 ≤ i ∧ i < q) ∧ f < F then eV (kinds f) else S (dx k i f)) → (∀ k i, k < 100 → i < 8 → L2 (dl k i) = if k = K ∧ (1 ≤ i ∧ i < q) then -1 else L (dl k i)) → (∀ k i, k < 100 → i < 8 → hv2 (dl k i) = if k = K ∧ (1 ≤ i ∧ i < q) then 0 else hv (dl k i)) → (∀ k i, k < 100 → i < 8 → tc2 (dl k i) = if k = K ∧ (1 ≤ i ∧ i < q) then 0 else tc (dl k i)) → post (S2, L2, hv2, tc2, upd pc K (nI q))) : wp_d_makeParts (nI K) (nI q) (nI F) kinds S L hv tc pc post := by
  unfold wp_d_makeParts
  refine ⟨pk_in K 100 hK, ?_⟩
  refine hk_upE (fun j v => 1 ≤ j ∧ v.1 = nI j ∧ (∀ k i f, k < 100 → i < 8 → f < 6 → v.2.1 (dx k i f) = if k = K ∧ (1 ≤ i ∧ i < j) ∧ f < F then eV (kinds f) else S (dx k i f)) ∧ (∀ k i, k < 100 → i < 8 → v.2.2.1 (dl k i) = if k = K ∧ (1 ≤ i ∧ i < j) then -1 else L (dl k i)) ∧ (∀ k i, k < 100 → i < 8 → v.2.2.2.1 (dl k i) = if k = K ∧ (1 ≤ i ∧ i < j) then 0 else hv (dl k i)) ∧ (∀ k i, k < 100 → i < 8 → v.2.2.2.2 (dl k i) = if k = K ∧ (1 ≤ i ∧ i < j) then 0 else tc (dl k i))) q 1 _ hq ⟨Nat.le_refl 1, rfl, fun k i f _ _ _ => by rw [if_neg (by omega)], fun k i _ _ => by rw [if_neg (by omega)], fun k i _ _ => by rw [if_neg (by omega)], fun k i _ _ => by rw [if_neg (by omega)]⟩ ?_ ?_
  · intro j s Kk hj hs hk
    obtain ⟨v, S1, L1, hv1, tc1⟩ := s
    obtain ⟨h1, e, h2, h3, h4, h5⟩ := hs
    have e : v = nI j := e
    subst e
    dsimp only at h2 h3 h4 h5
    have hc := dl_lt hK (show j < 8 by omega)
    unfold wb_d_makeParts_9
    dsimp only
    refine pk_le q j (fun hh => absurd hh (by omega)) (fun _ => ?_)
    refine sp_d_empty hK (by omega) hF (fun S2 g1 x4 e4 => hk _ ⟨by omega, by rw [e4]; exact nI_1 j, fun k i f hk hi hf => ?_, fun k i hk hi => ?_, fun k i hk hi => ?_, fun k i hk hi => ?_⟩)
    · show S2 _ = _
      rw [g1 k i f hk hi hf, h2 k i f hk hi hf]
      by_cases c : k = K ∧ i = j ∧ f < F
      · rw [if_pos c, if_pos (by omega)]
      · rw [if_neg c]; exact if_iff (by omega)
    · show upd L1 _ _ _ = _
      rw [upd_at, if_iff (dl_eq hk hK), h3 k i hk hi]
      by_cases c : k = K ∧ i = j
      · rw [if_pos c, if_pos (by omega)]
      · rw [if_neg c]; exact if_iff (by omega)
    · show upd hv1 _ _ _ = _
      rw [upd_at, if_iff (dl_eq hk hK), h4 k i hk hi]
      by_cases c : k = K ∧ i = j
      · rw [if_pos c, if_pos (by omega)]
      · rw [if_neg c]; exact if_iff (by omega)
    · show upd tc1 _ _ _ = _
      rw [upd_at, if_iff (dl_eq hk hK), h5 k i hk hi]
      by_cases c : k = K ∧ i = j
      · rw [if_pos c, if_pos (by omega)]
      · rw [if_neg c]; exact if_iff (by omega)
  · intro s Kk hs
    obtain ⟨v, S1, L1, hv1, tc1⟩ := s
    obtain ⟨h1, e, h2, h3, h4, h5⟩ := hs
    have e : v = nI q := e
    subst e
    unfold wb_d_makeParts_9
    refine pk_le q q (fun _ => ?_) (fun hh => absurd hh (by omega))
    rw [ncl K]
    exact h S1 L1 hv1 tc1 h2 h3 h4 h5
def cntT (tc : Nat → Int32) : Nat → Int32
  | 0 => 0
  | i + 1 => if tc (i + 1) = 0 then cntT tc i + 0 else cntT tc i + 1
def kR (lr : Nat → Int32) : Nat → Int32
  | 0 => lr 0
  | i + 1 => if lr (i + 1) ≤ kR lr i then kR lr i else lr (i + 1)
theorem sp_d_joinBack {K F q : Nat} (hK : K < 100) (hF : F ≤ 6) (hq : 1 ≤ q) (hq8 : q ≤ 8) {pc : Nat → Int32} (hpc : pc K = nI q) {S cm : Nat → Int64} {L tc kinds : Nat → Int32} {moved : Int32} {post : Int32 → (Nat → Int64) × (Nat → Int32) × (Nat → Int32) × Int32 × (Nat → Int64) → Prop} (h : ∀ S2 cm2 : Nat → Int64, (∀ k i f, k < 100 → i < 8 → f < 6 → S2 (dx k i f) = if k = K ∧ i = 0 ∧ f < F then (kJ dJn (kinds f) (fun i => S (dx K i f)) (fun i => L (dl K i)) (q - 1)).1 else S (dx k i f)) → post (cntT (fun i => tc (dl K i)) (q - 1)) (S2, upd L K (kR (fun i => L (dl K i)) (q - 1)), upd pc K 1, moved + cntT (fun i => tc (dl K i)) (q - 1), cm2)) : wp_d_joinBack (nI K) (nI F) kinds S L tc pc moved cm post := by
  unfold wp_d_joinBack
  refine ⟨pk_in K 800 (by omega), fun x1 e1 => ?_⟩
  rw [ncl K] at e1
  refine hk_upE (fun j v => v.1 = nI j ∧ ∀ f, f < j → v.2 f = (kJ dJn (kinds f) (fun i => S (dx K i f)) (fun i => L (dl K i)) (q - 1)).1) F 0 _ (Nat.zero_le _) ⟨rfl, fun f hf => absurd hf (Nat.not_lt_zero _)⟩ ?_ ?_
  · intro j s Kk hj hs hk
    obtain ⟨v, C1⟩ := s
    obtain ⟨e, h2⟩ := hs
    have e : v = nI j := e
    subst e
    unfold wb_d_joinBack_12
    refine pk_le F j (fun hh => absurd hh (by omega)) (fun _ => ?_)
    refine sp_d_come hK (by omega) hq hq8 hpc ⟨pk_in j 6 (by omega), fun x20 e20 => hk _ ⟨by rw [e20]; exact nI_1 j, fun f hf => ?_⟩⟩
    show vp_updL C1 _ _ f = _
    rw [show ((nI j, C1).1).toNatClampNeg = j from ncl j, updL_at]
    by_cases c : f = j
    · subst c; rw [if_pos rfl]
    · rw [if_neg c]; exact h2 f (by omega)
  · intro s Kk hs
    obtain ⟨v, C1⟩ := s
    obtain ⟨e, hC⟩ := hs
    have e : v = nI F := e
    subst e
    have hC : ∀ f, f < F → C1 f = (kJ dJn (kinds f) (fun i => S (dx K i f)) (fun i => L (dl K i)) (q - 1)).1 := hC
    unfold wb_d_joinBack_12
    refine pk_le F F (fun _ => ?_) (fun hh => absurd hh (by omega))
    refine hk_upE (fun j v => 1 ≤ j ∧ v.2.2 = nI j ∧ v.1 = cntT (fun i => tc (dl K i)) (j - 1) ∧ v.2.1 = kR (fun i => L (dl K i)) (j - 1)) q 1 _ hq ⟨Nat.le_refl 1, rfl, rfl, by rw [e1]; show _ = L (dl K 0); rw [dl0]⟩ ?_ ?_
    · intro j s Kk hj hs hk
      obtain ⟨a, l, v⟩ := s
      obtain ⟨h1, e, h2, h3⟩ := hs
      have e : v = nI j := e
      subst e
      obtain ⟨i, rfl⟩ : ∃ i, j = i + 1 := ⟨j - 1, by omega⟩
      rw [Nat.add_sub_cancel] at h2 h3
      have h2 : a = cntT (fun i => tc (dl K i)) i := h2
      have h3 : l = kR (fun i => L (dl K i)) i := h3
      have hs1 := dl_lt hK (show i + 1 < 8 by omega)
      unfold wb_d_joinBack_44
      dsimp only
      refine ⟨pk_in K 100 hK, ?_⟩
      refine pk_le q (i + 1) (fun hh => absurd hh (by omega)) (fun _ => ?_) (by rw [ncl K]; exact hpc)
      refine sp_d_slot ?_
      refine ⟨pk_in (dl K (i + 1)) 800 hs1, ?_⟩
      rw [ncl (dl K (i + 1))]
      have fin : ∀ b : Int32, b = (if tc (dl K (i + 1)) = 0 then 0 else 1) → wj_d_joinBack_80 L (a, l, nI (i + 1)) (nI (dl K (i + 1))) Kk b := by
        intro b hb
        unfold wj_d_joinBack_80
        intro x14 e14
        have e14 : x14 = cntT (fun i => tc (dl K i)) (i + 1) := by
          rw [e14, hb]; simp only [cntT]; rw [← h2]
          by_cases c : tc (dl K (i + 1)) = 0
          · rw [if_pos c, if_pos c]
          · rw [if_neg c, if_neg c]
        dsimp only
        rw [ncl (dl K (i + 1))]
        refine ⟨pk_in (dl K (i + 1)) 800 hs1, fun c x16 e16 => hk _ ⟨by omega, by rw [e16]; exact nI_1 (i + 1), ?_, ?_⟩, fun c => ⟨pk_in (dl K (i + 1)) 800 hs1, fun x17 e17 x18 e18 => hk _ ⟨by omega, by rw [e18]; exact nI_1 (i + 1), ?_, ?_⟩⟩⟩
        · rw [Nat.add_sub_cancel]; exact e14
        · rw [Nat.add_sub_cancel]; show l = kR _ (i + 1); simp only [kR]; rw [← h3, if_pos c]
        · rw [Nat.add_sub_cancel]; exact e14
        · rw [Nat.add_sub_cancel]; show x17 = kR _ (i + 1); simp only [kR]; rw [← h3, if_neg c, e17]
      exact ⟨fun c => fin 0 (by rw [if_pos c]), fun c => fin 1 (by rw [if_neg c])⟩
    · intro s Kk hs
      obtain ⟨a, l, v⟩ := s
      obtain ⟨h1, e, h2, h3⟩ := hs
      have e : v = nI q := e
      have h2 : a = _ := h2
      have h3 : l = _ := h3
      subst e
      subst h2
      subst h3
      unfold wb_d_joinBack_44
      refine ⟨pk_in K 100 hK, ?_⟩
      refine pk_le q q (fun _ => ?_) (fun hh => absurd hh (by omega)) (by rw [ncl K]; exact hpc)
      refine hk_upE (fun j v => v.1 = nI j ∧ ∀ k i f, k < 100 → i < 8 → f < 6 → v.2 (dx k i f) = if k = K ∧ i = 0 ∧ f < j then (kJ dJn (kinds f) (fun i => S (dx K i f)) (fun i => L (dl K i)) (q - 1)).1 else S (dx k i f)) F 0 _ (Nat.zero_le _) ⟨rfl, fun k i f _ _ _ => by rw [if_neg (by omega)]⟩ ?_ ?_
      · intro j s Kk hj hs hk
        obtain ⟨v, S1⟩ := s
        obtain ⟨e, h2⟩ := hs
        have e : v = nI j := e
        subst e
        dsimp only at h2
        have hx := dx_lt hK (show 0 < 8 by omega) (show j < 6 by omega)
        unfold wb_d_joinBack_114
        dsimp only
        refine pk_le F j (fun hh => absurd hh (by omega)) (fun _ => ?_)
        refine ⟨pk_in j 6 (by omega), fun x9 e9 => ?_⟩
        rw [ncl j, hC j hj] at e9
        rw [dx0]
        refine ⟨pk_in (dx K 0 j) 4800 hx, fun x10 e10 => hk _ ⟨by rw [e10]; exact nI_1 j, fun k i f hk hi hf => ?_⟩⟩
        show vp_updL S1 _ _ _ = _
        rw [ncl (dx K 0 j), updL_at, if_iff (dx_eq hk hf hK (by omega)), h2 k i f hk hi hf]
        by_cases c : k = K ∧ i = 0 ∧ f = j
        · rw [if_pos c, if_pos (by omega), c.2.2, e9]
        · rw [if_neg c]; exact if_iff (by omega)
      · intro s Kk hs
        obtain ⟨v, S1⟩ := s
        obtain ⟨e, h2⟩ := hs
        have e : v = nI F := e
        subst e
        unfold wb_d_joinBack_114
        dsimp only
        refine pk_le F F (fun _ => ?_) (fun hh => absurd hh (by omega))
        refine ⟨pk_in K 800 (by omega), pk_in K 100 hK, fun x8 e8 => ?_⟩
        rw [ncl K, e8]
        exact h S1 C1 h2
