/-- parts 0 .. n joined: the state and the latest row -/
def kJ (J : Int32 → Int64 → Int64 → Int32 → Int64) (kd : Int32) (st : Nat → Int64) (lr : Nat → Int32) : Nat → Int64 × Int32
  | 0 => (st 0, lr 0)
  | i + 1 => (J kd (kJ J kd st lr i).1 (st (i + 1)) (if lr (i + 1) ≤ (kJ J kd st lr i).2 then 0 else 1), if (kJ J kd st lr i).2 < lr (i + 1) then lr (i + 1) else (kJ J kd st lr i).2)
theorem kJ_congr {J : Int32 → Int64 → Int64 → Int32 → Int64} {kd : Int32} {st st2 : Nat → Int64} {lr lr2 : Nat → Int32} : ∀ n : Nat, (∀ i, i ≤ n → st i = st2 i) → (∀ i, i ≤ n → lr i = lr2 i) → kJ J kd st lr n = kJ J kd st2 lr2 n
  | 0, h1, h2 => by simp only [kJ]; rw [h1 0 (Nat.le_refl 0), h2 0 (Nat.le_refl 0)]
  | n + 1, h1, h2 => by
    have ih := kJ_congr (J := J) (kd := kd) n (fun i hi => h1 i (by omega)) (fun i hi => h2 i (by omega))
    simp only [kJ]
    rw [ih, h1 (n + 1) (Nat.le_refl _), h2 (n + 1) (Nat.le_refl _)]
theorem sp_ks_joinedState {K f q : Nat} (hK : K < 100) (hf : f < 6) (hq : 1 ≤ q) (hq8 : q ≤ 8) {pc : Nat → Int32} (hpc : pc K = nI q) {S : Nat → Int64} {L kinds : Nat → Int32} {post : Int64 → Prop} (h : post (kJ cJn (kinds f) (fun i => S (cs K i f)) (fun i => L (sl K i)) (q - 1)).1) : wp_ks_joinedState (nI K) (nI f) pc S L kinds post := by
  unfold wp_ks_joinedState wp_ks_cell
  have hc0 := cs_lt hK (show 0 < 8 by omega) hf
  have hs0 := sl_lt hK (show 0 < 8 by omega)
  rw [nI_lit0, cs_nI]
  refine ⟨pk_in (cs K 0 f) 4800 hc0, fun x2 e2 => ?_⟩
  unfold wp_ks_slot
  rw [sl_nI]
  refine ⟨pk_in (sl K 0) 800 hs0, fun x4 e4 => ?_⟩
  rw [pk_cl (cs K 0 f)] at e2
  rw [pk_cl (sl K 0)] at e4
  refine hk_upE (fun i v => 1 ≤ i ∧ v.2.2 = nI i ∧ (v.1, v.2.1) = kJ cJn (kinds f) (fun i => S (cs K i f)) (fun i => L (sl K i)) (i - 1)) q 1 _ hq ⟨Nat.le_refl 1, rfl, by rw [e2, e4]; rfl⟩ ?_ ?_
  · intro i s Kk hi hs hk
    obtain ⟨a, l, v⟩ := s
    obtain ⟨h1, e, h2⟩ := hs
    have e : v = nI i := e
    subst e
    have h2 : (a, l) = kJ cJn (kinds f) (fun i => S (cs K i f)) (fun i => L (sl K i)) (i - 1) := h2
    obtain ⟨j, rfl⟩ : ∃ j, i = j + 1 := ⟨i - 1, by omega⟩
    rw [Nat.add_sub_cancel] at h2
    have hc := cs_lt hK (show j + 1 < 8 by omega) hf
    have hs1 := sl_lt hK (show j + 1 < 8 by omega)
    unfold wb_ks_joinedState_27
    refine ⟨pk_in K 100 hK, ?_⟩
    refine pk_le q (j + 1) (fun hh => absurd hh (by omega)) (fun _ => ?_) (by rw [pk_cl K]; exact hpc)
    unfold wp_ks_slot
    dsimp only
    rw [sl_nI]
    refine ⟨pk_in (sl K (j + 1)) 800 hs1, fun x8 e8 => ?_⟩
    unfold wp_ks_cell
    rw [cs_nI]
    refine ⟨pk_in (cs K (j + 1) f) 4800 hc, ?_⟩
    rw [pk_cl (sl K (j + 1))] at e8
    subst e8
    rw [pk_cl (cs K (j + 1) f)]
    have ea : a = (kJ cJn (kinds f) (fun i => S (cs K i f)) (fun i => L (sl K i)) j).1 := by rw [← h2]
    have el : l = (kJ cJn (kinds f) (fun i => S (cs K i f)) (fun i => L (sl K i)) j).2 := by rw [← h2]
    refine ⟨fun c => ?_, fun c => ?_⟩
    · refine sp_fo_joined hf (fun x12 e12 x13 e13 => hk _ ⟨by omega, by rw [e13]; exact nI_1 (j + 1), ?_⟩)
      rw [Nat.add_sub_cancel]
      show (_, _) = kJ cJn (kinds f) _ _ (j + 1)
      simp only [kJ]
      rw [← el, ← ea, if_pos c, e12]
    · refine sp_fo_joined hf (fun x12 e12 x13 e13 => hk _ ⟨by omega, by rw [e13]; exact nI_1 (j + 1), ?_⟩)
      rw [Nat.add_sub_cancel]
      show (_, _) = kJ cJn (kinds f) _ _ (j + 1)
      simp only [kJ]
      rw [← el, ← ea, if_neg c, e12]
  · intro s Kk hs
    obtain ⟨a, l, v⟩ := s
    obtain ⟨h1, e, h2⟩ := hs
    have e : v = nI q := e
    subst e
    have h2 : (a, l) = kJ cJn (kinds f) (fun i => S (cs K i f)) (fun i => L (sl K i)) (q - 1) := h2
    unfold wb_ks_joinedState_27
    refine ⟨pk_in K 100 hK, ?_⟩
    refine pk_le q q (fun _ => ?_) (fun hh => absurd hh (by omega)) (by rw [pk_cl K]; exact hpc)
    rw [← h2] at h
    exact h
/-- the latest of the first n rows -/
def mR (lr : Nat → Int32) : Nat → Int32
  | 0 => -1
  | i + 1 => if mR lr i < lr i then lr i else mR lr i
theorem sp_ks_joinedLatestRow {K q : Nat} (hK : K < 100) (hq8 : q ≤ 8) {pc : Nat → Int32} (hpc : pc K = nI q) {L : Nat → Int32} {post : Int32 → Prop} (h : post (mR (fun i => L (sl K i)) q)) : wp_ks_joinedLatestRow (nI K) pc L post := by
  unfold wp_ks_joinedLatestRow
  refine hk_upE (fun i v => v.2 = nI i ∧ v.1 = mR (fun i => L (sl K i)) i) q 0 _ (Nat.zero_le _) ⟨rfl, rfl⟩ ?_ ?_
  · intro i s Kk hi hs hk
    obtain ⟨a, v⟩ := s
    obtain ⟨e, h2⟩ := hs
    have e : v = nI i := e
    have h2 : a = _ := h2
    subst e
    subst h2
    have hs1 := sl_lt hK (show i < 8 by omega)
    unfold wb_ks_joinedLatestRow_4
    refine ⟨pk_in K 100 hK, ?_⟩
    refine pk_le q i (fun hh => absurd hh (by omega)) (fun _ => ?_) (by rw [pk_cl K]; exact hpc)
    unfold wp_ks_slot
    dsimp only
    rw [sl_nI, pk_cl (sl K i)]
    exact ⟨pk_in (sl K i) 800 hs1, fun x4 e4 x5 e5 => hk _ ⟨by rw [e5]; exact nI_1 i, e4⟩⟩
  · intro s Kk hs
    obtain ⟨a, v⟩ := s
    obtain ⟨e, h2⟩ := hs
    have e : v = nI q := e
    have h2 : a = _ := h2
    subst e
    subst h2
    unfold wb_ks_joinedLatestRow_4
    exact ⟨pk_in K 100 hK, pk_le q q (fun _ => h) (fun hh => absurd hh (by omega)) (by rw [pk_cl K]; exact hpc)⟩
theorem sp_ks_emptyKey {K F q : Nat} (hK : K < 100) (hF : F ≤ 6) (hq8 : q ≤ 8) {pc : Nat → Int32} (hpc : pc K = nI q) {S V : Nat → Int64} {L kinds : Nat → Int32} {post : (Nat → Int64) × (Nat → Int32) × (Nat → Int64) → Prop} (h : ∀ (S2 : Nat → Int64) (L2 : Nat → Int32), (∀ k i f, k < 100 → i < 8 → f < 6 → S2 (cs k i f) = if k = K ∧ i < q ∧ f < F then eV (kinds f) else S (cs k i f)) → (∀ k i, k < 100 → i < 8 → L2 (sl k i) = if k = K ∧ i < q then -1 else L (sl k i)) → post (S2, L2, vp_updL V K NO)) : wp_ks_emptyKey (nI K) pc S L V kinds (nI F) post := by
  unfold wp_ks_emptyKey
  refine hk_upE (fun j v => v.1 = nI j ∧ (∀ k i f, k < 100 → i < 8 → f < 6 → v.2.1 (cs k i f) = if k = K ∧ i < j ∧ f < F then eV (kinds f) else S (cs k i f)) ∧ (∀ k i, k < 100 → i < 8 → v.2.2 (sl k i) = if k = K ∧ i < j then -1 else L (sl k i))) q 0 _ (Nat.zero_le _) ⟨rfl, fun k i f _ _ _ => by rw [if_neg (by omega)], fun k i _ _ => by rw [if_neg (by omega)]⟩ ?_ ?_
  · intro j s Kk hj hs hk
    obtain ⟨v, S1, L1⟩ := s
    obtain ⟨e, h2, h3⟩ := hs
    have e : v = nI j := e
    subst e
    have h2 : ∀ k i f, k < 100 → i < 8 → f < 6 → S1 (cs k i f) = if k = K ∧ i < j ∧ f < F then eV (kinds f) else S (cs k i f) := h2
    have h3 : ∀ k i, k < 100 → i < 8 → L1 (sl k i) = if k = K ∧ i < j then -1 else L (sl k i) := h3
    unfold wb_ks_emptyKey_2
    dsimp only
    refine ⟨pk_in K 100 hK, ?_⟩
    refine pk_le q j (fun hh => absurd hh (by omega)) (fun _ => ?_) (by rw [pk_cl K]; exact hpc)
    refine sp_ks_emptyPart hK (by omega) hF (fun S2 L2 g1 g2 x4 e4 => hk _ ⟨by rw [e4]; exact nI_1 j, fun k i f hk hi hf => ?_, fun k i hk hi => ?_⟩)
    · show S2 _ = _
      rw [g1 k i f hk hi hf, h2 k i f hk hi hf]
      by_cases c : k = K ∧ i = j ∧ f < F
      · rw [if_pos c, if_pos (by omega)]
      · rw [if_neg c]; exact if_iff (by omega)
    · show L2 _ = _
      rw [g2 k i hk hi, h3 k i hk hi]
      by_cases c : k = K ∧ i = j
      · rw [if_pos c, if_pos (by omega)]
      · rw [if_neg c]; exact if_iff (by omega)
  · intro s Kk hs
    obtain ⟨v, S1, L1⟩ := s
    obtain ⟨e, h2, h3⟩ := hs
    have e : v = nI q := e
    subst e
    unfold wb_ks_emptyKey_2
    dsimp only
    refine ⟨pk_in K 100 hK, ?_⟩
    refine pk_le q q (fun _ => ?_) (fun hh => absurd hh (by omega)) (by rw [pk_cl K]; exact hpc)
    refine ⟨pk_in K 100 hK, ?_⟩
    rw [pk_cl K]
    exact h S1 L1 h2 h3
theorem sp_ks_breakUp {K F q : Nat} (hK : K < 100) (hF : F ≤ 6) (hq : 1 ≤ q) (hq8 : q ≤ 8) {pc : Nat → Int32} {S : Nat → Int64} {L kinds : Nat → Int32} {post : (Nat → Int32) × (Nat → Int64) × (Nat → Int32) → Prop} (h : ∀ (S2 : Nat → Int64) (L2 : Nat → Int32), (∀ k i f, k < 100 → i < 8 → f < 6 → S2 (cs k i f) = if k = K ∧ (1 ≤ i ∧ i < q) ∧ f < F then eV (kinds f) else S (cs k i f)) → (∀ k i, k < 100 → i < 8 → L2 (sl k i) = if k = K ∧ (1 ≤ i ∧ i < q) then -1 else L (sl k i)) → post (upd pc K (nI q), S2, L2)) : wp_ks_breakUp (nI K) (nI q) pc S L kinds (nI F) post := by
  unfold wp_ks_breakUp
  refine hk_upE (fun j v => 1 ≤ j ∧ v.1 = nI j ∧ (∀ k i f, k < 100 → i < 8 → f < 6 → v.2.1 (cs k i f) = if k = K ∧ (1 ≤ i ∧ i < j) ∧ f < F then eV (kinds f) else S (cs k i f)) ∧ (∀ k i, k < 100 → i < 8 → v.2.2 (sl k i) = if k = K ∧ (1 ≤ i ∧ i < j) then -1 else L (sl k i))) q 1 _ hq ⟨Nat.le_refl 1, rfl, fun k i f _ _ _ => by rw [if_neg (by omega)], fun k i _ _ => by rw [if_neg (by omega)]⟩ ?_ ?_
  · intro j s Kk hj hs hk
    obtain ⟨v, S1, L1⟩ := s
    obtain ⟨h1, e, h2, h3⟩ := hs
    have e : v = nI j := e
    subst e
    have h2 : ∀ k i f, k < 100 → i < 8 → f < 6 → S1 (cs k i f) = if k = K ∧ (1 ≤ i ∧ i < j) ∧ f < F then eV (kinds f) else S (cs k i f) := h2
    have h3 : ∀ k i, k < 100 → i < 8 → L1 (sl k i) = if k = K ∧ (1 ≤ i ∧ i < j) then -1 else L (sl k i) := h3
    unfold wb_ks_breakUp_2
    dsimp only
    refine pk_le q j (fun hh => absurd hh (by omega)) (fun _ => ?_)
    refine sp_ks_emptyPart hK (by omega) hF (fun S2 L2 g1 g2 x4 e4 => hk _ ⟨by omega, by rw [e4]; exact nI_1 j, fun k i f hk hi hf => ?_, fun k i hk hi => ?_⟩)
    · show S2 _ = _
      rw [g1 k i f hk hi hf, h2 k i f hk hi hf]
      by_cases c : k = K ∧ i = j ∧ f < F
      · rw [if_pos c, if_pos (by omega)]
      · rw [if_neg c]; exact if_iff (by omega)
    · show L2 _ = _
      rw [g2 k i hk hi, h3 k i hk hi]
      by_cases c : k = K ∧ i = j
      · rw [if_pos c, if_pos (by omega)]
      · rw [if_neg c]; exact if_iff (by omega)
  · intro s Kk hs
    obtain ⟨v, S1, L1⟩ := s
    obtain ⟨h1, e, h2, h3⟩ := hs
    have e : v = nI q := e
    subst e
    unfold wb_ks_breakUp_2
    dsimp only
    refine pk_le q q (fun _ => ?_) (fun hh => absurd hh (by omega))
    refine ⟨pk_in K 100 hK, ?_⟩
    rw [pk_cl K]
    exact h S1 L1 h2 h3
