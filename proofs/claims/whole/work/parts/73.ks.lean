theorem cs_nI0 (k f : Nat) : (nI k * 8 + 0) * 6 + nI f = nI (cs k 0 f) := cs_nI k 0 f
theorem sl_nI0 (k : Nat) : nI k * 8 + 0 = nI (sl k 0) := sl_nI k 0
theorem sp_ks_cell0 {k f : Nat} {post : Int32 → Prop} (h : post (nI (cs k 0 f))) : wp_ks_cell (nI k) 0 (nI f) post := by
  unfold wp_ks_cell
  rw [cs_nI0]
  exact h
theorem sp_ks_slot0 {k : Nat} {post : Int32 → Prop} (h : post (nI (sl k 0))) : wp_ks_slot (nI k) 0 post := by
  unfold wp_ks_slot
  rw [sl_nI0]
  exact h
def cntR (lr : Nat → Int32) : Nat → Int32
  | 0 => 0
  | i + 1 => if lr (i + 1) = -1 then cntR lr i else cntR lr i + 1
theorem sp_ks_bringBack {K F q : Nat} (hK : K < 100) (hF : F ≤ 6) (hq : 1 ≤ q) (hq8 : q ≤ 8) {pc : Nat → Int32} (hpc : pc K = nI q) {S : Nat → Int64} {L kinds : Nat → Int32} {moved : Int32} {post : Int32 → (Nat → Int32) × (Nat → Int64) × (Nat → Int32) × Int32 → Prop} (h : ∀ S2 : Nat → Int64, (∀ k i f, k < 100 → i < 8 → f < 6 → S2 (cs k i f) = if k = K ∧ i = 0 ∧ f < F then (kJ cJn (kinds f) (fun i => S (cs K i f)) (fun i => L (sl K i)) (q - 1)).1 else S (cs k i f)) → post (cntR (fun i => L (sl K i)) (q - 1)) (upd pc K 1, S2, upd L (sl K 0) (mR (fun i => L (sl K i)) q), moved + cntR (fun i => L (sl K i)) (q - 1))) : wp_ks_bringBack (nI K) pc S L moved kinds (nI F) post := by
  unfold wp_ks_bringBack
  refine hk_upE (fun j v => 1 ≤ j ∧ v.2 = nI j ∧ v.1 = cntR (fun i => L (sl K i)) (j - 1)) q 1 _ hq ⟨Nat.le_refl 1, rfl, rfl⟩ ?_ ?_
  · intro j s Kk hj hs hk
    obtain ⟨a, v⟩ := s
    obtain ⟨h1, e, h2⟩ := hs
    have e : v = nI j := e
    have h2 : a = _ := h2
    subst e
    obtain ⟨i, rfl⟩ : ∃ i, j = i + 1 := ⟨j - 1, by omega⟩
    rw [Nat.add_sub_cancel] at h2
    have h2 : a = cntR (fun i => L (sl K i)) i := h2
    have hs1 := sl_lt hK (show i + 1 < 8 by omega)
    unfold wb_ks_bringBack_4
    dsimp only
    refine ⟨pk_in K 100 hK, ?_⟩
    refine pk_le q (i + 1) (fun hh => absurd hh (by omega)) (fun _ => ?_) (by rw [ncl K]; exact hpc)
    unfold wp_ks_slot
    dsimp only
    rw [sl_nI, ncl (sl K (i + 1))]
    refine ⟨pk_in (sl K (i + 1)) 800 hs1, fun c x13 e13 => hk _ ⟨by omega, by rw [e13]; exact nI_1 (i + 1), ?_⟩, fun c x14 e14 x15 e15 => hk _ ⟨by omega, by rw [e15]; exact nI_1 (i + 1), ?_⟩⟩
    · rw [Nat.add_sub_cancel]; show a = cntR _ (i + 1); simp only [cntR]; rw [if_pos c, h2]
    · rw [Nat.add_sub_cancel]; show x14 = cntR _ (i + 1); simp only [cntR]; rw [if_neg c, e14, h2]
  · intro s Kk hs
    obtain ⟨a, v⟩ := s
    obtain ⟨h1, e, h2⟩ := hs
    have e : v = nI q := e
    have h2 : a = _ := h2
    subst e
    subst h2
    unfold wb_ks_bringBack_4
    dsimp only
    refine ⟨pk_in K 100 hK, ?_⟩
    refine pk_le q q (fun _ => ?_) (fun hh => absurd hh (by omega)) (by rw [ncl K]; exact hpc)
    refine hk_upE (fun j v => v.1 = nI j ∧ ∀ k i f, k < 100 → i < 8 → f < 6 → v.2 (cs k i f) = if k = K ∧ i = 0 ∧ f < j then (kJ cJn (kinds f) (fun i => S (cs K i f)) (fun i => L (sl K i)) (q - 1)).1 else S (cs k i f)) F 0 _ (Nat.zero_le _) ⟨rfl, fun k i f _ _ _ => by rw [if_neg (by omega)]⟩ ?_ ?_
    · intro j s Kk hj hs hk
      obtain ⟨v, S1⟩ := s
      obtain ⟨e, h2⟩ := hs
      have e : v = nI j := e
      subst e
      have h2 : ∀ k i f, k < 100 → i < 8 → f < 6 → S1 (cs k i f) = if k = K ∧ i = 0 ∧ f < j then (kJ cJn (kinds f) (fun i => S (cs K i f)) (fun i => L (sl K i)) (q - 1)).1 else S (cs k i f) := h2
      have hc := cs_lt hK (show 0 < 8 by omega) (show j < 6 by omega)
      unfold wb_ks_bringBack_39
      dsimp only
      refine pk_le F j (fun hh => absurd hh (by omega)) (fun _ => ?_)
      refine sp_ks_cell0 ?_
      refine sp_ks_joinedState hK (by omega) hq hq8 hpc ⟨pk_in (cs K 0 j) 4800 hc, fun x10 e10 => hk _ ⟨by rw [e10]; exact nI_1 j, fun k i f hk hi hf => ?_⟩⟩
      show vp_updL S1 _ _ _ = _
      rw [ncl (cs K 0 j), updL_at, if_iff (cs_eq hi hf (by omega) (by omega)), h2 k i f hk hi hf]
      by_cases c : k = K ∧ i = 0 ∧ f = j
      · rw [if_pos c, if_pos (by omega), c.2.2]
        exact congrArg Prod.fst (kJ_congr (q - 1) (fun i hi => by rw [h2 K i j hK (by omega) (by omega), if_neg (by omega)]) (fun _ _ => rfl))
      · rw [if_neg c]; exact if_iff (by omega)
    · intro s Kk hs
      obtain ⟨v, S1⟩ := s
      obtain ⟨e, h2⟩ := hs
      have e : v = nI F := e
      subst e
      have hc := sl_lt hK (show 0 < 8 by omega)
      unfold wb_ks_bringBack_39
      dsimp only
      refine pk_le F F (fun _ => ?_) (fun hh => absurd hh (by omega))
      refine sp_ks_slot0 ?_
      refine sp_ks_joinedLatestRow hK hq8 hpc ⟨pk_in (sl K 0) 800 hc, pk_in K 100 hK, fun x7 e7 => ?_⟩
      rw [ncl (sl K 0), ncl K, e7]
      exact h S1 h2
theorem nI_m6 (k f : Nat) : nI k * 6 + nI f = nI (k * 6 + f) := by
  rw [show (6 : Int32) = nI 6 from rfl, pk_mul, nI_add]
theorem sp_ks_holdIn {F : Nat} (hF : F ≤ 6) {pc : Nat → Int32} (Q : Nat → Nat) (hpc : ∀ k, k < 100 → pc k = nI (Q k) ∧ 1 ≤ Q k ∧ Q k ≤ 8) {S V MS MV : Nat → Int64} {L kinds ML : Nat → Int32} {post : (Nat → Int64) × (Nat → Int32) × (Nat → Int64) → Prop} (h : ∀ (S2 : Nat → Int64) (L2 : Nat → Int32) (V2 : Nat → Int64), (∀ k f, k < 100 → f < F → S2 (k * 6 + f) = (kJ cJn (kinds f) (fun i => S (cs k i f)) (fun i => L (sl k i)) (Q k - 1)).1) → (∀ k, k < 100 → L2 k = mR (fun i => L (sl k i)) (Q k)) → (∀ k, k < 100 → V2 k = V k) → post (S2, L2, V2)) : wp_ks_holdIn pc S L V kinds (nI F) MS ML MV post := by
  unfold wp_ks_holdIn
  refine hk_upE (fun j v => v.1 = nI j ∧ (∀ k f, k < j → f < F → v.2.1 (k * 6 + f) = (kJ cJn (kinds f) (fun i => S (cs k i f)) (fun i => L (sl k i)) (Q k - 1)).1) ∧ (∀ k, k < j → v.2.2.1 k = mR (fun i => L (sl k i)) (Q k)) ∧ (∀ k, k < j → v.2.2.2 k = V k)) 100 0 _ (Nat.zero_le _) ⟨rfl, fun k f hk _ => absurd hk (Nat.not_lt_zero _), fun k hk => absurd hk (Nat.not_lt_zero _), fun k hk => absurd hk (Nat.not_lt_zero _)⟩ ?_ ?_
  · intro j s Kk hj hs hk
    obtain ⟨v, S1, L1, V1⟩ := s
    obtain ⟨e, h2, h3, h4⟩ := hs
    have e : v = nI j := e
    subst e
    have h2 : ∀ k f, k < j → f < F → S1 (k * 6 + f) = (kJ cJn (kinds f) (fun i => S (cs k i f)) (fun i => L (sl k i)) (Q k - 1)).1 := h2
    have h3 : ∀ k, k < j → L1 k = mR (fun i => L (sl k i)) (Q k) := h3
    have h4 : ∀ k, k < j → V1 k = V k := h4
    obtain ⟨p1, p2, p3⟩ := hpc j hj
    unfold wb_ks_holdIn_2
    dsimp only
    refine pk_le 100 j (fun hh => absurd hh (by omega)) (fun _ => ?_)
    refine hk_upE (fun g w => w.1 = nI g ∧ (∀ k f, k < j → f < F → w.2 (k * 6 + f) = (kJ cJn (kinds f) (fun i => S (cs k i f)) (fun i => L (sl k i)) (Q k - 1)).1) ∧ (∀ f, f < g → w.2 (j * 6 + f) = (kJ cJn (kinds f) (fun i => S (cs j i f)) (fun i => L (sl j i)) (Q j - 1)).1)) F 0 _ (Nat.zero_le _) ⟨rfl, h2, fun f hf => absurd hf (Nat.not_lt_zero _)⟩ ?_ ?_
    · intro g s Kg hg hs hkg
      obtain ⟨v, S3⟩ := s
      obtain ⟨e, g2, g3⟩ := hs
      have e : v = nI g := e
      subst e
      have g2 : ∀ k f, k < j → f < F → S3 (k * 6 + f) = (kJ cJn (kinds f) (fun i => S (cs k i f)) (fun i => L (sl k i)) (Q k - 1)).1 := g2
      have g3 : ∀ f, f < g → S3 (j * 6 + f) = (kJ cJn (kinds f) (fun i => S (cs j i f)) (fun i => L (sl j i)) (Q j - 1)).1 := g3
      unfold wb_ks_holdIn_10
      dsimp only
      refine pk_le F g (fun hh => absurd hh (by omega)) (fun _ => ?_)
      rw [nI_m6]
      refine sp_ks_joinedState hj (by omega) p2 p3 p1 ⟨pk_in (j * 6 + g) 600 (by omega), fun x9 e9 => hkg _ ⟨by rw [e9]; exact nI_1 g, fun k f hk hf => ?_, fun f hf => ?_⟩⟩
      · show vp_updL S3 _ _ _ = _
        rw [ncl (j * 6 + g), updL_at, if_neg (by omega)]
        exact g2 k f hk hf
      · show vp_updL S3 _ _ _ = _
        rw [ncl (j * 6 + g), updL_at]
        by_cases c : f = g
        · subst c; rw [if_pos rfl]
        · rw [if_neg (by omega)]; exact g3 f (by omega)
    · intro s Kg hs
      obtain ⟨v, S3⟩ := s
      obtain ⟨e, g2, g3⟩ := hs
      have e : v = nI F := e
      subst e
      have g2 : ∀ k f, k < j → f < F → S3 (k * 6 + f) = (kJ cJn (kinds f) (fun i => S (cs k i f)) (fun i => L (sl k i)) (Q k - 1)).1 := g2
      have g3 : ∀ f, f < F → S3 (j * 6 + f) = (kJ cJn (kinds f) (fun i => S (cs j i f)) (fun i => L (sl j i)) (Q j - 1)).1 := g3
      unfold wb_ks_holdIn_10
      dsimp only
      refine pk_le F F (fun _ => ?_) (fun hh => absurd hh (by omega))
      refine sp_ks_joinedLatestRow hj p3 p1 ⟨pk_in j 100 hj, pk_in j 100 hj, fun x6 e6 => ⟨pk_in j 100 hj, fun x7 e7 => hk _ ⟨by rw [e7]; exact nI_1 j, fun k f hk hf => ?_, fun k hk => ?_, fun k hk => ?_⟩⟩⟩
      · show S3 _ = _
        by_cases c : k = j
        · subst c; exact g3 f hf
        · exact g2 k f (by omega) hf
      · show upd L1 _ _ k = _
        rw [ncl j, upd_at]
        by_cases c : k = j
        · subst c; rw [if_pos rfl]
        · rw [if_neg c]; exact h3 k (by omega)
      · show vp_updL V1 _ _ k = _
        rw [ncl j] at e6
        rw [ncl j, updL_at]
        by_cases c : k = j
        · subst c; rw [if_pos rfl, e6]
        · rw [if_neg c]; exact h4 k (by omega)
  · intro s Kk hs
    obtain ⟨v, S1, L1, V1⟩ := s
    obtain ⟨e, h2, h3, h4⟩ := hs
    have e : v = nI 100 := e
    subst e
    unfold wb_ks_holdIn_2
    exact pk_le 100 100 (fun _ => h S1 L1 V1 h2 h3 h4) (fun hh => absurd hh (by omega))
theorem sp_ks_takeFrom {F : Nat} (hF : F ≤ 6) {S V MS MV : Nat → Int64} {L ML : Nat → Int32} {post : (Nat → Int32) × (Nat → Int64) × (Nat → Int32) × (Nat → Int64) → Prop} (h : ∀ (S2 : Nat → Int64) (L2 : Nat → Int32) (V2 : Nat → Int64), (∀ k f, k < 100 → f < F → S2 (cs k 0 f) = MS (k * 6 + f)) → (∀ k, k < 100 → L2 (sl k 0) = ML k) → (∀ k, k < 100 → V2 k = MV k) → post (fun _ => 1, S2, L2, V2)) : wp_ks_takeFrom S L V (nI F) MS ML MV post := by
  unfold wp_ks_takeFrom wp_ks_makeAllOne
  refine hk_upE (fun j v => v.1 = nI j ∧ (∀ k f, k < j → f < F → v.2.1 (cs k 0 f) = MS (k * 6 + f)) ∧ (∀ k, k < j → v.2.2.1 (sl k 0) = ML k) ∧ (∀ k, k < j → v.2.2.2 k = MV k)) 100 0 _ (Nat.zero_le _) ⟨rfl, fun k f hk _ => absurd hk (Nat.not_lt_zero _), fun k hk => absurd hk (Nat.not_lt_zero _), fun k hk => absurd hk (Nat.not_lt_zero _)⟩ ?_ ?_
  · intro j s Kk hj hs hk
    obtain ⟨v, S1, L1, V1⟩ := s
    obtain ⟨e, h2, h3, h4⟩ := hs
    have e : v = nI j := e
    subst e
    have h2 : ∀ k f, k < j → f < F → S1 (cs k 0 f) = MS (k * 6 + f) := h2
    have h3 : ∀ k, k < j → L1 (sl k 0) = ML k := h3
    have h4 : ∀ k, k < j → V1 k = MV k := h4
    unfold wb_ks_takeFrom_6
    dsimp only
    refine pk_le 100 j (fun hh => absurd hh (by omega)) (fun _ => ?_)
    refine hk_upE (fun g w => w.1 = nI g ∧ (∀ k f, k < j → f < F → w.2 (cs k 0 f) = MS (k * 6 + f)) ∧ (∀ f, f < g → w.2 (cs j 0 f) = MS (j * 6 + f))) F 0 _ (Nat.zero_le _) ⟨rfl, h2, fun f hf => absurd hf (Nat.not_lt_zero _)⟩ ?_ ?_
    · intro g s Kg hg hs hkg
      obtain ⟨v, S3⟩ := s
      obtain ⟨e, g2, g3⟩ := hs
      have e : v = nI g := e
      subst e
      have g2 : ∀ k f, k < j → f < F → S3 (cs k 0 f) = MS (k * 6 + f) := g2
      have g3 : ∀ f, f < g → S3 (cs j 0 f) = MS (j * 6 + f) := g3
      have hc := cs_lt hj (show 0 < 8 by omega) (show g < 6 by omega)
      unfold wb_ks_takeFrom_14
      dsimp only
      refine pk_le F g (fun hh => absurd hh (by omega)) (fun _ => ?_)
      unfold wp_ks_cell
      dsimp only
      rw [nI_m6, cs_nI0]
      refine ⟨pk_in (j * 6 + g) 600 (by omega), fun x11 e11 => ⟨pk_in (cs j 0 g) 4800 hc, fun x12 e12 => hkg _ ⟨by rw [e12]; exact nI_1 g, fun k f hk hf => ?_, fun f hf => ?_⟩⟩⟩
      · show vp_updL S3 _ _ _ = _
        rw [ncl (cs j 0 g), updL_at, if_iff (cs_eq (by omega) (by omega) (by omega) (by omega)), if_neg (by omega)]
        exact g2 k f hk hf
      · show vp_updL S3 _ _ _ = _
        rw [ncl (j * 6 + g)] at e11
        rw [ncl (cs j 0 g), updL_at, if_iff (cs_eq (by omega) (by omega) (by omega) (by omega))]
        by_cases c : f = g
        · subst c; rw [if_pos (by omega), e11]
        · rw [if_neg (by omega)]; exact g3 f (by omega)
    · intro s Kg hs
      obtain ⟨v, S3⟩ := s
      obtain ⟨e, g2, g3⟩ := hs
      have e : v = nI F := e
      subst e
      have g2 : ∀ k f, k < j → f < F → S3 (cs k 0 f) = MS (k * 6 + f) := g2
      have g3 : ∀ f, f < F → S3 (cs j 0 f) = MS (j * 6 + f) := g3
      have hc := sl_lt hj (show 0 < 8 by omega)
      unfold wb_ks_takeFrom_14
      dsimp only
      refine pk_le F F (fun _ => ?_) (fun hh => absurd hh (by omega))
      unfold wp_ks_slot
      dsimp only
      rw [sl_nI0]
      refine ⟨pk_in j 100 hj, fun x7 e7 => ⟨pk_in (sl j 0) 800 hc, pk_in j 100 hj, fun x8 e8 => ⟨pk_in j 100 hj, fun x9 e9 => hk _ ⟨by rw [e9]; exact nI_1 j, fun k f hk hf => ?_, fun k hk => ?_, fun k hk => ?_⟩⟩⟩⟩
      · show S3 _ = _
        by_cases c : k = j
        · subst c; exact g3 f hf
        · exact g2 k f (by omega) hf
      · show upd L1 _ _ _ = _
        rw [ncl j] at e7
        rw [ncl (sl j 0), upd_at, if_iff (sl_eq (by omega) (by omega))]
        by_cases c : k = j
        · subst c; rw [if_pos (by omega), e7]
        · rw [if_neg (by omega)]; exact h3 k (by omega)
      · show vp_updL V1 _ _ k = _
        rw [ncl j] at e8
        rw [ncl j, updL_at]
        by_cases c : k = j
        · subst c; rw [if_pos rfl, e8]
        · rw [if_neg c]; exact h4 k (by omega)
  · intro s Kk hs
    obtain ⟨v, S1, L1, V1⟩ := s
    obtain ⟨e, h2, h3, h4⟩ := hs
    have e : v = nI 100 := e
    subst e
    unfold wb_ks_takeFrom_6
    exact pk_le 100 100 (fun _ => h S1 L1 V1 h2 h3 h4) (fun hh => absurd hh (by omega))
theorem sp_ks_take {K I F : Nat} (hK : K < 100) (hI : I < 8) (hF : F ≤ 6) {row v : Int32} {S V : Nat → Int64} {L kinds : Nat → Int32} {post : (Nat → Int64) × (Nat → Int32) × (Nat → Int64) → Prop} (h : ∀ S2 : Nat → Int64, (∀ k i f, k < 100 → i < 8 → f < 6 → S2 (cs k i f) = if k = K ∧ i = I ∧ f < F then cF (kinds f) (S (cs K I f)) v (V K) else S (cs k i f)) → post (S2, upd L (sl K I) row, vp_updL V K v.toInt64)) : wp_ks_take (nI K) (nI I) row v S L V kinds (nI F) post := by
  unfold wp_ks_take
  refine hk_upE (fun j w => w.1 = nI j ∧ ∀ k i f, k < 100 → i < 8 → f < 6 → w.2 (cs k i f) = if k = K ∧ i = I ∧ f < j then cF (kinds f) (S (cs K I f)) v (V K) else S (cs k i f)) F 0 _ (Nat.zero_le _) ⟨rfl, fun k i f _ _ _ => by rw [if_neg (by omega)]⟩ ?_ ?_
  · intro j s Kk hj hs hk
    obtain ⟨w, S1⟩ := s
    obtain ⟨e, h2⟩ := hs
    have e : w = nI j := e
    subst e
    have h2 : ∀ k i f, k < 100 → i < 8 → f < 6 → S1 (cs k i f) = if k = K ∧ i = I ∧ f < j then cF (kinds f) (S (cs K I f)) v (V K) else S (cs k i f) := h2
    have hc := cs_lt hK hI (show j < 6 by omega)
    unfold wb_ks_take_3
    dsimp only
    refine pk_le F j (fun hh => absurd hh (by omega)) (fun _ => ?_)
    unfold wp_ks_cell
    dsimp only
    rw [cs_nI]
    refine ⟨pk_in (cs K I j) 4800 hc, pk_in K 100 hK, ?_⟩
    refine sp_fo_folded (by omega) ⟨pk_in (cs K I j) 4800 hc, fun x6 e6 => hk _ ⟨by rw [e6]; exact nI_1 j, fun k i f hk hi hf => ?_⟩⟩
    show vp_updL S1 _ _ _ = _
    rw [ncl (cs K I j), ncl K, updL_at, if_iff (cs_eq hi hf hI (by omega)), h2 k i f hk hi hf, h2 K I j hK hI (by omega)]
    by_cases c : k = K ∧ i = I ∧ f = j
    · rw [if_pos c, if_neg (by omega), if_pos (by omega), c.2.2]
    · rw [if_neg c]; exact if_iff (by omega)
  · intro s Kk hs
    obtain ⟨w, S1⟩ := s
    obtain ⟨e, h2⟩ := hs
    have e : w = nI F := e
    subst e
    have hc := sl_lt hK hI
    unfold wb_ks_take_3
    dsimp only
    refine pk_le F F (fun _ => ?_) (fun hh => absurd hh (by omega))
    unfold wp_ks_slot
    dsimp only
    rw [sl_nI]
    refine ⟨pk_in (sl K I) 800 hc, pk_in K 100 hK, ?_⟩
    rw [ncl (sl K I), ncl K]
    exact h S1 h2
theorem sp_ks_startFold {g : Nat} (hg : g < 6) {S : Nat → Int64} {kinds : Nat → Int32} {post : (Nat → Int64) → Prop} (h : ∀ S2 : Nat → Int64, (∀ k i f, k < 100 → i < 8 → f < 6 → S2 (cs k i f) = if i = 0 ∧ f = g then eV (kinds g) else S (cs k i f)) → post S2) : wp_ks_startFold (nI g) S kinds post := by
  unfold wp_ks_startFold
  refine hk_upE (fun j w => w.1 = nI j ∧ ∀ k i f, k < 100 → i < 8 → f < 6 → w.2 (cs k i f) = if k < j ∧ i = 0 ∧ f = g then eV (kinds g) else S (cs k i f)) 100 0 _ (Nat.zero_le _) ⟨rfl, fun k i f _ _ _ => by rw [if_neg (by omega)]⟩ ?_ ?_
  · intro j s Kk hj hs hk
    obtain ⟨w, S1⟩ := s
    obtain ⟨e, h2⟩ := hs
    have e : w = nI j := e
    subst e
    have h2 : ∀ k i f, k < 100 → i < 8 → f < 6 → S1 (cs k i f) = if k < j ∧ i = 0 ∧ f = g then eV (kinds g) else S (cs k i f) := h2
    have hc := cs_lt hj (show 0 < 8 by omega) hg
    unfold wb_ks_startFold_2
    dsimp only
    refine pk_le 100 j (fun hh => absurd hh (by omega)) (fun _ => ?_)
    unfold wp_ks_cell
    dsimp only
    rw [cs_nI0]
    refine sp_fo_emptyState hg ⟨pk_in (cs j 0 g) 4800 hc, fun x5 e5 => hk _ ⟨by rw [e5]; exact nI_1 j, fun k i f hk hi hf => ?_⟩⟩
    show vp_updL S1 _ _ _ = _
    rw [ncl (cs j 0 g), updL_at, if_iff (cs_eq hi hf (by omega) hg), h2 k i f hk hi hf]
    by_cases c : k = j ∧ i = 0 ∧ f = g
    · rw [if_pos c, if_pos (by omega)]
    · rw [if_neg c]; exact if_iff (by omega)
  · intro s Kk hs
    obtain ⟨w, S1⟩ := s
    obtain ⟨e, h2⟩ := hs
    have e : w = nI 100 := e
    subst e
    unfold wb_ks_startFold_2
    refine pk_le 100 100 (fun _ => ?_) (fun hh => absurd hh (by omega))
    refine h S1 (fun k i f hk hi hf => ?_)
    rw [show S1 (cs k i f) = _ from h2 k i f hk hi hf]
    exact if_iff (by omega)
def nSp (pc : Nat → Int32) : Nat → Int32
  | 0 => 0
  | i + 1 => if pc i ≤ 1 then nSp pc i else nSp pc i + 1
theorem sp_ks_splitKeys {pc : Nat → Int32} {post : Int32 → Prop} (h : post (nSp pc 100)) : wp_ks_splitKeys pc post := by
  unfold wp_ks_splitKeys
  refine hk_upE (fun j w => w.2 = nI j ∧ w.1 = nSp pc j) 100 0 _ (Nat.zero_le _) ⟨rfl, rfl⟩ ?_ ?_
  · intro j s Kk hj hs hk
    obtain ⟨a, w⟩ := s
    obtain ⟨e, h2⟩ := hs
    have e : w = nI j := e
    have h2 : a = _ := h2
    subst e
    subst h2
    unfold wb_ks_splitKeys_4
    dsimp only
    refine pk_le 100 j (fun hh => absurd hh (by omega)) (fun _ => ?_)
    unfold wp_ks_isSplit
    dsimp only
    rw [ncl j]
    refine ⟨pk_in j 100 hj, fun c => ⟨fun _ x5 e5 => hk _ ⟨by rw [e5]; exact nI_1 j, ?_⟩, fun c2 => absurd rfl c2⟩, fun c => ⟨fun c2 => absurd c2 (by decide), fun _ x6 e6 x7 e7 => hk _ ⟨by rw [e7]; exact nI_1 j, ?_⟩⟩⟩
    · show nSp pc j = nSp pc (j + 1); simp only [nSp]; rw [if_pos c]
    · show x6 = nSp pc (j + 1); simp only [nSp]; rw [if_neg c, e6]
  · intro s Kk hs
    obtain ⟨a, w⟩ := s
    obtain ⟨e, h2⟩ := hs
    have e : w = nI 100 := e
    have h2 : a = _ := h2
    subst e
    subst h2
    unfold wb_ks_splitKeys_4
    exact pk_le 100 100 (fun _ => h) (fun hh => absurd hh (by omega))
