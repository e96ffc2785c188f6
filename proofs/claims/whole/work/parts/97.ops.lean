/-- the lines of the log after a ring -/
theorem sp_x_ring {F K q w : Nat} (hK : K < 100) (hF : F ≤ 6) (hq : 1 ≤ q) (hq8 : q ≤ 8) (hw : w < 64) {pc L kc : Nat → Int32} (hpc : pc K = nI q) {cells S V : Nat → Int64} {tm kept : Int32} {post : (Nat → Int64) × Int32 × Int32 × (Nat → Int64) × (Nat → Int32) × (Nat → Int64) → Prop} (h : ∀ (cells2 S2 : Nat → Int64) (L2 : Nat → Int32), (∀ j, ¬ (8 * ((w + 1) % 64) ≤ j ∧ j < 8 * ((w + 1) % 64) + 8) → cells2 j = cells j) → cells2 (8 * ((w + 1) % 64)) = (nI K).toInt64 → cells2 (8 * ((w + 1) % 64) + 1) = tm.toInt64 → (∀ f, f < 6 → cells2 (8 * ((w + 1) % 64) + 2 + f) = if f < F then (kJ cJn (kc f) (fun i => S (cs K i f)) (fun i => L (sl K i)) (q - 1)).1 else NO) → (∀ k i f, k < 100 → i < 8 → f < 6 → S2 (cs k i f) = if k = K ∧ i < q ∧ f < F then eV (kc f) else S (cs k i f)) → (∀ k i, k < 100 → i < 8 → L2 (sl k i) = if k = K ∧ i < q then -1 else L (sl k i)) → post (cells2, nI ((w + 1) % 64), (if 64 < (kept + 1) then 64 else (kept + 1)), S2, L2, vp_updL V K NO)) : wp_x_ring (nI K) tm cells (nI w) kept pc S L V kc (nI F) post := by
  obtain ⟨u, eu⟩ : ∃ u, u = (w + 1) % 64 := ⟨_, rfl⟩
  have hu : u < 64 := by rw [eu]; exact Nat.mod_lt _ (by omega)
  rw [← eu] at h
  unfold wp_x_ring wp_lg_open
  intro x1 e1 x2 e2 x3 e3
  rw [nI_1, show (64 : Int32) = nI 64 from rfl, pk_rem (by omega) (by omega) (by omega), ← eu] at e1
  subst e1
  rw [show (8 : Int32) = nI 8 from rfl, pk_mul, Nat.mul_comm] at e3
  subst e3
  rw [show (8 : Int32) = nI 8 from rfl, show (2 : Int32) = nI 2 from rfl, nI_1, nI_add, nI_add, ncl (8 * u), ncl (8 * u + 1), ncl (8 * u + 2), ncl (8 * u + 8)]
  refine ⟨pk_in (8 * u) 512 (by omega), pk_in (8 * u + 1) 512 (by omega), nI_nlt (by omega) (by omega), nI_pos (by omega), by omega, ?_⟩
  subst e2
  refine hk_upE (fun j v => v.1 = nI j ∧ (∀ n, ¬ (8 * u ≤ n ∧ n < 8 * u + 8) → v.2 n = cells n) ∧ v.2 (8 * u) = (nI K).toInt64 ∧ v.2 (8 * u + 1) = tm.toInt64 ∧ ∀ f, f < 6 → v.2 (8 * u + 2 + f) = if f < j then (kJ cJn (kc f) (fun i => S (cs K i f)) (fun i => L (sl K i)) (q - 1)).1 else NO) F 0 _ (Nat.zero_le _) ⟨rfl, fun n hn => ?_, ?_, ?_, fun f hf => ?_⟩ ?_ ?_
  · show hk_fillr _ _ _ _ n = _
    unfold hk_fillr
    rw [if_neg (by omega), pk_uLn (by omega), pk_uLn (by omega)]
  · show hk_fillr _ _ _ _ (8 * u) = _
    unfold hk_fillr
    rw [if_neg (by omega), pk_uLn (by omega), pk_uLs]
  · show hk_fillr _ _ _ _ (8 * u + 1) = _
    unfold hk_fillr
    rw [if_neg (by omega), pk_uLs]
  · show hk_fillr _ _ _ _ (8 * u + 2 + f) = _
    unfold hk_fillr
    rw [if_pos (by omega), if_neg (by omega)]
  · rintro j ⟨v, c⟩ Kk hj ⟨e, d1, d2, d3, d4⟩ hk
    have e : v = nI j := e
    subst e
    dsimp only at d1 d2 d3 d4
    unfold wb_x_ring_13
    dsimp only
    refine pk_le F j (fun z => absurd z (by omega)) (fun _ => sp_ks_joinedState hK (by omega) hq hq8 hpc ?_)
    unfold wp_lg_write
    rw [show (2 : Int32) = nI 2 from rfl, nI_add, nI_add, ncl (8 * u + 2 + j)]
    refine ⟨pk_in (8 * u + 2 + j) 512 (by omega), fun x8 e8 => hk _ ⟨by rw [e8]; exact nI_1 j, fun n hn => ?_, ?_, ?_, fun f hf => ?_⟩⟩
    · show vp_updL c (8 * u + 2 + j) _ n = _
      rw [pk_uLn (by omega)]
      exact d1 n hn
    · show vp_updL c (8 * u + 2 + j) _ (8 * u) = _
      rw [pk_uLn (by omega)]
      exact d2
    · show vp_updL c (8 * u + 2 + j) _ (8 * u + 1) = _
      rw [pk_uLn (by omega)]
      exact d3
    · show vp_updL c (8 * u + 2 + j) _ (8 * u + 2 + f) = _
      by_cases cf : f = j
      · subst cf
        rw [pk_uLs, if_pos (by omega)]
      · rw [pk_uLn (by omega), d4 f hf]
        exact if_iff (by omega)
  · rintro ⟨v, c⟩ Kk ⟨e, d1, d2, d3, d4⟩
    have e : v = nI F := e
    subst e
    dsimp only at d1 d2 d3 d4
    unfold wb_x_ring_13
    dsimp only
    exact pk_le F F (fun _ => sp_ks_emptyKey hK hF hq8 hpc (fun S2 L2 g1 g2 => h c S2 L2 d1 d2 d3 d4 g1 g2)) (fun z => absurd z (by omega))
theorem rep_at {k t : Nat → Int32} {a b : List (Int32 × Int32)} {x : Int32 × Int32} (h : rep k t (a ++ x :: b)) : k a.length = x.1 ∧ t a.length = x.2 := by
  have := h a.length (by rw [List.length_append, List.length_cons]; omega)
  rw [List.getElem?_append_right (Nat.le_refl _), Nat.sub_self, List.getElem?_cons_zero] at this
  have e := Option.some.inj this
  exact ⟨by rw [e], by rw [e]⟩
theorem rep_rm {k t k2 t2 : Nat → Int32} {a b : List (Int32 × Int32)} {x : Int32 × Int32} (h : rep k t (a ++ x :: b)) (hk : ∀ i, k2 i = if a.length ≤ i ∧ i < (a ++ b).length then k (i + 1) else k i) (ht : ∀ i, t2 i = if a.length ≤ i ∧ i < (a ++ b).length then t (i + 1) else t i) : rep k2 t2 (a ++ b) := by
  intro i hi
  rw [hk i, ht i]
  by_cases c : a.length ≤ i
  · rw [if_pos ⟨c, hi⟩, if_pos ⟨c, hi⟩]
    rw [List.length_append] at hi
    have := h (i + 1) (by rw [List.length_append, List.length_cons]; omega)
    rw [List.getElem?_append_right (by omega), show i + 1 - a.length = (i - a.length) + 1 by omega, List.getElem?_cons_succ] at this
    rw [List.getElem?_append_right c]
    exact this
  · rw [if_neg (fun z => c z.1), if_neg (fun z => c z.1)]
    have := h i (by rw [List.length_append, List.length_cons]; omega)
    rw [List.getElem?_append_left (by omega)] at this
    rw [List.getElem?_append_left (by omega)]
    exact this
/-- the model's ring -/
theorem sp_d_ring {F K q g : Nat} {a b : List (Int32 × Int32)} {x : Int32 × Int32} (hK : K < 100) (hF : F ≤ 6) (hq : 1 ≤ q) (hq8 : q ≤ 8) (hg : g < 2 ^ 30) {dp Ld hv tc kd tk tt lk lt : Nat → Int32} (hdp : dp K = nI q) {D ls : Nat → Int64} (hl : (a ++ x :: b).length ≤ 40) (hr : rep tk tt (a ++ x :: b)) (hx : x.1 = nI K) {post : (Nat → Int64) × (Nat → Int32) × (Nat → Int32) × (Nat → Int32) × Int32 × (Nat → Int32) × (Nat → Int32) × Int32 × (Nat → Int32) × (Nat → Int32) × (Nat → Int64) → Prop} (h : ∀ (D2 : Nat → Int64) (Ld2 hv2 tc2 tk2 tt2 : Nat → Int32) (ls2 : Nat → Int64), (∀ k i f, k < 100 → i < 8 → f < 6 → D2 (dx k i f) = if k = K ∧ i < q ∧ f < F then eV (kd f) else D (dx k i f)) → (∀ k i, k < 100 → i < 8 → Ld2 (dl k i) = if k = K ∧ i < q then -1 else Ld (dl k i)) → (∀ k i, k < 100 → i < 8 → hv2 (dl k i) = if k = K ∧ i < q then 0 else hv (dl k i)) → (∀ k i, k < 100 → i < 8 → tc2 (dl k i) = if k = K ∧ i < q then 0 else tc (dl k i)) → rep tk2 tt2 (a ++ b) → (∀ n, ¬ (6 * (g % 64) ≤ n ∧ n < 6 * (g % 64) + 6) → ls2 n = ls n) → (∀ f, f < 6 → ls2 (6 * (g % 64) + f) = if f < F then (kJ dJn (kd f) (fun i => D (dx K i f)) (fun i => Ld (dl K i)) (q - 1)).1 else NO) → post (D2, Ld2, hv2, tc2, nI (a ++ b).length, tk2, tt2, nI (g + 1), upd lk (g % 64) (nI K), upd lt (g % 64) x.2, ls2)) : wp_d_ring (nI a.length) (nI F) kd D Ld hv tc dp (nI (a ++ x :: b).length) tk tt (nI g) lk lt ls post := by
  obtain ⟨u, eu⟩ : ∃ u, u = g % 64 := ⟨_, rfl⟩
  have hu : u < 64 := by rw [eu]; exact Nat.mod_lt _ (by omega)
  rw [← eu] at h
  have hla : (a ++ x :: b).length = (a ++ b).length + 1 := by
    rw [List.length_append, List.length_append, List.length_cons]
    omega
  have hla2 : a.length ≤ (a ++ b).length := by
    rw [List.length_append]
    omega
  obtain ⟨m, em⟩ : ∃ m, m = a.length := ⟨_, rfl⟩
  obtain ⟨n, en⟩ : ∃ n, n = (a ++ b).length := ⟨_, rfl⟩
  rw [hla, ← en] at hl ⊢
  obtain ⟨r1, r2⟩ := rep_at hr
  rw [← em] at r1 r2
  rw [← em, ← en] at hla2
  rw [← em]
  rw [← en] at h
  unfold wp_d_ring
  rw [ncl m]
  refine ⟨pk_in m 40 (by omega), ?_⟩
  rw [r1, r2, hx]
  intro x1 e1 x2 e2
  rw [show (64 : Int32) = nI 64 from rfl, pk_rem (by omega) (by omega) (by omega), ← eu] at e2
  subst e1
  subst e2
  refine ⟨pk_in u 64 hu, pk_in m 40 (by omega), fun x3 e3 => ⟨pk_in u 64 hu, ?_⟩⟩
  subst e3
  refine hk_upE (fun j v => v.1 = nI j ∧ (∀ n, ¬ (6 * u ≤ n ∧ n < 6 * u + 6) → v.2 n = ls n) ∧ ∀ f, f < j → v.2 (6 * u + f) = if f < F then (kJ dJn (kd f) (fun i => D (dx K i f)) (fun i => Ld (dl K i)) (q - 1)).1 else NO) 6 0 _ (Nat.zero_le _) ⟨rfl, fun n _ => rfl, fun f hf => absurd hf (Nat.not_lt_zero _)⟩ ?_ ?_
  · rintro j ⟨v, c⟩ Kk hj ⟨e, d1, d2⟩ hk
    have e : v = nI j := e
    subst e
    unfold wb_d_ring_37
    dsimp only
    rw [show (6 * nI u + nI j : Int32) = nI (6 * u + j) by rw [show (6 : Int32) = nI 6 from rfl, pk_mul, nI_add], ncl (6 * u + j)]
    have upd1 : ∀ z : Int64, (z = if j < F then (kJ dJn (kd j) (fun i => D (dx K i j)) (fun i => Ld (dl K i)) (q - 1)).1 else NO) → (∀ n, ¬ (6 * u ≤ n ∧ n < 6 * u + 6) → vp_updL c (6 * u + j) z n = ls n) ∧ ∀ f, f < j + 1 → vp_updL c (6 * u + j) z (6 * u + f) = if f < F then (kJ dJn (kd f) (fun i => D (dx K i f)) (fun i => Ld (dl K i)) (q - 1)).1 else NO := fun z hz => by
      refine ⟨fun n hn => ?_, fun f hf => ?_⟩
      · rw [pk_uLn (by omega)]
        exact d1 n hn
      · by_cases cf : f = j
        · subst cf
          rw [pk_uLs]
          exact hz
        · rw [pk_uLn (by omega)]
          exact d2 f (by omega)
    refine pk_le 6 j (fun z => absurd z (by omega)) (fun _ => pk_le F j (fun c1 => ⟨pk_in (6 * u + j) 384 (by omega), fun x18 e18 => hk _ ⟨by rw [e18]; exact nI_1 j, upd1 _ (by rw [if_neg (by omega)])⟩⟩) (fun c1 => sp_d_come hK (by omega) hq hq8 hdp ⟨pk_in (6 * u + j) 384 (by omega), fun x20 e20 => hk _ ⟨by rw [e20]; exact nI_1 j, upd1 _ (by rw [if_pos c1])⟩⟩))
  · rintro ⟨v, c⟩ Kk ⟨e, d1, d2⟩
    have e : v = nI 6 := e
    subst e
    unfold wb_d_ring_37
    dsimp only
    refine pk_le 6 6 (fun _ x6 e6 => ?_) (fun z => absurd z (by omega))
    rw [nI_1] at e6
    subst e6
    refine hk_upE (fun j v => v.1 = nI j ∧ (∀ k i f, k < 100 → i < 8 → f < 6 → v.2.1 (dx k i f) = if k = K ∧ i < j ∧ f < F then eV (kd f) else D (dx k i f)) ∧ (∀ k i, k < 100 → i < 8 → v.2.2.1 (dl k i) = if k = K ∧ i < j then -1 else Ld (dl k i)) ∧ (∀ k i, k < 100 → i < 8 → v.2.2.2.1 (dl k i) = if k = K ∧ i < j then 0 else hv (dl k i)) ∧ (∀ k i, k < 100 → i < 8 → v.2.2.2.2 (dl k i) = if k = K ∧ i < j then 0 else tc (dl k i))) q 0 _ (Nat.zero_le _) ⟨rfl, fun k i f _ _ _ => by rw [if_neg (by omega)], fun k i _ _ => by rw [if_neg (by omega)], fun k i _ _ => by rw [if_neg (by omega)], fun k i _ _ => by rw [if_neg (by omega)]⟩ ?_ ?_
    · rintro j ⟨v, D', Ld', hv', tc'⟩ Kk hj ⟨e, f1, f2, f3, f4⟩ hk
      have e : v = nI j := e
      subst e
      dsimp only at f1 f2 f3 f4
      unfold wb_d_ring_97
      dsimp only
      rw [ncl K, hdp]
      refine ⟨pk_in K 100 hK, pk_le q j (fun z => absurd z (by omega)) (fun _ => sp_d_empty hK (by omega) hF (fun S2 g1 x16 e16 => hk _ ⟨by rw [e16]; exact nI_1 j, fun k i f k1 i1 f1' => ?_, fun k i k1 i1 => ?_, fun k i k1 i1 => ?_, fun k i k1 i1 => ?_⟩))⟩
      · show S2 (dx k i f) = _
        rw [g1 k i f k1 i1 f1']
        by_cases c1 : k = K ∧ i = j ∧ f < F
        · rw [if_pos c1, if_pos (by omega)]
        · rw [if_neg c1, f1 k i f k1 i1 f1']
          exact if_iff (by omega)
      all_goals
        show upd _ (dl K j) _ (dl k i) = _
        by_cases c1 : k = K ∧ i = j
        · obtain ⟨rfl, rfl⟩ := c1
          rw [pk_us, if_pos (by omega)]
        · rw [pk_un (fun z => c1 ((dl_eq k1 hK).mp z))]
          first
          | rw [f2 k i k1 i1]; exact if_iff (by omega)
          | rw [f3 k i k1 i1]; exact if_iff (by omega)
          | rw [f4 k i k1 i1]; exact if_iff (by omega)
    · rintro ⟨v, D', Ld', hv', tc'⟩ Kk ⟨e, f1, f2, f3, f4⟩
      have e : v = nI q := e
      subst e
      dsimp only at f1 f2 f3 f4
      unfold wb_d_ring_97
      dsimp only
      rw [ncl K, hdp]
      refine ⟨pk_in K 100 hK, pk_le q q (fun _ x9 e9 => ?_) (fun z => absurd z (by omega))⟩
      rw [nI_pred] at e9
      subst e9
      refine hk_upE (fun j v => (v.1 = nI j ∧ m ≤ j) ∧ (∀ i, v.2.1 i = if m ≤ i ∧ i < j then tk (i + 1) else tk i) ∧ ∀ i, v.2.2 i = if m ≤ i ∧ i < j then tt (i + 1) else tt i) n m _ hla2 ⟨⟨rfl, Nat.le_refl _⟩, fun i => by rw [if_neg (by omega)], fun i => by rw [if_neg (by omega)]⟩ ?_ ?_
      · rintro j ⟨v, k', t'⟩ Kk hj ⟨⟨e, hmj⟩, g1, g2⟩ hk
        have e : v = nI j := e
        subst e
        have g1 : ∀ i, k' i = if m ≤ i ∧ i < j then tk (i + 1) else tk i := g1
        have g2 : ∀ i, t' i = if m ≤ i ∧ i < j then tt (i + 1) else tt i := g2
        unfold wb_d_ring_134
        dsimp only
        rw [nI_1, ncl (j + 1), ncl j]
        refine pk_le n j (fun z => absurd z (by omega)) (fun _ => ⟨pk_in (j + 1) 40 (by omega), fun x12 e12 => ⟨pk_in j 40 (by omega), pk_in (j + 1) 40 (by omega), fun x13 e13 => ⟨pk_in j 40 (by omega), fun x14 e14 => hk _ ⟨⟨e14, by omega⟩, fun i => ?_, fun i => ?_⟩⟩⟩⟩)
        · show upd k' j x12 i = _
          by_cases ci : i = j
          · subst ci
            rw [pk_us, e12, g1, if_neg (by omega), if_pos (by omega)]
          · rw [pk_un ci, g1 i]
            exact if_iff (by omega)
        · show upd t' j x13 i = _
          by_cases ci : i = j
          · subst ci
            rw [pk_us, e13, g2, if_neg (by omega), if_pos (by omega)]
          · rw [pk_un ci, g2 i]
            exact if_iff (by omega)
      · rintro ⟨v, k', t'⟩ Kk ⟨⟨e, -⟩, g1, g2⟩
        have e : v = nI n := e
        subst e
        unfold wb_d_ring_134
        dsimp only
        rw [ncl u]
        refine pk_le n n (fun _ => h D' Ld' hv' tc' k' t' c f1 f2 f3 f4 (rep_rm hr (fun i => ?_) (fun i => ?_)) d1 d2) (fun z => absurd z (by omega))
        · rw [← em, ← en]
          exact g1 i
        · rw [← em, ← en]
          exact g2 i
/-- what the model takes to be due -/
def dueS (l : List (Int32 × Int32)) (p due : Int32) : Prop := (due = -1 ∧ ∀ y, y ∈ l → p < y.2) ∨ ∃ a x b, l = a ++ x :: b ∧ due = nI a.length ∧ ¬ p < x.2 ∧ (∀ y, y ∈ a → x.2 < y.2) ∧ (∀ y, y ∈ b → x.2 ≤ y.2)
theorem rep_mem {k t : Nat → Int32} {l : List (Int32 × Int32)} (h : rep k t l) {y : Int32 × Int32} (hy : y ∈ l) : ∃ i, i < l.length ∧ y = (k i, t i) := by
  obtain ⟨i, hi, e⟩ := List.mem_iff_getElem.mp hy
  have := h i hi
  rw [List.getElem?_eq_getElem hi] at this
  exact ⟨i, hi, by rw [← e]; exact Option.some.inj this⟩
theorem due_of {k t : Nat → Int32} {l : List (Int32 × Int32)} {p : Int32} (h : rep k t l) {m : Nat} (hm : m < l.length) (h1 : ¬ p < t m) (h2 : ∀ i, i < m → t m < t i) (h3 : ∀ i, m < i → i < l.length → t m ≤ t i) : dueS l p (nI m) := by
  refine Or.inr ⟨l.take m, (k m, t m), l.drop (m + 1), ?_, ?_, h1, fun y hy => ?_, fun y hy => ?_⟩
  · have e := h m hm
    rw [List.getElem?_eq_getElem hm] at e
    have e2 := List.drop_eq_getElem_cons hm
    rw [Option.some.inj e] at e2
    rw [← e2, List.take_append_drop]
  · rw [List.length_take, Nat.min_eq_left (by omega)]
  · obtain ⟨i, hi, e⟩ := List.mem_iff_getElem.mp hy
    rw [List.length_take] at hi
    rw [List.getElem_take] at e
    have e3 := h i (by omega)
    rw [List.getElem?_eq_getElem (by omega), e] at e3
    rw [Option.some.inj e3]
    exact h2 i (by omega)
  · obtain ⟨i, hi, e⟩ := List.mem_iff_getElem.mp hy
    rw [List.length_drop] at hi
    rw [List.getElem_drop] at e
    have e3 := h (m + 1 + i) (by omega)
    rw [List.getElem?_eq_getElem (by omega), e] at e3
    rw [Option.some.inj e3]
    exact h3 (m + 1 + i) (by omega) (by omega)
theorem sp_d_due {k t : Nat → Int32} {l : List (Int32 × Int32)} {p : Int32} (hl : l.length ≤ 40) (h : rep k t l) {post : Int32 → Prop} (hp : ∀ due, dueS l p due → post due) : wp_d_due p (nI l.length) t post := by
  unfold wp_d_due
  refine hk_upE (fun j v => v.2 = nI j ∧ ((v.1 = -1 ∧ ∀ i, i < j → p < t i) ∨ ∃ m, m < j ∧ v.1 = nI m ∧ ¬ p < t m ∧ (∀ i, i < m → t m < t i) ∧ (∀ i, m < i → i < j → t m ≤ t i))) l.length 0 _ (Nat.zero_le _) ⟨rfl, Or.inl ⟨rfl, fun i hi => absurd hi (Nat.not_lt_zero _)⟩⟩ ?_ ?_
  · rintro j ⟨d, v⟩ Kk hj ⟨e, hh⟩ hk
    have e : v = nI j := e
    subst e
    have hh : (d = -1 ∧ ∀ i, i < j → p < t i) ∨ ∃ m, m < j ∧ d = nI m ∧ ¬ p < t m ∧ (∀ i, i < m → t m < t i) ∧ (∀ i, m < i → i < j → t m ≤ t i) := hh
    unfold wb_d_due_4
    dsimp only
    rw [ncl j]
    refine pk_le l.length j (fun z => absurd z (by omega)) (fun _ => ⟨pk_in j 40 (by omega), fun c x5 e5 => hk _ ⟨by rw [e5]; exact nI_1 j, ?_⟩, fun c => ⟨fun c2 x8 e8 => hk _ ⟨by rw [e8]; exact nI_1 j, ?_⟩, fun c2 => ⟨pk_in j 40 (by omega), ?_, ?_⟩⟩⟩)
    · rcases hh with ⟨rfl, h1⟩ | ⟨m, hm, rfl, h1, h2, h3⟩
      · refine Or.inl ⟨rfl, fun i hi => ?_⟩
        by_cases ci : i = j
        · subst ci; exact c
        · exact h1 i (by omega)
      · refine Or.inr ⟨m, by omega, rfl, h1, h2, fun i hi hi2 => ?_⟩
        by_cases ci : i = j
        · subst ci; exact Int32.le_trans (Int32.not_lt.mp h1) (Int32.le_of_lt c)
        · exact h3 i hi (by omega)
    · rcases hh with ⟨rfl, h1⟩ | ⟨m, hm, rfl, h1, h2, h3⟩
      · exact Or.inr ⟨j, by omega, rfl, c, fun i hi => Int32.lt_of_le_of_lt (Int32.not_lt.mp c) (h1 i hi), fun i hi hi2 => absurd hi (by omega)⟩
      · exact absurd c2 (nI_pos (by omega))
    · intro c3
      rcases hh with ⟨rfl, h1⟩ | ⟨m, hm, rfl, h1, h2, h3⟩
      · exact absurd c3 (by decide)
      · unfold wj_d_due_45
        dsimp only
        rw [ncl m, ncl j]
        refine ⟨pk_in m 40 (by omega), fun c4 x13 e13 => hk _ ⟨by rw [e13]; exact nI_1 j, Or.inr ⟨m, by omega, rfl, h1, h2, fun i hi hi2 => ?_⟩⟩, fun c4 x15 e15 => hk _ ⟨by rw [e15]; exact nI_1 j, Or.inr ⟨j, by omega, rfl, c, fun i hi => ?_, fun i hi hi2 => absurd hi (by omega)⟩⟩⟩
        · by_cases ci : i = j
          · subst ci; exact c4
          · exact h3 i hi (by omega)
        · have hlt := Int32.not_le.mp c4
          rcases Nat.lt_trichotomy i m with z | z | z
          · exact Int32.lt_trans hlt (h2 i z)
          · subst z; exact hlt
          · exact Int32.lt_of_lt_of_le hlt (h3 i z (by omega))
    · intro c3
      exact absurd (Int32.not_lt.mp c2) c3
  · rintro ⟨d, v⟩ Kk ⟨e, hh⟩
    have e : v = nI l.length := e
    subst e
    unfold wb_d_due_4
    dsimp only
    refine pk_le l.length l.length (fun _ => hp d ?_) (fun z => absurd z (by omega))
    rcases hh with ⟨e, h1⟩ | ⟨m, hm, e, h1, h2, h3⟩
    · have e : d = -1 := e
      subst e
      refine Or.inl ⟨rfl, fun y hy => ?_⟩
      obtain ⟨i, hi, e⟩ := rep_mem h hy
      rw [e]
      exact h1 i hi
    · have e : d = nI m := e
      subst e
      exact due_of h hm h1 h2 h3
/-! sorting -/
theorem mem_tIns {x y : Int32 × Int32} : ∀ {s : List (Int32 × Int32)}, y ∈ tIns x s → y = x ∨ y ∈ s
  | [], h => by
    unfold tIns at h
    exact Or.inl (List.mem_singleton.mp h)
  | z :: s, h => by
    unfold tIns at h
    split at h
    · rcases List.mem_cons.mp h with e | e
      · exact Or.inl e
      · exact Or.inr e
    · rcases List.mem_cons.mp h with e | e
      · exact Or.inr (by rw [e]; exact List.mem_cons_self)
      · rcases mem_tIns e with e | e
        · exact Or.inl e
        · exact Or.inr (List.mem_cons_of_mem _ e)
theorem mem_tFold {y : Int32 × Int32} : ∀ (l s : List (Int32 × Int32)), y ∈ l.foldl (fun s x => tIns x s) s → y ∈ l ∨ y ∈ s
  | [], s, h => Or.inr h
  | x :: l, s, h => by
    rw [List.foldl_cons] at h
    rcases mem_tFold l _ h with e | e
    · exact Or.inl (List.mem_cons_of_mem _ e)
    · rcases mem_tIns e with e | e
      · exact Or.inl (by rw [e]; exact List.mem_cons_self)
      · exact Or.inr e
theorem mem_tSort {y : Int32 × Int32} {l : List (Int32 × Int32)} (h : y ∈ tSort l) : y ∈ l := by
  rcases mem_tFold l [] h with e | e
  · exact e
  · exact absurd e (by simp)
theorem tIns_lt {x : Int32 × Int32} : ∀ {s : List (Int32 × Int32)}, (∀ y, y ∈ s → x.2 < y.2) → tIns x s = x :: s
  | [], _ => rfl
  | z :: s, h => by
    unfold tIns
    rw [if_pos (h z List.mem_cons_self)]
theorem tFold_ge {x : Int32 × Int32} : ∀ (b s : List (Int32 × Int32)), (∀ y, y ∈ b → x.2 ≤ y.2) → b.foldl (fun s x => tIns x s) (x :: s) = x :: b.foldl (fun s x => tIns x s) s
  | [], s, _ => rfl
  | y :: b, s, h => by
    rw [List.foldl_cons, List.foldl_cons]
    have : tIns y (x :: s) = x :: tIns y s := by
      have := Int32.not_lt.mpr (h y List.mem_cons_self)
      simp only [tIns]
      rw [if_neg this]
    rw [this, tFold_ge b _ (fun z hz => h z (List.mem_cons_of_mem _ hz))]
theorem tSort_rm {a b : List (Int32 × Int32)} {x : Int32 × Int32} (ha : ∀ y, y ∈ a → x.2 < y.2) (hb : ∀ y, y ∈ b → x.2 ≤ y.2) : tSort (a ++ x :: b) = x :: tSort (a ++ b) := by
  unfold tSort
  have e := tIns_lt (x := x) (s := tSort a) (fun y hy => ha y (mem_tSort hy))
  unfold tSort at e
  rw [List.foldl_append, List.foldl_append, List.foldl_cons, e, tFold_ge b _ hb]
/-- states after a ring -/
theorem keyR_empty {F N q k : Nat} {kc : Nat → Int32} {S D : Nat → Int64} {L Ld tc : Nat → Int32} (hN : N ≤ 450) (hj : q = 1 ∨ ∀ f, f < F → jk (kc f)) (hS : ∀ f i, f < F → i < q → S (cs k i f) = eV (kc f)) (hD : ∀ f i, f < F → i < q → D (dx k i f) = eV (kc f)) (hL : ∀ i, i < q → L (sl k i) = -1) (hLd : ∀ i, i < q → Ld (dl k i) = -1) (htc : ∀ i, i < q → tc (dl k i) = 0) (hq : 1 ≤ q) : keyR F N kc q k S L D Ld tc := by
  refine ⟨hj, fun f hf i hi => by rw [hS f i hf hi, hD f i hf hi], fun f hf => ?_, ⟨fun i hi => ?_, fun i h1 hi => ?_, Or.inl ?_⟩, fun i hi => ?_, fun i h1 hi => ?_⟩
  · obtain ⟨v1, v2, v3⟩ := eV_jk (kd := kc f)
    refine ⟨fun c => ?_, fun c i hi => ?_, fun c i hi => ?_, fun c i hi => ?_⟩
    · have : ∀ n, n < q → absS (fun i => S (cs k i f)) n = 0 := by
        intro n
        induction n with
        | zero => intro hn; show (S _).toInt.natAbs = 0; rw [hS f 0 hf hn, v1 c]; rfl
        | succ n ih => intro hn; show absS _ n + (S _).toInt.natAbs = 0; rw [ih (by omega), hS f (n + 1) hf hn, v1 c]; rfl
      rw [this (q - 1) (by omega)]
      omega
    · show inV (S _)
      rw [hS f i hf (by omega), v2 c]
      exact Or.inl rfl
    · show 0 ≤ (S _).toInt ∧ (S _).toInt < 65536
      rw [hS f i hf (by omega), v3 c]
      decide
    · show S _ = NO ↔ L _ = -1
      rw [hS f i hf (by omega), v2 (Or.inr (Or.inr c)), hL i (by omega)]
      exact ⟨fun _ => rfl, fun _ => rfl⟩
  · show -1 ≤ L _
    rw [hL i (by omega)]
    decide
  · show Ld _ = L _
    rw [hL i (by omega), hLd i (by omega)]
  · show Ld _ = L _
    rw [hL 0 (by omega), hLd 0 (by omega)]
  · rw [hL i hi]
    exact m1_lt hN
  · rw [htc i hi, hL i hi]
    exact ⟨fun _ => rfl, fun _ => rfl⟩
theorem ksR_empty {F P N K q : Nat} {kc kd pc L L2 dp Ld tc Ld2 tc2 : Nat → Int32} {S D S2 D2 : Nat → Int64} (r : ksR F P N kc kd pc S L dp D Ld tc) (hpc : pc K = nI q) (hq8 : q ≤ 8) (g1 : ∀ k i f, k < 100 → i < 8 → f < 6 → S2 (cs k i f) = if k = K ∧ i < q ∧ f < F then eV (kc f) else S (cs k i f)) (g2 : ∀ k i, k < 100 → i < 8 → L2 (sl k i) = if k = K ∧ i < q then -1 else L (sl k i)) (f1 : ∀ k i f, k < 100 → i < 8 → f < 6 → D2 (dx k i f) = if k = K ∧ i < q ∧ f < F then eV (kd f) else D (dx k i f)) (f2 : ∀ k i, k < 100 → i < 8 → Ld2 (dl k i) = if k = K ∧ i < q then -1 else Ld (dl k i)) (f4 : ∀ k i, k < 100 → i < 8 → tc2 (dl k i) = if k = K ∧ i < q then 0 else tc (dl k i)) : ksR F P N kc kd pc S2 L2 dp D2 Ld2 tc2 := by
  obtain ⟨hF, hP2, hP8, hN, hkd, hk⟩ := r
  refine ⟨hF, hP2, hP8, hN, hkd, fun k hk1 => ?_⟩
  obtain ⟨q0, b1, b2, b3, b4, b5⟩ := hk k hk1
  refine ⟨q0, b1, b2, b3, b4, ?_⟩
  by_cases c : k = K
  · subst c
    have : q0 = q := (nI_eq (by omega) (by omega)).mp (b3.symm.trans hpc)
    subst this
    exact keyR_empty hN b5.1 (fun f i hf hi => by rw [g1 k i f hk1 (by omega) (by omega), if_pos ⟨rfl, hi, hf⟩]) (fun f i hf hi => by rw [f1 k i f hk1 (by omega) (by omega), if_pos ⟨rfl, hi, hf⟩, hkd f hf]) (fun i hi => by rw [g2 k i hk1 (by omega), if_pos ⟨rfl, hi⟩]) (fun i hi => by rw [f2 k i hk1 (by omega), if_pos ⟨rfl, hi⟩]) (fun i hi => by rw [f4 k i hk1 (by omega), if_pos ⟨rfl, hi⟩]) b1
  · exact keyR_same b5 (fun f i hf hi => by rw [g1 k i f hk1 (by omega) (by omega), if_neg (fun z => c z.1)]) (fun i hi => by rw [g2 k i hk1 (by omega), if_neg (fun z => c z.1)]) (fun f i hf hi => by rw [f1 k i f hk1 (by omega) (by omega), if_neg (fun z => c z.1)]) (fun i hi => by rw [f2 k i hk1 (by omega), if_neg (fun z => c z.1)]) (fun i hi => by rw [f4 k i hk1 (by omega), if_neg (fun z => c z.1)]) b1
theorem vR_empty {F N J K q : Nat} {kc : Nat → Int32} {V : Nat → Int64} {hv lv hv2 : Nat → Int32} (r : vR F N J kc V hv lv) (hq : 1 ≤ q) (f3 : ∀ k i, k < 100 → i < 8 → hv2 (dl k i) = if k = K ∧ i < q then 0 else hv (dl k i)) : vR F N J kc (vp_updL V K NO) hv2 lv := by
  refine ⟨fun hN hJ k hk => ?_, fun c k hk => ?_⟩
  · by_cases ck : k = K
    · subst ck; exact pk_uLs
    · rw [pk_uLn ck]; exact r.1 hN hJ k hk
  · by_cases ck : k = K
    · subst ck
      have e3 : hv2 (dl k 0) = 0 := by rw [f3 k 0 hk (by omega), if_pos (show k = k ∧ 0 < q by omega)]
      rw [e3, pk_uLs, if_pos rfl]
      exact ⟨rfl, Or.inl rfl⟩
    · have e3 : hv2 (dl k 0) = hv (dl k 0) := by rw [f3 k 0 hk (by omega), if_neg (fun z => ck z.1)]
      rw [e3, pk_uLn ck]
      exact r.2 c k hk
theorem lgC_ring {cells cells2 ls ls2 : Nat → Int64} {w g K : Nat} {tm : Int32} {lk lt : Nat → Int32} {X : Nat → Int64} (hw : w < 64) (h : lgC cells w g lk lt ls) (c1 : ∀ j, ¬ (8 * ((w + 1) % 64) ≤ j ∧ j < 8 * ((w + 1) % 64) + 8) → cells2 j = cells j) (c2 : cells2 (8 * ((w + 1) % 64)) = (nI K).toInt64) (c3 : cells2 (8 * ((w + 1) % 64) + 1) = tm.toInt64) (c4 : ∀ f, f < 6 → cells2 (8 * ((w + 1) % 64) + 2 + f) = X f) (d1 : ∀ n, ¬ (6 * (g % 64) ≤ n ∧ n < 6 * (g % 64) + 6) → ls2 n = ls n) (d2 : ∀ f, f < 6 → ls2 (6 * (g % 64) + f) = X f) : lgC cells2 ((w + 1) % 64) (g + 1) (upd lk (g % 64) (nI K)) (upd lt (g % 64) tm) ls2 := by
  intro i hi hi64
  by_cases c : i = 0
  · subst c
    rw [show ((w + 1) % 64 + 64 - 0) % 64 = (w + 1) % 64 by omega, show g + 1 - 1 - 0 = g by omega, pk_us, pk_us]
    exact ⟨c2, c3, fun f hf => by rw [c4 f hf, d2 f hf]⟩
  · obtain ⟨h1, h2, h3⟩ := h (i - 1) (by omega) (by omega)
    have e1 : ((w + 1) % 64 + 64 - i) % 64 = (w + 64 - (i - 1)) % 64 := by omega
    have e2 : g + 1 - 1 - i = g - 1 - (i - 1) := by omega
    have n1 : (w + 64 - (i - 1)) % 64 ≠ (w + 1) % 64 := by omega
    have n2 : (g - 1 - (i - 1)) % 64 ≠ g % 64 := by omega
    rw [e1, e2, pk_un n2, pk_un n2, c1 _ (by omega), c1 _ (by omega)]
    exact ⟨h1, h2, fun f hf => by rw [c1 _ (by omega), d1 _ (by omega)]; exact h3 f hf⟩
theorem kept_ring {g : Nat} (hg : g < 2 ^ 30) : (if 64 < (nI (if g < 64 then g else 64) + 1) then (64 : Int32) else (nI (if g < 64 then g else 64) + 1)) = nI (if g + 1 < 64 then g + 1 else 64) := by
  by_cases c : g < 64
  · rw [if_pos c, nI_1]
    have : ¬ (64 : Int32) < nI (g + 1) := nI_nlt (b := g + 1) (a := 64) (by omega) (by omega)
    rw [if_neg this]
    by_cases c2 : g + 1 < 64
    · rw [if_pos c2]
    · rw [if_neg c2]
      congr 1
      omega
  · rw [if_neg c, if_neg (show ¬ g + 1 < 64 by omega)]
    decide
theorem dropped {s : List (Int32 × Int32)} {x : Int32 × Int32} {l : List (Int32 × Int32)} {i : Nat} (h : s.drop i = x :: l) : i < s.length ∧ s[i]? = some x ∧ s.drop (i + 1) = l := by
  have hi : i < s.length := by
    have := congrArg List.length h
    rw [List.length_drop, List.length_cons] at this
    omega
  have e := List.drop_eq_getElem_cons hi
  rw [h] at e
  have := List.cons.inj e
  exact ⟨hi, by rw [List.getElem?_eq_getElem hi, ← this.1], this.2.symm⟩
/-- a tick, i timers rang: class and model -/
def ckR (F P N J t : Nat) (kc kd pc dp lv : Nat → Int32) (s0 : List (Int32 × Int32)) (p : Int32) (i : Nat) (cells : Nat → Int64) (newest kept : Int32) (S : Nat → Int64) (L : Nat → Int32) (V : Nat → Int64) (cnt due : Int32) (D : Nat → Int64) (Ld hv tc : Nat → Int32) (n : Int32) (tk tt : Nat → Int32) (logged : Int32) (lk lt : Nat → Int32) (ls : Nat → Int64) : Prop := cnt = nI i ∧ ksR F P N kc kd pc S L dp D Ld tc ∧ vR F N J kc V hv lv ∧ (∃ w g : Nat, w < 64 ∧ g ≤ 40 * t + i ∧ newest = nI w ∧ kept = nI (if g < 64 then g else 64) ∧ logged = nI g ∧ lgC cells w g lk lt ls) ∧ (∃ l : List (Int32 × Int32), l.length ≤ 40 ∧ n = nI l.length ∧ rep tk tt l ∧ tSort l = s0.drop i ∧ (∀ x, x ∈ l → ∃ k, k < 100 ∧ x.1 = nI k) ∧ dueS l p due)
theorem op_tick {F P N J t : Nat} (ht : t < 512) {keys times kc kd pc dp L Ld hv lv tc tk tt lk lt : Nat → Int32} {cells S V D ls : Nat → Int64} {a1 count now dcount dnow newest kept logged fc d_f : Int32} (hF : fc = nI F ∧ d_f = nI F) (rt : tiR keys times count now dcount tk tt dnow) (rg : lgR t cells newest kept logged lk lt ls) (rk : ksR F P N kc kd pc S L dp D Ld tc) (rv : vR F N J kc V hv lv) {Q : (Nat → Int32) × (Nat → Int32) × Int32 × Int32 × (Nat → Int64) × Int32 × Int32 × (Nat → Int64) × (Nat → Int32) × (Nat → Int64) → (Nat → Int64) × (Nat → Int32) × (Nat → Int32) × (Nat → Int32) × Int32 × Int32 × (Nat → Int32) × (Nat → Int32) × Int32 × (Nat → Int32) × (Nat → Int32) × (Nat → Int64) → Prop} (hno : Q (keys, times, count, now, cells, newest, kept, S, L, V) (D, Ld, hv, tc, dnow, dcount, tk, tt, logged, lk, lt, ls)) (hQ : ∀ (keys2 times2 : Nat → Int32) (count2 now2 : Int32) (cells2 : Nat → Int64) (newest2 kept2 : Int32) (S2 : Nat → Int64) (L2 : Nat → Int32) (V2 D2 : Nat → Int64) (Ld2 hv2 tc2 : Nat → Int32) (dnow2 dcount2 : Int32) (tk2 tt2 : Nat → Int32) (logged2 : Int32) (lk2 lt2 : Nat → Int32) (ls2 : Nat → Int64), tiR keys2 times2 count2 now2 dcount2 tk2 tt2 dnow2 → lgR (t + 1) cells2 newest2 kept2 logged2 lk2 lt2 ls2 → ksR F P N kc kd pc S2 L2 dp D2 Ld2 tc2 → vR F N J kc V2 hv2 lv → Q (keys2, times2, count2, now2, cells2, newest2, kept2, S2, L2, V2) (D2, Ld2, hv2, tc2, dnow2, dcount2, tk2, tt2, logged2, lk2, lt2, ls2)) : wp_x_tick a1 keys times count now cells newest kept pc S L V kc fc (fun r w => wp_d_tick a1 d_f kd D Ld hv tc dp dnow dcount tk tt logged lk lt ls (fun r2 w2 => r = r2 ∧ Q w w2)) := by
  obtain ⟨rfl, rfl⟩ := hF
  obtain ⟨rfl, l0, hl, rfl, rfl, r1, r2, hkey⟩ := rt
  obtain ⟨w0, g0, hw0, hg0, rfl, rfl, rfl, hc0⟩ := rg
  have hF6 := rk.1
  by_cases hw : now ≤ a1 ∧ a1 ≤ 1000000
  · refine sp_isW_Y hw.1 hw.2 ⟨fun _ => sp_ti_dueAt hl (fun e he h1 h2 => ?_), fun z => absurd z (by decide)⟩
    have hs0 := tSort_len l0
    refine hk_upE (σ := Int32 × (Nat → Int64) × Int32 × Int32 × (Nat → Int64) × (Nat → Int32) × (Nat → Int64)) (fun i s => s.1 = nI i ∧ (∃ w, w < 64 ∧ s.2.2.1 = nI w) ∧ ∀ pd : Int32 → _ → Prop, (∀ t' : Int32 × Int32 × (Nat → Int64) × (Nat → Int32) × (Nat → Int32) × (Nat → Int32) × Int32 × (Nat → Int32) × (Nat → Int32) × Int32 × (Nat → Int32) × (Nat → Int32) × (Nat → Int64), ckR F P N J t kc kd pc dp lv (tSort l0) a1 i s.2.1 s.2.2.1 s.2.2.2.1 s.2.2.2.2.1 s.2.2.2.2.2.1 s.2.2.2.2.2.2 t'.1 t'.2.1 t'.2.2.1 t'.2.2.2.1 t'.2.2.2.2.1 t'.2.2.2.2.2.1 t'.2.2.2.2.2.2.1 t'.2.2.2.2.2.2.2.1 t'.2.2.2.2.2.2.2.2.1 t'.2.2.2.2.2.2.2.2.2.1 t'.2.2.2.2.2.2.2.2.2.2.1 t'.2.2.2.2.2.2.2.2.2.2.2.1 t'.2.2.2.2.2.2.2.2.2.2.2.2 → hk_lp (wb_d_tick_26 (nI F) kd dp a1 pd) (e - i + 1) t') → wp_d_tick a1 (nI F) kd D Ld hv tc dp now (nI l0.length) tk tt (nI g0) lk lt ls pd) e 0 _ (Nat.zero_le _) ⟨rfl, ⟨w0, hw0, rfl⟩, fun pd h => ?_⟩ ?_ ?_
    · unfold wp_d_tick
      refine ⟨fun c => absurd c (Int32.not_lt.mpr hw.1), fun _ => ⟨fun _ => sp_d_due hl r1 (fun due hd => ⟨e - 0 + 1, h _ ⟨rfl, rk, rv, ⟨w0, g0, hw0, by omega, rfl, rfl, rfl, hc0⟩, ⟨l0, hl, rfl, r1, by rw [List.drop_zero], hkey, hd⟩⟩⟩), fun z => absurd hw.2 z⟩⟩
    · rintro i ⟨v, cells', newest', kept', S', L', V'⟩ Kk hi ⟨e1, ⟨w, hw64, e2⟩, hM⟩ hk
      have e1 : v = nI i := e1
      have e2 : newest' = nI w := e2
      subst e1
      subst e2
      have hM := hM
      dsimp only at hM
      have hsi := r2 i (by omega)
      have hmem : (keys i, times i) ∈ tSort l0 := List.mem_of_getElem? hsi
      obtain ⟨K, hK, eK⟩ := hkey _ (mem_tSort hmem)
      have eK : keys i = nI K := eK
      obtain ⟨q, q1, qP, q8, b3, b4⟩ := ks_q rk hK
      unfold wb_x_tick_30
      dsimp only
      refine pk_le e i (fun z => absurd z (by omega)) (fun _ => ⟨pk_in i 40 (by omega), pk_in i 40 (by omega), ?_⟩)
      rw [ncl i, eK]
      refine sp_x_ring hK hF6 q1 q8 hw64 b3 (fun cells2 S2 L2 c1 c2 c3 c4 g1 g2 x8 e8 => hk _ ⟨by rw [e8]; exact nI_1 i, ⟨(w + 1) % 64, Nat.mod_lt _ (by omega), rfl⟩, fun pd h => hM pd (fun t' ht' => ?_)⟩)
      obtain ⟨cnt, due, D', Ld', hv', tc', n', tk', tt', logged', lk', lt', ls'⟩ := t'
      dsimp only at ht' h
      obtain ⟨e3, rk', rv', ⟨w', g, hw', hg, e4, e5, e6, hc⟩, l, hl', e7, hr', hs', hkk, hd⟩ := ht'
      have ew : w = w' := (nI_eq (by omega) (by omega)).mp e4
      subst ew
      subst e3
      subst e5
      subst e6
      subst e7
      rw [show e - i + 1 = (e - (i + 1) + 1) + 1 by omega]
      change wb_d_tick_26 (nI F) kd dp a1 pd (hk_lp (wb_d_tick_26 (nI F) kd dp a1 pd) (e - (i + 1) + 1)) (nI i, due, D', Ld', hv', tc', nI l.length, tk', tt', nI g, lk', lt', ls')
      unfold wb_d_tick_26
      dsimp only
      rcases hd with ⟨rfl, hall⟩ | ⟨a, x, b, rfl, rfl, hx1, hxa, hxb⟩
      · exfalso
        have hm2 : (keys i, times i) ∈ (tSort l0).drop i := by
          rw [List.drop_eq_getElem_cons (by omega)]
          rw [List.getElem?_eq_getElem (by omega)] at hsi
          rw [Option.some.inj hsi]
          exact List.mem_cons_self
        rw [← hs'] at hm2
        exact h1 i hi (hall _ (mem_tSort hm2))
      · rw [tSort_rm hxa hxb] at hs'
        obtain ⟨y1, y2, y3⟩ := dropped hs'.symm
        have ex : x = (keys i, times i) := Option.some.inj (y2.symm.trans hsi)
        have hla : (a ++ b).length + 1 = (a ++ x :: b).length := by
          rw [List.length_append, List.length_append, List.length_cons]
          omega
        have hpos : a.length < 2 ^ 31 := by
          rw [List.length_append] at hl'
          omega
        refine ⟨fun c => absurd c (nI_pos hpos), fun _ => sp_d_ring hK hF6 q1 q8 (by omega) b4 hl' hr' (by rw [ex]; exact eK) (fun D2 Ld2 hv2 tc2 tk2 tt2 ls2 f1 f2 f3 f4 hrep d1 d2 x7 e7 => sp_d_due (by omega) hrep (fun due2 hd2 => h _ ?_))⟩
        rw [nI_1] at e7
        refine ⟨e7, ksR_empty rk' b3 q8 g1 g2 f1 f2 f4, vR_empty rv' q1 f3, ⟨(w + 1) % 64, g + 1, Nat.mod_lt _ (by omega), by omega, rfl, kept_ring (by omega), rfl, ?_⟩, ⟨a ++ b, by omega, rfl, hrep, y3.symm, fun z hz => hkk z (by rcases List.mem_append.mp hz with u | u; exact List.mem_append.mpr (Or.inl u); exact List.mem_append.mpr (Or.inr (List.mem_cons_of_mem _ u))), hd2⟩⟩
        rw [ex]
        refine lgC_ring hw64 hc c1 c2 c3 c4 d1 (fun f hf => ?_)
        show ls2 (6 * (g % 64) + f) = _
        rw [d2 f hf]
        by_cases cf : f < F
        · rw [if_pos cf, if_pos cf, ks_joined rk' hK cf b3 q8]
        · rw [if_neg cf, if_neg cf]
    · rintro ⟨v, cells', newest', kept', S', L', V'⟩ Kk ⟨e1, ⟨w, hw64, e2⟩, hM⟩
      have e1 : v = nI e := e1
      have e2 : newest' = nI w := e2
      subst e1
      subst e2
      dsimp only at hM
      unfold wb_x_tick_30
      dsimp only
      refine pk_le e e (fun _ => ?_) (fun z => absurd z (by omega))
      unfold wp_ti_dropFirst
      intro x1 ex1
      rw [pk_sub he] at ex1
      subst ex1
      rw [ncl e, ncl (l0.length - e), show (0 : Int32).toNatClampNeg = 0 from rfl]
      refine ⟨nI_pos (by omega), by decide, nI_pos (by omega), by omega, by omega, nI_pos (by omega), by decide, nI_pos (by omega), by omega, by omega, ?_⟩
      refine hM _ (fun t' ht' => ?_)
      obtain ⟨cnt, due, D', Ld', hv', tc', n', tk', tt', logged', lk', lt', ls'⟩ := t'
      dsimp only at ht'
      obtain ⟨e3, rk', rv', ⟨w', g, hw', hg, e4, e5, e6, hc⟩, l, hl', e7, hr', hs', hkk, hd⟩ := ht'
      rw [Nat.sub_self]
      refine (show ∀ pd : Int32 → _ → Prop, wb_d_tick_26 (nI F) kd dp a1 pd (hk_lp (wb_d_tick_26 (nI F) kd dp a1 pd) 0) (cnt, due, D', Ld', hv', tc', n', tk', tt', logged', lk', lt', ls') → hk_lp (wb_d_tick_26 (nI F) kd dp a1 pd) (0 + 1) (cnt, due, D', Ld', hv', tc', n', tk', tt', logged', lk', lt', ls') from fun pd h => h) _ ?_
      unfold wb_d_tick_26
      dsimp only
      rcases hd with ⟨rfl, hall⟩ | ⟨a, x, b, rfl, rfl, hx1, hxa, hxb⟩
      · refine ⟨fun _ => ⟨e3.symm, hQ _ _ _ _ _ _ _ _ _ _ _ _ _ _ _ _ _ _ _ _ _ _ ⟨rfl, l, hl', ?_, e7, hr', fun i hi => ?_, hkk⟩ ⟨w', g, hw', by omega, e4, e5, e6, hc⟩ rk' rv'⟩, fun z => absurd (by decide) z⟩
        · have := congrArg List.length hs'
          rw [tSort_len, List.length_drop, hs0] at this
          rw [this]
        · have hlen : (tSort l).length = l0.length - e := by rw [hs', List.length_drop, hs0]
          rw [hs', List.getElem?_drop, r2 (e + i) (by omega), pk_cpy_in (by omega) (by omega), pk_cpy_in (by omega) (by omega), Nat.sub_zero]
      · exfalso
        rw [tSort_rm hxa hxb] at hs'
        obtain ⟨y1, y2, y3⟩ := dropped hs'.symm
        have hse := r2 e y1
        have ex : x = (keys e, times e) := Option.some.inj (y2.symm.trans hse)
        rw [ex] at hx1
        exact hx1 (h2 (by omega))
  · refine sp_isW_N hw ⟨fun z => absurd rfl z, fun _ => ?_⟩
    unfold wp_d_tick
    refine ⟨fun _ => ⟨rfl, hno⟩, fun c => ⟨fun c2 => absurd ⟨Int32.not_lt.mp c, c2⟩ hw, fun _ => ⟨rfl, hno⟩⟩⟩
theorem ob_tick : Ob_tick Rab := by
  intro t a1 xs ds ms ht hR
  have hR0 := ob_step _ _ _ _ hR
  obtain ⟨P, Rd, T, M, F, N, G, U, J, hP, hR, hT, hSl, hM, hJ, hN, hG, hF, hU, hE, rl, rc, rs, rt, rg, rk, rf, rv, rm⟩ := hR
  exact op_tick ht hF rt rg rk rv hR0 (fun keys2 times2 count2 now2 cells2 newest2 kept2 S2 L2 V2 D2 Ld2 hv2 tc2 dnow2 dcount2 tk2 tt2 logged2 lk2 lt2 ls2 rt2 rg2 rk2 rv2 => Rab_mk hP hR hT hSl hM hJ hN hG hF hU hE rl rc rs rt2 rg2 rk2 rf rv2 rm)
