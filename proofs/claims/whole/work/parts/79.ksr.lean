/-- a kind whose states can be joined -/
def jk (kd : Int32) : Prop := kd = 0 ∨ kd = 1 ∨ kd = 2 ∨ kd = 3 ∨ kd = 4 ∨ kd = 5
/-- one key: q parts, N rows came -/
def keyR (F N : Nat) (kc : Nat → Int32) (q k : Nat) (S : Nat → Int64) (L : Nat → Int32) (D : Nat → Int64) (Ld tc : Nat → Int32) : Prop :=
  (q = 1 ∨ ∀ f, f < F → jk (kc f)) ∧ (∀ f, f < F → ∀ i, i < q → S (cs k i f) = D (dx k i f)) ∧ (∀ f, f < F → dom (kc f) (fun i => S (cs k i f)) (fun i => L (sl k i)) (q - 1) (1000 * N)) ∧ rRel (fun i => L (sl k i)) (fun i => Ld (dl k i)) (q - 1) ∧ (∀ i, i < q → L (sl k i) < nI N) ∧ (∀ i, 1 ≤ i → i < q → (tc (dl k i) = 0 ↔ L (sl k i) = -1))
/-- the keys' states, class and model -/
def ksR (F P N : Nat) (kc kd : Nat → Int32) (pc : Nat → Int32) (S : Nat → Int64) (L : Nat → Int32) (dp : Nat → Int32) (D : Nat → Int64) (Ld tc : Nat → Int32) : Prop :=
  F ≤ 6 ∧ 2 ≤ P ∧ P ≤ 8 ∧ N ≤ 450 ∧ (∀ f, f < F → kd f = kc f) ∧ ∀ k, k < 100 → ∃ q, 1 ≤ q ∧ q ≤ P ∧ pc k = nI q ∧ dp k = nI q ∧ keyR F N kc q k S L D Ld tc
theorem keyR_same {F N q k : Nat} {kc : Nat → Int32} {S S2 D D2 : Nat → Int64} {L L2 Ld Ld2 tc tc2 : Nat → Int32} (h : keyR F N kc q k S L D Ld tc) (hS : ∀ f i, f < F → i < q → S2 (cs k i f) = S (cs k i f)) (hL : ∀ i, i < q → L2 (sl k i) = L (sl k i)) (hD : ∀ f i, f < F → i < q → D2 (dx k i f) = D (dx k i f)) (hLd : ∀ i, i < q → Ld2 (dl k i) = Ld (dl k i)) (htc : ∀ i, i < q → tc2 (dl k i) = tc (dl k i)) (hq : 1 ≤ q) : keyR F N kc q k S2 L2 D2 Ld2 tc2 := by
  obtain ⟨a1, a2, a3, a4, a5, a6⟩ := h
  have abs : ∀ f, f < F → ∀ n, n ≤ q - 1 → absS (fun i => S2 (cs k i f)) n = absS (fun i => S (cs k i f)) n := by
    intro f hf n
    induction n with
    | zero => intro hn; show (S2 _).toInt.natAbs = (S _).toInt.natAbs; rw [hS f 0 hf (by omega)]
    | succ n ih => intro hn; show absS _ n + (S2 _).toInt.natAbs = absS _ n + (S _).toInt.natAbs; rw [ih (by omega), hS f (n + 1) hf (by omega)]
  refine ⟨a1, fun f hf i hi => by rw [hS f i hf hi, hD f i hf hi]; exact a2 f hf i hi, fun f hf => ?_, ?_, fun i hi => by rw [hL i hi]; exact a5 i hi, fun i h1 hi => by rw [htc i hi, hL i hi]; exact a6 i h1 hi⟩
  · obtain ⟨d1, d2, d3, d4⟩ := a3 f hf
    refine ⟨fun c => by rw [abs f hf (q - 1) (Nat.le_refl _)]; exact d1 c, fun c i hi => ?_, fun c i hi => ?_, fun c i hi => ?_⟩
    · show inV (S2 _); rw [hS f i hf (by omega)]; exact d2 c i hi
    · show 0 ≤ (S2 _).toInt ∧ (S2 _).toInt < 65536; rw [hS f i hf (by omega)]; exact d3 c i hi
    · show S2 _ = NO ↔ L2 _ = -1; rw [hS f i hf (by omega), hL i (by omega)]; exact d4 c i hi
  · obtain ⟨b1, b2, b3⟩ := a4
    refine ⟨fun i hi => by show -1 ≤ L2 _; rw [hL i (by omega)]; exact b1 i hi, fun i h1 hi => by show Ld2 _ = L2 _; rw [hLd i (by omega), hL i (by omega)]; exact b2 i h1 hi, ?_⟩
    show Ld2 (dl k 0) = L2 (sl k 0) ∨ (Ld2 (dl k 0) = -1 ∧ ∀ i, 1 ≤ i → i ≤ q - 1 → L2 (sl k i) = -1 ∨ L2 (sl k 0) < L2 (sl k i))
    rw [hLd 0 (by omega), hL 0 (by omega)]
    rcases b3 with b | b
    · exact Or.inl b
    · exact Or.inr ⟨b.1, fun i h1 hi => by rw [hL i (by omega)]; exact b.2 i h1 hi⟩
theorem eV_jk {kd : Int32} : ((kd = 0 ∨ kd = 1) → eV kd = 0) ∧ ((kd = 2 ∨ kd = 3 ∨ kd = 5) → eV kd = NO) ∧ (kd = 4 → eV kd = 0) := by
  refine ⟨fun h => ?_, fun h => ?_, fun h => ?_⟩
  · rcases h with h | h <;> (rw [h]; rfl)
  · rcases h with h | h | h <;> (rw [h]; rfl)
  · rw [h]; rfl
theorem m1_lt {N : Nat} (h : N ≤ 450) : (-1 : Int32) < nI N := Int32.lt_of_lt_of_le (by decide) (nI_pos' (by omega) : (0 : Int32) ≤ nI N)
/-- a model's states with what is asked at each place -/
theorem exD (X : Nat → Nat → Nat → Int64) : ∃ D : Nat → Int64, ∀ k i f, k < 100 → i < 8 → f < 6 → D (dx k i f) = X k i f := by
  refine ⟨fun n => X (n / 6 % 100) (n / 600) (n % 6), fun k i f h1 h2 h3 => ?_⟩
  show X (dx k i f / 6 % 100) (dx k i f / 600) (dx k i f % 6) = X k i f
  rw [show dx k i f / 6 % 100 = k by unfold dx; omega, show dx k i f / 600 = i by unfold dx; omega, show dx k i f % 6 = f by unfold dx; omega]
theorem exL (X : Nat → Nat → Int32) : ∃ L : Nat → Int32, ∀ k i, k < 100 → i < 8 → L (dl k i) = X k i := by
  refine ⟨fun n => X (n % 100) (n / 100), fun k i h1 h2 => ?_⟩
  show X (dl k i % 100) (dl k i / 100) = X k i
  rw [show dl k i % 100 = k by unfold dl; omega, show dl k i / 100 = i by unfold dl; omega]
/-- a key is split: class, and the model's run -/
theorem ks_break {F P N K q : Nat} {kc kd pc L : Nat → Int32} {S : Nat → Int64} (r : ∃ dp D Ld tc, ksR F P N kc kd pc S L dp D Ld tc) (hK : K < 100) (hq : 2 ≤ q) (hqP : q ≤ P) (hj : ∀ f, f < F → jk (kc f)) (hone : pc K = nI 1) {post : (Nat → Int32) × (Nat → Int64) × (Nat → Int32) → Prop} (h : ∀ (S2 : Nat → Int64) (L2 : Nat → Int32), (∃ dp2 D2 Ld2 tc2, ksR F P N kc kd (upd pc K (nI q)) S2 L2 dp2 D2 Ld2 tc2) → (∀ (dp : Nat → Int32) (D : Nat → Int64) (Ld tc hv : Nat → Int32), ksR F P N kc kd pc S L dp D Ld tc → ∀ pd : (Nat → Int64) × (Nat → Int32) × (Nat → Int32) × (Nat → Int32) × (Nat → Int32) → Prop, (∀ (D2 : Nat → Int64) (Ld2 hv2 tc2 : Nat → Int32), ksR F P N kc kd (upd pc K (nI q)) S2 L2 (upd dp K (nI q)) D2 Ld2 tc2 → (∀ k, k < 100 → hv2 (dl k 0) = hv (dl k 0)) → pd (D2, Ld2, hv2, tc2, upd dp K (nI q))) → wp_d_makeParts (nI K) (nI q) (nI F) kd D Ld hv tc dp pd) → post (upd pc K (nI q), S2, L2)) : wp_ks_breakUp (nI K) (nI q) pc S L kc (nI F) post := by
  obtain ⟨dp0, D0, Ld0, tc0, r⟩ := r
  have hP8 : P ≤ 8 := r.2.2.1
  refine sp_ks_breakUp hK r.1 (by omega) (by omega) (fun S2 L2 g1 g2 => ?_)
  have core : ∀ (dp : Nat → Int32) (D : Nat → Int64) (Ld tc : Nat → Int32), ksR F P N kc kd pc S L dp D Ld tc → ∀ (D2 : Nat → Int64) (Ld2 tc2 : Nat → Int32), (∀ k i f, k < 100 → i < 8 → f < 6 → D2 (dx k i f) = if k = K ∧ (1 ≤ i ∧ i < q) ∧ f < F then eV (kd f) else D (dx k i f)) → (∀ k i, k < 100 → i < 8 → Ld2 (dl k i) = if k = K ∧ (1 ≤ i ∧ i < q) then -1 else Ld (dl k i)) → (∀ k i, k < 100 → i < 8 → tc2 (dl k i) = if k = K ∧ (1 ≤ i ∧ i < q) then 0 else tc (dl k i)) → ksR F P N kc kd (upd pc K (nI q)) S2 L2 (upd dp K (nI q)) D2 Ld2 tc2 := by
    intro dp D Ld tc r D2 Ld2 tc2 e1 e2 e4
    obtain ⟨hF, hP2, hP8, hN, hkd, hk⟩ := r
    refine ⟨hF, hP2, hP8, hN, hkd, fun k hk1 => ?_⟩
    obtain ⟨q0, b1, b2, b3, b4, b5⟩ := hk k hk1
    by_cases c : k = K
    · subst c
      have eq0 : q0 = 1 := (nI_eq (by omega) (by omega)).mp (b3.symm.trans hone)
      subst eq0
      obtain ⟨a1, a2, a3, a4, a5, a6⟩ := b5
      have hS : ∀ f i, f < F → i < q → S2 (cs k i f) = if i = 0 then S (cs k 0 f) else eV (kc f) := fun f i hf hi => by
        rw [g1 k i f hk1 (by omega) (by omega)]
        by_cases ci : i = 0
        · subst ci; rw [if_neg (by omega), if_pos rfl]
        · rw [if_pos (by omega), if_neg ci]
      have hL : ∀ i, i < q → L2 (sl k i) = if i = 0 then L (sl k 0) else -1 := fun i hi => by
        rw [g2 k i hk1 (by omega)]
        by_cases ci : i = 0
        · subst ci; rw [if_neg (by omega), if_pos rfl]
        · rw [if_pos (by omega), if_neg ci]
      have hL0 : L2 (sl k 0) = L (sl k 0) := by rw [hL 0 (by omega), if_pos rfl]
      refine ⟨q, by omega, hqP, by rw [upd_at, if_pos rfl], by rw [upd_at, if_pos rfl], Or.inr hj, fun f hf i hi => ?_, fun f hf => ?_, ⟨fun i hi => ?_, fun i h1 hi => ?_, ?_⟩, fun i hi => ?_, fun i h1 hi => ?_⟩
      · rw [hS f i hf hi, e1 k i f hk1 (by omega) (by omega)]
        by_cases ci : i = 0
        · subst ci; rw [if_pos rfl, if_neg (by omega)]; exact a2 f hf 0 (by omega)
        · rw [if_neg ci, if_pos (by omega), hkd f hf]
      · obtain ⟨d1, d2, d3, d4⟩ := a3 f hf
        obtain ⟨v1, v2, v3⟩ := eV_jk (kd := kc f)
        refine ⟨fun cc => ?_, fun cc i hi => ?_, fun cc i hi => ?_, fun cc i hi => ?_⟩
        · have : ∀ n, n < q → absS (fun i => S2 (cs k i f)) n = absS (fun i => S (cs k i f)) 0 := by
            intro n
            induction n with
            | zero => intro hn; show (S2 _).toInt.natAbs = (S _).toInt.natAbs; rw [hS f 0 hf (by omega), if_pos rfl]
            | succ n ih =>
              intro hn
              show absS _ n + (S2 _).toInt.natAbs = _
              rw [ih (by omega), hS f (n + 1) hf hn, if_neg (by omega), v1 cc]
              rfl
          rw [this (q - 1) (by omega)]
          exact d1 cc
        · show inV (S2 _)
          rw [hS f i hf (by omega)]
          by_cases ci : i = 0
          · subst ci; rw [if_pos rfl]; exact d2 cc 0 (by omega)
          · rw [if_neg ci, v2 cc]; exact Or.inl rfl
        · show 0 ≤ (S2 _).toInt ∧ (S2 _).toInt < 65536
          rw [hS f i hf (by omega)]
          by_cases ci : i = 0
          · subst ci; rw [if_pos rfl]; exact d3 cc 0 (by omega)
          · rw [if_neg ci, v3 cc]; decide
        · show S2 _ = NO ↔ L2 _ = -1
          rw [hS f i hf (by omega), hL i (by omega)]
          by_cases ci : i = 0
          · subst ci; rw [if_pos rfl, if_pos rfl]; exact d4 cc 0 (by omega)
          · rw [if_neg ci, if_neg ci, v2 (Or.inr (Or.inr cc))]; exact ⟨fun _ => rfl, fun _ => rfl⟩
      · show -1 ≤ L2 _
        rw [hL i (by omega)]
        by_cases ci : i = 0
        · subst ci; rw [if_pos rfl]; exact a4.1 0 (by omega)
        · rw [if_neg ci]; exact Int32.le_refl _
      · show Ld2 _ = L2 _
        rw [hL i (by omega), if_neg (by omega), e2 k i hk1 (by omega), if_pos (by omega)]
      · show Ld2 (dl k 0) = L2 (sl k 0) ∨ (Ld2 (dl k 0) = -1 ∧ ∀ i, 1 ≤ i → i ≤ q - 1 → L2 (sl k i) = -1 ∨ L2 (sl k 0) < L2 (sl k i))
        rw [hL0, e2 k 0 hk1 (by omega), if_neg (by omega)]
        rcases a4.2.2 with z | z
        · exact Or.inl z
        · exact Or.inr ⟨z.1, fun i h1 hi => Or.inl (by rw [hL i (by omega), if_neg (by omega)])⟩
      · rw [hL i hi]
        by_cases ci : i = 0
        · subst ci; rw [if_pos rfl]; exact a5 0 (by omega)
        · rw [if_neg ci]; exact m1_lt hN
      · rw [hL i hi, if_neg (by omega), e4 k i hk1 (by omega), if_pos (by omega)]
        exact ⟨fun _ => rfl, fun _ => rfl⟩
    · refine ⟨q0, b1, b2, by rw [upd_at, if_neg c]; exact b3, by rw [upd_at, if_neg c]; exact b4, keyR_same b5 (fun f i hf hi => ?_) (fun i hi => ?_) (fun f i hf hi => ?_) (fun i hi => ?_) (fun i hi => ?_) b1⟩
      · rw [g1 k i f hk1 (by omega) (by omega), if_neg (by omega)]
      · rw [g2 k i hk1 (by omega), if_neg (by omega)]
      · rw [e1 k i f hk1 (by omega) (by omega), if_neg (by omega)]
      · rw [e2 k i hk1 (by omega), if_neg (by omega)]
      · rw [e4 k i hk1 (by omega), if_neg (by omega)]
  obtain ⟨D2, e1⟩ := exD (fun k i f => if k = K ∧ (1 ≤ i ∧ i < q) ∧ f < F then eV (kd f) else D0 (dx k i f))
  obtain ⟨Ld2, e2⟩ := exL (fun k i => if k = K ∧ (1 ≤ i ∧ i < q) then -1 else Ld0 (dl k i))
  obtain ⟨tc2, e4⟩ := exL (fun k i => if k = K ∧ (1 ≤ i ∧ i < q) then 0 else tc0 (dl k i))
  exact h S2 L2 ⟨_, D2, Ld2, tc2, core dp0 D0 Ld0 tc0 r D2 Ld2 tc2 e1 e2 e4⟩ (fun dp D Ld tc hv r pd hpd => sp_d_makeParts hK r.1 (by omega) (by omega) (fun D2 Ld2 hv2 tc2 e1 e2 e3 e4 => hpd D2 Ld2 hv2 tc2 (core dp D Ld tc r D2 Ld2 tc2 e1 e2 e4) (fun k hk1 => by rw [e3 k 0 hk1 (by omega), if_neg (by omega)])))
