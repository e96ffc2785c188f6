/-! pure: loops, numbers, views of the arrays -/
theorem hk_up {σ : Type} {body : (σ → Prop) → σ → Prop} (I : Nat → σ → Prop) (e : Nat) (hs : ∀ (i : Nat) (s : σ) (K : σ → Prop), i < e → I i s → (∀ s2, I (i + 1) s2 → K s2) → body K s) (hx : ∀ (s : σ) (K : σ → Prop), I e s → body K s) : ∀ (d i : Nat) (s : σ), i + d = e → I i s → hk_lp body (d + 1) s
  | 0, i, s, he, h => by
    have hi : i = e := by omega
    subst hi
    exact hx s _ h
  | d + 1, i, s, he, h => hs i s _ (by omega) h (fun s2 h2 => hk_up I e hs hx d (i + 1) s2 (by omega) h2)
theorem hk_upE {σ : Type} {body : (σ → Prop) → σ → Prop} (I : Nat → σ → Prop) (e i : Nat) (s : σ) (hi : i ≤ e) (h : I i s) (hs : ∀ (i : Nat) (s : σ) (K : σ → Prop), i < e → I i s → (∀ s2, I (i + 1) s2 → K s2) → body K s) (hx : ∀ (s : σ) (K : σ → Prop), I e s → body K s) : ∃ n, hk_lp body n s := ⟨e - i + 1, hk_up I e hs hx (e - i) i s (by omega) h⟩
/-- a loop by a measure -/
theorem hk_ms {σ : Type} {body : (σ → Prop) → σ → Prop} (I : σ → Prop) (μ : σ → Nat) (hs : ∀ (s : σ) (K : σ → Prop), I s → (∀ s2, I s2 → μ s2 < μ s → K s2) → body K s) : ∀ (n : Nat) (s : σ), μ s < n → I s → hk_lp body n s
  | 0, s, h, _ => absurd h (Nat.not_lt_zero _)
  | n + 1, s, h, hI => hs s _ hI (fun s2 h2 hm => hk_ms I μ hs n s2 (by omega) h2)
theorem hk_msE {σ : Type} {body : (σ → Prop) → σ → Prop} (I : σ → Prop) (μ : σ → Nat) (s : σ) (h : I s) (hs : ∀ (s : σ) (K : σ → Prop), I s → (∀ s2, I s2 → μ s2 < μ s → K s2) → body K s) : ∃ n, hk_lp body n s := ⟨μ s + 1, hk_ms I μ hs (μ s + 1) s (Nat.lt_succ_self _) h⟩
theorem nI_lit0 : (0 : Int32) = nI 0 := rfl
theorem upd_at {f : Nat → Int32} {i j : Nat} {x : Int32} : upd f i x j = if j = i then x else f j := rfl
theorem updL_at {f : Nat → Int64} {i j : Nat} {x : Int64} : vp_updL f i x j = if j = i then x else f j := rfl
theorem hk_b0 : vp_nar .boolean 0 = 0 := by decide
theorem hk_b1 : vp_nar .boolean 1 = 1 := by decide
/-- NOTHING -/
abbrev NO : Int64 := -4000000000000
theorem hk_lc0 {x y : Int64} : lg_cmp x y = 0 ↔ x = y := by
  unfold lg_cmp
  by_cases h1 : x > y
  · rw [if_pos h1]
    constructor
    · intro h; exact absurd h (by decide)
    · intro h; subst h; exact absurd h1 Int64.lt_irrefl
  · rw [if_neg h1]
    by_cases h2 : x = y
    · rw [if_pos h2]; exact ⟨fun _ => h2, fun _ => rfl⟩
    · rw [if_neg h2]; exact ⟨fun h => absurd h (by decide), fun h => absurd h h2⟩
theorem hk_lclt {x y : Int64} : lg_cmp x y < 0 ↔ x < y := by
  unfold lg_cmp
  by_cases h1 : x > y
  · rw [if_pos h1]
    exact ⟨fun h => absurd h (by decide), fun h => absurd (Int64.lt_trans h h1) Int64.lt_irrefl⟩
  · rw [if_neg h1]
    by_cases h2 : x = y
    · rw [if_pos h2]; exact ⟨fun h => absurd h (by decide), fun h => by subst h2; exact absurd h Int64.lt_irrefl⟩
    · rw [if_neg h2]
      refine ⟨fun _ => ?_, fun _ => by decide⟩
      rcases Int64.lt_or_eq_of_le (Int64.not_lt.mp h1) with h | h
      · exact h
      · exact absurd h h2
theorem hk_lcgt {x y : Int64} : 0 < lg_cmp x y ↔ y < x := by
  unfold lg_cmp
  by_cases h1 : x > y
  · rw [if_pos h1]; exact ⟨fun _ => h1, fun _ => by decide⟩
  · rw [if_neg h1]
    by_cases h2 : x = y
    · rw [if_pos h2]; exact ⟨fun h => absurd h (by decide), fun h => absurd h h1⟩
    · rw [if_neg h2]; exact ⟨fun h => absurd h (by decide), fun h => absurd h h1⟩
theorem hk_lcge {x y : Int64} : 0 ≤ lg_cmp x y ↔ y ≤ x := by
  rw [← Int32.not_lt, hk_lclt, Int64.not_lt]
theorem hk_lcle {x y : Int64} : lg_cmp x y ≤ 0 ↔ x ≤ y := by
  rw [← Int32.not_lt, hk_lcgt, Int64.not_lt]
/-- isWithin, in: 1 or 0 -/
abbrev hk_bit (b : Prop) [Decidable b] : Int32 := if b then 1 else 0
theorem hk_pif {α : Type} {post : α → Prop} {c : Prop} [Decidable c] {a b : α} {A B : Prop} (h : post (if c then a else b)) (ha : post a → A) (hb : post b → B) : (c → A) ∧ (¬ c → B) := ⟨fun hc => ha (by rw [if_pos hc] at h; exact h), fun hc => hb (by rw [if_neg hc] at h; exact h)⟩
theorem hk_pin {α : Type} {post : α → Prop} {c : Prop} [Decidable c] {a b : α} {A B : Prop} (h : post (if c then a else b)) (ha : post a → A) (hb : post b → B) : (¬ c → B) ∧ (c → A) := ⟨fun hc => hb (by rw [if_neg hc] at h; exact h), fun hc => ha (by rw [if_pos hc] at h; exact h)⟩
/-- the state of an EMPTY fold of a kind -/
def eV (kd : Int32) : Int64 := if kd = 2 then NO else if kd = 3 then NO else if kd = 4 then 0 else if kd = 5 then NO else if kd = 6 then 7 else 0
/-- a value folded, as the class does it -/
def cF (kd : Int32) (st : Int64) (v : Int32) (bf : Int64) : Int64 := if kd = 0 then st + 1 else if kd = 1 then st + v.toInt64 else if kd = 2 then (if lg_cmp st NO = 0 then v.toInt64 else (if v.toInt64 < st then v.toInt64 else st)) else if kd = 3 then (if v.toInt64 < st then st else v.toInt64) else if kd = 4 then (st ||| hk_lshl 1 (v &&& 15)) else if kd = 5 then v.toInt64 else if kd = 6 then (31 * st.toInt32 + v).toInt64 else if kd = 7 then (if 0 ≤ lg_cmp v.toInt64 bf then st else st + 1) else st
/-- two states joined, as the class does it -/
def cJn (kd : Int32) (a b : Int64) (lt : Int32) : Int64 := if kd = 0 then a + b else if kd = 1 then a + b else if kd = 2 then (if lg_cmp a NO = 0 then (if b < a then a else b) else (if lg_cmp b NO = 0 then (if b < a then a else b) else (if b < a then b else a))) else if kd = 3 then (if b < a then a else b) else if kd = 4 then (a ||| b) else if kd = 5 then (if lt = 0 then a else b) else a
/-- the same of the model -/
def dF (kd : Int32) (st : Int64) (v : Int32) (fl : Int32) : Int64 := if kd = 0 then st + 1 else if kd = 1 then st + v.toInt64 else if kd = 2 then (if lg_cmp st NO = 0 then v.toInt64 else (if 0 ≤ lg_cmp v.toInt64 st then st else v.toInt64)) else if kd = 3 then (if lg_cmp st NO = 0 then v.toInt64 else (if lg_cmp v.toInt64 st ≤ 0 then st else v.toInt64)) else if kd = 4 then (st ||| hk_lshl 1 (v &&& 15)) else if kd = 5 then v.toInt64 else if kd = 6 then ((31 * st + v.toInt64).toInt32).toInt64 else (if fl = 0 then st + 0 else st + 1)
def dJn (kd : Int32) (a b : Int64) (lt : Int32) : Int64 := if lg_cmp a NO = 0 then b else if lg_cmp b NO = 0 then a else if kd = 2 then (if 0 ≤ lg_cmp a b then b else a) else if kd = 3 then (if lg_cmp a b ≤ 0 then b else a) else if kd = 4 then (a ||| b) else if kd = 5 then (if lt = 0 then a else b) else a + b
theorem sp_fo_emptyState {kinds : Nat → Int32} {f : Nat} {post : Int64 → Prop} (hf : f < 6) (h : post (eV (kinds f))) : wp_fo_emptyState (nI f) kinds post := by
  unfold wp_fo_emptyState
  refine ⟨pk_in f 6 hf, fun x1 e1 => ?_⟩
  rw [pk_cl f] at e1
  rw [← e1] at h
  unfold eV at h
  exact hk_pif h id (fun h => hk_pif h id (fun h => hk_pif h id (fun h => hk_pif h id (fun h => hk_pif h id id))))
theorem sp_fo_folded {kinds : Nat → Int32} {f : Nat} {st bf : Int64} {v : Int32} {post : Int64 → Prop} (hf : f < 6) (h : post (cF (kinds f) st v bf)) : wp_fo_folded (nI f) st v bf kinds post := by
  unfold wp_fo_folded
  refine ⟨pk_in f 6 hf, fun x1 e1 => ?_⟩
  rw [pk_cl f] at e1
  rw [← e1] at h
  unfold cF at h
  exact hk_pif h id (fun h => hk_pif h id (fun h => hk_pif h (fun h => hk_pin h id id) (fun h => hk_pif h id (fun h => hk_pif h id (fun h => hk_pif h id (fun h => hk_pif h id (fun h => hk_pif h (fun h => hk_pif h id id) id)))))))
theorem sp_fo_joined {kinds : Nat → Int32} {f : Nat} {a b : Int64} {lt : Int32} {post : Int64 → Prop} (hf : f < 6) (h : post (cJn (kinds f) a b lt)) : wp_fo_joined (nI f) a b lt kinds post := by
  unfold wp_fo_joined
  refine ⟨pk_in f 6 hf, fun x1 e1 => ?_⟩
  rw [pk_cl f] at e1
  rw [← e1] at h
  unfold cJn at h
  exact hk_pif h id (fun h => hk_pif h id (fun h => hk_pif h (fun h => hk_pif h id (fun h => hk_pin h id id)) (fun h => hk_pif h id (fun h => hk_pif h id (fun h => hk_pif h (fun h => hk_pif h id id) id)))))
theorem sp_d_emptyOf {kinds : Nat → Int32} {f : Nat} {post : Int64 → Prop} (hf : f < 6) (h : post (eV (kinds f))) : wp_d_emptyOf (nI f) kinds post := by
  unfold wp_d_emptyOf
  refine ⟨pk_in f 6 hf, fun x1 e1 => ?_⟩
  rw [pk_cl f] at e1
  rw [← e1] at h
  unfold eV at h
  refine ⟨fun c6 => ?_, fun c6 => ?_⟩
  · refine hk_pif h id (fun h => hk_pif h id (fun h => ?_))
    refine ⟨fun c5 => ?_, fun c5 => ?_⟩
    · rw [if_neg c5, if_neg c6] at h; by_cases c4 : x1 = 4
      · rw [if_pos c4] at h; exact h
      · rw [if_neg c4] at h; exact h
    · rw [if_neg (by rw [c5]; decide), if_pos c5] at h; exact h
  · rw [if_neg (by rw [c6]; decide), if_neg (by rw [c6]; decide), if_neg (by rw [c6]; decide), if_neg (by rw [c6]; decide), if_pos c6] at h; exact h
theorem sp_d_folded {kd : Int32} {st : Int64} {v fl : Int32} {post : Int64 → Prop} (h : post (dF kd st v fl)) : wp_d_folded kd st v fl post := by
  unfold wp_d_folded
  unfold dF at h
  exact hk_pif h id (fun h => hk_pif h id (fun h => hk_pif h (fun h => hk_pif h id (fun h => hk_pif h id id)) (fun h => hk_pif h (fun h => hk_pif h id (fun h => hk_pif h id id)) (fun h => hk_pif h id (fun h => hk_pif h id (fun h => hk_pif h id (fun h => hk_pif h id id)))))))
theorem sp_d_joinedOf {kd : Int32} {a b : Int64} {lt : Int32} {post : Int64 → Prop} (h : post (dJn kd a b lt)) : wp_d_joinedOf kd a b lt post := by
  unfold wp_d_joinedOf
  unfold dJn at h
  refine ⟨fun c => ⟨fun c2 => absurd c c2, fun _ => by rw [if_pos c] at h; exact h⟩, fun c => ⟨fun c2 => ?_, fun c2 => ⟨fun _ => ?_, fun c3 => absurd c3 c⟩⟩⟩
  · rw [if_neg c, if_neg c2] at h
    exact hk_pif h (fun h => hk_pif h id id) (fun h => hk_pif h (fun h => hk_pif h id id) (fun h => hk_pif h id (fun h => hk_pif h (fun h => hk_pif h id id) id)))
  · rw [if_neg c, if_pos c2] at h
    exact h
/-! places in the arrays -/
def cs (k i f : Nat) : Nat := (k * 8 + i) * 6 + f
def sl (k i : Nat) : Nat := k * 8 + i
def dx (k i f : Nat) : Nat := 6 * (100 * i + k) + f
def dl (k i : Nat) : Nat := 100 * i + k
theorem cs_nI (k i f : Nat) : (nI k * 8 + nI i) * 6 + nI f = nI (cs k i f) := by
  rw [show (8 : Int32) = nI 8 from rfl, show (6 : Int32) = nI 6 from rfl, pk_mul, nI_add, pk_mul, nI_add]; rfl
theorem sl_nI (k i : Nat) : nI k * 8 + nI i = nI (sl k i) := by
  rw [show (8 : Int32) = nI 8 from rfl, pk_mul, nI_add]; rfl
theorem dl_nI (k i : Nat) : 100 * nI i + nI k = nI (dl k i) := by
  rw [show (100 : Int32) = nI 100 from rfl, pk_mul, nI_add]; rfl
theorem dx_nI (k i f : Nat) : 6 * nI (dl k i) + nI f = nI (dx k i f) := by
  rw [show (6 : Int32) = nI 6 from rfl, pk_mul, nI_add]; rfl
theorem cs_lt {k i f : Nat} (h1 : k < 100) (h2 : i < 8) (h3 : f < 6) : cs k i f < 4800 := by unfold cs; omega
theorem sl_lt {k i : Nat} (h1 : k < 100) (h2 : i < 8) : sl k i < 800 := by unfold sl; omega
theorem dx_lt {k i f : Nat} (h1 : k < 100) (h2 : i < 8) (h3 : f < 6) : dx k i f < 4800 := by unfold dx; omega
theorem dl_lt {k i : Nat} (h1 : k < 100) (h2 : i < 8) : dl k i < 800 := by unfold dl; omega
theorem cs_eq {k i f a b c : Nat} (h2 : i < 8) (h3 : f < 6) (h5 : b < 8) (h6 : c < 6) : cs k i f = cs a b c ↔ k = a ∧ i = b ∧ f = c := by unfold cs; omega
theorem sl_eq {k i a b : Nat} (h2 : i < 8) (h5 : b < 8) : sl k i = sl a b ↔ k = a ∧ i = b := by unfold sl; omega
theorem dx_eq {k i f a b c : Nat} (h1 : k < 100) (h3 : f < 6) (h4 : a < 100) (h6 : c < 6) : dx k i f = dx a b c ↔ k = a ∧ i = b ∧ f = c := by unfold dx; omega
theorem dl_eq {k i a b : Nat} (h1 : k < 100) (h4 : a < 100) : dl k i = dl a b ↔ k = a ∧ i = b := by unfold dl; omega
theorem if_iff {α : Type} {c d : Prop} [Decidable c] [Decidable d] {a b : α} (h : c ↔ d) : (if c then a else b) = if d then a else b := by
  by_cases hc : c
  · rw [if_pos hc, if_pos (h.mp hc)]
  · rw [if_neg hc, if_neg (fun x => hc (h.mpr x))]
theorem ncl (n : Nat) (h : n < 2 ^ 31 := by omega) : (nI n).toNatClampNeg = n := nI_clamp h
