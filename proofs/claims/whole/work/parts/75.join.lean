theorem NO_toInt : (NO : Int64).toInt = -4000000000000 := by decide
/-- a value, or NOTHING -/
def inV (x : Int64) : Prop := x = NO ∨ (-1000 ≤ x.toInt ∧ x.toInt ≤ 1000)
theorem inV_ge {x : Int64} (h : inV x) : ¬ x < NO := by
  rw [Int64.lt_iff_toInt_lt, NO_toInt]
  rcases h with h | h
  · rw [h, NO_toInt]; omega
  · omega
theorem inV_gt {x : Int64} (h : inV x) (hn : ¬ x = NO) : NO < x := by
  rw [Int64.lt_iff_toInt_lt, NO_toInt]
  rcases h with h | h
  · exact absurd h hn
  · omega
/-- rows of the class and of the model, of the parts 0 .. n -/
def rRel (lc ld : Nat → Int32) (n : Nat) : Prop := (∀ i, i ≤ n → -1 ≤ lc i) ∧ (∀ i, 1 ≤ i → i ≤ n → ld i = lc i) ∧ (ld 0 = lc 0 ∨ (ld 0 = -1 ∧ ∀ i, 1 ≤ i → i ≤ n → lc i = -1 ∨ lc 0 < lc i))
/-- the states' domains, by the kind -/
def absS (st : Nat → Int64) : Nat → Nat
  | 0 => (st 0).toInt.natAbs
  | i + 1 => absS st i + (st (i + 1)).toInt.natAbs
def dom (kd : Int32) (st : Nat → Int64) (lc : Nat → Int32) (n : Nat) (B : Nat) : Prop :=
  ((kd = 0 ∨ kd = 1) → absS st n ≤ B) ∧ ((kd = 2 ∨ kd = 3 ∨ kd = 5) → ∀ i, i ≤ n → inV (st i)) ∧ (kd = 4 → ∀ i, i ≤ n → 0 ≤ (st i).toInt ∧ (st i).toInt < 65536) ∧ (kd = 5 → ∀ i, i ≤ n → (st i = NO ↔ lc i = -1))
theorem absS_le {st : Nat → Int64} : ∀ {n i : Nat}, i ≤ n → (st i).toInt.natAbs ≤ absS st n
  | 0, i, h => by
    have : i = 0 := by omega
    subst this
    exact Nat.le_refl _
  | n + 1, i, h => by
    simp only [absS]
    by_cases c : i = n + 1
    · subst c; omega
    · have := absS_le (st := st) (n := n) (i := i) (by omega); omega
theorem absS_mono {st : Nat → Int64} : ∀ {n i : Nat}, i ≤ n → absS st i ≤ absS st n
  | 0, i, h => by
    have : i = 0 := by omega
    subst this
    exact Nat.le_refl _
  | n + 1, i, h => by
    by_cases c : i = n + 1
    · subst c; exact Nat.le_refl _
    · simp only [absS]
      have := absS_mono (st := st) (n := n) (i := i) (by omega); omega
theorem add64 {a b : Int64} (h1 : -9223372036854775808 ≤ a.toInt + b.toInt) (h2 : a.toInt + b.toInt < 9223372036854775808) : (a + b).toInt = a.toInt + b.toInt := by
  rw [Int64.toInt_add]
  exact Int.bmod_eq_of_le (by omega) (by omega)
theorem neNO {x : Int64} {B : Nat} (h : x.toInt.natAbs ≤ B) (hB : B ≤ 1000000) : ¬ x = NO := by
  intro e
  rw [e, NO_toInt] at h
  omega
theorem or64 {a b : Int64} (ha : 0 ≤ a.toInt ∧ a.toInt < 65536) (hb : 0 ≤ b.toInt ∧ b.toInt < 65536) : 0 ≤ (a ||| b).toInt ∧ (a ||| b).toInt < 65536 := by
  obtain ⟨x, hx, rfl⟩ := pk_lOf (x := a) (by rw [Int64.lt_iff_toInt_lt]; show ¬ a.toInt < 0; omega)
  obtain ⟨y, hy, rfl⟩ := pk_lOf (x := b) (by rw [Int64.lt_iff_toInt_lt]; show ¬ b.toInt < 0; omega)
  rw [pk_lT hx] at ha
  rw [pk_lT hy] at hb
  have hor : x ||| y < 2 ^ 16 := Nat.or_lt_two_pow (by omega) (by omega)
  have e : lN x ||| lN y = lN (x ||| y) := by
    apply Int64.toBitVec_inj.mp
    show BitVec.ofNat 64 x ||| BitVec.ofNat 64 y = BitVec.ofNat 64 (x ||| y)
    exact BitVec.ofNat_or.symm
  rw [e, pk_lT (by omega)]
  omega
theorem kJ_row {J : Int32 → Int64 → Int64 → Int32 → Int64} {kd : Int32} {st : Nat → Int64} {lr : Nat → Int32} : ∀ n, (∀ i, i ≤ n → -1 ≤ lr i) → (kJ J kd st lr n).2 = mR lr (n + 1)
  | 0, h => by
    show lr 0 = if (-1 : Int32) < lr 0 then lr 0 else -1
    have h0 := h 0 (Nat.le_refl 0)
    by_cases c : (-1 : Int32) < lr 0
    · rw [if_pos c]
    · rw [if_neg c]
      exact Int32.le_antisymm (Int32.not_lt.mp c) h0
  | n + 1, h => by
    have ih := kJ_row (J := J) (kd := kd) (st := st) n (fun i hi => h i (by omega))
    simp only [kJ]
    rw [ih]
    rfl
theorem kR_row {lr : Nat → Int32} : ∀ n, (∀ i, i ≤ n → -1 ≤ lr i) → kR lr n = mR lr (n + 1)
  | 0, h => by
    show lr 0 = if (-1 : Int32) < lr 0 then lr 0 else -1
    have h0 := h 0 (Nat.le_refl 0)
    by_cases c : (-1 : Int32) < lr 0
    · rw [if_pos c]
    · rw [if_neg c]
      exact Int32.le_antisymm (Int32.not_lt.mp c) h0
  | n + 1, h => by
    have ih := kR_row n (fun i hi => h i (by omega))
    have e : mR lr (n + 1 + 1) = if mR lr (n + 1) < lr (n + 1) then lr (n + 1) else mR lr (n + 1) := rfl
    simp only [kR]
    rw [ih, e]
    by_cases c : lr (n + 1) ≤ mR lr (n + 1)
    · rw [if_pos c, if_neg (Int32.not_lt.mpr c)]
    · rw [if_neg c, if_pos (Int32.not_le.mp c)]
theorem mR_ge {lr : Nat → Int32} : ∀ n, -1 ≤ mR lr n
  | 0 => Int32.le_refl _
  | n + 1 => by
    have ih := mR_ge (lr := lr) n
    simp only [mR]
    by_cases c : mR lr n < lr n
    · rw [if_pos c]; exact Int32.le_trans ih (Int32.le_of_lt c)
    · rw [if_neg c]; exact ih
theorem mR_bd {lr : Nat → Int32} {b : Int32} (hb : -1 < b) : ∀ n, (∀ i, i < n → lr i < b) → mR lr n < b
  | 0, _ => hb
  | n + 1, h => by
    simp only [mR]
    by_cases c : mR lr n < lr n
    · rw [if_pos c]; exact h n (by omega)
    · rw [if_neg c]; exact mR_bd hb n (fun i hi => h i (by omega))
theorem hk_j01 {kd : Int32} (hk : kd = 0 ∨ kd = 1) {st : Nat → Int64} {lc ld : Nat → Int32} : ∀ n, absS st n ≤ 1000000 → (kJ cJn kd st lc n).1 = (kJ dJn kd st ld n).1 ∧ (kJ cJn kd st lc n).1.toInt.natAbs ≤ absS st n
  | 0, h => ⟨rfl, Nat.le_refl _⟩
  | n + 1, h => by
    have hm := absS_mono (st := st) (n := n + 1) (i := n) (by omega)
    obtain ⟨e, b⟩ := hk_j01 hk (st := st) (lc := lc) (ld := ld) n (by omega)
    have hb := absS_le (st := st) (n := n + 1) (i := n + 1) (Nat.le_refl _)
    have e1 : (kJ cJn kd st lc (n + 1)).1 = (kJ cJn kd st lc n).1 + st (n + 1) := by
      show cJn kd _ _ _ = _
      unfold cJn
      rcases hk with hk | hk
      · rw [if_pos hk]
      · rw [if_neg (by rw [hk]; decide), if_pos hk]
    have e2 : (kJ dJn kd st ld (n + 1)).1 = (kJ dJn kd st ld n).1 + st (n + 1) := by
      show dJn kd _ _ _ = _
      unfold dJn
      rw [if_neg (by rw [hk_lc0]; exact neNO (x := (kJ dJn kd st ld n).1) (by rw [← e]; exact b) (by omega)), if_neg (by rw [hk_lc0]; exact neNO hb (by omega))]
      rcases hk with hk | hk <;> (rw [hk]; rfl)
    refine ⟨by rw [e1, e2, e], ?_⟩
    have hs : absS st (n + 1) = absS st n + (st (n + 1)).toInt.natAbs := rfl
    rw [e1, add64 (by omega) (by omega)]
    omega
theorem hk_j4 {kd : Int32} (hk : kd = 4) {st : Nat → Int64} {lc ld : Nat → Int32} : ∀ n, (∀ i, i ≤ n → 0 ≤ (st i).toInt ∧ (st i).toInt < 65536) → (kJ cJn kd st lc n).1 = (kJ dJn kd st ld n).1 ∧ 0 ≤ (kJ cJn kd st lc n).1.toInt ∧ (kJ cJn kd st lc n).1.toInt < 65536
  | 0, h => ⟨rfl, h 0 (Nat.le_refl 0)⟩
  | n + 1, h => by
    obtain ⟨e, b⟩ := hk_j4 hk (st := st) (lc := lc) (ld := ld) n (fun i hi => h i (by omega))
    have hb := h (n + 1) (Nat.le_refl _)
    have e1 : (kJ cJn kd st lc (n + 1)).1 = (kJ cJn kd st lc n).1 ||| st (n + 1) := by
      show cJn kd _ _ _ = _
      rw [hk]; rfl
    have e2 : (kJ dJn kd st ld (n + 1)).1 = (kJ dJn kd st ld n).1 ||| st (n + 1) := by
      show dJn kd _ _ _ = _
      unfold dJn
      rw [if_neg (by rw [hk_lc0]; exact neNO (x := (kJ dJn kd st ld n).1) (B := 65536) (by rw [← e]; omega) (by omega)), if_neg (by rw [hk_lc0]; exact neNO (B := 65536) (by omega) (by omega))]
      rw [hk]; rfl
    exact ⟨by rw [e1, e2, e], by rw [e1]; exact or64 b hb⟩
theorem hk_j23 {kd : Int32} (hk : kd = 2 ∨ kd = 3) {st : Nat → Int64} {lc ld : Nat → Int32} : ∀ n, (∀ i, i ≤ n → inV (st i)) → (kJ cJn kd st lc n).1 = (kJ dJn kd st ld n).1 ∧ inV (kJ cJn kd st lc n).1
  | 0, h => ⟨rfl, h 0 (Nat.le_refl 0)⟩
  | n + 1, h => by
    obtain ⟨e, b⟩ := hk_j23 hk (st := st) (lc := lc) (ld := ld) n (fun i hi => h i (by omega))
    have hb := h (n + 1) (Nat.le_refl _)
    have e1 : (kJ cJn kd st lc (n + 1)).1 = cJn kd (kJ cJn kd st lc n).1 (st (n + 1)) (if lc (n + 1) ≤ (kJ cJn kd st lc n).2 then 0 else 1) := rfl
    have e2 : (kJ dJn kd st ld (n + 1)).1 = dJn kd (kJ dJn kd st ld n).1 (st (n + 1)) (if ld (n + 1) ≤ (kJ dJn kd st ld n).2 then 0 else 1) := rfl
    rw [e1, e2, ← e]
    generalize (kJ cJn kd st lc n).1 = a at b ⊢
    generalize st (n + 1) = x at hb ⊢
    generalize (if lc (n + 1) ≤ (kJ cJn kd st lc n).2 then (0 : Int32) else 1) = u
    generalize (if ld (n + 1) ≤ (kJ dJn kd st ld n).2 then (0 : Int32) else 1) = w
    have fin : cJn kd a x u = dJn kd a x w ∧ (cJn kd a x u = a ∨ cJn kd a x u = x) := by
      unfold cJn dJn
      rcases hk with hk | hk
      · rw [if_neg (by rw [hk]; decide), if_neg (by rw [hk]; decide), if_pos hk, if_pos hk]
        by_cases c1 : lg_cmp a NO = 0
        · rw [if_pos c1, if_pos c1]
          have ea := hk_lc0.mp c1
          rw [if_neg (by rw [ea]; exact inV_ge hb)]
          exact ⟨rfl, Or.inr rfl⟩
        · rw [if_neg c1, if_neg c1]
          by_cases c2 : lg_cmp x NO = 0
          · rw [if_pos c2, if_pos c2]
            have ex := hk_lc0.mp c2
            rw [if_pos (by rw [ex]; exact inV_gt b (fun q => c1 (hk_lc0.mpr q)))]
            exact ⟨rfl, Or.inl rfl⟩
          · rw [if_neg c2, if_neg c2]
            by_cases c3 : x < a
            · rw [if_pos c3, if_pos (by rw [hk_lcge]; exact Int64.le_of_lt c3)]
              exact ⟨rfl, Or.inr rfl⟩
            · rw [if_neg c3]
              by_cases c4 : 0 ≤ lg_cmp a x
              · rw [if_pos c4]
                exact ⟨Int64.le_antisymm (Int64.not_lt.mp c3) (hk_lcge.mp c4), Or.inl rfl⟩
              · rw [if_neg c4]; exact ⟨rfl, Or.inl rfl⟩
      · rw [if_neg (by rw [hk]; decide), if_neg (by rw [hk]; decide), if_neg (by rw [hk]; decide), if_pos hk, if_neg (show ¬ kd = 2 by rw [hk]; decide), if_pos hk]
        by_cases c1 : lg_cmp a NO = 0
        · rw [if_pos c1]
          have ea := hk_lc0.mp c1
          rw [if_neg (by rw [ea]; exact inV_ge hb)]
          exact ⟨rfl, Or.inr rfl⟩
        · rw [if_neg c1]
          by_cases c2 : lg_cmp x NO = 0
          · rw [if_pos c2]
            have ex := hk_lc0.mp c2
            rw [if_pos (by rw [ex]; exact inV_gt b (fun q => c1 (hk_lc0.mpr q)))]
            exact ⟨rfl, Or.inl rfl⟩
          · rw [if_neg c2]
            by_cases c3 : x < a
            · rw [if_pos c3, if_neg (by rw [hk_lcle]; exact Int64.not_le.mpr c3)]
              exact ⟨rfl, Or.inl rfl⟩
            · rw [if_neg c3, if_pos (by rw [hk_lcle]; exact Int64.not_lt.mp c3)]
              exact ⟨rfl, Or.inr rfl⟩
    exact ⟨fin.1, by rcases fin.2 with q | q <;> rw [q] <;> assumption⟩
