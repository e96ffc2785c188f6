theorem v64 {v : Int32} (h1 : -1000 ≤ v) (h2 : v ≤ 1000) : -1000 ≤ v.toInt64.toInt ∧ v.toInt64.toInt ≤ 1000 := by
  rw [Int32.toInt_toInt64]
  rw [Int32.le_iff_toInt_le] at h1 h2
  exact ⟨h1, h2⟩
theorem ltNO {x : Int64} : NO < x ↔ -4000000000000 < x.toInt := by rw [Int64.lt_iff_toInt_lt, NO_toInt]
theorem set16 (v : Int32) : 0 ≤ (hk_lshl 1 (v &&& 15)).toInt ∧ (hk_lshl 1 (v &&& 15)).toInt < 65536 := by
  obtain ⟨j, hj, e⟩ := pk_andE v (m := 15) 4 (by decide)
  rw [e]
  have : ∀ j, j < 16 → 0 ≤ (hk_lshl 1 (nI j)).toInt ∧ (hk_lshl 1 (nI j)).toInt < 65536 := by decide
  exact this j hj
theorem cF_0 (st : Int64) (v : Int32) (bf : Int64) : cF 0 st v bf = st + 1 := by
  unfold cF
  rw [if_pos rfl]
theorem dF_0 (st : Int64) (v fl : Int32) : dF 0 st v fl = st + 1 := by
  unfold dF
  rw [if_pos rfl]
theorem cF_1 (st : Int64) (v : Int32) (bf : Int64) : cF 1 st v bf = st + v.toInt64 := by
  unfold cF
  rw [if_neg (show ¬ (1 : Int32) = 0 by decide), if_pos rfl]
theorem dF_1 (st : Int64) (v fl : Int32) : dF 1 st v fl = st + v.toInt64 := by
  unfold dF
  rw [if_neg (show ¬ (1 : Int32) = 0 by decide), if_pos rfl]
theorem cF_2 (st : Int64) (v : Int32) (bf : Int64) : cF 2 st v bf = (if lg_cmp st NO = 0 then v.toInt64 else (if v.toInt64 < st then v.toInt64 else st)) := by
  unfold cF
  rw [if_neg (show ¬ (2 : Int32) = 0 by decide), if_neg (show ¬ (2 : Int32) = 1 by decide), if_pos rfl]
theorem dF_2 (st : Int64) (v fl : Int32) : dF 2 st v fl = (if lg_cmp st NO = 0 then v.toInt64 else (if 0 ≤ lg_cmp v.toInt64 st then st else v.toInt64)) := by
  unfold dF
  rw [if_neg (show ¬ (2 : Int32) = 0 by decide), if_neg (show ¬ (2 : Int32) = 1 by decide), if_pos rfl]
theorem cF_3 (st : Int64) (v : Int32) (bf : Int64) : cF 3 st v bf = (if v.toInt64 < st then st else v.toInt64) := by
  unfold cF
  rw [if_neg (show ¬ (3 : Int32) = 0 by decide), if_neg (show ¬ (3 : Int32) = 1 by decide), if_neg (show ¬ (3 : Int32) = 2 by decide), if_pos rfl]
theorem dF_3 (st : Int64) (v fl : Int32) : dF 3 st v fl = (if lg_cmp st NO = 0 then v.toInt64 else (if lg_cmp v.toInt64 st ≤ 0 then st else v.toInt64)) := by
  unfold dF
  rw [if_neg (show ¬ (3 : Int32) = 0 by decide), if_neg (show ¬ (3 : Int32) = 1 by decide), if_neg (show ¬ (3 : Int32) = 2 by decide), if_pos rfl]
theorem cF_4 (st : Int64) (v : Int32) (bf : Int64) : cF 4 st v bf = (st ||| hk_lshl 1 (v &&& 15)) := by
  unfold cF
  rw [if_neg (show ¬ (4 : Int32) = 0 by decide), if_neg (show ¬ (4 : Int32) = 1 by decide), if_neg (show ¬ (4 : Int32) = 2 by decide), if_neg (show ¬ (4 : Int32) = 3 by decide), if_pos rfl]
theorem dF_4 (st : Int64) (v fl : Int32) : dF 4 st v fl = (st ||| hk_lshl 1 (v &&& 15)) := by
  unfold dF
  rw [if_neg (show ¬ (4 : Int32) = 0 by decide), if_neg (show ¬ (4 : Int32) = 1 by decide), if_neg (show ¬ (4 : Int32) = 2 by decide), if_neg (show ¬ (4 : Int32) = 3 by decide), if_pos rfl]
theorem cF_5 (st : Int64) (v : Int32) (bf : Int64) : cF 5 st v bf = v.toInt64 := by
  unfold cF
  rw [if_neg (show ¬ (5 : Int32) = 0 by decide), if_neg (show ¬ (5 : Int32) = 1 by decide), if_neg (show ¬ (5 : Int32) = 2 by decide), if_neg (show ¬ (5 : Int32) = 3 by decide), if_neg (show ¬ (5 : Int32) = 4 by decide), if_pos rfl]
theorem dF_5 (st : Int64) (v fl : Int32) : dF 5 st v fl = v.toInt64 := by
  unfold dF
  rw [if_neg (show ¬ (5 : Int32) = 0 by decide), if_neg (show ¬ (5 : Int32) = 1 by decide), if_neg (show ¬ (5 : Int32) = 2 by decide), if_neg (show ¬ (5 : Int32) = 3 by decide), if_neg (show ¬ (5 : Int32) = 4 by decide), if_pos rfl]
theorem cF_6 (st : Int64) (v : Int32) (bf : Int64) : cF 6 st v bf = (31 * st.toInt32 + v).toInt64 := by
  unfold cF
  rw [if_neg (show ¬ (6 : Int32) = 0 by decide), if_neg (show ¬ (6 : Int32) = 1 by decide), if_neg (show ¬ (6 : Int32) = 2 by decide), if_neg (show ¬ (6 : Int32) = 3 by decide), if_neg (show ¬ (6 : Int32) = 4 by decide), if_neg (show ¬ (6 : Int32) = 5 by decide), if_pos rfl]
theorem dF_6 (st : Int64) (v fl : Int32) : dF 6 st v fl = ((31 * st + v.toInt64).toInt32).toInt64 := by
  unfold dF
  rw [if_neg (show ¬ (6 : Int32) = 0 by decide), if_neg (show ¬ (6 : Int32) = 1 by decide), if_neg (show ¬ (6 : Int32) = 2 by decide), if_neg (show ¬ (6 : Int32) = 3 by decide), if_neg (show ¬ (6 : Int32) = 4 by decide), if_neg (show ¬ (6 : Int32) = 5 by decide), if_pos rfl]
theorem cF_7 (st : Int64) (v : Int32) (bf : Int64) : cF 7 st v bf = (if 0 ≤ lg_cmp v.toInt64 bf then st else st + 1) := by
  unfold cF
  rw [if_neg (show ¬ (7 : Int32) = 0 by decide), if_neg (show ¬ (7 : Int32) = 1 by decide), if_neg (show ¬ (7 : Int32) = 2 by decide), if_neg (show ¬ (7 : Int32) = 3 by decide), if_neg (show ¬ (7 : Int32) = 4 by decide), if_neg (show ¬ (7 : Int32) = 5 by decide), if_neg (show ¬ (7 : Int32) = 6 by decide), if_pos rfl]
theorem dF_7 (st : Int64) (v fl : Int32) : dF 7 st v fl = (if fl = 0 then st + 0 else st + 1) := by
  unfold dF
  rw [if_neg (show ¬ (7 : Int32) = 0 by decide), if_neg (show ¬ (7 : Int32) = 1 by decide), if_neg (show ¬ (7 : Int32) = 2 by decide), if_neg (show ¬ (7 : Int32) = 3 by decide), if_neg (show ¬ (7 : Int32) = 4 by decide), if_neg (show ¬ (7 : Int32) = 5 by decide), if_neg (show ¬ (7 : Int32) = 6 by decide)]
/-- a row folded: class and model alike -/
theorem cF_dF {kd : Int32} {x : Nat} (hx : x < 8) (ekd : kd = nI x) {st bf : Int64} {v fl : Int32} (h1 : -1000 ≤ v) (h2 : v ≤ 1000) (h7 : x = 7 → (fl = 0 ↔ bf ≤ v.toInt64)) : cF kd st v bf = dF kd st v fl := by
  have hv := v64 h1 h2
  subst ekd
  rcases (show x = 0 ∨ x = 1 ∨ x = 2 ∨ x = 3 ∨ x = 4 ∨ x = 5 ∨ x = 6 ∨ x = 7 by omega) with z | z | z | z | z | z | z | z <;> subst z
  · exact (cF_0 st v bf).trans (dF_0 st v fl).symm
  · exact (cF_1 st v bf).trans (dF_1 st v fl).symm
  · refine (cF_2 st v bf).trans (Eq.trans ?_ (dF_2 st v fl).symm)
    show (if lg_cmp st NO = 0 then v.toInt64 else (if v.toInt64 < st then v.toInt64 else st)) = (if lg_cmp st NO = 0 then v.toInt64 else (if 0 ≤ lg_cmp v.toInt64 st then st else v.toInt64))
    by_cases c : lg_cmp st NO = 0
    · rw [if_pos c, if_pos c]
    · rw [if_neg c, if_neg c]
      by_cases d : v.toInt64 < st
      · rw [if_pos d, if_neg (fun q => absurd d (Int64.not_lt.mpr (hk_lcge.mp q)))]
      · rw [if_neg d, if_pos (hk_lcge.mpr (Int64.not_lt.mp d))]
  · refine (cF_3 st v bf).trans (Eq.trans ?_ (dF_3 st v fl).symm)
    show (if v.toInt64 < st then st else v.toInt64) = (if lg_cmp st NO = 0 then v.toInt64 else (if lg_cmp v.toInt64 st ≤ 0 then st else v.toInt64))
    by_cases c : lg_cmp st NO = 0
    · rw [if_pos c, if_neg]
      rw [hk_lc0.mp c, Int64.lt_iff_toInt_lt, NO_toInt]
      omega
    · rw [if_neg c]
      by_cases d : v.toInt64 < st
      · rw [if_pos d, if_pos (hk_lcle.mpr (Int64.le_of_lt d))]
      · rw [if_neg d]
        by_cases d2 : v.toInt64 = st
        · rw [d2, if_pos (hk_lcle.mpr (Int64.le_refl _))]
        · rw [if_neg]
          intro q
          rcases Int64.lt_or_eq_of_le (hk_lcle.mp q) with z | z
          · exact d z
          · exact d2 z
  · exact (cF_4 st v bf).trans (dF_4 st v fl).symm
  · exact (cF_5 st v bf).trans (dF_5 st v fl).symm
  · refine (cF_6 st v bf).trans (Eq.trans ?_ (dF_6 st v fl).symm)
    show (31 * st.toInt32 + v).toInt64 = ((31 * st + v.toInt64).toInt32).toInt64
    rw [Int64.toInt32_add, Int64.toInt32_mul, Int32.toInt32_toInt64]
    rfl
  · refine (cF_7 st v bf).trans (Eq.trans ?_ (dF_7 st v fl).symm)
    show (if 0 ≤ lg_cmp v.toInt64 bf then st else st + 1) = (if fl = 0 then st + 0 else st + 1)
    by_cases c : fl = 0
    · rw [if_pos c, if_pos (hk_lcge.mpr ((h7 rfl).mp c)), Int64.add_zero]
    · rw [if_neg c, if_neg (fun q => c ((h7 rfl).mpr (hk_lcge.mp q)))]
theorem absS_upd {st st2 : Nat → Int64} {I : Nat} (h1 : (st2 I).toInt.natAbs ≤ (st I).toInt.natAbs + 1000) (h2 : ∀ i, ¬ i = I → st2 i = st i) : ∀ n, absS st2 n ≤ absS st n + (if I ≤ n then 1000 else 0)
  | 0 => by
    show (st2 0).toInt.natAbs ≤ (st 0).toInt.natAbs + _
    by_cases c : 0 = I
    · subst c; rw [if_pos (Nat.le_refl _)]; exact h1
    · rw [h2 0 c]; omega
  | n + 1 => by
    have ih := absS_upd (I := I) h1 h2 n
    show absS st2 n + (st2 (n + 1)).toInt.natAbs ≤ absS st n + (st (n + 1)).toInt.natAbs + _
    by_cases c : n + 1 = I
    · subst c
      rw [if_neg (by omega)] at ih
      rw [if_pos (Nat.le_refl _)]
      omega
    · rw [h2 (n + 1) c]
      by_cases d : I ≤ n
      · rw [if_pos d] at ih; rw [if_pos (by omega)]; omega
      · rw [if_neg d] at ih; rw [if_neg (by omega)]; omega
/-- the domains after a row -/
theorem dom_row {kd : Int32} {st st2 : Nat → Int64} {lc lc2 : Nat → Int32} {n N I : Nat} {v : Int32} {bf : Int64} (hN : N < 450) (hd : dom kd st lc n (1000 * N)) (h1 : -1000 ≤ v) (h2 : v ≤ 1000) (hI : I ≤ n) (s1 : st2 I = cF kd (st I) v bf) (s2 : ∀ i, ¬ i = I → st2 i = st i) (l1 : lc2 I = nI N) (l2 : ∀ i, ¬ i = I → lc2 i = lc i) : dom kd st2 lc2 n (1000 * (N + 1)) := by
  obtain ⟨d1, d2, d3, d4⟩ := hd
  have hv := v64 h1 h2
  refine ⟨fun c => ?_, fun c i hi => ?_, fun c i hi => ?_, fun c i hi => ?_⟩
  · have dd := d1 c
    have hI2 := Nat.le_trans (absS_le (st := st) hI) dd
    have := absS_upd (st := st) (st2 := st2) (I := I) (by
      rw [s1]
      rcases c with c | c <;> subst c
      · rw [cF_0, add64] <;> (rw [show ((1 : Int64).toInt) = 1 from rfl]; omega)
      · rw [cF_1, add64] <;> omega) s2 n
    rw [if_pos hI] at this
    omega
  · by_cases z : i = I
    · subst z
      rw [s1]
      have hh := d2 c i hi
      rcases c with c | c | c <;> subst c
      · rw [cF_2]
        split
        · exact Or.inr hv
        · split
          · exact Or.inr hv
          · exact hh
      · rw [cF_3]
        split
        · exact hh
        · exact Or.inr hv
      · rw [cF_5]; exact Or.inr hv
    · rw [s2 i z]; exact d2 c i hi
  · by_cases z : i = I
    · subst z
      rw [s1]
      subst c
      rw [cF_4]
      exact or64 (d3 rfl i hi) (set16 v)
    · rw [s2 i z]; exact d3 c i hi
  · by_cases z : i = I
    · subst z
      rw [s1, l1]
      subst c
      rw [cF_5]
      refine ⟨fun q => ?_, fun q => absurd (nI_ge0 (K := N) (by omega)) (by rw [q]; decide)⟩
      rw [q, NO_toInt] at hv
      omega
    · rw [s2 i z, l2 i z]; exact d4 c i hi
theorem keyR_mono {F N q k : Nat} {kc : Nat → Int32} {S D : Nat → Int64} {L Ld tc : Nat → Int32} (hN : N < 450) (h : keyR F N kc q k S L D Ld tc) : keyR F (N + 1) kc q k S L D Ld tc := by
  obtain ⟨a1, a2, a3, a4, a5, a6⟩ := h
  refine ⟨a1, a2, fun f hf => ?_, a4, fun i hi => Int32.lt_of_lt_of_le (a5 i hi) (nI_le (by omega) (by omega)), a6⟩
  obtain ⟨d1, d2, d3, d4⟩ := a3 f hf
  exact ⟨fun c => Nat.le_trans (d1 c) (by omega), d2, d3, d4⟩
/-- the states after a row -/
theorem ks_took {F P N K I q : Nat} {kc kd pc L dp Ld tc : Nat → Int32} {S S2 D D2 : Nat → Int64} {v fl : Int32} {bf : Int64} (r : ksR F P N kc kd pc S L dp D Ld tc) (hkc : ∀ f, f < F → ∃ x, x < 8 ∧ kc f = nI x) (hN : N < 450) (hK : K < 100) (hpc : pc K = nI q) (hq : q ≤ 8) (hI : I < q) (h1 : -1000 ≤ v) (h2 : v ≤ 1000) (h7 : (∃ f, f < F ∧ kc f = 7) → (fl = 0 ↔ bf ≤ v.toInt64)) (g1 : ∀ k i f, k < 100 → i < 8 → f < 6 → S2 (cs k i f) = if k = K ∧ i = I ∧ f < F then cF (kc f) (S (cs K I f)) v bf else S (cs k i f)) (e1 : ∀ k i f, k < 100 → i < 8 → f < 6 → D2 (dx k i f) = if k = K ∧ i = I ∧ f < F then dF (kd f) (D (dx K I f)) v fl else D (dx k i f)) : ksR F P (N + 1) kc kd pc S2 (upd L (sl K I) (nI N)) dp D2 (upd Ld (dl K I) (nI N)) (upd tc (dl K I) 1) := by
  obtain ⟨hF, hP2, hP8, hN2, hkd, hk⟩ := r
  refine ⟨hF, hP2, hP8, by omega, hkd, fun k hk1 => ?_⟩
  obtain ⟨q0, b1, b2, b3, b4, b5⟩ := hk k hk1
  refine ⟨q0, b1, b2, b3, b4, ?_⟩
  by_cases c : k = K
  · subst c
    have eq0 : q0 = q := (nI_eq (by omega) (by omega)).mp (b3.symm.trans hpc)
    subst eq0
    obtain ⟨a1, a2, a3, a4, a5, a6⟩ := b5
    have hL : ∀ i, i < q0 → upd L (sl k I) (nI N) (sl k i) = if i = I then nI N else L (sl k i) := fun i hi => by
      rw [upd_at, if_iff (sl_eq (by omega) (by omega))]
      exact if_iff ⟨fun z => z.2, fun z => ⟨rfl, z⟩⟩
    have hLd : ∀ i, i < q0 → upd Ld (dl k I) (nI N) (dl k i) = if i = I then nI N else Ld (dl k i) := fun i hi => by
      rw [upd_at, if_iff (dl_eq hk1 hk1)]
      exact if_iff ⟨fun z => z.2, fun z => ⟨rfl, z⟩⟩
    have hS : ∀ f i, f < F → i < q0 → S2 (cs k i f) = if i = I then cF (kc f) (S (cs k I f)) v bf else S (cs k i f) := fun f i hf hi => by
      rw [g1 k i f hk1 (by omega) (by omega)]
      exact if_iff ⟨fun z => z.2.1, fun z => ⟨rfl, z, hf⟩⟩
    have m1 : ∀ n, n ≤ 450 → ¬ nI n = (-1 : Int32) := fun n hn q => absurd (nI_ge0 (K := n) (by omega)) (by rw [q]; decide)
    refine ⟨a1, fun f hf i hi => ?_, fun f hf => ?_, ⟨fun i hi => ?_, fun i h1 hi => ?_, ?_⟩, fun i hi => ?_, fun i h1 hi => ?_⟩
    · rw [hS f i hf hi, e1 k i f hk1 (by omega) (by omega)]
      by_cases ci : i = I
      · subst ci
        rw [if_pos rfl, if_pos ⟨rfl, rfl, hf⟩, ← a2 f hf i hi, hkd f hf]
        obtain ⟨x, hx, ex⟩ := hkc f hf
        exact cF_dF hx ex h1 h2 (fun z => h7 ⟨f, hf, by rw [ex, z]; rfl⟩)
      · rw [if_neg ci, if_neg (by omega)]; exact a2 f hf i hi
    · -- the class's states beyond q0 do not matter: cut them off
      have key := dom_row (st := fun i => if i < q0 then S (cs k i f) else S (cs k I f)) (st2 := fun i => if i = I then cF (kc f) (S (cs k I f)) v bf else if i < q0 then S (cs k i f) else S (cs k I f)) (lc := fun i => L (sl k i)) (lc2 := fun i => if i = I then nI N else L (sl k i)) (n := q0 - 1) (N := N) (I := I) (v := v) (bf := bf) (kd := kc f) hN (by
          obtain ⟨d1, d2, d3, d4⟩ := a3 f hf
          refine ⟨fun c => ?_, fun c i hi => ?_, fun c i hi => ?_, fun c i hi => ?_⟩
          · have : ∀ n, n < q0 → absS (fun i => if i < q0 then S (cs k i f) else S (cs k I f)) n = absS (fun i => S (cs k i f)) n := by
              intro n
              induction n with
              | zero => intro hn; show (if 0 < q0 then _ else _ : Int64).toInt.natAbs = _; rw [if_pos hn]; rfl
              | succ n ih => intro hn; show absS _ n + (if n + 1 < q0 then _ else _ : Int64).toInt.natAbs = absS _ n + _; rw [ih (by omega), if_pos hn]
            rw [this (q0 - 1) (by omega)]; exact d1 c
          · show inV (if i < q0 then _ else _); rw [if_pos (by omega)]; exact d2 c i hi
          · show 0 ≤ (if i < q0 then _ else _ : Int64).toInt ∧ (if i < q0 then _ else _ : Int64).toInt < 65536; rw [if_pos (by omega)]; exact d3 c i hi
          · show (if i < q0 then _ else _) = NO ↔ _; rw [if_pos (by omega)]; exact d4 c i hi) h1 h2 (by omega) (by show (if I = I then _ else _) = cF _ (if I < q0 then _ else _) _ _; rw [if_pos rfl, if_pos hI]) (fun i hi => by show (if i = I then _ else _) = _; rw [if_neg hi]) (by show (if I = I then _ else _) = _; rw [if_pos rfl]) (fun i hi => by show (if i = I then _ else _) = _; rw [if_neg hi])
      obtain ⟨d1, d2, d3, d4⟩ := key
      have e2 : ∀ i, i < q0 → S2 (cs k i f) = if i = I then cF (kc f) (S (cs k I f)) v bf else if i < q0 then S (cs k i f) else S (cs k I f) := fun i hi => by
        rw [hS f i hf hi]
        by_cases ci : i = I
        · rw [if_pos ci, if_pos ci]
        · rw [if_neg ci, if_neg ci, if_pos hi]
      refine ⟨fun c => ?_, fun c i hi => ?_, fun c i hi => ?_, fun c i hi => ?_⟩
      · have : ∀ n, n < q0 → absS (fun i => S2 (cs k i f)) n = absS (fun i => if i = I then cF (kc f) (S (cs k I f)) v bf else if i < q0 then S (cs k i f) else S (cs k I f)) n := by
          intro n
          induction n with
          | zero => intro hn; show (S2 _).toInt.natAbs = _; rw [e2 0 hn]; rfl
          | succ n ih => intro hn; show absS _ n + (S2 _).toInt.natAbs = absS _ n + _; rw [ih (by omega), e2 (n + 1) hn]
        rw [this (q0 - 1) (by omega)]; exact d1 c
      · show inV (S2 _); rw [e2 i (by omega)]; exact d2 c i hi
      · show 0 ≤ (S2 _).toInt ∧ (S2 _).toInt < 65536; rw [e2 i (by omega)]; exact d3 c i hi
      · show S2 _ = NO ↔ upd L (sl k I) (nI N) (sl k i) = -1; rw [e2 i (by omega), hL i (by omega)]; exact d4 c i hi
    · show -1 ≤ upd L (sl k I) (nI N) (sl k i)
      rw [hL i (by omega)]
      split
      · exact Int32.le_trans (by decide) (nI_ge0 (K := N) (by omega))
      · exact a4.1 i hi
    · show upd Ld (dl k I) (nI N) (dl k i) = upd L (sl k I) (nI N) (sl k i)
      rw [hL i (by omega), hLd i (by omega)]
      by_cases ci : i = I
      · rw [if_pos ci, if_pos ci]
      · rw [if_neg ci, if_neg ci]; exact a4.2.1 i h1 hi
    · show upd Ld (dl k I) (nI N) (dl k 0) = upd L (sl k I) (nI N) (sl k 0) ∨ (upd Ld (dl k I) (nI N) (dl k 0) = -1 ∧ ∀ i, 1 ≤ i → i ≤ q0 - 1 → upd L (sl k I) (nI N) (sl k i) = -1 ∨ upd L (sl k I) (nI N) (sl k 0) < upd L (sl k I) (nI N) (sl k i))
      rw [hL 0 (by omega), hLd 0 (by omega)]
      by_cases c0 : 0 = I
      · rw [if_pos c0, if_pos c0]; exact Or.inl rfl
      · rw [if_neg c0, if_neg c0]
        rcases a4.2.2 with z | z
        · exact Or.inl z
        · refine Or.inr ⟨z.1, fun i h1 hi => ?_⟩
          rw [hL i (by omega)]
          by_cases ci : i = I
          · rw [if_pos ci]; exact Or.inr (a5 0 (by omega))
          · rw [if_neg ci]; exact z.2 i h1 hi
    · rw [hL i hi]
      by_cases ci : i = I
      · rw [if_pos ci]; exact nI_lt (by omega) (by omega)
      · rw [if_neg ci]; exact Int32.lt_of_lt_of_le (a5 i hi) (nI_le (by omega) (by omega))
    · rw [hL i hi, upd_at, if_iff (dl_eq hk1 hk1)]
      by_cases ci : i = I
      · rw [if_pos ⟨rfl, ci⟩, if_pos ci]; exact ⟨fun z => absurd z (by decide), fun z => absurd z (m1 N (by omega))⟩
      · rw [if_neg (fun z => ci z.2), if_neg ci]; exact a6 i h1 hi
  · refine keyR_mono hN (keyR_same b5 (fun f i hf hi => ?_) (fun i hi => ?_) (fun f i hf hi => ?_) (fun i hi => ?_) (fun i hi => ?_) b1)
    · rw [g1 k i f hk1 (by omega) (by omega), if_neg (by omega)]
    · rw [upd_at, if_iff (sl_eq (by omega) (by omega)), if_neg (by omega)]
    · rw [e1 k i f hk1 (by omega) (by omega), if_neg (by omega)]
    · rw [upd_at, if_iff (dl_eq hk1 hK), if_neg (by omega)]
    · rw [upd_at, if_iff (dl_eq hk1 hK), if_neg (by omega)]
