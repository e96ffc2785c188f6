theorem hk_j5 {st : Nat → Int64} {lc ld : Nat → Int32} (N : Nat) (hr : rRel lc ld N) (hv : ∀ i, i ≤ N → inV (st i)) (hz : ∀ i, i ≤ N → (st i = NO ↔ lc i = -1)) : ∀ n, n ≤ N → (kJ cJn 5 st lc n).1 = (kJ dJn 5 st ld n).1 ∧ inV (kJ cJn 5 st lc n).1 ∧ ((kJ cJn 5 st lc n).1 = NO ↔ (kJ cJn 5 st lc n).2 = -1) ∧ -1 ≤ (kJ cJn 5 st lc n).2 ∧ -1 ≤ (kJ dJn 5 st ld n).2 ∧ ((kJ dJn 5 st ld n).2 = (kJ cJn 5 st lc n).2 ∨ ((∀ i, 1 ≤ i → i ≤ N → lc i = -1 ∨ lc 0 < lc i) ∧ (kJ dJn 5 st ld n).2 = -1 ∧ (kJ cJn 5 st lc n).2 = lc 0))
  | 0, h => by
    refine ⟨rfl, hv 0 h, hz 0 h, hr.1 0 h, ?_, ?_⟩
    · show -1 ≤ ld 0
      rcases hr.2.2 with q | q
      · rw [q]; exact hr.1 0 h
      · rw [q.1]; exact Int32.le_refl _
    · rcases hr.2.2 with q | q
      · exact Or.inl q
      · exact Or.inr ⟨q.2, q.1, rfl⟩
  | n + 1, h => by
    obtain ⟨e, b, z, g1, g2, w⟩ := hk_j5 N hr hv hz n (by omega)
    have hb := hv (n + 1) h
    have hbz := hz (n + 1) h
    have hl := hr.1 (n + 1) h
    have hld := hr.2.1 (n + 1) (by omega) h
    have e1 : kJ cJn 5 st lc (n + 1) = (cJn 5 (kJ cJn 5 st lc n).1 (st (n + 1)) (if lc (n + 1) ≤ (kJ cJn 5 st lc n).2 then 0 else 1), if (kJ cJn 5 st lc n).2 < lc (n + 1) then lc (n + 1) else (kJ cJn 5 st lc n).2) := rfl
    have e2 : kJ dJn 5 st ld (n + 1) = (dJn 5 (kJ dJn 5 st ld n).1 (st (n + 1)) (if lc (n + 1) ≤ (kJ dJn 5 st ld n).2 then 0 else 1), if (kJ dJn 5 st ld n).2 < lc (n + 1) then lc (n + 1) else (kJ dJn 5 st ld n).2) := by rw [← hld]; rfl
    have hw : (∀ i, 1 ≤ i → i ≤ N → lc i = -1 ∨ lc 0 < lc i) → lc (n + 1) = -1 ∨ lc 0 < lc (n + 1) := fun q => q (n + 1) (by omega) h
    rw [e1, e2, ← e]
    generalize (kJ cJn 5 st lc n).1 = a at b z ⊢
    generalize (kJ cJn 5 st lc n).2 = L at z g1 w ⊢
    generalize (kJ dJn 5 st ld n).2 = M at g2 w ⊢
    generalize st (n + 1) = x at hb hbz ⊢
    generalize lc (n + 1) = r at hbz hl hw ⊢
    have c5 : ∀ u : Int32, cJn 5 a x u = if u = 0 then a else x := fun u => rfl
    have d5 : ∀ u : Int32, dJn 5 a x u = if lg_cmp a NO = 0 then x else if lg_cmp x NO = 0 then a else if u = 0 then a else x := fun u => rfl
    rw [c5, d5]
    dsimp only
    by_cases cr : r = -1
    · have ex : x = NO := hbz.mpr cr
      have h1 : r ≤ L := by rw [cr]; exact g1
      have h2 : r ≤ M := by rw [cr]; exact g2
      rw [if_pos h1, if_pos rfl, if_neg (Int32.not_lt.mpr h1), if_neg (Int32.not_lt.mpr h2), if_pos (show lg_cmp x NO = 0 from hk_lc0.mpr ex)]
      refine ⟨?_, b, z, g1, g2, w⟩
      by_cases ca : lg_cmp a NO = 0
      · rw [if_pos ca, ex]; exact hk_lc0.mp ca
      · rw [if_neg ca]
    · have hx : ¬ x = NO := fun q => cr (hbz.mp q)
      have hr1 : (-1 : Int32) < r := by
        rcases Int32.lt_or_eq_of_le hl with q | q
        · exact q
        · exact absurd q.symm cr
      rw [if_neg (show ¬ lg_cmp x NO = 0 from fun q => hx (hk_lc0.mp q))]
      rcases w with w | ⟨w1, w2, w3⟩
      · rw [w]
        by_cases c1 : r ≤ L
        · have ha : ¬ a = NO := fun q => by
            rw [z.mp q] at c1
            exact absurd hr1 (Int32.not_lt.mpr c1)
          rw [if_pos c1, if_pos rfl, if_neg (Int32.not_lt.mpr c1), if_neg (show ¬ lg_cmp a NO = 0 from fun q => ha (hk_lc0.mp q))]
          exact ⟨rfl, b, z, g1, g1, Or.inl rfl⟩
        · rw [if_neg c1, if_neg (show ¬ (1 : Int32) = 0 by decide), if_pos (Int32.not_le.mp c1)]
          refine ⟨?_, hb, ⟨fun q => absurd q hx, fun q => absurd q cr⟩, hl, hl, Or.inl rfl⟩
          by_cases ca : lg_cmp a NO = 0
          · rw [if_pos ca]
          · rw [if_neg ca]
      · have hlt : lc 0 < r := by
          rcases hw w1 with q | q
          · exact absurd q cr
          · exact q
        rw [w2, w3]
        rw [if_neg (Int32.not_le.mpr hlt), if_neg (show ¬ (1 : Int32) = 0 by decide), if_pos hlt, if_neg (Int32.not_le.mpr hr1), if_neg (show ¬ (1 : Int32) = 0 by decide), if_pos hr1]
        refine ⟨?_, hb, ⟨fun q => absurd q hx, fun q => absurd q cr⟩, hl, hl, Or.inl rfl⟩
        by_cases ca : lg_cmp a NO = 0
        · rw [if_pos ca]
        · rw [if_neg ca]
/-- joined, the class's state is the model's -/
theorem hk_jj {kd : Int32} {st : Nat → Int64} {lc ld : Nat → Int32} {n B : Nat} (hB : B ≤ 1000000) (hd : dom kd st lc n B) (hr : rRel lc ld n) (hn : n = 0 ∨ kd = 0 ∨ kd = 1 ∨ kd = 2 ∨ kd = 3 ∨ kd = 4 ∨ kd = 5) : (kJ cJn kd st lc n).1 = (kJ dJn kd st ld n).1 := by
  obtain ⟨d1, d2, d3, d4⟩ := hd
  rcases hn with h | h | h | h | h | h | h
  · subst h; rfl
  · exact (hk_j01 (Or.inl h) n (Nat.le_trans (d1 (Or.inl h)) hB)).1
  · exact (hk_j01 (Or.inr h) n (Nat.le_trans (d1 (Or.inr h)) hB)).1
  · exact (hk_j23 (Or.inl h) n (d2 (Or.inl h))).1
  · exact (hk_j23 (Or.inr h) n (d2 (Or.inr (Or.inl h)))).1
  · exact (hk_j4 h n (d3 h)).1
  · subst h
    exact (hk_j5 n hr (d2 (Or.inr (Or.inr rfl))) (d4 rfl) n (Nat.le_refl n)).1
/-- joined, the state keeps its kind's domain -/
theorem hk_jd {kd : Int32} {st : Nat → Int64} {lc : Nat → Int32} {n B : Nat} (hB : B ≤ 1000000) (hd : dom kd st lc n B) (hl : ∀ i, i ≤ n → -1 ≤ lc i) (st2 : Nat → Int64) (lc2 : Nat → Int32) (h1 : st2 0 = (kJ cJn kd st lc n).1) (h2 : lc2 0 = mR lc (n + 1)) : dom kd st2 lc2 0 B := by
  obtain ⟨d1, d2, d3, d4⟩ := hd
  have h0 : ∀ {i : Nat}, i ≤ 0 → i = 0 := fun h => by omega
  refine ⟨fun h => ?_, fun h i hi => ?_, fun h i hi => ?_, fun h i hi => ?_⟩
  · show (st2 0).toInt.natAbs ≤ B
    rw [h1]
    exact Nat.le_trans (hk_j01 (ld := lc) h n (Nat.le_trans (d1 h) hB)).2 (d1 h)
  · rw [h0 hi, h1]
    rcases h with h | h | h
    · exact (hk_j23 (ld := lc) (Or.inl h) n (d2 (Or.inl h))).2
    · exact (hk_j23 (ld := lc) (Or.inr h) n (d2 (Or.inr (Or.inl h)))).2
    · subst h
      exact (hk_j5 (ld := lc) n ⟨hl, fun _ _ _ => rfl, Or.inl rfl⟩ (d2 (Or.inr (Or.inr rfl))) (d4 rfl) n (Nat.le_refl n)).2.1
  · rw [h0 hi, h1]
    exact (hk_j4 (ld := lc) h n (d3 h)).2
  · rw [h0 hi, h1, h2, ← kJ_row (J := cJn) (kd := kd) (st := st) n hl]
    subst h
    exact (hk_j5 (ld := lc) n ⟨hl, fun _ _ _ => rfl, Or.inl rfl⟩ (d2 (Or.inr (Or.inr rfl))) (d4 rfl) n (Nat.le_refl n)).2.2.1
/-- behind a join back: the rows of part 0 -/
theorem hk_jr {lc ld : Nat → Int32} {n : Nat} (hr : rRel lc ld n) : kR ld n = mR lc (n + 1) ∨ kR ld n = -1 := by
  have key : ∀ m, m ≤ n → -1 ≤ kR ld m ∧ (kR ld m = mR lc (m + 1) ∨ ((∀ i, 1 ≤ i → i ≤ n → lc i = -1 ∨ lc 0 < lc i) ∧ kR ld m = -1 ∧ mR lc (m + 1) = lc 0)) := by
    intro m
    induction m with
    | zero =>
      intro hm
      have e0 : mR lc 1 = lc 0 := by
        show (if (-1 : Int32) < lc 0 then lc 0 else -1) = lc 0
        have h0 := hr.1 0 (Nat.zero_le _)
        by_cases c : (-1 : Int32) < lc 0
        · rw [if_pos c]
        · rw [if_neg c]; exact Int32.le_antisymm h0 (Int32.not_lt.mp c)
      rcases hr.2.2 with q | q
      · exact ⟨by show -1 ≤ ld 0; rw [q]; exact hr.1 0 (Nat.zero_le _), Or.inl (by show ld 0 = _; rw [q]; exact e0.symm)⟩
      · exact ⟨by show -1 ≤ ld 0; rw [q.1]; exact Int32.le_refl _, Or.inr ⟨q.2, q.1, e0⟩⟩
    | succ m ih =>
      intro hm
      obtain ⟨g, w⟩ := ih (by omega)
      have hld := hr.2.1 (m + 1) (by omega) hm
      have hl := hr.1 (m + 1) hm
      have e1 : kR ld (m + 1) = if lc (m + 1) ≤ kR ld m then kR ld m else lc (m + 1) := by rw [← hld]; rfl
      have e2 : mR lc (m + 1 + 1) = if mR lc (m + 1) < lc (m + 1) then lc (m + 1) else mR lc (m + 1) := rfl
      rw [e1, e2]
      rcases w with w | ⟨w1, w2, w3⟩
      · rw [← w]
        by_cases c : lc (m + 1) ≤ kR ld m
        · rw [if_pos c, if_neg (Int32.not_lt.mpr c)]; exact ⟨g, Or.inl rfl⟩
        · rw [if_neg c, if_pos (Int32.not_le.mp c)]; exact ⟨hl, Or.inl rfl⟩
      · rw [w2, w3]
        rcases w1 (m + 1) (by omega) hm with q | q
        · rw [q, if_pos (Int32.le_refl _), if_neg (Int32.not_lt.mpr (hr.1 0 (Nat.zero_le _)))]
          exact ⟨Int32.le_refl _, Or.inr ⟨w1, rfl, rfl⟩⟩
        · have h1 : (-1 : Int32) < lc (m + 1) := Int32.lt_of_le_of_lt (hr.1 0 (Nat.zero_le _)) q
          rw [if_neg (Int32.not_le.mpr h1), if_pos q]
          exact ⟨hl, Or.inl rfl⟩
  rcases (key n (Nat.le_refl n)).2 with q | q
  · exact Or.inl q
  · exact Or.inr q.2.1
