theorem cnt_eq {lr tc : Nat → Int32} : ∀ n, (∀ i, 1 ≤ i → i ≤ n → (tc i = 0 ↔ lr i = -1)) → cntT tc n = cntR lr n
  | 0, _ => rfl
  | n + 1, h => by
    have ih := cnt_eq (lr := lr) (tc := tc) n (fun i h1 h2 => h i h1 (by omega))
    have hn := h (n + 1) (by omega) (Nat.le_refl _)
    simp only [cntT, cntR]
    rw [ih]
    by_cases c : tc (n + 1) = 0
    · rw [if_pos c, if_pos (hn.mp c), Int32.add_zero]
    · rw [if_neg c, if_neg (fun q => c (hn.mpr q))]
/-- a key is joined back: class, and the model's run -/
theorem ks_back {F P N K q : Nat} {kc kd pc L : Nat → Int32} {S : Nat → Int64} {moved : Int32} (r : ∃ dp D Ld tc, ksR F P N kc kd pc S L dp D Ld tc) (hK : K < 100) (hpc : pc K = nI q) (hq8 : q ≤ 8) {post : Int32 → (Nat → Int32) × (Nat → Int64) × (Nat → Int32) × Int32 → Prop} (h : ∀ (n : Int32) (S2 : Nat → Int64) (L2 : Nat → Int32), (∃ dp2 D2 Ld2 tc2, ksR F P N kc kd (upd pc K 1) S2 L2 dp2 D2 Ld2 tc2) → (∀ (dp : Nat → Int32) (D : Nat → Int64) (Ld tc : Nat → Int32) (cm : Nat → Int64) (dmoved : Int32), ksR F P N kc kd pc S L dp D Ld tc → ∀ pd : Int32 → (Nat → Int64) × (Nat → Int32) × (Nat → Int32) × Int32 × (Nat → Int64) → Prop, (∀ (D2 : Nat → Int64) (Ld2 : Nat → Int32) (cm2 : Nat → Int64), ksR F P N kc kd (upd pc K 1) S2 L2 (upd dp K 1) D2 Ld2 tc → pd n (D2, Ld2, upd dp K 1, dmoved + n, cm2)) → wp_d_joinBack (nI K) (nI F) kd D Ld tc dp dmoved cm pd) → post n (upd pc K 1, S2, L2, moved + n)) : wp_ks_bringBack (nI K) pc S L moved kc (nI F) post := by
  obtain ⟨dp0, D0, Ld0, tc0, r⟩ := r
  have hF := r.1
  have hP8 := r.2.2.1
  have qof : ∀ (dp : Nat → Int32) (D : Nat → Int64) (Ld tc : Nat → Int32), ksR F P N kc kd pc S L dp D Ld tc → 1 ≤ q ∧ dp K = nI q ∧ keyR F N kc q K S L D Ld tc := fun dp D Ld tc r => by
    obtain ⟨q0, b1, b2, b3, b4, b5⟩ := r.2.2.2.2.2 K hK
    have eq0 : q0 = q := (nI_eq (by omega) (by omega)).mp (b3.symm.trans hpc)
    subst eq0
    exact ⟨b1, b4, b5⟩
  have b1 := (qof _ _ _ _ r).1
  refine sp_ks_bringBack hK hF b1 (by omega) hpc (fun S2 g1 => ?_)
  have core : ∀ (dp : Nat → Int32) (D : Nat → Int64) (Ld tc : Nat → Int32), ksR F P N kc kd pc S L dp D Ld tc → ∀ D2 : Nat → Int64, (∀ k i f, k < 100 → i < 8 → f < 6 → D2 (dx k i f) = if k = K ∧ i = 0 ∧ f < F then (kJ dJn (kd f) (fun i => D (dx K i f)) (fun i => Ld (dl K i)) (q - 1)).1 else D (dx k i f)) → ksR F P N kc kd (upd pc K 1) S2 (upd L (sl K 0) (mR (fun i => L (sl K i)) q)) (upd dp K 1) D2 (upd Ld K (kR (fun i => Ld (dl K i)) (q - 1))) tc := by
    intro dp D Ld tc r D2 e1
    obtain ⟨-, b4, a1, a2, a3, a4, a5, a6⟩ := qof _ _ _ _ r
    obtain ⟨hF, hP2, hP8, hN, hkd, hk⟩ := r
    refine ⟨hF, hP2, hP8, hN, hkd, fun k hk1 => ?_⟩
    by_cases c : k = K
    · subst c
      have hdk : ∀ f, f < F → D2 (dx k 0 f) = S2 (cs k 0 f) := fun f hf => by
        rw [e1 k 0 f hk1 (by omega) (by omega), g1 k 0 f hk1 (by omega) (by omega), if_pos (by omega), if_pos (by omega), hkd f hf]
        have hb : 1000 * N ≤ 1000000 := by omega
        rw [hk_jj hb (a3 f hf) a4 (by
          rcases a1 with z | z
          · exact Or.inl (by omega)
          · exact Or.inr (z f hf))]
        exact congrArg Prod.fst (kJ_congr (q - 1) (fun i hi => (a2 f hf i (by omega)).symm) (fun _ _ => rfl))
      have hL2 : upd L (sl k 0) (mR (fun i => L (sl k i)) q) (sl k 0) = mR (fun i => L (sl k i)) q := by rw [upd_at, if_pos rfl]
      refine ⟨1, Nat.le_refl 1, by omega, by rw [upd_at, if_pos rfl]; rfl, by rw [upd_at, if_pos rfl]; rfl, Or.inl rfl, fun f hf i hi => ?_, fun f hf => ?_, ⟨fun i hi => ?_, fun i h1 hi => absurd hi (by omega), ?_⟩, fun i hi => ?_, fun i h1 hi => absurd hi (by omega)⟩
      · rw [show i = 0 by omega]; exact (hdk f hf).symm
      · refine hk_jd (by omega) (a3 f hf) a4.1 _ _ ?_ ?_
        · show S2 _ = _
          rw [g1 k 0 f hk1 (by omega) (by omega), if_pos (by omega)]
        · rw [show q - 1 + 1 = q by omega]; exact hL2
      · rw [show i = 0 by omega]
        show -1 ≤ upd L _ _ (sl k 0)
        rw [hL2]; exact mR_ge _
      · show upd Ld k _ (dl k 0) = upd L _ _ (sl k 0) ∨ (upd Ld k _ (dl k 0) = -1 ∧ _)
        rw [hL2, dl0, upd_at, if_pos rfl]
        rcases hk_jr a4 with z | z
        · rw [show q - 1 + 1 = q by omega] at z
          exact Or.inl z
        · exact Or.inr ⟨z, fun i h1 hi => absurd hi (by omega)⟩
      · rw [show i = 0 by omega, hL2]
        exact mR_bd (m1_lt hN) q a5
    · obtain ⟨q1, c1, c2, c3, c4, c5⟩ := hk k hk1
      refine ⟨q1, c1, c2, by rw [upd_at, if_neg c]; exact c3, by rw [upd_at, if_neg c]; exact c4, keyR_same c5 (fun f i hf hi => ?_) (fun i hi => ?_) (fun f i hf hi => ?_) (fun i hi => ?_) (fun i hi => rfl) c1⟩
      · rw [g1 k i f hk1 (by omega) (by omega), if_neg (by omega)]
      · rw [upd_at, if_iff (sl_eq (by omega) (by omega)), if_neg (by omega)]
      · rw [e1 k i f hk1 (by omega) (by omega), if_neg (by omega)]
      · rw [upd_at, if_neg]
        intro z
        rw [← dl0 K] at z
        exact c ((dl_eq hk1 hK).mp z).1
  obtain ⟨D2, e1⟩ := exD (fun k i f => if k = K ∧ i = 0 ∧ f < F then (kJ dJn (kd f) (fun i => D0 (dx K i f)) (fun i => Ld0 (dl K i)) (q - 1)).1 else D0 (dx k i f))
  refine h _ S2 _ ⟨_, D2, _, _, core _ _ _ _ r D2 e1⟩ (fun dp D Ld tc cm dmoved r pd hpd => ?_)
  obtain ⟨-, b4, a1, a2, a3, a4, a5, a6⟩ := qof _ _ _ _ r
  refine sp_d_joinBack hK hF b1 (by omega) b4 (fun D2 cm2 e1 => ?_)
  rw [cnt_eq (lr := fun i => L (sl K i)) (q - 1) (fun i h1 hi => a6 i h1 (by omega))]
  exact hpd D2 _ cm2 (core _ _ _ _ r D2 e1)
