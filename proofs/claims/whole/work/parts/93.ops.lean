theorem fm_pos : ∀ d, d < 64 → (0 : Int32) ≤ (nI d ^^^ 64) ∧ nI d - nI d / 64 * 64 = nI d := by decide
theorem fm_neg : ∀ d, d < 64 → 1 ≤ d → ¬ (0 : Int32) ≤ ((nI 0 - nI d) ^^^ 64) ∧ ¬ (nI 0 - nI d) - (nI 0 - nI d) / 64 * 64 = 0 ∧ (nI 0 - nI d) - (nI 0 - nI d) / 64 * 64 + 64 = nI (64 - d) := by decide
theorem sp_floorMod {w i : Nat} (hw : w < 64) (hi : i < 64) {post : Int32 → Prop} (h : post (nI ((w + 64 - i) % 64))) : wp_Math_floorMod_7cf53 (nI w - nI i) 64 post := by
  unfold wp_Math_floorMod_7cf53
  refine ⟨by decide, fun x1 e1 => ?_⟩
  by_cases c : i ≤ w
  · rw [pk_sub c] at e1 ⊢
    obtain ⟨f1, f2⟩ := fm_pos (w - i) (by omega)
    rw [f2] at e1
    refine ⟨fun _ => ?_, fun q => absurd f1 q⟩
    rw [e1]
    rw [show (w + 64 - i) % 64 = w - i by omega] at h
    exact h
  · have e : nI w - nI i = nI 0 - nI (i - w) := by
      rw [Int32.sub_eq_iff_eq_add, Int32.sub_eq_add_neg, nI_0, Int32.zero_add, Int32.add_comm, ← Int32.sub_eq_add_neg, pk_sub (by omega)]
      congr 1
      omega
    obtain ⟨f1, f2, f3⟩ := fm_neg (i - w) (by omega) (by omega)
    rw [e] at e1 ⊢
    refine ⟨fun q => absurd q f1, fun _ => ⟨fun q => absurd (e1.symm.trans q) f2, fun _ => ?_⟩⟩
    rw [e1, f3]
    rw [show (w + 64 - i) % 64 = 64 - (i - w) by omega] at h
    exact h
theorem op_log {t : Nat} (ht : t < 512) {cells : Nat → Int64} {newest kept logged a1 a2 : Int32} {lk lt : Nat → Int32} {ls : Nat → Int64} (rg : lgR t cells newest kept logged lk lt ls) {Q : Prop} (hR0 : Q) : wp_x_log a1 a2 cells newest kept (fun r => wp_d_log a1 a2 logged lk lt ls (fun r2 => r = r2 ∧ Q)) := by
  obtain ⟨w, g, hw, hg, rfl, rfl, rfl, hc⟩ := rg
  have kp : ∀ pd : Int32 → Prop, pd (nI (if g < 64 then g else 64)) → wp_d_keptLogs (nI g) pd := fun pd h => by
    refine pk_le 64 g (fun c => ?_) (fun c => ?_)
    · rw [if_neg (by omega)] at h; exact h
    · rw [if_pos (by omega)] at h; exact h
  rcases ix32 a1 (n := if g < 64 then g else 64) (by split <;> omega) with ⟨i, hi, rfl⟩ | hn
  · have hig : i < g ∧ i < 64 := by split at hi <;> omega
    refine sp_isW_Y (ix_r hi (by split <;> omega)).1 (ix_r hi (by split <;> omega)).2 ⟨fun c => absurd c (by decide), fun _ => ?_⟩
    rcases rg32 a2 0 7 (by omega) (by omega) with ⟨c, -, hc7, rfl⟩ | hn2
    · have r7 : (0 : Int32) ≤ nI c ∧ nI c ≤ 7 := ⟨nI_ge0 (by omega), nI_le (b := 7) (by omega) (by omega)⟩
      refine sp_isW_Y r7.1 r7.2 ⟨fun _ => ?_, fun q => absurd q (by decide)⟩
      unfold wp_lg_read
      refine sp_floorMod hw hig.2 ?_
      have hr := Nat.mod_lt (w + 64 - i) (show 0 < 64 by omega)
      have hm := Nat.mod_lt (g - 1 - i) (show 0 < 64 by omega)
      have e8 : nI ((w + 64 - i) % 64) * 8 + nI c = nI (8 * ((w + 64 - i) % 64) + c) := by
        rw [show (8 : Int32) = nI 8 from rfl, pk_mul, nI_add, Nat.mul_comm]
      rw [e8, ncl _ (by omega)]
      refine ⟨pk_in (8 * ((w + 64 - i) % 64) + c) 512 (by omega), ?_⟩
      unfold wp_d_log
      refine kp _ ?_
      refine sp_in_Y (ix_r hi (by split <;> omega)).1 (ix_r hi (by split <;> omega)).2 ⟨fun q => absurd q (by decide), fun _ => ?_⟩ rfl rfl
      refine sp_in_Y r7.1 r7.2 ⟨fun _ x6 e6 => ?_, fun q => absurd q (by decide)⟩ rfl rfl
      obtain ⟨g', rfl⟩ : ∃ g', g = g' + 1 := ⟨g - 1, by omega⟩
      rw [nI_pred, pk_sub (by omega), show (64 : Int32) = nI 64 from rfl, pk_rem (by omega) (by omega) (by omega), show g' - i = g' + 1 - 1 - i by omega] at e6
      subst e6
      obtain ⟨h0, h1, h2⟩ := hc i hig.1 hig.2
      refine ⟨fun q0 => ⟨fun q1 => ?_, fun q1 => ⟨pk_in _ 64 hm, ?_⟩⟩, fun q0 => ⟨pk_in _ 64 hm, ?_⟩⟩
      · have c2 : 2 ≤ c := by
          rcases (show c = 0 ∨ c = 1 ∨ 2 ≤ c by omega) with z | z | z
          · subst z; exact absurd rfl q0
          · subst z; exact absurd rfl q1
          · exact z
        have e9 : 6 * nI ((g' + 1 - 1 - i) % 64) + nI c - 2 = nI (6 * ((g' + 1 - 1 - i) % 64) + (c - 2)) := by
          rw [show (6 : Int32) = nI 6 from rfl, show (2 : Int32) = nI 2 from rfl, pk_mul, nI_add, pk_sub (by omega)]
          congr 1
          omega
        rw [e9, ncl _ (by omega)]
        refine ⟨pk_in (6 * ((g' + 1 - 1 - i) % 64) + (c - 2)) 384 (by omega), ?_, hR0⟩
        have := h2 (c - 2) (by omega)
        rw [show 8 * ((w + 64 - i) % 64) + 2 + (c - 2) = 8 * ((w + 64 - i) % 64) + c by omega] at this
        exact this
      · have c1 : c = 1 := (nI_eq (b := 1) (by omega) (by omega)).mp q1
        subst c1
        rw [ncl _ (by omega)]
        exact ⟨h1, hR0⟩
      · have c1 : c = 0 := (nI_eq (b := 0) (by omega) (by omega)).mp q0
        subst c1
        rw [ncl _ (by omega)]
        exact ⟨h0, hR0⟩
    · refine sp_isW_N hn2 ⟨fun q => absurd rfl q, fun _ => ?_⟩
      unfold wp_d_log
      refine kp _ ?_
      refine sp_in_Y (ix_r hi (by split <;> omega)).1 (ix_r hi (by split <;> omega)).2 ⟨fun q => absurd q (by decide), fun _ => ?_⟩ rfl rfl
      exact sp_in_N hn2 ⟨fun q => absurd rfl q, fun _ => ⟨rfl, hR0⟩⟩ rfl rfl
  · refine sp_isW_N hn ⟨fun _ => ?_, fun q => absurd rfl q⟩
    unfold wp_d_log
    refine kp _ ?_
    exact sp_in_N hn ⟨fun _ => ⟨rfl, hR0⟩, fun q => absurd rfl q⟩ rfl rfl
theorem ob_log : Ob_log Rab := by
  intro t a1 a2 xs ds ms ht hR
  have hR0 := ob_step _ _ _ _ hR
  obtain ⟨P, Rd, T, M, F, N, G, U, J, hP, hR, hT, hSl, hM, hJ, hN, hG, hF, hU, hE, rl, rc, rs, rt, rg, rk, rf, rv, rm⟩ := hR
  exact op_log ht rg hR0
/-- how many of the first j parts lie at a place -/
def bt (P K A : Nat) : Nat → Int32
  | 0 => 0
  | j + 1 => if plc P K j = A then bt P K A j + 1 else bt P K A j
theorem bt_no {P K A : Nat} : ∀ j, (∀ i, i < j → ¬ plc P K i = A) → bt P K A j = 0
  | 0, _ => rfl
  | j + 1, h => by
    simp only [bt]
    rw [if_neg (h j (by omega)), bt_no j (fun i hi => h i (by omega))]
theorem plc_inj {P K i j : Nat} (hP : 2 ≤ P) (hi : i < j) (hj : j < P) (h : plc P K i = plc P K j) : False := by
  unfold plc at h
  have hK := Nat.mod_lt K (show 0 < P by omega)
  have e : ∀ x, x < P + P → x % P = if x < P then x else x - P := fun x hx => by
    by_cases c : x < P
    · rw [if_pos c, Nat.mod_eq_of_lt c]
    · rw [if_neg c, Nat.mod_eq_sub_mod (by omega), Nat.mod_eq_of_lt (by omega)]
  have e1 := e (K % P + i) (by omega)
  have e2 := e (K % P + j) (by omega)
  rw [e1, e2] at h
  split at h <;> split at h <;> omega
theorem bt_yes {P K A i : Nat} (hP : 2 ≤ P) (h : plc P K i = A) : ∀ j, i < j → j ≤ P → bt P K A j = 1
  | 0, hi, _ => absurd hi (Nat.not_lt_zero _)
  | j + 1, hi, hj => by
    simp only [bt]
    by_cases c : i = j
    · subst c
      rw [if_pos h, bt_no i (fun l hl q => plc_inj hP hl (by omega) (q.trans h.symm))]
      rfl
    · rw [if_neg (fun q => plc_inj hP (show i < j by omega) (by omega) (h.trans q.symm)), bt_yes hP h j (by omega) (by omega)]
theorem sp_hasPartAt {P K A q : Nat} {pc : Nat → Int32} (hP : 2 ≤ P) (hP8 : P ≤ 8) (hK : K < 100) (hA : A < P) (hq : q ≤ P) (hpc : pc K = nI q) {post : Int32 → Prop} (h : post (bt P K A q)) : wp_x_hasPartAt (nI K) (nI A) (nI P) pc post := by
  unfold wp_x_hasPartAt
  refine sp_ks_partCount hK ?_
  rw [hpc]
  refine hk_upE (fun j v => v = nI j ∧ ∀ i, i < j → ¬ plc P K i = A) q 0 _ (Nat.zero_le _) ⟨rfl, fun i hi => absurd hi (Nat.not_lt_zero _)⟩ ?_ ?_
  · rintro j v Kk hj ⟨rfl, hh⟩ hk
    unfold wb_x_hasPartAt_12
    refine pk_le q j (fun z => absurd z (by omega)) (fun _ => sp_x_placeOf hP hP8 hK (by omega) ?_)
    have hpl : plc P K j < P := Nat.mod_lt _ (by omega)
    refine ⟨fun c x6 e6 => hk _ ⟨by rw [e6]; exact nI_1 j, fun i hi => ?_⟩, fun c => ?_⟩
    · by_cases z : i = j
      · subst z; exact fun z => c (by rw [z])
      · exact hh i (by omega)
    · rw [bt_yes hP ((nI_eq (by omega) (by omega)).mp c) q hj hq] at h
      exact h
  · rintro v Kk ⟨rfl, hh⟩
    unfold wb_x_hasPartAt_12
    refine pk_le q q (fun _ => ?_) (fun z => absurd z (by omega))
    rw [bt_no q hh] at h
    exact h
theorem bt01 {P K A q : Nat} (hP : 2 ≤ P) (hq : q ≤ P) : bt P K A q = 0 ∨ bt P K A q = 1 := by
  by_cases h : ∃ i, i < q ∧ plc P K i = A
  · obtain ⟨i, hi, e⟩ := h
    exact Or.inr (bt_yes hP e q hi hq)
  · exact Or.inl (bt_no q (fun i hi e => h ⟨i, hi, e⟩))
theorem op_copies {F P N : Nat} {pc L dp Ld tc kc kd keys weights dk dw : Nat → Int32} {S D : Nat → Int64} {places d_p a1 count mat dc dm : Int32} {out dout : Int64} (hP : places = nI P ∧ d_p = nI P) (rk : ksR F P N kc kd pc S L dp D Ld tc) (rs : smR keys weights count mat out dc dk dw dm dout) {Q : Prop} (hR0 : Q) : wp_x_copies a1 places keys count pc (fun r => wp_d_copies a1 d_p dp dc dk (fun r2 => r = r2 ∧ Q)) := by
  obtain ⟨rfl, rfl⟩ := hP
  obtain ⟨-, -, C, hC, rfl, rfl, hs⟩ := rs
  have hP2 := rk.2.1
  have hP8 := rk.2.2.1
  rcases ix32 a1 (n := P) (by omega) with ⟨A, hA, rfl⟩ | hn
  · refine sp_isPlace_Y hA hP8 ⟨fun _ => ?_, fun q => absurd q (by decide)⟩
    refine hk_upE (fun j v => v.2 = nI j ∧ ∀ pd, hk_lp (wb_d_copies_23 (nI P) dp (nI C) dk (nI A) pd) (C - j + 1) v → hk_lp (wb_d_copies_23 (nI P) dp (nI C) dk (nI A) pd) (C + 1) (0, 0)) C 0 _ (Nat.zero_le _) ⟨rfl, fun pd h => h⟩ ?_ ?_
    · rintro j ⟨b, v⟩ Kk hj ⟨e, hM⟩ hk
      have e : v = nI j := e
      subst e
      obtain ⟨ek, -, K, hK, eK⟩ := hs j hj
      obtain ⟨q, q1, qP, q8, b3, b4⟩ := ks_q rk hK
      unfold wb_x_copies_15
      dsimp only
      refine pk_le C j (fun z => absurd z (by omega)) (fun _ => ⟨pk_in j 60 (by omega), ?_⟩)
      rw [ncl j, eK]
      have step : ∀ pd : Int32 → Prop, hk_lp (wb_d_copies_23 (nI P) dp (nI C) dk (nI A) pd) (C - (j + 1) + 1) (b + bt P K A q, nI (j + 1)) → hk_lp (wb_d_copies_23 (nI P) dp (nI C) dk (nI A) pd) (C + 1) (0, 0) := fun pd h => by
        refine hM pd ?_
        rw [show C - j + 1 = (C - (j + 1) + 1) + 1 by omega]
        show wb_d_copies_23 (nI P) dp (nI C) dk (nI A) pd (hk_lp (wb_d_copies_23 (nI P) dp (nI C) dk (nI A) pd) (C - (j + 1) + 1)) (b, nI j)
        unfold wb_d_copies_23
        dsimp only
        refine pk_le C j (fun z => absurd z (by omega)) (fun _ => ?_)
        refine hk_upE (fun i v => v.2 = nI i ∧ v.1 = b + bt P K A i) q 0 _ (Nat.zero_le _) ⟨rfl, (Int32.add_zero b).symm⟩ ?_ ?_
        · rintro i ⟨n, w⟩ Kd hi ⟨e1, e2⟩ hkd
          have e1 : w = nI i := e1
          subst e1
          have e2 : n = b + bt P K A i := e2
          subst e2
          unfold wb_d_copies_34
          dsimp only
          rw [ncl j, ← ek, eK, ncl K, b4]
          refine ⟨pk_in j 60 (by omega), pk_in K 100 hK, ?_⟩
          refine pk_le q i (fun z => absurd z (by omega)) (fun _ => ⟨pk_in j 60 (by omega), sp_d_placeOf hP2 hP8 hK (by omega) ?_⟩)
          have hpl : plc P K i < P := Nat.mod_lt _ (by omega)
          refine ⟨fun c x10 e10 x11 e11 => hkd _ ⟨by rw [e11]; exact nI_1 i, ?_⟩, fun c x12 e12 x13 e13 => hkd _ ⟨by rw [e13]; exact nI_1 i, ?_⟩⟩
          · show x10 = b + bt P K A (i + 1)
            simp only [bt]
            rw [if_neg (fun z => c (by rw [z])), e10, Int32.add_zero]
          · show x12 = b + bt P K A (i + 1)
            simp only [bt]
            rw [if_pos ((nI_eq (by omega) (by omega)).mp c), e12, Int32.add_assoc]
        · rintro ⟨n, w⟩ Kd ⟨e1, e2⟩
          have e1 : w = nI q := e1
          subst e1
          have e2 : n = b + bt P K A q := e2
          subst e2
          unfold wb_d_copies_34
          dsimp only
          rw [ncl j, ← ek, eK, ncl K, b4]
          refine ⟨pk_in j 60 (by omega), pk_in K 100 hK, ?_⟩
          refine pk_le q q (fun _ x7 e7 => ?_) (fun z => absurd z (by omega))
          rw [e7, nI_1]
          exact h
      refine sp_hasPartAt hP2 hP8 hK hA qP b3 ?_
      rcases bt01 (P := P) (K := K) (A := A) (q := q) hP2 qP with z | z
      · rw [z]
        rw [z] at step
        refine ⟨fun _ x7 e7 => ?_, fun c => absurd rfl c⟩
        rw [e7, nI_1]
        exact hk _ ⟨rfl, fun pd h => step pd (by rw [Int32.add_zero]; exact h)⟩
      · rw [z]
        rw [z] at step
        refine ⟨fun c => absurd c (by decide), fun _ x8 e8 x9 e9 => ?_⟩
        rw [e9, nI_1, e8]
        exact hk _ ⟨rfl, fun pd h => step pd h⟩
    · rintro ⟨b, v⟩ Kk ⟨e, hM⟩
      have e : v = nI C := e
      subst e
      unfold wb_x_copies_15
      dsimp only
      refine pk_le C C (fun _ => ?_) (fun z => absurd z (by omega))
      unfold wp_d_copies
      refine sp_in_Y (ix_r hA (by omega)).1 (ix_r hA (by omega)).2 ⟨fun _ => ⟨C + 1, hM _ ?_⟩, fun q => absurd q (by decide)⟩ rfl rfl
      rw [show C - C + 1 = 0 + 1 by omega]
      change wb_d_copies_23 (nI P) dp (nI C) dk (nI A) (fun r2 => b = r2 ∧ Q) (hk_lp (wb_d_copies_23 (nI P) dp (nI C) dk (nI A) (fun r2 => b = r2 ∧ Q)) 0) (b, nI C)
      unfold wb_d_copies_23
      exact pk_le C C (fun _ => ⟨rfl, hR0⟩) (fun z => absurd z (by omega))
  · refine sp_isPlace_N hn ⟨fun q => absurd rfl q, fun _ => ?_⟩
    exact sp_in_N hn ⟨fun q => absurd rfl q, fun _ => ⟨rfl, hR0⟩⟩ rfl rfl
theorem ob_copies : Ob_copies Rab := by
  intro t a1 xs ds ms ht hR
  have hR0 := ob_step _ _ _ _ hR
  obtain ⟨P, Rd, T, M, F, N, G, U, J, hP, hR, hT, hSl, hM, hJ, hN, hG, hF, hU, hE, rl, rc, rs, rt, rg, rk, rf, rv, rm⟩ := hR
  exact op_copies hP rk rs hR0
