/-- small rows met -/
def sM (keys weights : Nat → Int32) (K v : Int32) (s : Int32 × Int64) : Nat → Int32 × Int64
  | 0 => s
  | j + 1 => if keys j = K then ((sM keys weights K v s j).1 + 1, (sM keys weights K v s j).2 + v.toInt64 * (weights j).toInt64) else sM keys weights K v s j
theorem sM_congr {k w k2 w2 : Nat → Int32} {K v : Int32} {s : Int32 × Int64} : ∀ n, (∀ i, i < n → k i = k2 i ∧ w i = w2 i) → sM k w K v s n = sM k2 w2 K v s n
  | 0, _ => rfl
  | n + 1, h => by
    simp only [sM]
    rw [sM_congr n (fun i hi => h i (by omega)), (h n (by omega)).1, (h n (by omega)).2]
theorem sp_sm_meet {K v : Int32} {keys weights : Nat → Int32} {C : Nat} (hC : C ≤ 60) {mat : Int32} {out : Int64} {post : Int32 × Int64 → Prop} (h : post ((sM keys weights K v (mat, out) C).1, (sM keys weights K v (mat, out) C).2)) : wp_sm_meet K v keys weights (nI C) mat out post := by
  unfold wp_sm_meet
  refine hk_upE (fun j w => w.1 = nI j ∧ w.2 = sM keys weights K v (mat, out) j) C 0 _ (Nat.zero_le _) ⟨rfl, rfl⟩ ?_ ?_
  · rintro j ⟨w, s⟩ Kk hj ⟨e, e2⟩ hk
    have e : w = nI j := e
    have e2 : s = _ := e2
    subst e
    subst e2
    unfold wb_sm_meet_2
    dsimp only
    refine pk_le C j (fun z => absurd z (by omega)) (fun _ => ⟨pk_in j 60 (by omega), ?_⟩)
    rw [ncl j]
    refine ⟨fun c x4 e4 => hk _ ⟨by rw [e4]; exact nI_1 j, ?_⟩, fun c x5 e5 => ⟨pk_in j 60 (by omega), fun x6 e6 x7 e7 => hk _ ⟨by rw [e7]; exact nI_1 j, ?_⟩⟩⟩
    · show _ = sM keys weights K v (mat, out) (j + 1)
      simp only [sM]
      rw [if_neg c]
    · show _ = sM keys weights K v (mat, out) (j + 1)
      simp only [sM]
      rw [if_pos c, e5, e6]
  · rintro ⟨w, s⟩ Kk ⟨e, e2⟩
    have e : w = nI C := e
    have e2 : s = _ := e2
    subst e
    subst e2
    unfold wb_sm_meet_2
    dsimp only
    exact pk_le C C (fun _ => h) (fun z => absurd z (by omega))
/-- the model's states after a row -/
def dR (kd : Nat → Int32) (v fl : Int32) (K I : Nat) (D : Nat → Int64) : Nat → Nat → Int64
  | 0 => D
  | j + 1 => vp_updL (dR kd v fl K I D j) (dx K I j) (dF (kd j) (dR kd v fl K I D j (dx K I j)) v fl)
theorem dR_at {kd : Nat → Int32} {v fl : Int32} {K I : Nat} {D : Nat → Int64} (hK : K < 100) : ∀ j, j ≤ 6 → ∀ k i f, k < 100 → i < 8 → f < 6 → dR kd v fl K I D j (dx k i f) = if k = K ∧ i = I ∧ f < j then dF (kd f) (D (dx K I f)) v fl else D (dx k i f)
  | 0, _, k, i, f, _, _, _ => by rw [if_neg (by omega)]; rfl
  | j + 1, hj, k, i, f, k1, i1, f1 => by
    simp only [dR]
    by_cases c : k = K ∧ i = I ∧ f = j
    · obtain ⟨rfl, rfl, rfl⟩ := c
      rw [pk_uLs, if_pos ⟨rfl, rfl, by omega⟩, dR_at hK f (by omega) k i f k1 i1 f1, if_neg (by omega)]
    · rw [pk_uLn (fun z => c ((dx_eq k1 f1 hK (by omega)).mp z)), dR_at hK j (by omega) k i f k1 i1 f1]
      exact if_iff (by omega)
theorem ush_ex (x : Int32) : ∃ r, r < 65536 ∧ hk_ushr x 16 = nI r := by
  have e := pk_ushr x 16 16 (by decide)
  have hb : x.toBitVec.toNat < 2 ^ 32 := x.toBitVec.isLt
  refine ⟨x.toBitVec.toNat / 2 ^ 16, by omega, ?_⟩
  unfold hk_ushr
  refine Int32.toBitVec_inj.mp (BitVec.eq_of_toNat_eq ?_)
  rw [e, pk_tn (by omega)]
theorem row_104 {F P N M K I C : Nat} {d_r d_t d_sl inr ro fp pa mat mo v : Int32} {out : Int64} {kd dd Ld lv hv tc dp ld ck cc ce dk dw : Nat → Int32} {D cm : Nat → Int64} (hK : K < 100) (hF : F ≤ 6) (hP2 : 2 ≤ P) (hP8 : P ≤ 8) (hI : I < 8) (hC : C ≤ 60) {fl : Int32} {post : Int32 → (Nat → Int64) × (Nat → Int32) × (Nat → Int32) × (Nat → Int32) × (Nat → Int32) × (Nat → Int32) × Int32 × Int32 × Int32 × Int32 × Int32 × Int32 × Int32 × Int64 × (Nat → Int32) × (Nat → Int32) × (Nat → Int32) × (Nat → Int32) × (Nat → Int64) → Prop} (h : wp_d_countKey (nI K) (nI M) ck cc ce (fun (w18 : (Nat → Int32) × (Nat → Int32) × (Nat → Int32)) => ∀ x19 : Int32, x19 = inr + 1 → (¬ x19 = d_r → post (nI (plc P K I)) ((dR kd v fl K I D F), upd Ld (dl K I) (nI N), upd lv (dl K I) v, upd hv (dl K I) 1, upd tc (dl K I) 1, dp, nI (N + 1), x19, ro, fp, pa, (sM dk dw (nI K) v (mat, out) C).1, mo, (sM dk dw (nI K) v (mat, out) C).2, upd ld (plc P K I) (ld (plc P K I) + 1), w18.1, w18.2.1, w18.2.2, cm)) ∧ (x19 = d_r → wp_d_endRound (nI P) d_t d_sl (nI M) (nI F) kd dd (dR kd v fl K I D F) (upd Ld (dl K I) (nI N)) (upd hv (dl K I) 1) (upd tc (dl K I) 1) dp ro fp pa mo w18.1 w18.2.1 w18.2.2 cm (fun (w21 : (Nat → Int64) × (Nat → Int32) × (Nat → Int32) × (Nat → Int32) × (Nat → Int32) × Int32 × Int32 × Int32 × Int32 × Int32 × (Nat → Int32) × (Nat → Int32) × (Nat → Int32) × (Nat → Int64)) => post (nI (plc P K I)) (w21.1, w21.2.1, upd lv (dl K I) v, w21.2.2.1, w21.2.2.2.1, w21.2.2.2.2.1, nI (N + 1), w21.2.2.2.2.2.1, w21.2.2.2.2.2.2.1, w21.2.2.2.2.2.2.2.1, w21.2.2.2.2.2.2.2.2.1, (sM dk dw (nI K) v (mat, out) C).1, w21.2.2.2.2.2.2.2.2.2.1, (sM dk dw (nI K) v (mat, out) C).2, upd ld (plc P K I) (ld (plc P K I) + 1), w21.2.2.2.2.2.2.2.2.2.2.1, w21.2.2.2.2.2.2.2.2.2.2.2.1, w21.2.2.2.2.2.2.2.2.2.2.2.2.1, w21.2.2.2.2.2.2.2.2.2.2.2.2.2))))) : wj_d_row_104 (nI P) d_r d_t d_sl (nI M) (nI F) kd dd D Ld lv hv tc dp (nI N) inr ro fp pa mat mo out ld ck cc ce (nI C) dk dw cm (nI K) v post (nI I) (nI (dl K I)) fl := by
  unfold wj_d_row_104
  have hdl := dl_lt hK hI
  have hpl : plc P K I < P := Nat.mod_lt _ (by omega)
  refine hk_upE (fun j w => w.1 = nI j ∧ w.2 = dR kd v fl K I D j) F 0 _ (Nat.zero_le _) ⟨rfl, rfl⟩ ?_ ?_
  · rintro j ⟨w, D'⟩ Kk hj ⟨e, e2⟩ hk
    have e : w = nI j := e
    have e2 : D' = _ := e2
    subst e
    subst e2
    have hdx := dx_lt (f := j) hK hI (by omega)
    unfold wb_d_row_109
    dsimp only
    refine pk_le F j (fun z => absurd z (by omega)) (fun _ => ?_)
    rw [dx_nI K I j, ncl j, ncl (dx K I j)]
    refine ⟨pk_in j 6 (by omega), pk_in (dx K I j) 4800 hdx, sp_d_folded ⟨pk_in (dx K I j) 4800 hdx, fun x28 e28 => hk _ ⟨by rw [e28]; exact nI_1 j, rfl⟩⟩⟩
  · rintro ⟨w, D'⟩ Kk ⟨e, e2⟩
    have e : w = nI F := e
    have e2 : D' = _ := e2
    subst e
    subst e2
    unfold wb_d_row_109
    dsimp only
    refine pk_le F F (fun _ => ⟨pk_in (dl K I) 800 hdl, pk_in (dl K I) 800 hdl, pk_in (dl K I) 800 hdl, pk_in (dl K I) 800 hdl, ?_⟩) (fun z => absurd z (by omega))
    refine hk_upE (fun j w => w.1 = nI j ∧ w.2 = sM dk dw (nI K) v (mat, out) j) C 0 _ (Nat.zero_le _) ⟨rfl, rfl⟩ ?_ ?_
    · rintro j ⟨w, s⟩ Kk hj ⟨e, e2⟩ hk
      have e : w = nI j := e
      have e2 : s = _ := e2
      subst e
      subst e2
      unfold wb_d_row_201
      dsimp only
      refine pk_le C j (fun z => absurd z (by omega)) (fun _ => ⟨pk_in j 60 (by omega), ?_⟩)
      rw [ncl j]
      refine ⟨fun c x23 e23 => hk _ ⟨by rw [e23]; exact nI_1 j, ?_⟩, fun c x24 e24 => ⟨pk_in j 60 (by omega), fun x25 e25 x26 e26 => hk _ ⟨by rw [e26]; exact nI_1 j, ?_⟩⟩⟩
      · show _ = sM dk dw (nI K) v (mat, out) (j + 1)
        simp only [sM]
        rw [if_neg c]
      · show _ = sM dk dw (nI K) v (mat, out) (j + 1)
        simp only [sM]
        rw [if_pos c, e24, e25]
    · rintro ⟨w, s⟩ Kk ⟨e, e2⟩
      have e : w = nI C := e
      have e2 : s = _ := e2
      subst e
      subst e2
      unfold wb_d_row_201
      dsimp only
      refine pk_le C C (fun _ => sp_d_placeOf hP2 hP8 hK hI ⟨pk_in (plc P K I) 8 (by omega), ?_⟩) (fun z => absurd z (by omega))
      rw [ncl (plc P K I), ncl (dl K I), hk_b1, nI_1 N]
      intro x16 e16
      subst e16
      refine ⟨pk_in (plc P K I) 8 (by omega), ?_⟩
      intro x17 e17
      subst e17
      exact h
theorem row_69 {F P N M K I C : Nat} {d_r d_t d_sl inr ro fp pa mat mo v : Int32} {out : Int64} {kd dd Ld lv hv tc dp ld ck cc ce dk dw : Nat → Int32} {D cm : Nat → Int64} (hK : K < 100) (hF : F ≤ 6) (hP2 : 2 ≤ P) (hP8 : P ≤ 8) (hI : I < 8) (hC : C ≤ 60) {post : Int32 → (Nat → Int64) × (Nat → Int32) × (Nat → Int32) × (Nat → Int32) × (Nat → Int32) × (Nat → Int32) × Int32 × Int32 × Int32 × Int32 × Int32 × Int32 × Int32 × Int64 × (Nat → Int32) × (Nat → Int32) × (Nat → Int32) × (Nat → Int32) × (Nat → Int64) → Prop} (h : wp_d_countKey (nI K) (nI M) ck cc ce (fun (w18 : (Nat → Int32) × (Nat → Int32) × (Nat → Int32)) => ∀ x19 : Int32, x19 = inr + 1 → (¬ x19 = d_r → post (nI (plc P K I)) ((dR kd v (if hv (dl K I) = 0 then 0 else if lv (dl K I) ≤ v then 0 else 1) K I D F), upd Ld (dl K I) (nI N), upd lv (dl K I) v, upd hv (dl K I) 1, upd tc (dl K I) 1, dp, nI (N + 1), x19, ro, fp, pa, (sM dk dw (nI K) v (mat, out) C).1, mo, (sM dk dw (nI K) v (mat, out) C).2, upd ld (plc P K I) (ld (plc P K I) + 1), w18.1, w18.2.1, w18.2.2, cm)) ∧ (x19 = d_r → wp_d_endRound (nI P) d_t d_sl (nI M) (nI F) kd dd (dR kd v (if hv (dl K I) = 0 then 0 else if lv (dl K I) ≤ v then 0 else 1) K I D F) (upd Ld (dl K I) (nI N)) (upd hv (dl K I) 1) (upd tc (dl K I) 1) dp ro fp pa mo w18.1 w18.2.1 w18.2.2 cm (fun (w21 : (Nat → Int64) × (Nat → Int32) × (Nat → Int32) × (Nat → Int32) × (Nat → Int32) × Int32 × Int32 × Int32 × Int32 × Int32 × (Nat → Int32) × (Nat → Int32) × (Nat → Int32) × (Nat → Int64)) => post (nI (plc P K I)) (w21.1, w21.2.1, upd lv (dl K I) v, w21.2.2.1, w21.2.2.2.1, w21.2.2.2.2.1, nI (N + 1), w21.2.2.2.2.2.1, w21.2.2.2.2.2.2.1, w21.2.2.2.2.2.2.2.1, w21.2.2.2.2.2.2.2.2.1, (sM dk dw (nI K) v (mat, out) C).1, w21.2.2.2.2.2.2.2.2.2.1, (sM dk dw (nI K) v (mat, out) C).2, upd ld (plc P K I) (ld (plc P K I) + 1), w21.2.2.2.2.2.2.2.2.2.2.1, w21.2.2.2.2.2.2.2.2.2.2.2.1, w21.2.2.2.2.2.2.2.2.2.2.2.2.1, w21.2.2.2.2.2.2.2.2.2.2.2.2.2))))) : wj_d_row_69 (nI P) d_r d_t d_sl (nI M) (nI F) kd dd D Ld lv hv tc dp (nI N) inr ro fp pa mat mo out ld ck cc ce (nI C) dk dw cm (nI K) v post (nI I) := by
  unfold wj_d_row_69
  have hdl := dl_lt hK hI
  refine sp_d_slot ⟨pk_in (dl K I) 800 hdl, ?_⟩
  rw [ncl (dl K I)]
  refine ⟨fun c => row_104 hK hF hP2 hP8 hI hC ?_, fun c => ⟨pk_in (dl K I) 800 hdl, fun d => row_104 hK hF hP2 hP8 hI hC ?_, fun d => row_104 hK hF hP2 hP8 hI hC ?_⟩⟩
  · rw [if_pos c] at h
    exact h
  · rw [if_neg c, if_pos d] at h
    exact h
  · rw [if_neg c, if_neg d] at h
    exact h
theorem sp_d_row {F P N M K I C : Nat} {d_r d_t d_sl inr ro fp pa mat mo v : Int32} {out : Int64} {kd dd Ld lv hv tc dp ld ck cc ce dk dw : Nat → Int32} {D cm : Nat → Int64} (hK : K < 100) (hF : F ≤ 6) (hP2 : 2 ≤ P) (hP8 : P ≤ 8) (hI : I < 8) (hC : C ≤ 60) {q r : Nat} (hN : N < 450) (h1 : -1000 ≤ v) (h2 : v ≤ 1000) (hdp : dp K = nI q) (hq : 1 ≤ q) (hq8 : q ≤ 8) (hr : r < 65536) (er : hk_ushr (nI N * (-1640531535)) 16 = nI r) (eI : I = r % q) {post : Int32 → (Nat → Int64) × (Nat → Int32) × (Nat → Int32) × (Nat → Int32) × (Nat → Int32) × (Nat → Int32) × Int32 × Int32 × Int32 × Int32 × Int32 × Int32 × Int32 × Int64 × (Nat → Int32) × (Nat → Int32) × (Nat → Int32) × (Nat → Int32) × (Nat → Int64) → Prop} (h : wp_d_countKey (nI K) (nI M) ck cc ce (fun (w18 : (Nat → Int32) × (Nat → Int32) × (Nat → Int32)) => ∀ x19 : Int32, x19 = inr + 1 → (¬ x19 = d_r → post (nI (plc P K I)) ((dR kd v (if hv (dl K I) = 0 then 0 else if lv (dl K I) ≤ v then 0 else 1) K I D F), upd Ld (dl K I) (nI N), upd lv (dl K I) v, upd hv (dl K I) 1, upd tc (dl K I) 1, dp, nI (N + 1), x19, ro, fp, pa, (sM dk dw (nI K) v (mat, out) C).1, mo, (sM dk dw (nI K) v (mat, out) C).2, upd ld (plc P K I) (ld (plc P K I) + 1), w18.1, w18.2.1, w18.2.2, cm)) ∧ (x19 = d_r → wp_d_endRound (nI P) d_t d_sl (nI M) (nI F) kd dd (dR kd v (if hv (dl K I) = 0 then 0 else if lv (dl K I) ≤ v then 0 else 1) K I D F) (upd Ld (dl K I) (nI N)) (upd hv (dl K I) 1) (upd tc (dl K I) 1) dp ro fp pa mo w18.1 w18.2.1 w18.2.2 cm (fun (w21 : (Nat → Int64) × (Nat → Int32) × (Nat → Int32) × (Nat → Int32) × (Nat → Int32) × Int32 × Int32 × Int32 × Int32 × Int32 × (Nat → Int32) × (Nat → Int32) × (Nat → Int32) × (Nat → Int64)) => post (nI (plc P K I)) (w21.1, w21.2.1, upd lv (dl K I) v, w21.2.2.1, w21.2.2.2.1, w21.2.2.2.2.1, nI (N + 1), w21.2.2.2.2.2.1, w21.2.2.2.2.2.2.1, w21.2.2.2.2.2.2.2.1, w21.2.2.2.2.2.2.2.2.1, (sM dk dw (nI K) v (mat, out) C).1, w21.2.2.2.2.2.2.2.2.2.1, (sM dk dw (nI K) v (mat, out) C).2, upd ld (plc P K I) (ld (plc P K I) + 1), w21.2.2.2.2.2.2.2.2.2.2.1, w21.2.2.2.2.2.2.2.2.2.2.2.1, w21.2.2.2.2.2.2.2.2.2.2.2.2.1, w21.2.2.2.2.2.2.2.2.2.2.2.2.2))))) : wp_d_row (nI K) v (nI P) d_r d_t d_sl (nI M) (nI F) kd dd D Ld lv hv tc dp (nI N) inr ro fp pa mat mo out ld ck cc ce (nI C) dk dw cm post := by
  unfold wp_d_row
  refine sp_noKey_Y hK ⟨fun _ => sp_in_Y (a := -1000) (b := 1000) h1 h2 ⟨fun _ => ⟨fun _ => ⟨pk_in K 100 hK, ?_⟩, fun z => absurd ((nI_eq (b := 450) (by omega) (by omega)).mp z) (by omega)⟩, fun z => absurd z (by decide)⟩ (by decide) (by decide), fun z => absurd rfl z⟩
  rw [ncl K, hdp]
  refine pk_le q 1 (fun c => ?_) (fun c => ⟨pk_in K 100 hK, ?_⟩)
  · have e0 : I = 0 := by
      rw [eI, show q = 1 by omega]
      exact Nat.mod_one r
    rw [e0] at h
    exact row_69 (I := 0) hK hF hP2 hP8 (by omega) hC h
  · unfold wp_d_partOfRow
    rw [er, pk_rem (by omega) (by omega) (by omega), ← eI]
    exact ⟨nI_ne0 (by omega) (by omega), row_69 hK hF hP2 hP8 hI hC h⟩
theorem vR_took {F N J K I : Nat} {kc : Nat → Int32} {V : Nat → Int64} {hv lv : Nat → Int32} {v : Int32} (r : vR F N J kc V hv lv) (hK : K < 100) (hI : (∃ f, f < F ∧ kc f = 7) → I = 0) : vR F (N + 1) J kc (vp_updL V K v.toInt64) (upd hv (dl K I) 1) (upd lv (dl K I) v) := by
  refine ⟨fun z => absurd z (by omega), fun c k hk => ?_⟩
  have e0 := hI c
  subst e0
  by_cases ck : k = K
  · subst ck
    rw [pk_uLs, pk_us, pk_us, if_neg (by decide)]
    exact ⟨rfl, Or.inr rfl⟩
  · have hne : dl k 0 ≠ dl K 0 := by unfold dl; omega
    rw [pk_uLn ck, pk_un hne, pk_un hne]
    exact r.2 c k hk
theorem op_row {P Rd T M F N G U J : Nat} {a1 v places round thr sl_ rows rr ro fp pa lim used sc mat mo fc d_p d_r d_t d_sl d_m d_f d_rows inr ro2 fp2 pa2 mat2 mo2 dsc : Int32} {out out2 : Int64} {xl keys counts errors sk sw pc L kc dc kd dd Ld lv hv tc dp ld ck cc ce dk dw : Nat → Int32} {S V D cm : Nat → Int64} (hP : (places = nI P ∧ d_p = nI P)) (hR : (round = nI Rd ∧ d_r = nI Rd ∧ 8 ≤ Rd ∧ Rd ≤ 200)) (hT : (thr = nI T ∧ d_t = nI T ∧ 1 ≤ T ∧ T ≤ Rd)) (hSl : sl_ = d_sl) (hM : (lim = nI M ∧ d_m = nI M)) (hN : (rows = nI N ∧ d_rows = nI N)) (hG : (rr = nI G ∧ inr = nI G ∧ G < Rd ∧ G ≤ N)) (hF : (fc = nI F ∧ d_f = nI F)) (hU : used = nI U) (hE : (ro = ro2 ∧ fp = fp2 ∧ pa = pa2 ∧ mo = mo2)) (rl : ldR xl ld) (rc : cnR keys counts errors U M G ck cc ce) (rs : smR sk sw sc mat out dsc dk dw mat2 out2) (rk : ksR F P N kc kd pc S L dp D Ld tc) (rf : foR F kc dc kd dd) (rv : vR F N J kc V hv lv) {Q : (Nat → Int32) × Int32 × Int32 × Int32 × Int32 × Int32 × (Nat → Int32) × (Nat → Int32) × (Nat → Int32) × Int32 × Int32 × Int64 × (Nat → Int32) × (Nat → Int64) × (Nat → Int32) × (Nat → Int64) × Int32 → (Nat → Int64) × (Nat → Int32) × (Nat → Int32) × (Nat → Int32) × (Nat → Int32) × (Nat → Int32) × Int32 × Int32 × Int32 × Int32 × Int32 × Int32 × Int32 × Int64 × (Nat → Int32) × (Nat → Int32) × (Nat → Int32) × (Nat → Int32) × (Nat → Int64) → Prop} (hQ : ∀ (xl2 ld2 : Nat → Int32) (N2 G2 U2 : Nat) (ro3 fp3 pa3 mo3 mat3 : Int32) (out3 : Int64) (keys2 counts2 errors2 pc2 : Nat → Int32) (S2 : Nat → Int64) (L2 : Nat → Int32) (V2 D2 : Nat → Int64) (Ld2 lv2 hv2 tc2 dp2 ck2 cc2 ce2 : Nat → Int32) (cm2 : Nat → Int64), ldR xl2 ld2 → G2 < Rd → G2 ≤ N2 → cnR keys2 counts2 errors2 U2 M G2 ck2 cc2 ce2 → smR sk sw sc mat3 out3 dsc dk dw mat3 out3 → ksR F P N2 kc kd pc2 S2 L2 dp2 D2 Ld2 tc2 → vR F N2 J kc V2 hv2 lv2 → Q (xl2, nI N2, nI G2, ro3, fp3, pa3, keys2, counts2, errors2, nI U2, mat3, out3, pc2, S2, L2, V2, mo3) (D2, Ld2, lv2, hv2, tc2, dp2, nI N2, nI G2, ro3, fp3, pa3, mat3, mo3, out3, ld2, ck2, cc2, ce2, cm2)) : wp_x_row a1 v places round thr sl_ xl rows rr ro fp pa keys counts errors lim used sk sw sc mat out pc S L V mo kc dc fc (fun r w => wp_d_row a1 v d_p d_r d_t d_sl d_m d_f kd dd D Ld lv hv tc dp d_rows inr ro2 fp2 pa2 mat2 mo2 out2 ld ck cc ce dsc dk dw cm (fun r2 w2 => r = r2 ∧ Q w w2)) := by
  obtain ⟨rfl, rfl⟩ := hP
  obtain ⟨rfl, rfl, hR1, hR2⟩ := hR
  obtain ⟨rfl, rfl, hT1, hT2⟩ := hT
  subst hSl
  obtain ⟨rfl, rfl⟩ := hM
  obtain ⟨rfl, rfl⟩ := hN
  obtain ⟨rfl, rfl, hG1, hG2⟩ := hG
  obtain ⟨rfl, rfl⟩ := hF
  subst hU
  obtain ⟨rfl, rfl, rfl, rfl⟩ := hE
  obtain ⟨rfl, rfl, C, hC, rfl, rfl, hs⟩ := rs
  have rsn : ∀ (a : Int32) (b : Int64), smR sk sw (nI C) a b (nI C) dk dw a b := fun a b => ⟨rfl, rfl, C, hC, rfl, rfl, hs⟩
  have hno := hQ xl ld N G U ro fp pa mo mat out keys counts errors pc S L V D Ld lv hv tc dp ck cc ce cm rl hG1 hG2 rc (rsn mat out) rk rv
  have hF6 := rk.1
  have hP2 := rk.2.1
  have hP8 := rk.2.2.1
  have hN450 := rk.2.2.2.1
  rcases key32 a1 with ⟨K, hK, rfl⟩ | hn
  · refine sp_isKey_Y hK ⟨fun _ => ?_, fun z => absurd z (by decide)⟩
    by_cases hw : (-1000 : Int32) ≤ v ∧ v ≤ 1000
    · refine sp_isW_Y hw.1 hw.2 ⟨fun _ => pk_lt N 450 (fun c => ?_) (fun c => ?_), fun z => absurd z (by decide)⟩
      · obtain ⟨q, q1, qP, qPP, b3, b4⟩ := ks_q rk hK
        have kR := rk.2.2.2.2.2 K hK
        obtain ⟨r, hr, er⟩ := ush_ex (nI N * (-1640531535))
        refine sp_ks_partCount hK ?_
        rw [b3]
        unfold wp_x_partOfRow
        rw [er]
        refine sp_x_rem (by omega) q1 (by omega) ?_
        obtain ⟨I, eI⟩ : ∃ I, I = r % q := ⟨_, rfl⟩
        have hIq : I < q := by rw [eI]; exact Nat.mod_lt _ (by omega)
        rw [← eI]
        have hpl : plc P K I < P := Nat.mod_lt _ (by omega)
        refine sp_x_placeOf hP2 hP8 hK (by omega) ?_
        refine sp_ks_take hK (by omega) hF6 (fun S2 g1 => sp_sm_meet hC ⟨pk_in (plc P K I) 8 (by omega), ?_⟩)
        rw [ncl (plc P K I), sM_congr C (fun i hi => ⟨(hs i hi).1, (hs i hi).2.1⟩)]
        intro x11 e11
        refine ⟨pk_in (plc P K I) 8 (by omega), fun x12 e12 x13 e13 => ?_⟩
        rw [nI_1] at e12 e13
        subst e11
        subst e12
        subst e13
        have hfall : (∃ f, f < F ∧ kc f = 7) → q = 1 := by
          rintro ⟨f, hf, e7⟩
          obtain ⟨q0, c1, c2, c3, c4, c5⟩ := kR
          have : q0 = q := (nI_eq (by omega) (by omega)).mp (c3.symm.trans b3)
          subst this
          rcases c5.1 with z | z
          · exact z
          · have := z f hf
            rw [e7] at this
            rcases this with y | y | y | y | y | y <;> exact absurd y (by decide)
        have hI0 : (∃ f, f < F ∧ kc f = 7) → I = 0 := fun z => by
          have := hfall z
          omega
        have h7 : (∃ f, f < F ∧ kc f = 7) → ((if hv (dl K I) = 0 then (0 : Int32) else if lv (dl K I) ≤ v then 0 else 1) = 0 ↔ V K ≤ v.toInt64) := fun z => by
          have e0 := hI0 z
          subst e0
          rw [(rv.2 z K hK).1]
          by_cases d : hv (dl K 0) = 0
          · rw [if_pos d, if_pos d]
            exact ⟨fun _ => Int64.le_of_lt (ltNO.mpr (by have := v64 hw.1 hw.2; omega)), fun _ => rfl⟩
          · rw [if_neg d, if_neg d]
            have hle : (lv (dl K 0)).toInt64 ≤ v.toInt64 ↔ lv (dl K 0) ≤ v := by
              rw [Int64.le_iff_toInt_le, Int32.toInt_toInt64, Int32.toInt_toInt64, Int32.le_iff_toInt_le]
            rw [hle]
            by_cases d2 : lv (dl K 0) ≤ v
            · rw [if_pos d2]; exact ⟨fun _ => d2, fun _ => rfl⟩
            · rw [if_neg d2]; exact ⟨fun z => absurd z (by decide), fun z => absurd z d2⟩
        have rk2 := ks_took rk (fun f hf => (rf.2 f hf).2.2) c hK b3 qPP hIq hw.1 hw.2 h7 g1 (dR_at (kd := kd) (v := v) (fl := if hv (dl K I) = 0 then (0 : Int32) else if lv (dl K I) ≤ v then 0 else 1) (I := I) (D := D) hK F hF6)
        have rv2 := vR_took (v := v) rv hK hI0
        have rl2 : ldR (upd xl (plc P K I) (xl (plc P K I) + 1)) (upd ld (plc P K I) (ld (plc P K I) + 1)) := fun i hi => by
          by_cases d : i = plc P K I
          · subst d
            rw [pk_us, pk_us, rl _ hi]
          · rw [pk_un d, pk_un d]
            exact rl i hi
        refine cn_take hK (by omega) rc (fun keys2 counts2 errors2 u2 ck2 cc2 ce2 rc2 hm => ?_)
        refine pk_lt (G + 1) Rd (fun c2 => ?_) (fun c2 => ?_)
        · refine sp_d_row (C := C) hK hF6 hP2 hP8 (by omega) hC c hw.1 hw.2 b4 q1 qPP hr er eI (hm _ (fun x19 e19 => ?_))
          rw [nI_1] at e19
          subst e19
          refine ⟨fun _ => ⟨rfl, ?_⟩, fun z => absurd ((nI_eq (by omega) (by omega)).mp z) (by omega)⟩
          exact hQ _ _ (N + 1) (G + 1) u2 ro fp pa mo _ _ keys2 counts2 errors2 pc S2 _ _ _ _ _ _ _ _ _ _ _ cm rl2 c2 (by omega) rc2 (rsn _ _) rk2 rv2
        · refine end_round (m := M) (cm := cm) (hv := upd hv (dl K I) 1) rk2 rf rc2 hT1 (by omega) (by omega) (fun fl2 pa2 pc2 S3 L3 mo3 hmod => ?_)
          refine sp_d_row (C := C) hK hF6 hP2 hP8 (by omega) hC c hw.1 hw.2 b4 q1 qPP hr er eI (hm _ (fun x19 e19 => ?_))
          rw [nI_1] at e19
          subst e19
          refine ⟨fun z => absurd (by rw [show G + 1 = Rd by omega]) z, fun _ => hmod _ (fun D3 Ld3 hv3 tc3 dp3 ck3 cc3 ce3 cm3 rk3 hh hck => ⟨rfl, ?_⟩)⟩
          exact hQ _ _ (N + 1) 0 0 (ro + 1) fl2 pa2 mo3 _ _ keys2 counts2 errors2 pc2 S3 L3 _ D3 Ld3 _ hv3 tc3 dp3 ck3 cc3 ce3 cm3 rl2 (by omega) (by omega) (cnR_0 rc2.1 rc2.2.1 hck) (rsn _ _) rk3 (vR_hv rv2 hh)
      · have e450 : N = 450 := by omega
        subst e450
        exact sp_noKey_Y hK ⟨fun _ => sp_in_Y (a := -1000) (b := 1000) hw.1 hw.2 ⟨fun _ => ⟨fun z => absurd rfl z, fun _ => ⟨rfl, hno⟩⟩, fun z => absurd z (by decide)⟩ (by decide) (by decide), fun z => absurd rfl z⟩
    · refine sp_isW_N hw ⟨fun z => absurd rfl z, fun _ => ?_⟩
      exact sp_noKey_Y hK ⟨fun _ => sp_in_N (a := -1000) (b := 1000) hw ⟨fun z => absurd rfl z, fun _ => ⟨rfl, hno⟩⟩ (by decide) (by decide), fun z => absurd rfl z⟩
  · refine sp_isKey_N hn ⟨fun z => absurd rfl z, fun _ => ?_⟩
    exact sp_noKey_N hn ⟨fun z => absurd z (by decide), fun _ => ⟨rfl, hno⟩⟩
theorem ob_row : Ob_row Rab := by
  intro t a1 a2 xs ds ms ht hR
  have hR0 := ob_step _ _ _ _ hR
  obtain ⟨P, Rd, T, M, F, N, G, U, J, hP, hR, hT, hSl, hM, hJ, hN, hG, hF, hU, hE, rl, rc, rs, rt, rg, rk, rf, rv, rm⟩ := hR
  exact op_row hP hR hT hSl hM hN hG hF hU hE rl rc rs rk rf rv (fun xl2 ld2 N2 G2 U2 ro3 fp3 pa3 mo3 mat3 out3 keys2 counts2 errors2 pc2 S2 L2 V2 D2 Ld2 lv2 hv2 tc2 dp2 ck2 cc2 ce2 cm2 rl2 g1 g2 rc2 rs2 rk2 rv2 => Rab_mk hP hR hT hSl hM hJ ⟨rfl, rfl⟩ ⟨rfl, rfl, g1, g2⟩ hF rfl ⟨rfl, rfl, rfl, rfl⟩ rl2 rc2 rs2 rt (lgR_step rg) rk2 rf rv2 rm)
