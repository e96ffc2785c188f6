theorem sp_ks_emptyPart {K I F : Nat} (hK : K < 100) (hI : I < 8) (hF : F ≤ 6) {S : Nat → Int64} {L kinds : Nat → Int32} {post : (Nat → Int64) × (Nat → Int32) → Prop} (h : ∀ (S2 : Nat → Int64) (L2 : Nat → Int32), (∀ k i f, k < 100 → i < 8 → f < 6 → S2 (cs k i f) = if k = K ∧ i = I ∧ f < F then eV (kinds f) else S (cs k i f)) → (∀ k i, k < 100 → i < 8 → L2 (sl k i) = if k = K ∧ i = I then -1 else L (sl k i)) → post (S2, L2)) : wp_ks_emptyPart (nI K) (nI I) S L kinds (nI F) post := by
  unfold wp_ks_emptyPart
  refine hk_upE (fun j v => v.1 = nI j ∧ ∀ k i f, k < 100 → i < 8 → f < 6 → v.2 (cs k i f) = if k = K ∧ i = I ∧ f < j then eV (kinds f) else S (cs k i f)) F 0 _ (Nat.zero_le _) ⟨rfl, fun k i f _ _ _ => by rw [if_neg (by omega)]⟩ ?_ ?_
  · intro j s Kk hj hs hk
    obtain ⟨v, S1⟩ := s
    obtain ⟨e, h2⟩ := hs
    have e : v = nI j := e
    subst e
    have h2 : ∀ k i f, k < 100 → i < 8 → f < 6 → S1 (cs k i f) = if k = K ∧ i = I ∧ f < j then eV (kinds f) else S (cs k i f) := h2
    unfold wb_ks_emptyPart_2
    refine pk_le F j (fun hh => absurd hh (by omega)) (fun _ => ?_)
    unfold wp_ks_cell
    dsimp only
    rw [cs_nI]
    refine sp_fo_emptyState (by omega) ⟨pk_in (cs K I j) 4800 (cs_lt hK hI (by omega)), fun x6 e6 => hk _ ⟨by rw [e6]; exact nI_1 j, fun k i f hk hi hf => ?_⟩⟩
    have hc := cs_lt hK hI (show j < 6 by omega)
    show vp_updL S1 _ _ (cs k i f) = _
    rw [pk_cl (cs K I j), updL_at, if_iff (cs_eq hi hf hI (by omega)), h2 k i f hk hi hf]
    by_cases c : k = K ∧ i = I ∧ f = j
    · rw [if_pos c, if_pos (by omega), c.2.2]
    · rw [if_neg c]; exact if_iff (by omega)
  · intro s Kk hs
    obtain ⟨v, S1⟩ := s
    obtain ⟨e, h2⟩ := hs
    have e : v = nI F := e
    subst e
    have hc := sl_lt hK hI
    unfold wb_ks_emptyPart_2
    refine pk_le F F (fun _ => ?_) (fun hh => absurd hh (by omega))
    unfold wp_ks_slot
    dsimp only
    rw [sl_nI]
    refine ⟨pk_in (sl K I) 800 hc, h _ _ h2 (fun k i hk hi => ?_)⟩
    rw [pk_cl (sl K I), upd_at, if_iff (sl_eq hi hI)]
