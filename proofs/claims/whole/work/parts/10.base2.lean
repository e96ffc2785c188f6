/-! calls over a segment of the world, and over the whole world -/
theorem hk_Dmap {A : Nat → Prop} {w w2 : va_W} (h : w2.map Prod.fst = w.map Prod.fst) (hD : va_D A w) : va_D A w2 := by
  have key : ∀ (i : Nat) (x : Nat × va_E), w2[i]? = some x → ∃ q, w[i]? = some q ∧ q.1 = x.1 := by
    intro i x hx
    have e : (w2.map Prod.fst)[i]? = (w.map Prod.fst)[i]? := by rw [h]
    rw [List.getElem?_map, List.getElem?_map, hx] at e
    cases hq : w[i]? with
    | none => rw [hq] at e; cases e
    | some q => rw [hq] at e; exact ⟨q, rfl, (Option.some.inj e).symm⟩
  refine ⟨fun i j x y hx hy hxy => ?_, fun k q hq => ?_⟩
  · obtain ⟨a, h1, h2⟩ := key i x hx
    obtain ⟨b, h3, h4⟩ := key j y hy
    exact hD.1 i j a b h1 h3 (h2.trans (hxy.trans h4.symm))
  · obtain ⟨a, h1, h2⟩ := key k q hq
    rw [← h2]
    exact hD.2 k a h1
theorem hk_Pl {D : va_G} {cl : List vw_C} {a b : va_W} {H : Heap} (h : va_P D cl (a ++ b) H) : va_P D cl a H := fun k q hk => h k q (by rw [List.getElem?_append_left (List.getElem?_eq_some_iff.mp hk).1]; exact hk)
theorem hk_Pr {D : va_G} {cl : List vw_C} {a b : va_W} {H : Heap} (h : va_P D cl (a ++ b) H) : va_P D cl b H := fun k q hk => h (a.length + k) q (by rw [List.getElem?_append_right (Nat.le_add_right _ _), Nat.add_sub_cancel_left]; exact hk)
theorem hk_Dl {A : Nat → Prop} {a b : va_W} (h : va_D A (a ++ b)) : va_D A a := ⟨fun i j x y hx hy hxy => h.1 i j x y (by rw [List.getElem?_append_left (List.getElem?_eq_some_iff.mp hx).1]; exact hx) (by rw [List.getElem?_append_left (List.getElem?_eq_some_iff.mp hy).1]; exact hy) hxy, fun k q hk => h.2 k q (by rw [List.getElem?_append_left (List.getElem?_eq_some_iff.mp hk).1]; exact hk)⟩
theorem hk_Dr {A : Nat → Prop} {a b : va_W} (h : va_D A (a ++ b)) : va_D A b := by
  have e : ∀ (k : Nat) (q : Nat × va_E), b[k]? = some q → (a ++ b)[a.length + k]? = some q := fun k q hk => by rw [List.getElem?_append_right (Nat.le_add_right _ _), Nat.add_sub_cancel_left]; exact hk
  refine ⟨fun i j x y hx hy hxy => ?_, fun k q hk => h.2 _ q (e k q hk)⟩
  have := h.1 _ _ x y (e i x hx) (e j y hy) hxy
  omega
theorem hk_apart {A : Nat → Prop} {a b : va_W} (h : va_D A (a ++ b)) {i j : Nat} {x y : Nat × va_E} (hx : a[i]? = some x) (hy : b[j]? = some y) : x.1 ≠ y.1 := by
  intro e
  have hl := (List.getElem?_eq_some_iff.mp hx).1
  have := h.1 i (a.length + j) x y (by rw [List.getElem?_append_left hl]; exact hx) (by rw [List.getElem?_append_right (Nat.le_add_right _ _), Nat.add_sub_cancel_left]; exact hy) e
  omega
theorem hk_seg {A : Nat → Prop} {D : va_G} {cl : List vw_C} (L M R : va_W) {w1 : va_W} {H H1 : Heap} (hP : va_P D cl (L ++ (M ++ R)) H) (hD : va_D A (L ++ (M ++ R))) (ha : w1.map Prod.fst = M.map Prod.fst) (hk : ∀ q : Nat, q < H.size → ¬ va_A M H.size q → H1[q]? = H[q]?) (hP1 : va_P D cl w1 H1) : va_P D cl (L ++ (w1 ++ R)) H1 ∧ va_D A (L ++ (w1 ++ R)) := by
  refine ⟨va_P.app (fun k q hq => ?_) (va_P.app hP1 (fun k q hq => ?_)), hk_Dmap (by simp [ha]) hD⟩
  · have hp := hk_Pl hP k q hq
    refine hp.kept (hk q.1 hp.lt (fun hh => ?_))
    rcases hh with ⟨k2, e, hh⟩ | hh
    · exact hk_apart (y := (q.1, e)) hD hq (by rw [List.getElem?_append_left (List.getElem?_eq_some_iff.mp hh).1]; exact hh) rfl
    · have := hp.lt; omega
  · have hp := hk_Pr (hk_Pr hP) k q hq
    refine hp.kept (hk q.1 hp.lt (fun hh => ?_))
    rcases hh with ⟨k2, e, hh⟩ | hh
    · exact hk_apart (x := (q.1, e)) (hk_Dr hD) hh hq rfl
    · have := hp.lt; omega
theorem hk_freeS {A : Nat → Prop} {M : va_W} {H0 H : Heap} {locs : List Loc} (hD : va_D A M) (hS : va_S A H0 H locs) (hA : ∀ q, H0.size ≤ q → A q) : ∀ q, va_A M H.size q → A q := by
  intro q h
  rcases h with ⟨k, e, h⟩ | h
  · exact hD.2 k (q, e) h
  · exact hA q (Nat.le_trans hS.1 h)
section HKS
variable {p : Program} {l : Launch} {e : Env} {R : Room} {s : State} {m : MethodId} {args : Array Value} {below : List Frame} {meth : Method} {c : Code} {H H0 : Heap} {locs : List Loc} {cells slots : Nat} {Q : State → Prop}
variable {pc mc ms : Nat} {ls : Array Slot} {rest st0 : List Value} {a : Array Value} {A : Nat → Prop} {D : va_G} {S : Type} {w1 : S → va_W}
theorem hk_si (L M N : va_W) {post : Int32 → S → Prop} (hr : va_Run p l e R s m args below meth c H locs cells slots mc ms (F0 m pc ls st0) rest (va_Qi post (hk_B D (va_A M H.size) w1) (va_A M H.size) a) (va_A M H.size)) (hP : va_P D vwCl (L ++ (M ++ N)) H) (hD : va_D A (L ++ (M ++ N))) (hS : va_S A H0 H locs) (hA : ∀ q, H0.size ≤ q → A q) (ha : ∀ u, (w1 u).map Prod.fst = M.map Prod.fst)
    (kk : ∀ (r : Int32) (u : S) (H1 : Heap) (locs1 : List Loc), post r u → va_P D vwCl (L ++ (w1 u ++ N)) H1 → va_D A (L ++ (w1 u ++ N)) → va_S A H0 H1 locs1 → W p l e R s m args below meth c H1 locs1 (cells + mc) (slots + ms) Q (F0 m (pc + 3) ls (.int r :: rest))) : W p l e R s m args below meth c H locs cells slots Q (F0 m pc ls st0) := by
  have hF := hk_freeS (hk_Dl (hk_Dr hD)) hS hA
  refine va_calli hr hS (fun q _ h => hF q h) hF (fun r u t H1 locs1 ht hvm hw hB hz hk hS1 => ?_)
  obtain ⟨hP1, hD1⟩ := hB
  rw [ht] at hP1
  obtain ⟨hP2, hD2⟩ := hk_seg L M N hP hD (ha u) hk hP1
  exact kk r u H1 locs1 hw hP2 hD2 hS1
theorem hk_sl (L M N : va_W) {post : Int64 → S → Prop} (hr : va_Run p l e R s m args below meth c H locs cells slots mc ms (F0 m pc ls st0) rest (va_Ql post (hk_B D (va_A M H.size) w1) (va_A M H.size) a) (va_A M H.size)) (hP : va_P D vwCl (L ++ (M ++ N)) H) (hD : va_D A (L ++ (M ++ N))) (hS : va_S A H0 H locs) (hA : ∀ q, H0.size ≤ q → A q) (ha : ∀ u, (w1 u).map Prod.fst = M.map Prod.fst)
    (kk : ∀ (r : Int64) (u : S) (H1 : Heap) (locs1 : List Loc), post r u → va_P D vwCl (L ++ (w1 u ++ N)) H1 → va_D A (L ++ (w1 u ++ N)) → va_S A H0 H1 locs1 → W p l e R s m args below meth c H1 locs1 (cells + mc) (slots + ms) Q (F0 m (pc + 3) ls (.long r :: rest))) : W p l e R s m args below meth c H locs cells slots Q (F0 m pc ls st0) := by
  have hF := hk_freeS (hk_Dl (hk_Dr hD)) hS hA
  refine va_calll hr hS (fun q _ h => hF q h) hF (fun r u t H1 locs1 ht hvm hw hB hz hk hS1 => ?_)
  obtain ⟨hP1, hD1⟩ := hB
  rw [ht] at hP1
  obtain ⟨hP2, hD2⟩ := hk_seg L M N hP hD (ha u) hk hP1
  exact kk r u H1 locs1 hw hP2 hD2 hS1
theorem hk_sv (L M N : va_W) {post : S → Prop} (hr : va_Run p l e R s m args below meth c H locs cells slots mc ms (F0 m pc ls st0) rest (va_Qv post (hk_B D (va_A M H.size) w1) (va_A M H.size) a) (va_A M H.size)) (hP : va_P D vwCl (L ++ (M ++ N)) H) (hD : va_D A (L ++ (M ++ N))) (hS : va_S A H0 H locs) (hA : ∀ q, H0.size ≤ q → A q) (ha : ∀ u, (w1 u).map Prod.fst = M.map Prod.fst)
    (kk : ∀ (u : S) (H1 : Heap) (locs1 : List Loc), post u → va_P D vwCl (L ++ (w1 u ++ N)) H1 → va_D A (L ++ (w1 u ++ N)) → va_S A H0 H1 locs1 → W p l e R s m args below meth c H1 locs1 (cells + mc) (slots + ms) Q (F0 m (pc + 3) ls rest)) : W p l e R s m args below meth c H locs cells slots Q (F0 m pc ls st0) := by
  have hF := hk_freeS (hk_Dl (hk_Dr hD)) hS hA
  refine va_callv hr hS (fun q _ h => hF q h) hF (fun u t H1 locs1 ht hvm hw hB hz hk hS1 => ?_)
  obtain ⟨hP1, hD1⟩ := hB
  rw [ht] at hP1
  obtain ⟨hP2, hD2⟩ := hk_seg L M N hP hD (ha u) hk hP1
  exact kk u H1 locs1 hw hP2 hD2 hS1
variable {ws : va_W}
theorem hk_wi {post : Int32 → S → Prop} (hr : va_Run p l e R s m args below meth c H locs cells slots mc ms (F0 m pc ls st0) rest (va_Qi post (hk_B D (va_A ws H.size) w1) (va_A ws H.size) a) (va_A ws H.size)) (hD : va_D A ws) (hS : va_S A H0 H locs) (hA : ∀ q, H0.size ≤ q → A q)
    (kk : ∀ (r : Int32) (u : S) (H1 : Heap) (locs1 : List Loc), post r u → va_P D vwCl (w1 u) H1 → va_D A (w1 u) → va_S A H0 H1 locs1 → W p l e R s m args below meth c H1 locs1 (cells + mc) (slots + ms) Q (F0 m (pc + 3) ls (.int r :: rest))) : W p l e R s m args below meth c H locs cells slots Q (F0 m pc ls st0) := by
  have hF := hk_freeS hD hS hA
  refine va_calli hr hS (fun q _ h => hF q h) hF (fun r u t H1 locs1 ht hvm hw hB hz hk hS1 => ?_)
  obtain ⟨hP1, hD1⟩ := hB
  rw [ht] at hP1
  exact kk r u H1 locs1 hw hP1 (hD1.weaken (fun k q _ h => hF q.1 h)) hS1
theorem hk_wl {post : Int64 → S → Prop} (hr : va_Run p l e R s m args below meth c H locs cells slots mc ms (F0 m pc ls st0) rest (va_Ql post (hk_B D (va_A ws H.size) w1) (va_A ws H.size) a) (va_A ws H.size)) (hD : va_D A ws) (hS : va_S A H0 H locs) (hA : ∀ q, H0.size ≤ q → A q)
    (kk : ∀ (r : Int64) (u : S) (H1 : Heap) (locs1 : List Loc), post r u → va_P D vwCl (w1 u) H1 → va_D A (w1 u) → va_S A H0 H1 locs1 → W p l e R s m args below meth c H1 locs1 (cells + mc) (slots + ms) Q (F0 m (pc + 3) ls (.long r :: rest))) : W p l e R s m args below meth c H locs cells slots Q (F0 m pc ls st0) := by
  have hF := hk_freeS hD hS hA
  refine va_calll hr hS (fun q _ h => hF q h) hF (fun r u t H1 locs1 ht hvm hw hB hz hk hS1 => ?_)
  obtain ⟨hP1, hD1⟩ := hB
  rw [ht] at hP1
  exact kk r u H1 locs1 hw hP1 (hD1.weaken (fun k q _ h => hF q.1 h)) hS1
theorem hk_wv {post : S → Prop} (hr : va_Run p l e R s m args below meth c H locs cells slots mc ms (F0 m pc ls st0) rest (va_Qv post (hk_B D (va_A ws H.size) w1) (va_A ws H.size) a) (va_A ws H.size)) (hD : va_D A ws) (hS : va_S A H0 H locs) (hA : ∀ q, H0.size ≤ q → A q)
    (kk : ∀ (u : S) (H1 : Heap) (locs1 : List Loc), post u → va_P D vwCl (w1 u) H1 → va_D A (w1 u) → va_S A H0 H1 locs1 → W p l e R s m args below meth c H1 locs1 (cells + mc) (slots + ms) Q (F0 m (pc + 3) ls rest)) : W p l e R s m args below meth c H locs cells slots Q (F0 m pc ls st0) := by
  have hF := hk_freeS hD hS hA
  refine va_callv hr hS (fun q _ h => hF q h) hF (fun u t H1 locs1 ht hvm hw hB hz hk hS1 => ?_)
  obtain ⟨hP1, hD1⟩ := hB
  rw [ht] at hP1
  exact kk u H1 locs1 hw hP1 (hD1.weaken (fun k q _ h => hF q.1 h)) hS1
end HKS
