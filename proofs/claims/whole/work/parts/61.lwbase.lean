theorem hk_PofMem {D : va_G} {cl : List vw_C} {w w2 : va_W} {H : Heap} (h : va_P D cl w H) (hm : ∀ q ∈ w2, q ∈ w) : va_P D cl w2 H := fun k q hk => by
  obtain ⟨i, hi⟩ := List.getElem?_of_mem (hm q (List.mem_of_getElem? hk))
  exact h i q hi
theorem hk_Dnd {A : Nat → Prop} {w : va_W} : va_D A w ↔ (w.map Prod.fst).Nodup ∧ ∀ q ∈ w, A q.1 := by
  constructor
  · intro h
    refine ⟨?_, fun q hq => ?_⟩
    · rw [List.nodup_iff_pairwise_ne, List.pairwise_iff_getElem]
      intro i j hi hj hij e
      simp only [List.length_map] at hi hj
      simp only [List.getElem_map] at e
      have := h.1 i j w[i] w[j] (List.getElem?_eq_getElem hi) (List.getElem?_eq_getElem hj) e
      omega
    · obtain ⟨i, hi⟩ := List.getElem?_of_mem hq
      exact h.2 i q hi
  · intro h
    refine ⟨fun i j x y hx hy hxy => ?_, fun k q hq => h.2 q (List.mem_of_getElem? hq)⟩
    have h1 := h.1
    rw [List.nodup_iff_pairwise_ne, List.pairwise_iff_getElem] at h1
    have hi := (List.getElem?_eq_some_iff.mp hx).1
    have hj := (List.getElem?_eq_some_iff.mp hy).1
    have ei := (List.getElem?_eq_some_iff.mp hx).2
    have ej := (List.getElem?_eq_some_iff.mp hy).2
    rcases Nat.lt_trichotomy i j with hlt | he | hgt
    · have q := h1 i j (by simpa using hi) (by simpa using hj) hlt
      rw [List.getElem_map, List.getElem_map, ei, ej] at q
      exact absurd hxy q
    · exact he
    · have q := h1 j i (by simpa using hj) (by simpa using hi) hgt
      rw [List.getElem_map, List.getElem_map, ei, ej] at q
      exact absurd hxy.symm q
theorem hk_perm {A : Nat → Prop} {D : va_G} {cl : List vw_C} {w w2 : va_W} {H : Heap} (e : w.Perm w2) (hP : va_P D cl w H) (hD : va_D A w) : va_P D cl w2 H ∧ va_D A w2 :=
  ⟨hk_PofMem hP (fun q hq => e.mem_iff.mpr hq), hk_Dnd.mpr ⟨(e.map Prod.fst).nodup_iff.mp (hk_Dnd.mp hD).1, fun q hq => (hk_Dnd.mp hD).2 q (e.mem_iff.mpr hq)⟩⟩
theorem hk_segG {A : Nat → Prop} {D : va_G} {cl : List vw_C} {M N w1 : va_W} {H H1 : Heap} (hP : va_P D cl (M ++ N) H) (hD : va_D A (M ++ N)) (hF : ∀ q, va_A M H.size q → A q) (hk : ∀ q : Nat, q < H.size → ¬ va_A M H.size q → H1[q]? = H[q]?) (hP1 : va_P D cl w1 H1) (hD1 : va_D (va_A M H.size) w1) : va_P D cl (w1 ++ N) H1 ∧ va_D A (w1 ++ N) := by
  have ap : ∀ (k : Nat) (q : Nat × va_E), N[k]? = some q → ¬ va_A M H.size q.1 := by
    intro k q hq hh
    rcases hh with ⟨k2, e, hh⟩ | hh
    · exact hk_apart (x := (q.1, e)) hD hh hq rfl
    · have := (hk_Pr hP k q hq).lt; omega
  refine ⟨va_P.app hP1 (fun k q hq => ?_), va_D.app (hD1.weaken (fun k q _ h => hF q.1 h)) (hk_Dr hD) (fun i j x y hx hy hxy => ?_)⟩
  · have hp := hk_Pr hP k q hq
    exact hp.kept (hk q.1 hp.lt (ap k q hq))
  · exact ap j y hy (by rw [← hxy]; exact hD1.2 i x hx)
theorem wPl_app (cI cJ cZ cM : ClassId) : ∀ (a b : List (AD × MS)), wPl cI cJ cZ cM (a ++ b) = wPl cI cJ cZ cM a ++ wPl cI cJ cZ cM b
  | [], b => rfl
  | q :: r, b => by
    show wMk cI cJ cZ cM q ++ wPl cI cJ cZ cM (r ++ b) = (wMk cI cJ cZ cM q ++ wPl cI cJ cZ cM r) ++ wPl cI cJ cZ cM b
    rw [wPl_app cI cJ cZ cM r b, List.append_assoc]
theorem hk_pmIn {α : Type} (x d a q b : List α) : (x ++ (d ++ (a ++ (q ++ b)))).Perm ([] ++ ((x ++ q) ++ (d ++ (a ++ b)))) := by
  rw [List.nil_append, List.append_assoc]
  refine List.Perm.append_left x ?_
  have h1 : (d ++ (a ++ (q ++ b))).Perm ((d ++ a) ++ (q ++ b)) := by rw [List.append_assoc]
  have h2 : ((d ++ a) ++ (q ++ b)).Perm (q ++ ((d ++ a) ++ b)) := by
    rw [← List.append_assoc, ← List.append_assoc q]
    exact List.Perm.append_right b List.perm_append_comm
  refine (h1.trans h2).trans ?_
  rw [List.append_assoc]
theorem hk_at {α : Type} : ∀ (l : List α) (k : Nat), k < l.length → ∃ (a : List α) (q : α) (b : List α), l = a ++ q :: b ∧ a.length = k
  | [], k, h => by simp at h
  | x :: r, 0, _ => ⟨[], x, r, rfl, rfl⟩
  | x :: r, k + 1, h => by
    obtain ⟨a, q, b, h1, h2⟩ := hk_at r k (by simpa using h)
    exact ⟨x :: a, q, b, by rw [h1]; rfl, by simp [h2]⟩
theorem hk_ix {i k L : Nat} {x c : Int32} (ex : x = nI i) (hc : c = nI k) (h : i + k < L) (hL : L ≤ 3072) : vp_in (x + c) L := by
  rw [ex, hc, nI_add]
  exact vp_in_nI h (by omega)
section HKG
variable {p : Program} {l : Launch} {e : Env} {R : Room} {s : State} {m : MethodId} {args : Array Value} {below : List Frame} {meth : Method} {c : Code} {H H0 : Heap} {locs : List Loc} {cells slots : Nat} {Q : State → Prop}
variable {pc mc ms : Nat} {ls : Array Slot} {rest st0 : List Value} {a : Array Value} {A : Nat → Prop} {D : va_G} {S : Type} {w1 : S → va_W}
theorem hk_gi (M N : va_W) {post : Int32 → S → Prop} (hr : va_Run p l e R s m args below meth c H locs cells slots mc ms (F0 m pc ls st0) rest (va_Qi post (hk_B D (va_A M H.size) w1) (va_A M H.size) a) (va_A M H.size)) (hP : va_P D vwCl (M ++ N) H) (hD : va_D A (M ++ N)) (hS : va_S A H0 H locs) (hA : ∀ q, H0.size ≤ q → A q)
    (kk : ∀ (r : Int32) (u : S) (H1 : Heap) (locs1 : List Loc), post r u → va_P D vwCl (w1 u ++ N) H1 → va_D A (w1 u ++ N) → va_S A H0 H1 locs1 → W p l e R s m args below meth c H1 locs1 (cells + mc) (slots + ms) Q (F0 m (pc + 3) ls (.int r :: rest))) : W p l e R s m args below meth c H locs cells slots Q (F0 m pc ls st0) := by
  have hF := hk_freeS (hk_Dl hD) hS hA
  refine va_calli hr hS (fun q _ h => hF q h) hF (fun r u t H1 locs1 ht hvm hw hB hz hk hS1 => ?_)
  obtain ⟨hP1, hD1⟩ := hB
  rw [ht] at hP1
  obtain ⟨hP2, hD2⟩ := hk_segG hP hD hF hk hP1 hD1
  exact kk r u H1 locs1 hw hP2 hD2 hS1
theorem hk_gv (M N : va_W) {post : S → Prop} (hr : va_Run p l e R s m args below meth c H locs cells slots mc ms (F0 m pc ls st0) rest (va_Qv post (hk_B D (va_A M H.size) w1) (va_A M H.size) a) (va_A M H.size)) (hP : va_P D vwCl (M ++ N) H) (hD : va_D A (M ++ N)) (hS : va_S A H0 H locs) (hA : ∀ q, H0.size ≤ q → A q)
    (kk : ∀ (u : S) (H1 : Heap) (locs1 : List Loc), post u → va_P D vwCl (w1 u ++ N) H1 → va_D A (w1 u ++ N) → va_S A H0 H1 locs1 → W p l e R s m args below meth c H1 locs1 (cells + mc) (slots + ms) Q (F0 m (pc + 3) ls rest)) : W p l e R s m args below meth c H locs cells slots Q (F0 m pc ls st0) := by
  have hF := hk_freeS (hk_Dl hD) hS hA
  refine va_callv hr hS (fun q _ h => hF q h) hF (fun u t H1 locs1 ht hvm hw hB hz hk hS1 => ?_)
  obtain ⟨hP1, hD1⟩ := hB
  rw [ht] at hP1
  obtain ⟨hP2, hD2⟩ := hk_segG hP hD hF hk hP1 hD1
  exact kk u H1 locs1 hw hP2 hD2 hS1
end HKG
theorem hk_mid (cI cJ cZ cM : ClassId) (P1 : List (AD × MS)) (q : AD × MS) (P2 : List (AD × MS)) (x d : va_W) : x ++ (d ++ (wPl cI cJ cZ cM P1 ++ (wMk cI cJ cZ cM q ++ wPl cI cJ cZ cM P2))) = x ++ (d ++ wPl cI cJ cZ cM (P1 ++ q :: P2)) := by
  rw [wPl_app]; rfl
theorem hk_snoc (cI cJ cZ cM : ClassId) (P : List (AD × MS)) (q : AD × MS) (x d : va_W) : x ++ (d ++ wPl cI cJ cZ cM (P ++ [q])) = x ++ (d ++ (wPl cI cJ cZ cM P ++ wMk cI cJ cZ cM q)) := by
  rw [wPl_app]
  show x ++ (d ++ (wPl cI cJ cZ cM P ++ (wMk cI cJ cZ cM q ++ []))) = _
  rw [List.append_nil]
theorem hk_pmGrow {α : Type} (x q d p : List α) : ((x ++ q) ++ (d ++ p)).Perm (x ++ (d ++ (p ++ q))) := by
  rw [List.append_assoc]
  refine List.Perm.append_left x ?_
  rw [← List.append_assoc d]
  exact List.perm_append_comm
theorem hk_lset (P1 : List (AD × MS)) (q q2 : AD × MS) (P2 : List (AD × MS)) {k : Nat} (h : P1.length = k) : (P1 ++ q2 :: P2).map Prod.snd = ((P1 ++ q :: P2).map Prod.snd).set k q2.2 := by
  subst h
  rw [List.map_append, List.map_append, List.set_append_right _ _ (by simp), List.length_map, Nat.sub_self]
  rfl
theorem hk_same (P1 : List (AD × MS)) (q q2 : AD × MS) (P2 : List (AD × MS)) (e : q2.1 = q.1) (j : Nat) : ((P1 ++ q :: P2)[j]?).map (fun z => z.1.1) = ((P1 ++ q2 :: P2)[j]?).map (fun z => z.1.1) := by
  rw [← List.getElem?_map, ← List.getElem?_map, List.map_append, List.map_append]
  show (List.map (fun z : AD × MS => z.1.1) P1 ++ q.1.1 :: _)[j]? = (List.map (fun z : AD × MS => z.1.1) P1 ++ q2.1.1 :: _)[j]?
  rw [e]
theorem hk_mks {marks : Nat → Option Nat} {PL : List (AD × MS)} {q : AD × MS} {k : Nat} (hm : ∀ k, k < 4 → marks k = (PL[k]?).map (fun q => q.1.1)) (hk : k = PL.length) (j : Nat) (hj : j < 4) : (if j = k then some q.1.1 else marks j) = ((PL ++ [q])[j]?).map (fun q => q.1.1) := by
  by_cases c : j = k
  · rw [if_pos c, c, hk, List.getElem?_append_right (Nat.le_refl _), Nat.sub_self]; rfl
  · rw [if_neg c, hm j hj]
    rcases Nat.lt_or_ge j PL.length with h | h
    · rw [List.getElem?_append_left h]
    · rw [List.getElem?_eq_none h, List.getElem?_eq_none (by rw [List.length_append]; show PL.length + 1 ≤ j; omega)]
/-! THE CLAIM OUT OF ONE WALK OF THE LAW'S BODY. Your part is whole_start (and what it stands on); all else here is the same for every law, but numbers. -/
abbrev R_law : String := RL
def lw_P (b : Addr) (xs : List Int32) (args : Array Value) (s : State) : Prop := args = #[.ref b] ∧ s.IntsAt b xs ∧ xs.length ≤ 3072 ∧ (Jvm.Cond.and given_1 narrow_1).before args s = true
def lw_Q (_ : Array Value) (s : State) (o : Outcome) (t : State) : Prop := o = .returned (some (.int 1)) ∧ Framed s o t [] 600000 7302250
def lw_Z (below : List Frame) (a : Array Value) (s : State) : State → Prop := fun t => ∃ o, t.status = .running ∧ Ended t below o ∧ lw_Q a s o t
/-- the law's own end, with 1 on the stack, nothing written that was there before, its room as the claim has it -/
theorem lw_ret {p : Program} {l : Launch} {e : Env} {s : State} {m : MethodId} {below : List Frame} {meth : Method} {c : Code} {b : Nat} (hx : p.tables.exec = Jvm.exec) (hb : c.code = code) (hr : meth.sig.returnType = ret) (hlocks : meth.locks = false) {pc : Nat} {H : Heap} {ls : Array Slot} (hdg : decode code pc = .ok (.ireturn, 1)) : W p l e room_1 s m #[Value.ref b] below meth c H [] 600000 7302250 (lw_Z below #[Value.ref b] s) (F0 m pc ls [.int 1]) := by
  intro T hT X
  obtain ⟨fs, hret, hrun, hended, hW, hframe⟩ := X.leave (v := some (.int 1)) (hlocks := hlocks) (fun h => by rw [hr] at h; cases h)
  have hmeth' : T.vm.method? m = some meth := X.method'
  refine ⟨T.setFrames fs, ?_, .returned (some (.int 1)), hrun, hended, rfl, ⟨_, rfl⟩, hW, hframe⟩
  jvm_step X.here [X.here.top, hx, hb, hdg, hmeth', hr, ret, narrow_b1]
  (try refine ⟨rfl, ?_⟩); (try refine ⟨rfl, ?_⟩)
  first | (intro acts; rw [hret _ acts rfl rfl rfl]) | rw [hret _ _ rfl rfl rfl]
  exact Steps.refl _
/-- what holds at the law's entry: the machine, the code, the tables' words (any of lw_tbl by 'hts w (by decide +kernel)'), the script of L ints xs at the cell b, what the Statement gives of the start (any of its parts by flat_of_before) -/
def lw_At (p : Program) (s : State) (m : MethodId) (meth : Method) (c : Code) (b L : Nat) (xs : Nat → Int32) : Prop :=
  p.tables.exec = Jvm.exec ∧ c.code = code ∧ meth.sig.returnType = ret ∧ c.maxLocals = 4 ∧ s.vm.findClass R_law = some m.cls ∧ (∀ w ∈ lw_tbl, w.before #[Value.ref b] s = true) ∧ va_X b L xs s s.heap ∧ b < s.heap.size ∧ meth.locks = false ∧ (Jvm.Cond.and given_1 narrow_1).before #[Value.ref b] s = true
def lwC (p : Program) (s : State) (m : MethodId) (meth : Method) (c : Code) (b L : Nat) (sc : Nat → Int32) (D : va_G) (cI cJ cZ cM : ClassId) : Prop :=
  p.tables.exec = Jvm.exec ∧ c.code = code ∧ meth.sig.returnType = ret ∧ c.maxLocals = 4 ∧ s.vm.findClass RL = some m.cls ∧ (∀ w ∈ hk_all, w.before #[Value.ref b] s = true) ∧ va_K D vwCl (hk_ty cI cJ cZ cM) s ∧ hk_N s ∧ va_X b L sc s s.heap ∧ b < s.heap.size ∧ meth.locks = false
def lwI (s : State) (D : va_G) (cI cJ cZ cM : ClassId) (h_x : Nat) (a_x : Nat → Nat) (h_cn : Nat) (a_cn : Nat → Nat) (h_sm : Nat) (a_sm : Nat → Nat) (h_ti : Nat) (a_ti : Nat → Nat) (h_lg : Nat) (a_lg : Nat → Nat) (h_ks : Nat) (a_ks : Nat → Nat) (h_fo : Nat) (a_fo : Nat → Nat) (h_d : Nat) (a_d : Nat → Nat) (R : Nat → XS → DS → List MS → Prop) (t : Nat) (marks : Nat → Option Nat) (xs : XS) (ds : DS) (PL : List (AD × MS)) (cells slots : Nat) (H : Heap) (locs : List Loc) : Prop :=
  R t xs ds (PL.map Prod.snd) ∧ (∀ k, k < 4 → marks k = (PL[k]?).map (fun q => q.1.1)) ∧ cells + 10 * (4 - PL.length) ≤ 1000 ∧ slots + 1015 * (4 - PL.length) ≤ 100000 ∧ va_P D vwCl (wXs cI cJ cZ cM h_x a_x h_cn a_cn h_sm a_sm h_ti a_ti h_lg a_lg h_ks a_ks h_fo a_fo marks xs ++ (wDs cI cJ cZ cM h_d a_d ds ++ wPl cI cJ cZ cM PL)) H ∧ va_D (fun q : Nat => s.heap.size ≤ q) (wXs cI cJ cZ cM h_x a_x h_cn a_cn h_sm a_sm h_ti a_ti h_lg a_lg h_ks a_ks h_fo a_fo marks xs ++ (wDs cI cJ cZ cM h_d a_d ds ++ wPl cI cJ cZ cM PL)) ∧ va_S (fun q : Nat => s.heap.size ≤ q) s.heap H locs
