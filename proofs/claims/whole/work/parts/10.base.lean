/-! base: ONE list of words for all methods; nest words; worlds at calls -/
def hk_all : List Cond := lw_tbl.filter goodWord
theorem hk_in {w : Cond} (i : Nat) (h : lw_tbl[i]? = some w) (g : goodWord w = true) : w ∈ hk_all := List.mem_filter.mpr ⟨List.mem_of_getElem? h, g⟩
theorem hk_gw {w : Cond} (h : w ∈ hk_all) : goodWord w = true := (List.mem_filter.mp h).2
abbrev hk_ws (y : MethodName) (b : ByteArray) (n : Nat) (r : Option FieldType) : List Cond := Cond.code y b n r :: hk_all
theorem hk_goodIn {c1 : Cond} (h : c1 ∈ hk_all) : GoodIn hk_all (c1 :: hk_all) := by
  intro w hw
  rcases List.mem_cons.mp hw with rfl | hw
  · exact ⟨h, good_of_word (hk_gw h)⟩
  · exact ⟨hw, good_of_word (hk_gw hw)⟩
def hk_isNest : Cond → Bool
  | .fieldLinkNest _ _ _ _ _ _ => true
  | .methodLinkNest _ _ _ _ => true
  | _ => false
def hk_nest : List Cond := lw_tbl.filter hk_isNest
theorem hk_nin {w : Cond} (i : Nat) (h : lw_tbl[i]? = some w) (g : hk_isNest w = true) : w ∈ hk_nest := List.mem_filter.mpr ⟨List.mem_of_getElem? h, g⟩
/-- the nest words, and that arrays of marks can be -/
def hk_N (U : State) : Prop := (∀ w ∈ hk_nest, va_Nw w U) ∧ va_AO RX4 U
theorem hk_N.warm {s U : State} (hW : s.WarmedH U.vm) (h : hk_N s) : hk_N U := by
  refine ⟨fun w hw => ?_, h.2.moved hW.alike⟩
  have hz := h.1 w hw
  have hb := (List.mem_filter.mp hw).2
  cases w <;> first | (simp [hk_isNest] at hb; done) | exact va_Nw.warmF hW hz | exact va_Nw.warmM hW hz
theorem hk_N.same {u U : State} (hvm : u.vm = U.vm) (h : hk_N u) : hk_N U := by
  refine ⟨fun w hw => ?_, h.2.moved (by rw [hvm]; exact Vm.Alike.refl _)⟩
  have hz := h.1 w hw
  have hb := (List.mem_filter.mp hw).2
  cases w <;> first | (simp [hk_isNest] at hb; done) | exact va_Nw.same rfl hvm hz
abbrev hk_rm (f n : Nat) : Room := { frames := f, cells := 0, slots := 0, locals := n }
abbrev hk_rc (f n mc ms : Nat) : Room := { frames := f, cells := mc, slots := ms, locals := n }
abbrev hk_ty (cI cJ cZ cM : ClassId) : List (ClassId × FieldType) := [(cI, .int), (cJ, .long), (cZ, .boolean), (cM, .object RX4)]
def hk_PR (D : va_G) (ty : List (ClassId × FieldType)) (ws : va_W) (U : State) : Prop := va_P D vwCl ws U.heap ∧ va_K D vwCl ty U ∧ hk_N U
def hk_PM (D : va_G) (ty : List (ClassId × FieldType)) (sz : Nat) (ws : va_W) (U : State) : Prop := U.heap.size = sz ∧ va_P D vwCl ws U.heap ∧ va_K D vwCl ty U ∧ va_D (fun _ => True) ws ∧ hk_N U
def hk_B (D : va_G) (A : Nat → Prop) {S : Type} (w1 : S → va_W) (u : S) (t : State) : Prop := va_P D vwCl (w1 u) t.heap ∧ va_D A (w1 u)
theorem hk_blR {D : va_G} {ty : List (ClassId × FieldType)} {ws : va_W} {av : List Value} : FrameBlind (va_Pc av (hk_PR D ty ws)) := by
  intro a U g mk q
  obtain ⟨q0, qP, qK, qN⟩ := q
  exact ⟨q0, qP, va_K.moved (u := U) (U := U.calling g mk a) (Vm.Alike.refl U.vm) qK, hk_N.same (u := U) (U := U.calling g mk a) rfl qN⟩
theorem hk_blM {D : va_G} {ty : List (ClassId × FieldType)} {sz : Nat} {ws : va_W} {av : List Value} : FrameBlind (va_Pc av (hk_PM D ty sz ws)) := by
  intro a U g mk q
  obtain ⟨q0, q1, qP, qK, qD, qN⟩ := q
  exact ⟨q0, q1, qP, va_K.moved (u := U) (U := U.calling g mk a) (Vm.Alike.refl U.vm) qK, qD, hk_N.same (u := U) (U := U.calling g mk a) rfl qN⟩
theorem hk_atR {D : va_G} {ty : List (ClassId × FieldType)} {ws : va_W} {s : State} {H : Heap} (hP : va_P D vwCl ws H) (hK : va_K D vwCl ty s) (hN : hk_N s) : ∀ U : State, U.heap = H → s.WarmedH U.vm → hk_PR D ty ws U := fun U hU hW => ⟨by rw [hU]; exact hP, va_K.moved hW.alike hK, hN.warm hW⟩
theorem hk_atM {D : va_G} {ty : List (ClassId × FieldType)} {ws : va_W} {s : State} {H : Heap} {A : Nat → Prop} (hP : va_P D vwCl ws H) (hK : va_K D vwCl ty s) (hD : va_D A ws) (hN : hk_N s) : ∀ U : State, U.heap = H → s.WarmedH U.vm → hk_PM D ty H.size ws U := fun U hU hW => ⟨by rw [hU], by rw [hU]; exact hP, va_K.moved hW.alike hK, hD.weaken (fun _ _ _ _ => trivial), hN.warm hW⟩
def hk_MV (y : MethodName) (b : ByteArray) (n : Nat) (r : Option FieldType) (np : Nat) : Prop := Cond.code y b n r ∈ hk_all ∧ Cond.instanceMethod y ∈ hk_all ∧ Cond.selects y.cls y y ∈ hk_all ∧ Cond.initialized y.cls ∈ hk_all ∧ (y.cls ≠ "java/lang/invoke/MethodHandle" ∧ y.cls ≠ "java/lang/invoke/VarHandle" ∧ (parseMethodDescriptor y.desc).map (fun d => d.parameters.length) = some np)
def hk_MS (y : MethodName) (b : ByteArray) (n : Nat) (r : Option FieldType) (np : Nat) : Prop := Cond.code y b n r ∈ hk_all ∧ Cond.static y ∈ hk_all ∧ Cond.initialized y.cls ∈ hk_all ∧ (y.cls ≠ "java/lang/invoke/MethodHandle" ∧ y.cls ≠ "java/lang/invoke/VarHandle" ∧ (parseMethodDescriptor y.desc).map (fun d => d.parameters.length) = some np)
def hk_MI (y : MethodName) (b : ByteArray) (n : Nat) (np : Nat) : Prop := Cond.code y b n none ∈ hk_all ∧ Cond.instanceMethod y ∈ hk_all ∧ Cond.initialized y.cls ∈ hk_all ∧ y.name = "<init>" ∧ (y.cls ≠ "java/lang/invoke/MethodHandle" ∧ y.cls ≠ "java/lang/invoke/VarHandle" ∧ (parseMethodDescriptor y.desc).map (fun d => d.parameters.length) = some np)
def hk_fit (R rm : Room) (maxL mc ms : Nat) : Prop := rm.cells = mc ∧ rm.slots = ms ∧ rm.frames + 1 ≤ R.frames ∧ 8 + (maxL + 11) + rm.locals ≤ R.locals
section HKR
variable {p : Program} {l : Launch} {e : Env} {R : Room} {s : State} {m : MethodId} {args : Array Value} {below : List Frame} {meth : Method} {c : Code} {H : Heap} {locs : List Loc} {cells slots : Nat} {Q : State → Prop}
variable {y : MethodName} {bytes cc : ByteArray} {maxL nL mc ms n index pc : Nat} {ret : Option FieldType} {rm : Room} {Qc : Array Value → State → Outcome → State → Prop} {free : Addr → Prop} {own host : String} {b : Addr} {As rest st0 : List Value} {ls : Array Slot} {PB : State → Prop}
theorem hk_runV (S : CallFix p m c cc nL s args hk_all own) (mv : hk_MV y bytes maxL ret n) (hM : Met l y (hk_ws y bytes maxL ret) rm (va_Pc (.ref b :: As) PB) Qc mc ms free) (hlk : Cond.methodLink own index y ∈ hk_all) (hbl : FrameBlind (va_Pc (.ref b :: As) PB)) (hpb : ∀ U : State, U.heap = H → s.WarmedH U.vm → PB U) (hrv : ∃ cellB : Cell, H[b]? = some cellB ∧ cellB.vm.isStatics = false ∧ s.vm.findClass y.cls = some cellB.cls) (hrm : hk_fit R rm maxL mc ms) (hn : As.length = n) (hsz : ls.size = nL) (hst : st0 = As.reverse ++ .ref b :: rest) (hW : (rest.map fun v => v.category).sum ≤ 8) (hdg : decode cc pc = .ok (.invokevirtual index, 3)) (hf : cells + mc ≤ R.cells ∧ slots + ms ≤ R.slots) : va_Run p l e R s m args below meth c H locs cells slots mc ms (F0 m pc ls st0) rest (Qc (Value.ref b :: As).toArray) free := by
  obtain ⟨h1, h2, h3, h4, h5⟩ := mv
  have hts := S.2.2.2.2
  exact va_runV S hM ⟨callB_of n hts (hk_goodIn h1) rfl hrm.1 hrm.2.1 (hts _ h4) (hts _ hlk) h5 hrm.2.2, hts _ h2, hts _ h3⟩ ⟨hbl, hrv, fun U hU hW => ⟨rfl, hpb U hU hW⟩⟩ rfl hn hsz hst (lv_room hW) hdg hf
theorem hk_runVN (S : CallFix p m c cc nL s args hk_all own) (mv : hk_MV y bytes maxL ret n) (hM : Met l y (hk_ws y bytes maxL ret) rm (va_Pc (.ref b :: As) PB) Qc mc ms free) (hlk : va_Nw (.methodLinkNest own index y host) s) (hbl : FrameBlind (va_Pc (.ref b :: As) PB)) (hpb : ∀ U : State, U.heap = H → s.WarmedH U.vm → PB U) (hrv : ∃ cellB : Cell, H[b]? = some cellB ∧ cellB.vm.isStatics = false ∧ s.vm.findClass y.cls = some cellB.cls) (hrm : hk_fit R rm maxL mc ms) (hn : As.length = n) (hsz : ls.size = nL) (hst : st0 = As.reverse ++ .ref b :: rest) (hW : (rest.map fun v => v.category).sum ≤ 8) (hdg : decode cc pc = .ok (.invokevirtual index, 3)) (hf : cells + mc ≤ R.cells ∧ slots + ms ≤ R.slots) : va_Run p l e R s m args below meth c H locs cells slots mc ms (F0 m pc ls st0) rest (Qc (Value.ref b :: As).toArray) free := by
  obtain ⟨h1, h2, h3, h4, h5⟩ := mv
  have hts := S.2.2.2.2
  exact va_runVN S hM ⟨va_cnB n hts (hk_goodIn h1) rfl hrm.1 hrm.2.1 hlk (hts _ h4) h5 hrm.2.2, hts _ h2, hts _ h3⟩ ⟨hbl, hrv, fun U hU hW => ⟨rfl, hpb U hU hW⟩⟩ rfl hn hsz hst (lv_room hW) hdg hf
theorem hk_runS (S : CallFix p m c cc nL s args hk_all own) (mv : hk_MS y bytes maxL ret n) (hM : Met l y (hk_ws y bytes maxL ret) rm (va_Pc As PB) Qc mc ms free) (hlk : Cond.methodLink own index y ∈ hk_all) (hbl : FrameBlind (va_Pc As PB)) (hpb : ∀ U : State, U.heap = H → s.WarmedH U.vm → PB U) (hrm : hk_fit R rm maxL mc ms) (hn : As.length = n) (hsz : ls.size = nL) (hst : st0 = As.reverse ++ rest) (hW : (rest.map fun v => v.category).sum ≤ 8) (hdg : decode cc pc = .ok (.invokestatic index, 3)) (hf : cells + mc ≤ R.cells ∧ slots + ms ≤ R.slots) : va_Run p l e R s m args below meth c H locs cells slots mc ms (F0 m pc ls st0) rest (Qc As.toArray) free := by
  obtain ⟨h1, h2, h4, h5⟩ := mv
  have hts := S.2.2.2.2
  exact va_runS S hM ⟨callB_of n hts (hk_goodIn h1) rfl hrm.1 hrm.2.1 (hts _ h4) (hts _ hlk) h5 hrm.2.2, hts _ h2⟩ ⟨hbl, fun U hU hW => ⟨rfl, hpb U hU hW⟩⟩ rfl hn hsz hst (lv_room hW) hdg hf
theorem hk_runSN (S : CallFix p m c cc nL s args hk_all own) (mv : hk_MS y bytes maxL ret n) (hM : Met l y (hk_ws y bytes maxL ret) rm (va_Pc As PB) Qc mc ms free) (hlk : va_Nw (.methodLinkNest own index y host) s) (hbl : FrameBlind (va_Pc As PB)) (hpb : ∀ U : State, U.heap = H → s.WarmedH U.vm → PB U) (hrm : hk_fit R rm maxL mc ms) (hn : As.length = n) (hsz : ls.size = nL) (hst : st0 = As.reverse ++ rest) (hW : (rest.map fun v => v.category).sum ≤ 8) (hdg : decode cc pc = .ok (.invokestatic index, 3)) (hf : cells + mc ≤ R.cells ∧ slots + ms ≤ R.slots) : va_Run p l e R s m args below meth c H locs cells slots mc ms (F0 m pc ls st0) rest (Qc As.toArray) free := by
  obtain ⟨h1, h2, h4, h5⟩ := mv
  have hts := S.2.2.2.2
  exact va_runSN S hM ⟨va_cnB n hts (hk_goodIn h1) rfl hrm.1 hrm.2.1 hlk (hts _ h4) h5 hrm.2.2, hts _ h2, trivial⟩ ⟨hbl, fun U hU hW => ⟨rfl, hpb U hU hW⟩⟩ rfl hn hsz hst (lv_room hW) hdg hf
theorem hk_runI (S : CallFix p m c cc nL s args hk_all own) (mv : hk_MI y bytes maxL n) (hM : Met l y (hk_ws y bytes maxL none) rm (va_Pc (.ref b :: As) PB) Qc mc ms free) (hlk : Cond.methodLink own index y ∈ hk_all) (hbl : FrameBlind (va_Pc (.ref b :: As) PB)) (hpb : ∀ U : State, U.heap = H → s.WarmedH U.vm → PB U) (hrm : hk_fit R rm maxL mc ms) (hn : As.length = n) (hsz : ls.size = nL) (hst : st0 = As.reverse ++ .ref b :: rest) (hW : (rest.map fun v => v.category).sum ≤ 8) (hdg : decode cc pc = .ok (.invokespecial index, 3)) (hf : cells + mc ≤ R.cells ∧ slots + ms ≤ R.slots) : va_Run p l e R s m args below meth c H locs cells slots mc ms (F0 m pc ls st0) rest (Qc (Value.ref b :: As).toArray) free := by
  obtain ⟨h1, h2, h4, h6, h5⟩ := mv
  have hts := S.2.2.2.2
  exact va_runI S hM ⟨callB_of n hts (hk_goodIn h1) rfl hrm.1 hrm.2.1 (hts _ h4) (hts _ hlk) h5 hrm.2.2, h6, hts _ h2⟩ ⟨hbl, fun U hU hW => ⟨rfl, hpb U hU hW⟩⟩ rfl hn hsz hst (lv_room hW) hdg hf
theorem hk_runIN (S : CallFix p m c cc nL s args hk_all own) (mv : hk_MI y bytes maxL n) (hM : Met l y (hk_ws y bytes maxL none) rm (va_Pc (.ref b :: As) PB) Qc mc ms free) (hlk : va_Nw (.methodLinkNest own index y host) s) (hbl : FrameBlind (va_Pc (.ref b :: As) PB)) (hpb : ∀ U : State, U.heap = H → s.WarmedH U.vm → PB U) (hrm : hk_fit R rm maxL mc ms) (hn : As.length = n) (hsz : ls.size = nL) (hst : st0 = As.reverse ++ .ref b :: rest) (hW : (rest.map fun v => v.category).sum ≤ 8) (hdg : decode cc pc = .ok (.invokespecial index, 3)) (hf : cells + mc ≤ R.cells ∧ slots + ms ≤ R.slots) : va_Run p l e R s m args below meth c H locs cells slots mc ms (F0 m pc ls st0) rest (Qc (Value.ref b :: As).toArray) free := by
  obtain ⟨h1, h2, h4, h6, h5⟩ := mv
  have hts := S.2.2.2.2
  exact va_runIN S hM ⟨va_cnB n hts (hk_goodIn h1) rfl hrm.1 hrm.2.1 hlk (hts _ h4) h5 hrm.2.2, h6, hts _ h2⟩ ⟨hbl, fun U hU hW => ⟨rfl, hpb U hU hW⟩⟩ rfl hn hsz hst (lv_room hW) hdg hf
end HKR
/-- cells put in other cells' places -/
def hk_repl : va_W → List Nat → va_W → va_W
  | ws, i :: is, c :: cs => hk_repl (ws.set i c) is cs
  | ws, _, _ => ws
theorem hk_repl_get : ∀ (is : List Nat) (w1 ws : va_W) (k : Nat) (q : Nat × va_E), va_nd is = true → is.length = w1.length → (∀ i ∈ is, i < ws.length) → (hk_repl ws is w1)[k]? = some q → (∃ j : Nat, is[j]? = some k ∧ w1[j]? = some q) ∨ (k ∉ is ∧ ws[k]? = some q)
  | [], w1, ws, k, q, _, hl, _, h => by
    cases w1 with
    | nil => exact Or.inr ⟨List.not_mem_nil, h⟩
    | cons a b => simp at hl
  | i :: is, [], ws, k, q, _, hl, _, h => by simp at hl
  | i :: is, c :: cs, ws, k, q, hn, hl, hi, h => by
    simp only [hk_repl] at h
    have hn2 : va_nd is = true ∧ i ∉ is := by
      simp only [va_nd, Bool.and_eq_true] at hn
      refine ⟨hn.2, ?_⟩
      have h1 := hn.1
      simpa using h1
    rcases hk_repl_get is cs (ws.set i c) k q hn2.1 (by simpa using hl) (fun j hj => by rw [List.length_set]; exact hi j (List.mem_cons_of_mem _ hj)) h with ⟨j, h1, h2⟩ | ⟨h1, h2⟩
    · exact Or.inl ⟨j + 1, by simpa using h1, by simpa using h2⟩
    · by_cases hk : k = i
      · subst hk
        rw [List.getElem?_set_self (hi k List.mem_cons_self)] at h2
        exact Or.inl ⟨0, rfl, by simpa using h2⟩
      · rw [List.getElem?_set_ne (Ne.symm hk)] at h2
        refine Or.inr ⟨fun hm => ?_, h2⟩
        rcases List.mem_cons.mp hm with h3 | h3
        · exact hk h3
        · exact h1 h3
theorem hk_join {A : Nat → Prop} {D : va_G} {cl : List vw_C} {ws wc w1 : va_W} {H H1 : Heap} (hP : va_P D cl ws H) (hD : va_D A ws) (isC : List Nat) (hC : isC.map (fun i => ws[i]?) = wc.map some) (hn : va_nd isC = true) (ha : w1.map Prod.fst = wc.map Prod.fst) (hk : ∀ q : Nat, q < H.size → ¬ va_A wc H.size q → H1[q]? = H[q]?) (hP1 : va_P D cl w1 H1) : va_P D cl (hk_repl ws isC w1) H1 ∧ va_D A (hk_repl ws isC w1) := by
  have hl1 : isC.length = wc.length := by have := congrArg List.length hC; simpa using this
  have hl2 : w1.length = wc.length := by have := congrArg List.length ha; simpa using this
  have at' : ∀ (j k : Nat), isC[j]? = some k → ∃ q, wc[j]? = some q ∧ ws[k]? = some q := by
    intro j k hj
    have h1 : (isC.map (fun i => ws[i]?))[j]? = some (ws[k]?) := by rw [List.getElem?_map, hj]; rfl
    rw [hC, List.getElem?_map] at h1
    cases hq : wc[j]? with
    | none => rw [hq] at h1; cases h1
    | some q => rw [hq] at h1; exact ⟨q, rfl, (Option.some.inj h1).symm⟩
  have at1 : ∀ (j : Nat) (q : Nat × va_E), wc[j]? = some q → ∃ k, isC[j]? = some k ∧ ws[k]? = some q := by
    intro j q hq
    have hj : j < isC.length := by rw [hl1]; exact (List.getElem?_eq_some_iff.mp hq).1
    obtain ⟨q2, h1, h2⟩ := at' j isC[j] (List.getElem?_eq_getElem hj)
    have : q2 = q := Option.some.inj (h1.symm.trans hq)
    subst this
    exact ⟨isC[j], List.getElem?_eq_getElem hj, h2⟩
  have hlt : ∀ i ∈ isC, i < ws.length := by
    intro i hi
    obtain ⟨j, hj⟩ := List.getElem?_of_mem hi
    obtain ⟨q, -, h2⟩ := at' j i hj
    exact (List.getElem?_eq_some_iff.mp h2).1
  have addr : ∀ (j : Nat) (q q0 : Nat × va_E), w1[j]? = some q → wc[j]? = some q0 → q.1 = q0.1 := by
    intro j q q0 h1 h2
    have e : (w1.map Prod.fst)[j]? = (wc.map Prod.fst)[j]? := by rw [ha]
    rw [List.getElem?_map, List.getElem?_map, h1, h2] at e
    exact Option.some.inj e
  have old : ∀ (k : Nat) (q : Nat × va_E), (hk_repl ws isC w1)[k]? = some q → ∃ q0, ws[k]? = some q0 ∧ q0.1 = q.1 := by
    intro k q h
    rcases hk_repl_get isC w1 ws k q hn (hl1.trans hl2.symm) hlt h with ⟨j, h1, h2⟩ | ⟨h1, h2⟩
    · obtain ⟨q0, h3, h4⟩ := at' j k h1
      exact ⟨q0, h4, (addr j q q0 h2 h3).symm⟩
    · exact ⟨q, h2, rfl⟩
  refine ⟨fun k q h => ?_, fun i j x z hi hj hxz => ?_, fun k q h => ?_⟩
  · rcases hk_repl_get isC w1 ws k q hn (hl1.trans hl2.symm) hlt h with ⟨j, h1, h2⟩ | ⟨h1, h2⟩
    · exact hP1 j q h2
    · have hl := (hP k q h2).lt
      refine (hP k q h2).kept (hk q.1 hl (fun hh => ?_))
      rcases hh with ⟨k2, e, hh⟩ | hh
      · obtain ⟨k3, h5, h6⟩ := at1 k2 _ hh
        have := hD.1 k k3 q (q.1, e) h2 h6 rfl
        subst this
        exact h1 (List.mem_of_getElem? h5)
      · omega
  · obtain ⟨x0, h1, h2⟩ := old i x hi
    obtain ⟨z0, h3, h4⟩ := old j z hj
    exact hD.1 i j x0 z0 h1 h3 (h2.trans (hxz.trans h4.symm))
  · obtain ⟨q0, h1, h2⟩ := old k q h
    rw [← h2]
    exact hD.2 k q0 h1
section HKM
variable {p : Program} {l : Launch} {e : Env} {R : Room} {s : State} {m : MethodId} {args : Array Value} {below : List Frame} {meth : Method} {c : Code} {H H0 : Heap} {locs : List Loc} {cells slots : Nat} {Q : State → Prop}
variable {pc mc ms : Nat} {ls : Array Slot} {rest st0 : List Value} {a : Array Value} {A : Nat → Prop} {D : va_G} {ws wc : va_W} {S : Type} {w1 : S → va_W}
theorem hk_mi (isC : List Nat) {post : Int32 → S → Prop} (hr : va_Run p l e R s m args below meth c H locs cells slots mc ms (F0 m pc ls st0) rest (va_Qi post (hk_B D (va_A wc H.size) w1) (va_A wc H.size) a) (va_A wc H.size)) (hP : va_P D vwCl ws H) (hD : va_D A ws) (hS : va_S A H0 H locs) (hA : ∀ q, H0.size ≤ q → A q) (hC : isC.map (fun i => ws[i]?) = wc.map some) (hn : va_nd isC = true) (ha : ∀ u, (w1 u).map Prod.fst = wc.map Prod.fst)
    (kk : ∀ (r : Int32) (u : S) (H1 : Heap) (locs1 : List Loc), post r u → va_P D vwCl (hk_repl ws isC (w1 u)) H1 → va_D A (hk_repl ws isC (w1 u)) → va_S A H0 H1 locs1 → W p l e R s m args below meth c H1 locs1 (cells + mc) (slots + ms) Q (F0 m (pc + 3) ls (.int r :: rest))) : W p l e R s m args below meth c H locs cells slots Q (F0 m pc ls st0) := by
  have hF := va_free hD hS hA isC hC
  refine va_calli hr hS (fun q _ h => hF q h) hF (fun r u t H1 locs1 ht hvm hw hB hz hk hS1 => ?_)
  obtain ⟨hP1, hD1⟩ := hB
  rw [ht] at hP1
  obtain ⟨hP2, hD2⟩ := hk_join hP hD isC hC hn (ha u) hk hP1
  exact kk r u H1 locs1 hw hP2 hD2 hS1
theorem hk_ml (isC : List Nat) {post : Int64 → S → Prop} (hr : va_Run p l e R s m args below meth c H locs cells slots mc ms (F0 m pc ls st0) rest (va_Ql post (hk_B D (va_A wc H.size) w1) (va_A wc H.size) a) (va_A wc H.size)) (hP : va_P D vwCl ws H) (hD : va_D A ws) (hS : va_S A H0 H locs) (hA : ∀ q, H0.size ≤ q → A q) (hC : isC.map (fun i => ws[i]?) = wc.map some) (hn : va_nd isC = true) (ha : ∀ u, (w1 u).map Prod.fst = wc.map Prod.fst)
    (kk : ∀ (r : Int64) (u : S) (H1 : Heap) (locs1 : List Loc), post r u → va_P D vwCl (hk_repl ws isC (w1 u)) H1 → va_D A (hk_repl ws isC (w1 u)) → va_S A H0 H1 locs1 → W p l e R s m args below meth c H1 locs1 (cells + mc) (slots + ms) Q (F0 m (pc + 3) ls (.long r :: rest))) : W p l e R s m args below meth c H locs cells slots Q (F0 m pc ls st0) := by
  have hF := va_free hD hS hA isC hC
  refine va_calll hr hS (fun q _ h => hF q h) hF (fun r u t H1 locs1 ht hvm hw hB hz hk hS1 => ?_)
  obtain ⟨hP1, hD1⟩ := hB
  rw [ht] at hP1
  obtain ⟨hP2, hD2⟩ := hk_join hP hD isC hC hn (ha u) hk hP1
  exact kk r u H1 locs1 hw hP2 hD2 hS1
theorem hk_mv (isC : List Nat) {post : S → Prop} (hr : va_Run p l e R s m args below meth c H locs cells slots mc ms (F0 m pc ls st0) rest (va_Qv post (hk_B D (va_A wc H.size) w1) (va_A wc H.size) a) (va_A wc H.size)) (hP : va_P D vwCl ws H) (hD : va_D A ws) (hS : va_S A H0 H locs) (hA : ∀ q, H0.size ≤ q → A q) (hC : isC.map (fun i => ws[i]?) = wc.map some) (hn : va_nd isC = true) (ha : ∀ u, (w1 u).map Prod.fst = wc.map Prod.fst)
    (kk : ∀ (u : S) (H1 : Heap) (locs1 : List Loc), post u → va_P D vwCl (hk_repl ws isC (w1 u)) H1 → va_D A (hk_repl ws isC (w1 u)) → va_S A H0 H1 locs1 → W p l e R s m args below meth c H1 locs1 (cells + mc) (slots + ms) Q (F0 m (pc + 3) ls rest)) : W p l e R s m args below meth c H locs cells slots Q (F0 m pc ls st0) := by
  have hF := va_free hD hS hA isC hC
  refine va_callv hr hS (fun q _ h => hF q h) hF (fun u t H1 locs1 ht hvm hw hB hz hk hS1 => ?_)
  obtain ⟨hP1, hD1⟩ := hB
  rw [ht] at hP1
  obtain ⟨hP2, hD2⟩ := hk_join hP hD isC hC hn (ha u) hk hP1
  exact kk u H1 locs1 hw hP2 hD2 hS1
end HKM
