/-! worlds as functions of a place: n cells, the address of each, and what it holds -/
def cy_G (n : Nat) (ad : Nat → Nat) (en : Nat → va_E) : va_W := (List.range n).map (fun j => (ad j, en j))
theorem cy_G_len {n : Nat} {ad : Nat → Nat} {en : Nat → va_E} : (cy_G n ad en).length = n := by simp [cy_G]
theorem cy_G_at {n j : Nat} {ad : Nat → Nat} {en : Nat → va_E} {tl : va_W} (h : j < n) : (cy_G n ad en ++ tl)[j]? = some (ad j, en j) := by
  rw [List.getElem?_append_left (by rw [cy_G_len]; exact h)]
  simp [cy_G, List.getElem?_map, List.getElem?_range h]
theorem cy_G_tl {n i : Nat} {ad : Nat → Nat} {en : Nat → va_E} {tl : va_W} : (cy_G n ad en ++ tl)[n + i]? = tl[i]? := by
  rw [List.getElem?_append_right (by rw [cy_G_len]; omega), cy_G_len, Nat.add_sub_cancel_left]
theorem cy_G_set {n j : Nat} {ad : Nat → Nat} {en : Nat → va_E} {tl : va_W} {e : va_E} (h : j < n) : (cy_G n ad en ++ tl).set j (ad j, e) = cy_G n ad (va_up en j e) ++ tl := by
  rw [List.set_append_left _ _ (by rw [cy_G_len]; exact h)]
  congr 1
  apply List.ext_getElem?
  intro k
  rw [List.getElem?_set]
  simp only [cy_G, List.length_map, List.length_range, List.getElem?_map]
  by_cases hk : j = k
  · subst hk
    rw [if_pos rfl, if_pos h, List.getElem?_range h]
    simp [va_up]
  · rw [if_neg hk]
    by_cases hn : k < n
    · rw [List.getElem?_range hn]
      simp [va_up, Ne.symm hk]
    · rw [List.getElem?_eq_none (by simpa using hn)]
      rfl
theorem cy_G_set_tl {n i : Nat} {ad : Nat → Nat} {en : Nat → va_E} {tl : va_W} {q : Nat × va_E} : (cy_G n ad en ++ tl).set (n + i) q = cy_G n ad en ++ tl.set i q := by
  rw [List.set_append_right _ _ (by rw [cy_G_len]; omega), cy_G_len, Nat.add_sub_cancel_left]
/-- the world at a point of a walk -/
def cy_W (D : va_G) (A : Nat → Prop) (H0 : Heap) (w : va_W) (H : Heap) (locs : List Loc) : Prop := va_P D vwCl w H ∧ va_D A w ∧ va_S A H0 H locs
def cy_Pre (D : va_G) (tys : List (ClassId × FieldType)) (sz : Nat) (w : va_W) : State → Prop := fun U => U.heap.size = sz ∧ va_P D vwCl w U.heap ∧ va_K D vwCl tys U ∧ va_D (fun _ => True) w
def cy_Post (D : va_G) (sz : Nat) (w0 : va_W) (rv : Option Value) (w1 : va_W) : Array Value → State → Outcome → State → Prop := fun _ st oc t => oc = .returned rv ∧ va_P D vwCl w1 t.heap ∧ va_D (va_A w0 sz) w1 ∧ va_F (va_A w0 sz) st t
/-- a contract: from the world w0 it returns rv, and leaves the world w1 -/
def cy_M (l : Launch) (y : MethodName) (ws : List Cond) (rm : Room) (D : va_G) (tys : List (ClassId × FieldType)) (av : List Value) (w0 : va_W) (rv : Option Value) (w1 : va_W) : Prop :=
  ∀ sz : Nat, Met l y ws rm (va_Pc av (cy_Pre D tys sz w0)) (cy_Post D sz w0 rv w1) rm.cells rm.slots (va_A w0 sz)
theorem cy_blind {D : va_G} {tys : List (ClassId × FieldType)} {sz : Nat} {w : va_W} {av : List Value} : FrameBlind (va_Pc av (cy_Pre D tys sz w)) := fun a U g mk q => by
  obtain ⟨q0, q1, qP, qK, qD⟩ := q
  exact ⟨q0, q1, qP, va_K.moved (u := U) (U := U.calling g mk a) (Vm.Alike.refl U.vm) qK, qD⟩
section CYK
variable {p : Program} {l : Launch} {e : Env} {R : Room} {s : State} {m : MethodId} {args : Array Value} {below : List Frame} {meth : Method} {c : Code} {H : Heap} {locs : List Loc} {cells slots : Nat} {Q : State → Prop}
variable {cc : ByteArray} {pc nL : Nat} {ls : Array Slot} {rest : List Value} {D : va_G} {A : Nat → Prop} {a : Nat} {tys : List (ClassId × FieldType)} {Ts : List Cond} {own : String} {w0 w1 : va_W} {rv : Option Value}
variable {y : MethodName} {ws : List Cond} {rm : Room}
theorem cy_free (hA : ∀ q, s.heap.size ≤ q → A q) (hW : cy_W D A s.heap w0 H locs) : ∀ q, va_A w0 H.size q → A q := by
  intro q h
  rcases h with ⟨k, e, h⟩ | h
  · exact hW.2.1.2 k (q, e) h
  · exact hA q (Nat.le_trans hW.2.2.1 h)
theorem cy_back {mc ms : Nat} {st0 : List Value} {av : Array Value} (hA : ∀ q, s.heap.size ≤ q → A q) (hW : cy_W D A s.heap w0 H locs)
    (hr : va_Run p l e R s m args below meth c H locs cells slots mc ms (F0 m pc ls st0) rest (cy_Post D H.size w0 rv w1 av) (va_A w0 H.size))
    (kk : ∀ (H1 : Heap) (locs1 : List Loc), cy_W D A s.heap w1 H1 locs1 → W p l e R s m args below meth c H1 locs1 (cells + mc) (slots + ms) Q (F0 m (pc + 3) ls (rv.toList ++ rest))) : W p l e R s m args below meth c H locs cells slots Q (F0 m pc ls st0) := by
  have hF := cy_free hA hW
  obtain ⟨hP, hD, hS⟩ := hW
  intro T hT X
  obtain ⟨v, st₀, t, T', L, h0, X', hL, e1, e2, ⟨hv, hP1, hD1, hz, hk⟩, st⟩ := hr T hT X
  have hv : v = rv := by cases hv; rfl
  subst hv
  rw [h0] at hz hk
  obtain ⟨t2, a1, b1⟩ := kk T'.heap (locs ++ L) ⟨by rw [e1]; exact hP1, hD1.weaken (fun _ q _ h => hF q.1 h),
    ⟨Nat.le_trans hS.1 (by rw [e1]; exact hz), fun q h1 h2 => by rw [e1, hk q (Nat.lt_of_lt_of_le h1 hS.1) (fun z => h2 (hF q z))]; exact hS.2.1 q h1 h2, fun q hq => by
      rcases List.mem_append.mp hq with h | h
      · exact hS.2.2 q h
      · exact hF _ (hL q h)⟩⟩ T' rfl X'
  exact ⟨t2, st t2 a1, b1⟩
/-- a call by invokevirtual -/
theorem cy_callV {n index maxL q0 ci N : Nat} {T : u_T} {CC : String} {bytes : ByteArray} {ret : Option FieldType} {b : Addr} {fs As st0 : List Value} (C : CallFix p m c cc nL s args Ts own) (hK : va_K D vwCl tys s) (hA : ∀ q, s.heap.size ≤ q → A q) (hW : cy_W D A s.heap w0 H locs)
    (hM : cy_M l y ws rm D tys (.ref b :: As) w0 rv w1) (cw : CallW R s args own CC index y bytes maxL ret ws rm rm.cells rm.slots n) (he : w0[q0]? = some (b, .inr (ci, fs))) (hc : vwCl[ci]? = some (CC, T, N))
    (hn : As.length = n) (hl : ls.size = nL) (hst : st0 = As.reverse ++ .ref b :: rest) (hroom : (rest.map fun v => v.category).sum ≤ 8) (hdg : decode cc pc = .ok (.invokevirtual index, 3)) (hf : cells + rm.cells ≤ R.cells ∧ slots + rm.slots ≤ R.slots) {k' n' : Nat} (hk' : cells + rm.cells = k') (hn' : slots + rm.slots = n')
    (kk : ∀ (H1 : Heap) (locs1 : List Loc), cy_W D A s.heap w1 H1 locs1 → W p l e R s m args below meth c H1 locs1 k' n' Q (F0 m (pc + 3) ls (rv.toList ++ rest))) : W p l e R s m args below meth c H locs cells slots Q (F0 m pc ls st0) := by
  subst hk'; subst hn'
  refine cy_back hA hW (va_runV (As := As) (rest := rest) C (hM H.size) cw ⟨cy_blind, va_recv hK hW.1 hc he, fun U hU hWm => ⟨rfl, by rw [hU], by rw [hU]; exact hW.1, va_K.moved hWm.alike hK, hW.2.1.weaken (fun _ _ _ _ => trivial)⟩⟩ rfl hn hl hst (lv_room hroom) hdg hf) kk
/-- a call by invokestatic -/
theorem cy_callS {n index maxL : Nat} {bytes : ByteArray} {ret : Option FieldType} {As st0 : List Value} (C : CallFix p m c cc nL s args Ts own) (hK : va_K D vwCl tys s) (hA : ∀ q, s.heap.size ≤ q → A q) (hW : cy_W D A s.heap w0 H locs)
    (hM : cy_M l y ws rm D tys As w0 rv w1) (cw : CallB R s args own index y bytes maxL ret ws rm rm.cells rm.slots n ∧ (Cond.static y).before args s = true)
    (hn : As.length = n) (hl : ls.size = nL) (hst : st0 = As.reverse ++ rest) (hroom : (rest.map fun v => v.category).sum ≤ 8) (hdg : decode cc pc = .ok (.invokestatic index, 3)) (hf : cells + rm.cells ≤ R.cells ∧ slots + rm.slots ≤ R.slots) {k' n' : Nat} (hk' : cells + rm.cells = k') (hn' : slots + rm.slots = n')
    (kk : ∀ (H1 : Heap) (locs1 : List Loc), cy_W D A s.heap w1 H1 locs1 → W p l e R s m args below meth c H1 locs1 k' n' Q (F0 m (pc + 3) ls (rv.toList ++ rest))) : W p l e R s m args below meth c H locs cells slots Q (F0 m pc ls st0) := by
  subst hk'; subst hn'
  refine cy_back hA hW (va_runS (As := As) (rest := rest) C (hM H.size) cw ⟨cy_blind, fun U hU hWm => ⟨rfl, by rw [hU], by rw [hU]; exact hW.1, va_K.moved hWm.alike hK, hW.2.1.weaken (fun _ _ _ _ => trivial)⟩⟩ rfl hn hl hst (lv_room hroom) hdg hf) kk
end CYK
/-- the facts with which a body begins -/
def cy_C (p : Program) (s : State) (m : MethodId) (args : Array Value) (c : Code) (cc : ByteArray) (nL : Nat) (Ts : List Cond) (own : String) (D : va_G) (tys : List (ClassId × FieldType)) (A : Nat → Prop) : Prop :=
  CallFix p m c cc nL s args Ts own ∧ va_K D vwCl tys s ∧ ∀ q, s.heap.size ≤ q → A q
/-- what is left to show at a return -/
def cy_E (p : Program) (l : Launch) (e : Env) (rm : Room) (s : State) (m : MethodId) (args : Array Value) (below : List Frame) (meth : Method) (c : Code) (cc : ByteArray) (D : va_G) (A : Nat → Prop) (Q : State → Prop) (i : Instr) (rv : Option Value) (w1 : va_W) : Prop :=
  ∀ (H : Heap) (locs : List Loc) (cells slots pc : Nat) (ls : Array Slot), cells ≤ rm.cells → slots ≤ rm.slots → cy_W D A s.heap w1 H locs → decode cc pc = .ok (i, 1) → W p l e rm s m args below meth c H locs cells slots Q (F0 m pc ls rv.toList)
theorem cy_of {l : Launch} {y : MethodName} {ws ws' : List Cond} {rm : Room} {D : va_G} {tys : List (ClassId × FieldType)} {av : List Value} {w0 w1 : va_W} {rv : Option Value} {cc : ByteArray} {maxL : Nat} {ret : Option FieldType} {own : String} {i : Instr} (hy : plainName y.cls = true) (hw : ws = Cond.code y cc maxL ret :: ws') (ho : y.cls = own) (hm : (lg_sl av).length ≤ maxL)
    (hend : ∀ (p : Program) (e : Env) (s : State) (m : MethodId) (args : Array Value) (below : List Frame) (meth : Method) (c : Code) (A : Nat → Prop) (Qc : Array Value → State → Outcome → State → Prop), p.tables.exec = Jvm.exec → c.code = cc → meth.sig.returnType = ret → meth.locks = false →
      ∀ (H : Heap) (locs : List Loc) (cells slots pc : Nat) (ls : Array Slot), (∀ t : State, t.heap = H → s.WarmedH t.vm → Qc args s (.returned rv) t) → (∀ q ∈ locs, A q.base) → decode cc pc = .ok (i, 1) → W p l e rm s m args below meth c H locs cells slots (MQ below Qc args s cells slots A) (F0 m pc ls rv.toList))
    (body : ∀ (p : Program) (e : Env) (s : State) (m : MethodId) (args : Array Value) (below : List Frame) (meth : Method) (c : Code) (Q : State → Prop) (A : Nat → Prop) (ls : Array Slot), cy_C p s m args c cc maxL ws own D tys A → cy_E p l e rm s m args below meth c cc D A Q i rv w1 → cy_W D A s.heap w0 s.heap [] → lv_has ls maxL (lv_args 0 av) → W p l e rm s m args below meth c s.heap [] 0 0 Q (F0 m 0 ls [])) : cy_M l y ws rm D tys av w0 rv w1 := by
  intro sz
  refine Met.ofW (cc := cc) (maxL := maxL) (ret := ret) hy hw ?_
  intro p e s m args below meth c s₁ B hml hv
  obtain ⟨rfl, hsz, hP, hK, hD0⟩ := hv
  subst hsz
  have hts := atoms_spec (ws := ws) B.pre
  have hown : s.vm.findClass own = some m.cls := by rw [← ho]; exact findClass_of_methodNamed B.named
  have hl := lv_entry av (n := maxL) hm
  rw [lg_entry_eq]
  refine body p e s m _ below meth c _ (va_A w0 s.heap.size) _ ⟨⟨B.exec, B.bytes, hml, hown, hts⟩, hK, fun q h => Or.inr h⟩ ?_ ⟨hP, hD0.self, va_S.rf⟩ hl
  intro H locs cells slots pc ls hc hs hW hdg
  refine W.widen hc hs ?_
  exact hend p e s m _ below meth c _ _ B.exec B.bytes B.returns B.notSynchronized H locs _ _ pc ls (fun t ht hWm => ⟨rfl, by rw [ht]; exact hW.1, hW.2.1, hW.2.2.F ht⟩) hW.2.2.2.2 hdg
theorem cy_endI {l : Launch} {rm : Room} {cc : ByteArray} {v : Int32} {ty : FieldType} (hn : narrow ty (.int v) = .int v) : ∀ (p : Program) (e : Env) (s : State) (m : MethodId) (args : Array Value) (below : List Frame) (meth : Method) (c : Code) (A : Nat → Prop) (Qc : Array Value → State → Outcome → State → Prop), p.tables.exec = Jvm.exec → c.code = cc → meth.sig.returnType = some ty → meth.locks = false →
      ∀ (H : Heap) (locs : List Loc) (cells slots pc : Nat) (ls : Array Slot), (∀ t : State, t.heap = H → s.WarmedH t.vm → Qc args s (.returned (some (.int v))) t) → (∀ q ∈ locs, A q.base) → decode cc pc = .ok (.ireturn, 1) → W p l e rm s m args below meth c H locs cells slots (MQ below Qc args s cells slots A) (F0 m pc ls (some (Value.int v)).toList) :=
  fun p e s m args below meth c A Qc hx hb hr hlk H locs cells slots pc ls hq hf hdg => W.zret hx hb hr hn hq hf hdg hlk
theorem cy_endL {l : Launch} {rm : Room} {cc : ByteArray} {v : Int64} : ∀ (p : Program) (e : Env) (s : State) (m : MethodId) (args : Array Value) (below : List Frame) (meth : Method) (c : Code) (A : Nat → Prop) (Qc : Array Value → State → Outcome → State → Prop), p.tables.exec = Jvm.exec → c.code = cc → meth.sig.returnType = some .long → meth.locks = false →
      ∀ (H : Heap) (locs : List Loc) (cells slots pc : Nat) (ls : Array Slot), (∀ t : State, t.heap = H → s.WarmedH t.vm → Qc args s (.returned (some (.long v))) t) → (∀ q ∈ locs, A q.base) → decode cc pc = .ok (.lreturn, 1) → W p l e rm s m args below meth c H locs cells slots (MQ below Qc args s cells slots A) (F0 m pc ls (some (Value.long v)).toList) :=
  fun p e s m args below meth c A Qc hx hb hr hlk H locs cells slots pc ls hq hf hdg => W.lret hx hb hr hq hf hdg hlk
theorem cy_endV {l : Launch} {rm : Room} {cc : ByteArray} : ∀ (p : Program) (e : Env) (s : State) (m : MethodId) (args : Array Value) (below : List Frame) (meth : Method) (c : Code) (A : Nat → Prop) (Qc : Array Value → State → Outcome → State → Prop), p.tables.exec = Jvm.exec → c.code = cc → meth.sig.returnType = none → meth.locks = false →
      ∀ (H : Heap) (locs : List Loc) (cells slots pc : Nat) (ls : Array Slot), (∀ t : State, t.heap = H → s.WarmedH t.vm → Qc args s (.returned none) t) → (∀ q ∈ locs, A q.base) → decode cc pc = .ok (.return_, 1) → W p l e rm s m args below meth c H locs cells slots (MQ below Qc args s cells slots A) (F0 m pc ls (none : Option Value).toList) :=
  fun p e s m args below meth c A Qc hx hb hr hlk H locs cells slots pc ls hq hf hdg => W.vret hx hb hr hq hf hdg hlk
