/-! methods that may throw: the class's three exceptions, their words and texts -/
abbrev cy_IA : String := "java/lang/IllegalArgumentException"
abbrev cy_IS : String := "java/lang/IllegalStateException"
abbrev cy_IB : String := "java/lang/IndexOutOfBoundsException"
abbrev cy_nm : List String := ["java/lang/RuntimeException", "java/lang/Exception"]
def cy_xw : List Cond := [.declares (Bundle.initS "java/lang/RuntimeException"), .declares (Bundle.initS "java/lang/Exception"), .declares (Bundle.initS Bundle.tN), .castable cy_IA cy_IA, .castable cy_IS cy_IS, .castable cy_IB cy_IB]
def cy_strs : List (Nat × String) := [(59, "width is not 20 to 120"), (64, "dryness is not 0 to 100"), (71, "there are 60 staves"), (80, "no such stave"), (83, "what is not 0 to 2"), (85, "girth is not 300 to 1500"), (88, "room is not 100 to 60000"), (90, "hoops is not 2 to 8"), (95, "there are 6 sorts"), (100, "no such sort"), (102, "index is not 0 to 59"), (117, "there are 12 casks"), (119, "no set of staves makes it"), (144, "no such cask"), (149, "no such hoop"), (151, "by is not 1 to 9"), (170, "the cask is broken up"), (175, "the cask holds something"), (177, "the stave is not in the yard"), (179, "the stave has another width"), (184, "it is broken up"), (192, "what is not 0 to 15"), (197, "liquid is not 0 to 3"), (199, "amount is not 1 to 60000"), (201, "it would hold more than its room"), (209, "both are the same"), (211, "one of them is broken up"), (213, "the first one holds less"), (215, "the second one would hold more than its room"), (221, "warmth is not 0 to 9"), (223, "months is not 1 to 60"), (228, "the month would be greater than 1200"), (236, "what is not 0 to 9"), (250, "what is not 0 to 3"), (270, "target is not 0 to 1000000")]
/-- what a throw needs of the state: Throwable's two statics, the texts, and the words that the good ones leave out -/
def cy_Th (A : Nat → Prop) (U : State) (H : Heap) : Prop := vx_Zq Bundle.tN "UNASSIGNED_STACK" Bundle.steD A U H ∧ vx_Zq Bundle.tN "SUPPRESSED_SENTINEL" Bundle.listD A U H ∧ (∀ q ∈ cy_strs, ∃ sa, vk_R RX2 q.1 q.2 sa U) ∧ ∀ w ∈ cy_xw, va_Nw w U
theorem cy_xw_tab : ∀ w ∈ cy_xw, w.onTables = true := by decide +kernel
theorem cy_Th.warm {A B : Nat → Prop} {s U : State} {H0 H : Heap} (hW : s.WarmedH U.vm) (hq : ∀ a : Nat, a < H0.size → ¬ A a → H[a]? = H0[a]?) (hAB : ∀ q, B q → A q) (h : cy_Th A s H0) : cy_Th B U H := by
  obtain ⟨h1, h2, h3, h4⟩ := h
  refine ⟨((h1.kept hq).narrow hAB).moved hW.alike, ((h2.kept hq).narrow hAB).moved hW.alike, fun q hq => ?_, ?_⟩
  · obtain ⟨sa, h⟩ := h3 q hq
    exact ⟨sa, h.warm hW⟩
  · intro w hw
    have g := h4 w hw
    simp only [cy_xw, List.mem_cons, List.not_mem_nil, or_false] at hw
    rcases hw with rfl | rfl | rfl | rfl | rfl | rfl
    · exact va_Nw.warmD hW g
    · exact va_Nw.warmD hW g
    · exact va_Nw.warmD hW g
    · exact va_Nw.warmC hW g
    · exact va_Nw.warmC hW g
    · exact va_Nw.warmC hW g
def cy_PreX (D : va_G) (tys : List (ClassId × FieldType)) (sz : Nat) (w : va_W) : State → Prop := fun U => cy_Pre D tys sz w U ∧ cy_Th (va_A w sz) U U.heap
theorem cy_blindX {D : va_G} {tys : List (ClassId × FieldType)} {sz : Nat} {w : va_W} {av : List Value} : FrameBlind (va_Pc av (cy_PreX D tys sz w)) := fun a U g mk q => by
  obtain ⟨q0, ⟨q1, qP, qK, qD⟩, h1, h2, h3, h4⟩ := q
  refine ⟨q0, ⟨q1, qP, va_K.moved (u := U) (U := U.calling g mk a) (Vm.Alike.refl U.vm) qK, qD⟩, vx_Zq.moved (u := U) (U := U.calling g mk a) (Vm.Alike.refl U.vm) h1, vx_Zq.moved (u := U) (U := U.calling g mk a) (Vm.Alike.refl U.vm) h2, fun q hq => ?_, fun w hw => va_Nw.same (u := U) (cy_xw_tab w hw) rfl (h4 w hw)⟩
  obtain ⟨sa, h⟩ := h3 q hq
  exact ⟨sa, vk_R.same (u := U) rfl h⟩
def cy_QX (D : va_G) (sz : Nat) (w0 : va_W) (th : Option String) (rv : Option Value) (w1 : va_W) : Array Value → State → Outcome → State → Prop := fun a st oc t => th = none ∧ cy_Post D sz w0 rv w1 a st oc t
def cy_XX (D : va_G) (sz : Nat) (w0 : va_W) (th : Option String) (w1 : va_W) : String → State → State → Prop := fun E st t => th = some E ∧ va_P D vwCl w1 t.heap ∧ va_D (va_A w0 sz) w1 ∧ va_F (va_A w0 sz) st t
/-- a contract of a method that may throw: with th none it returns rv, with th some E it throws an E; the world behind it is w1 -/
def cy_X (l : Launch) (y : MethodName) (ws : List Cond) (rm : Room) (D : va_G) (tys : List (ClassId × FieldType)) (av : List Value) (w0 : va_W) (th : Option String) (rv : Option Value) (w1 : va_W) : Prop :=
  l.stackTraces = false → ∀ sz : Nat, vx_Met l y ws rm (va_Pc av (cy_PreX D tys sz w0)) (cy_QX D sz w0 th rv w1) (cy_XX D sz w0 th w1) rm.cells rm.slots (va_A w0 sz)
/-- the words of one exception's making -/
def cy_ok (ik ic : Nat) (cls : String) : Prop := Bundle.fit cls = true ∧ (∀ w ∈ (vx_atS RX2 ic cls cy_nm).filter (fun w => !goodWord w), w ∈ cy_xw) ∧ ∀ w ∈ Cond.classLink RX2 ik cls :: Cond.initialized cls :: vx_atS RX2 ic cls cy_nm, vx_ot w = true
theorem cy_ok_IA : cy_ok 57 61 cy_IA := ⟨by decide +kernel, by decide +kernel, by decide +kernel⟩
theorem cy_ok_IS : cy_ok 69 73 cy_IS := ⟨by decide +kernel, by decide +kernel, by decide +kernel⟩
theorem cy_ok_IB : cy_ok 78 82 cy_IB := ⟨by decide +kernel, by decide +kernel, by decide +kernel⟩
/-- what is left to show at a 'throw new E("text")' -/
def cy_T (p : Program) (l : Launch) (e : Env) (rm : Room) (s : State) (m : MethodId) (args : Array Value) (below : List Frame) (meth : Method) (c : Code) (cc : ByteArray) (Ts : List Cond) (D : va_G) (A : Nat → Prop) (Q : State → Prop) (th : Option String) (w1 : va_W) : Prop :=
  ∀ (H : Heap) (locs : List Loc) (cells slots pc : Nat) (ls : Array Slot) (rest : List Value) (ik ic is : Nat) (cls text : String), cy_ok ik ic cls → th = some cls → cells + 1 ≤ rm.cells → slots + 6 ≤ rm.slots → (rest.map fun v => v.category).sum + 82 ≤ rm.locals → cy_W D A s.heap w1 H locs → ls.size = c.maxLocals → (is, text) ∈ cy_strs → Cond.classLink RX2 ik cls ∈ Ts → Cond.initialized cls ∈ Ts → (∀ w ∈ (vx_atS RX2 ic cls cy_nm).filter goodWord, w ∈ Ts) →
    decode cc pc = .ok (.new ik, 3) → decode cc (pc + 3) = .ok (.dup, 1) → ((decode cc (pc + 4) = .ok (.ldc is, 2) ∧ decode cc (pc + 6) = .ok (.invokespecial ic, 3) ∧ decode cc (pc + 9) = .ok (.athrow, 1)) ∨ (decode cc (pc + 4) = .ok (.ldc_w is, 3) ∧ decode cc (pc + 7) = .ok (.invokespecial ic, 3) ∧ decode cc (pc + 10) = .ok (.athrow, 1))) →
    W p l e rm s m args below meth c H locs cells slots Q (F0 m pc ls rest)
theorem cy_ofX {l : Launch} {y : MethodName} {ws ws' : List Cond} {rm : Room} {D : va_G} {tys : List (ClassId × FieldType)} {av : List Value} {w0 w1 : va_W} {th : Option String} {rv : Option Value} {cc : ByteArray} {maxL : Nat} {ret : Option FieldType} {i : Instr} (hy : plainName y.cls = true) (hw : ws = Cond.code y cc maxL ret :: ws') (ho : y.cls = RX2) (hm : (lg_sl av).length ≤ maxL) (hfr : 5 < rm.frames)
    (hend : th = none → ∀ (p : Program) (e : Env) (s : State) (m : MethodId) (args : Array Value) (below : List Frame) (meth : Method) (c : Code) (A : Nat → Prop) (Qc : Array Value → State → Outcome → State → Prop), p.tables.exec = Jvm.exec → c.code = cc → meth.sig.returnType = ret → meth.locks = false →
      ∀ (H : Heap) (locs : List Loc) (cells slots pc : Nat) (ls : Array Slot), (∀ t : State, t.heap = H → s.WarmedH t.vm → Qc args s (.returned rv) t) → (∀ q ∈ locs, A q.base) → decode cc pc = .ok (i, 1) → W p l e rm s m args below meth c H locs cells slots (MQ below Qc args s cells slots A) (F0 m pc ls rv.toList))
    (body : ∀ (p : Program) (e : Env) (s : State) (m : MethodId) (args : Array Value) (below : List Frame) (meth : Method) (c : Code) (Q : State → Prop) (A : Nat → Prop) (ls : Array Slot), cy_C p s m args c cc maxL ws RX2 D tys A → cy_Th A s s.heap → (th = none → cy_E p l e rm s m args below meth c cc D A Q i rv w1) → cy_T p l e rm s m args below meth c cc ws D A Q th w1 → cy_W D A s.heap w0 s.heap [] → lv_has ls maxL (lv_args 0 av) → W p l e rm s m args below meth c s.heap [] 0 0 Q (F0 m 0 ls [])) : cy_X l y ws rm D tys av w0 th rv w1 := by
  intro hl0 sz
  refine vx_ofW (cc := cc) (maxL := maxL) (ret := ret) hy hw ?_
  intro p e s m args below meth c s₁ B hml htab hv
  obtain ⟨rfl, ⟨hsz, hP, hK, hD0⟩, hTh⟩ := hv
  subst hsz
  have hts := atoms_spec (ws := ws) B.pre
  have hown : s.vm.findClass RX2 = some m.cls := by rw [← ho]; exact findClass_of_methodNamed B.named
  have hl := lv_entry av (n := maxL) hm
  rw [lg_entry_eq]
  refine body p e s m _ below meth c _ (va_A w0 s.heap.size) _ ⟨⟨B.exec, B.bytes, hml, hown, hts⟩, hK, fun q h => Or.inr h⟩ hTh ?_ ?_ ⟨hP, hD0.self, va_S.rf⟩ hl
  · intro hth H locs cells slots pc ls hc hs hW hdg
    refine vx_ret ?_
    refine W.widen hc hs ?_
    exact hend hth p e s m _ below meth c _ _ B.exec B.bytes B.returns B.notSynchronized H locs _ _ pc ls (fun t ht hWm => ⟨hth, rfl, by rw [ht]; exact hW.1, hW.2.1, hW.2.2.F ht⟩) hW.2.2.2.2 hdg
  · intro H locs cells slots pc ls rest ik ic is cls text hok hth hc hs hloc hW hsize hstr hk hini hg d0 d3 dd
    obtain ⟨sa, hstr⟩ := hTh.2.2.1 _ hstr
    have hat : ∀ w ∈ vx_atS RX2 ic cls cy_nm, w.before av.toArray s = true := vx_hat (fun w h => hts w (hg w h)) hok.2.1 (fun w h => va_Nw.use (cy_xw_tab w h) (hTh.2.2.2 w h))
    have hnames : ∀ n ∈ cy_nm, Bundle.fit n = true := by decide +kernel
    have hx : ∀ t : State, s.vm.Alike t.vm → H.size ≤ t.heap.size → (∀ q : Nat, q < H.size → t.heap[q]? = H[q]?) → cy_XX D s.heap.size w0 th w1 cls s t := fun t _ hz hq =>
      ⟨hth, hW.1.kept (fun k q hk => hq q.1 (hW.1 k q hk).lt), hW.2.1, Nat.le_trans hW.2.2.1 hz, fun q h1 h2 => (hq q (Nat.lt_of_lt_of_le h1 hW.2.2.1)).trans (hW.2.2.2.1 q h1 h2)⟩
    rcases dd with ⟨d4, d6, d9⟩ | ⟨d4, d6, d9⟩
    · exact vx_throwS B.exec B.bytes hl0 hown hok.1 hnames (hts _ hk) (hts _ hini) hstr hat hok.2.2 hTh.1 hTh.2.1 hW.2.2 hsize d0 d3 d4 d6 d9 (fun x hx => (htab x hx).elim) hfr hloc hc hs B.notSynchronized hx hW.2.2.2.2 hc hs
    · exact vx_throwSW B.exec B.bytes hl0 hown hok.1 hnames (hts _ hk) (hts _ hini) hstr hat hok.2.2 hTh.1 hTh.2.1 hW.2.2 hsize d0 d3 d4 d6 d9 (fun x hx => (htab x hx).elim) hfr hloc hc hs B.notSynchronized hx hW.2.2.2.2 hc hs
