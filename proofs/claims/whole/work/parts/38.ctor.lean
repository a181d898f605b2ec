/-! constructors: the world behind has cells whose addresses come with it -/
def cy_PostN {α : Type} (D : va_G) (sz : Nat) (w0 : va_W) (w1 : α → va_W) : Array Value → State → Outcome → State → Prop := fun _ st oc t => oc = .returned none ∧ ∃ x : α, va_P D vwCl (w1 x) t.heap ∧ va_D (va_A w0 sz) (w1 x) ∧ va_F (va_A w0 sz) st t
def cy_Kn (U : State) : Prop := va_AO RX1 U ∧ va_Nw (.methodLinkNest RX2 34 yX1_init RX2) U ∧ va_Nw (.methodLinkNest RX2 48 yX0_init RX2) U
theorem cy_Kn.warm {s U : State} (hW : s.WarmedH U.vm) (h : cy_Kn s) : cy_Kn U := ⟨va_AO.moved hW.alike h.1, va_Nw.warmM hW h.2.1, va_Nw.warmM hW h.2.2⟩
def cy_PreO (D : va_G) (tys : List (ClassId × FieldType)) (sz : Nat) (w : va_W) : State → Prop := fun U => cy_Pre D tys sz w U ∧ cy_Kn U
theorem cy_blindO {D : va_G} {tys : List (ClassId × FieldType)} {sz : Nat} {w : va_W} {av : List Value} : FrameBlind (va_Pc av (cy_PreO D tys sz w)) := fun a U g mk q => by
  obtain ⟨q0, ⟨q1, qP, qK, qD⟩, qO⟩ := q
  exact ⟨q0, ⟨q1, qP, va_K.moved (u := U) (U := U.calling g mk a) (Vm.Alike.refl U.vm) qK, qD⟩, ⟨va_AO.moved (u := U) (U := U.calling g mk a) (Vm.Alike.refl U.vm) qO.1, va_Nw.same rfl (u := U) (U := U.calling g mk a) rfl qO.2.1, va_Nw.same rfl (u := U) (U := U.calling g mk a) rfl qO.2.2⟩⟩
def cy_N {α : Type} (l : Launch) (y : MethodName) (ws : List Cond) (rm : Room) (D : va_G) (tys : List (ClassId × FieldType)) (av : List Value) (w0 : va_W) (w1 : α → va_W) : Prop :=
  ∀ sz : Nat, Met l y ws rm (va_Pc av (cy_PreO D tys sz w0)) (cy_PostN D sz w0 w1) rm.cells rm.slots (va_A w0 sz)
theorem cy_ofN {α : Type} {l : Launch} {y : MethodName} {ws ws' : List Cond} {rm : Room} {D : va_G} {tys : List (ClassId × FieldType)} {av : List Value} {w0 : va_W} {w1 : α → va_W} {cc : ByteArray} {maxL : Nat} {own : String} (hy : plainName y.cls = true) (hyn : y.name = "<init>") (hw : ws = Cond.code y cc maxL none :: ws') (ho : y.cls = own) (hm : (lg_sl av).length ≤ maxL)
    (body : ∀ (p : Program) (e : Env) (s : State) (m : MethodId) (args : Array Value) (below : List Frame) (meth : Method) (c : Code) (Q : State → Prop) (A : Nat → Prop) (ls : Array Slot), meth.name = "<init>" → cy_Kn s → cy_C p s m args c cc maxL ws own D tys A → (∀ x : α, cy_E p l e rm s m args below meth c cc D A Q .return_ none (w1 x)) → cy_W D A s.heap w0 s.heap [] → lv_has ls maxL (lv_args 0 av) → W p l e rm s m args below meth c s.heap [] 0 0 Q (F0 m 0 ls [])) : cy_N l y ws rm D tys av w0 w1 := by
  intro sz
  refine Met.ofW (cc := cc) (maxL := maxL) (ret := none) hy hw ?_
  intro p e s m args below meth c s₁ B hml hv
  obtain ⟨rfl, ⟨hsz, hP, hK, hD0⟩, hAO⟩ := hv
  subst hsz
  have hts := atoms_spec (ws := ws) B.pre
  have hown : s.vm.findClass own = some m.cls := by rw [← ho]; exact findClass_of_methodNamed B.named
  have hin : meth.name = "<init>" := ((name_of_methodNamed B.named B.method).1).trans hyn
  have hl := lv_entry av (n := maxL) hm
  rw [lg_entry_eq]
  refine body p e s m _ below meth c _ (va_A w0 s.heap.size) _ hin hAO ⟨⟨B.exec, B.bytes, hml, hown, hts⟩, hK, fun q h => Or.inr h⟩ (fun x => ?_) ⟨hP, hD0.self, va_S.rf⟩ hl
  intro H locs cells slots pc ls hc hs hW hdg
  refine W.widen hc hs ?_
  have hlk : meth.locks = false := B.notSynchronized
  exact W.vret B.exec B.bytes B.returns (fun t ht hWm => ⟨rfl, x, by rw [ht]; exact hW.1, hW.2.1, hW.2.2.F ht⟩) hW.2.2.2.2 hdg hlk
section CYC
variable {p : Program} {l : Launch} {e : Env} {R : Room} {s : State} {m : MethodId} {args : Array Value} {below : List Frame} {meth : Method} {c : Code} {H : Heap} {locs : List Loc} {cells slots : Nat} {Q : State → Prop}
variable {cc : ByteArray} {pc nL : Nat} {ls : Array Slot} {rest : List Value} {D : va_G} {A : Nat → Prop} {a : Nat} {tys : List (ClassId × FieldType)} {Ts : List Cond} {own : String} {w w0 : va_W}
variable {y : MethodName} {ws : List Cond} {rm : Room}
theorem cy_backN {α : Type} {w1 : α → va_W} {mc ms : Nat} {st0 : List Value} {av : Array Value} (hA : ∀ q, s.heap.size ≤ q → A q) (hW : cy_W D A s.heap w0 H locs)
    (hr : va_Run p l e R s m args below meth c H locs cells slots mc ms (F0 m pc ls st0) rest (cy_PostN D H.size w0 w1 av) (va_A w0 H.size))
    (kk : ∀ (x : α) (H1 : Heap) (locs1 : List Loc), cy_W D A s.heap (w1 x) H1 locs1 → W p l e R s m args below meth c H1 locs1 (cells + mc) (slots + ms) Q (F0 m (pc + 3) ls rest)) : W p l e R s m args below meth c H locs cells slots Q (F0 m pc ls st0) := by
  have hF := cy_free hA hW
  obtain ⟨hP, hD, hS⟩ := hW
  intro T hT X
  obtain ⟨v, st₀, t, T', L, h0, X', hL, e1, e2, ⟨hv, x, hP1, hD1, hz, hk⟩, st⟩ := hr T hT X
  have hv : v = none := by cases hv; rfl
  subst hv
  rw [h0] at hz hk
  obtain ⟨t2, a1, b1⟩ := kk x T'.heap (locs ++ L) ⟨by rw [e1]; exact hP1, hD1.weaken (fun _ q _ h => hF q.1 h),
    ⟨Nat.le_trans hS.1 (by rw [e1]; exact hz), fun q h1 h2 => by rw [e1, hk q (Nat.lt_of_lt_of_le h1 hS.1) (fun z => h2 (hF q z))]; exact hS.2.1 q h1 h2, fun q hq => by
      rcases List.mem_append.mp hq with h | h
      · exact hS.2.2 q h
      · exact hF _ (hL q h)⟩⟩ T' rfl X'
  exact ⟨t2, st t2 a1, b1⟩
theorem cy_callI {α : Type} {w1 : α → va_W} (hAO : cy_Kn s) {n index maxL : Nat} {bytes : ByteArray} {b : Addr} {As st0 : List Value} (C : CallFix p m c cc nL s args Ts own) (hK : va_K D vwCl tys s) (hA : ∀ q, s.heap.size ≤ q → A q) (hW : cy_W D A s.heap w0 H locs)
    (hM : cy_N l y ws rm D tys (.ref b :: As) w0 w1) (cw : CallB R s args own index y bytes maxL none ws rm rm.cells rm.slots n ∧ y.name = "<init>" ∧ (Cond.instanceMethod y).before args s = true)
    (hn : As.length = n) (hl : ls.size = nL) (hst : st0 = As.reverse ++ .ref b :: rest) (hroom : (rest.map fun v => v.category).sum ≤ 8) (hdg : decode cc pc = .ok (.invokespecial index, 3)) (hf : cells + rm.cells ≤ R.cells ∧ slots + rm.slots ≤ R.slots) {k' n' : Nat} (hk' : cells + rm.cells = k') (hn' : slots + rm.slots = n')
    (kk : ∀ (x : α) (H1 : Heap) (locs1 : List Loc), cy_W D A s.heap (w1 x) H1 locs1 → W p l e R s m args below meth c H1 locs1 k' n' Q (F0 m (pc + 3) ls rest)) : W p l e R s m args below meth c H locs cells slots Q (F0 m pc ls st0) := by
  subst hk'; subst hn'
  exact cy_backN hA hW (va_runI (As := As) (rest := rest) (g := F0 m pc ls st0) C (hM H.size) cw ⟨cy_blindO, fun U hU hWm => ⟨rfl, ⟨by rw [hU], by rw [hU]; exact hW.1, va_K.moved hWm.alike hK, hW.2.1.weaken (fun _ _ _ _ => trivial)⟩, hAO.warm hWm⟩⟩ rfl hn hl hst (lv_room hroom) hdg hf) kk
theorem cy_callIN {host : String} {α : Type} {w1 : α → va_W} (hAO : cy_Kn s) {n index maxL : Nat} {bytes : ByteArray} {b : Addr} {As st0 : List Value} (C : CallFix p m c cc nL s args Ts own) (hK : va_K D vwCl tys s) (hA : ∀ q, s.heap.size ≤ q → A q) (hW : cy_W D A s.heap w0 H locs)
    (hM : cy_N l y ws rm D tys (.ref b :: As) w0 w1) (cw : va_CN R s args own index y host bytes maxL none ws rm rm.cells rm.slots n ∧ y.name = "<init>" ∧ (Cond.instanceMethod y).before args s = true)
    (hn : As.length = n) (hl : ls.size = nL) (hst : st0 = As.reverse ++ .ref b :: rest) (hroom : (rest.map fun v => v.category).sum ≤ 8) (hdg : decode cc pc = .ok (.invokespecial index, 3)) (hf : cells + rm.cells ≤ R.cells ∧ slots + rm.slots ≤ R.slots) {k' n' : Nat} (hk' : cells + rm.cells = k') (hn' : slots + rm.slots = n')
    (kk : ∀ (x : α) (H1 : Heap) (locs1 : List Loc), cy_W D A s.heap (w1 x) H1 locs1 → W p l e R s m args below meth c H1 locs1 k' n' Q (F0 m (pc + 3) ls rest)) : W p l e R s m args below meth c H locs cells slots Q (F0 m pc ls st0) := by
  subst hk'; subst hn'
  exact cy_backN hA hW (va_runIN (As := As) (rest := rest) (g := F0 m pc ls st0) C (hM H.size) cw ⟨cy_blindO, fun U hU hWm => ⟨rfl, ⟨by rw [hU], by rw [hU]; exact hW.1, va_K.moved hWm.alike hK, hW.2.1.weaken (fun _ _ _ _ => trivial)⟩, hAO.warm hWm⟩⟩ rfl hn hl hst (lv_room hroom) hdg hf) kk
theorem cy_rNewI (hC : cy_C p s m args c cc nL Ts own D tys A) (hW : cy_W D A s.heap w H locs) {kA : ClassId} (ht : tys[0]? = some (kA, .int)) (harr : (Cond.arrayClass .int).before args s = true) {N : Nat} (hN : N ≤ 100000) (hcells : cells + 1 ≤ R.cells) (hslots : slots + N ≤ R.slots) {k' n' : Nat} (hk' : cells + 1 = k') (hn' : slots + N = n') (hdg : decode cc pc = .ok (.newarray .int, 2))
    (kk : ∀ (q : Nat) (H1 : Heap), cy_W D A s.heap ((q, .inl (kA, N, .inl (fun _ => 0))) :: w) H1 locs → W p l e R s m args below meth c H1 locs k' n' Q (F0 m (pc + 2) ls (.ref q :: rest))) : W p l e R s m args below meth c H locs cells slots Q (F0 m pc ls (.int (nI N) :: rest)) := by
  subst hk'; subst hn'
  refine va_newa (atype := .int) (ty := .int) (a0 := (N, .inl (fun _ => 0))) (N' := N) hC.1.1 hC.1.2.1 harr rfl hC.2.1 hW.1 hW.2.1 hW.2.2 hC.2.2 (fun cA => rfl) (nI_pos (by omega)) (nI_clamp (by omega)) (by show N * 4 ≤ 536870912; omega) hcells hslots hdg (fun q cA H1 hK hP hD hS => ?_)
  have e1 := (hC.2.1.2 0 _ ht).2
  have e2 := (hK.2 tys.length (cA, .int) (by rw [List.getElem?_append_right (Nat.le_refl _), Nat.sub_self]; rfl)).2
  have e3 : cA = kA := Option.some.inj (e2.symm.trans e1)
  subst e3
  exact kk q H1 (cy_perm (List.perm_append_comm (l₁ := w) (l₂ := [_])) ⟨hP, hD, hS⟩)
theorem cy_rNewL (hC : cy_C p s m args c cc nL Ts own D tys A) (hW : cy_W D A s.heap w H locs) {kA : ClassId} (ht : tys[1]? = some (kA, .long)) (harr : (Cond.arrayClass .long).before args s = true) {N : Nat} (hN : N ≤ 100000) (hcells : cells + 1 ≤ R.cells) (hslots : slots + N ≤ R.slots) {k' n' : Nat} (hk' : cells + 1 = k') (hn' : slots + N = n') (hdg : decode cc pc = .ok (.newarray .long, 2))
    (kk : ∀ (q : Nat) (H1 : Heap), cy_W D A s.heap ((q, .inl (kA, N, .inr (.inl (fun _ => 0)))) :: w) H1 locs → W p l e R s m args below meth c H1 locs k' n' Q (F0 m (pc + 2) ls (.ref q :: rest))) : W p l e R s m args below meth c H locs cells slots Q (F0 m pc ls (.int (nI N) :: rest)) := by
  subst hk'; subst hn'
  refine va_newa (atype := .long) (ty := .long) (a0 := (N, .inr (.inl (fun _ => 0)))) (N' := N) hC.1.1 hC.1.2.1 harr rfl hC.2.1 hW.1 hW.2.1 hW.2.2 hC.2.2 (fun cA => rfl) (nI_pos (by omega)) (nI_clamp (by omega)) (by show N * 8 ≤ 536870912; omega) hcells hslots hdg (fun q cA H1 hK hP hD hS => ?_)
  have e1 := (hC.2.1.2 1 _ ht).2
  have e2 := (hK.2 tys.length (cA, .long) (by rw [List.getElem?_append_right (Nat.le_refl _), Nat.sub_self]; rfl)).2
  have e3 : cA = kA := Option.some.inj (e2.symm.trans e1)
  subst e3
  exact kk q H1 (cy_perm (List.perm_append_comm (l₁ := w) (l₂ := [_])) ⟨hP, hD, hS⟩)
theorem cy_rNewZ (hC : cy_C p s m args c cc nL Ts own D tys A) (hW : cy_W D A s.heap w H locs) {kA : ClassId} (ht : tys[2]? = some (kA, .boolean)) (harr : (Cond.arrayClass .boolean).before args s = true) {N : Nat} (hN : N ≤ 100000) (hcells : cells + 1 ≤ R.cells) (hslots : slots + N ≤ R.slots) {k' n' : Nat} (hk' : cells + 1 = k') (hn' : slots + N = n') (hdg : decode cc pc = .ok (.newarray .boolean, 2))
    (kk : ∀ (q : Nat) (H1 : Heap), cy_W D A s.heap ((q, .inl (kA, N, .inl (fun _ => 0))) :: w) H1 locs → W p l e R s m args below meth c H1 locs k' n' Q (F0 m (pc + 2) ls (.ref q :: rest))) : W p l e R s m args below meth c H locs cells slots Q (F0 m pc ls (.int (nI N) :: rest)) := by
  subst hk'; subst hn'
  refine va_newa (atype := .boolean) (ty := .boolean) (a0 := (N, .inl (fun _ => 0))) (N' := N) hC.1.1 hC.1.2.1 harr rfl hC.2.1 hW.1 hW.2.1 hW.2.2 hC.2.2 (fun cA => rfl) (nI_pos (by omega)) (nI_clamp (by omega)) (by show N * 1 ≤ 536870912; omega) hcells hslots hdg (fun q cA H1 hK hP hD hS => ?_)
  have e1 := (hC.2.1.2 2 _ ht).2
  have e2 := (hK.2 tys.length (cA, .boolean) (by rw [List.getElem?_append_right (Nat.le_refl _), Nat.sub_self]; rfl)).2
  have e3 : cA = kA := Option.some.inj (e2.symm.trans e1)
  subst e3
  exact kk q H1 (cy_perm (List.perm_append_comm (l₁ := w) (l₂ := [_])) ⟨hP, hD, hS⟩)
theorem cy_rNewQ {CC : String} {index : Nat} (hC : cy_C p s m args c cc nL Ts own D tys A) (hW : cy_W D A s.heap w H locs) {kA : ClassId} (ht : tys[3]? = some (kA, .object CC)) (hclink : (Cond.classLink own index CC).before args s = true) (hover : va_AO CC s) {N : Nat} (hN : N ≤ 100000) (hcells : cells + 1 ≤ R.cells) (hslots : slots + N ≤ R.slots) {k' n' : Nat} (hk' : cells + 1 = k') (hn' : slots + N = n') (hdg : decode cc pc = .ok (.anewarray index, 3))
    (kk : ∀ (q : Nat) (H1 : Heap), cy_W D A s.heap ((q, .inl (kA, N, .inr (.inr (.inr (.inr (fun _ => none)))))) :: w) H1 locs → W p l e R s m args below meth c H1 locs k' n' Q (F0 m (pc + 3) ls (.ref q :: rest))) : W p l e R s m args below meth c H locs cells slots Q (F0 m pc ls (.int (nI N) :: rest)) := by
  subst hk'; subst hn'
  refine va_newq (N' := N) hC.1.1 hC.1.2.1 hC.1.2.2.2.1 hclink hover hC.2.1 hW.1 hW.2.1 hW.2.2 hC.2.2 (nI_pos (by omega)) (nI_clamp (by omega)) (by omega) hcells hslots hdg (fun q cA H1 hK hP hD hS => ?_)
  obtain ⟨-, -, -, -, -, e1⟩ := (hC.2.1.2 3 _ ht).2
  obtain ⟨-, -, -, -, -, e2⟩ := (hK.2 tys.length (cA, .object CC) (by rw [List.getElem?_append_right (Nat.le_refl _), Nat.sub_self]; rfl)).2
  have e3 : cA = kA := Option.some.inj (e2.symm.trans e1)
  subst e3
  exact kk q H1 (cy_perm (List.perm_append_comm (l₁ := w) (l₂ := [_])) ⟨hP, hD, hS⟩)
theorem cy_rNewO {C : String} {T : u_T} {N ci index : Nat} (hC : cy_C p s m args c cc nL Ts own D tys A) (hW : cy_W D A s.heap w H locs) (hin : ∀ w ∈ u_ws C T N, w ∈ Ts) (ty : Nat → FieldType) (hty : ∀ k, k < N → parseFieldDescriptor (T k).2.2.1 = some (ty k)) (hcl : (Cond.classLink own index C).before args s = true) (hinst : (Cond.instantiable C N).before args s = true) (hini : (Cond.initialized C).before args s = true)
    (hc : vwCl[ci]? = some (C, T, N)) {fs : List Value} (hfs : ∀ j, j < N → defaultValue (ty j) = vp_V fs j) (hcells : cells + 1 ≤ R.cells) (hslots : slots + N ≤ R.slots) {k' n' : Nat} (hk' : cells + 1 = k') (hn' : slots + N = n') (hdg : decode cc pc = .ok (.new index, 3))
    (kk : ∀ (q : Nat) (H1 : Heap), cy_W D A s.heap ((q, .inr (ci, fs)) :: w) H1 locs → W p l e R s m args below meth c H1 locs k' n' Q (F0 m (pc + 3) ls (.ref q :: rest))) : W p l e R s m args below meth c H locs cells slots Q (F0 m pc ls rest) := by
  subst hk'; subst hn'
  refine va_new hC.1.1 hC.1.2.1 hC.1.2.2.2.2 hin ty hty hC.1.2.2.2.1 hcl hinst hini hC.2.1 hW.1 hW.2.1 hW.2.2 hC.2.2 hc hfs hcells hslots hdg (fun q H1 hP hD hS => ?_)
  exact kk q H1 (cy_perm (List.perm_append_comm (l₁ := w) (l₂ := [_])) ⟨hP, hD, hS⟩)
theorem cy_rPut {ref C : String} {T : u_T} {N ci index : Nat} {w' : va_W} (hC : cy_C p s m args c cc nL Ts own D tys A) (hin2 : meth.name = "<init>") (hW : cy_W D A s.heap w H locs) (hin : ∀ w ∈ u_ws C T N, w ∈ Ts) (ty0 : Nat → FieldType) (hty : ∀ k, k < N → parseFieldDescriptor (T k).2.2.1 = some (ty0 k)) (hnm : ∀ a, a < N → ∀ b, b < N → a ≠ b → (T a).2.1 ≠ (T b).2.1) (q0 : Nat) {fs : List Value} (he : w[q0]? = some (a, .inr (ci, fs))) (hc : vwCl[ci]? = some (C, T, N)) (k : Nat) (hk : k < N) (hlink : (Cond.fieldLink own index ref (T k).2.1 (T k).2.2.1).before args s = true) (hsame : ∀ x, s.fieldFound? (T k).1 (T k).2.1 (T k).2.2.1 = some x → s.fieldFound? ref (T k).2.1 (T k).2.2.1 = some x) (hdecl : (T k).1 = own) {ty : FieldType} {v : Value} (hd : parseFieldDescriptor (T k).2.2.1 = some ty) (hn : narrow ty v = v) (hfit : fits ty v = true) (hl : k < fs.length) (hset : w.set q0 (a, .inr (ci, fs.set k v)) = w')
    (hdg : decode cc pc = .ok (.putfield index, 3)) (kk : ∀ (H1 : Heap) (locs1 : List Loc), cy_W D A s.heap w' H1 locs1 → W p l e R s m args below meth c H1 locs1 cells slots Q (F0 m (pc + 3) ls rest)) : W p l e R s m args below meth c H locs cells slots Q (F0 m pc ls (v :: .ref a :: rest)) := by
  subst hset
  cases hf : (T k).2.2.2 with
  | true => exact va_putF hC.1.1 hC.1.2.1 hC.1.2.2.2.2 hin ty0 hty hnm hC.1.2.2.2.1 hC.2.1 hW.1 hW.2.1 hW.2.2 q0 he hc k hk hlink hsame hf hin2 hdecl hd hn hfit hl hdg (fun H1 locs1 hP hD hS => kk H1 locs1 ⟨hP, hD, hS⟩)
  | false => exact va_put hC.1.1 hC.1.2.1 hC.1.2.2.2.2 hin ty0 hty hnm hC.1.2.2.2.1 hC.2.1 hW.1 hW.2.1 hW.2.2 q0 he hc k hk hlink hsame hf hd hn hfit hl hdg (fun H1 locs1 hP hD hS => kk H1 locs1 ⟨hP, hD, hS⟩)
end CYC
