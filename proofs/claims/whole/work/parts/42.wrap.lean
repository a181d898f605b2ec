/-! a method that may throw, called where what it throws is caught -/
section CYV
variable {p : Program} {l : Launch} {e : Env} {R : Room} {s : State} {m : MethodId} {args : Array Value} {below : List Frame} {meth : Method} {c : Code} {H : Heap} {locs : List Loc} {cells slots : Nat} {Q : State → Prop}
variable {cc : ByteArray} {pc nL : Nat} {ls : Array Slot} {rest : List Value} {D : va_G} {A : Nat → Prop} {a : Nat} {tys : List (ClassId × FieldType)} {Ts : List Cond} {own : String} {w0 w1 : va_W} {rv : Option Value} {th : Option String}
variable {y : MethodName} {ws : List Cond} {rm : Room}
theorem cy_callVC {n index maxL q0 ci N : Nat} {T : u_T} {CC : String} {bytes : ByteArray} {ret : Option FieldType} {b : Addr} {fs As st0 : List Value} (hl0 : l.stackTraces = false) (hTh : cy_Th A s s.heap) (C : CallFix p m c cc nL s args Ts own) (hK : va_K D vwCl tys s) (hA : ∀ q, s.heap.size ≤ q → A q) (hW : cy_W D A s.heap w0 H locs)
    (hM : cy_X l y ws rm D tys (.ref b :: As) w0 th rv w1) (cw : CallW R s args own CC index y bytes maxL ret ws rm rm.cells rm.slots n) (he : w0[q0]? = some (b, .inr (ci, fs))) (hc : vwCl[ci]? = some (CC, T, N))
    (hn : As.length = n) (hl : ls.size = nL) (hst : st0 = As.reverse ++ .ref b :: rest) (hroom : (rest.map fun v => v.category).sum ≤ 8) (hdg : decode cc pc = .ok (.invokevirtual index, 3)) (hf : cells + rm.cells ≤ R.cells ∧ slots + rm.slots ≤ R.slots) {k' n' : Nat} (hk' : cells + rm.cells = k') (hn' : slots + rm.slots = n')
    (kk : th = none → ∀ (H1 : Heap) (locs1 : List Loc), cy_W D A s.heap w1 H1 locs1 → W p l e R s m args below meth c H1 locs1 k' n' Q (F0 m (pc + 3) ls (rv.toList ++ rest)))
    (kx : ∀ (E : String) (ce : Cell) (q : Addr) (H1 : Heap) (locs1 : List Loc), th = some E → cy_W D A s.heap w1 H1 locs1 → H1[q]? = some ce → ce.vm = .none → s.vm.findClass E = some ce.cls → vx_W p l e R s m args below meth c H1 locs1 k' n' Q (F0 m pc ls rest) q) : W p l e R s m args below meth c H locs cells slots Q (F0 m pc ls st0) := by
  subst hk'; subst hn'
  have hF := cy_free hA hW
  have hr : vx_Run p l e R s m args below meth c H locs cells slots rm.cells rm.slots (F0 m pc ls st0) rest (cy_QX D H.size w0 th rv w1 (Value.ref b :: As).toArray) (cy_XX D H.size w0 th w1) (va_A w0 H.size) := vx_runV (As := As) (rest := rest) C (hM hl0 H.size) cw ⟨cy_blindX, va_recv hK hW.1 hc he, fun U hU hWm => ⟨rfl, ⟨by rw [hU], by rw [hU]; exact hW.1, va_K.moved hWm.alike hK, hW.2.1.weaken (fun _ _ _ _ => trivial)⟩, by rw [hU]; exact hTh.warm hWm (fun q h1 h2 => hW.2.2.2.1 q h1 h2) hF⟩⟩ rfl hn hl hst (lv_room hroom) hdg hf
  obtain ⟨hP, hD, hS⟩ := hW
  intro T hT X
  have mk : ∀ {st₀ t T' : State} {L : List Loc}, st₀.heap = H → T'.heap = t.heap → (∀ z ∈ L, va_A w0 H.size z.base) → va_P D vwCl w1 t.heap → va_D (va_A w0 H.size) w1 → va_F (va_A w0 H.size) st₀ t → cy_W D A s.heap w1 T'.heap (locs ++ L) := by
    intro st₀ t T' L h0 e1 hL hP1 hD1 hFr
    obtain ⟨hz, hk⟩ := hFr
    rw [h0] at hz hk
    exact ⟨by rw [e1]; exact hP1, hD1.weaken (fun _ q _ h => hF q.1 h),
      ⟨Nat.le_trans hS.1 (by rw [e1]; exact hz), fun q h1 h2 => by rw [e1, hk q (Nat.lt_of_lt_of_le h1 hS.1) (fun z => h2 (hF q z))]; exact hS.2.1 q h1 h2, fun q hq => by
        rcases List.mem_append.mp hq with h | h
        · exact hS.2.2 q h
        · exact hF _ (hL q h)⟩⟩
  rcases hr T hT X with ⟨v, st₀, t, T', L, h0, X', hL, e1, e2, ⟨hth, hv, hP1, hD1, hFr⟩, st⟩ | ⟨q, st₀, t, T', L, E, ce, h0, X', hL, e1, e2, ⟨hth, hP1, hD1, hFr⟩, hce, hcv, hcl, st⟩
  · have hv : v = rv := by cases hv; rfl
    subst hv
    obtain ⟨t2, a1, b1⟩ := kk hth T'.heap (locs ++ L) (mk h0 e1 hL hP1 hD1 hFr) T' rfl X'
    exact ⟨t2, st t2 a1, b1⟩
  · obtain ⟨t2, a1, b1⟩ := kx E ce q T'.heap (locs ++ L) hth (mk h0 e1 hL hP1 hD1 hFr) (by rw [e1]; exact hce) hcv hcl T' rfl X'
    exact ⟨t2, st.trans a1, b1⟩
end CYV
def cy_Nx (U : State) : Prop := (va_Nc cy_IA cy_IS U ∧ va_Nc cy_IA cy_IB U) ∧ (va_Nc cy_IS cy_IA U ∧ va_Nc cy_IS cy_IB U) ∧ va_Nc cy_IB cy_IA U ∧ va_Nc cy_IB cy_IS U
theorem cy_Nx.moved {u U : State} (hvm : u.vm.Alike U.vm) (h : cy_Nx u) : cy_Nx U := ⟨⟨h.1.1.moved hvm, h.1.2.moved hvm⟩, ⟨h.2.1.1.moved hvm, h.2.1.2.moved hvm⟩, h.2.2.1.moved hvm, h.2.2.2.moved hvm⟩
def cy_PreV (D : va_G) (tys : List (ClassId × FieldType)) (sz : Nat) (w : va_W) : State → Prop := fun U => cy_PreX D tys sz w U ∧ cy_Nx U
theorem cy_blindV {D : va_G} {tys : List (ClassId × FieldType)} {sz : Nat} {w : va_W} {av : List Value} : FrameBlind (va_Pc av (cy_PreV D tys sz w)) := fun a U g mk q => by
  obtain ⟨q0, qX, qN⟩ := q
  obtain ⟨q1, q2⟩ := cy_blindX a U g mk ⟨q0, qX⟩
  exact ⟨q1, q2, cy_Nx.moved (u := U) (U := U.calling g mk a) (Vm.Alike.refl U.vm) qN⟩
/-- a contract of a wrapper: it catches what the class throws -/
def cy_V (l : Launch) (y : MethodName) (ws : List Cond) (rm : Room) (D : va_G) (tys : List (ClassId × FieldType)) (av : List Value) (w0 : va_W) (rv : Option Value) (w1 : va_W) : Prop :=
  l.stackTraces = false → ∀ sz : Nat, Met l y ws rm (va_Pc av (cy_PreV D tys sz w0)) (cy_Post D sz w0 rv w1) rm.cells rm.slots (va_A w0 sz)
theorem cy_ofV {l : Launch} {y : MethodName} {ws ws' : List Cond} {rm : Room} {D : va_G} {tys : List (ClassId × FieldType)} {av : List Value} {w0 w1 : va_W} {r : Int32} {cc : ByteArray} {maxL : Nat} {hh : List (Nat × Nat × Nat × Nat)} (hy : plainName y.cls = true) (hw : ws = Cond.codeWith y cc maxL (some .int) hh :: ws') (ho : y.cls = RL) (hm : (lg_sl av).length ≤ maxL)
    (body : ∀ (p : Program) (e : Env) (s : State) (m : MethodId) (args : Array Value) (below : List Frame) (meth : Method) (c : Code) (Q : State → Prop) (A : Nat → Prop) (ls : Array Slot), cy_C p s m args c cc maxL ws RL D tys A → cy_Th A s s.heap → cy_Nx s → c.exceptionTable.toList = tableOf hh → cy_E p l e rm s m args below meth c cc D A Q .ireturn (some (.int r)) w1 → cy_W D A s.heap w0 s.heap [] → lv_has ls maxL (lv_args 0 av) → l.stackTraces = false → W p l e rm s m args below meth c s.heap [] 0 0 Q (F0 m 0 ls [])) : cy_V l y ws rm D tys av w0 (some (.int r)) w1 := by
  intro hl0 sz
  have hX : vx_Met l y ws rm (va_Pc av (cy_PreV D tys sz w0)) (cy_Post D sz w0 (some (.int r)) w1) (fun _ _ _ => False) rm.cells rm.slots (va_A w0 sz) := by
    refine vx_ofWH (cc := cc) (maxL := maxL) (ret := some .int) hy hw ?_
    intro p e s m args below meth c s₁ B hml hv
    obtain ⟨rfl, ⟨⟨hsz, hP, hK, hD0⟩, hTh⟩, hNx⟩ := hv
    subst hsz
    have hts := atoms_spec (ws := ws) B.pre
    have htab := vx_table (x := y) B (hts _ (by rw [hw]; exact List.mem_cons_self))
    have hown : s.vm.findClass RL = some m.cls := by rw [← ho]; exact findClass_of_methodNamed B.named
    have hl := lv_entry av (n := maxL) hm
    rw [lg_entry_eq]
    refine body p e s m _ below meth c _ (va_A w0 s.heap.size) _ ⟨⟨B.exec, B.bytes, hml, hown, hts⟩, hK, fun q h => Or.inr h⟩ hTh hNx htab ?_ ⟨hP, hD0.self, va_S.rf⟩ hl hl0
    intro H locs cells slots pc ls hc hs hW hdg
    refine vx_ret ?_
    refine W.widen hc hs ?_
    have hlk : meth.locks = false := B.notSynchronized
    exact W.zret B.exec B.bytes B.returns rfl (fun t ht hWm => ⟨rfl, by rw [ht]; exact hW.1, hW.2.1, hW.2.2.F ht⟩) hW.2.2.2.2 hdg hlk
  refine MetFree.mono hX (fun _ _ h => h) (fun _ _ _ _ _ h => h) (fun a st o t _ h => ?_)
  rcases h with h1 | ⟨q, -, E, ce, L, hx, -⟩
  · exact h1
  · exact hx.elim
section CYT
variable {p : Program} {l : Launch} {e : Env} {R : Room} {s : State} {m : MethodId} {args : Array Value} {below : List Frame} {meth : Method} {c : Code} {H : Heap} {locs : List Loc} {cells slots : Nat} {Q : State → Prop}
variable {cc : ByteArray} {pc nL : Nat} {ls : Array Slot} {rest : List Value} {D : va_G} {A : Nat → Prop} {tys : List (ClassId × FieldType)} {Ts : List Cond} {own : String}
variable {n : Nat} {ad : Nat → Nat} {ef : Nat → (Nat → Int32) → va_E} {S : Nat → Nat → Int32} {tl : va_W}
theorem cy_tlast {tl' : va_W} (hC : cy_C p s m args c cc nL Ts own D tys A) (j a : Nat) (hW : cy_W D A s.heap (cy_w n ad ef S tl) H locs) (t0 : Nat) {cA : ClassId} {N i : Nat} {x : Int64} {f : Nat → Int64} (he : tl[j]? = some (a, .inl (cA, N, .inr (.inl f)))) (ht : tys[t0]? = some (cA, .long)) (hi : i < N) (hN : N < 2 ^ 31) (hset : tl.set j (a, .inl (cA, N, .inr (.inl (vp_updL f i x)))) = tl') (hdg : decode cc pc = .ok (.lastore, 1))
    (kk : ∀ (H1 : Heap) (locs1 : List Loc), cy_W D A s.heap (cy_w n ad ef S tl') H1 locs1 → W p l e R s m args below meth c H1 locs1 cells slots Q (F0 m (pc + 1) ls rest)) : W p l e R s m args below meth c H locs cells slots Q (F0 m pc ls (.long x :: .int (nI i) :: .ref a :: rest)) := by
  refine va_last hC.1.1 hC.1.2.1 hC.2.1 hW.1 hW.2.1 hW.2.2 (n + j) t0 (cy_w_tl he) ht (cy_ix hi hN) hdg (fun H1 locs1 hP hD hS => ?_)
  rw [nI_clamp (Nat.lt_trans hi hN), cy_w_tlset hset] at hP hD
  exact kk H1 locs1 ⟨hP, hD, hS⟩
end CYT
/-- what a wrapper answers, and what it writes -/
def cy_cd (h1 h2 : String) (th : Option String) : Int32 := if th = none then 0 else if th = some h1 then 1 else if th = some h2 then 2 else 3
def cy_ou (th : Option String) (g : Nat → Int64) (v : Int32) : Nat → Int64 := if th = none then vp_updL g 0 v.toInt64 else g
