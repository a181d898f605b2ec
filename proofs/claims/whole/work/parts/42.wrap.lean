/-! a method that may throw, called where what it throws is caught -/
section CYV
variable {p : Program} {l : Launch} {e : Env} {R : Room} {s : State} {m : MethodId} {args : Array Value} {below : List Frame} {meth : Method} {c : Code} {H : Heap} {locs : List Loc} {cells slots : Nat} {Q : State → Prop}
variable {cc : ByteArray} {pc nL : Nat} {ls : Array Slot} {rest : List Value} {D : va_G} {A : Nat → Prop} {a : Nat} {tys : List (ClassId × FieldType)} {Ts : List Cond} {own : String} {w0 w1 : va_W} {rv : Option Value} {th : Option String}
variable {y : MethodName} {ws : List Cond} {rm : Room}
theorem cy_callVC {n index maxL q0 ci N : Nat} {T : u_T} {CC : String} {bytes : ByteArray} {ret : Option FieldType} {b : Addr} {fs As st0 : List Value} (hl0 : l.stackTraces = false) (hTh : cy_Th A s s.heap) (C : CallFix p m c cc nL s args Ts own) (hK : va_K D vwCl tys s) (hA : ∀ q, s.heap.size ≤ q → A q) (hW : cy_W D A s.heap w0 H locs)
    (hM : cy_X l y ws rm D tys (.ref b :: As) w0 th rv w1) (cw : CallW R s args own CC index y bytes maxL ret ws rm rm.cells rm.slots n) (he : w0[q0]? = some (b, .inr (ci, fs))) (hc : vwCl[ci]? = some (CC, T, N))
    (hn : As.length = n) (hl : ls.size = nL) (hst : st0 = As.reverse ++ .ref b :: rest) (hroom : (rest.map fun v => v.category).sum ≤ 8) (hdg : decode cc pc = .ok (.invokevirtual index, 3)) (hf : cells + rm.cells ≤ R.cells ∧ slots + rm.slots ≤ R.slots) {k' n' : Nat} (hk' : cells + rm.cells = k') (hn' : slots + rm.slots = n')
    (kk : th = none → ∀ (H1 : Heap) (locs1 : List Loc), cy_W D A s.heap w1 H1 locs1 → W p l e R s m args below meth c H1 locs1 k' n' Q (F0 m (pc + 3) ls (rv.toList ++ rest)))
    (kx : ∀ (E : String) (ce : Cell) (q : Addr) (H1 : Heap) (locs1 : List Loc), th = some E → cy_W D A s.heap w1 H1 locs1 → H1[q]? = some ce → ce.vm = .none → s.vm.findClass E = some ce.cls → vx_W p l e R s m args below meth c H1 locs1 k' n' Q (F0 m pc ls rest) q) : W p l e R s m args below meth c H locs cells slots Q (F0 m pc ls st0) := by
  subst hk'; subst hn'
  have hF := cy_free hA hW
  have hr : vx_Run p l e R s m args below meth c H locs cells slots rm.cells rm.slots (F0 m pc ls st0) rest (cy_QX D H.size w0 th rv w1 (Value.ref b :: As).toArray) (cy_XX D H.size w0 th w1) (va_A w0 H.size) := vx_runV (As := As) (rest := rest) C (hM hl0 H.size) cw ⟨cy_blindX, va_recv hK hW.1 hc he, fun U hU hWm => ⟨rfl, ⟨by rw [hU], by rw [hU]; exact hW.1, va_K.moved hWm.alike hK, hW.2.1.weaken (fun _ _ _ _ => trivial)⟩, by rw [hU]; exact hTh.warm hWm (fun q h1 h2 => hW.2.2.2.1 q h1 h2) hF⟩⟩ rfl hn hl hst (lv_room hroom) hdg hf
  obtain ⟨hP, hD, hS⟩ := hW
  intro T hT X
  have mk : ∀ {st₀ t T' : State} {L : List Loc}, st₀.heap = H → T'.heap = t.heap → (∀ z ∈ L, va_A w0 H.size z.base) → va_P D vwCl w1 t.heap → va_D (va_A w0 H.size) w1 → va_F (va_A w0 H.size) st₀ t → cy_W D A s.heap w1 T'.heap (locs ++ L) := by
    intro st₀ t T' L h0 e1 hL hP1 hD1 hFr
    obtain ⟨hz, hk⟩ := hFr
    rw [h0] at hz hk
    exact ⟨by rw [e1]; exact hP1, hD1.weaken (fun _ q _ h => hF q.1 h),
      ⟨Nat.le_trans hS.1 (by rw [e1]; exact hz), fun q h1 h2 => by rw [e1, hk q (Nat.lt_of_lt_of_le h1 hS.1) (fun z => h2 (hF q z))]; exact hS.2.1 q h1 h2, fun q hq => by
        rcases List.mem_append.mp hq with h | h
        · exact hS.2.2 q h
        · exact hF _ (hL q h)⟩⟩
  rcases hr T hT X with ⟨v, st₀, t, T', L, h0, X', hL, e1, e2, ⟨hth, hv, hP1, hD1, hFr⟩, st⟩ | ⟨q, st₀, t, T', L, E, ce, h0, X', hL, e1, e2, ⟨hth, hP1, hD1, hFr⟩, hce, hcv, hcl, st⟩
  · have hv : v = rv := by cases hv; rfl
    subst hv
    obtain ⟨t2, a1, b1⟩ := kk hth T'.heap (locs ++ L) (mk h0 e1 hL hP1 hD1 hFr) T' rfl X'
    exact ⟨t2, st t2 a1, b1⟩
  · obtain ⟨t2, a1, b1⟩ := kx E ce q T'.heap (locs ++ L) hth (mk h0 e1 hL hP1 hD1 hFr) (by rw [e1]; exact hce) hcv hcl T' rfl X'
    exact ⟨t2, st.trans a1, b1⟩
end CYV
