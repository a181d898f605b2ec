/-! the law: a wrapper is called; one side of the world comes in front -/
section CYW
variable {p : Program} {l : Launch} {e : Env} {R : Room} {s : State} {m : MethodId} {args : Array Value} {below : List Frame} {meth : Method} {c : Code} {H : Heap} {locs : List Loc} {cells slots : Nat} {Q : State → Prop}
variable {cc : ByteArray} {pc nL : Nat} {ls : Array Slot} {rest : List Value} {D : va_G} {A : Nat → Prop} {a : Nat} {tys : List (ClassId × FieldType)} {Ts : List Cond} {own : String} {w0 w1 : va_W} {rv : Option Value}
variable {y : MethodName} {ws : List Cond} {rm : Room}
theorem cy_callSV {n index maxL : Nat} {bytes : ByteArray} {ret : Option FieldType} {hh : List (Nat × Nat × Nat × Nat)} {As st0 : List Value} (hl0 : l.stackTraces = false) (hTh : cy_Th A s s.heap) (hNx : cy_Nx s) (C : CallFix p m c cc nL s args Ts own) (hK : va_K D vwCl tys s) (hA : ∀ q, s.heap.size ≤ q → A q) (hW : cy_W D A s.heap w0 H locs)
    (hM : cy_V l y ws rm D tys As w0 rv w1) (cw : vx_CSW R s args own index y bytes maxL ret hh ws rm rm.cells rm.slots n)
    (hn : As.length = n) (hl : ls.size = nL) (hst : st0 = As.reverse ++ rest) (hroom : (rest.map fun v => v.category).sum ≤ 8) (hdg : decode cc pc = .ok (.invokestatic index, 3)) (hf : cells + rm.cells ≤ R.cells ∧ slots + rm.slots ≤ R.slots) {k' n' : Nat} (hk' : cells + rm.cells = k') (hn' : slots + rm.slots = n')
    (kk : ∀ (H1 : Heap) (locs1 : List Loc), cy_W D A s.heap w1 H1 locs1 → W p l e R s m args below meth c H1 locs1 k' n' Q (F0 m (pc + 3) ls (rv.toList ++ rest))) : W p l e R s m args below meth c H locs cells slots Q (F0 m pc ls st0) := by
  subst hk'; subst hn'
  have hF := cy_free hA hW
  exact cy_back hA hW (vx_runSW (As := As) (rest := rest) C (hM hl0 H.size) cw ⟨cy_blindV, fun U hU hWm => ⟨rfl, ⟨⟨by rw [hU], by rw [hU]; exact hW.1, va_K.moved hWm.alike hK, hW.2.1.weaken (fun _ _ _ _ => trivial)⟩, by rw [hU]; exact hTh.warm hWm (fun q h1 h2 => hW.2.2.2.1 q h1 h2) hF⟩, cy_Nx.moved hWm.alike hNx⟩⟩ rfl hn hl hst (lv_room hroom) hdg hf) kk
end CYW
theorem cy_swap {D : va_G} {A : Nat → Prop} {H0 H : Heap} {n n' : Nat} {ad ad' : Nat → Nat} {ef ef' : Nat → (Nat → Int32) → va_E} {S S' : Nat → Nat → Int32} {x : Nat × va_E} {tl : va_W} {locs : List Loc} (hW : cy_W D A H0 (cy_w n ad ef S (x :: cy_w n' ad' ef' S' tl)) H locs) : cy_W D A H0 (cy_w n' ad' ef' S' (cy_w n ad ef S (x :: tl))) H locs := by
  refine cy_perm ?_ hW
  unfold cy_w
  exact (List.Perm.append_left _ List.perm_middle.symm).trans (List.perm_append_comm_assoc _ _ _)
theorem cy_swap' {D : va_G} {A : Nat → Prop} {H0 H : Heap} {n n' : Nat} {ad ad' : Nat → Nat} {ef ef' : Nat → (Nat → Int32) → va_E} {S S' : Nat → Nat → Int32} {x : Nat × va_E} {tl : va_W} {locs : List Loc} (hW : cy_W D A H0 (cy_w n' ad' ef' S' (cy_w n ad ef S (x :: tl))) H locs) : cy_W D A H0 (cy_w n ad ef S (x :: cy_w n' ad' ef' S' tl)) H locs := by
  refine cy_perm ?_ hW
  unfold cy_w
  exact (List.perm_append_comm_assoc _ _ _).trans (List.Perm.append_left _ List.perm_middle)
