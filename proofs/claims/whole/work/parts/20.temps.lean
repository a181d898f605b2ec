/-! cells that a method makes on its way: they stand in front of the other ones -/
theorem cy_nd {A : Nat → Prop} {w : va_W} (h : va_D A w) : (w.map Prod.fst).Nodup := by
  unfold List.Nodup
  rw [List.pairwise_iff_getElem]
  intro i j hi hj hij e
  rw [List.length_map] at hi hj
  rw [List.getElem_map, List.getElem_map] at e
  have := h.1 i j w[i] w[j] (List.getElem?_eq_getElem _) (List.getElem?_eq_getElem _) e
  omega
theorem cy_nd' {A : Nat → Prop} {w : va_W} (h : (w.map Prod.fst).Nodup) (hA : ∀ q ∈ w, A q.1) : va_D A w := by
  refine ⟨fun i j p q hi hj e => ?_, fun k q hk => hA q (List.mem_of_getElem? hk)⟩
  unfold List.Nodup at h
  rw [List.pairwise_iff_getElem] at h
  obtain ⟨li, rfl⟩ := List.getElem?_eq_some_iff.mp hi
  obtain ⟨lj, rfl⟩ := List.getElem?_eq_some_iff.mp hj
  rcases Nat.lt_trichotomy i j with g | g | g
  · refine absurd ?_ (h i j (by rw [List.length_map]; exact li) (by rw [List.length_map]; exact lj) g)
    rw [List.getElem_map, List.getElem_map]
    exact e
  · exact g
  · refine absurd ?_ (h j i (by rw [List.length_map]; exact lj) (by rw [List.length_map]; exact li) g)
    rw [List.getElem_map, List.getElem_map]
    exact e.symm
theorem cy_perm {D : va_G} {A : Nat → Prop} {H0 H : Heap} {w w' : va_W} {locs : List Loc} (hp : w.Perm w') (h : cy_W D A H0 w H locs) : cy_W D A H0 w' H locs := by
  refine ⟨fun k q hk => ?_, cy_nd' ((hp.map Prod.fst).nodup (cy_nd h.2.1)) (fun q hq => ?_), h.2.2⟩
  · obtain ⟨i, hi⟩ := List.getElem?_of_mem (hp.mem_iff.mpr (List.mem_of_getElem? hk))
    exact h.1 i q hi
  · obtain ⟨i, hi⟩ := List.getElem?_of_mem (hp.mem_iff.mpr hq)
    exact h.2.1.2 i q hi
theorem cy_dropW {D : va_G} {A : Nat → Prop} {H0 H : Heap} {w w' : va_W} {locs : List Loc} (hp : List.Sublist w' w) (h : cy_W D A H0 w H locs) : cy_W D A H0 w' H locs := by
  refine ⟨fun k q hk => ?_, cy_nd' ((hp.map Prod.fst).nodup (cy_nd h.2.1)) (fun q hq => ?_), h.2.2⟩
  · obtain ⟨i, hi⟩ := List.getElem?_of_mem (hp.subset (List.mem_of_getElem? hk))
    exact h.1 i q hi
  · obtain ⟨i, hi⟩ := List.getElem?_of_mem (hp.subset hq)
    exact h.2.1.2 i q hi
theorem cy_drop {D : va_G} {A : Nat → Prop} {H0 H : Heap} {n : Nat} {ad : Nat → Nat} {ef : Nat → (Nat → Int32) → va_E} {S : Nat → Nat → Int32} {x : Nat × va_E} {tl : va_W} {locs : List Loc} (h : cy_W D A H0 (cy_w n ad ef S (x :: tl)) H locs) : cy_W D A H0 (cy_w n ad ef S tl) H locs := by
  refine cy_dropW ?_ h
  unfold cy_w
  exact List.Sublist.append (List.Sublist.refl _) (List.sublist_cons_self x tl)
section CYN
variable {p : Program} {l : Launch} {e : Env} {R : Room} {s : State} {m : MethodId} {args : Array Value} {below : List Frame} {meth : Method} {c : Code} {H : Heap} {locs : List Loc} {cells slots : Nat} {Q : State → Prop}
variable {cc : ByteArray} {pc nL : Nat} {ls : Array Slot} {rest : List Value} {D : va_G} {A : Nat → Prop} {tys : List (ClassId × FieldType)} {Ts : List Cond} {own : String}
variable {n : Nat} {ad : Nat → Nat} {ef : Nat → (Nat → Int32) → va_E} {S : Nat → Nat → Int32} {tl : va_W}
theorem cy_newI (hC : cy_C p s m args c cc nL Ts own D tys A) (hW : cy_W D A s.heap (cy_w n ad ef S tl) H locs) {kI : ClassId} (ht : tys[0]? = some (kI, .int)) (harr : (Cond.arrayClass .int).before args s = true) {N : Nat} (hN : N ≤ 1000) (hcells : cells + 1 ≤ R.cells) (hslots : slots + N ≤ R.slots) {k' n' : Nat} (hk' : cells + 1 = k') (hn' : slots + N = n') (hdg : decode cc pc = .ok (.newarray .int, 2))
    (kk : ∀ (q : Nat) (H1 : Heap), cy_W D A s.heap (cy_w n ad ef S ((q, .inl (kI, N, .inl (fun _ => 0))) :: tl)) H1 locs → W p l e R s m args below meth c H1 locs k' n' Q (F0 m (pc + 2) ls (.ref q :: rest))) : W p l e R s m args below meth c H locs cells slots Q (F0 m pc ls (.int (nI N) :: rest)) := by
  subst hk'; subst hn'
  refine va_newa (atype := .int) (ty := .int) (a0 := (N, .inl (fun _ => 0))) (N' := N) hC.1.1 hC.1.2.1 harr rfl hC.2.1 hW.1 hW.2.1 hW.2.2 hC.2.2 (fun cA => rfl) (nI_pos (by omega)) (nI_clamp (by omega)) (by show N * 4 ≤ 536870912; omega) hcells hslots hdg (fun q cA H1 hK hP hD hS => ?_)
  have e1 := (hC.2.1.2 0 _ ht).2
  have e2 := (hK.2 tys.length (cA, .int) (by rw [List.getElem?_append_right (Nat.le_refl _), Nat.sub_self]; rfl)).2
  have e3 : cA = kI := Option.some.inj (e2.symm.trans e1)
  subst e3
  refine kk q H1 (cy_perm ?_ ⟨hP, hD, hS⟩)
  unfold cy_w
  rw [List.append_assoc]
  exact List.Perm.append_left _ (List.perm_append_comm (l₁ := tl) (l₂ := [_]))
end CYN
