/-! what the law's start gives -/
set_option maxRecDepth 100000 in
theorem lw_str : ∀ q ∈ cy_strs, Cond.stringRef RX2 q.1 q.2 ∈ tables_1 := List.forall_mem_cons.mpr ⟨List.mem_of_getElem? (i := 294) (by decide +kernel), List.forall_mem_cons.mpr ⟨List.mem_of_getElem? (i := 301) (by decide +kernel), List.forall_mem_cons.mpr ⟨List.mem_of_getElem? (i := 311) (by decide +kernel), List.forall_mem_cons.mpr ⟨List.mem_of_getElem? (i := 330) (by decide +kernel), List.forall_mem_cons.mpr ⟨List.mem_of_getElem? (i := 331) (by decide +kernel), List.forall_mem_cons.mpr ⟨List.mem_of_getElem? (i := 339) (by decide +kernel), List.forall_mem_cons.mpr ⟨List.mem_of_getElem? (i := 341) (by decide +kernel), List.forall_mem_cons.mpr ⟨List.mem_of_getElem? (i := 342) (by decide +kernel), List.forall_mem_cons.mpr ⟨List.mem_of_getElem? (i := 343) (by decide +kernel), List.forall_mem_cons.mpr ⟨List.mem_of_getElem? (i := 355) (by decide +kernel), List.forall_mem_cons.mpr ⟨List.mem_of_getElem? (i := 356) (by decide +kernel), List.forall_mem_cons.mpr ⟨List.mem_of_getElem? (i := 390) (by decide +kernel), List.forall_mem_cons.mpr ⟨List.mem_of_getElem? (i := 391) (by decide +kernel), List.forall_mem_cons.mpr ⟨List.mem_of_getElem? (i := 415) (by decide +kernel), List.forall_mem_cons.mpr ⟨List.mem_of_getElem? (i := 416) (by decide +kernel), List.forall_mem_cons.mpr ⟨List.mem_of_getElem? (i := 417) (by decide +kernel), List.forall_mem_cons.mpr ⟨List.mem_of_getElem? (i := 432) (by decide +kernel), List.forall_mem_cons.mpr ⟨List.mem_of_getElem? (i := 433) (by decide +kernel), List.forall_mem_cons.mpr ⟨List.mem_of_getElem? (i := 434) (by decide +kernel), List.forall_mem_cons.mpr ⟨List.mem_of_getElem? (i := 435) (by decide +kernel), List.forall_mem_cons.mpr ⟨List.mem_of_getElem? (i := 443) (by decide +kernel), List.forall_mem_cons.mpr ⟨List.mem_of_getElem? (i := 461) (by decide +kernel), List.forall_mem_cons.mpr ⟨List.mem_of_getElem? (i := 469) (by decide +kernel), List.forall_mem_cons.mpr ⟨List.mem_of_getElem? (i := 470) (by decide +kernel), List.forall_mem_cons.mpr ⟨List.mem_of_getElem? (i := 471) (by decide +kernel), List.forall_mem_cons.mpr ⟨List.mem_of_getElem? (i := 484) (by decide +kernel), List.forall_mem_cons.mpr ⟨List.mem_of_getElem? (i := 485) (by decide +kernel), List.forall_mem_cons.mpr ⟨List.mem_of_getElem? (i := 486) (by decide +kernel), List.forall_mem_cons.mpr ⟨List.mem_of_getElem? (i := 487) (by decide +kernel), List.forall_mem_cons.mpr ⟨List.mem_of_getElem? (i := 503) (by decide +kernel), List.forall_mem_cons.mpr ⟨List.mem_of_getElem? (i := 511) (by decide +kernel), List.forall_mem_cons.mpr ⟨List.mem_of_getElem? (i := 512) (by decide +kernel), List.forall_mem_cons.mpr ⟨List.mem_of_getElem? (i := 217) (by decide +kernel), List.forall_mem_cons.mpr ⟨List.mem_of_getElem? (i := 564) (by decide +kernel), List.forall_mem_cons.mpr ⟨List.mem_of_getElem? (i := 580) (by decide +kernel), fun _ h => absurd h List.not_mem_nil⟩⟩⟩⟩⟩⟩⟩⟩⟩⟩⟩⟩⟩⟩⟩⟩⟩⟩⟩⟩⟩⟩⟩⟩⟩⟩⟩⟩⟩⟩⟩⟩⟩⟩⟩
set_option maxRecDepth 100000 in
theorem lw_xw : ∀ w ∈ cy_xw, w ∈ tables_1 := List.forall_mem_cons.mpr ⟨List.mem_of_getElem? (i := 180) (by decide +kernel), List.forall_mem_cons.mpr ⟨List.mem_of_getElem? (i := 182) (by decide +kernel), List.forall_mem_cons.mpr ⟨List.mem_of_getElem? (i := 184) (by decide +kernel), List.forall_mem_cons.mpr ⟨List.mem_of_getElem? (i := 287) (by decide +kernel), List.forall_mem_cons.mpr ⟨List.mem_of_getElem? (i := 304) (by decide +kernel), List.forall_mem_cons.mpr ⟨List.mem_of_getElem? (i := 178) (by decide +kernel), fun _ h => absurd h List.not_mem_nil⟩⟩⟩⟩⟩⟩
theorem lw_t {w : Cond} (h : w ∈ tables_1) : w ∈ lw_tbl := List.mem_append_right _ h
theorem lw_arr {args : Array Value} {s : State} {ty : FieldType} (h : (Cond.arrayClass ty).before args s = true) : ∃ cA : ClassId, ArrOfT s cA ty ∧ s.vm.findClass ("[" ++ ty.toString) = some cA := by
  obtain ⟨c, k, comp, h1, h2, h3⟩ := Cond.arrayClass_spec h
  exact ⟨c, fun n z => ⟨fun k h => (by cases h), k, h2, comp, h3⟩, h1⟩
theorem lw_known {args : Array Value} {s : State} (hts0 : ∀ w ∈ lw_tbl, w.before args s = true) : ∃ (D : va_G) (kI kJ kZ kC : ClassId), va_K D vwCl (cy_tys kI kJ kZ kC) s := by
  obtain ⟨c0, i0, k0⟩ := u_known (C := RX0) (T := TX0) (N := 5) (n := 5) hts0 inX0 (hts0 (.instantiable RX0 5) (lw_t (List.mem_of_getElem? (i := 76) (by decide +kernel))))
  obtain ⟨c1, i1, k1⟩ := u_known (C := RX1) (T := TX1) (N := 11) (n := 11) hts0 inX1 (hts0 (.instantiable RX1 11) (lw_t (List.mem_of_getElem? (i := 24) (by decide +kernel))))
  obtain ⟨c2, i2, k2⟩ := u_known (C := RX2) (T := TX2) (N := 17) (n := 17) hts0 inX2 (hts0 (.instantiable RX2 17) (lw_t (List.mem_of_getElem? (i := 15) (by decide +kernel))))
  obtain ⟨c3, i3, k3⟩ := u_known (C := RX3) (T := TX3) (N := 25) (n := 25) hts0 inX3 (hts0 (.instantiable RX3 25) (lw_t (List.mem_of_getElem? (i := 610) (by decide +kernel))))
  obtain ⟨kI, aI, fI⟩ := lw_arr (hts0 (.arrayClass .int) (lw_t (List.mem_of_getElem? (i := 74) (by decide +kernel))))
  obtain ⟨kJ, aJ, fJ⟩ := lw_arr (hts0 (.arrayClass .long) (lw_t (List.mem_of_getElem? (i := 101) (by decide +kernel))))
  obtain ⟨kZ, aZ, fZ⟩ := lw_arr (hts0 (.arrayClass .boolean) (lw_t (List.mem_of_getElem? (i := 692) (by decide +kernel))))
  obtain ⟨comp, kC, kA, h1, -, h3, h4, h5⟩ := Cond.arrayOver_spec (n := RX1) (hts0 (.arrayOver (.object RX1)) (lw_t (List.mem_of_getElem? (i := 23) (by decide +kernel))))
  refine ⟨(fun k => if k = 0 then c0 else if k = 1 then c1 else if k = 2 then c2 else c3, fun k => if k = 0 then i0 else if k = 1 then i1 else if k = 2 then i2 else i3), kI, kJ, kZ, kC, ?_, ?_⟩
  · intro k q hq
    match k, hq with
    | 0, hq => cases hq; exact k0
    | 1, hq => cases hq; exact k1
    | 2, hq => cases hq; exact k2
    | 3, hq => cases hq; exact k3
    | k + 4, hq => simp [vwCl] at hq
  · intro k q hq
    match k, hq with
    | 0, hq => cases hq; exact ⟨aI, fI⟩
    | 1, hq => cases hq; exact ⟨aJ, fJ⟩
    | 2, hq => cases hq; exact ⟨aZ, fZ⟩
    | 3, hq => cases hq; exact ⟨fun n z => ⟨fun k h => (by cases h), kA, h3, comp, h4⟩, kA, comp, h3, h4, h1, h5⟩
    | k + 4, hq => simp at hq
theorem lw_KnF {args : Array Value} {s : State} (hts0 : ∀ w ∈ lw_tbl, w.before args s = true) : cy_Kn s :=
  ⟨va_AO.of (hts0 (.arrayOver (.object RX1)) (lw_t (List.mem_of_getElem? (i := 23) (by decide +kernel)))), va_Nw.of rfl (hts0 (.methodLinkNest RX2 34 yX1_init RX2) (lw_t (List.mem_of_getElem? (i := 25) (by decide +kernel)))), va_Nw.of rfl (hts0 (.methodLinkNest RX2 48 yX0_init RX2) (lw_t (List.mem_of_getElem? (i := 77) (by decide +kernel))))⟩
set_option maxRecDepth 100000 in
theorem lw_NxF {args : Array Value} {s : State} (hgv : (Jvm.Cond.and given_1 narrow_1).before args s = true) : cy_Nx s := by
  have hs := flat_of_before _ hgv
  exact ⟨⟨va_Nc.of (hs (.not (.castable cy_IA cy_IS)) (by decide +kernel)), va_Nc.of (hs (.not (.castable cy_IA cy_IB)) (by decide +kernel))⟩, ⟨va_Nc.of (hs (.not (.castable cy_IS cy_IA)) (by decide +kernel)), va_Nc.of (hs (.not (.castable cy_IS cy_IB)) (by decide +kernel))⟩, va_Nc.of (hs (.not (.castable cy_IB cy_IA)) (by decide +kernel)), va_Nc.of (hs (.not (.castable cy_IB cy_IS)) (by decide +kernel))⟩
set_option maxRecDepth 100000 in
theorem lw_ThF {args : Array Value} {s : State} (hts0 : ∀ w ∈ lw_tbl, w.before args s = true) (hgv : (Jvm.Cond.and given_1 narrow_1).before args s = true) : cy_Th (lw_A s) s s.heap := by
  have hs := flat_of_before _ hgv
  have hA : ∀ a : Nat, a < s.heap.size → ¬ lw_A s a := fun a h => Nat.not_le.mpr h
  obtain ⟨cC, kC, hfc, -⟩ := Cond.instantiable_spec (hts0 (.instantiable RX2 17) (lw_t (List.mem_of_getElem? (i := 15) (by decide +kernel))))
  refine ⟨vx_Zqof (hts0 (.laysStatic "java/lang/Throwable" "UNASSIGNED_STACK" "[Ljava/lang/StackTraceElement;") (lw_t (List.mem_of_getElem? (i := 203) (by decide +kernel)))) (hts0 (.initialized "java/lang/Throwable") (lw_t (List.mem_of_getElem? (i := 5) (by decide +kernel)))) (hs (.isRef (.static "java/lang/Throwable" "UNASSIGNED_STACK" "[Ljava/lang/StackTraceElement;")) (by decide +kernel)) hA, vx_Zqof (hts0 (.laysStatic "java/lang/Throwable" "SUPPRESSED_SENTINEL" "Ljava/util/List;") (lw_t (List.mem_of_getElem? (i := 205) (by decide +kernel)))) (hts0 (.initialized "java/lang/Throwable") (lw_t (List.mem_of_getElem? (i := 5) (by decide +kernel)))) (hs (.isRef (.static "java/lang/Throwable" "SUPPRESSED_SENTINEL" "Ljava/util/List;")) (by decide +kernel)) hA, fun q hq => ?_, fun w hw => va_Nw.of (cy_xw_tab w hw) (hts0 w (lw_t (lw_xw w hw)))⟩
  have hb := hts0 _ (lw_t (lw_str q hq))
  obtain ⟨-, -, -, sa, -, -, -, -, -, hev⟩ := Cond.stringRef_spec hfc hb
  exact ⟨sa, vk_R.of hb hev⟩
theorem lw_fl {l : Launch} (hflags : l.flags = flags0) : l.stackTraces = false := by
  unfold Launch.stackTraces
  rw [hflags]
  decide +kernel
