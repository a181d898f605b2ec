abbrev rm_X3_thrown : Room := { frames := 0, cells := 0, slots := 0, locals := 0 }
set_option maxHeartbeats 4000000 in
set_option maxRecDepth 100000 in
theorem c_X3_thrown {l : Launch} {D : va_G} {kI kJ kZ kC : ClassId} {ad : Nat → Nat} {S : Nat → Nat → Int32} {tl : va_W}  : cy_M l yX3_thrown wsX3_thrown rm_X3_thrown D (cy_tys kI kJ kZ kC) [.ref (ad 0)] (cy_Mw kI kZ ad S tl) (some (.int (S 0 0))) (cy_Mw kI kZ ad S tl) := by
  refine cy_of (own := RX3) (cc := cX3_thrown) (maxL := 1) (ret := (some .int)) (i := .ireturn) (by decide) rfl rfl (Nat.le_of_ble_eq_true rfl) (cy_endI rfl) ?_
  intro p e s m args below meth co Q A ls hC hE hW hl
  have hx := hC.1.1; have hb := hC.1.2.1; have hml := hC.1.2.2.1; have hown := hC.1.2.2.2.1; have hts := hC.1.2.2.2.2
  have hl : lv_has ls 1 [(0, .ref (ad 0))] := hl
  have hi3 : ∀ w ∈ u_ws RX3 TX3 25, w ∈ wsX3_thrown := by decide +kernel
  refine lv_aload_n hx hb dX3_thrown_0 rfl (lv_at hl 0 rfl) ?_
  refine cy_get hC (0) (by decide) hi3 hW (rfl) rfl 0 (by decide) (hts (.fieldLink RX3 67 "CaskYardModel" "thrown" "I") (by decide +kernel)) (fun _ h9 => h9) (v := .int (S 0 0)) rfl dX3_thrown_1 ?_
  exact hE  _ _ _ _ _ _ (Nat.le_of_ble_eq_true rfl) (Nat.le_of_ble_eq_true rfl) hW dX3_thrown_4
abbrev rm_X3_no : Room := { frames := 0, cells := 0, slots := 0, locals := 0 }
set_option maxHeartbeats 4000000 in
set_option maxRecDepth 100000 in
theorem c_X3_no {l : Launch} {D : va_G} {kI kJ kZ kC : ClassId} {ad : Nat → Nat} {S : Nat → Nat → Int32} {tl : va_W} {x : Int32} : cy_M l yX3_no wsX3_no rm_X3_no D (cy_tys kI kJ kZ kC) [.ref (ad 0), .int x] (cy_Mw kI kZ ad S tl) (some (.int 0)) (cy_Mw kI kZ ad (va_up S 0 (upd (S 0) 0 x)) tl) := by
  refine cy_of (own := RX3) (cc := cX3_no) (maxL := 2) (ret := (some .int)) (i := .ireturn) (by decide) rfl rfl (Nat.le_of_ble_eq_true rfl) (cy_endI rfl) ?_
  intro p e s m args below meth co Q A ls hC hE hW hl
  have hx := hC.1.1; have hb := hC.1.2.1; have hml := hC.1.2.2.1; have hown := hC.1.2.2.2.1; have hts := hC.1.2.2.2.2
  have hl : lv_has ls 2 [(0, .ref (ad 0)), (1, .int x)] := hl
  have hi3 : ∀ w ∈ u_ws RX3 TX3 25, w ∈ wsX3_no := by decide +kernel
  refine lv_aload_n hx hb dX3_no_0 rfl (lv_at hl 0 rfl) ?_
  refine lv_iload_n hx hb dX3_no_1 rfl (lv_at hl 1 rfl) ?_
  refine cy_put hC (0) (by decide) hi3 tyX3 tyX3_ok nmX3 hW (rfl) rfl 0 (by decide) (hts (.fieldLink RX3 67 "CaskYardModel" "thrown" "I") (by decide +kernel)) (fun _ h9 => h9) rfl (ty := .int) (by decide +kernel) rfl rfl (Nat.le_of_ble_eq_true rfl) (upd (S 0) 0 x) cy_hM0 (S' := (va_up S 0 (upd (S 0) 0 x))) rfl dX3_no_2 (fun H locs hW => ?_)
  refine lv_iconst (v := 0) hx hb dX3_no_5 (by decide) ?_
  exact hE  _ _ _ _ _ _ (Nat.le_of_ble_eq_true rfl) (Nat.le_of_ble_eq_true rfl) hW dX3_no_6
abbrev rm_X3_isIn : Room := { frames := 0, cells := 0, slots := 0, locals := 0 }
set_option maxHeartbeats 4000000 in
set_option maxRecDepth 100000 in
theorem c_X3_isIn {l : Launch} {D : va_G} {kI kJ kZ kC : ClassId} {ad : Nat → Nat} {S : Nat → Nat → Int32} {tl : va_W} {x y z : Int32} : cy_M l yX3_isIn wsX3_isIn rm_X3_isIn D (cy_tys kI kJ kZ kC) [.int x, .int y, .int z] (cy_Mw kI kZ ad S tl) (some (.int (cq_in x y z))) (cy_Mw kI kZ ad S tl) := by
  refine cy_of (own := RX3) (cc := cX3_isIn) (maxL := 3) (ret := (some .boolean)) (i := .ireturn) (by decide) rfl rfl (Nat.le_of_ble_eq_true rfl) (cy_endI cq_in_b) ?_
  intro p e s m args below meth co Q A ls hC hE hW hl
  have hx := hC.1.1; have hb := hC.1.2.1; have hml := hC.1.2.2.1; have hown := hC.1.2.2.2.1; have hts := hC.1.2.2.2.2
  have hl : lv_has ls 3 [(0, .int x), (1, .int y), (2, .int z)] := hl
  refine lv_iload_n hx hb dX3_isIn_0 rfl (lv_at hl 0 rfl) ?_
  refine lv_iload_n hx hb dX3_isIn_1 rfl (lv_at hl 1 rfl) ?_
  refine lv_icmp_lt (tgt := 14) hx hb dX3_isIn_2 (by decide) (fun c_2 => ?_) (fun c_2 => ?_)
  · skip
    refine lv_iconst (v := 0) hx hb dX3_isIn_14 (by decide) ?_
    refine cy_topv (congrArg Value.int (show 0 = cq_in x y z from by simp only [cq_in, c_2, eq_self, ↓reduceIte, not_true_eq_false, not_false_eq_true])) ?_
    exact hE  _ _ _ _ _ _ (Nat.le_of_ble_eq_true rfl) (Nat.le_of_ble_eq_true rfl) hW dX3_isIn_15
  · skip
    refine lv_iload_n hx hb dX3_isIn_5 rfl (lv_at hl 0 rfl) ?_
    refine lv_iload_n hx hb dX3_isIn_6 rfl (lv_at hl 2 rfl) ?_
    refine lv_icmp_gt (tgt := 14) hx hb dX3_isIn_7 (by decide) (fun c_7 => ?_) (fun c_7 => ?_)
    · skip
      refine lv_iconst (v := 0) hx hb dX3_isIn_14 (by decide) ?_
      refine cy_topv (congrArg Value.int (show 0 = cq_in x y z from by simp only [cq_in, c_2, c_7, eq_self, ↓reduceIte, not_true_eq_false, not_false_eq_true])) ?_
      exact hE  _ _ _ _ _ _ (Nat.le_of_ble_eq_true rfl) (Nat.le_of_ble_eq_true rfl) hW dX3_isIn_15
    · skip
      refine lv_iconst (v := 1) hx hb dX3_isIn_10 (by decide) ?_
      refine lv_goto (tgt := 15) hx hb dX3_isIn_11 (by decide) ?_
      refine cy_topv (congrArg Value.int (show 1 = cq_in x y z from by simp only [cq_in, c_2, c_7, eq_self, ↓reduceIte, not_true_eq_false, not_false_eq_true])) ?_
      exact hE  _ _ _ _ _ _ (Nat.le_of_ble_eq_true rfl) (Nat.le_of_ble_eq_true rfl) hW dX3_isIn_15
abbrev rm_X3_addStave : Room := { frames := 1, cells := 0, slots := 0, locals := 22 }
set_option maxHeartbeats 4000000 in
set_option maxRecDepth 100000 in
theorem c_X3_addStave {l : Launch} {D : va_G} {kI kJ kZ kC : ClassId} {ad : Nat → Nat} {S : Nat → Nat → Int32} {tl : va_W} {x y : Int32} {ns : Nat} (hns : S 0 4 = nI ns) (h60 : ns ≤ 60) : cy_M l yX3_addStave wsX3_addStave rm_X3_addStave D (cy_tys kI kJ kZ kC) [.ref (ad 0), .int x, .int y] (cy_Mw kI kZ ad S tl) (some (.int ((cq_As S x y ns).2))) (cy_Mw kI kZ ad (cq_As S x y ns).1 tl) := by
  refine cy_of (own := RX3) (cc := cX3_addStave) (maxL := 3) (ret := (some .int)) (i := .ireturn) (by decide) rfl rfl (Nat.le_of_ble_eq_true rfl) (cy_endI rfl) ?_
  intro p e s m args below meth co Q A ls hC hE hW hl
  have hx := hC.1.1; have hb := hC.1.2.1; have hml := hC.1.2.2.1; have hown := hC.1.2.2.2.1; have hts := hC.1.2.2.2.2
  have hl : lv_has ls 3 [(0, .ref (ad 0)), (1, .int x), (2, .int y)] := hl
  have hi3 : ∀ w ∈ u_ws RX3 TX3 25, w ∈ wsX3_addStave := by decide +kernel
  refine lv_aload_n hx hb dX3_addStave_0 rfl (lv_at hl 0 rfl) ?_
  refine lv_iconst (v := 0) hx hb dX3_addStave_1 (by decide) ?_
  refine cy_put hC (0) (by decide) hi3 tyX3 tyX3_ok nmX3 hW (rfl) rfl 0 (by decide) (hts (.fieldLink RX3 67 "CaskYardModel" "thrown" "I") (by decide +kernel)) (fun _ h9 => h9) rfl (ty := .int) (by decide +kernel) rfl rfl (Nat.le_of_ble_eq_true rfl) (upd (S 0) 0 0) cy_hM0 (S' := (va_up S 0 (upd (S 0) 0 0))) rfl dX3_addStave_2 (fun H locs hW => ?_)
  refine lv_iload_n hx hb dX3_addStave_5 rfl (lv_at hl 1 rfl) ?_
  refine lv_bipush (v := 20) hx hb dX3_addStave_6 (by decide) ?_
  refine lv_bipush (v := 120) hx hb dX3_addStave_8 (by decide) ?_
  refine cy_callS (As := [.int x, .int 20, .int 120]) (rest := []) hC.1 hC.2.1 hC.2.2 hW (c_X3_isIn (x := x) (y := 20) (z := 120)) (va_cwS 3 hts gX3_addStave_X3_isIn rfl rfl rfl (by decide +kernel) ⟨Nat.le_of_ble_eq_true rfl, Nat.le_of_ble_eq_true rfl⟩) rfl hl.1 rfl (Nat.le_of_ble_eq_true rfl) dX3_addStave_10 ⟨Nat.le_of_ble_eq_true rfl, Nat.le_of_ble_eq_true rfl⟩ (k' := 0) (n' := 0) rfl rfl (fun H locs hW => ?_)
  refine lv_if_eq (tgt := 26) hx hb dX3_addStave_13 (by decide) (fun c_13 => ?_) (fun c_13 => ?_)
  · skip
    refine lv_aload_n hx hb dX3_addStave_26 rfl (lv_at hl 0 rfl) ?_
    refine lv_iconst (v := 1) hx hb dX3_addStave_27 (by decide) ?_
    refine cy_callV (As := [.int 1]) (rest := []) (q0 := 0) (ci := 3) hC.1 hC.2.1 hC.2.2 hW (c_X3_no (x := 1)) (cwV 1 hts gX3_addStave_X3_no rfl rfl rfl (by decide +kernel) ⟨Nat.le_of_ble_eq_true rfl, Nat.le_of_ble_eq_true rfl⟩) (cy_w_at (by decide) (cy_rd (cy_us) rfl)) rfl rfl hl.1 rfl (Nat.le_of_ble_eq_true rfl) dX3_addStave_28 ⟨Nat.le_of_ble_eq_true rfl, Nat.le_of_ble_eq_true rfl⟩ (k' := 0) (n' := 0) rfl rfl (fun H locs hW => ?_)
    rw [show va_up (va_up S 0 (upd (S 0) 0 0)) 0 (upd ((va_up S 0 (upd (S 0) 0 0)) 0) 0 1) = (va_up S 0 (upd (upd (S 0) 0 0) 0 1)) from by rw [cy_us, cy_uu]] at hW
    refine cy_topv (congrArg Value.int (show 0 = (cq_As S x y ns).2 from by simp only [cq_As, cq_th, c_13, eq_self, ↓reduceIte, not_true_eq_false, not_false_eq_true])) ?_
    have hW := cy_castS (show (va_up S 0 (upd (upd (S 0) 0 0) 0 1)) = (cq_As S x y ns).1 from by simp only [cq_As, cq_th, c_13, eq_self, ↓reduceIte, not_true_eq_false, not_false_eq_true]) hW
    exact hE  _ _ _ _ _ _ (Nat.le_of_ble_eq_true rfl) (Nat.le_of_ble_eq_true rfl) hW dX3_addStave_31
  · skip
    refine lv_iload_n hx hb dX3_addStave_16 rfl (lv_at hl 2 rfl) ?_
    refine lv_iconst (v := 0) hx hb dX3_addStave_17 (by decide) ?_
    refine lv_bipush (v := 100) hx hb dX3_addStave_18 (by decide) ?_
    refine cy_callS (As := [.int y, .int 0, .int 100]) (rest := []) hC.1 hC.2.1 hC.2.2 hW (c_X3_isIn (x := y) (y := 0) (z := 100)) (va_cwS 3 hts gX3_addStave_X3_isIn rfl rfl rfl (by decide +kernel) ⟨Nat.le_of_ble_eq_true rfl, Nat.le_of_ble_eq_true rfl⟩) rfl hl.1 rfl (Nat.le_of_ble_eq_true rfl) dX3_addStave_20 ⟨Nat.le_of_ble_eq_true rfl, Nat.le_of_ble_eq_true rfl⟩ (k' := 0) (n' := 0) rfl rfl (fun H locs hW => ?_)
    refine lv_if_ne (tgt := 32) hx hb dX3_addStave_23 (by decide) (fun c_23 => ?_) (fun c_23 => ?_)
    · skip
      refine lv_aload_n hx hb dX3_addStave_32 rfl (lv_at hl 0 rfl) ?_
      refine cy_get hC (0) (by decide) hi3 hW (cy_rd (cy_us) rfl) rfl 4 (by decide) (hts (.fieldLink RX3 78 "CaskYardModel" "staves" "I") (by decide +kernel)) (fun _ h9 => h9) (v := .int ((S 0) 4)) rfl dX3_addStave_33 ?_
      refine cy_top (y := nI ns) hns ?_
      refine lv_bipush (v := 60) hx hb dX3_addStave_36 (by decide) ?_
      refine lv_icmp_ne (tgt := 47) hx hb dX3_addStave_38 (by decide) (fun c_38 => ?_) (fun c_38 => ?_)
      · skip
        have q_38 := cy_ne (a := ns) (b := 60) (by omega) (by omega) c_38
        refine lv_aload_n hx hb dX3_addStave_47 rfl (lv_at hl 0 rfl) ?_
        refine cy_get hC (0) (by decide) hi3 hW (cy_rd (cy_us) rfl) rfl 5 (by decide) (hts (.fieldLink RX3 13 "CaskYardModel" "width" "[I") (by decide +kernel)) (fun _ h9 => h9) (v := .ref (ad 1)) rfl dX3_addStave_48 ?_
        refine lv_aload_n hx hb dX3_addStave_51 rfl (lv_at hl 0 rfl) ?_
        refine cy_get hC (0) (by decide) hi3 hW (cy_rd (cy_us) rfl) rfl 4 (by decide) (hts (.fieldLink RX3 78 "CaskYardModel" "staves" "I") (by decide +kernel)) (fun _ h9 => h9) (v := .int ((S 0) 4)) rfl dX3_addStave_52 ?_
        refine cy_top (y := nI ns) hns ?_
        refine lv_iload_n hx hb dX3_addStave_55 rfl (lv_at hl 1 rfl) ?_
        refine cy_iast hC (1) (by decide) hW 0 (i := ns) (cy_rd (cy_un (by omega)) rfl) rfl (by omega) (by decide) (upd (S 1) ns x) rfl (S' := (va_up (va_up S 0 (upd (S 0) 0 0)) 1 (upd (S 1) ns x))) rfl dX3_addStave_56 (fun H locs hW => ?_)
        refine lv_aload_n hx hb dX3_addStave_57 rfl (lv_at hl 0 rfl) ?_
        refine cy_get hC (0) (by decide) hi3 hW (cy_rd ((cy_un (by omega)).trans cy_us) rfl) rfl 6 (by decide) (hts (.fieldLink RX3 17 "CaskYardModel" "dryness" "[I") (by decide +kernel)) (fun _ h9 => h9) (v := .ref (ad 2)) rfl dX3_addStave_58 ?_
        refine lv_aload_n hx hb dX3_addStave_61 rfl (lv_at hl 0 rfl) ?_
        refine cy_get hC (0) (by decide) hi3 hW (cy_rd ((cy_un (by omega)).trans cy_us) rfl) rfl 4 (by decide) (hts (.fieldLink RX3 78 "CaskYardModel" "staves" "I") (by decide +kernel)) (fun _ h9 => h9) (v := .int ((S 0) 4)) rfl dX3_addStave_62 ?_
        refine cy_top (y := nI ns) hns ?_
        refine lv_iload_n hx hb dX3_addStave_65 rfl (lv_at hl 2 rfl) ?_
        refine cy_iast hC (2) (by decide) hW 0 (i := ns) (cy_rd ((cy_un (by omega)).trans (cy_un (by omega))) rfl) rfl (by omega) (by decide) (upd (S 2) ns y) rfl (S' := (va_up (va_up (va_up S 0 (upd (S 0) 0 0)) 1 (upd (S 1) ns x)) 2 (upd (S 2) ns y))) rfl dX3_addStave_66 (fun H locs hW => ?_)
        refine lv_aload_n hx hb dX3_addStave_67 rfl (lv_at hl 0 rfl) ?_
        refine cy_get hC (0) (by decide) hi3 hW (cy_rd ((cy_un (by omega)).trans ((cy_un (by omega)).trans cy_us)) rfl) rfl 7 (by decide) (hts (.fieldLink RX3 20 "CaskYardModel" "where" "[I") (by decide +kernel)) (fun _ h9 => h9) (v := .ref (ad 3)) rfl dX3_addStave_68 ?_
        refine lv_aload_n hx hb dX3_addStave_71 rfl (lv_at hl 0 rfl) ?_
        refine cy_get hC (0) (by decide) hi3 hW (cy_rd ((cy_un (by omega)).trans ((cy_un (by omega)).trans cy_us)) rfl) rfl 4 (by decide) (hts (.fieldLink RX3 78 "CaskYardModel" "staves" "I") (by decide +kernel)) (fun _ h9 => h9) (v := .int ((S 0) 4)) rfl dX3_addStave_72 ?_
        refine cy_top (y := nI ns) hns ?_
        refine lv_iconst (v := (-1)) hx hb dX3_addStave_75 (by decide) ?_
        refine cy_iast hC (3) (by decide) hW 0 (i := ns) (cy_rd ((cy_un (by omega)).trans ((cy_un (by omega)).trans (cy_un (by omega)))) rfl) rfl (by omega) (by decide) (upd (S 3) ns (-1)) rfl (S' := (va_up (va_up (va_up (va_up S 0 (upd (S 0) 0 0)) 1 (upd (S 1) ns x)) 2 (upd (S 2) ns y)) 3 (upd (S 3) ns (-1)))) rfl dX3_addStave_76 (fun H locs hW => ?_)
        refine lv_aload_n hx hb dX3_addStave_77 rfl (lv_at hl 0 rfl) ?_
        refine lv_dup hx hb dX3_addStave_78 rfl ?_
        refine cy_get hC (0) (by decide) hi3 hW (cy_rd ((cy_un (by omega)).trans ((cy_un (by omega)).trans ((cy_un (by omega)).trans cy_us))) rfl) rfl 4 (by decide) (hts (.fieldLink RX3 78 "CaskYardModel" "staves" "I") (by decide +kernel)) (fun _ h9 => h9) (v := .int ((S 0) 4)) rfl dX3_addStave_79 ?_
        refine cy_top (y := nI ns) hns ?_
        refine lv_iconst (v := 1) hx hb dX3_addStave_82 (by decide) ?_
        refine lv_iadd hx hb dX3_addStave_83 ?_
        refine cy_top (nI_add ns 1) ?_
        refine cy_put hC (0) (by decide) hi3 tyX3 tyX3_ok nmX3 hW (cy_rd ((cy_un (by omega)).trans ((cy_un (by omega)).trans ((cy_un (by omega)).trans cy_us))) rfl) rfl 4 (by decide) (hts (.fieldLink RX3 78 "CaskYardModel" "staves" "I") (by decide +kernel)) (fun _ h9 => h9) rfl (ty := .int) (by decide +kernel) rfl rfl (Nat.le_of_ble_eq_true rfl) (upd (upd (S 0) 0 0) 4 (nI (ns + 1))) cy_hM4 (S' := (va_up (va_up (va_up (va_up S 1 (upd (S 1) ns x)) 2 (upd (S 2) ns y)) 3 (upd (S 3) ns (-1))) 0 (upd (upd (S 0) 0 0) 4 (nI (ns + 1))))) (cy_upd_3 (by omega) (by omega) (by omega)) dX3_addStave_84 (fun H locs hW => ?_)
        refine lv_aload_n hx hb dX3_addStave_87 rfl (lv_at hl 0 rfl) ?_
        refine cy_get hC (0) (by decide) hi3 hW (cy_rd (cy_us) rfl) rfl 4 (by decide) (hts (.fieldLink RX3 78 "CaskYardModel" "staves" "I") (by decide +kernel)) (fun _ h9 => h9) (v := .int (nI (ns + 1))) rfl dX3_addStave_88 ?_
        refine lv_iconst (v := 1) hx hb dX3_addStave_91 (by decide) ?_
        refine lv_isub hx hb dX3_addStave_92 ?_
        refine cy_topv (congrArg Value.int (show (nI (ns + 1)) - 1 = (cq_As S x y ns).2 from by simp only [cq_As, cq_th, c_13, c_23, c_38, eq_self, ↓reduceIte, not_true_eq_false, not_false_eq_true])) ?_
        have hW := cy_castS (show (va_up (va_up (va_up (va_up S 1 (upd (S 1) ns x)) 2 (upd (S 2) ns y)) 3 (upd (S 3) ns (-1))) 0 (upd (upd (S 0) 0 0) 4 (nI (ns + 1)))) = (cq_As S x y ns).1 from by simp only [cq_As, cq_th, c_13, c_23, c_38, eq_self, ↓reduceIte, not_true_eq_false, not_false_eq_true]) hW
        exact hE  _ _ _ _ _ _ (Nat.le_of_ble_eq_true rfl) (Nat.le_of_ble_eq_true rfl) hW dX3_addStave_93
      · skip
        have q_38 := cy_eq (a := ns) (b := 60) (by omega) (by omega) c_38
        refine lv_aload_n hx hb dX3_addStave_41 rfl (lv_at hl 0 rfl) ?_
        refine lv_iconst (v := 2) hx hb dX3_addStave_42 (by decide) ?_
        refine cy_callV (As := [.int 2]) (rest := []) (q0 := 0) (ci := 3) hC.1 hC.2.1 hC.2.2 hW (c_X3_no (x := 2)) (cwV 1 hts gX3_addStave_X3_no rfl rfl rfl (by decide +kernel) ⟨Nat.le_of_ble_eq_true rfl, Nat.le_of_ble_eq_true rfl⟩) (cy_w_at (by decide) (cy_rd (cy_us) rfl)) rfl rfl hl.1 rfl (Nat.le_of_ble_eq_true rfl) dX3_addStave_43 ⟨Nat.le_of_ble_eq_true rfl, Nat.le_of_ble_eq_true rfl⟩ (k' := 0) (n' := 0) rfl rfl (fun H locs hW => ?_)
        rw [show va_up (va_up S 0 (upd (S 0) 0 0)) 0 (upd ((va_up S 0 (upd (S 0) 0 0)) 0) 0 2) = (va_up S 0 (upd (upd (S 0) 0 0) 0 2)) from by rw [cy_us, cy_uu]] at hW
        refine cy_topv (congrArg Value.int (show 0 = (cq_As S x y ns).2 from by simp only [cq_As, cq_th, c_13, c_23, c_38, eq_self, ↓reduceIte, not_true_eq_false, not_false_eq_true])) ?_
        have hW := cy_castS (show (va_up S 0 (upd (upd (S 0) 0 0) 0 2)) = (cq_As S x y ns).1 from by simp only [cq_As, cq_th, c_13, c_23, c_38, eq_self, ↓reduceIte, not_true_eq_false, not_false_eq_true]) hW
        exact hE  _ _ _ _ _ _ (Nat.le_of_ble_eq_true rfl) (Nat.le_of_ble_eq_true rfl) hW dX3_addStave_46
    · skip
      refine lv_aload_n hx hb dX3_addStave_26 rfl (lv_at hl 0 rfl) ?_
      refine lv_iconst (v := 1) hx hb dX3_addStave_27 (by decide) ?_
      refine cy_callV (As := [.int 1]) (rest := []) (q0 := 0) (ci := 3) hC.1 hC.2.1 hC.2.2 hW (c_X3_no (x := 1)) (cwV 1 hts gX3_addStave_X3_no rfl rfl rfl (by decide +kernel) ⟨Nat.le_of_ble_eq_true rfl, Nat.le_of_ble_eq_true rfl⟩) (cy_w_at (by decide) (cy_rd (cy_us) rfl)) rfl rfl hl.1 rfl (Nat.le_of_ble_eq_true rfl) dX3_addStave_28 ⟨Nat.le_of_ble_eq_true rfl, Nat.le_of_ble_eq_true rfl⟩ (k' := 0) (n' := 0) rfl rfl (fun H locs hW => ?_)
      rw [show va_up (va_up S 0 (upd (S 0) 0 0)) 0 (upd ((va_up S 0 (upd (S 0) 0 0)) 0) 0 1) = (va_up S 0 (upd (upd (S 0) 0 0) 0 1)) from by rw [cy_us, cy_uu]] at hW
      refine cy_topv (congrArg Value.int (show 0 = (cq_As S x y ns).2 from by simp only [cq_As, cq_th, c_13, c_23, eq_self, ↓reduceIte, not_true_eq_false, not_false_eq_true])) ?_
      have hW := cy_castS (show (va_up S 0 (upd (upd (S 0) 0 0) 0 1)) = (cq_As S x y ns).1 from by simp only [cq_As, cq_th, c_13, c_23, eq_self, ↓reduceIte, not_true_eq_false, not_false_eq_true]) hW
      exact hE  _ _ _ _ _ _ (Nat.le_of_ble_eq_true rfl) (Nat.le_of_ble_eq_true rfl) hW dX3_addStave_31
abbrev rm_X3_isStave : Room := { frames := 1, cells := 0, slots := 0, locals := 22 }
set_option maxHeartbeats 4000000 in
set_option maxRecDepth 100000 in
theorem c_X3_isStave {l : Launch} {D : va_G} {kI kJ kZ kC : ClassId} {ad : Nat → Nat} {S : Nat → Nat → Int32} {tl : va_W} {x : Int32} {ns : Nat} (hns : S 0 4 = nI ns) (h60 : ns ≤ 60) : cy_M l yX3_isStave wsX3_isStave rm_X3_isStave D (cy_tys kI kJ kZ kC) [.ref (ad 0), .int x] (cy_Mw kI kZ ad S tl) (some (.int (cq_in x 0 (nI ns - 1)))) (cy_Mw kI kZ ad S tl) := by
  refine cy_of (own := RX3) (cc := cX3_isStave) (maxL := 2) (ret := (some .boolean)) (i := .ireturn) (by decide) rfl rfl (Nat.le_of_ble_eq_true rfl) (cy_endI cq_in_b) ?_
  intro p e s m args below meth co Q A ls hC hE hW hl
  have hx := hC.1.1; have hb := hC.1.2.1; have hml := hC.1.2.2.1; have hown := hC.1.2.2.2.1; have hts := hC.1.2.2.2.2
  have hl : lv_has ls 2 [(0, .ref (ad 0)), (1, .int x)] := hl
  have hi3 : ∀ w ∈ u_ws RX3 TX3 25, w ∈ wsX3_isStave := by decide +kernel
  refine lv_iload_n hx hb dX3_isStave_0 rfl (lv_at hl 1 rfl) ?_
  refine lv_iconst (v := 0) hx hb dX3_isStave_1 (by decide) ?_
  refine lv_aload_n hx hb dX3_isStave_2 rfl (lv_at hl 0 rfl) ?_
  refine cy_get hC (0) (by decide) hi3 hW (rfl) rfl 4 (by decide) (hts (.fieldLink RX3 78 "CaskYardModel" "staves" "I") (by decide +kernel)) (fun _ h9 => h9) (v := .int (S 0 4)) rfl dX3_isStave_3 ?_
  refine cy_top (y := nI ns) hns ?_
  refine lv_iconst (v := 1) hx hb dX3_isStave_6 (by decide) ?_
  refine lv_isub hx hb dX3_isStave_7 ?_
  refine cy_callS (As := [.int x, .int 0, .int ((nI ns) - 1)]) (rest := []) hC.1 hC.2.1 hC.2.2 hW (c_X3_isIn (x := x) (y := 0) (z := ((nI ns) - 1))) (va_cwS 3 hts gX3_isStave_X3_isIn rfl rfl rfl (by decide +kernel) ⟨Nat.le_of_ble_eq_true rfl, Nat.le_of_ble_eq_true rfl⟩) rfl hl.1 rfl (Nat.le_of_ble_eq_true rfl) dX3_isStave_8 ⟨Nat.le_of_ble_eq_true rfl, Nat.le_of_ble_eq_true rfl⟩ (k' := 0) (n' := 0) rfl rfl (fun H locs hW => ?_)
  exact hE  _ _ _ _ _ _ (Nat.le_of_ble_eq_true rfl) (Nat.le_of_ble_eq_true rfl) hW dX3_isStave_11
abbrev rm_X3_isSort : Room := { frames := 1, cells := 0, slots := 0, locals := 22 }
set_option maxHeartbeats 4000000 in
set_option maxRecDepth 100000 in
theorem c_X3_isSort {l : Launch} {D : va_G} {kI kJ kZ kC : ClassId} {ad : Nat → Nat} {S : Nat → Nat → Int32} {tl : va_W} {x : Int32} {no : Nat} (hno : S 0 8 = nI no) (h6 : no ≤ 6) : cy_M l yX3_isSort wsX3_isSort rm_X3_isSort D (cy_tys kI kJ kZ kC) [.ref (ad 0), .int x] (cy_Mw kI kZ ad S tl) (some (.int (cq_in x 0 (nI no - 1)))) (cy_Mw kI kZ ad S tl) := by
  refine cy_of (own := RX3) (cc := cX3_isSort) (maxL := 2) (ret := (some .boolean)) (i := .ireturn) (by decide) rfl rfl (Nat.le_of_ble_eq_true rfl) (cy_endI cq_in_b) ?_
  intro p e s m args below meth co Q A ls hC hE hW hl
  have hx := hC.1.1; have hb := hC.1.2.1; have hml := hC.1.2.2.1; have hown := hC.1.2.2.2.1; have hts := hC.1.2.2.2.2
  have hl : lv_has ls 2 [(0, .ref (ad 0)), (1, .int x)] := hl
  have hi3 : ∀ w ∈ u_ws RX3 TX3 25, w ∈ wsX3_isSort := by decide +kernel
  refine lv_iload_n hx hb dX3_isSort_0 rfl (lv_at hl 1 rfl) ?_
  refine lv_iconst (v := 0) hx hb dX3_isSort_1 (by decide) ?_
  refine lv_aload_n hx hb dX3_isSort_2 rfl (lv_at hl 0 rfl) ?_
  refine cy_get hC (0) (by decide) hi3 hW (rfl) rfl 8 (by decide) (hts (.fieldLink RX3 90 "CaskYardModel" "sorts" "I") (by decide +kernel)) (fun _ h9 => h9) (v := .int (S 0 8)) rfl dX3_isSort_3 ?_
  refine cy_top (y := nI no) hno ?_
  refine lv_iconst (v := 1) hx hb dX3_isSort_6 (by decide) ?_
  refine lv_isub hx hb dX3_isSort_7 ?_
  refine cy_callS (As := [.int x, .int 0, .int ((nI no) - 1)]) (rest := []) hC.1 hC.2.1 hC.2.2 hW (c_X3_isIn (x := x) (y := 0) (z := ((nI no) - 1))) (va_cwS 3 hts gX3_isSort_X3_isIn rfl rfl rfl (by decide +kernel) ⟨Nat.le_of_ble_eq_true rfl, Nat.le_of_ble_eq_true rfl⟩) rfl hl.1 rfl (Nat.le_of_ble_eq_true rfl) dX3_isSort_8 ⟨Nat.le_of_ble_eq_true rfl, Nat.le_of_ble_eq_true rfl⟩ (k' := 0) (n' := 0) rfl rfl (fun H locs hW => ?_)
  exact hE  _ _ _ _ _ _ (Nat.le_of_ble_eq_true rfl) (Nat.le_of_ble_eq_true rfl) hW dX3_isSort_11
abbrev rm_X3_isCask : Room := { frames := 1, cells := 0, slots := 0, locals := 22 }
set_option maxHeartbeats 4000000 in
set_option maxRecDepth 100000 in
theorem c_X3_isCask {l : Launch} {D : va_G} {kI kJ kZ kC : ClassId} {ad : Nat → Nat} {S : Nat → Nat → Int32} {tl : va_W} {x : Int32} {nc : Nat} (hnc : S 0 12 = nI nc) (h12 : nc ≤ 12) : cy_M l yX3_isCask wsX3_isCask rm_X3_isCask D (cy_tys kI kJ kZ kC) [.ref (ad 0), .int x] (cy_Mw kI kZ ad S tl) (some (.int (cq_in x 0 (nI nc - 1)))) (cy_Mw kI kZ ad S tl) := by
  refine cy_of (own := RX3) (cc := cX3_isCask) (maxL := 2) (ret := (some .boolean)) (i := .ireturn) (by decide) rfl rfl (Nat.le_of_ble_eq_true rfl) (cy_endI cq_in_b) ?_
  intro p e s m args below meth co Q A ls hC hE hW hl
  have hx := hC.1.1; have hb := hC.1.2.1; have hml := hC.1.2.2.1; have hown := hC.1.2.2.2.1; have hts := hC.1.2.2.2.2
  have hl : lv_has ls 2 [(0, .ref (ad 0)), (1, .int x)] := hl
  have hi3 : ∀ w ∈ u_ws RX3 TX3 25, w ∈ wsX3_isCask := by decide +kernel
  refine lv_iload_n hx hb dX3_isCask_0 rfl (lv_at hl 1 rfl) ?_
  refine lv_iconst (v := 0) hx hb dX3_isCask_1 (by decide) ?_
  refine lv_aload_n hx hb dX3_isCask_2 rfl (lv_at hl 0 rfl) ?_
  refine cy_get hC (0) (by decide) hi3 hW (rfl) rfl 12 (by decide) (hts (.fieldLink RX3 110 "CaskYardModel" "casks" "I") (by decide +kernel)) (fun _ h9 => h9) (v := .int (S 0 12)) rfl dX3_isCask_3 ?_
  refine cy_top (y := nI nc) hnc ?_
  refine lv_iconst (v := 1) hx hb dX3_isCask_6 (by decide) ?_
  refine lv_isub hx hb dX3_isCask_7 ?_
  refine cy_callS (As := [.int x, .int 0, .int ((nI nc) - 1)]) (rest := []) hC.1 hC.2.1 hC.2.2 hW (c_X3_isIn (x := x) (y := 0) (z := ((nI nc) - 1))) (va_cwS 3 hts gX3_isCask_X3_isIn rfl rfl rfl (by decide +kernel) ⟨Nat.le_of_ble_eq_true rfl, Nat.le_of_ble_eq_true rfl⟩) rfl hl.1 rfl (Nat.le_of_ble_eq_true rfl) dX3_isCask_8 ⟨Nat.le_of_ble_eq_true rfl, Nat.le_of_ble_eq_true rfl⟩ (k' := 0) (n' := 0) rfl rfl (fun H locs hW => ?_)
  exact hE  _ _ _ _ _ _ (Nat.le_of_ble_eq_true rfl) (Nat.le_of_ble_eq_true rfl) hW dX3_isCask_11
abbrev rm_X3_staveTold : Room := { frames := 0, cells := 0, slots := 0, locals := 0 }
set_option maxHeartbeats 4000000 in
set_option maxRecDepth 100000 in
theorem c_X3_staveTold {l : Launch} {D : va_G} {kI kJ kZ kC : ClassId} {ad : Nat → Nat} {S : Nat → Nat → Int32} {tl : va_W} {i : Nat} {y : Int32} (hi : i < 60) : cy_M l yX3_staveTold wsX3_staveTold rm_X3_staveTold D (cy_tys kI kJ kZ kC) [.ref (ad 0), .int (nI i), .int y] (cy_Mw kI kZ ad S tl) (some (.int (cq_tl S i y))) (cy_Mw kI kZ ad S tl) := by
  refine cy_of (own := RX3) (cc := cX3_staveTold) (maxL := 3) (ret := (some .int)) (i := .ireturn) (by decide) rfl rfl (Nat.le_of_ble_eq_true rfl) (cy_endI rfl) ?_
  intro p e s m args below meth co Q A ls hC hE hW hl
  have hx := hC.1.1; have hb := hC.1.2.1; have hml := hC.1.2.2.1; have hown := hC.1.2.2.2.1; have hts := hC.1.2.2.2.2
  have hl : lv_has ls 3 [(0, .ref (ad 0)), (1, .int (nI i)), (2, .int y)] := hl
  have hi3 : ∀ w ∈ u_ws RX3 TX3 25, w ∈ wsX3_staveTold := by decide +kernel
  refine lv_iload_n hx hb dX3_staveTold_0 rfl (lv_at hl 2 rfl) ?_
  refine lv_if_ne (tgt := 13) hx hb dX3_staveTold_1 (by decide) (fun c_1 => ?_) (fun c_1 => ?_)
  · skip
    refine lv_iload_n hx hb dX3_staveTold_13 rfl (lv_at hl 2 rfl) ?_
    refine lv_iconst (v := 1) hx hb dX3_staveTold_14 (by decide) ?_
    refine lv_icmp_ne (tgt := 27) hx hb dX3_staveTold_15 (by decide) (fun c_15 => ?_) (fun c_15 => ?_)
    · skip
      refine lv_aload_n hx hb dX3_staveTold_27 rfl (lv_at hl 0 rfl) ?_
      refine cy_get hC (0) (by decide) hi3 hW (rfl) rfl 7 (by decide) (hts (.fieldLink RX3 20 "CaskYardModel" "where" "[I") (by decide +kernel)) (fun _ h9 => h9) (v := .ref (ad 3)) rfl dX3_staveTold_28 ?_
      refine lv_iload_n hx hb dX3_staveTold_31 rfl (lv_at hl 1 rfl) ?_
      refine cy_iald hC (3) (by decide) hW 0 (i := i) (rfl) rfl (by omega) (by decide) dX3_staveTold_32 ?_
      refine cy_topv (congrArg Value.int (show S 3 i = cq_tl S i y from by simp [cq_tl, c_1, c_15])) ?_
      exact hE  _ _ _ _ _ _ (Nat.le_of_ble_eq_true rfl) (Nat.le_of_ble_eq_true rfl) hW dX3_staveTold_33
    · skip
      refine lv_aload_n hx hb dX3_staveTold_18 rfl (lv_at hl 0 rfl) ?_
      refine cy_get hC (0) (by decide) hi3 hW (rfl) rfl 6 (by decide) (hts (.fieldLink RX3 17 "CaskYardModel" "dryness" "[I") (by decide +kernel)) (fun _ h9 => h9) (v := .ref (ad 2)) rfl dX3_staveTold_19 ?_
      refine lv_iload_n hx hb dX3_staveTold_22 rfl (lv_at hl 1 rfl) ?_
      refine cy_iald hC (2) (by decide) hW 0 (i := i) (rfl) rfl (by omega) (by decide) dX3_staveTold_23 ?_
      refine lv_goto (tgt := 33) hx hb dX3_staveTold_24 (by decide) ?_
      refine cy_topv (congrArg Value.int (show S 2 i = cq_tl S i y from by simp [cq_tl, c_1, c_15])) ?_
      exact hE  _ _ _ _ _ _ (Nat.le_of_ble_eq_true rfl) (Nat.le_of_ble_eq_true rfl) hW dX3_staveTold_33
  · skip
    refine lv_aload_n hx hb dX3_staveTold_4 rfl (lv_at hl 0 rfl) ?_
    refine cy_get hC (0) (by decide) hi3 hW (rfl) rfl 5 (by decide) (hts (.fieldLink RX3 13 "CaskYardModel" "width" "[I") (by decide +kernel)) (fun _ h9 => h9) (v := .ref (ad 1)) rfl dX3_staveTold_5 ?_
    refine lv_iload_n hx hb dX3_staveTold_8 rfl (lv_at hl 1 rfl) ?_
    refine cy_iald hC (1) (by decide) hW 0 (i := i) (rfl) rfl (by omega) (by decide) dX3_staveTold_9 ?_
    refine lv_goto (tgt := 33) hx hb dX3_staveTold_10 (by decide) ?_
    refine cy_topv (congrArg Value.int (show S 1 i = cq_tl S i y from by simp [cq_tl, c_1])) ?_
    exact hE  _ _ _ _ _ _ (Nat.le_of_ble_eq_true rfl) (Nat.le_of_ble_eq_true rfl) hW dX3_staveTold_33
abbrev rm_X3_stave : Room := { frames := 2, cells := 0, slots := 0, locals := 43 }
set_option maxHeartbeats 4000000 in
set_option maxRecDepth 100000 in
theorem c_X3_stave {l : Launch} {D : va_G} {kI kJ kZ kC : ClassId} {ad : Nat → Nat} {S : Nat → Nat → Int32} {tl : va_W} {x y : Int32} {ns : Nat} (hns : S 0 4 = nI ns) (h60 : ns ≤ 60) : cy_M l yX3_stave wsX3_stave rm_X3_stave D (cy_tys kI kJ kZ kC) [.ref (ad 0), .int x, .int y] (cy_Mw kI kZ ad S tl) (some (.int ((cq_St S x y ns).2))) (cy_Mw kI kZ ad (cq_St S x y ns).1 tl) := by
  refine cy_of (own := RX3) (cc := cX3_stave) (maxL := 3) (ret := (some .int)) (i := .ireturn) (by decide) rfl rfl (Nat.le_of_ble_eq_true rfl) (cy_endI rfl) ?_
  intro p e s m args below meth co Q A ls hC hE hW hl
  have hx := hC.1.1; have hb := hC.1.2.1; have hml := hC.1.2.2.1; have hown := hC.1.2.2.2.1; have hts := hC.1.2.2.2.2
  have hl : lv_has ls 3 [(0, .ref (ad 0)), (1, .int x), (2, .int y)] := hl
  have hi3 : ∀ w ∈ u_ws RX3 TX3 25, w ∈ wsX3_stave := by decide +kernel
  refine lv_aload_n hx hb dX3_stave_0 rfl (lv_at hl 0 rfl) ?_
  refine lv_iconst (v := 0) hx hb dX3_stave_1 (by decide) ?_
  refine cy_put hC (0) (by decide) hi3 tyX3 tyX3_ok nmX3 hW (rfl) rfl 0 (by decide) (hts (.fieldLink RX3 67 "CaskYardModel" "thrown" "I") (by decide +kernel)) (fun _ h9 => h9) rfl (ty := .int) (by decide +kernel) rfl rfl (Nat.le_of_ble_eq_true rfl) (upd (S 0) 0 0) cy_hM0 (S' := (va_up S 0 (upd (S 0) 0 0))) rfl dX3_stave_2 (fun H locs hW => ?_)
  refine lv_aload_n hx hb dX3_stave_5 rfl (lv_at hl 0 rfl) ?_
  refine lv_iload_n hx hb dX3_stave_6 rfl (lv_at hl 1 rfl) ?_
  refine cy_callV (As := [.int x]) (rest := []) (q0 := 0) (ci := 3) hC.1 hC.2.1 hC.2.2 hW (c_X3_isStave (x := x) (ns := ns) hns (by omega)) (cwV 1 hts gX3_stave_X3_isStave rfl rfl rfl (by decide +kernel) ⟨Nat.le_of_ble_eq_true rfl, Nat.le_of_ble_eq_true rfl⟩) (cy_w_at (by decide) (cy_rd (cy_us) rfl)) rfl rfl hl.1 rfl (Nat.le_of_ble_eq_true rfl) dX3_stave_7 ⟨Nat.le_of_ble_eq_true rfl, Nat.le_of_ble_eq_true rfl⟩ (k' := 0) (n' := 0) rfl rfl (fun H locs hW => ?_)
  refine lv_if_eq (tgt := 31) hx hb dX3_stave_10 (by decide) (fun c_10 => ?_) (fun c_10 => ?_)
  · skip
    refine lv_aload_n hx hb dX3_stave_31 rfl (lv_at hl 0 rfl) ?_
    refine lv_iconst (v := 1) hx hb dX3_stave_32 (by decide) ?_
    refine cy_callV (As := [.int 1]) (rest := []) (q0 := 0) (ci := 3) hC.1 hC.2.1 hC.2.2 hW (c_X3_no (x := 1)) (cwV 1 hts gX3_stave_X3_no rfl rfl rfl (by decide +kernel) ⟨Nat.le_of_ble_eq_true rfl, Nat.le_of_ble_eq_true rfl⟩) (cy_w_at (by decide) (cy_rd (cy_us) rfl)) rfl rfl hl.1 rfl (Nat.le_of_ble_eq_true rfl) dX3_stave_33 ⟨Nat.le_of_ble_eq_true rfl, Nat.le_of_ble_eq_true rfl⟩ (k' := 0) (n' := 0) rfl rfl (fun H locs hW => ?_)
    rw [show va_up (va_up S 0 (upd (S 0) 0 0)) 0 (upd ((va_up S 0 (upd (S 0) 0 0)) 0) 0 1) = (va_up S 0 (upd (upd (S 0) 0 0) 0 1)) from by rw [cy_us, cy_uu]] at hW
    refine cy_topv (congrArg Value.int (show 0 = (cq_St S x y ns).2 from by simp only [cq_St, cq_th, cq_rs, c_10, eq_self, ↓reduceIte, not_true_eq_false, not_false_eq_true])) ?_
    have hW := cy_castS (show (va_up S 0 (upd (upd (S 0) 0 0) 0 1)) = (cq_St S x y ns).1 from by simp only [cq_St, cq_th, cq_rs, c_10, eq_self, ↓reduceIte, not_true_eq_false, not_false_eq_true]) hW
    exact hE  _ _ _ _ _ _ (Nat.le_of_ble_eq_true rfl) (Nat.le_of_ble_eq_true rfl) hW dX3_stave_36
  · skip
    obtain ⟨i, hi, rfl⟩ := cq_in_t (by omega) c_10
    have cli : (nI i).toNatClampNeg = i := nI_clamp (by omega)
    have hl : lv_has ls 3 [(0, .ref (ad 0)), (1, .int (nI i)), (2, .int y)] := hl
    refine lv_iload_n hx hb dX3_stave_13 rfl (lv_at hl 2 rfl) ?_
    refine lv_iconst (v := 0) hx hb dX3_stave_14 (by decide) ?_
    refine lv_iconst (v := 2) hx hb dX3_stave_15 (by decide) ?_
    refine cy_callS (As := [.int y, .int 0, .int 2]) (rest := []) hC.1 hC.2.1 hC.2.2 hW (c_X3_isIn (x := y) (y := 0) (z := 2)) (va_cwS 3 hts gX3_stave_X3_isIn rfl rfl rfl (by decide +kernel) ⟨Nat.le_of_ble_eq_true rfl, Nat.le_of_ble_eq_true rfl⟩) rfl hl.1 rfl (Nat.le_of_ble_eq_true rfl) dX3_stave_16 ⟨Nat.le_of_ble_eq_true rfl, Nat.le_of_ble_eq_true rfl⟩ (k' := 0) (n' := 0) rfl rfl (fun H locs hW => ?_)
    refine lv_if_eq (tgt := 31) hx hb dX3_stave_19 (by decide) (fun c_19 => ?_) (fun c_19 => ?_)
    · skip
      refine lv_aload_n hx hb dX3_stave_31 rfl (lv_at hl 0 rfl) ?_
      refine lv_iconst (v := 1) hx hb dX3_stave_32 (by decide) ?_
      refine cy_callV (As := [.int 1]) (rest := []) (q0 := 0) (ci := 3) hC.1 hC.2.1 hC.2.2 hW (c_X3_no (x := 1)) (cwV 1 hts gX3_stave_X3_no rfl rfl rfl (by decide +kernel) ⟨Nat.le_of_ble_eq_true rfl, Nat.le_of_ble_eq_true rfl⟩) (cy_w_at (by decide) (cy_rd (cy_us) rfl)) rfl rfl hl.1 rfl (Nat.le_of_ble_eq_true rfl) dX3_stave_33 ⟨Nat.le_of_ble_eq_true rfl, Nat.le_of_ble_eq_true rfl⟩ (k' := 0) (n' := 0) rfl rfl (fun H locs hW => ?_)
      rw [show va_up (va_up S 0 (upd (S 0) 0 0)) 0 (upd ((va_up S 0 (upd (S 0) 0 0)) 0) 0 1) = (va_up S 0 (upd (upd (S 0) 0 0) 0 1)) from by rw [cy_us, cy_uu]] at hW
      refine cy_topv (congrArg Value.int (show 0 = (cq_St S (nI i) y ns).2 from by simp only [cq_St, cq_th, cq_rs, c_10, c_19, cli, eq_self, ↓reduceIte, not_true_eq_false, not_false_eq_true])) ?_
      have hW := cy_castS (show (va_up S 0 (upd (upd (S 0) 0 0) 0 1)) = (cq_St S (nI i) y ns).1 from by simp only [cq_St, cq_th, cq_rs, c_10, c_19, cli, eq_self, ↓reduceIte, not_true_eq_false, not_false_eq_true]) hW
      exact hE  _ _ _ _ _ _ (Nat.le_of_ble_eq_true rfl) (Nat.le_of_ble_eq_true rfl) hW dX3_stave_36
    · skip
      refine lv_aload_n hx hb dX3_stave_22 rfl (lv_at hl 0 rfl) ?_
      refine lv_iload_n hx hb dX3_stave_23 rfl (lv_at hl 1 rfl) ?_
      refine lv_iload_n hx hb dX3_stave_24 rfl (lv_at hl 2 rfl) ?_
      refine cy_callV (As := [.int (nI i), .int y]) (rest := []) (q0 := 0) (ci := 3) hC.1 hC.2.1 hC.2.2 hW (c_X3_staveTold (i := i) (y := y) (by omega)) (cwV 2 hts gX3_stave_X3_staveTold rfl rfl rfl (by decide +kernel) ⟨Nat.le_of_ble_eq_true rfl, Nat.le_of_ble_eq_true rfl⟩) (cy_w_at (by decide) (cy_rd (cy_us) rfl)) rfl rfl hl.1 rfl (Nat.le_of_ble_eq_true rfl) dX3_stave_25 ⟨Nat.le_of_ble_eq_true rfl, Nat.le_of_ble_eq_true rfl⟩ (k' := 0) (n' := 0) rfl rfl (fun H locs hW => ?_)
      refine cy_topv (show _ = Value.int (cq_tl S i y) from rfl) ?_
      refine lv_goto (tgt := 36) hx hb dX3_stave_28 (by decide) ?_
      refine cy_topv (congrArg Value.int (show cq_tl S i y = (cq_St S (nI i) y ns).2 from by simp only [cq_St, cq_th, cq_rs, c_10, c_19, cli, eq_self, ↓reduceIte, not_true_eq_false, not_false_eq_true])) ?_
      have hW := cy_castS (show (va_up S 0 (upd (S 0) 0 0)) = (cq_St S (nI i) y ns).1 from by simp only [cq_St, cq_th, cq_rs, c_10, c_19, cli, eq_self, ↓reduceIte, not_true_eq_false, not_false_eq_true]) hW
      exact hE  _ _ _ _ _ _ (Nat.le_of_ble_eq_true rfl) (Nat.le_of_ble_eq_true rfl) hW dX3_stave_36
abbrev rm_X3_addSort : Room := { frames := 1, cells := 0, slots := 0, locals := 22 }
set_option maxHeartbeats 4000000 in
set_option maxRecDepth 100000 in
theorem c_X3_addSort {l : Launch} {D : va_G} {kI kJ kZ kC : ClassId} {ad : Nat → Nat} {S : Nat → Nat → Int32} {tl : va_W} {x y z : Int32} {no : Nat} (hno : S 0 8 = nI no) (h6 : no ≤ 6) : cy_M l yX3_addSort wsX3_addSort rm_X3_addSort D (cy_tys kI kJ kZ kC) [.ref (ad 0), .int x, .int y, .int z] (cy_Mw kI kZ ad S tl) (some (.int ((cq_Ao S x y z no).2))) (cy_Mw kI kZ ad (cq_Ao S x y z no).1 tl) := by
  refine cy_of (own := RX3) (cc := cX3_addSort) (maxL := 4) (ret := (some .int)) (i := .ireturn) (by decide) rfl rfl (Nat.le_of_ble_eq_true rfl) (cy_endI rfl) ?_
  intro p e s m args below meth co Q A ls hC hE hW hl
  have hx := hC.1.1; have hb := hC.1.2.1; have hml := hC.1.2.2.1; have hown := hC.1.2.2.2.1; have hts := hC.1.2.2.2.2
  have hl : lv_has ls 4 [(0, .ref (ad 0)), (1, .int x), (2, .int y), (3, .int z)] := hl
  have hi3 : ∀ w ∈ u_ws RX3 TX3 25, w ∈ wsX3_addSort := by decide +kernel
  refine lv_aload_n hx hb dX3_addSort_0 rfl (lv_at hl 0 rfl) ?_
  refine lv_iconst (v := 0) hx hb dX3_addSort_1 (by decide) ?_
  refine cy_put hC (0) (by decide) hi3 tyX3 tyX3_ok nmX3 hW (rfl) rfl 0 (by decide) (hts (.fieldLink RX3 67 "CaskYardModel" "thrown" "I") (by decide +kernel)) (fun _ h9 => h9) rfl (ty := .int) (by decide +kernel) rfl rfl (Nat.le_of_ble_eq_true rfl) (upd (S 0) 0 0) cy_hM0 (S' := (va_up S 0 (upd (S 0) 0 0))) rfl dX3_addSort_2 (fun H locs hW => ?_)
  refine lv_iload_n hx hb dX3_addSort_5 rfl (lv_at hl 1 rfl) ?_
  refine lv_sipush (v := 300) hx hb dX3_addSort_6 (by decide) ?_
  refine lv_sipush (v := 1500) hx hb dX3_addSort_9 (by decide) ?_
  refine cy_callS (As := [.int x, .int 300, .int 1500]) (rest := []) hC.1 hC.2.1 hC.2.2 hW (c_X3_isIn (x := x) (y := 300) (z := 1500)) (va_cwS 3 hts gX3_addSort_X3_isIn rfl rfl rfl (by decide +kernel) ⟨Nat.le_of_ble_eq_true rfl, Nat.le_of_ble_eq_true rfl⟩) rfl hl.1 rfl (Nat.le_of_ble_eq_true rfl) dX3_addSort_12 ⟨Nat.le_of_ble_eq_true rfl, Nat.le_of_ble_eq_true rfl⟩ (k' := 0) (n' := 0) rfl rfl (fun H locs hW => ?_)
  refine lv_if_eq (tgt := 39) hx hb dX3_addSort_15 (by decide) (fun c_15 => ?_) (fun c_15 => ?_)
  · skip
    refine lv_aload_n hx hb dX3_addSort_39 rfl (lv_at hl 0 rfl) ?_
    refine lv_iconst (v := 1) hx hb dX3_addSort_40 (by decide) ?_
    refine cy_callV (As := [.int 1]) (rest := []) (q0 := 0) (ci := 3) hC.1 hC.2.1 hC.2.2 hW (c_X3_no (x := 1)) (cwV 1 hts gX3_addSort_X3_no rfl rfl rfl (by decide +kernel) ⟨Nat.le_of_ble_eq_true rfl, Nat.le_of_ble_eq_true rfl⟩) (cy_w_at (by decide) (cy_rd (cy_us) rfl)) rfl rfl hl.1 rfl (Nat.le_of_ble_eq_true rfl) dX3_addSort_41 ⟨Nat.le_of_ble_eq_true rfl, Nat.le_of_ble_eq_true rfl⟩ (k' := 0) (n' := 0) rfl rfl (fun H locs hW => ?_)
    rw [show va_up (va_up S 0 (upd (S 0) 0 0)) 0 (upd ((va_up S 0 (upd (S 0) 0 0)) 0) 0 1) = (va_up S 0 (upd (upd (S 0) 0 0) 0 1)) from by rw [cy_us, cy_uu]] at hW
    refine cy_topv (congrArg Value.int (show 0 = (cq_Ao S x y z no).2 from by simp only [cq_Ao, cq_th, c_15, eq_self, ↓reduceIte, not_true_eq_false, not_false_eq_true])) ?_
    have hW := cy_castS (show (va_up S 0 (upd (upd (S 0) 0 0) 0 1)) = (cq_Ao S x y z no).1 from by simp only [cq_Ao, cq_th, c_15, eq_self, ↓reduceIte, not_true_eq_false, not_false_eq_true]) hW
    exact hE  _ _ _ _ _ _ (Nat.le_of_ble_eq_true rfl) (Nat.le_of_ble_eq_true rfl) hW dX3_addSort_44
  · skip
    refine lv_iload_n hx hb dX3_addSort_18 rfl (lv_at hl 2 rfl) ?_
    refine lv_bipush (v := 100) hx hb dX3_addSort_19 (by decide) ?_
    refine lv_ldc (v := 60000) hx hb hown (hts (.constant RX3 89 60000) (by decide +kernel)) dX3_addSort_21 ?_
    refine cy_callS (As := [.int y, .int 100, .int 60000]) (rest := []) hC.1 hC.2.1 hC.2.2 hW (c_X3_isIn (x := y) (y := 100) (z := 60000)) (va_cwS 3 hts gX3_addSort_X3_isIn rfl rfl rfl (by decide +kernel) ⟨Nat.le_of_ble_eq_true rfl, Nat.le_of_ble_eq_true rfl⟩) rfl hl.1 rfl (Nat.le_of_ble_eq_true rfl) dX3_addSort_23 ⟨Nat.le_of_ble_eq_true rfl, Nat.le_of_ble_eq_true rfl⟩ (k' := 0) (n' := 0) rfl rfl (fun H locs hW => ?_)
    refine lv_if_eq (tgt := 39) hx hb dX3_addSort_26 (by decide) (fun c_26 => ?_) (fun c_26 => ?_)
    · skip
      refine lv_aload_n hx hb dX3_addSort_39 rfl (lv_at hl 0 rfl) ?_
      refine lv_iconst (v := 1) hx hb dX3_addSort_40 (by decide) ?_
      refine cy_callV (As := [.int 1]) (rest := []) (q0 := 0) (ci := 3) hC.1 hC.2.1 hC.2.2 hW (c_X3_no (x := 1)) (cwV 1 hts gX3_addSort_X3_no rfl rfl rfl (by decide +kernel) ⟨Nat.le_of_ble_eq_true rfl, Nat.le_of_ble_eq_true rfl⟩) (cy_w_at (by decide) (cy_rd (cy_us) rfl)) rfl rfl hl.1 rfl (Nat.le_of_ble_eq_true rfl) dX3_addSort_41 ⟨Nat.le_of_ble_eq_true rfl, Nat.le_of_ble_eq_true rfl⟩ (k' := 0) (n' := 0) rfl rfl (fun H locs hW => ?_)
      rw [show va_up (va_up S 0 (upd (S 0) 0 0)) 0 (upd ((va_up S 0 (upd (S 0) 0 0)) 0) 0 1) = (va_up S 0 (upd (upd (S 0) 0 0) 0 1)) from by rw [cy_us, cy_uu]] at hW
      refine cy_topv (congrArg Value.int (show 0 = (cq_Ao S x y z no).2 from by simp only [cq_Ao, cq_th, c_15, c_26, eq_self, ↓reduceIte, not_true_eq_false, not_false_eq_true])) ?_
      have hW := cy_castS (show (va_up S 0 (upd (upd (S 0) 0 0) 0 1)) = (cq_Ao S x y z no).1 from by simp only [cq_Ao, cq_th, c_15, c_26, eq_self, ↓reduceIte, not_true_eq_false, not_false_eq_true]) hW
      exact hE  _ _ _ _ _ _ (Nat.le_of_ble_eq_true rfl) (Nat.le_of_ble_eq_true rfl) hW dX3_addSort_44
    · skip
      refine lv_iload_n hx hb dX3_addSort_29 rfl (lv_at hl 3 rfl) ?_
      refine lv_iconst (v := 2) hx hb dX3_addSort_30 (by decide) ?_
      refine lv_bipush (v := 8) hx hb dX3_addSort_31 (by decide) ?_
      refine cy_callS (As := [.int z, .int 2, .int 8]) (rest := []) hC.1 hC.2.1 hC.2.2 hW (c_X3_isIn (x := z) (y := 2) (z := 8)) (va_cwS 3 hts gX3_addSort_X3_isIn rfl rfl rfl (by decide +kernel) ⟨Nat.le_of_ble_eq_true rfl, Nat.le_of_ble_eq_true rfl⟩) rfl hl.1 rfl (Nat.le_of_ble_eq_true rfl) dX3_addSort_33 ⟨Nat.le_of_ble_eq_true rfl, Nat.le_of_ble_eq_true rfl⟩ (k' := 0) (n' := 0) rfl rfl (fun H locs hW => ?_)
      refine lv_if_ne (tgt := 45) hx hb dX3_addSort_36 (by decide) (fun c_36 => ?_) (fun c_36 => ?_)
      · skip
        refine lv_aload_n hx hb dX3_addSort_45 rfl (lv_at hl 0 rfl) ?_
        refine cy_get hC (0) (by decide) hi3 hW (cy_rd (cy_us) rfl) rfl 8 (by decide) (hts (.fieldLink RX3 90 "CaskYardModel" "sorts" "I") (by decide +kernel)) (fun _ h9 => h9) (v := .int ((S 0) 8)) rfl dX3_addSort_46 ?_
        refine cy_top (y := nI no) hno ?_
        refine lv_bipush (v := 6) hx hb dX3_addSort_49 (by decide) ?_
        refine lv_icmp_ne (tgt := 60) hx hb dX3_addSort_51 (by decide) (fun c_51 => ?_) (fun c_51 => ?_)
        · skip
          have q_51 := cy_ne (a := no) (b := 6) (by omega) (by omega) c_51
          refine lv_aload_n hx hb dX3_addSort_60 rfl (lv_at hl 0 rfl) ?_
          refine cy_get hC (0) (by decide) hi3 hW (cy_rd (cy_us) rfl) rfl 9 (by decide) (hts (.fieldLink RX3 23 "CaskYardModel" "girth" "[I") (by decide +kernel)) (fun _ h9 => h9) (v := .ref (ad 4)) rfl dX3_addSort_61 ?_
          refine lv_aload_n hx hb dX3_addSort_64 rfl (lv_at hl 0 rfl) ?_
          refine cy_get hC (0) (by decide) hi3 hW (cy_rd (cy_us) rfl) rfl 8 (by decide) (hts (.fieldLink RX3 90 "CaskYardModel" "sorts" "I") (by decide +kernel)) (fun _ h9 => h9) (v := .int ((S 0) 8)) rfl dX3_addSort_65 ?_
          refine cy_top (y := nI no) hno ?_
          refine lv_iload_n hx hb dX3_addSort_68 rfl (lv_at hl 1 rfl) ?_
          refine cy_iast hC (4) (by decide) hW 0 (i := no) (cy_rd (cy_un (by omega)) rfl) rfl (by omega) (by decide) (upd (S 4) no x) rfl (S' := (va_up (va_up S 0 (upd (S 0) 0 0)) 4 (upd (S 4) no x))) rfl dX3_addSort_69 (fun H locs hW => ?_)
          refine lv_aload_n hx hb dX3_addSort_70 rfl (lv_at hl 0 rfl) ?_
          refine cy_get hC (0) (by decide) hi3 hW (cy_rd ((cy_un (by omega)).trans cy_us) rfl) rfl 10 (by decide) (hts (.fieldLink RX3 26 "CaskYardModel" "room" "[I") (by decide +kernel)) (fun _ h9 => h9) (v := .ref (ad 5)) rfl dX3_addSort_71 ?_
          refine lv_aload_n hx hb dX3_addSort_74 rfl (lv_at hl 0 rfl) ?_
          refine cy_get hC (0) (by decide) hi3 hW (cy_rd ((cy_un (by omega)).trans cy_us) rfl) rfl 8 (by decide) (hts (.fieldLink RX3 90 "CaskYardModel" "sorts" "I") (by decide +kernel)) (fun _ h9 => h9) (v := .int ((S 0) 8)) rfl dX3_addSort_75 ?_
          refine cy_top (y := nI no) hno ?_
          refine lv_iload_n hx hb dX3_addSort_78 rfl (lv_at hl 2 rfl) ?_
          refine cy_iast hC (5) (by decide) hW 0 (i := no) (cy_rd ((cy_un (by omega)).trans (cy_un (by omega))) rfl) rfl (by omega) (by decide) (upd (S 5) no y) rfl (S' := (va_up (va_up (va_up S 0 (upd (S 0) 0 0)) 4 (upd (S 4) no x)) 5 (upd (S 5) no y))) rfl dX3_addSort_79 (fun H locs hW => ?_)
          refine lv_aload_n hx hb dX3_addSort_80 rfl (lv_at hl 0 rfl) ?_
          refine cy_get hC (0) (by decide) hi3 hW (cy_rd ((cy_un (by omega)).trans ((cy_un (by omega)).trans cy_us)) rfl) rfl 11 (by decide) (hts (.fieldLink RX3 29 "CaskYardModel" "hoops" "[I") (by decide +kernel)) (fun _ h9 => h9) (v := .ref (ad 6)) rfl dX3_addSort_81 ?_
          refine lv_aload_n hx hb dX3_addSort_84 rfl (lv_at hl 0 rfl) ?_
          refine cy_get hC (0) (by decide) hi3 hW (cy_rd ((cy_un (by omega)).trans ((cy_un (by omega)).trans cy_us)) rfl) rfl 8 (by decide) (hts (.fieldLink RX3 90 "CaskYardModel" "sorts" "I") (by decide +kernel)) (fun _ h9 => h9) (v := .int ((S 0) 8)) rfl dX3_addSort_85 ?_
          refine cy_top (y := nI no) hno ?_
          refine lv_iload_n hx hb dX3_addSort_88 rfl (lv_at hl 3 rfl) ?_
          refine cy_iast hC (6) (by decide) hW 0 (i := no) (cy_rd ((cy_un (by omega)).trans ((cy_un (by omega)).trans (cy_un (by omega)))) rfl) rfl (by omega) (by decide) (upd (S 6) no z) rfl (S' := (va_up (va_up (va_up (va_up S 0 (upd (S 0) 0 0)) 4 (upd (S 4) no x)) 5 (upd (S 5) no y)) 6 (upd (S 6) no z))) rfl dX3_addSort_89 (fun H locs hW => ?_)
          refine lv_aload_n hx hb dX3_addSort_90 rfl (lv_at hl 0 rfl) ?_
          refine lv_dup hx hb dX3_addSort_91 rfl ?_
          refine cy_get hC (0) (by decide) hi3 hW (cy_rd ((cy_un (by omega)).trans ((cy_un (by omega)).trans ((cy_un (by omega)).trans cy_us))) rfl) rfl 8 (by decide) (hts (.fieldLink RX3 90 "CaskYardModel" "sorts" "I") (by decide +kernel)) (fun _ h9 => h9) (v := .int ((S 0) 8)) rfl dX3_addSort_92 ?_
          refine cy_top (y := nI no) hno ?_
          refine lv_iconst (v := 1) hx hb dX3_addSort_95 (by decide) ?_
          refine lv_iadd hx hb dX3_addSort_96 ?_
          refine cy_top (nI_add no 1) ?_
          refine cy_put hC (0) (by decide) hi3 tyX3 tyX3_ok nmX3 hW (cy_rd ((cy_un (by omega)).trans ((cy_un (by omega)).trans ((cy_un (by omega)).trans cy_us))) rfl) rfl 8 (by decide) (hts (.fieldLink RX3 90 "CaskYardModel" "sorts" "I") (by decide +kernel)) (fun _ h9 => h9) rfl (ty := .int) (by decide +kernel) rfl rfl (Nat.le_of_ble_eq_true rfl) (upd (upd (S 0) 0 0) 8 (nI (no + 1))) cy_hM8 (S' := (va_up (va_up (va_up (va_up S 4 (upd (S 4) no x)) 5 (upd (S 5) no y)) 6 (upd (S 6) no z)) 0 (upd (upd (S 0) 0 0) 8 (nI (no + 1))))) (cy_upd_3 (by omega) (by omega) (by omega)) dX3_addSort_97 (fun H locs hW => ?_)
          refine lv_aload_n hx hb dX3_addSort_100 rfl (lv_at hl 0 rfl) ?_
          refine cy_get hC (0) (by decide) hi3 hW (cy_rd (cy_us) rfl) rfl 8 (by decide) (hts (.fieldLink RX3 90 "CaskYardModel" "sorts" "I") (by decide +kernel)) (fun _ h9 => h9) (v := .int (nI (no + 1))) rfl dX3_addSort_101 ?_
          refine lv_iconst (v := 1) hx hb dX3_addSort_104 (by decide) ?_
          refine lv_isub hx hb dX3_addSort_105 ?_
          refine cy_topv (congrArg Value.int (show (nI (no + 1)) - 1 = (cq_Ao S x y z no).2 from by simp only [cq_Ao, cq_th, c_15, c_26, c_36, c_51, eq_self, ↓reduceIte, not_true_eq_false, not_false_eq_true])) ?_
          have hW := cy_castS (show (va_up (va_up (va_up (va_up S 4 (upd (S 4) no x)) 5 (upd (S 5) no y)) 6 (upd (S 6) no z)) 0 (upd (upd (S 0) 0 0) 8 (nI (no + 1)))) = (cq_Ao S x y z no).1 from by simp only [cq_Ao, cq_th, c_15, c_26, c_36, c_51, eq_self, ↓reduceIte, not_true_eq_false, not_false_eq_true]) hW
          exact hE  _ _ _ _ _ _ (Nat.le_of_ble_eq_true rfl) (Nat.le_of_ble_eq_true rfl) hW dX3_addSort_106
        · skip
          have q_51 := cy_eq (a := no) (b := 6) (by omega) (by omega) c_51
          refine lv_aload_n hx hb dX3_addSort_54 rfl (lv_at hl 0 rfl) ?_
          refine lv_iconst (v := 2) hx hb dX3_addSort_55 (by decide) ?_
          refine cy_callV (As := [.int 2]) (rest := []) (q0 := 0) (ci := 3) hC.1 hC.2.1 hC.2.2 hW (c_X3_no (x := 2)) (cwV 1 hts gX3_addSort_X3_no rfl rfl rfl (by decide +kernel) ⟨Nat.le_of_ble_eq_true rfl, Nat.le_of_ble_eq_true rfl⟩) (cy_w_at (by decide) (cy_rd (cy_us) rfl)) rfl rfl hl.1 rfl (Nat.le_of_ble_eq_true rfl) dX3_addSort_56 ⟨Nat.le_of_ble_eq_true rfl, Nat.le_of_ble_eq_true rfl⟩ (k' := 0) (n' := 0) rfl rfl (fun H locs hW => ?_)
          rw [show va_up (va_up S 0 (upd (S 0) 0 0)) 0 (upd ((va_up S 0 (upd (S 0) 0 0)) 0) 0 2) = (va_up S 0 (upd (upd (S 0) 0 0) 0 2)) from by rw [cy_us, cy_uu]] at hW
          refine cy_topv (congrArg Value.int (show 0 = (cq_Ao S x y z no).2 from by simp only [cq_Ao, cq_th, c_15, c_26, c_36, c_51, eq_self, ↓reduceIte, not_true_eq_false, not_false_eq_true])) ?_
          have hW := cy_castS (show (va_up S 0 (upd (upd (S 0) 0 0) 0 2)) = (cq_Ao S x y z no).1 from by simp only [cq_Ao, cq_th, c_15, c_26, c_36, c_51, eq_self, ↓reduceIte, not_true_eq_false, not_false_eq_true]) hW
          exact hE  _ _ _ _ _ _ (Nat.le_of_ble_eq_true rfl) (Nat.le_of_ble_eq_true rfl) hW dX3_addSort_59
      · skip
        refine lv_aload_n hx hb dX3_addSort_39 rfl (lv_at hl 0 rfl) ?_
        refine lv_iconst (v := 1) hx hb dX3_addSort_40 (by decide) ?_
        refine cy_callV (As := [.int 1]) (rest := []) (q0 := 0) (ci := 3) hC.1 hC.2.1 hC.2.2 hW (c_X3_no (x := 1)) (cwV 1 hts gX3_addSort_X3_no rfl rfl rfl (by decide +kernel) ⟨Nat.le_of_ble_eq_true rfl, Nat.le_of_ble_eq_true rfl⟩) (cy_w_at (by decide) (cy_rd (cy_us) rfl)) rfl rfl hl.1 rfl (Nat.le_of_ble_eq_true rfl) dX3_addSort_41 ⟨Nat.le_of_ble_eq_true rfl, Nat.le_of_ble_eq_true rfl⟩ (k' := 0) (n' := 0) rfl rfl (fun H locs hW => ?_)
        rw [show va_up (va_up S 0 (upd (S 0) 0 0)) 0 (upd ((va_up S 0 (upd (S 0) 0 0)) 0) 0 1) = (va_up S 0 (upd (upd (S 0) 0 0) 0 1)) from by rw [cy_us, cy_uu]] at hW
        refine cy_topv (congrArg Value.int (show 0 = (cq_Ao S x y z no).2 from by simp only [cq_Ao, cq_th, c_15, c_26, c_36, eq_self, ↓reduceIte, not_true_eq_false, not_false_eq_true])) ?_
        have hW := cy_castS (show (va_up S 0 (upd (upd (S 0) 0 0) 0 1)) = (cq_Ao S x y z no).1 from by simp only [cq_Ao, cq_th, c_15, c_26, c_36, eq_self, ↓reduceIte, not_true_eq_false, not_false_eq_true]) hW
        exact hE  _ _ _ _ _ _ (Nat.le_of_ble_eq_true rfl) (Nat.le_of_ble_eq_true rfl) hW dX3_addSort_44
abbrev rm_X3_isReady : Room := { frames := 0, cells := 0, slots := 0, locals := 0 }
set_option maxHeartbeats 4000000 in
set_option maxRecDepth 100000 in
theorem c_X3_isReady {l : Launch} {D : va_G} {kI kJ kZ kC : ClassId} {ad : Nat → Nat} {S : Nat → Nat → Int32} {tl : va_W} {i : Nat} (hi : i < 60) : cy_M l yX3_isReady wsX3_isReady rm_X3_isReady D (cy_tys kI kJ kZ kC) [.ref (ad 0), .int (nI i)] (cy_Mw kI kZ ad S tl) (some (.int (cy_rUs S i))) (cy_Mw kI kZ ad S tl) := by
  refine cy_of (own := RX3) (cc := cX3_isReady) (maxL := 2) (ret := (some .boolean)) (i := .ireturn) (by decide) rfl rfl (Nat.le_of_ble_eq_true rfl) (cy_endI cy_rUs_b) ?_
  intro p e s m args below meth co Q A ls hC hE hW hl
  have hx := hC.1.1; have hb := hC.1.2.1; have hml := hC.1.2.2.1; have hown := hC.1.2.2.2.1; have hts := hC.1.2.2.2.2
  have hl : lv_has ls 2 [(0, .ref (ad 0)), (1, .int (nI i))] := hl
  have hi3 : ∀ w ∈ u_ws RX3 TX3 25, w ∈ wsX3_isReady := by decide +kernel
  refine lv_aload_n hx hb dX3_isReady_0 rfl (lv_at hl 0 rfl) ?_
  refine cy_get hC (0) (by decide) hi3 hW (rfl) rfl 7 (by decide) (hts (.fieldLink RX3 20 "CaskYardModel" "where" "[I") (by decide +kernel)) (fun _ h9 => h9) (v := .ref (ad 3)) rfl dX3_isReady_1 ?_
  refine lv_iload_n hx hb dX3_isReady_4 rfl (lv_at hl 1 rfl) ?_
  refine cy_iald hC (3) (by decide) hW 0 (i := i) (rfl) rfl (by omega) (by decide) dX3_isReady_5 ?_
  refine lv_iconst (v := (-1)) hx hb dX3_isReady_6 (by decide) ?_
  refine lv_icmp_ne (tgt := 25) hx hb dX3_isReady_7 (by decide) (fun c_7 => ?_) (fun c_7 => ?_)
  · skip
    refine lv_iconst (v := 0) hx hb dX3_isReady_25 (by decide) ?_
    refine cy_topv (congrArg Value.int (show 0 = cy_rUs S i from by simp only [cy_rUs, c_7, eq_self, ↓reduceIte, not_true_eq_false, not_false_eq_true])) ?_
    exact hE  _ _ _ _ _ _ (Nat.le_of_ble_eq_true rfl) (Nat.le_of_ble_eq_true rfl) hW dX3_isReady_26
  · skip
    refine lv_aload_n hx hb dX3_isReady_10 rfl (lv_at hl 0 rfl) ?_
    refine cy_get hC (0) (by decide) hi3 hW (rfl) rfl 6 (by decide) (hts (.fieldLink RX3 17 "CaskYardModel" "dryness" "[I") (by decide +kernel)) (fun _ h9 => h9) (v := .ref (ad 2)) rfl dX3_isReady_11 ?_
    refine lv_iload_n hx hb dX3_isReady_14 rfl (lv_at hl 1 rfl) ?_
    refine cy_iald hC (2) (by decide) hW 0 (i := i) (rfl) rfl (by omega) (by decide) dX3_isReady_15 ?_
    refine lv_bipush (v := 60) hx hb dX3_isReady_16 (by decide) ?_
    refine lv_icmp_lt (tgt := 25) hx hb dX3_isReady_18 (by decide) (fun c_18 => ?_) (fun c_18 => ?_)
    · skip
      refine lv_iconst (v := 0) hx hb dX3_isReady_25 (by decide) ?_
      refine cy_topv (congrArg Value.int (show 0 = cy_rUs S i from by simp only [cy_rUs, c_7, c_18, eq_self, ↓reduceIte, not_true_eq_false, not_false_eq_true])) ?_
      exact hE  _ _ _ _ _ _ (Nat.le_of_ble_eq_true rfl) (Nat.le_of_ble_eq_true rfl) hW dX3_isReady_26
    · skip
      refine lv_iconst (v := 1) hx hb dX3_isReady_21 (by decide) ?_
      refine lv_goto (tgt := 26) hx hb dX3_isReady_22 (by decide) ?_
      refine cy_topv (congrArg Value.int (show 1 = cy_rUs S i from by simp only [cy_rUs, c_7, c_18, eq_self, ↓reduceIte, not_true_eq_false, not_false_eq_true])) ?_
      exact hE  _ _ _ _ _ _ (Nat.le_of_ble_eq_true rfl) (Nat.le_of_ble_eq_true rfl) hW dX3_isReady_26
abbrev rm_X3_hoopsOf : Room := { frames := 0, cells := 0, slots := 0, locals := 0 }
set_option maxHeartbeats 4000000 in
set_option maxRecDepth 100000 in
theorem c_X3_hoopsOf {l : Launch} {D : va_G} {kI kJ kZ kC : ClassId} {ad : Nat → Nat} {S : Nat → Nat → Int32} {tl : va_W} {c : Nat} (hc : c < 12) (hq : cq_ok S) : cy_M l yX3_hoopsOf wsX3_hoopsOf rm_X3_hoopsOf D (cy_tys kI kJ kZ kC) [.ref (ad 0), .int (nI c)] (cy_Mw kI kZ ad S tl) (some (.int (nI (cq_hn S c)))) (cy_Mw kI kZ ad S tl) := by
  refine cy_of (own := RX3) (cc := cX3_hoopsOf) (maxL := 2) (ret := (some .int)) (i := .ireturn) (by decide) rfl rfl (Nat.le_of_ble_eq_true rfl) (cy_endI rfl) ?_
  intro p e s m args below meth co Q A ls hC hE hW hl
  have hx := hC.1.1; have hb := hC.1.2.1; have hml := hC.1.2.2.1; have hown := hC.1.2.2.2.1; have hts := hC.1.2.2.2.2
  have hl : lv_has ls 2 [(0, .ref (ad 0)), (1, .int (nI c))] := hl
  have hi3 : ∀ w ∈ u_ws RX3 TX3 25, w ∈ wsX3_hoopsOf := by decide +kernel
  refine lv_aload_n hx hb dX3_hoopsOf_0 rfl (lv_at hl 0 rfl) ?_
  refine cy_get hC (0) (by decide) hi3 hW (rfl) rfl 14 (by decide) (hts (.fieldLink RX3 35 "CaskYardModel" "isSound" "[Z") (by decide +kernel)) (fun _ h9 => h9) (v := .ref (ad 8)) rfl dX3_hoopsOf_1 ?_
  refine lv_iload_n hx hb dX3_hoopsOf_4 rfl (lv_at hl 1 rfl) ?_
  refine cy_zald hC (8) (by decide) hW 2 (i := c) (rfl) rfl (by omega) (by decide) dX3_hoopsOf_5 ?_
  refine lv_if_eq (tgt := 23) hx hb dX3_hoopsOf_6 (by decide) (fun c_6 => ?_) (fun c_6 => ?_)
  · skip
    refine lv_iconst (v := 0) hx hb dX3_hoopsOf_23 (by decide) ?_
    refine cy_topv (congrArg Value.int (show 0 = nI (cq_hn S c) from by first | (simp only [cq_hn, c_6, ↓reduceIte]; done) | (simp only [cq_hn, c_6, ↓reduceIte]; rfl))) ?_
    exact hE  _ _ _ _ _ _ (Nat.le_of_ble_eq_true rfl) (Nat.le_of_ble_eq_true rfl) hW dX3_hoopsOf_24
  · skip
    refine lv_aload_n hx hb dX3_hoopsOf_9 rfl (lv_at hl 0 rfl) ?_
    refine cy_get hC (0) (by decide) hi3 hW (rfl) rfl 11 (by decide) (hts (.fieldLink RX3 29 "CaskYardModel" "hoops" "[I") (by decide +kernel)) (fun _ h9 => h9) (v := .ref (ad 6)) rfl dX3_hoopsOf_10 ?_
    refine lv_aload_n hx hb dX3_hoopsOf_13 rfl (lv_at hl 0 rfl) ?_
    refine cy_get hC (0) (by decide) hi3 hW (rfl) rfl 13 (by decide) (hts (.fieldLink RX3 32 "CaskYardModel" "sort" "[I") (by decide +kernel)) (fun _ h9 => h9) (v := .ref (ad 7)) rfl dX3_hoopsOf_14 ?_
    refine lv_iload_n hx hb dX3_hoopsOf_17 rfl (lv_at hl 1 rfl) ?_
    refine cy_iald hC (7) (by decide) hW 0 (i := c) (rfl) rfl (by omega) (by decide) dX3_hoopsOf_18 ?_
    refine cy_top (y := nI (cq_so S c)) ((hq.1 c hc).2) ?_
    refine cy_iald hC (6) (by decide) hW 0 (i := (cq_so S c)) (rfl) rfl (hq.1 c hc).1 (by decide) dX3_hoopsOf_19 ?_
    refine cy_top (y := nI ((S 6 (cq_so S c)).toNatClampNeg)) ((hq.2 _ (hq.1 c hc).1).2) ?_
    refine lv_goto (tgt := 24) hx hb dX3_hoopsOf_20 (by decide) ?_
    refine cy_topv (congrArg Value.int (show nI ((S 6 (cq_so S c)).toNatClampNeg) = nI (cq_hn S c) from by first | (simp only [cq_hn, c_6, ↓reduceIte]; done) | (simp only [cq_hn, c_6, ↓reduceIte]; rfl))) ?_
    exact hE  _ _ _ _ _ _ (Nat.le_of_ble_eq_true rfl) (Nat.le_of_ble_eq_true rfl) hW dX3_hoopsOf_24
abbrev rm_X3_tensions : Room := { frames := 1, cells := 0, slots := 0, locals := 21 }
set_option maxHeartbeats 4000000 in
set_option maxRecDepth 100000 in
theorem c_X3_tensions {l : Launch} {D : va_G} {kI kJ kZ kC : ClassId} {ad : Nat → Nat} {S : Nat → Nat → Int32} {tl : va_W} {c : Nat} (hc : c < 12) (hq : cq_ok S) : cy_M l yX3_tensions wsX3_tensions rm_X3_tensions D (cy_tys kI kJ kZ kC) [.ref (ad 0), .int (nI c)] (cy_Mw kI kZ ad S tl) (some (.int (cq_tn S c))) (cy_Mw kI kZ ad S tl) := by
  refine cy_of (own := RX3) (cc := cX3_tensions) (maxL := 4) (ret := (some .int)) (i := .ireturn) (by decide) rfl rfl (Nat.le_of_ble_eq_true rfl) (cy_endI rfl) ?_
  intro p e s m args below meth co Q A ls hC hE hW hl
  have hx := hC.1.1; have hb := hC.1.2.1; have hml := hC.1.2.2.1; have hown := hC.1.2.2.2.1; have hts := hC.1.2.2.2.2
  have hl : lv_has ls 4 [(0, .ref (ad 0)), (1, .int (nI c))] := hl
  have hi3 : ∀ w ∈ u_ws RX3 TX3 25, w ∈ wsX3_tensions := by decide +kernel
  have hle := cq_hn_le hq hc
  refine lv_iconst (v := 0) hx hb dX3_tensions_0 (by decide) ?_
  refine lv_istore_n (lv' := [(2, .int 0), (0, .ref (ad 0)), (1, .int (nI c))]) hx hb dX3_tensions_1 rfl hl (by decide) rfl (fun ls hl => ?_)
  refine lv_iconst (v := 0) hx hb dX3_tensions_2 (by decide) ?_
  refine lv_istore_n (lv' := [(3, .int 0), (2, .int 0), (0, .ref (ad 0)), (1, .int (nI c))]) hx hb dX3_tensions_3 rfl hl (by decide) rfl (fun ls hl => ?_)
  have L_4 : ∀ (fu : Nat) (i : Nat), cq_hn S c - i < fu → (i ≤ cq_hn S c) → ∀ (H : Heap) (locs : List Loc), cy_W D A s.heap (cy_Mw kI kZ ad S tl) H locs → ∀ (ls : Array Slot), lv_has ls 4 [(2, .int (cy_sm (fun k => S 10 (8 * c + k)) i)), (3, .int (nI i)), (0, .ref (ad 0)), (1, .int (nI c))] → W p l e rm_X3_tensions s m args below meth co H locs 0 0 Q (F0 m 4 ls []) := by
    intro fu
    induction fu with
    | zero => intro i hn; exact absurd hn (Nat.not_lt_zero _)
    | succ fu ih_4 =>
      intro i hn_4 hi H locs hW ls hl
      refine lv_iload_n hx hb dX3_tensions_4 rfl (lv_at hl 1 rfl) ?_
      refine lv_aload_n hx hb dX3_tensions_5 rfl (lv_at hl 2 rfl) ?_
      refine lv_iload_n hx hb dX3_tensions_6 rfl (lv_at hl 3 rfl) ?_
      refine cy_callV (As := [.int (nI c)]) (rest := [.int (nI i)]) (q0 := 0) (ci := 3) hC.1 hC.2.1 hC.2.2 hW (c_X3_hoopsOf (c := c) (by omega) (cq_ok_of rfl rfl hq)) (cwV 1 hts gX3_tensions_X3_hoopsOf rfl rfl rfl (by decide +kernel) ⟨Nat.le_of_ble_eq_true rfl, Nat.le_of_ble_eq_true rfl⟩) (cy_w_at (by decide) (rfl)) rfl rfl hl.1 rfl (Nat.le_of_ble_eq_true rfl) dX3_tensions_7 ⟨Nat.le_of_ble_eq_true rfl, Nat.le_of_ble_eq_true rfl⟩ (k' := 0) (n' := 0) rfl rfl (fun H locs hW => ?_)
      refine lv_icmp_ge (tgt := 33) hx hb dX3_tensions_10 (by decide) (fun c_10 => ?_) (fun c_10 => ?_)
      · skip
        have q_10 := cy_le (a := (cq_hn S c)) (b := i) (by omega) (by omega) c_10
        obtain rfl : i = cq_hn S c := by omega
        refine lv_iload_n hx hb dX3_tensions_33 rfl (lv_at hl 0 rfl) ?_
        exact hE  _ _ _ _ _ _ (Nat.le_of_ble_eq_true rfl) (Nat.le_of_ble_eq_true rfl) hW dX3_tensions_34
      · skip
        have q_10 := cy_nle (a := (cq_hn S c)) (b := i) (by omega) (by omega) c_10
        refine lv_iload_n hx hb dX3_tensions_13 rfl (lv_at hl 0 rfl) ?_
        refine lv_aload_n hx hb dX3_tensions_14 rfl (lv_at hl 2 rfl) ?_
        refine cy_get hC (0) (by decide) hi3 hW (rfl) rfl 16 (by decide) (hts (.fieldLink RX3 42 "CaskYardModel" "tension" "[I") (by decide +kernel)) (fun _ h9 => h9) (v := .ref (ad 10)) rfl dX3_tensions_15 ?_
        refine lv_bipush (v := 8) hx hb dX3_tensions_18 (by decide) ?_
        refine lv_iload_n hx hb dX3_tensions_20 rfl (lv_at hl 3 rfl) ?_
        refine lv_imul hx hb dX3_tensions_21 ?_
        refine cy_top (pk_mul 8 c) ?_
        refine lv_iload_n hx hb dX3_tensions_22 rfl (lv_at hl 1 rfl) ?_
        refine lv_iadd hx hb dX3_tensions_23 ?_
        refine cy_top (nI_add (8 * c) i) ?_
        refine cy_iald hC (10) (by decide) hW 0 (i := ((8 * c) + i)) (rfl) rfl (by omega) (by decide) dX3_tensions_24 ?_
        refine lv_iadd hx hb dX3_tensions_25 ?_
        refine lv_istore_n (lv' := [(2, .int ((cy_sm (fun k => S 10 (8 * c + k)) i) + (S 10 ((8 * c) + i)))), (3, .int (nI i)), (0, .ref (ad 0)), (1, .int (nI c))]) hx hb dX3_tensions_26 rfl hl (by decide) rfl (fun ls hl => ?_)
        refine lv_iinc (v := nI (i + 1)) (lv' := [(3, .int (nI (i + 1))), (2, .int ((cy_sm (fun k => S 10 (8 * c + k)) i) + (S 10 ((8 * c) + i)))), (0, .ref (ad 0)), (1, .int (nI c))]) hx hb dX3_tensions_27 hl (k := 1) rfl (nI_1 i) (by decide) rfl (fun ls hl => ?_)
        refine lv_goto (tgt := 4) hx hb dX3_tensions_30 (by decide) ?_
        exact ih_4 (i + 1) (by omega) (by omega) _ _ hW _ (lv_sub hl [1, 0, 2, 3] rfl)
  exact L_4 ((cq_hn S c - 0) + 1) 0 (Nat.lt_succ_self _) (by omega) _ _ hW _ (lv_sub hl [1, 0, 2, 3] rfl)
abbrev rm_X3_all : Room := { frames := 0, cells := 0, slots := 0, locals := 0 }
set_option maxHeartbeats 4000000 in
set_option maxRecDepth 100000 in
theorem c_X3_all {l : Launch} {D : va_G} {kI kJ kZ kC : ClassId} {ad : Nat → Nat} {S : Nat → Nat → Int32} {tl : va_W} {c : Nat} (hc : c < 12) : cy_M l yX3_all wsX3_all rm_X3_all D (cy_tys kI kJ kZ kC) [.ref (ad 0), .int (nI c)] (cy_Mw kI kZ ad S tl) (some (.int (cq_al S c))) (cy_Mw kI kZ ad S tl) := by
  refine cy_of (own := RX3) (cc := cX3_all) (maxL := 4) (ret := (some .int)) (i := .ireturn) (by decide) rfl rfl (Nat.le_of_ble_eq_true rfl) (cy_endI rfl) ?_
  intro p e s m args below meth co Q A ls hC hE hW hl
  have hx := hC.1.1; have hb := hC.1.2.1; have hml := hC.1.2.2.1; have hown := hC.1.2.2.2.1; have hts := hC.1.2.2.2.2
  have hl : lv_has ls 4 [(0, .ref (ad 0)), (1, .int (nI c))] := hl
  have hi3 : ∀ w ∈ u_ws RX3 TX3 25, w ∈ wsX3_all := by decide +kernel
  refine lv_iconst (v := 0) hx hb dX3_all_0 (by decide) ?_
  refine lv_istore_n (lv' := [(2, .int 0), (0, .ref (ad 0)), (1, .int (nI c))]) hx hb dX3_all_1 rfl hl (by decide) rfl (fun ls hl => ?_)
  refine lv_iconst (v := 0) hx hb dX3_all_2 (by decide) ?_
  refine lv_istore_n (lv' := [(3, .int 0), (2, .int 0), (0, .ref (ad 0)), (1, .int (nI c))]) hx hb dX3_all_3 rfl hl (by decide) rfl (fun ls hl => ?_)
  have L_4 : ∀ (fu : Nat) (i : Nat), 5 - i < fu → (i ≤ 5) → ∀ (H : Heap) (locs : List Loc), cy_W D A s.heap (cy_Mw kI kZ ad S tl) H locs → ∀ (ls : Array Slot), lv_has ls 4 [(2, .int (cy_sm (fun k => S 14 (5 * c + k)) i)), (3, .int (nI i)), (0, .ref (ad 0)), (1, .int (nI c))] → W p l e rm_X3_all s m args below meth co H locs 0 0 Q (F0 m 4 ls []) := by
    intro fu
    induction fu with
    | zero => intro i hn; exact absurd hn (Nat.not_lt_zero _)
    | succ fu ih_4 =>
      intro i hn_4 hi H locs hW ls hl
      refine lv_iload_n hx hb dX3_all_4 rfl (lv_at hl 1 rfl) ?_
      refine lv_iconst (v := 5) hx hb dX3_all_5 (by decide) ?_
      refine lv_icmp_ge (tgt := 28) hx hb dX3_all_6 (by decide) (fun c_6 => ?_) (fun c_6 => ?_)
      · skip
        have q_6 := cy_le (a := 5) (b := i) (by omega) (by omega) c_6
        obtain rfl : i = 5 := by omega
        refine lv_iload_n hx hb dX3_all_28 rfl (lv_at hl 0 rfl) ?_
        exact hE  _ _ _ _ _ _ (Nat.le_of_ble_eq_true rfl) (Nat.le_of_ble_eq_true rfl) hW dX3_all_29
      · skip
        have q_6 := cy_nle (a := 5) (b := i) (by omega) (by omega) c_6
        refine lv_iload_n hx hb dX3_all_9 rfl (lv_at hl 0 rfl) ?_
        refine lv_aload_n hx hb dX3_all_10 rfl (lv_at hl 2 rfl) ?_
        refine cy_get hC (0) (by decide) hi3 hW (rfl) rfl 20 (by decide) (hts (.fieldLink RX3 54 "CaskYardModel" "holds" "[I") (by decide +kernel)) (fun _ h9 => h9) (v := .ref (ad 14)) rfl dX3_all_11 ?_
        refine lv_iconst (v := 5) hx hb dX3_all_14 (by decide) ?_
        refine lv_iload_n hx hb dX3_all_15 rfl (lv_at hl 3 rfl) ?_
        refine lv_imul hx hb dX3_all_16 ?_
        refine cy_top (pk_mul 5 c) ?_
        refine lv_iload_n hx hb dX3_all_17 rfl (lv_at hl 1 rfl) ?_
        refine lv_iadd hx hb dX3_all_18 ?_
        refine cy_top (nI_add (5 * c) i) ?_
        refine cy_iald hC (14) (by decide) hW 0 (i := ((5 * c) + i)) (rfl) rfl (by omega) (by decide) dX3_all_19 ?_
        refine lv_iadd hx hb dX3_all_20 ?_
        refine lv_istore_n (lv' := [(2, .int ((cy_sm (fun k => S 14 (5 * c + k)) i) + (S 14 ((5 * c) + i)))), (3, .int (nI i)), (0, .ref (ad 0)), (1, .int (nI c))]) hx hb dX3_all_21 rfl hl (by decide) rfl (fun ls hl => ?_)
        refine lv_iinc (v := nI (i + 1)) (lv' := [(3, .int (nI (i + 1))), (2, .int ((cy_sm (fun k => S 14 (5 * c + k)) i) + (S 14 ((5 * c) + i)))), (0, .ref (ad 0)), (1, .int (nI c))]) hx hb dX3_all_22 hl (k := 1) rfl (nI_1 i) (by decide) rfl (fun ls hl => ?_)
        refine lv_goto (tgt := 4) hx hb dX3_all_25 (by decide) ?_
        exact ih_4 (i + 1) (by omega) (by omega) _ _ hW _ (lv_sub hl [1, 0, 2, 3] rfl)
  exact L_4 ((5 - 0) + 1) 0 (Nat.lt_succ_self _) (by omega) _ _ hW _ (lv_sub hl [1, 0, 2, 3] rfl)
abbrev rm_X3_drive : Room := { frames := 2, cells := 0, slots := 0, locals := 44 }
set_option maxHeartbeats 4000000 in
set_option maxRecDepth 100000 in
theorem c_X3_drive {l : Launch} {D : va_G} {kI kJ kZ kC : ClassId} {ad : Nat → Nat} {S : Nat → Nat → Int32} {tl : va_W} {x y z : Int32} {nc : Nat} (hnc : S 0 12 = nI nc) (h12 : nc ≤ 12) (hq : cq_ok S) : cy_M l yX3_drive wsX3_drive rm_X3_drive D (cy_tys kI kJ kZ kC) [.ref (ad 0), .int x, .int y, .int z] (cy_Mw kI kZ ad S tl) (some (.int ((cq_Dr S x y z nc).2))) (cy_Mw kI kZ ad (cq_Dr S x y z nc).1 tl) := by
  refine cy_of (own := RX3) (cc := cX3_drive) (maxL := 5) (ret := (some .int)) (i := .ireturn) (by decide) rfl rfl (Nat.le_of_ble_eq_true rfl) (cy_endI rfl) ?_
  intro p e s m args below meth co Q A ls hC hE hW hl
  have hx := hC.1.1; have hb := hC.1.2.1; have hml := hC.1.2.2.1; have hown := hC.1.2.2.2.1; have hts := hC.1.2.2.2.2
  have hl : lv_has ls 5 [(0, .ref (ad 0)), (1, .int x), (2, .int y), (3, .int z)] := hl
  have hi3 : ∀ w ∈ u_ws RX3 TX3 25, w ∈ wsX3_drive := by decide +kernel
  refine lv_aload_n hx hb dX3_drive_0 rfl (lv_at hl 0 rfl) ?_
  refine lv_iconst (v := 0) hx hb dX3_drive_1 (by decide) ?_
  refine cy_put hC (0) (by decide) hi3 tyX3 tyX3_ok nmX3 hW (rfl) rfl 0 (by decide) (hts (.fieldLink RX3 67 "CaskYardModel" "thrown" "I") (by decide +kernel)) (fun _ h9 => h9) rfl (ty := .int) (by decide +kernel) rfl rfl (Nat.le_of_ble_eq_true rfl) (upd (S 0) 0 0) cy_hM0 (S' := (va_up S 0 (upd (S 0) 0 0))) rfl dX3_drive_2 (fun H locs hW => ?_)
  refine lv_aload_n hx hb dX3_drive_5 rfl (lv_at hl 0 rfl) ?_
  refine lv_iload_n hx hb dX3_drive_6 rfl (lv_at hl 1 rfl) ?_
  refine cy_callV (As := [.int x]) (rest := []) (q0 := 0) (ci := 3) hC.1 hC.2.1 hC.2.2 hW (c_X3_isCask (x := x) (nc := nc) hnc (by omega)) (cwV 1 hts gX3_drive_X3_isCask rfl rfl rfl (by decide +kernel) ⟨Nat.le_of_ble_eq_true rfl, Nat.le_of_ble_eq_true rfl⟩) (cy_w_at (by decide) (cy_rd (cy_us) rfl)) rfl rfl hl.1 rfl (Nat.le_of_ble_eq_true rfl) dX3_drive_7 ⟨Nat.le_of_ble_eq_true rfl, Nat.le_of_ble_eq_true rfl⟩ (k' := 0) (n' := 0) rfl rfl (fun H locs hW => ?_)
  refine lv_if_eq (tgt := 28) hx hb dX3_drive_10 (by decide) (fun c_10 => ?_) (fun c_10 => ?_)
  · skip
    refine lv_aload_n hx hb dX3_drive_28 rfl (lv_at hl 0 rfl) ?_
    refine lv_iconst (v := 1) hx hb dX3_drive_29 (by decide) ?_
    refine cy_callV (As := [.int 1]) (rest := []) (q0 := 0) (ci := 3) hC.1 hC.2.1 hC.2.2 hW (c_X3_no (x := 1)) (cwV 1 hts gX3_drive_X3_no rfl rfl rfl (by decide +kernel) ⟨Nat.le_of_ble_eq_true rfl, Nat.le_of_ble_eq_true rfl⟩) (cy_w_at (by decide) (cy_rd (cy_us) rfl)) rfl rfl hl.1 rfl (Nat.le_of_ble_eq_true rfl) dX3_drive_30 ⟨Nat.le_of_ble_eq_true rfl, Nat.le_of_ble_eq_true rfl⟩ (k' := 0) (n' := 0) rfl rfl (fun H locs hW => ?_)
    rw [show va_up (va_up S 0 (upd (S 0) 0 0)) 0 (upd ((va_up S 0 (upd (S 0) 0 0)) 0) 0 1) = (va_up S 0 (upd (upd (S 0) 0 0) 0 1)) from by rw [cy_us, cy_uu]] at hW
    refine cy_topv (congrArg Value.int (show 0 = (cq_Dr S x y z nc).2 from by simp only [cq_Dr, c_10, eq_self, ↓reduceIte, pk_us])) ?_
    have hW := cy_castS (show (va_up S 0 (upd (upd (S 0) 0 0) 0 1)) = (cq_Dr S x y z nc).1 from by simp only [cq_Dr, cq_th, cq_rs, c_10, eq_self, ↓reduceIte, not_true_eq_false, not_false_eq_true]) hW
    exact hE  _ _ _ _ _ _ (Nat.le_of_ble_eq_true rfl) (Nat.le_of_ble_eq_true rfl) hW dX3_drive_33
  · skip
    obtain ⟨c, hc, rfl⟩ := cq_in_t (by omega) c_10
    have clc : (nI c).toNatClampNeg = c := nI_clamp (by omega)
    have hl : lv_has ls 5 [(0, .ref (ad 0)), (1, .int (nI c)), (2, .int y), (3, .int z)] := hl
    refine lv_iload_n hx hb dX3_drive_13 rfl (lv_at hl 2 rfl) ?_
    refine lv_iconst (v := 0) hx hb dX3_drive_14 (by decide) ?_
    refine lv_aload_n hx hb dX3_drive_15 rfl (lv_at hl 0 rfl) ?_
    refine lv_iload_n hx hb dX3_drive_16 rfl (lv_at hl 1 rfl) ?_
    refine cy_callV (As := [.int (nI c)]) (rest := [.int 0, .int y]) (q0 := 0) (ci := 3) hC.1 hC.2.1 hC.2.2 hW (c_X3_hoopsOf (c := c) (by omega) (cq_ok_of rfl rfl hq)) (cwV 1 hts gX3_drive_X3_hoopsOf rfl rfl rfl (by decide +kernel) ⟨Nat.le_of_ble_eq_true rfl, Nat.le_of_ble_eq_true rfl⟩) (cy_w_at (by decide) (cy_rd (cy_us) rfl)) rfl rfl hl.1 rfl (Nat.le_of_ble_eq_true rfl) dX3_drive_17 ⟨Nat.le_of_ble_eq_true rfl, Nat.le_of_ble_eq_true rfl⟩ (k' := 0) (n' := 0) rfl rfl (fun H locs hW => ?_)
    refine cy_topv (show _ = Value.int (nI (cq_hn S c)) from rfl) ?_
    refine lv_iconst (v := 1) hx hb dX3_drive_20 (by decide) ?_
    refine lv_isub hx hb dX3_drive_21 ?_
    refine cy_callS (As := [.int y, .int 0, .int ((nI (cq_hn S c)) - 1)]) (rest := []) hC.1 hC.2.1 hC.2.2 hW (c_X3_isIn (x := y) (y := 0) (z := ((nI (cq_hn S c)) - 1))) (va_cwS 3 hts gX3_drive_X3_isIn rfl rfl rfl (by decide +kernel) ⟨Nat.le_of_ble_eq_true rfl, Nat.le_of_ble_eq_true rfl⟩) rfl hl.1 rfl (Nat.le_of_ble_eq_true rfl) dX3_drive_22 ⟨Nat.le_of_ble_eq_true rfl, Nat.le_of_ble_eq_true rfl⟩ (k' := 0) (n' := 0) rfl rfl (fun H locs hW => ?_)
    refine lv_if_ne (tgt := 34) hx hb dX3_drive_25 (by decide) (fun c_25 => ?_) (fun c_25 => ?_)
    · skip
      have hle := cq_hn_le hq (Nat.lt_of_lt_of_le hc h12)
      obtain ⟨i, hi, rfl⟩ := cq_in_t (by omega) c_25
      have cli : (nI i).toNatClampNeg = i := nI_clamp (by omega)
      have hl : lv_has ls 5 [(0, .ref (ad 0)), (1, .int (nI c)), (2, .int (nI i)), (3, .int z)] := hl
      refine lv_iload_n hx hb dX3_drive_34 rfl (lv_at hl 3 rfl) ?_
      refine lv_iconst (v := 1) hx hb dX3_drive_35 (by decide) ?_
      refine lv_bipush (v := 9) hx hb dX3_drive_36 (by decide) ?_
      refine cy_callS (As := [.int z, .int 1, .int 9]) (rest := []) hC.1 hC.2.1 hC.2.2 hW (c_X3_isIn (x := z) (y := 1) (z := 9)) (va_cwS 3 hts gX3_drive_X3_isIn rfl rfl rfl (by decide +kernel) ⟨Nat.le_of_ble_eq_true rfl, Nat.le_of_ble_eq_true rfl⟩) rfl hl.1 rfl (Nat.le_of_ble_eq_true rfl) dX3_drive_38 ⟨Nat.le_of_ble_eq_true rfl, Nat.le_of_ble_eq_true rfl⟩ (k' := 0) (n' := 0) rfl rfl (fun H locs hW => ?_)
      refine lv_if_ne (tgt := 50) hx hb dX3_drive_41 (by decide) (fun c_41 => ?_) (fun c_41 => ?_)
      · skip
        refine lv_bipush (v := 8) hx hb dX3_drive_50 (by decide) ?_
        refine lv_iload_n hx hb dX3_drive_52 rfl (lv_at hl 1 rfl) ?_
        refine lv_imul hx hb dX3_drive_53 ?_
        refine cy_top (pk_mul 8 c) ?_
        refine lv_iload_n hx hb dX3_drive_54 rfl (lv_at hl 2 rfl) ?_
        refine lv_iadd hx hb dX3_drive_55 ?_
        refine cy_top (nI_add (8 * c) i) ?_
        refine lv_istore (lv' := [(4, .int (nI ((8 * c) + i))), (0, .ref (ad 0)), (1, .int (nI c)), (2, .int (nI i)), (3, .int z)]) hx hb dX3_drive_56 hl (by decide) rfl (fun ls hl => ?_)
        refine lv_aload_n hx hb dX3_drive_58 rfl (lv_at hl 1 rfl) ?_
        refine cy_get hC (0) (by decide) hi3 hW (cy_rd (cy_us) rfl) rfl 16 (by decide) (hts (.fieldLink RX3 42 "CaskYardModel" "tension" "[I") (by decide +kernel)) (fun _ h9 => h9) (v := .ref (ad 10)) rfl dX3_drive_59 ?_
        refine lv_iload hx hb dX3_drive_62 (lv_at hl 0 rfl) ?_
        refine lv_bipush (v := 9) hx hb dX3_drive_64 (by decide) ?_
        refine lv_aload_n hx hb dX3_drive_66 rfl (lv_at hl 1 rfl) ?_
        refine cy_get hC (0) (by decide) hi3 hW (cy_rd (cy_us) rfl) rfl 16 (by decide) (hts (.fieldLink RX3 42 "CaskYardModel" "tension" "[I") (by decide +kernel)) (fun _ h9 => h9) (v := .ref (ad 10)) rfl dX3_drive_67 ?_
        refine lv_iload hx hb dX3_drive_70 (lv_at hl 0 rfl) ?_
        refine cy_iald hC (10) (by decide) hW 0 (i := ((8 * c) + i)) (cy_rd (cy_un (by omega)) rfl) rfl (by omega) (by decide) dX3_drive_72 ?_
        refine lv_iload_n hx hb dX3_drive_73 rfl (lv_at hl 4 rfl) ?_
        refine lv_iadd hx hb dX3_drive_74 ?_
        refine va_mmin hx hb (hml.trans hl.1.symm) hown (hts (.methodLink RX3 96 Lib.Math.min.name) (by decide +kernel)) (hts (.static Lib.Math.min.name) (by decide +kernel)) (hts (.initialized "java/lang/Math") (by decide +kernel)) (hts (.code Lib.Math.min.name Lib.Math.min.code 2 (some .int)) (by decide +kernel)) (Nat.le_of_ble_eq_true rfl) (Nat.le_of_ble_eq_true rfl) (Nat.le_of_ble_eq_true rfl) (Nat.le_of_ble_eq_true rfl) dX3_drive_75 ?_
        refine cy_topv (show _ = Value.int (cy_mn 9 ((S 10 ((8 * c) + i)) + z)) from rfl) ?_
        refine cy_iast hC (10) (by decide) hW 0 (i := ((8 * c) + i)) (cy_rd (cy_un (by omega)) rfl) rfl (by omega) (by decide) (upd (S 10) ((8 * c) + i) (cy_mn 9 ((S 10 ((8 * c) + i)) + z))) rfl (S' := (va_up (va_up S 0 (upd (S 0) 0 0)) 10 (upd (S 10) ((8 * c) + i) (cy_mn 9 ((S 10 ((8 * c) + i)) + z))))) rfl dX3_drive_78 (fun H locs hW => ?_)
        refine lv_aload_n hx hb dX3_drive_79 rfl (lv_at hl 1 rfl) ?_
        refine lv_iload_n hx hb dX3_drive_80 rfl (lv_at hl 2 rfl) ?_
        refine cy_callV (As := [.int (nI c)]) (rest := []) (q0 := 0) (ci := 3) hC.1 hC.2.1 hC.2.2 hW (c_X3_tensions (c := c) (by omega) (cq_ok_of rfl rfl hq)) (cwV 1 hts gX3_drive_X3_tensions rfl rfl rfl (by decide +kernel) ⟨Nat.le_of_ble_eq_true rfl, Nat.le_of_ble_eq_true rfl⟩) (cy_w_at (by decide) (cy_rd ((cy_un (by omega)).trans cy_us) rfl)) rfl rfl hl.1 rfl (Nat.le_of_ble_eq_true rfl) dX3_drive_81 ⟨Nat.le_of_ble_eq_true rfl, Nat.le_of_ble_eq_true rfl⟩ (k' := 0) (n' := 0) rfl rfl (fun H locs hW => ?_)
        refine lv_iconst (v := 5) hx hb dX3_drive_84 (by decide) ?_
        refine lv_aload_n hx hb dX3_drive_85 rfl (lv_at hl 1 rfl) ?_
        refine lv_iload_n hx hb dX3_drive_86 rfl (lv_at hl 2 rfl) ?_
        refine cy_callV (As := [.int (nI c)]) (rest := [.int 5, .int (cq_tn (va_up (va_up S 0 (upd (S 0) 0 0)) 10 (upd (S 10) ((8 * c) + i) (cy_mn 9 ((S 10 ((8 * c) + i)) + z)))) c)]) (q0 := 0) (ci := 3) hC.1 hC.2.1 hC.2.2 hW (c_X3_hoopsOf (c := c) (by omega) (cq_ok_of rfl rfl hq)) (cwV 1 hts gX3_drive_X3_hoopsOf rfl rfl rfl (by decide +kernel) ⟨Nat.le_of_ble_eq_true rfl, Nat.le_of_ble_eq_true rfl⟩) (cy_w_at (by decide) (cy_rd ((cy_un (by omega)).trans cy_us) rfl)) rfl rfl hl.1 rfl (Nat.le_of_ble_eq_true rfl) dX3_drive_87 ⟨Nat.le_of_ble_eq_true rfl, Nat.le_of_ble_eq_true rfl⟩ (k' := 0) (n' := 0) rfl rfl (fun H locs hW => ?_)
        refine cy_topv (show _ = Value.int (nI (cq_hn S c)) from rfl) ?_
        refine lv_imul hx hb dX3_drive_90 ?_
        refine lv_icmp_le (tgt := 104) hx hb dX3_drive_91 (by decide) (fun c_91 => ?_) (fun c_91 => ?_)
        · skip
          refine lv_aload_n hx hb dX3_drive_104 rfl (lv_at hl 1 rfl) ?_
          refine cy_get hC (0) (by decide) hi3 hW (cy_rd ((cy_un (by omega)).trans cy_us) rfl) rfl 16 (by decide) (hts (.fieldLink RX3 42 "CaskYardModel" "tension" "[I") (by decide +kernel)) (fun _ h9 => h9) (v := .ref (ad 10)) rfl dX3_drive_105 ?_
          refine lv_iload hx hb dX3_drive_108 (lv_at hl 0 rfl) ?_
          refine cy_iald hC (10) (by decide) hW 0 (i := ((8 * c) + i)) (cy_rd (cy_us) rfl) rfl (by omega) (by decide) dX3_drive_110 ?_
          refine cy_topv (congrArg Value.int (show (upd (S 10) ((8 * c) + i) (cy_mn 9 ((S 10 ((8 * c) + i)) + z))) ((8 * c) + i) = (cq_Dr S (nI c) (nI i) z nc).2 from by simp only [cq_Dr, c_10, c_25, c_41, c_91, clc, cli, eq_self, ↓reduceIte, pk_us])) ?_
          have hW := cy_castS (show (va_up (va_up S 0 (upd (S 0) 0 0)) 10 (upd (S 10) ((8 * c) + i) (cy_mn 9 ((S 10 ((8 * c) + i)) + z)))) = (cq_Dr S (nI c) (nI i) z nc).1 from by simp only [cq_Dr, cq_th, cq_rs, c_10, c_25, c_41, c_91, clc, cli, eq_self, ↓reduceIte, not_true_eq_false, not_false_eq_true]) hW
          exact hE  _ _ _ _ _ _ (Nat.le_of_ble_eq_true rfl) (Nat.le_of_ble_eq_true rfl) hW dX3_drive_111
        · skip
          refine lv_aload_n hx hb dX3_drive_94 rfl (lv_at hl 1 rfl) ?_
          refine cy_get hC (0) (by decide) hi3 hW (cy_rd ((cy_un (by omega)).trans cy_us) rfl) rfl 15 (by decide) (hts (.fieldLink RX3 39 "CaskYardModel" "flaws" "[I") (by decide +kernel)) (fun _ h9 => h9) (v := .ref (ad 9)) rfl dX3_drive_95 ?_
          refine lv_iload_n hx hb dX3_drive_98 rfl (lv_at hl 2 rfl) ?_
          refine lv_dup2_11 hx hb dX3_drive_99 rfl rfl ?_
          refine cy_iald hC (9) (by decide) hW 0 (i := c) (cy_rd ((cy_un (by omega)).trans (cy_un (by omega))) rfl) rfl (by omega) (by decide) dX3_drive_100 ?_
          refine lv_iconst (v := 1) hx hb dX3_drive_101 (by decide) ?_
          refine lv_iadd hx hb dX3_drive_102 ?_
          refine cy_iast hC (9) (by decide) hW 0 (i := c) (cy_rd ((cy_un (by omega)).trans (cy_un (by omega))) rfl) rfl (by omega) (by decide) (upd (S 9) c ((S 9 c) + 1)) rfl (S' := (va_up (va_up (va_up S 0 (upd (S 0) 0 0)) 10 (upd (S 10) ((8 * c) + i) (cy_mn 9 ((S 10 ((8 * c) + i)) + z)))) 9 (upd (S 9) c ((S 9 c) + 1)))) rfl dX3_drive_103 (fun H locs hW => ?_)
          refine lv_aload_n hx hb dX3_drive_104 rfl (lv_at hl 1 rfl) ?_
          refine cy_get hC (0) (by decide) hi3 hW (cy_rd ((cy_un (by omega)).trans ((cy_un (by omega)).trans cy_us)) rfl) rfl 16 (by decide) (hts (.fieldLink RX3 42 "CaskYardModel" "tension" "[I") (by decide +kernel)) (fun _ h9 => h9) (v := .ref (ad 10)) rfl dX3_drive_105 ?_
          refine lv_iload hx hb dX3_drive_108 (lv_at hl 0 rfl) ?_
          refine cy_iald hC (10) (by decide) hW 0 (i := ((8 * c) + i)) (cy_rd ((cy_un (by omega)).trans cy_us) rfl) rfl (by omega) (by decide) dX3_drive_110 ?_
          refine cy_topv (congrArg Value.int (show (upd (S 10) ((8 * c) + i) (cy_mn 9 ((S 10 ((8 * c) + i)) + z))) ((8 * c) + i) = (cq_Dr S (nI c) (nI i) z nc).2 from by simp only [cq_Dr, c_10, c_25, c_41, c_91, clc, cli, eq_self, ↓reduceIte, pk_us])) ?_
          have hW := cy_castS (show (va_up (va_up (va_up S 0 (upd (S 0) 0 0)) 10 (upd (S 10) ((8 * c) + i) (cy_mn 9 ((S 10 ((8 * c) + i)) + z)))) 9 (upd (S 9) c ((S 9 c) + 1))) = (cq_Dr S (nI c) (nI i) z nc).1 from by simp only [cq_Dr, cq_th, cq_rs, c_10, c_25, c_41, c_91, clc, cli, eq_self, ↓reduceIte, not_true_eq_false, not_false_eq_true]) hW
          exact hE  _ _ _ _ _ _ (Nat.le_of_ble_eq_true rfl) (Nat.le_of_ble_eq_true rfl) hW dX3_drive_111
      · skip
        refine lv_aload_n hx hb dX3_drive_44 rfl (lv_at hl 0 rfl) ?_
        refine lv_iconst (v := 2) hx hb dX3_drive_45 (by decide) ?_
        refine cy_callV (As := [.int 2]) (rest := []) (q0 := 0) (ci := 3) hC.1 hC.2.1 hC.2.2 hW (c_X3_no (x := 2)) (cwV 1 hts gX3_drive_X3_no rfl rfl rfl (by decide +kernel) ⟨Nat.le_of_ble_eq_true rfl, Nat.le_of_ble_eq_true rfl⟩) (cy_w_at (by decide) (cy_rd (cy_us) rfl)) rfl rfl hl.1 rfl (Nat.le_of_ble_eq_true rfl) dX3_drive_46 ⟨Nat.le_of_ble_eq_true rfl, Nat.le_of_ble_eq_true rfl⟩ (k' := 0) (n' := 0) rfl rfl (fun H locs hW => ?_)
        rw [show va_up (va_up S 0 (upd (S 0) 0 0)) 0 (upd ((va_up S 0 (upd (S 0) 0 0)) 0) 0 2) = (va_up S 0 (upd (upd (S 0) 0 0) 0 2)) from by rw [cy_us, cy_uu]] at hW
        refine cy_topv (congrArg Value.int (show 0 = (cq_Dr S (nI c) (nI i) z nc).2 from by simp only [cq_Dr, c_10, c_25, c_41, clc, cli, eq_self, ↓reduceIte, pk_us])) ?_
        have hW := cy_castS (show (va_up S 0 (upd (upd (S 0) 0 0) 0 2)) = (cq_Dr S (nI c) (nI i) z nc).1 from by simp only [cq_Dr, cq_th, cq_rs, c_10, c_25, c_41, clc, cli, eq_self, ↓reduceIte, not_true_eq_false, not_false_eq_true]) hW
        exact hE  _ _ _ _ _ _ (Nat.le_of_ble_eq_true rfl) (Nat.le_of_ble_eq_true rfl) hW dX3_drive_49
    · skip
      refine lv_aload_n hx hb dX3_drive_28 rfl (lv_at hl 0 rfl) ?_
      refine lv_iconst (v := 1) hx hb dX3_drive_29 (by decide) ?_
      refine cy_callV (As := [.int 1]) (rest := []) (q0 := 0) (ci := 3) hC.1 hC.2.1 hC.2.2 hW (c_X3_no (x := 1)) (cwV 1 hts gX3_drive_X3_no rfl rfl rfl (by decide +kernel) ⟨Nat.le_of_ble_eq_true rfl, Nat.le_of_ble_eq_true rfl⟩) (cy_w_at (by decide) (cy_rd (cy_us) rfl)) rfl rfl hl.1 rfl (Nat.le_of_ble_eq_true rfl) dX3_drive_30 ⟨Nat.le_of_ble_eq_true rfl, Nat.le_of_ble_eq_true rfl⟩ (k' := 0) (n' := 0) rfl rfl (fun H locs hW => ?_)
      rw [show va_up (va_up S 0 (upd (S 0) 0 0)) 0 (upd ((va_up S 0 (upd (S 0) 0 0)) 0) 0 1) = (va_up S 0 (upd (upd (S 0) 0 0) 0 1)) from by rw [cy_us, cy_uu]] at hW
      refine cy_topv (congrArg Value.int (show 0 = (cq_Dr S (nI c) y z nc).2 from by simp only [cq_Dr, c_10, c_25, clc, eq_self, ↓reduceIte, pk_us])) ?_
      have hW := cy_castS (show (va_up S 0 (upd (upd (S 0) 0 0) 0 1)) = (cq_Dr S (nI c) y z nc).1 from by simp only [cq_Dr, cq_th, cq_rs, c_10, c_25, clc, eq_self, ↓reduceIte, not_true_eq_false, not_false_eq_true]) hW
      exact hE  _ _ _ _ _ _ (Nat.le_of_ble_eq_true rfl) (Nat.le_of_ble_eq_true rfl) hW dX3_drive_33
abbrev rm_X3_lastStave : Room := { frames := 0, cells := 0, slots := 0, locals := 0 }
set_option maxHeartbeats 4000000 in
set_option maxRecDepth 100000 in
theorem c_X3_lastStave {l : Launch} {D : va_G} {kI kJ kZ kC : ClassId} {ad : Nat → Nat} {S : Nat → Nat → Int32} {tl : va_W} {x : Int32} {ns : Nat} (hns : S 0 4 = nI ns) (h60 : ns ≤ 60) : cy_M l yX3_lastStave wsX3_lastStave rm_X3_lastStave D (cy_tys kI kJ kZ kC) [.ref (ad 0), .int x] (cy_Mw kI kZ ad S tl) (some (.int (cq_ls S x ns))) (cy_Mw kI kZ ad S tl) := by
  refine cy_of (own := RX3) (cc := cX3_lastStave) (maxL := 4) (ret := (some .int)) (i := .ireturn) (by decide) rfl rfl (Nat.le_of_ble_eq_true rfl) (cy_endI rfl) ?_
  intro p e s m args below meth co Q A ls hC hE hW hl
  have hx := hC.1.1; have hb := hC.1.2.1; have hml := hC.1.2.2.1; have hown := hC.1.2.2.2.1; have hts := hC.1.2.2.2.2
  have hl : lv_has ls 4 [(0, .ref (ad 0)), (1, .int x)] := hl
  have hi3 : ∀ w ∈ u_ws RX3 TX3 25, w ∈ wsX3_lastStave := by decide +kernel
  refine lv_iconst (v := (-1)) hx hb dX3_lastStave_0 (by decide) ?_
  refine lv_istore_n (lv' := [(2, .int (-1)), (0, .ref (ad 0)), (1, .int x)]) hx hb dX3_lastStave_1 rfl hl (by decide) rfl (fun ls hl => ?_)
  refine lv_iconst (v := 0) hx hb dX3_lastStave_2 (by decide) ?_
  refine lv_istore_n (lv' := [(3, .int 0), (2, .int (-1)), (0, .ref (ad 0)), (1, .int x)]) hx hb dX3_lastStave_3 rfl hl (by decide) rfl (fun ls hl => ?_)
  have L_4 : ∀ (fu : Nat) (i : Nat), ns - i < fu → (i ≤ ns) → ∀ (H : Heap) (locs : List Loc), cy_W D A s.heap (cy_Mw kI kZ ad S tl) H locs → ∀ (ls : Array Slot), lv_has ls 4 [(2, .int (cq_ls S x i)), (3, .int (nI i)), (0, .ref (ad 0)), (1, .int x)] → W p l e rm_X3_lastStave s m args below meth co H locs 0 0 Q (F0 m 4 ls []) := by
    intro fu
    induction fu with
    | zero => intro i hn; exact absurd hn (Nat.not_lt_zero _)
    | succ fu ih_4 =>
      intro i hn_4 hi H locs hW ls hl
      refine lv_iload_n hx hb dX3_lastStave_4 rfl (lv_at hl 1 rfl) ?_
      refine lv_aload_n hx hb dX3_lastStave_5 rfl (lv_at hl 2 rfl) ?_
      refine cy_get hC (0) (by decide) hi3 hW (rfl) rfl 4 (by decide) (hts (.fieldLink RX3 78 "CaskYardModel" "staves" "I") (by decide +kernel)) (fun _ h9 => h9) (v := .int (S 0 4)) rfl dX3_lastStave_6 ?_
      refine cy_top (y := nI ns) hns ?_
      refine lv_icmp_ge (tgt := 34) hx hb dX3_lastStave_9 (by decide) (fun c_9 => ?_) (fun c_9 => ?_)
      · skip
        have q_9 := cy_le (a := ns) (b := i) (by omega) (by omega) c_9
        obtain rfl : ns = i := by omega
        refine lv_iload_n hx hb dX3_lastStave_34 rfl (lv_at hl 0 rfl) ?_
        exact hE  _ _ _ _ _ _ (Nat.le_of_ble_eq_true rfl) (Nat.le_of_ble_eq_true rfl) hW dX3_lastStave_35
      · skip
        have q_9 := cy_nle (a := ns) (b := i) (by omega) (by omega) c_9
        refine lv_aload_n hx hb dX3_lastStave_12 rfl (lv_at hl 2 rfl) ?_
        refine cy_get hC (0) (by decide) hi3 hW (rfl) rfl 7 (by decide) (hts (.fieldLink RX3 20 "CaskYardModel" "where" "[I") (by decide +kernel)) (fun _ h9 => h9) (v := .ref (ad 3)) rfl dX3_lastStave_13 ?_
        refine lv_iload_n hx hb dX3_lastStave_16 rfl (lv_at hl 1 rfl) ?_
        refine cy_iald hC (3) (by decide) hW 0 (i := i) (rfl) rfl (by omega) (by decide) dX3_lastStave_17 ?_
        refine lv_iload_n hx hb dX3_lastStave_18 rfl (lv_at hl 3 rfl) ?_
        refine lv_icmp_ne (tgt := 26) hx hb dX3_lastStave_19 (by decide) (fun c_19 => ?_) (fun c_19 => ?_)
        · skip
          refine lv_iload_n hx hb dX3_lastStave_26 rfl (lv_at hl 0 rfl) ?_
          refine lv_istore_n (lv' := [(2, .int (cq_ls S x i)), (3, .int (nI i)), (0, .ref (ad 0)), (1, .int x)]) hx hb dX3_lastStave_27 rfl hl (by decide) rfl (fun ls hl => ?_)
          refine lv_iinc (v := nI (i + 1)) (lv' := [(3, .int (nI (i + 1))), (2, .int (cq_ls S x i)), (0, .ref (ad 0)), (1, .int x)]) hx hb dX3_lastStave_28 hl (k := 1) rfl (nI_1 i) (by decide) rfl (fun ls hl => ?_)
          refine lv_goto (tgt := 4) hx hb dX3_lastStave_31 (by decide) ?_
          rw [show cq_ls S x i = cq_ls S x (i + 1) from by simp only [cq_ls, c_9, c_19, eq_self, ↓reduceIte, not_true_eq_false, not_false_eq_true]] at hl
          exact ih_4 (i + 1) (by omega) (by omega) _ _ hW _ (lv_sub hl [1, 0, 2, 3] rfl)
        · skip
          refine lv_iload_n hx hb dX3_lastStave_22 rfl (lv_at hl 1 rfl) ?_
          refine lv_goto (tgt := 27) hx hb dX3_lastStave_23 (by decide) ?_
          refine lv_istore_n (lv' := [(2, .int (nI i)), (3, .int (nI i)), (0, .ref (ad 0)), (1, .int x)]) hx hb dX3_lastStave_27 rfl hl (by decide) rfl (fun ls hl => ?_)
          refine lv_iinc (v := nI (i + 1)) (lv' := [(3, .int (nI (i + 1))), (2, .int (nI i)), (0, .ref (ad 0)), (1, .int x)]) hx hb dX3_lastStave_28 hl (k := 1) rfl (nI_1 i) (by decide) rfl (fun ls hl => ?_)
          refine lv_goto (tgt := 4) hx hb dX3_lastStave_31 (by decide) ?_
          rw [show nI i = cq_ls S x (i + 1) from by simp only [cq_ls, c_9, c_19, eq_self, ↓reduceIte, not_true_eq_false, not_false_eq_true]] at hl
          exact ih_4 (i + 1) (by omega) (by omega) _ _ hW _ (lv_sub hl [1, 0, 2, 3] rfl)
  exact L_4 ((ns - 0) + 1) 0 (Nat.lt_succ_self _) (by omega) _ _ hW _ (lv_sub hl [1, 0, 2, 3] rfl)
abbrev rm_X3_mend : Room := { frames := 2, cells := 0, slots := 0, locals := 43 }
set_option maxHeartbeats 4000000 in
set_option maxRecDepth 100000 in
theorem c_X3_mend {l : Launch} {D : va_G} {kI kJ kZ kC : ClassId} {ad : Nat → Nat} {S : Nat → Nat → Int32} {tl : va_W} {x y : Int32} {nc : Nat} {ns : Nat} (hns : S 0 4 = nI ns) (h60 : ns ≤ 60) (hnc : S 0 12 = nI nc) (h12 : nc ≤ 12) (hst : ∀ c, c < nc → ¬ S 8 c = 0 → ∃ i, i < ns ∧ S 3 i = nI c) : cy_M l yX3_mend wsX3_mend rm_X3_mend D (cy_tys kI kJ kZ kC) [.ref (ad 0), .int x, .int y] (cy_Mw kI kZ ad S tl) (some (.int ((cq_Me S x y ns nc).2))) (cy_Mw kI kZ ad (cq_Me S x y ns nc).1 tl) := by
  refine cy_of (own := RX3) (cc := cX3_mend) (maxL := 4) (ret := (some .int)) (i := .ireturn) (by decide) rfl rfl (Nat.le_of_ble_eq_true rfl) (cy_endI rfl) ?_
  intro p e s m args below meth co Q A ls hC hE hW hl
  have hx := hC.1.1; have hb := hC.1.2.1; have hml := hC.1.2.2.1; have hown := hC.1.2.2.2.1; have hts := hC.1.2.2.2.2
  have hl : lv_has ls 4 [(0, .ref (ad 0)), (1, .int x), (2, .int y)] := hl
  have hi3 : ∀ w ∈ u_ws RX3 TX3 25, w ∈ wsX3_mend := by decide +kernel
  refine lv_aload_n hx hb dX3_mend_0 rfl (lv_at hl 0 rfl) ?_
  refine lv_iconst (v := 0) hx hb dX3_mend_1 (by decide) ?_
  refine cy_put hC (0) (by decide) hi3 tyX3 tyX3_ok nmX3 hW (rfl) rfl 0 (by decide) (hts (.fieldLink RX3 67 "CaskYardModel" "thrown" "I") (by decide +kernel)) (fun _ h9 => h9) rfl (ty := .int) (by decide +kernel) rfl rfl (Nat.le_of_ble_eq_true rfl) (upd (S 0) 0 0) cy_hM0 (S' := (va_up S 0 (upd (S 0) 0 0))) rfl dX3_mend_2 (fun H locs hW => ?_)
  refine lv_aload_n hx hb dX3_mend_5 rfl (lv_at hl 0 rfl) ?_
  refine lv_iload_n hx hb dX3_mend_6 rfl (lv_at hl 1 rfl) ?_
  refine cy_callV (As := [.int x]) (rest := []) (q0 := 0) (ci := 3) hC.1 hC.2.1 hC.2.2 hW (c_X3_isCask (x := x) (nc := nc) hnc (by omega)) (cwV 1 hts gX3_mend_X3_isCask rfl rfl rfl (by decide +kernel) ⟨Nat.le_of_ble_eq_true rfl, Nat.le_of_ble_eq_true rfl⟩) (cy_w_at (by decide) (cy_rd (cy_us) rfl)) rfl rfl hl.1 rfl (Nat.le_of_ble_eq_true rfl) dX3_mend_7 ⟨Nat.le_of_ble_eq_true rfl, Nat.le_of_ble_eq_true rfl⟩ (k' := 0) (n' := 0) rfl rfl (fun H locs hW => ?_)
  refine lv_if_eq (tgt := 21) hx hb dX3_mend_10 (by decide) (fun c_10 => ?_) (fun c_10 => ?_)
  · skip
    refine lv_aload_n hx hb dX3_mend_21 rfl (lv_at hl 0 rfl) ?_
    refine lv_iconst (v := 1) hx hb dX3_mend_22 (by decide) ?_
    refine cy_callV (As := [.int 1]) (rest := []) (q0 := 0) (ci := 3) hC.1 hC.2.1 hC.2.2 hW (c_X3_no (x := 1)) (cwV 1 hts gX3_mend_X3_no rfl rfl rfl (by decide +kernel) ⟨Nat.le_of_ble_eq_true rfl, Nat.le_of_ble_eq_true rfl⟩) (cy_w_at (by decide) (cy_rd (cy_us) rfl)) rfl rfl hl.1 rfl (Nat.le_of_ble_eq_true rfl) dX3_mend_23 ⟨Nat.le_of_ble_eq_true rfl, Nat.le_of_ble_eq_true rfl⟩ (k' := 0) (n' := 0) rfl rfl (fun H locs hW => ?_)
    rw [show va_up (va_up S 0 (upd (S 0) 0 0)) 0 (upd ((va_up S 0 (upd (S 0) 0 0)) 0) 0 1) = (va_up S 0 (upd (upd (S 0) 0 0) 0 1)) from by rw [cy_us, cy_uu]] at hW
    refine cy_topv (congrArg Value.int (show 0 = (cq_Me S x y ns nc).2 from by simp only [cq_Me, cq_th, cq_rs, c_10, eq_self, ↓reduceIte, not_true_eq_false, not_false_eq_true])) ?_
    have hW := cy_castS (show (va_up S 0 (upd (upd (S 0) 0 0) 0 1)) = (cq_Me S x y ns nc).1 from by simp only [cq_Me, cq_th, cq_rs, c_10, eq_self, ↓reduceIte, not_true_eq_false, not_false_eq_true]) hW
    exact hE  _ _ _ _ _ _ (Nat.le_of_ble_eq_true rfl) (Nat.le_of_ble_eq_true rfl) hW dX3_mend_26
  · skip
    obtain ⟨c, hc, rfl⟩ := cq_in_t (by omega) c_10
    have clc : (nI c).toNatClampNeg = c := nI_clamp (by omega)
    have hl : lv_has ls 4 [(0, .ref (ad 0)), (1, .int (nI c)), (2, .int y)] := hl
    refine lv_aload_n hx hb dX3_mend_13 rfl (lv_at hl 0 rfl) ?_
    refine lv_iload_n hx hb dX3_mend_14 rfl (lv_at hl 2 rfl) ?_
    refine cy_callV (As := [.int y]) (rest := []) (q0 := 0) (ci := 3) hC.1 hC.2.1 hC.2.2 hW (c_X3_isStave (x := y) (ns := ns) hns (by omega)) (cwV 1 hts gX3_mend_X3_isStave rfl rfl rfl (by decide +kernel) ⟨Nat.le_of_ble_eq_true rfl, Nat.le_of_ble_eq_true rfl⟩) (cy_w_at (by decide) (cy_rd (cy_us) rfl)) rfl rfl hl.1 rfl (Nat.le_of_ble_eq_true rfl) dX3_mend_15 ⟨Nat.le_of_ble_eq_true rfl, Nat.le_of_ble_eq_true rfl⟩ (k' := 0) (n' := 0) rfl rfl (fun H locs hW => ?_)
    refine lv_if_ne (tgt := 27) hx hb dX3_mend_18 (by decide) (fun c_18 => ?_) (fun c_18 => ?_)
    · skip
      obtain ⟨d, hd, rfl⟩ := cq_in_t (by omega) c_18
      have cld : (nI d).toNatClampNeg = d := nI_clamp (by omega)
      have hl : lv_has ls 4 [(0, .ref (ad 0)), (1, .int (nI c)), (2, .int (nI d))] := hl
      refine lv_aload_n hx hb dX3_mend_27 rfl (lv_at hl 0 rfl) ?_
      refine cy_get hC (0) (by decide) hi3 hW (cy_rd (cy_us) rfl) rfl 14 (by decide) (hts (.fieldLink RX3 35 "CaskYardModel" "isSound" "[Z") (by decide +kernel)) (fun _ h9 => h9) (v := .ref (ad 8)) rfl dX3_mend_28 ?_
      refine lv_iload_n hx hb dX3_mend_31 rfl (lv_at hl 1 rfl) ?_
      refine cy_zald hC (8) (by decide) hW 2 (i := c) (cy_rd (cy_un (by omega)) rfl) rfl (by omega) (by decide) dX3_mend_32 ?_
      refine lv_if_eq (tgt := 73) hx hb dX3_mend_33 (by decide) (fun c_33 => ?_) (fun c_33 => ?_)
      · skip
        refine lv_aload_n hx hb dX3_mend_73 rfl (lv_at hl 0 rfl) ?_
        refine lv_iconst (v := 2) hx hb dX3_mend_74 (by decide) ?_
        refine cy_callV (As := [.int 2]) (rest := []) (q0 := 0) (ci := 3) hC.1 hC.2.1 hC.2.2 hW (c_X3_no (x := 2)) (cwV 1 hts gX3_mend_X3_no rfl rfl rfl (by decide +kernel) ⟨Nat.le_of_ble_eq_true rfl, Nat.le_of_ble_eq_true rfl⟩) (cy_w_at (by decide) (cy_rd (cy_us) rfl)) rfl rfl hl.1 rfl (Nat.le_of_ble_eq_true rfl) dX3_mend_75 ⟨Nat.le_of_ble_eq_true rfl, Nat.le_of_ble_eq_true rfl⟩ (k' := 0) (n' := 0) rfl rfl (fun H locs hW => ?_)
        rw [show va_up (va_up S 0 (upd (S 0) 0 0)) 0 (upd ((va_up S 0 (upd (S 0) 0 0)) 0) 0 2) = (va_up S 0 (upd (upd (S 0) 0 0) 0 2)) from by rw [cy_us, cy_uu]] at hW
        refine cy_topv (congrArg Value.int (show 0 = (cq_Me S (nI c) (nI d) ns nc).2 from by simp only [cq_Me, cq_th, cq_rs, c_10, c_18, c_33, clc, cld, eq_self, ↓reduceIte, not_true_eq_false, not_false_eq_true])) ?_
        have hW := cy_castS (show (va_up S 0 (upd (upd (S 0) 0 0) 0 2)) = (cq_Me S (nI c) (nI d) ns nc).1 from by simp only [cq_Me, cq_th, cq_rs, c_10, c_18, c_33, clc, cld, eq_self, ↓reduceIte, not_true_eq_false, not_false_eq_true]) hW
        exact hE  _ _ _ _ _ _ (Nat.le_of_ble_eq_true rfl) (Nat.le_of_ble_eq_true rfl) hW dX3_mend_78
      · skip
        refine lv_aload_n hx hb dX3_mend_36 rfl (lv_at hl 0 rfl) ?_
        refine lv_iload_n hx hb dX3_mend_37 rfl (lv_at hl 1 rfl) ?_
        refine cy_callV (As := [.int (nI c)]) (rest := []) (q0 := 0) (ci := 3) hC.1 hC.2.1 hC.2.2 hW (c_X3_all (c := c) (by omega)) (cwV 1 hts gX3_mend_X3_all rfl rfl rfl (by decide +kernel) ⟨Nat.le_of_ble_eq_true rfl, Nat.le_of_ble_eq_true rfl⟩) (cy_w_at (by decide) (cy_rd (cy_us) rfl)) rfl rfl hl.1 rfl (Nat.le_of_ble_eq_true rfl) dX3_mend_38 ⟨Nat.le_of_ble_eq_true rfl, Nat.le_of_ble_eq_true rfl⟩ (k' := 0) (n' := 0) rfl rfl (fun H locs hW => ?_)
        refine cy_topv (show _ = Value.int (cq_al S c) from rfl) ?_
        refine lv_if_gt (tgt := 73) hx hb dX3_mend_41 (by decide) (fun c_41 => ?_) (fun c_41 => ?_)
        · skip
          refine lv_aload_n hx hb dX3_mend_73 rfl (lv_at hl 0 rfl) ?_
          refine lv_iconst (v := 2) hx hb dX3_mend_74 (by decide) ?_
          refine cy_callV (As := [.int 2]) (rest := []) (q0 := 0) (ci := 3) hC.1 hC.2.1 hC.2.2 hW (c_X3_no (x := 2)) (cwV 1 hts gX3_mend_X3_no rfl rfl rfl (by decide +kernel) ⟨Nat.le_of_ble_eq_true rfl, Nat.le_of_ble_eq_true rfl⟩) (cy_w_at (by decide) (cy_rd (cy_us) rfl)) rfl rfl hl.1 rfl (Nat.le_of_ble_eq_true rfl) dX3_mend_75 ⟨Nat.le_of_ble_eq_true rfl, Nat.le_of_ble_eq_true rfl⟩ (k' := 0) (n' := 0) rfl rfl (fun H locs hW => ?_)
          rw [show va_up (va_up S 0 (upd (S 0) 0 0)) 0 (upd ((va_up S 0 (upd (S 0) 0 0)) 0) 0 2) = (va_up S 0 (upd (upd (S 0) 0 0) 0 2)) from by rw [cy_us, cy_uu]] at hW
          refine cy_topv (congrArg Value.int (show 0 = (cq_Me S (nI c) (nI d) ns nc).2 from by simp only [cq_Me, cq_th, cq_rs, c_10, c_18, c_33, c_41, clc, cld, eq_self, ↓reduceIte, not_true_eq_false, not_false_eq_true])) ?_
          have hW := cy_castS (show (va_up S 0 (upd (upd (S 0) 0 0) 0 2)) = (cq_Me S (nI c) (nI d) ns nc).1 from by simp only [cq_Me, cq_th, cq_rs, c_10, c_18, c_33, c_41, clc, cld, eq_self, ↓reduceIte, not_true_eq_false, not_false_eq_true]) hW
          exact hE  _ _ _ _ _ _ (Nat.le_of_ble_eq_true rfl) (Nat.le_of_ble_eq_true rfl) hW dX3_mend_78
        · skip
          refine lv_aload_n hx hb dX3_mend_44 rfl (lv_at hl 0 rfl) ?_
          refine cy_get hC (0) (by decide) hi3 hW (cy_rd (cy_us) rfl) rfl 7 (by decide) (hts (.fieldLink RX3 20 "CaskYardModel" "where" "[I") (by decide +kernel)) (fun _ h9 => h9) (v := .ref (ad 3)) rfl dX3_mend_45 ?_
          refine lv_iload_n hx hb dX3_mend_48 rfl (lv_at hl 2 rfl) ?_
          refine cy_iald hC (3) (by decide) hW 0 (i := d) (cy_rd (cy_un (by omega)) rfl) rfl (by omega) (by decide) dX3_mend_49 ?_
          refine lv_iconst (v := (-1)) hx hb dX3_mend_50 (by decide) ?_
          refine lv_icmp_ne (tgt := 73) hx hb dX3_mend_51 (by decide) (fun c_51 => ?_) (fun c_51 => ?_)
          · skip
            refine lv_aload_n hx hb dX3_mend_73 rfl (lv_at hl 0 rfl) ?_
            refine lv_iconst (v := 2) hx hb dX3_mend_74 (by decide) ?_
            refine cy_callV (As := [.int 2]) (rest := []) (q0 := 0) (ci := 3) hC.1 hC.2.1 hC.2.2 hW (c_X3_no (x := 2)) (cwV 1 hts gX3_mend_X3_no rfl rfl rfl (by decide +kernel) ⟨Nat.le_of_ble_eq_true rfl, Nat.le_of_ble_eq_true rfl⟩) (cy_w_at (by decide) (cy_rd (cy_us) rfl)) rfl rfl hl.1 rfl (Nat.le_of_ble_eq_true rfl) dX3_mend_75 ⟨Nat.le_of_ble_eq_true rfl, Nat.le_of_ble_eq_true rfl⟩ (k' := 0) (n' := 0) rfl rfl (fun H locs hW => ?_)
            rw [show va_up (va_up S 0 (upd (S 0) 0 0)) 0 (upd ((va_up S 0 (upd (S 0) 0 0)) 0) 0 2) = (va_up S 0 (upd (upd (S 0) 0 0) 0 2)) from by rw [cy_us, cy_uu]] at hW
            refine cy_topv (congrArg Value.int (show 0 = (cq_Me S (nI c) (nI d) ns nc).2 from by simp only [cq_Me, cq_th, cq_rs, c_10, c_18, c_33, c_41, c_51, clc, cld, eq_self, ↓reduceIte, not_true_eq_false, not_false_eq_true])) ?_
            have hW := cy_castS (show (va_up S 0 (upd (upd (S 0) 0 0) 0 2)) = (cq_Me S (nI c) (nI d) ns nc).1 from by simp only [cq_Me, cq_th, cq_rs, c_10, c_18, c_33, c_41, c_51, clc, cld, eq_self, ↓reduceIte, not_true_eq_false, not_false_eq_true]) hW
            exact hE  _ _ _ _ _ _ (Nat.le_of_ble_eq_true rfl) (Nat.le_of_ble_eq_true rfl) hW dX3_mend_78
          · skip
            refine lv_aload_n hx hb dX3_mend_54 rfl (lv_at hl 0 rfl) ?_
            refine cy_get hC (0) (by decide) hi3 hW (cy_rd (cy_us) rfl) rfl 5 (by decide) (hts (.fieldLink RX3 13 "CaskYardModel" "width" "[I") (by decide +kernel)) (fun _ h9 => h9) (v := .ref (ad 1)) rfl dX3_mend_55 ?_
            refine lv_iload_n hx hb dX3_mend_58 rfl (lv_at hl 2 rfl) ?_
            refine cy_iald hC (1) (by decide) hW 0 (i := d) (cy_rd (cy_un (by omega)) rfl) rfl (by omega) (by decide) dX3_mend_59 ?_
            refine lv_aload_n hx hb dX3_mend_60 rfl (lv_at hl 0 rfl) ?_
            refine cy_get hC (0) (by decide) hi3 hW (cy_rd (cy_us) rfl) rfl 5 (by decide) (hts (.fieldLink RX3 13 "CaskYardModel" "width" "[I") (by decide +kernel)) (fun _ h9 => h9) (v := .ref (ad 1)) rfl dX3_mend_61 ?_
            refine lv_aload_n hx hb dX3_mend_64 rfl (lv_at hl 0 rfl) ?_
            refine lv_iload_n hx hb dX3_mend_65 rfl (lv_at hl 1 rfl) ?_
            refine cy_callV (As := [.int (nI c)]) (rest := [.ref (ad 1), .int (S 1 d)]) (q0 := 0) (ci := 3) hC.1 hC.2.1 hC.2.2 hW (c_X3_lastStave (x := (nI c)) (ns := ns) hns (by omega)) (cwV 1 hts gX3_mend_X3_lastStave rfl rfl rfl (by decide +kernel) ⟨Nat.le_of_ble_eq_true rfl, Nat.le_of_ble_eq_true rfl⟩) (cy_w_at (by decide) (cy_rd (cy_us) rfl)) rfl rfl hl.1 rfl (Nat.le_of_ble_eq_true rfl) dX3_mend_66 ⟨Nat.le_of_ble_eq_true rfl, Nat.le_of_ble_eq_true rfl⟩ (k' := 0) (n' := 0) rfl rfl (fun H locs hW => ?_)
            refine cy_topv (show _ = Value.int (cq_ls S (nI c) ns) from (congrArg Value.int (cq_ls_c (cy_un (by decide))))) ?_
            obtain ⟨k, hk, ek⟩ := cq_ls_k (hst c hc c_33)
            have clk : (cq_ls S (nI c) ns).toNatClampNeg = k := by rw [ek]; exact nI_clamp (by omega)
            refine cy_top (y := nI k) ek ?_
            refine cy_iald hC (1) (by decide) hW 0 (i := k) (cy_rd (cy_un (by omega)) rfl) rfl (by omega) (by decide) dX3_mend_69 ?_
            refine lv_icmp_eq (tgt := 79) hx hb dX3_mend_70 (by decide) (fun c_70 => ?_) (fun c_70 => ?_)
            · skip
              refine lv_aload_n hx hb dX3_mend_79 rfl (lv_at hl 0 rfl) ?_
              refine cy_get hC (0) (by decide) hi3 hW (cy_rd (cy_us) rfl) rfl 7 (by decide) (hts (.fieldLink RX3 20 "CaskYardModel" "where" "[I") (by decide +kernel)) (fun _ h9 => h9) (v := .ref (ad 3)) rfl dX3_mend_80 ?_
              refine lv_aload_n hx hb dX3_mend_83 rfl (lv_at hl 0 rfl) ?_
              refine lv_iload_n hx hb dX3_mend_84 rfl (lv_at hl 1 rfl) ?_
              refine cy_callV (As := [.int (nI c)]) (rest := [.ref (ad 3)]) (q0 := 0) (ci := 3) hC.1 hC.2.1 hC.2.2 hW (c_X3_lastStave (x := (nI c)) (ns := ns) hns (by omega)) (cwV 1 hts gX3_mend_X3_lastStave rfl rfl rfl (by decide +kernel) ⟨Nat.le_of_ble_eq_true rfl, Nat.le_of_ble_eq_true rfl⟩) (cy_w_at (by decide) (cy_rd (cy_us) rfl)) rfl rfl hl.1 rfl (Nat.le_of_ble_eq_true rfl) dX3_mend_85 ⟨Nat.le_of_ble_eq_true rfl, Nat.le_of_ble_eq_true rfl⟩ (k' := 0) (n' := 0) rfl rfl (fun H locs hW => ?_)
              refine cy_topv (show _ = Value.int (cq_ls S (nI c) ns) from (congrArg Value.int (cq_ls_c (cy_un (by decide))))) ?_
              refine cy_top (y := nI k) ek ?_
              refine lv_bipush (v := (-2)) hx hb dX3_mend_88 (by decide) ?_
              refine cy_iast hC (3) (by decide) hW 0 (i := k) (cy_rd (cy_un (by omega)) rfl) rfl (by omega) (by decide) (upd (S 3) k (-2)) rfl (S' := (va_up (va_up S 0 (upd (S 0) 0 0)) 3 (upd (S 3) k (-2)))) rfl dX3_mend_90 (fun H locs hW => ?_)
              refine lv_aload_n hx hb dX3_mend_91 rfl (lv_at hl 0 rfl) ?_
              refine cy_get hC (0) (by decide) hi3 hW (cy_rd ((cy_un (by omega)).trans cy_us) rfl) rfl 7 (by decide) (hts (.fieldLink RX3 20 "CaskYardModel" "where" "[I") (by decide +kernel)) (fun _ h9 => h9) (v := .ref (ad 3)) rfl dX3_mend_92 ?_
              refine lv_iload_n hx hb dX3_mend_95 rfl (lv_at hl 2 rfl) ?_
              refine lv_iload_n hx hb dX3_mend_96 rfl (lv_at hl 1 rfl) ?_
              refine cy_iast hC (3) (by decide) hW 0 (i := d) (cy_rd (cy_us) rfl) rfl (by omega) (by decide) (upd (upd (S 3) k (-2)) d (nI c)) rfl (S' := (va_up (va_up S 0 (upd (S 0) 0 0)) 3 (upd (upd (S 3) k (-2)) d (nI c)))) cy_uu dX3_mend_97 (fun H locs hW => ?_)
              refine lv_aload_n hx hb dX3_mend_98 rfl (lv_at hl 0 rfl) ?_
              refine cy_get hC (0) (by decide) hi3 hW (cy_rd ((cy_un (by omega)).trans cy_us) rfl) rfl 15 (by decide) (hts (.fieldLink RX3 39 "CaskYardModel" "flaws" "[I") (by decide +kernel)) (fun _ h9 => h9) (v := .ref (ad 9)) rfl dX3_mend_99 ?_
              refine lv_iload_n hx hb dX3_mend_102 rfl (lv_at hl 1 rfl) ?_
              refine cy_iald hC (9) (by decide) hW 0 (i := c) (cy_rd ((cy_un (by omega)).trans (cy_un (by omega))) rfl) rfl (by omega) (by decide) dX3_mend_103 ?_
              refine lv_istore_n (lv' := [(3, .int (S 9 c)), (0, .ref (ad 0)), (1, .int (nI c)), (2, .int (nI d))]) hx hb dX3_mend_104 rfl hl (by decide) rfl (fun ls hl => ?_)
              refine lv_aload_n hx hb dX3_mend_105 rfl (lv_at hl 1 rfl) ?_
              refine cy_get hC (0) (by decide) hi3 hW (cy_rd ((cy_un (by omega)).trans cy_us) rfl) rfl 15 (by decide) (hts (.fieldLink RX3 39 "CaskYardModel" "flaws" "[I") (by decide +kernel)) (fun _ h9 => h9) (v := .ref (ad 9)) rfl dX3_mend_106 ?_
              refine lv_iload_n hx hb dX3_mend_109 rfl (lv_at hl 2 rfl) ?_
              refine lv_aload_n hx hb dX3_mend_110 rfl (lv_at hl 1 rfl) ?_
              refine cy_get hC (0) (by decide) hi3 hW (cy_rd ((cy_un (by omega)).trans cy_us) rfl) rfl 6 (by decide) (hts (.fieldLink RX3 17 "CaskYardModel" "dryness" "[I") (by decide +kernel)) (fun _ h9 => h9) (v := .ref (ad 2)) rfl dX3_mend_111 ?_
              refine lv_iload_n hx hb dX3_mend_114 rfl (lv_at hl 3 rfl) ?_
              refine cy_iald hC (2) (by decide) hW 0 (i := d) (cy_rd ((cy_un (by omega)).trans (cy_un (by omega))) rfl) rfl (by omega) (by decide) dX3_mend_115 ?_
              refine lv_bipush (v := 70) hx hb dX3_mend_116 (by decide) ?_
              refine lv_icmp_ge (tgt := 125) hx hb dX3_mend_118 (by decide) (fun c_118 => ?_) (fun c_118 => ?_)
              · skip
                refine lv_iconst (v := 0) hx hb dX3_mend_125 (by decide) ?_
                refine cy_iast hC (9) (by decide) hW 0 (i := c) (cy_rd ((cy_un (by omega)).trans (cy_un (by omega))) rfl) rfl (by omega) (by decide) (upd (S 9) c 0) rfl (S' := (va_up (va_up (va_up S 0 (upd (S 0) 0 0)) 3 (upd (upd (S 3) k (-2)) d (nI c))) 9 (upd (S 9) c 0))) rfl dX3_mend_126 (fun H locs hW => ?_)
                refine lv_iload_n hx hb dX3_mend_127 rfl (lv_at hl 0 rfl) ?_
                refine cy_topv (congrArg Value.int (show S 9 c = (cq_Me S (nI c) (nI d) ns nc).2 from by simp only [cq_Me, cq_th, cq_rs, c_10, c_18, c_33, c_41, c_51, c_70, c_118, clc, cld, clk, eq_self, ↓reduceIte, not_true_eq_false, not_false_eq_true])) ?_
                have hW := cy_castS (show (va_up (va_up (va_up S 0 (upd (S 0) 0 0)) 3 (upd (upd (S 3) k (-2)) d (nI c))) 9 (upd (S 9) c 0)) = (cq_Me S (nI c) (nI d) ns nc).1 from by simp only [cq_Me, cq_th, cq_rs, c_10, c_18, c_33, c_41, c_51, c_70, c_118, clc, cld, clk, eq_self, ↓reduceIte, not_true_eq_false, not_false_eq_true]) hW
                exact hE  _ _ _ _ _ _ (Nat.le_of_ble_eq_true rfl) (Nat.le_of_ble_eq_true rfl) hW dX3_mend_128
              · skip
                refine lv_iconst (v := 1) hx hb dX3_mend_121 (by decide) ?_
                refine lv_goto (tgt := 126) hx hb dX3_mend_122 (by decide) ?_
                refine cy_iast hC (9) (by decide) hW 0 (i := c) (cy_rd ((cy_un (by omega)).trans (cy_un (by omega))) rfl) rfl (by omega) (by decide) (upd (S 9) c 1) rfl (S' := (va_up (va_up (va_up S 0 (upd (S 0) 0 0)) 3 (upd (upd (S 3) k (-2)) d (nI c))) 9 (upd (S 9) c 1))) rfl dX3_mend_126 (fun H locs hW => ?_)
                refine lv_iload_n hx hb dX3_mend_127 rfl (lv_at hl 0 rfl) ?_
                refine cy_topv (congrArg Value.int (show S 9 c = (cq_Me S (nI c) (nI d) ns nc).2 from by simp only [cq_Me, cq_th, cq_rs, c_10, c_18, c_33, c_41, c_51, c_70, c_118, clc, cld, clk, eq_self, ↓reduceIte, not_true_eq_false, not_false_eq_true])) ?_
                have hW := cy_castS (show (va_up (va_up (va_up S 0 (upd (S 0) 0 0)) 3 (upd (upd (S 3) k (-2)) d (nI c))) 9 (upd (S 9) c 1)) = (cq_Me S (nI c) (nI d) ns nc).1 from by simp only [cq_Me, cq_th, cq_rs, c_10, c_18, c_33, c_41, c_51, c_70, c_118, clc, cld, clk, eq_self, ↓reduceIte, not_true_eq_false, not_false_eq_true]) hW
                exact hE  _ _ _ _ _ _ (Nat.le_of_ble_eq_true rfl) (Nat.le_of_ble_eq_true rfl) hW dX3_mend_128
            · skip
              refine lv_aload_n hx hb dX3_mend_73 rfl (lv_at hl 0 rfl) ?_
              refine lv_iconst (v := 2) hx hb dX3_mend_74 (by decide) ?_
              refine cy_callV (As := [.int 2]) (rest := []) (q0 := 0) (ci := 3) hC.1 hC.2.1 hC.2.2 hW (c_X3_no (x := 2)) (cwV 1 hts gX3_mend_X3_no rfl rfl rfl (by decide +kernel) ⟨Nat.le_of_ble_eq_true rfl, Nat.le_of_ble_eq_true rfl⟩) (cy_w_at (by decide) (cy_rd (cy_us) rfl)) rfl rfl hl.1 rfl (Nat.le_of_ble_eq_true rfl) dX3_mend_75 ⟨Nat.le_of_ble_eq_true rfl, Nat.le_of_ble_eq_true rfl⟩ (k' := 0) (n' := 0) rfl rfl (fun H locs hW => ?_)
              rw [show va_up (va_up S 0 (upd (S 0) 0 0)) 0 (upd ((va_up S 0 (upd (S 0) 0 0)) 0) 0 2) = (va_up S 0 (upd (upd (S 0) 0 0) 0 2)) from by rw [cy_us, cy_uu]] at hW
              refine cy_topv (congrArg Value.int (show 0 = (cq_Me S (nI c) (nI d) ns nc).2 from by simp only [cq_Me, cq_th, cq_rs, c_10, c_18, c_33, c_41, c_51, c_70, clc, cld, clk, eq_self, ↓reduceIte, not_true_eq_false, not_false_eq_true])) ?_
              have hW := cy_castS (show (va_up S 0 (upd (upd (S 0) 0 0) 0 2)) = (cq_Me S (nI c) (nI d) ns nc).1 from by simp only [cq_Me, cq_th, cq_rs, c_10, c_18, c_33, c_41, c_51, c_70, clc, cld, clk, eq_self, ↓reduceIte, not_true_eq_false, not_false_eq_true]) hW
              exact hE  _ _ _ _ _ _ (Nat.le_of_ble_eq_true rfl) (Nat.le_of_ble_eq_true rfl) hW dX3_mend_78
    · skip
      refine lv_aload_n hx hb dX3_mend_21 rfl (lv_at hl 0 rfl) ?_
      refine lv_iconst (v := 1) hx hb dX3_mend_22 (by decide) ?_
      refine cy_callV (As := [.int 1]) (rest := []) (q0 := 0) (ci := 3) hC.1 hC.2.1 hC.2.2 hW (c_X3_no (x := 1)) (cwV 1 hts gX3_mend_X3_no rfl rfl rfl (by decide +kernel) ⟨Nat.le_of_ble_eq_true rfl, Nat.le_of_ble_eq_true rfl⟩) (cy_w_at (by decide) (cy_rd (cy_us) rfl)) rfl rfl hl.1 rfl (Nat.le_of_ble_eq_true rfl) dX3_mend_23 ⟨Nat.le_of_ble_eq_true rfl, Nat.le_of_ble_eq_true rfl⟩ (k' := 0) (n' := 0) rfl rfl (fun H locs hW => ?_)
      rw [show va_up (va_up S 0 (upd (S 0) 0 0)) 0 (upd ((va_up S 0 (upd (S 0) 0 0)) 0) 0 1) = (va_up S 0 (upd (upd (S 0) 0 0) 0 1)) from by rw [cy_us, cy_uu]] at hW
      refine cy_topv (congrArg Value.int (show 0 = (cq_Me S (nI c) y ns nc).2 from by simp only [cq_Me, cq_th, cq_rs, c_10, c_18, clc, eq_self, ↓reduceIte, not_true_eq_false, not_false_eq_true])) ?_
      have hW := cy_castS (show (va_up S 0 (upd (upd (S 0) 0 0) 0 1)) = (cq_Me S (nI c) y ns nc).1 from by simp only [cq_Me, cq_th, cq_rs, c_10, c_18, clc, eq_self, ↓reduceIte, not_true_eq_false, not_false_eq_true]) hW
      exact hE  _ _ _ _ _ _ (Nat.le_of_ble_eq_true rfl) (Nat.le_of_ble_eq_true rfl) hW dX3_mend_26
abbrev rm_X3_breakUp : Room := { frames := 2, cells := 0, slots := 0, locals := 43 }
set_option maxHeartbeats 4000000 in
set_option maxRecDepth 100000 in
theorem c_X3_breakUp {l : Launch} {D : va_G} {kI kJ kZ kC : ClassId} {ad : Nat → Nat} {S : Nat → Nat → Int32} {tl : va_W} {x : Int32} {ns : Nat} (hns : S 0 4 = nI ns) (h60 : ns ≤ 60) {nc : Nat} (hnc : S 0 12 = nI nc) (h12 : nc ≤ 12) : cy_M l yX3_breakUp wsX3_breakUp rm_X3_breakUp D (cy_tys kI kJ kZ kC) [.ref (ad 0), .int x] (cy_Mw kI kZ ad S tl) (some (.int ((cq_Br S x ns nc).2))) (cy_Mw kI kZ ad (cq_Br S x ns nc).1 tl) := by
  refine cy_of (own := RX3) (cc := cX3_breakUp) (maxL := 5) (ret := (some .int)) (i := .ireturn) (by decide) rfl rfl (Nat.le_of_ble_eq_true rfl) (cy_endI rfl) ?_
  intro p e s m args below meth co Q A ls hC hE hW hl
  have hx := hC.1.1; have hb := hC.1.2.1; have hml := hC.1.2.2.1; have hown := hC.1.2.2.2.1; have hts := hC.1.2.2.2.2
  have hl : lv_has ls 5 [(0, .ref (ad 0)), (1, .int x)] := hl
  have hi3 : ∀ w ∈ u_ws RX3 TX3 25, w ∈ wsX3_breakUp := by decide +kernel
  refine lv_aload_n hx hb dX3_breakUp_0 rfl (lv_at hl 0 rfl) ?_
  refine lv_iconst (v := 0) hx hb dX3_breakUp_1 (by decide) ?_
  refine cy_put hC (0) (by decide) hi3 tyX3 tyX3_ok nmX3 hW (rfl) rfl 0 (by decide) (hts (.fieldLink RX3 67 "CaskYardModel" "thrown" "I") (by decide +kernel)) (fun _ h9 => h9) rfl (ty := .int) (by decide +kernel) rfl rfl (Nat.le_of_ble_eq_true rfl) (upd (S 0) 0 0) cy_hM0 (S' := (va_up S 0 (upd (S 0) 0 0))) rfl dX3_breakUp_2 (fun H locs hW => ?_)
  refine lv_aload_n hx hb dX3_breakUp_5 rfl (lv_at hl 0 rfl) ?_
  refine lv_iload_n hx hb dX3_breakUp_6 rfl (lv_at hl 1 rfl) ?_
  refine cy_callV (As := [.int x]) (rest := []) (q0 := 0) (ci := 3) hC.1 hC.2.1 hC.2.2 hW (c_X3_isCask (x := x) (nc := nc) hnc (by omega)) (cwV 1 hts gX3_breakUp_X3_isCask rfl rfl rfl (by decide +kernel) ⟨Nat.le_of_ble_eq_true rfl, Nat.le_of_ble_eq_true rfl⟩) (cy_w_at (by decide) (cy_rd (cy_us) rfl)) rfl rfl hl.1 rfl (Nat.le_of_ble_eq_true rfl) dX3_breakUp_7 ⟨Nat.le_of_ble_eq_true rfl, Nat.le_of_ble_eq_true rfl⟩ (k' := 0) (n' := 0) rfl rfl (fun H locs hW => ?_)
  refine lv_if_ne (tgt := 19) hx hb dX3_breakUp_10 (by decide) (fun c_10 => ?_) (fun c_10 => ?_)
  · skip
    obtain ⟨c, hc, rfl⟩ := cq_in_t (by omega) c_10
    have clc : (nI c).toNatClampNeg = c := nI_clamp (by omega)
    have hl : lv_has ls 5 [(0, .ref (ad 0)), (1, .int (nI c))] := hl
    refine lv_aload_n hx hb dX3_breakUp_19 rfl (lv_at hl 0 rfl) ?_
    refine cy_get hC (0) (by decide) hi3 hW (cy_rd (cy_us) rfl) rfl 14 (by decide) (hts (.fieldLink RX3 35 "CaskYardModel" "isSound" "[Z") (by decide +kernel)) (fun _ h9 => h9) (v := .ref (ad 8)) rfl dX3_breakUp_20 ?_
    refine lv_iload_n hx hb dX3_breakUp_23 rfl (lv_at hl 1 rfl) ?_
    refine cy_zald hC (8) (by decide) hW 2 (i := c) (cy_rd (cy_un (by omega)) rfl) rfl (by omega) (by decide) dX3_breakUp_24 ?_
    refine lv_if_ne (tgt := 34) hx hb dX3_breakUp_25 (by decide) (fun c_25 => ?_) (fun c_25 => ?_)
    · skip
      refine lv_aload_n hx hb dX3_breakUp_34 rfl (lv_at hl 0 rfl) ?_
      refine lv_iload_n hx hb dX3_breakUp_35 rfl (lv_at hl 1 rfl) ?_
      refine cy_callV (As := [.int (nI c)]) (rest := []) (q0 := 0) (ci := 3) hC.1 hC.2.1 hC.2.2 hW (c_X3_all (c := c) (by omega)) (cwV 1 hts gX3_breakUp_X3_all rfl rfl rfl (by decide +kernel) ⟨Nat.le_of_ble_eq_true rfl, Nat.le_of_ble_eq_true rfl⟩) (cy_w_at (by decide) (cy_rd (cy_us) rfl)) rfl rfl hl.1 rfl (Nat.le_of_ble_eq_true rfl) dX3_breakUp_36 ⟨Nat.le_of_ble_eq_true rfl, Nat.le_of_ble_eq_true rfl⟩ (k' := 0) (n' := 0) rfl rfl (fun H locs hW => ?_)
      refine cy_topv (show _ = Value.int (cq_al S c) from rfl) ?_
      refine lv_istore_n (lv' := [(2, .int (cq_al S c)), (0, .ref (ad 0)), (1, .int (nI c))]) hx hb dX3_breakUp_39 rfl hl (by decide) rfl (fun ls hl => ?_)
      refine lv_iconst (v := 0) hx hb dX3_breakUp_40 (by decide) ?_
      refine lv_istore_n (lv' := [(3, .int 0), (2, .int (cq_al S c)), (0, .ref (ad 0)), (1, .int (nI c))]) hx hb dX3_breakUp_41 rfl hl (by decide) rfl (fun ls hl => ?_)
      have L_42 : ∀ (fu : Nat) (k : Nat), 5 - k < fu → (k ≤ 5) → ∀ (H : Heap) (locs : List Loc), cy_W D A s.heap (cy_Mw kI kZ ad (cq_em (cq_rs S) c k) tl) H locs → ∀ (ls : Array Slot), lv_has ls 5 [(3, .int (nI k)), (2, .int (cq_al S c)), (0, .ref (ad 0)), (1, .int (nI c))] → W p l e rm_X3_breakUp s m args below meth co H locs 0 0 Q (F0 m 42 ls []) := by
        intro fu
        induction fu with
        | zero => intro k hn; exact absurd hn (Nat.not_lt_zero _)
        | succ fu ih_42 =>
          intro k hn_42 hk H locs hW ls hl
          refine lv_iload_n hx hb dX3_breakUp_42 rfl (lv_at hl 0 rfl) ?_
          refine lv_iconst (v := 5) hx hb dX3_breakUp_43 (by decide) ?_
          refine lv_icmp_ge (tgt := 64) hx hb dX3_breakUp_44 (by decide) (fun c_44 => ?_) (fun c_44 => ?_)
          · skip
            have q_44 := cy_le (a := 5) (b := k) (by omega) (by omega) c_44
            obtain rfl : k = 5 := by omega
            refine lv_aload_n hx hb dX3_breakUp_64 rfl (lv_at hl 2 rfl) ?_
            refine cy_get hC (0) (by decide) hi3 hW (rfl) rfl 21 (by decide) (hts (.fieldLink RX3 57 "CaskYardModel" "grains" "[I") (by decide +kernel)) (fun _ h9 => h9) (v := .ref (ad 15)) rfl dX3_breakUp_65 ?_
            refine lv_iload_n hx hb dX3_breakUp_68 rfl (lv_at hl 3 rfl) ?_
            refine lv_iconst (v := 0) hx hb dX3_breakUp_69 (by decide) ?_
            refine cy_iast hC (15) (by decide) hW 0 (i := c) (rfl) rfl (by omega) (by decide) (upd ((cq_em (cq_rs S) c 5) 15) c 0) rfl (S' := (va_up (cq_em (cq_rs S) c 5) 15 (upd ((cq_em (cq_rs S) c 5) 15) c 0))) rfl dX3_breakUp_70 (fun H locs hW => ?_)
            refine lv_iconst (v := 1) hx hb dX3_breakUp_71 (by decide) ?_
            refine lv_istore_n (lv' := [(3, .int 1), (2, .int (cq_al S c)), (0, .ref (ad 0)), (1, .int (nI c))]) hx hb dX3_breakUp_72 rfl hl (by decide) rfl (fun ls hl => ?_)
            refine lv_iconst (v := 0) hx hb dX3_breakUp_73 (by decide) ?_
            refine lv_istore (lv' := [(4, .int 0), (3, .int 1), (2, .int (cq_al S c)), (0, .ref (ad 0)), (1, .int (nI c))]) hx hb dX3_breakUp_74 hl (by decide) rfl (fun ls hl => ?_)
            have L_76 : ∀ (fu : Nat) (i : Nat), ns - i < fu → (i ≤ ns) → ∀ (H : Heap) (locs : List Loc), cy_W D A s.heap (cy_Mw kI kZ ad (cq_bt (cq_b1 S c) (nI c) i).1 tl) H locs → ∀ (ls : Array Slot), lv_has ls 5 [(3, .int ((cq_bt (cq_b1 S c) (nI c) i).2)), (4, .int (nI i)), (2, .int (cq_al S c)), (0, .ref (ad 0)), (1, .int (nI c))] → W p l e rm_X3_breakUp s m args below meth co H locs 0 0 Q (F0 m 76 ls []) := by
              intro fu
              induction fu with
              | zero => intro i hn; exact absurd hn (Nat.not_lt_zero _)
              | succ fu ih_76 =>
                intro i hn_76 hi H locs hW ls hl
                refine lv_iload hx hb dX3_breakUp_76 (lv_at hl 1 rfl) ?_
                refine lv_aload_n hx hb dX3_breakUp_78 rfl (lv_at hl 3 rfl) ?_
                refine cy_get hC (0) (by decide) hi3 hW (rfl) rfl 4 (by decide) (hts (.fieldLink RX3 78 "CaskYardModel" "staves" "I") (by decide +kernel)) (fun _ h9 => h9) (v := .int (((cq_bt (cq_b1 S c) (nI c) i).1 0) 4)) rfl dX3_breakUp_79 ?_
                refine cy_top (y := nI ns) (by rw [cq_bt_n (by decide) (by decide)]; unfold cq_b1; rw [cy_un (by decide), cq_em_n (by decide)]; exact hns) ?_
                refine lv_icmp_ge (tgt := 145) hx hb dX3_breakUp_82 (by decide) (fun c_82 => ?_) (fun c_82 => ?_)
                · skip
                  have q_82 := cy_le (a := ns) (b := i) (by omega) (by omega) c_82
                  obtain rfl : ns = i := by omega
                  refine lv_aload_n hx hb dX3_breakUp_145 rfl (lv_at hl 3 rfl) ?_
                  refine cy_get hC (0) (by decide) hi3 hW (rfl) rfl 14 (by decide) (hts (.fieldLink RX3 35 "CaskYardModel" "isSound" "[Z") (by decide +kernel)) (fun _ h9 => h9) (v := .ref (ad 8)) rfl dX3_breakUp_146 ?_
                  refine lv_iload_n hx hb dX3_breakUp_149 rfl (lv_at hl 4 rfl) ?_
                  refine lv_iconst (v := 0) hx hb dX3_breakUp_150 (by decide) ?_
                  refine cy_zast hC (8) (by decide) hW 2 (i := c) (x' := 0) (rfl) rfl (by omega) (by decide) rfl (upd ((cq_bt (cq_b1 S c) (nI c) ns).1 8) c 0) rfl (S' := (va_up (cq_bt (cq_b1 S c) (nI c) ns).1 8 (upd ((cq_bt (cq_b1 S c) (nI c) ns).1 8) c 0))) rfl dX3_breakUp_151 (fun H locs hW => ?_)
                  refine lv_iload_n hx hb dX3_breakUp_152 rfl (lv_at hl 2 rfl) ?_
                  refine cy_topv (congrArg Value.int (show cq_al S c = (cq_Br S (nI c) ns nc).2 from by simp only [cq_Br, cq_th, cq_nBr, c_10, c_25, c_82, clc, eq_self, ↓reduceIte, not_true_eq_false, not_false_eq_true])) ?_
                  have hW := cy_castS (show (va_up (cq_bt (cq_b1 S c) (nI c) ns).1 8 (upd ((cq_bt (cq_b1 S c) (nI c) ns).1 8) c 0)) = (cq_Br S (nI c) ns nc).1 from by simp only [cq_Br, cq_th, cq_nBr, c_10, c_25, c_82, clc, eq_self, ↓reduceIte, not_true_eq_false, not_false_eq_true]) hW
                  exact hE  _ _ _ _ _ _ (Nat.le_of_ble_eq_true rfl) (Nat.le_of_ble_eq_true rfl) hW dX3_breakUp_153
                · skip
                  have q_82 := cy_nle (a := ns) (b := i) (by omega) (by omega) c_82
                  refine lv_aload_n hx hb dX3_breakUp_85 rfl (lv_at hl 3 rfl) ?_
                  refine cy_get hC (0) (by decide) hi3 hW (rfl) rfl 7 (by decide) (hts (.fieldLink RX3 20 "CaskYardModel" "where" "[I") (by decide +kernel)) (fun _ h9 => h9) (v := .ref (ad 3)) rfl dX3_breakUp_86 ?_
                  refine lv_iload hx hb dX3_breakUp_89 (lv_at hl 1 rfl) ?_
                  refine cy_iald hC (3) (by decide) hW 0 (i := i) (rfl) rfl (by omega) (by decide) dX3_breakUp_91 ?_
                  refine lv_iload_n hx hb dX3_breakUp_92 rfl (lv_at hl 4 rfl) ?_
                  refine lv_icmp_eq (tgt := 99) hx hb dX3_breakUp_93 (by decide) (fun c_93 => ?_) (fun c_93 => ?_)
                  · skip
                    refine lv_aload_n hx hb dX3_breakUp_99 rfl (lv_at hl 3 rfl) ?_
                    refine cy_get hC (0) (by decide) hi3 hW (rfl) rfl 7 (by decide) (hts (.fieldLink RX3 20 "CaskYardModel" "where" "[I") (by decide +kernel)) (fun _ h9 => h9) (v := .ref (ad 3)) rfl dX3_breakUp_100 ?_
                    refine lv_iload hx hb dX3_breakUp_103 (lv_at hl 1 rfl) ?_
                    refine lv_iload_n hx hb dX3_breakUp_105 rfl (lv_at hl 0 rfl) ?_
                    refine lv_if_eq (tgt := 114) hx hb dX3_breakUp_106 (by decide) (fun c_106 => ?_) (fun c_106 => ?_)
                    · skip
                      refine lv_iconst (v := (-1)) hx hb dX3_breakUp_114 (by decide) ?_
                      refine cy_iast hC (3) (by decide) hW 0 (i := i) (rfl) rfl (by omega) (by decide) (upd ((cq_bt (cq_b1 S c) (nI c) i).1 3) i (-1)) rfl (S' := (va_up (cq_bt (cq_b1 S c) (nI c) i).1 3 (upd ((cq_bt (cq_b1 S c) (nI c) i).1 3) i (-1)))) rfl dX3_breakUp_115 (fun H locs hW => ?_)
                      refine lv_aload_n hx hb dX3_breakUp_116 rfl (lv_at hl 3 rfl) ?_
                      refine cy_get hC (0) (by decide) hi3 hW (cy_rd (cy_un (by omega)) rfl) rfl 6 (by decide) (hts (.fieldLink RX3 17 "CaskYardModel" "dryness" "[I") (by decide +kernel)) (fun _ h9 => h9) (v := .ref (ad 2)) rfl dX3_breakUp_117 ?_
                      refine lv_iload hx hb dX3_breakUp_120 (lv_at hl 1 rfl) ?_
                      refine lv_iconst (v := 0) hx hb dX3_breakUp_122 (by decide) ?_
                      refine lv_aload_n hx hb dX3_breakUp_123 rfl (lv_at hl 3 rfl) ?_
                      refine cy_get hC (0) (by decide) hi3 hW (cy_rd (cy_un (by omega)) rfl) rfl 6 (by decide) (hts (.fieldLink RX3 17 "CaskYardModel" "dryness" "[I") (by decide +kernel)) (fun _ h9 => h9) (v := .ref (ad 2)) rfl dX3_breakUp_124 ?_
                      refine lv_iload hx hb dX3_breakUp_127 (lv_at hl 1 rfl) ?_
                      refine cy_iald hC (2) (by decide) hW 0 (i := i) (cy_rd (cy_un (by omega)) rfl) rfl (by omega) (by decide) dX3_breakUp_129 ?_
                      refine lv_bipush (v := 30) hx hb dX3_breakUp_130 (by decide) ?_
                      refine lv_isub hx hb dX3_breakUp_132 ?_
                      refine va_mmax hx hb (hml.trans hl.1.symm) hown (hts (.methodLink RX3 128 Lib.Math.max.name) (by decide +kernel)) (hts (.static Lib.Math.max.name) (by decide +kernel)) (hts (.initialized "java/lang/Math") (by decide +kernel)) (hts (.code Lib.Math.max.name Lib.Math.max.code 2 (some .int)) (by decide +kernel)) (Nat.le_of_ble_eq_true rfl) (Nat.le_of_ble_eq_true rfl) (Nat.le_of_ble_eq_true rfl) (Nat.le_of_ble_eq_true rfl) dX3_breakUp_133 ?_
                      refine cy_topv (show _ = Value.int (cy_mx 0 ((((cq_bt (cq_b1 S c) (nI c) i).1 2) i) - 30)) from rfl) ?_
                      refine cy_iast hC (2) (by decide) hW 0 (i := i) (cy_rd (cy_un (by omega)) rfl) rfl (by omega) (by decide) (upd ((cq_bt (cq_b1 S c) (nI c) i).1 2) i (cy_mx 0 ((((cq_bt (cq_b1 S c) (nI c) i).1 2) i) - 30))) rfl (S' := (va_up (va_up (cq_bt (cq_b1 S c) (nI c) i).1 3 (upd ((cq_bt (cq_b1 S c) (nI c) i).1 3) i (-1))) 2 (upd ((cq_bt (cq_b1 S c) (nI c) i).1 2) i (cy_mx 0 ((((cq_bt (cq_b1 S c) (nI c) i).1 2) i) - 30))))) rfl dX3_breakUp_136 (fun H locs hW => ?_)
                      refine lv_iconst (v := 0) hx hb dX3_breakUp_137 (by decide) ?_
                      refine lv_istore_n (lv' := [(3, .int 0), (4, .int (nI i)), (2, .int (cq_al S c)), (0, .ref (ad 0)), (1, .int (nI c))]) hx hb dX3_breakUp_138 rfl hl (by decide) rfl (fun ls hl => ?_)
                      refine lv_iinc (v := nI (i + 1)) (lv' := [(4, .int (nI (i + 1))), (3, .int 0), (2, .int (cq_al S c)), (0, .ref (ad 0)), (1, .int (nI c))]) hx hb dX3_breakUp_139 hl (k := 1) rfl (nI_1 i) (by decide) rfl (fun ls hl => ?_)
                      refine lv_goto (tgt := 76) hx hb dX3_breakUp_142 (by decide) ?_
                      rw [show 0 = (cq_bt (cq_b1 S c) (nI c) (i + 1)).2 from by simp only [cq_bt, c_10, c_25, c_82, c_93, c_106, clc, ↓reduceIte]] at hl
                      have hW := cy_castS (show (va_up (va_up (cq_bt (cq_b1 S c) (nI c) i).1 3 (upd ((cq_bt (cq_b1 S c) (nI c) i).1 3) i (-1))) 2 (upd ((cq_bt (cq_b1 S c) (nI c) i).1 2) i (cy_mx 0 ((((cq_bt (cq_b1 S c) (nI c) i).1 2) i) - 30)))) = (cq_bt (cq_b1 S c) (nI c) (i + 1)).1 from by simp only [cq_bt, c_10, c_25, c_82, c_93, c_106, clc, ↓reduceIte]) hW
                      exact ih_76 (i + 1) (by omega) (by omega) _ _ hW _ (lv_sub hl [1, 0, 2, 3, 4] rfl)
                    · skip
                      refine lv_bipush (v := (-2)) hx hb dX3_breakUp_109 (by decide) ?_
                      refine lv_goto (tgt := 115) hx hb dX3_breakUp_111 (by decide) ?_
                      refine cy_iast hC (3) (by decide) hW 0 (i := i) (rfl) rfl (by omega) (by decide) (upd ((cq_bt (cq_b1 S c) (nI c) i).1 3) i (-2)) rfl (S' := (va_up (cq_bt (cq_b1 S c) (nI c) i).1 3 (upd ((cq_bt (cq_b1 S c) (nI c) i).1 3) i (-2)))) rfl dX3_breakUp_115 (fun H locs hW => ?_)
                      refine lv_aload_n hx hb dX3_breakUp_116 rfl (lv_at hl 3 rfl) ?_
                      refine cy_get hC (0) (by decide) hi3 hW (cy_rd (cy_un (by omega)) rfl) rfl 6 (by decide) (hts (.fieldLink RX3 17 "CaskYardModel" "dryness" "[I") (by decide +kernel)) (fun _ h9 => h9) (v := .ref (ad 2)) rfl dX3_breakUp_117 ?_
                      refine lv_iload hx hb dX3_breakUp_120 (lv_at hl 1 rfl) ?_
                      refine lv_iconst (v := 0) hx hb dX3_breakUp_122 (by decide) ?_
                      refine lv_aload_n hx hb dX3_breakUp_123 rfl (lv_at hl 3 rfl) ?_
                      refine cy_get hC (0) (by decide) hi3 hW (cy_rd (cy_un (by omega)) rfl) rfl 6 (by decide) (hts (.fieldLink RX3 17 "CaskYardModel" "dryness" "[I") (by decide +kernel)) (fun _ h9 => h9) (v := .ref (ad 2)) rfl dX3_breakUp_124 ?_
                      refine lv_iload hx hb dX3_breakUp_127 (lv_at hl 1 rfl) ?_
                      refine cy_iald hC (2) (by decide) hW 0 (i := i) (cy_rd (cy_un (by omega)) rfl) rfl (by omega) (by decide) dX3_breakUp_129 ?_
                      refine lv_bipush (v := 30) hx hb dX3_breakUp_130 (by decide) ?_
                      refine lv_isub hx hb dX3_breakUp_132 ?_
                      refine va_mmax hx hb (hml.trans hl.1.symm) hown (hts (.methodLink RX3 128 Lib.Math.max.name) (by decide +kernel)) (hts (.static Lib.Math.max.name) (by decide +kernel)) (hts (.initialized "java/lang/Math") (by decide +kernel)) (hts (.code Lib.Math.max.name Lib.Math.max.code 2 (some .int)) (by decide +kernel)) (Nat.le_of_ble_eq_true rfl) (Nat.le_of_ble_eq_true rfl) (Nat.le_of_ble_eq_true rfl) (Nat.le_of_ble_eq_true rfl) dX3_breakUp_133 ?_
                      refine cy_topv (show _ = Value.int (cy_mx 0 ((((cq_bt (cq_b1 S c) (nI c) i).1 2) i) - 30)) from rfl) ?_
                      refine cy_iast hC (2) (by decide) hW 0 (i := i) (cy_rd (cy_un (by omega)) rfl) rfl (by omega) (by decide) (upd ((cq_bt (cq_b1 S c) (nI c) i).1 2) i (cy_mx 0 ((((cq_bt (cq_b1 S c) (nI c) i).1 2) i) - 30))) rfl (S' := (va_up (va_up (cq_bt (cq_b1 S c) (nI c) i).1 3 (upd ((cq_bt (cq_b1 S c) (nI c) i).1 3) i (-2))) 2 (upd ((cq_bt (cq_b1 S c) (nI c) i).1 2) i (cy_mx 0 ((((cq_bt (cq_b1 S c) (nI c) i).1 2) i) - 30))))) rfl dX3_breakUp_136 (fun H locs hW => ?_)
                      refine lv_iconst (v := 0) hx hb dX3_breakUp_137 (by decide) ?_
                      refine lv_istore_n (lv' := [(3, .int 0), (4, .int (nI i)), (2, .int (cq_al S c)), (0, .ref (ad 0)), (1, .int (nI c))]) hx hb dX3_breakUp_138 rfl hl (by decide) rfl (fun ls hl => ?_)
                      refine lv_iinc (v := nI (i + 1)) (lv' := [(4, .int (nI (i + 1))), (3, .int 0), (2, .int (cq_al S c)), (0, .ref (ad 0)), (1, .int (nI c))]) hx hb dX3_breakUp_139 hl (k := 1) rfl (nI_1 i) (by decide) rfl (fun ls hl => ?_)
                      refine lv_goto (tgt := 76) hx hb dX3_breakUp_142 (by decide) ?_
                      rw [show 0 = (cq_bt (cq_b1 S c) (nI c) (i + 1)).2 from by simp only [cq_bt, c_10, c_25, c_82, c_93, c_106, clc, ↓reduceIte]] at hl
                      have hW := cy_castS (show (va_up (va_up (cq_bt (cq_b1 S c) (nI c) i).1 3 (upd ((cq_bt (cq_b1 S c) (nI c) i).1 3) i (-2))) 2 (upd ((cq_bt (cq_b1 S c) (nI c) i).1 2) i (cy_mx 0 ((((cq_bt (cq_b1 S c) (nI c) i).1 2) i) - 30)))) = (cq_bt (cq_b1 S c) (nI c) (i + 1)).1 from by simp only [cq_bt, c_10, c_25, c_82, c_93, c_106, clc, ↓reduceIte]) hW
                      exact ih_76 (i + 1) (by omega) (by omega) _ _ hW _ (lv_sub hl [1, 0, 2, 3, 4] rfl)
                  · skip
                    refine lv_goto (tgt := 139) hx hb dX3_breakUp_96 (by decide) ?_
                    refine lv_iinc (v := nI (i + 1)) (lv' := [(4, .int (nI (i + 1))), (3, .int ((cq_bt (cq_b1 S c) (nI c) i).2)), (2, .int (cq_al S c)), (0, .ref (ad 0)), (1, .int (nI c))]) hx hb dX3_breakUp_139 hl (k := 1) rfl (nI_1 i) (by decide) rfl (fun ls hl => ?_)
                    refine lv_goto (tgt := 76) hx hb dX3_breakUp_142 (by decide) ?_
                    rw [show (cq_bt (cq_b1 S c) (nI c) i).2 = (cq_bt (cq_b1 S c) (nI c) (i + 1)).2 from by simp only [cq_bt, c_10, c_25, c_82, c_93, clc, ↓reduceIte]] at hl
                    have hW := cy_castS (show (cq_bt (cq_b1 S c) (nI c) i).1 = (cq_bt (cq_b1 S c) (nI c) (i + 1)).1 from by simp only [cq_bt, c_10, c_25, c_82, c_93, clc, ↓reduceIte]) hW
                    exact ih_76 (i + 1) (by omega) (by omega) _ _ hW _ (lv_sub hl [1, 0, 2, 3, 4] rfl)
            exact L_76 ((ns - 0) + 1) 0 (Nat.lt_succ_self _) (by omega) _ _ hW _ (lv_sub hl [1, 0, 2, 3, 4] rfl)
          · skip
            have q_44 := cy_nle (a := 5) (b := k) (by omega) (by omega) c_44
            refine lv_aload_n hx hb dX3_breakUp_47 rfl (lv_at hl 2 rfl) ?_
            refine cy_get hC (0) (by decide) hi3 hW (rfl) rfl 20 (by decide) (hts (.fieldLink RX3 54 "CaskYardModel" "holds" "[I") (by decide +kernel)) (fun _ h9 => h9) (v := .ref (ad 14)) rfl dX3_breakUp_48 ?_
            refine lv_iconst (v := 5) hx hb dX3_breakUp_51 (by decide) ?_
            refine lv_iload_n hx hb dX3_breakUp_52 rfl (lv_at hl 3 rfl) ?_
            refine lv_imul hx hb dX3_breakUp_53 ?_
            refine cy_top (pk_mul 5 c) ?_
            refine lv_iload_n hx hb dX3_breakUp_54 rfl (lv_at hl 0 rfl) ?_
            refine lv_iadd hx hb dX3_breakUp_55 ?_
            refine cy_top (nI_add (5 * c) k) ?_
            refine lv_iconst (v := 0) hx hb dX3_breakUp_56 (by decide) ?_
            refine cy_iast hC (14) (by decide) hW 0 (i := ((5 * c) + k)) (rfl) rfl (by omega) (by decide) (upd ((cq_em (cq_rs S) c k) 14) ((5 * c) + k) 0) rfl (S' := (va_up (cq_em (cq_rs S) c k) 14 (upd ((cq_em (cq_rs S) c k) 14) ((5 * c) + k) 0))) rfl dX3_breakUp_57 (fun H locs hW => ?_)
            refine lv_iinc (v := nI (k + 1)) (lv' := [(3, .int (nI (k + 1))), (2, .int (cq_al S c)), (0, .ref (ad 0)), (1, .int (nI c))]) hx hb dX3_breakUp_58 hl (k := 0) rfl (nI_1 k) (by decide) rfl (fun ls hl => ?_)
            refine lv_goto (tgt := 42) hx hb dX3_breakUp_61 (by decide) ?_
            exact ih_42 (k + 1) (by omega) (by omega) _ _ hW _ (lv_sub hl [0, 1, 2, 3] rfl)
      exact L_42 ((5 - 0) + 1) 0 (Nat.lt_succ_self _) (by omega) _ _ hW _ (lv_sub hl [0, 1, 2, 3] rfl)
    · skip
      refine lv_aload_n hx hb dX3_breakUp_28 rfl (lv_at hl 0 rfl) ?_
      refine lv_iconst (v := 2) hx hb dX3_breakUp_29 (by decide) ?_
      refine cy_callV (As := [.int 2]) (rest := []) (q0 := 0) (ci := 3) hC.1 hC.2.1 hC.2.2 hW (c_X3_no (x := 2)) (cwV 1 hts gX3_breakUp_X3_no rfl rfl rfl (by decide +kernel) ⟨Nat.le_of_ble_eq_true rfl, Nat.le_of_ble_eq_true rfl⟩) (cy_w_at (by decide) (cy_rd (cy_us) rfl)) rfl rfl hl.1 rfl (Nat.le_of_ble_eq_true rfl) dX3_breakUp_30 ⟨Nat.le_of_ble_eq_true rfl, Nat.le_of_ble_eq_true rfl⟩ (k' := 0) (n' := 0) rfl rfl (fun H locs hW => ?_)
      rw [show va_up (va_up S 0 (upd (S 0) 0 0)) 0 (upd ((va_up S 0 (upd (S 0) 0 0)) 0) 0 2) = (va_up S 0 (upd (upd (S 0) 0 0) 0 2)) from by rw [cy_us, cy_uu]] at hW
      refine cy_topv (congrArg Value.int (show 0 = (cq_Br S (nI c) ns nc).2 from by simp only [cq_Br, cq_th, cq_nBr, c_10, c_25, clc, eq_self, ↓reduceIte, not_true_eq_false, not_false_eq_true])) ?_
      have hW := cy_castS (show (va_up S 0 (upd (upd (S 0) 0 0) 0 2)) = (cq_Br S (nI c) ns nc).1 from by simp only [cq_Br, cq_th, cq_nBr, c_10, c_25, clc, eq_self, ↓reduceIte, not_true_eq_false, not_false_eq_true]) hW
      exact hE  _ _ _ _ _ _ (Nat.le_of_ble_eq_true rfl) (Nat.le_of_ble_eq_true rfl) hW dX3_breakUp_33
  · skip
    refine lv_aload_n hx hb dX3_breakUp_13 rfl (lv_at hl 0 rfl) ?_
    refine lv_iconst (v := 1) hx hb dX3_breakUp_14 (by decide) ?_
    refine cy_callV (As := [.int 1]) (rest := []) (q0 := 0) (ci := 3) hC.1 hC.2.1 hC.2.2 hW (c_X3_no (x := 1)) (cwV 1 hts gX3_breakUp_X3_no rfl rfl rfl (by decide +kernel) ⟨Nat.le_of_ble_eq_true rfl, Nat.le_of_ble_eq_true rfl⟩) (cy_w_at (by decide) (cy_rd (cy_us) rfl)) rfl rfl hl.1 rfl (Nat.le_of_ble_eq_true rfl) dX3_breakUp_15 ⟨Nat.le_of_ble_eq_true rfl, Nat.le_of_ble_eq_true rfl⟩ (k' := 0) (n' := 0) rfl rfl (fun H locs hW => ?_)
    rw [show va_up (va_up S 0 (upd (S 0) 0 0)) 0 (upd ((va_up S 0 (upd (S 0) 0 0)) 0) 0 1) = (va_up S 0 (upd (upd (S 0) 0 0) 0 1)) from by rw [cy_us, cy_uu]] at hW
    refine cy_topv (congrArg Value.int (show 0 = (cq_Br S x ns nc).2 from by simp only [cq_Br, cq_th, cq_nBr, c_10, eq_self, ↓reduceIte, not_true_eq_false, not_false_eq_true])) ?_
    have hW := cy_castS (show (va_up S 0 (upd (upd (S 0) 0 0) 0 1)) = (cq_Br S x ns nc).1 from by simp only [cq_Br, cq_th, cq_nBr, c_10, eq_self, ↓reduceIte, not_true_eq_false, not_false_eq_true]) hW
    exact hE  _ _ _ _ _ _ (Nat.le_of_ble_eq_true rfl) (Nat.le_of_ble_eq_true rfl) hW dX3_breakUp_18
abbrev rm_X3_stavesOf : Room := { frames := 0, cells := 0, slots := 0, locals := 0 }
set_option maxHeartbeats 4000000 in
set_option maxRecDepth 100000 in
theorem c_X3_stavesOf {l : Launch} {D : va_G} {kI kJ kZ kC : ClassId} {ad : Nat → Nat} {S : Nat → Nat → Int32} {tl : va_W} {x : Int32} {ns : Nat} (hns : S 0 4 = nI ns) (h60 : ns ≤ 60) : cy_M l yX3_stavesOf wsX3_stavesOf rm_X3_stavesOf D (cy_tys kI kJ kZ kC) [.ref (ad 0), .int x] (cy_Mw kI kZ ad S tl) (some (.int (cq_sa S x ns))) (cy_Mw kI kZ ad S tl) := by
  refine cy_of (own := RX3) (cc := cX3_stavesOf) (maxL := 4) (ret := (some .int)) (i := .ireturn) (by decide) rfl rfl (Nat.le_of_ble_eq_true rfl) (cy_endI rfl) ?_
  intro p e s m args below meth co Q A ls hC hE hW hl
  have hx := hC.1.1; have hb := hC.1.2.1; have hml := hC.1.2.2.1; have hown := hC.1.2.2.2.1; have hts := hC.1.2.2.2.2
  have hl : lv_has ls 4 [(0, .ref (ad 0)), (1, .int x)] := hl
  have hi3 : ∀ w ∈ u_ws RX3 TX3 25, w ∈ wsX3_stavesOf := by decide +kernel
  refine lv_iconst (v := 0) hx hb dX3_stavesOf_0 (by decide) ?_
  refine lv_istore_n (lv' := [(2, .int 0), (0, .ref (ad 0)), (1, .int x)]) hx hb dX3_stavesOf_1 rfl hl (by decide) rfl (fun ls hl => ?_)
  refine lv_iconst (v := 0) hx hb dX3_stavesOf_2 (by decide) ?_
  refine lv_istore_n (lv' := [(3, .int 0), (2, .int 0), (0, .ref (ad 0)), (1, .int x)]) hx hb dX3_stavesOf_3 rfl hl (by decide) rfl (fun ls hl => ?_)
  have L_4 : ∀ (fu : Nat) (i : Nat), ns - i < fu → (i ≤ ns) → ∀ (H : Heap) (locs : List Loc), cy_W D A s.heap (cy_Mw kI kZ ad S tl) H locs → ∀ (ls : Array Slot), lv_has ls 4 [(2, .int (cq_sa S x i)), (3, .int (nI i)), (0, .ref (ad 0)), (1, .int x)] → W p l e rm_X3_stavesOf s m args below meth co H locs 0 0 Q (F0 m 4 ls []) := by
    intro fu
    induction fu with
    | zero => intro i hn; exact absurd hn (Nat.not_lt_zero _)
    | succ fu ih_4 =>
      intro i hn_4 hi H locs hW ls hl
      refine lv_iload_n hx hb dX3_stavesOf_4 rfl (lv_at hl 1 rfl) ?_
      refine lv_aload_n hx hb dX3_stavesOf_5 rfl (lv_at hl 2 rfl) ?_
      refine cy_get hC (0) (by decide) hi3 hW (rfl) rfl 4 (by decide) (hts (.fieldLink RX3 78 "CaskYardModel" "staves" "I") (by decide +kernel)) (fun _ h9 => h9) (v := .int (S 0 4)) rfl dX3_stavesOf_6 ?_
      refine cy_top (y := nI ns) hns ?_
      refine lv_icmp_ge (tgt := 36) hx hb dX3_stavesOf_9 (by decide) (fun c_9 => ?_) (fun c_9 => ?_)
      · skip
        have q_9 := cy_le (a := ns) (b := i) (by omega) (by omega) c_9
        obtain rfl : ns = i := by omega
        refine lv_iload_n hx hb dX3_stavesOf_36 rfl (lv_at hl 0 rfl) ?_
        exact hE  _ _ _ _ _ _ (Nat.le_of_ble_eq_true rfl) (Nat.le_of_ble_eq_true rfl) hW dX3_stavesOf_37
      · skip
        have q_9 := cy_nle (a := ns) (b := i) (by omega) (by omega) c_9
        refine lv_iload_n hx hb dX3_stavesOf_12 rfl (lv_at hl 0 rfl) ?_
        refine lv_aload_n hx hb dX3_stavesOf_13 rfl (lv_at hl 2 rfl) ?_
        refine cy_get hC (0) (by decide) hi3 hW (rfl) rfl 7 (by decide) (hts (.fieldLink RX3 20 "CaskYardModel" "where" "[I") (by decide +kernel)) (fun _ h9 => h9) (v := .ref (ad 3)) rfl dX3_stavesOf_14 ?_
        refine lv_iload_n hx hb dX3_stavesOf_17 rfl (lv_at hl 1 rfl) ?_
        refine cy_iald hC (3) (by decide) hW 0 (i := i) (rfl) rfl (by omega) (by decide) dX3_stavesOf_18 ?_
        refine lv_iload_n hx hb dX3_stavesOf_19 rfl (lv_at hl 3 rfl) ?_
        refine lv_icmp_ne (tgt := 27) hx hb dX3_stavesOf_20 (by decide) (fun c_20 => ?_) (fun c_20 => ?_)
        · skip
          refine lv_iconst (v := 0) hx hb dX3_stavesOf_27 (by decide) ?_
          refine lv_iadd hx hb dX3_stavesOf_28 ?_
          refine lv_istore_n (lv' := [(2, .int ((cq_sa S x i) + 0)), (3, .int (nI i)), (0, .ref (ad 0)), (1, .int x)]) hx hb dX3_stavesOf_29 rfl hl (by decide) rfl (fun ls hl => ?_)
          refine lv_iinc (v := nI (i + 1)) (lv' := [(3, .int (nI (i + 1))), (2, .int ((cq_sa S x i) + 0)), (0, .ref (ad 0)), (1, .int x)]) hx hb dX3_stavesOf_30 hl (k := 1) rfl (nI_1 i) (by decide) rfl (fun ls hl => ?_)
          refine lv_goto (tgt := 4) hx hb dX3_stavesOf_33 (by decide) ?_
          rw [show (cq_sa S x i) + 0 = cq_sa S x (i + 1) from by simp only [cq_sa, c_9, c_20, eq_self, ↓reduceIte, not_true_eq_false, not_false_eq_true]] at hl
          exact ih_4 (i + 1) (by omega) (by omega) _ _ hW _ (lv_sub hl [1, 0, 2, 3] rfl)
        · skip
          refine lv_iconst (v := 1) hx hb dX3_stavesOf_23 (by decide) ?_
          refine lv_goto (tgt := 28) hx hb dX3_stavesOf_24 (by decide) ?_
          refine lv_iadd hx hb dX3_stavesOf_28 ?_
          refine lv_istore_n (lv' := [(2, .int ((cq_sa S x i) + 1)), (3, .int (nI i)), (0, .ref (ad 0)), (1, .int x)]) hx hb dX3_stavesOf_29 rfl hl (by decide) rfl (fun ls hl => ?_)
          refine lv_iinc (v := nI (i + 1)) (lv' := [(3, .int (nI (i + 1))), (2, .int ((cq_sa S x i) + 1)), (0, .ref (ad 0)), (1, .int x)]) hx hb dX3_stavesOf_30 hl (k := 1) rfl (nI_1 i) (by decide) rfl (fun ls hl => ?_)
          refine lv_goto (tgt := 4) hx hb dX3_stavesOf_33 (by decide) ?_
          rw [show (cq_sa S x i) + 1 = cq_sa S x (i + 1) from by simp only [cq_sa, c_9, c_20, eq_self, ↓reduceIte, not_true_eq_false, not_false_eq_true]] at hl
          exact ih_4 (i + 1) (by omega) (by omega) _ _ hW _ (lv_sub hl [1, 0, 2, 3] rfl)
  exact L_4 ((ns - 0) + 1) 0 (Nat.lt_succ_self _) (by omega) _ _ hW _ (lv_sub hl [1, 0, 2, 3] rfl)
abbrev rm_X3_leak : Room := { frames := 2, cells := 0, slots := 0, locals := 44 }
set_option maxHeartbeats 4000000 in
set_option maxRecDepth 100000 in
theorem c_X3_leak {l : Launch} {D : va_G} {kI kJ kZ kC : ClassId} {ad : Nat → Nat} {S : Nat → Nat → Int32} {tl : va_W} {c : Nat} (hc : c < 12) (hq : cq_ok S) : cy_M l yX3_leak wsX3_leak rm_X3_leak D (cy_tys kI kJ kZ kC) [.ref (ad 0), .int (nI c)] (cy_Mw kI kZ ad S tl) (some (.int (cq_lk S c))) (cy_Mw kI kZ ad S tl) := by
  refine cy_of (own := RX3) (cc := cX3_leak) (maxL := 2) (ret := (some .int)) (i := .ireturn) (by decide) rfl rfl (Nat.le_of_ble_eq_true rfl) (cy_endI rfl) ?_
  intro p e s m args below meth co Q A ls hC hE hW hl
  have hx := hC.1.1; have hb := hC.1.2.1; have hml := hC.1.2.2.1; have hown := hC.1.2.2.2.1; have hts := hC.1.2.2.2.2
  have hl : lv_has ls 2 [(0, .ref (ad 0)), (1, .int (nI c))] := hl
  have hi3 : ∀ w ∈ u_ws RX3 TX3 25, w ∈ wsX3_leak := by decide +kernel
  refine lv_iconst (v := 0) hx hb dX3_leak_0 (by decide) ?_
  refine lv_bipush (v := 30) hx hb dX3_leak_1 (by decide) ?_
  refine lv_bipush (v := 10) hx hb dX3_leak_3 (by decide) ?_
  refine lv_aload_n hx hb dX3_leak_5 rfl (lv_at hl 0 rfl) ?_
  refine cy_get hC (0) (by decide) hi3 hW (rfl) rfl 15 (by decide) (hts (.fieldLink RX3 39 "CaskYardModel" "flaws" "[I") (by decide +kernel)) (fun _ h9 => h9) (v := .ref (ad 9)) rfl dX3_leak_6 ?_
  refine lv_iload_n hx hb dX3_leak_9 rfl (lv_at hl 1 rfl) ?_
  refine cy_iald hC (9) (by decide) hW 0 (i := c) (rfl) rfl (by omega) (by decide) dX3_leak_10 ?_
  refine lv_imul hx hb dX3_leak_11 ?_
  refine lv_iadd hx hb dX3_leak_12 ?_
  refine lv_iconst (v := 2) hx hb dX3_leak_13 (by decide) ?_
  refine lv_aload_n hx hb dX3_leak_14 rfl (lv_at hl 0 rfl) ?_
  refine lv_iload_n hx hb dX3_leak_15 rfl (lv_at hl 1 rfl) ?_
  refine cy_callV (As := [.int (nI c)]) (rest := [.int 2, .int (30 + (10 * (S 9 c))), .int 0]) (q0 := 0) (ci := 3) hC.1 hC.2.1 hC.2.2 hW (c_X3_tensions (c := c) (by omega) (cq_ok_of rfl rfl hq)) (cwV 1 hts gX3_leak_X3_tensions rfl rfl rfl (by decide +kernel) ⟨Nat.le_of_ble_eq_true rfl, Nat.le_of_ble_eq_true rfl⟩) (cy_w_at (by decide) (rfl)) rfl rfl hl.1 rfl (Nat.le_of_ble_eq_true rfl) dX3_leak_16 ⟨Nat.le_of_ble_eq_true rfl, Nat.le_of_ble_eq_true rfl⟩ (k' := 0) (n' := 0) rfl rfl (fun H locs hW => ?_)
  refine lv_imul hx hb dX3_leak_19 ?_
  refine lv_isub hx hb dX3_leak_20 ?_
  refine lv_aload_n hx hb dX3_leak_21 rfl (lv_at hl 0 rfl) ?_
  refine cy_get hC (0) (by decide) hi3 hW (rfl) rfl 17 (by decide) (hts (.fieldLink RX3 45 "CaskYardModel" "swelling" "[I") (by decide +kernel)) (fun _ h9 => h9) (v := .ref (ad 11)) rfl dX3_leak_22 ?_
  refine lv_iload_n hx hb dX3_leak_25 rfl (lv_at hl 1 rfl) ?_
  refine cy_iald hC (11) (by decide) hW 0 (i := c) (rfl) rfl (by omega) (by decide) dX3_leak_26 ?_
  refine lv_isub hx hb dX3_leak_27 ?_
  refine va_mmax hx hb (hml.trans hl.1.symm) hown (hts (.methodLink RX3 128 Lib.Math.max.name) (by decide +kernel)) (hts (.static Lib.Math.max.name) (by decide +kernel)) (hts (.initialized "java/lang/Math") (by decide +kernel)) (hts (.code Lib.Math.max.name Lib.Math.max.code 2 (some .int)) (by decide +kernel)) (Nat.le_of_ble_eq_true rfl) (Nat.le_of_ble_eq_true rfl) (Nat.le_of_ble_eq_true rfl) (Nat.le_of_ble_eq_true rfl) dX3_leak_28 ?_
  refine cy_topv (show _ = Value.int (cy_mx 0 (((30 + (10 * (S 9 c))) - (2 * (cq_tn S c))) - (S 11 c))) from rfl) ?_
  refine cy_topv (congrArg Value.int (show cy_mx 0 (((30 + (10 * (S 9 c))) - (2 * (cq_tn S c))) - (S 11 c)) = cq_lk S c from by rfl)) ?_
  exact hE  _ _ _ _ _ _ (Nat.le_of_ble_eq_true rfl) (Nat.le_of_ble_eq_true rfl) hW dX3_leak_31
abbrev rm_X3_caskTold : Room := { frames := 3, cells := 1, slots := 8, locals := 65 }
set_option maxHeartbeats 4000000 in
set_option maxRecDepth 100000 in
theorem c_X3_caskTold {l : Launch} {D : va_G} {kI kJ kZ kC : ClassId} {ad : Nat → Nat} {S : Nat → Nat → Int32} {tl : va_W} {c x : Nat} (hc : c < 12) (hx16 : x < 16) {ns : Nat} (hns : S 0 4 = nI ns) (h60 : ns ≤ 60) (hq : cq_ok S) : cy_M l yX3_caskTold wsX3_caskTold rm_X3_caskTold D (cy_tys kI kJ kZ kC) [.ref (ad 0), .int (nI c), .int (nI x)] (cy_Mw kI kZ ad S tl) (some (.int (cq_ct S ns c x))) (cy_Mw kI kZ ad S tl) := by
  refine cy_of (own := RX3) (cc := cX3_caskTold) (maxL := 4) (ret := (some .int)) (i := .ireturn) (by decide) rfl rfl (Nat.le_of_ble_eq_true rfl) (cy_endI rfl) ?_
  intro p e s m args below meth co Q A ls hC hE hW hl
  have hx := hC.1.1; have hb := hC.1.2.1; have hml := hC.1.2.2.1; have hown := hC.1.2.2.2.1; have hts := hC.1.2.2.2.2
  have hl : lv_has ls 4 [(0, .ref (ad 0)), (1, .int (nI c)), (2, .int (nI x))] := hl
  have hi3 : ∀ w ∈ u_ws RX3 TX3 25, w ∈ wsX3_caskTold := by decide +kernel
  have hs_x : x = 0 ∨ x = 1 ∨ x = 2 ∨ x = 3 ∨ x = 4 ∨ x = 5 ∨ x = 6 ∨ x = 7 ∨ x = 8 ∨ x = 9 ∨ x = 10 ∨ x = 11 ∨ x = 12 ∨ x = 13 ∨ x = 14 ∨ x = 15 := by omega
  rcases hs_x with rfl | rfl | rfl | rfl | rfl | rfl | rfl | rfl | rfl | rfl | rfl | rfl | rfl | rfl | rfl | rfl
  · have hl := hl
    have hl : lv_has ls 4 [(0, .ref (ad 0)), (1, .int (nI c)), (2, .int 0)] := hl
    refine lv_iload_n hx hb dX3_caskTold_0 rfl (lv_at hl 2 rfl) ?_
    refine lv_if_ne (tgt := 11) hx hb dX3_caskTold_1 (by decide) (fun c_1 => ?_) (fun c_1 => ?_)
    · exact absurd c_1 (by decide)
    · skip
      refine lv_aload_n hx hb dX3_caskTold_4 rfl (lv_at hl 0 rfl) ?_
      refine cy_get hC (0) (by decide) hi3 hW (rfl) rfl 13 (by decide) (hts (.fieldLink RX3 32 "CaskYardModel" "sort" "[I") (by decide +kernel)) (fun _ h9 => h9) (v := .ref (ad 7)) rfl dX3_caskTold_5 ?_
      refine lv_iload_n hx hb dX3_caskTold_8 rfl (lv_at hl 1 rfl) ?_
      refine cy_iald hC (7) (by decide) hW 0 (i := c) (rfl) rfl (by omega) (by decide) dX3_caskTold_9 ?_
      refine cy_topv (congrArg Value.int (show S 7 c = cq_ct S ns c 0 from by first | (simp only [cq_ct, c_1, ↓reduceIte]; done) | exact absurd c_23 c_32)) ?_
      exact hE  _ _ _ _ _ _ (Nat.le_of_ble_eq_true rfl) (Nat.le_of_ble_eq_true rfl) hW dX3_caskTold_10
  · have hl := hl
    have hl : lv_has ls 4 [(0, .ref (ad 0)), (1, .int (nI c)), (2, .int 1)] := hl
    refine lv_iload_n hx hb dX3_caskTold_0 rfl (lv_at hl 2 rfl) ?_
    refine lv_if_ne (tgt := 11) hx hb dX3_caskTold_1 (by decide) (fun c_1 => ?_) (fun c_1 => ?_)
    · skip
      refine lv_iload_n hx hb dX3_caskTold_11 rfl (lv_at hl 2 rfl) ?_
      refine lv_bipush (v := 15) hx hb dX3_caskTold_12 (by decide) ?_
      refine lv_icmp_eq (tgt := 26) hx hb dX3_caskTold_14 (by decide) (fun c_14 => ?_) (fun c_14 => ?_)
      · exact absurd c_14 (by decide)
      · skip
        refine lv_aload_n hx hb dX3_caskTold_17 rfl (lv_at hl 0 rfl) ?_
        refine cy_get hC (0) (by decide) hi3 hW (rfl) rfl 14 (by decide) (hts (.fieldLink RX3 35 "CaskYardModel" "isSound" "[Z") (by decide +kernel)) (fun _ h9 => h9) (v := .ref (ad 8)) rfl dX3_caskTold_18 ?_
        refine lv_iload_n hx hb dX3_caskTold_21 rfl (lv_at hl 1 rfl) ?_
        refine cy_zald hC (8) (by decide) hW 2 (i := c) (rfl) rfl (by omega) (by decide) dX3_caskTold_22 ?_
        refine lv_if_ne (tgt := 41) hx hb dX3_caskTold_23 (by decide) (fun c_23 => ?_) (fun c_23 => ?_)
        · skip
          refine lv_iload_n hx hb dX3_caskTold_41 rfl (lv_at hl 2 rfl) ?_
          refine lv_bipush (v := 7) hx hb dX3_caskTold_42 (by decide) ?_
          refine lv_icmp_le (tgt := 67) hx hb dX3_caskTold_44 (by decide) (fun c_44 => ?_) (fun c_44 => ?_)
          · skip
            refine lv_iload_n hx hb dX3_caskTold_67 rfl (lv_at hl 2 rfl) ?_
            refine lv_bipush (v := 12) hx hb dX3_caskTold_68 (by decide) ?_
            refine lv_icmp_le (tgt := 94) hx hb dX3_caskTold_70 (by decide) (fun c_70 => ?_) (fun c_70 => ?_)
            · skip
              refine lv_bipush (v := 8) hx hb dX3_caskTold_94 (by decide) ?_
              refine cy_newI hC hW rfl (hts (.arrayClass .int) (by decide +kernel)) (N := 8) (by decide) (Nat.le_of_ble_eq_true rfl) (Nat.le_of_ble_eq_true rfl) (k' := 1) (n' := 8) rfl rfl dX3_caskTold_96 (fun q96 H hW => ?_)
              refine lv_dup hx hb dX3_caskTold_98 rfl ?_
              refine lv_iconst (v := 0) hx hb dX3_caskTold_99 (by decide) ?_
              refine lv_iconst (v := 0) hx hb dX3_caskTold_100 (by decide) ?_
              refine cy_tiast (tl' := ((q96, .inl (kI, 8, .inl (upd (fun _ => 0) 0 0))) :: tl)) hC 0 q96 hW 0 (i := 0) rfl rfl (by omega) (by decide) rfl dX3_caskTold_101 (fun H locs hW => ?_)
              refine lv_dup hx hb dX3_caskTold_102 rfl ?_
              refine lv_iconst (v := 1) hx hb dX3_caskTold_103 (by decide) ?_
              refine lv_aload_n hx hb dX3_caskTold_104 rfl (lv_at hl 0 rfl) ?_
              refine lv_iload_n hx hb dX3_caskTold_105 rfl (lv_at hl 1 rfl) ?_
              refine cy_callV (As := [.int (nI c)]) (rest := [.int 1, .ref q96, .ref q96]) (q0 := 0) (ci := 3) hC.1 hC.2.1 hC.2.2 hW (c_X3_stavesOf (x := (nI c)) (ns := ns) hns (by omega)) (cwV 1 hts gX3_caskTold_X3_stavesOf rfl rfl rfl (by decide +kernel) ⟨Nat.le_of_ble_eq_true rfl, Nat.le_of_ble_eq_true rfl⟩) (cy_w_at (by decide) (rfl)) rfl rfl hl.1 rfl (Nat.le_of_ble_eq_true rfl) dX3_caskTold_106 ⟨Nat.le_of_ble_eq_true rfl, Nat.le_of_ble_eq_true rfl⟩ (k' := 1) (n' := 8) rfl rfl (fun H locs hW => ?_)
              refine cy_tiast (tl' := ((q96, .inl (kI, 8, .inl (upd (upd (fun _ => 0) 0 0) 1 (cq_sa S (nI c) ns)))) :: tl)) hC 0 q96 hW 0 (i := 1) rfl rfl (by omega) (by decide) rfl dX3_caskTold_109 (fun H locs hW => ?_)
              refine lv_dup hx hb dX3_caskTold_110 rfl ?_
              refine lv_iconst (v := 2) hx hb dX3_caskTold_111 (by decide) ?_
              refine lv_aload_n hx hb dX3_caskTold_112 rfl (lv_at hl 0 rfl) ?_
              refine cy_get hC (0) (by decide) hi3 hW (rfl) rfl 15 (by decide) (hts (.fieldLink RX3 39 "CaskYardModel" "flaws" "[I") (by decide +kernel)) (fun _ h9 => h9) (v := .ref (ad 9)) rfl dX3_caskTold_113 ?_
              refine lv_iload_n hx hb dX3_caskTold_116 rfl (lv_at hl 1 rfl) ?_
              refine cy_iald hC (9) (by decide) hW 0 (i := c) (rfl) rfl (by omega) (by decide) dX3_caskTold_117 ?_
              refine cy_tiast (tl' := ((q96, .inl (kI, 8, .inl (upd (upd (upd (fun _ => 0) 0 0) 1 (cq_sa S (nI c) ns)) 2 (S 9 c)))) :: tl)) hC 0 q96 hW 0 (i := 2) rfl rfl (by omega) (by decide) rfl dX3_caskTold_118 (fun H locs hW => ?_)
              refine lv_dup hx hb dX3_caskTold_119 rfl ?_
              refine lv_iconst (v := 3) hx hb dX3_caskTold_120 (by decide) ?_
              refine lv_aload_n hx hb dX3_caskTold_121 rfl (lv_at hl 0 rfl) ?_
              refine lv_iload_n hx hb dX3_caskTold_122 rfl (lv_at hl 1 rfl) ?_
              refine cy_callV (As := [.int (nI c)]) (rest := [.int 3, .ref q96, .ref q96]) (q0 := 0) (ci := 3) hC.1 hC.2.1 hC.2.2 hW (c_X3_tensions (c := c) (by omega) (cq_ok_of rfl rfl hq)) (cwV 1 hts gX3_caskTold_X3_tensions rfl rfl rfl (by decide +kernel) ⟨Nat.le_of_ble_eq_true rfl, Nat.le_of_ble_eq_true rfl⟩) (cy_w_at (by decide) (rfl)) rfl rfl hl.1 rfl (Nat.le_of_ble_eq_true rfl) dX3_caskTold_123 ⟨Nat.le_of_ble_eq_true rfl, Nat.le_of_ble_eq_true rfl⟩ (k' := 1) (n' := 8) rfl rfl (fun H locs hW => ?_)
              refine cy_tiast (tl' := ((q96, .inl (kI, 8, .inl (upd (upd (upd (upd (fun _ => 0) 0 0) 1 (cq_sa S (nI c) ns)) 2 (S 9 c)) 3 (cq_tn S c)))) :: tl)) hC 0 q96 hW 0 (i := 3) rfl rfl (by omega) (by decide) rfl dX3_caskTold_126 (fun H locs hW => ?_)
              refine lv_dup hx hb dX3_caskTold_127 rfl ?_
              refine lv_iconst (v := 4) hx hb dX3_caskTold_128 (by decide) ?_
              refine lv_aload_n hx hb dX3_caskTold_129 rfl (lv_at hl 0 rfl) ?_
              refine cy_get hC (0) (by decide) hi3 hW (rfl) rfl 17 (by decide) (hts (.fieldLink RX3 45 "CaskYardModel" "swelling" "[I") (by decide +kernel)) (fun _ h9 => h9) (v := .ref (ad 11)) rfl dX3_caskTold_130 ?_
              refine lv_iload_n hx hb dX3_caskTold_133 rfl (lv_at hl 1 rfl) ?_
              refine cy_iald hC (11) (by decide) hW 0 (i := c) (rfl) rfl (by omega) (by decide) dX3_caskTold_134 ?_
              refine cy_tiast (tl' := ((q96, .inl (kI, 8, .inl (upd (upd (upd (upd (upd (fun _ => 0) 0 0) 1 (cq_sa S (nI c) ns)) 2 (S 9 c)) 3 (cq_tn S c)) 4 (S 11 c)))) :: tl)) hC 0 q96 hW 0 (i := 4) rfl rfl (by omega) (by decide) rfl dX3_caskTold_135 (fun H locs hW => ?_)
              refine lv_dup hx hb dX3_caskTold_136 rfl ?_
              refine lv_iconst (v := 5) hx hb dX3_caskTold_137 (by decide) ?_
              refine lv_aload_n hx hb dX3_caskTold_138 rfl (lv_at hl 0 rfl) ?_
              refine cy_get hC (0) (by decide) hi3 hW (rfl) rfl 18 (by decide) (hts (.fieldLink RX3 48 "CaskYardModel" "fillings" "[I") (by decide +kernel)) (fun _ h9 => h9) (v := .ref (ad 12)) rfl dX3_caskTold_139 ?_
              refine lv_iload_n hx hb dX3_caskTold_142 rfl (lv_at hl 1 rfl) ?_
              refine cy_iald hC (12) (by decide) hW 0 (i := c) (rfl) rfl (by omega) (by decide) dX3_caskTold_143 ?_
              refine cy_tiast (tl' := ((q96, .inl (kI, 8, .inl (upd (upd (upd (upd (upd (upd (fun _ => 0) 0 0) 1 (cq_sa S (nI c) ns)) 2 (S 9 c)) 3 (cq_tn S c)) 4 (S 11 c)) 5 (S 12 c)))) :: tl)) hC 0 q96 hW 0 (i := 5) rfl rfl (by omega) (by decide) rfl dX3_caskTold_144 (fun H locs hW => ?_)
              refine lv_dup hx hb dX3_caskTold_145 rfl ?_
              refine lv_bipush (v := 6) hx hb dX3_caskTold_146 (by decide) ?_
              refine lv_aload_n hx hb dX3_caskTold_148 rfl (lv_at hl 0 rfl) ?_
              refine cy_get hC (0) (by decide) hi3 hW (rfl) rfl 19 (by decide) (hts (.fieldLink RX3 51 "CaskYardModel" "air" "[I") (by decide +kernel)) (fun _ h9 => h9) (v := .ref (ad 13)) rfl dX3_caskTold_149 ?_
              refine lv_iload_n hx hb dX3_caskTold_152 rfl (lv_at hl 1 rfl) ?_
              refine cy_iald hC (13) (by decide) hW 0 (i := c) (rfl) rfl (by omega) (by decide) dX3_caskTold_153 ?_
              refine cy_tiast (tl' := ((q96, .inl (kI, 8, .inl (upd (upd (upd (upd (upd (upd (upd (fun _ => 0) 0 0) 1 (cq_sa S (nI c) ns)) 2 (S 9 c)) 3 (cq_tn S c)) 4 (S 11 c)) 5 (S 12 c)) 6 (S 13 c)))) :: tl)) hC 0 q96 hW 0 (i := 6) rfl rfl (by omega) (by decide) rfl dX3_caskTold_154 (fun H locs hW => ?_)
              refine lv_dup hx hb dX3_caskTold_155 rfl ?_
              refine lv_bipush (v := 7) hx hb dX3_caskTold_156 (by decide) ?_
              refine lv_aload_n hx hb dX3_caskTold_158 rfl (lv_at hl 0 rfl) ?_
              refine lv_iload_n hx hb dX3_caskTold_159 rfl (lv_at hl 1 rfl) ?_
              refine cy_callV (As := [.int (nI c)]) (rest := [.int 7, .ref q96, .ref q96]) (q0 := 0) (ci := 3) hC.1 hC.2.1 hC.2.2 hW (c_X3_all (c := c) (by omega)) (cwV 1 hts gX3_caskTold_X3_all rfl rfl rfl (by decide +kernel) ⟨Nat.le_of_ble_eq_true rfl, Nat.le_of_ble_eq_true rfl⟩) (cy_w_at (by decide) (rfl)) rfl rfl hl.1 rfl (Nat.le_of_ble_eq_true rfl) dX3_caskTold_160 ⟨Nat.le_of_ble_eq_true rfl, Nat.le_of_ble_eq_true rfl⟩ (k' := 1) (n' := 8) rfl rfl (fun H locs hW => ?_)
              refine cy_tiast (tl' := ((q96, .inl (kI, 8, .inl (upd (upd (upd (upd (upd (upd (upd (upd (fun _ => 0) 0 0) 1 (cq_sa S (nI c) ns)) 2 (S 9 c)) 3 (cq_tn S c)) 4 (S 11 c)) 5 (S 12 c)) 6 (S 13 c)) 7 (cq_al S c)))) :: tl)) hC 0 q96 hW 0 (i := 7) rfl rfl (by omega) (by decide) rfl dX3_caskTold_163 (fun H locs hW => ?_)
              refine lv_astore_n (lv' := [(3, .ref q96), (0, .ref (ad 0)), (1, .int (nI c)), (2, .int 1)]) hx hb dX3_caskTold_164 rfl hl (by decide) rfl (fun ls hl => ?_)
              refine lv_aload_n hx hb dX3_caskTold_165 rfl (lv_at hl 0 rfl) ?_
              refine lv_iload_n hx hb dX3_caskTold_166 rfl (lv_at hl 3 rfl) ?_
              refine cy_tiald hC 0 q96 hW 0 (i := 1) rfl rfl (by omega) (by decide) dX3_caskTold_167 ?_
              have hW := cy_drop hW
              refine cy_topv (congrArg Value.int (show (cq_sa S (nI c) ns) = cq_ct S ns c 1 from by first | (simp only [cq_ct, c_1, c_14, c_23, c_44, c_70, ↓reduceIte]; done) | exact absurd c_23 c_32)) ?_
              exact hE  _ _ _ _ _ _ (Nat.le_of_ble_eq_true rfl) (Nat.le_of_ble_eq_true rfl) hW dX3_caskTold_168
            · exact absurd c_70 (by decide)
          · exact absurd c_44 (by decide)
        · skip
          refine lv_aload_n hx hb dX3_caskTold_26 rfl (lv_at hl 0 rfl) ?_
          refine cy_get hC (0) (by decide) hi3 hW (rfl) rfl 14 (by decide) (hts (.fieldLink RX3 35 "CaskYardModel" "isSound" "[Z") (by decide +kernel)) (fun _ h9 => h9) (v := .ref (ad 8)) rfl dX3_caskTold_27 ?_
          refine lv_iload_n hx hb dX3_caskTold_30 rfl (lv_at hl 1 rfl) ?_
          refine cy_zald hC (8) (by decide) hW 2 (i := c) (rfl) rfl (by omega) (by decide) dX3_caskTold_31 ?_
          refine lv_if_eq (tgt := 39) hx hb dX3_caskTold_32 (by decide) (fun c_32 => ?_) (fun c_32 => ?_)
          · skip
            refine lv_iconst (v := 0) hx hb dX3_caskTold_39 (by decide) ?_
            refine cy_topv (congrArg Value.int (show 0 = cq_ct S ns c 1 from by first | (simp only [cq_ct, c_1, c_14, c_23, c_32, ↓reduceIte]; done) | exact absurd c_23 c_32)) ?_
            exact hE  _ _ _ _ _ _ (Nat.le_of_ble_eq_true rfl) (Nat.le_of_ble_eq_true rfl) hW dX3_caskTold_40
          · skip
            refine lv_iconst (v := 1) hx hb dX3_caskTold_35 (by decide) ?_
            refine lv_goto (tgt := 40) hx hb dX3_caskTold_36 (by decide) ?_
            refine cy_topv (congrArg Value.int (show 1 = cq_ct S ns c 1 from by first | (simp only [cq_ct, c_1, c_14, c_23, c_32, ↓reduceIte]; done) | exact absurd c_23 c_32)) ?_
            exact hE  _ _ _ _ _ _ (Nat.le_of_ble_eq_true rfl) (Nat.le_of_ble_eq_true rfl) hW dX3_caskTold_40
    · exact absurd c_1 (by decide)
  · have hl := hl
    have hl : lv_has ls 4 [(0, .ref (ad 0)), (1, .int (nI c)), (2, .int 2)] := hl
    refine lv_iload_n hx hb dX3_caskTold_0 rfl (lv_at hl 2 rfl) ?_
    refine lv_if_ne (tgt := 11) hx hb dX3_caskTold_1 (by decide) (fun c_1 => ?_) (fun c_1 => ?_)
    · skip
      refine lv_iload_n hx hb dX3_caskTold_11 rfl (lv_at hl 2 rfl) ?_
      refine lv_bipush (v := 15) hx hb dX3_caskTold_12 (by decide) ?_
      refine lv_icmp_eq (tgt := 26) hx hb dX3_caskTold_14 (by decide) (fun c_14 => ?_) (fun c_14 => ?_)
      · exact absurd c_14 (by decide)
      · skip
        refine lv_aload_n hx hb dX3_caskTold_17 rfl (lv_at hl 0 rfl) ?_
        refine cy_get hC (0) (by decide) hi3 hW (rfl) rfl 14 (by decide) (hts (.fieldLink RX3 35 "CaskYardModel" "isSound" "[Z") (by decide +kernel)) (fun _ h9 => h9) (v := .ref (ad 8)) rfl dX3_caskTold_18 ?_
        refine lv_iload_n hx hb dX3_caskTold_21 rfl (lv_at hl 1 rfl) ?_
        refine cy_zald hC (8) (by decide) hW 2 (i := c) (rfl) rfl (by omega) (by decide) dX3_caskTold_22 ?_
        refine lv_if_ne (tgt := 41) hx hb dX3_caskTold_23 (by decide) (fun c_23 => ?_) (fun c_23 => ?_)
        · skip
          refine lv_iload_n hx hb dX3_caskTold_41 rfl (lv_at hl 2 rfl) ?_
          refine lv_bipush (v := 7) hx hb dX3_caskTold_42 (by decide) ?_
          refine lv_icmp_le (tgt := 67) hx hb dX3_caskTold_44 (by decide) (fun c_44 => ?_) (fun c_44 => ?_)
          · skip
            refine lv_iload_n hx hb dX3_caskTold_67 rfl (lv_at hl 2 rfl) ?_
            refine lv_bipush (v := 12) hx hb dX3_caskTold_68 (by decide) ?_
            refine lv_icmp_le (tgt := 94) hx hb dX3_caskTold_70 (by decide) (fun c_70 => ?_) (fun c_70 => ?_)
            · skip
              refine lv_bipush (v := 8) hx hb dX3_caskTold_94 (by decide) ?_
              refine cy_newI hC hW rfl (hts (.arrayClass .int) (by decide +kernel)) (N := 8) (by decide) (Nat.le_of_ble_eq_true rfl) (Nat.le_of_ble_eq_true rfl) (k' := 1) (n' := 8) rfl rfl dX3_caskTold_96 (fun q96 H hW => ?_)
              refine lv_dup hx hb dX3_caskTold_98 rfl ?_
              refine lv_iconst (v := 0) hx hb dX3_caskTold_99 (by decide) ?_
              refine lv_iconst (v := 0) hx hb dX3_caskTold_100 (by decide) ?_
              refine cy_tiast (tl' := ((q96, .inl (kI, 8, .inl (upd (fun _ => 0) 0 0))) :: tl)) hC 0 q96 hW 0 (i := 0) rfl rfl (by omega) (by decide) rfl dX3_caskTold_101 (fun H locs hW => ?_)
              refine lv_dup hx hb dX3_caskTold_102 rfl ?_
              refine lv_iconst (v := 1) hx hb dX3_caskTold_103 (by decide) ?_
              refine lv_aload_n hx hb dX3_caskTold_104 rfl (lv_at hl 0 rfl) ?_
              refine lv_iload_n hx hb dX3_caskTold_105 rfl (lv_at hl 1 rfl) ?_
              refine cy_callV (As := [.int (nI c)]) (rest := [.int 1, .ref q96, .ref q96]) (q0 := 0) (ci := 3) hC.1 hC.2.1 hC.2.2 hW (c_X3_stavesOf (x := (nI c)) (ns := ns) hns (by omega)) (cwV 1 hts gX3_caskTold_X3_stavesOf rfl rfl rfl (by decide +kernel) ⟨Nat.le_of_ble_eq_true rfl, Nat.le_of_ble_eq_true rfl⟩) (cy_w_at (by decide) (rfl)) rfl rfl hl.1 rfl (Nat.le_of_ble_eq_true rfl) dX3_caskTold_106 ⟨Nat.le_of_ble_eq_true rfl, Nat.le_of_ble_eq_true rfl⟩ (k' := 1) (n' := 8) rfl rfl (fun H locs hW => ?_)
              refine cy_tiast (tl' := ((q96, .inl (kI, 8, .inl (upd (upd (fun _ => 0) 0 0) 1 (cq_sa S (nI c) ns)))) :: tl)) hC 0 q96 hW 0 (i := 1) rfl rfl (by omega) (by decide) rfl dX3_caskTold_109 (fun H locs hW => ?_)
              refine lv_dup hx hb dX3_caskTold_110 rfl ?_
              refine lv_iconst (v := 2) hx hb dX3_caskTold_111 (by decide) ?_
              refine lv_aload_n hx hb dX3_caskTold_112 rfl (lv_at hl 0 rfl) ?_
              refine cy_get hC (0) (by decide) hi3 hW (rfl) rfl 15 (by decide) (hts (.fieldLink RX3 39 "CaskYardModel" "flaws" "[I") (by decide +kernel)) (fun _ h9 => h9) (v := .ref (ad 9)) rfl dX3_caskTold_113 ?_
              refine lv_iload_n hx hb dX3_caskTold_116 rfl (lv_at hl 1 rfl) ?_
              refine cy_iald hC (9) (by decide) hW 0 (i := c) (rfl) rfl (by omega) (by decide) dX3_caskTold_117 ?_
              refine cy_tiast (tl' := ((q96, .inl (kI, 8, .inl (upd (upd (upd (fun _ => 0) 0 0) 1 (cq_sa S (nI c) ns)) 2 (S 9 c)))) :: tl)) hC 0 q96 hW 0 (i := 2) rfl rfl (by omega) (by decide) rfl dX3_caskTold_118 (fun H locs hW => ?_)
              refine lv_dup hx hb dX3_caskTold_119 rfl ?_
              refine lv_iconst (v := 3) hx hb dX3_caskTold_120 (by decide) ?_
              refine lv_aload_n hx hb dX3_caskTold_121 rfl (lv_at hl 0 rfl) ?_
              refine lv_iload_n hx hb dX3_caskTold_122 rfl (lv_at hl 1 rfl) ?_
              refine cy_callV (As := [.int (nI c)]) (rest := [.int 3, .ref q96, .ref q96]) (q0 := 0) (ci := 3) hC.1 hC.2.1 hC.2.2 hW (c_X3_tensions (c := c) (by omega) (cq_ok_of rfl rfl hq)) (cwV 1 hts gX3_caskTold_X3_tensions rfl rfl rfl (by decide +kernel) ⟨Nat.le_of_ble_eq_true rfl, Nat.le_of_ble_eq_true rfl⟩) (cy_w_at (by decide) (rfl)) rfl rfl hl.1 rfl (Nat.le_of_ble_eq_true rfl) dX3_caskTold_123 ⟨Nat.le_of_ble_eq_true rfl, Nat.le_of_ble_eq_true rfl⟩ (k' := 1) (n' := 8) rfl rfl (fun H locs hW => ?_)
              refine cy_tiast (tl' := ((q96, .inl (kI, 8, .inl (upd (upd (upd (upd (fun _ => 0) 0 0) 1 (cq_sa S (nI c) ns)) 2 (S 9 c)) 3 (cq_tn S c)))) :: tl)) hC 0 q96 hW 0 (i := 3) rfl rfl (by omega) (by decide) rfl dX3_caskTold_126 (fun H locs hW => ?_)
              refine lv_dup hx hb dX3_caskTold_127 rfl ?_
              refine lv_iconst (v := 4) hx hb dX3_caskTold_128 (by decide) ?_
              refine lv_aload_n hx hb dX3_caskTold_129 rfl (lv_at hl 0 rfl) ?_
              refine cy_get hC (0) (by decide) hi3 hW (rfl) rfl 17 (by decide) (hts (.fieldLink RX3 45 "CaskYardModel" "swelling" "[I") (by decide +kernel)) (fun _ h9 => h9) (v := .ref (ad 11)) rfl dX3_caskTold_130 ?_
              refine lv_iload_n hx hb dX3_caskTold_133 rfl (lv_at hl 1 rfl) ?_
              refine cy_iald hC (11) (by decide) hW 0 (i := c) (rfl) rfl (by omega) (by decide) dX3_caskTold_134 ?_
              refine cy_tiast (tl' := ((q96, .inl (kI, 8, .inl (upd (upd (upd (upd (upd (fun _ => 0) 0 0) 1 (cq_sa S (nI c) ns)) 2 (S 9 c)) 3 (cq_tn S c)) 4 (S 11 c)))) :: tl)) hC 0 q96 hW 0 (i := 4) rfl rfl (by omega) (by decide) rfl dX3_caskTold_135 (fun H locs hW => ?_)
              refine lv_dup hx hb dX3_caskTold_136 rfl ?_
              refine lv_iconst (v := 5) hx hb dX3_caskTold_137 (by decide) ?_
              refine lv_aload_n hx hb dX3_caskTold_138 rfl (lv_at hl 0 rfl) ?_
              refine cy_get hC (0) (by decide) hi3 hW (rfl) rfl 18 (by decide) (hts (.fieldLink RX3 48 "CaskYardModel" "fillings" "[I") (by decide +kernel)) (fun _ h9 => h9) (v := .ref (ad 12)) rfl dX3_caskTold_139 ?_
              refine lv_iload_n hx hb dX3_caskTold_142 rfl (lv_at hl 1 rfl) ?_
              refine cy_iald hC (12) (by decide) hW 0 (i := c) (rfl) rfl (by omega) (by decide) dX3_caskTold_143 ?_
              refine cy_tiast (tl' := ((q96, .inl (kI, 8, .inl (upd (upd (upd (upd (upd (upd (fun _ => 0) 0 0) 1 (cq_sa S (nI c) ns)) 2 (S 9 c)) 3 (cq_tn S c)) 4 (S 11 c)) 5 (S 12 c)))) :: tl)) hC 0 q96 hW 0 (i := 5) rfl rfl (by omega) (by decide) rfl dX3_caskTold_144 (fun H locs hW => ?_)
              refine lv_dup hx hb dX3_caskTold_145 rfl ?_
              refine lv_bipush (v := 6) hx hb dX3_caskTold_146 (by decide) ?_
              refine lv_aload_n hx hb dX3_caskTold_148 rfl (lv_at hl 0 rfl) ?_
              refine cy_get hC (0) (by decide) hi3 hW (rfl) rfl 19 (by decide) (hts (.fieldLink RX3 51 "CaskYardModel" "air" "[I") (by decide +kernel)) (fun _ h9 => h9) (v := .ref (ad 13)) rfl dX3_caskTold_149 ?_
              refine lv_iload_n hx hb dX3_caskTold_152 rfl (lv_at hl 1 rfl) ?_
              refine cy_iald hC (13) (by decide) hW 0 (i := c) (rfl) rfl (by omega) (by decide) dX3_caskTold_153 ?_
              refine cy_tiast (tl' := ((q96, .inl (kI, 8, .inl (upd (upd (upd (upd (upd (upd (upd (fun _ => 0) 0 0) 1 (cq_sa S (nI c) ns)) 2 (S 9 c)) 3 (cq_tn S c)) 4 (S 11 c)) 5 (S 12 c)) 6 (S 13 c)))) :: tl)) hC 0 q96 hW 0 (i := 6) rfl rfl (by omega) (by decide) rfl dX3_caskTold_154 (fun H locs hW => ?_)
              refine lv_dup hx hb dX3_caskTold_155 rfl ?_
              refine lv_bipush (v := 7) hx hb dX3_caskTold_156 (by decide) ?_
              refine lv_aload_n hx hb dX3_caskTold_158 rfl (lv_at hl 0 rfl) ?_
              refine lv_iload_n hx hb dX3_caskTold_159 rfl (lv_at hl 1 rfl) ?_
              refine cy_callV (As := [.int (nI c)]) (rest := [.int 7, .ref q96, .ref q96]) (q0 := 0) (ci := 3) hC.1 hC.2.1 hC.2.2 hW (c_X3_all (c := c) (by omega)) (cwV 1 hts gX3_caskTold_X3_all rfl rfl rfl (by decide +kernel) ⟨Nat.le_of_ble_eq_true rfl, Nat.le_of_ble_eq_true rfl⟩) (cy_w_at (by decide) (rfl)) rfl rfl hl.1 rfl (Nat.le_of_ble_eq_true rfl) dX3_caskTold_160 ⟨Nat.le_of_ble_eq_true rfl, Nat.le_of_ble_eq_true rfl⟩ (k' := 1) (n' := 8) rfl rfl (fun H locs hW => ?_)
              refine cy_tiast (tl' := ((q96, .inl (kI, 8, .inl (upd (upd (upd (upd (upd (upd (upd (upd (fun _ => 0) 0 0) 1 (cq_sa S (nI c) ns)) 2 (S 9 c)) 3 (cq_tn S c)) 4 (S 11 c)) 5 (S 12 c)) 6 (S 13 c)) 7 (cq_al S c)))) :: tl)) hC 0 q96 hW 0 (i := 7) rfl rfl (by omega) (by decide) rfl dX3_caskTold_163 (fun H locs hW => ?_)
              refine lv_astore_n (lv' := [(3, .ref q96), (0, .ref (ad 0)), (1, .int (nI c)), (2, .int 2)]) hx hb dX3_caskTold_164 rfl hl (by decide) rfl (fun ls hl => ?_)
              refine lv_aload_n hx hb dX3_caskTold_165 rfl (lv_at hl 0 rfl) ?_
              refine lv_iload_n hx hb dX3_caskTold_166 rfl (lv_at hl 3 rfl) ?_
              refine cy_tiald hC 0 q96 hW 0 (i := 2) rfl rfl (by omega) (by decide) dX3_caskTold_167 ?_
              have hW := cy_drop hW
              refine cy_topv (congrArg Value.int (show (S 9 c) = cq_ct S ns c 2 from by first | (simp only [cq_ct, c_1, c_14, c_23, c_44, c_70, ↓reduceIte]; done) | exact absurd c_23 c_32)) ?_
              exact hE  _ _ _ _ _ _ (Nat.le_of_ble_eq_true rfl) (Nat.le_of_ble_eq_true rfl) hW dX3_caskTold_168
            · exact absurd c_70 (by decide)
          · exact absurd c_44 (by decide)
        · skip
          refine lv_aload_n hx hb dX3_caskTold_26 rfl (lv_at hl 0 rfl) ?_
          refine cy_get hC (0) (by decide) hi3 hW (rfl) rfl 14 (by decide) (hts (.fieldLink RX3 35 "CaskYardModel" "isSound" "[Z") (by decide +kernel)) (fun _ h9 => h9) (v := .ref (ad 8)) rfl dX3_caskTold_27 ?_
          refine lv_iload_n hx hb dX3_caskTold_30 rfl (lv_at hl 1 rfl) ?_
          refine cy_zald hC (8) (by decide) hW 2 (i := c) (rfl) rfl (by omega) (by decide) dX3_caskTold_31 ?_
          refine lv_if_eq (tgt := 39) hx hb dX3_caskTold_32 (by decide) (fun c_32 => ?_) (fun c_32 => ?_)
          · skip
            refine lv_iconst (v := 0) hx hb dX3_caskTold_39 (by decide) ?_
            refine cy_topv (congrArg Value.int (show 0 = cq_ct S ns c 2 from by first | (simp only [cq_ct, c_1, c_14, c_23, c_32, ↓reduceIte]; done) | exact absurd c_23 c_32)) ?_
            exact hE  _ _ _ _ _ _ (Nat.le_of_ble_eq_true rfl) (Nat.le_of_ble_eq_true rfl) hW dX3_caskTold_40
          · skip
            refine lv_iconst (v := 1) hx hb dX3_caskTold_35 (by decide) ?_
            refine lv_goto (tgt := 40) hx hb dX3_caskTold_36 (by decide) ?_
            refine cy_topv (congrArg Value.int (show 1 = cq_ct S ns c 2 from by first | (simp only [cq_ct, c_1, c_14, c_23, c_32, ↓reduceIte]; done) | exact absurd c_23 c_32)) ?_
            exact hE  _ _ _ _ _ _ (Nat.le_of_ble_eq_true rfl) (Nat.le_of_ble_eq_true rfl) hW dX3_caskTold_40
    · exact absurd c_1 (by decide)
  · have hl := hl
    have hl : lv_has ls 4 [(0, .ref (ad 0)), (1, .int (nI c)), (2, .int 3)] := hl
    refine lv_iload_n hx hb dX3_caskTold_0 rfl (lv_at hl 2 rfl) ?_
    refine lv_if_ne (tgt := 11) hx hb dX3_caskTold_1 (by decide) (fun c_1 => ?_) (fun c_1 => ?_)
    · skip
      refine lv_iload_n hx hb dX3_caskTold_11 rfl (lv_at hl 2 rfl) ?_
      refine lv_bipush (v := 15) hx hb dX3_caskTold_12 (by decide) ?_
      refine lv_icmp_eq (tgt := 26) hx hb dX3_caskTold_14 (by decide) (fun c_14 => ?_) (fun c_14 => ?_)
      · exact absurd c_14 (by decide)
      · skip
        refine lv_aload_n hx hb dX3_caskTold_17 rfl (lv_at hl 0 rfl) ?_
        refine cy_get hC (0) (by decide) hi3 hW (rfl) rfl 14 (by decide) (hts (.fieldLink RX3 35 "CaskYardModel" "isSound" "[Z") (by decide +kernel)) (fun _ h9 => h9) (v := .ref (ad 8)) rfl dX3_caskTold_18 ?_
        refine lv_iload_n hx hb dX3_caskTold_21 rfl (lv_at hl 1 rfl) ?_
        refine cy_zald hC (8) (by decide) hW 2 (i := c) (rfl) rfl (by omega) (by decide) dX3_caskTold_22 ?_
        refine lv_if_ne (tgt := 41) hx hb dX3_caskTold_23 (by decide) (fun c_23 => ?_) (fun c_23 => ?_)
        · skip
          refine lv_iload_n hx hb dX3_caskTold_41 rfl (lv_at hl 2 rfl) ?_
          refine lv_bipush (v := 7) hx hb dX3_caskTold_42 (by decide) ?_
          refine lv_icmp_le (tgt := 67) hx hb dX3_caskTold_44 (by decide) (fun c_44 => ?_) (fun c_44 => ?_)
          · skip
            refine lv_iload_n hx hb dX3_caskTold_67 rfl (lv_at hl 2 rfl) ?_
            refine lv_bipush (v := 12) hx hb dX3_caskTold_68 (by decide) ?_
            refine lv_icmp_le (tgt := 94) hx hb dX3_caskTold_70 (by decide) (fun c_70 => ?_) (fun c_70 => ?_)
            · skip
              refine lv_bipush (v := 8) hx hb dX3_caskTold_94 (by decide) ?_
              refine cy_newI hC hW rfl (hts (.arrayClass .int) (by decide +kernel)) (N := 8) (by decide) (Nat.le_of_ble_eq_true rfl) (Nat.le_of_ble_eq_true rfl) (k' := 1) (n' := 8) rfl rfl dX3_caskTold_96 (fun q96 H hW => ?_)
              refine lv_dup hx hb dX3_caskTold_98 rfl ?_
              refine lv_iconst (v := 0) hx hb dX3_caskTold_99 (by decide) ?_
              refine lv_iconst (v := 0) hx hb dX3_caskTold_100 (by decide) ?_
              refine cy_tiast (tl' := ((q96, .inl (kI, 8, .inl (upd (fun _ => 0) 0 0))) :: tl)) hC 0 q96 hW 0 (i := 0) rfl rfl (by omega) (by decide) rfl dX3_caskTold_101 (fun H locs hW => ?_)
              refine lv_dup hx hb dX3_caskTold_102 rfl ?_
              refine lv_iconst (v := 1) hx hb dX3_caskTold_103 (by decide) ?_
              refine lv_aload_n hx hb dX3_caskTold_104 rfl (lv_at hl 0 rfl) ?_
              refine lv_iload_n hx hb dX3_caskTold_105 rfl (lv_at hl 1 rfl) ?_
              refine cy_callV (As := [.int (nI c)]) (rest := [.int 1, .ref q96, .ref q96]) (q0 := 0) (ci := 3) hC.1 hC.2.1 hC.2.2 hW (c_X3_stavesOf (x := (nI c)) (ns := ns) hns (by omega)) (cwV 1 hts gX3_caskTold_X3_stavesOf rfl rfl rfl (by decide +kernel) ⟨Nat.le_of_ble_eq_true rfl, Nat.le_of_ble_eq_true rfl⟩) (cy_w_at (by decide) (rfl)) rfl rfl hl.1 rfl (Nat.le_of_ble_eq_true rfl) dX3_caskTold_106 ⟨Nat.le_of_ble_eq_true rfl, Nat.le_of_ble_eq_true rfl⟩ (k' := 1) (n' := 8) rfl rfl (fun H locs hW => ?_)
              refine cy_tiast (tl' := ((q96, .inl (kI, 8, .inl (upd (upd (fun _ => 0) 0 0) 1 (cq_sa S (nI c) ns)))) :: tl)) hC 0 q96 hW 0 (i := 1) rfl rfl (by omega) (by decide) rfl dX3_caskTold_109 (fun H locs hW => ?_)
              refine lv_dup hx hb dX3_caskTold_110 rfl ?_
              refine lv_iconst (v := 2) hx hb dX3_caskTold_111 (by decide) ?_
              refine lv_aload_n hx hb dX3_caskTold_112 rfl (lv_at hl 0 rfl) ?_
              refine cy_get hC (0) (by decide) hi3 hW (rfl) rfl 15 (by decide) (hts (.fieldLink RX3 39 "CaskYardModel" "flaws" "[I") (by decide +kernel)) (fun _ h9 => h9) (v := .ref (ad 9)) rfl dX3_caskTold_113 ?_
              refine lv_iload_n hx hb dX3_caskTold_116 rfl (lv_at hl 1 rfl) ?_
              refine cy_iald hC (9) (by decide) hW 0 (i := c) (rfl) rfl (by omega) (by decide) dX3_caskTold_117 ?_
              refine cy_tiast (tl' := ((q96, .inl (kI, 8, .inl (upd (upd (upd (fun _ => 0) 0 0) 1 (cq_sa S (nI c) ns)) 2 (S 9 c)))) :: tl)) hC 0 q96 hW 0 (i := 2) rfl rfl (by omega) (by decide) rfl dX3_caskTold_118 (fun H locs hW => ?_)
              refine lv_dup hx hb dX3_caskTold_119 rfl ?_
              refine lv_iconst (v := 3) hx hb dX3_caskTold_120 (by decide) ?_
              refine lv_aload_n hx hb dX3_caskTold_121 rfl (lv_at hl 0 rfl) ?_
              refine lv_iload_n hx hb dX3_caskTold_122 rfl (lv_at hl 1 rfl) ?_
              refine cy_callV (As := [.int (nI c)]) (rest := [.int 3, .ref q96, .ref q96]) (q0 := 0) (ci := 3) hC.1 hC.2.1 hC.2.2 hW (c_X3_tensions (c := c) (by omega) (cq_ok_of rfl rfl hq)) (cwV 1 hts gX3_caskTold_X3_tensions rfl rfl rfl (by decide +kernel) ⟨Nat.le_of_ble_eq_true rfl, Nat.le_of_ble_eq_true rfl⟩) (cy_w_at (by decide) (rfl)) rfl rfl hl.1 rfl (Nat.le_of_ble_eq_true rfl) dX3_caskTold_123 ⟨Nat.le_of_ble_eq_true rfl, Nat.le_of_ble_eq_true rfl⟩ (k' := 1) (n' := 8) rfl rfl (fun H locs hW => ?_)
              refine cy_tiast (tl' := ((q96, .inl (kI, 8, .inl (upd (upd (upd (upd (fun _ => 0) 0 0) 1 (cq_sa S (nI c) ns)) 2 (S 9 c)) 3 (cq_tn S c)))) :: tl)) hC 0 q96 hW 0 (i := 3) rfl rfl (by omega) (by decide) rfl dX3_caskTold_126 (fun H locs hW => ?_)
              refine lv_dup hx hb dX3_caskTold_127 rfl ?_
              refine lv_iconst (v := 4) hx hb dX3_caskTold_128 (by decide) ?_
              refine lv_aload_n hx hb dX3_caskTold_129 rfl (lv_at hl 0 rfl) ?_
              refine cy_get hC (0) (by decide) hi3 hW (rfl) rfl 17 (by decide) (hts (.fieldLink RX3 45 "CaskYardModel" "swelling" "[I") (by decide +kernel)) (fun _ h9 => h9) (v := .ref (ad 11)) rfl dX3_caskTold_130 ?_
              refine lv_iload_n hx hb dX3_caskTold_133 rfl (lv_at hl 1 rfl) ?_
              refine cy_iald hC (11) (by decide) hW 0 (i := c) (rfl) rfl (by omega) (by decide) dX3_caskTold_134 ?_
              refine cy_tiast (tl' := ((q96, .inl (kI, 8, .inl (upd (upd (upd (upd (upd (fun _ => 0) 0 0) 1 (cq_sa S (nI c) ns)) 2 (S 9 c)) 3 (cq_tn S c)) 4 (S 11 c)))) :: tl)) hC 0 q96 hW 0 (i := 4) rfl rfl (by omega) (by decide) rfl dX3_caskTold_135 (fun H locs hW => ?_)
              refine lv_dup hx hb dX3_caskTold_136 rfl ?_
              refine lv_iconst (v := 5) hx hb dX3_caskTold_137 (by decide) ?_
              refine lv_aload_n hx hb dX3_caskTold_138 rfl (lv_at hl 0 rfl) ?_
              refine cy_get hC (0) (by decide) hi3 hW (rfl) rfl 18 (by decide) (hts (.fieldLink RX3 48 "CaskYardModel" "fillings" "[I") (by decide +kernel)) (fun _ h9 => h9) (v := .ref (ad 12)) rfl dX3_caskTold_139 ?_
              refine lv_iload_n hx hb dX3_caskTold_142 rfl (lv_at hl 1 rfl) ?_
              refine cy_iald hC (12) (by decide) hW 0 (i := c) (rfl) rfl (by omega) (by decide) dX3_caskTold_143 ?_
              refine cy_tiast (tl' := ((q96, .inl (kI, 8, .inl (upd (upd (upd (upd (upd (upd (fun _ => 0) 0 0) 1 (cq_sa S (nI c) ns)) 2 (S 9 c)) 3 (cq_tn S c)) 4 (S 11 c)) 5 (S 12 c)))) :: tl)) hC 0 q96 hW 0 (i := 5) rfl rfl (by omega) (by decide) rfl dX3_caskTold_144 (fun H locs hW => ?_)
              refine lv_dup hx hb dX3_caskTold_145 rfl ?_
              refine lv_bipush (v := 6) hx hb dX3_caskTold_146 (by decide) ?_
              refine lv_aload_n hx hb dX3_caskTold_148 rfl (lv_at hl 0 rfl) ?_
              refine cy_get hC (0) (by decide) hi3 hW (rfl) rfl 19 (by decide) (hts (.fieldLink RX3 51 "CaskYardModel" "air" "[I") (by decide +kernel)) (fun _ h9 => h9) (v := .ref (ad 13)) rfl dX3_caskTold_149 ?_
              refine lv_iload_n hx hb dX3_caskTold_152 rfl (lv_at hl 1 rfl) ?_
              refine cy_iald hC (13) (by decide) hW 0 (i := c) (rfl) rfl (by omega) (by decide) dX3_caskTold_153 ?_
              refine cy_tiast (tl' := ((q96, .inl (kI, 8, .inl (upd (upd (upd (upd (upd (upd (upd (fun _ => 0) 0 0) 1 (cq_sa S (nI c) ns)) 2 (S 9 c)) 3 (cq_tn S c)) 4 (S 11 c)) 5 (S 12 c)) 6 (S 13 c)))) :: tl)) hC 0 q96 hW 0 (i := 6) rfl rfl (by omega) (by decide) rfl dX3_caskTold_154 (fun H locs hW => ?_)
              refine lv_dup hx hb dX3_caskTold_155 rfl ?_
              refine lv_bipush (v := 7) hx hb dX3_caskTold_156 (by decide) ?_
              refine lv_aload_n hx hb dX3_caskTold_158 rfl (lv_at hl 0 rfl) ?_
              refine lv_iload_n hx hb dX3_caskTold_159 rfl (lv_at hl 1 rfl) ?_
              refine cy_callV (As := [.int (nI c)]) (rest := [.int 7, .ref q96, .ref q96]) (q0 := 0) (ci := 3) hC.1 hC.2.1 hC.2.2 hW (c_X3_all (c := c) (by omega)) (cwV 1 hts gX3_caskTold_X3_all rfl rfl rfl (by decide +kernel) ⟨Nat.le_of_ble_eq_true rfl, Nat.le_of_ble_eq_true rfl⟩) (cy_w_at (by decide) (rfl)) rfl rfl hl.1 rfl (Nat.le_of_ble_eq_true rfl) dX3_caskTold_160 ⟨Nat.le_of_ble_eq_true rfl, Nat.le_of_ble_eq_true rfl⟩ (k' := 1) (n' := 8) rfl rfl (fun H locs hW => ?_)
              refine cy_tiast (tl' := ((q96, .inl (kI, 8, .inl (upd (upd (upd (upd (upd (upd (upd (upd (fun _ => 0) 0 0) 1 (cq_sa S (nI c) ns)) 2 (S 9 c)) 3 (cq_tn S c)) 4 (S 11 c)) 5 (S 12 c)) 6 (S 13 c)) 7 (cq_al S c)))) :: tl)) hC 0 q96 hW 0 (i := 7) rfl rfl (by omega) (by decide) rfl dX3_caskTold_163 (fun H locs hW => ?_)
              refine lv_astore_n (lv' := [(3, .ref q96), (0, .ref (ad 0)), (1, .int (nI c)), (2, .int 3)]) hx hb dX3_caskTold_164 rfl hl (by decide) rfl (fun ls hl => ?_)
              refine lv_aload_n hx hb dX3_caskTold_165 rfl (lv_at hl 0 rfl) ?_
              refine lv_iload_n hx hb dX3_caskTold_166 rfl (lv_at hl 3 rfl) ?_
              refine cy_tiald hC 0 q96 hW 0 (i := 3) rfl rfl (by omega) (by decide) dX3_caskTold_167 ?_
              have hW := cy_drop hW
              refine cy_topv (congrArg Value.int (show (cq_tn S c) = cq_ct S ns c 3 from by first | (simp only [cq_ct, c_1, c_14, c_23, c_44, c_70, ↓reduceIte]; done) | exact absurd c_23 c_32)) ?_
              exact hE  _ _ _ _ _ _ (Nat.le_of_ble_eq_true rfl) (Nat.le_of_ble_eq_true rfl) hW dX3_caskTold_168
            · exact absurd c_70 (by decide)
          · exact absurd c_44 (by decide)
        · skip
          refine lv_aload_n hx hb dX3_caskTold_26 rfl (lv_at hl 0 rfl) ?_
          refine cy_get hC (0) (by decide) hi3 hW (rfl) rfl 14 (by decide) (hts (.fieldLink RX3 35 "CaskYardModel" "isSound" "[Z") (by decide +kernel)) (fun _ h9 => h9) (v := .ref (ad 8)) rfl dX3_caskTold_27 ?_
          refine lv_iload_n hx hb dX3_caskTold_30 rfl (lv_at hl 1 rfl) ?_
          refine cy_zald hC (8) (by decide) hW 2 (i := c) (rfl) rfl (by omega) (by decide) dX3_caskTold_31 ?_
          refine lv_if_eq (tgt := 39) hx hb dX3_caskTold_32 (by decide) (fun c_32 => ?_) (fun c_32 => ?_)
          · skip
            refine lv_iconst (v := 0) hx hb dX3_caskTold_39 (by decide) ?_
            refine cy_topv (congrArg Value.int (show 0 = cq_ct S ns c 3 from by first | (simp only [cq_ct, c_1, c_14, c_23, c_32, ↓reduceIte]; done) | exact absurd c_23 c_32)) ?_
            exact hE  _ _ _ _ _ _ (Nat.le_of_ble_eq_true rfl) (Nat.le_of_ble_eq_true rfl) hW dX3_caskTold_40
          · skip
            refine lv_iconst (v := 1) hx hb dX3_caskTold_35 (by decide) ?_
            refine lv_goto (tgt := 40) hx hb dX3_caskTold_36 (by decide) ?_
            refine cy_topv (congrArg Value.int (show 1 = cq_ct S ns c 3 from by first | (simp only [cq_ct, c_1, c_14, c_23, c_32, ↓reduceIte]; done) | exact absurd c_23 c_32)) ?_
            exact hE  _ _ _ _ _ _ (Nat.le_of_ble_eq_true rfl) (Nat.le_of_ble_eq_true rfl) hW dX3_caskTold_40
    · exact absurd c_1 (by decide)
  · have hl := hl
    have hl : lv_has ls 4 [(0, .ref (ad 0)), (1, .int (nI c)), (2, .int 4)] := hl
    refine lv_iload_n hx hb dX3_caskTold_0 rfl (lv_at hl 2 rfl) ?_
    refine lv_if_ne (tgt := 11) hx hb dX3_caskTold_1 (by decide) (fun c_1 => ?_) (fun c_1 => ?_)
    · skip
      refine lv_iload_n hx hb dX3_caskTold_11 rfl (lv_at hl 2 rfl) ?_
      refine lv_bipush (v := 15) hx hb dX3_caskTold_12 (by decide) ?_
      refine lv_icmp_eq (tgt := 26) hx hb dX3_caskTold_14 (by decide) (fun c_14 => ?_) (fun c_14 => ?_)
      · exact absurd c_14 (by decide)
      · skip
        refine lv_aload_n hx hb dX3_caskTold_17 rfl (lv_at hl 0 rfl) ?_
        refine cy_get hC (0) (by decide) hi3 hW (rfl) rfl 14 (by decide) (hts (.fieldLink RX3 35 "CaskYardModel" "isSound" "[Z") (by decide +kernel)) (fun _ h9 => h9) (v := .ref (ad 8)) rfl dX3_caskTold_18 ?_
        refine lv_iload_n hx hb dX3_caskTold_21 rfl (lv_at hl 1 rfl) ?_
        refine cy_zald hC (8) (by decide) hW 2 (i := c) (rfl) rfl (by omega) (by decide) dX3_caskTold_22 ?_
        refine lv_if_ne (tgt := 41) hx hb dX3_caskTold_23 (by decide) (fun c_23 => ?_) (fun c_23 => ?_)
        · skip
          refine lv_iload_n hx hb dX3_caskTold_41 rfl (lv_at hl 2 rfl) ?_
          refine lv_bipush (v := 7) hx hb dX3_caskTold_42 (by decide) ?_
          refine lv_icmp_le (tgt := 67) hx hb dX3_caskTold_44 (by decide) (fun c_44 => ?_) (fun c_44 => ?_)
          · skip
            refine lv_iload_n hx hb dX3_caskTold_67 rfl (lv_at hl 2 rfl) ?_
            refine lv_bipush (v := 12) hx hb dX3_caskTold_68 (by decide) ?_
            refine lv_icmp_le (tgt := 94) hx hb dX3_caskTold_70 (by decide) (fun c_70 => ?_) (fun c_70 => ?_)
            · skip
              refine lv_bipush (v := 8) hx hb dX3_caskTold_94 (by decide) ?_
              refine cy_newI hC hW rfl (hts (.arrayClass .int) (by decide +kernel)) (N := 8) (by decide) (Nat.le_of_ble_eq_true rfl) (Nat.le_of_ble_eq_true rfl) (k' := 1) (n' := 8) rfl rfl dX3_caskTold_96 (fun q96 H hW => ?_)
              refine lv_dup hx hb dX3_caskTold_98 rfl ?_
              refine lv_iconst (v := 0) hx hb dX3_caskTold_99 (by decide) ?_
              refine lv_iconst (v := 0) hx hb dX3_caskTold_100 (by decide) ?_
              refine cy_tiast (tl' := ((q96, .inl (kI, 8, .inl (upd (fun _ => 0) 0 0))) :: tl)) hC 0 q96 hW 0 (i := 0) rfl rfl (by omega) (by decide) rfl dX3_caskTold_101 (fun H locs hW => ?_)
              refine lv_dup hx hb dX3_caskTold_102 rfl ?_
              refine lv_iconst (v := 1) hx hb dX3_caskTold_103 (by decide) ?_
              refine lv_aload_n hx hb dX3_caskTold_104 rfl (lv_at hl 0 rfl) ?_
              refine lv_iload_n hx hb dX3_caskTold_105 rfl (lv_at hl 1 rfl) ?_
              refine cy_callV (As := [.int (nI c)]) (rest := [.int 1, .ref q96, .ref q96]) (q0 := 0) (ci := 3) hC.1 hC.2.1 hC.2.2 hW (c_X3_stavesOf (x := (nI c)) (ns := ns) hns (by omega)) (cwV 1 hts gX3_caskTold_X3_stavesOf rfl rfl rfl (by decide +kernel) ⟨Nat.le_of_ble_eq_true rfl, Nat.le_of_ble_eq_true rfl⟩) (cy_w_at (by decide) (rfl)) rfl rfl hl.1 rfl (Nat.le_of_ble_eq_true rfl) dX3_caskTold_106 ⟨Nat.le_of_ble_eq_true rfl, Nat.le_of_ble_eq_true rfl⟩ (k' := 1) (n' := 8) rfl rfl (fun H locs hW => ?_)
              refine cy_tiast (tl' := ((q96, .inl (kI, 8, .inl (upd (upd (fun _ => 0) 0 0) 1 (cq_sa S (nI c) ns)))) :: tl)) hC 0 q96 hW 0 (i := 1) rfl rfl (by omega) (by decide) rfl dX3_caskTold_109 (fun H locs hW => ?_)
              refine lv_dup hx hb dX3_caskTold_110 rfl ?_
              refine lv_iconst (v := 2) hx hb dX3_caskTold_111 (by decide) ?_
              refine lv_aload_n hx hb dX3_caskTold_112 rfl (lv_at hl 0 rfl) ?_
              refine cy_get hC (0) (by decide) hi3 hW (rfl) rfl 15 (by decide) (hts (.fieldLink RX3 39 "CaskYardModel" "flaws" "[I") (by decide +kernel)) (fun _ h9 => h9) (v := .ref (ad 9)) rfl dX3_caskTold_113 ?_
              refine lv_iload_n hx hb dX3_caskTold_116 rfl (lv_at hl 1 rfl) ?_
              refine cy_iald hC (9) (by decide) hW 0 (i := c) (rfl) rfl (by omega) (by decide) dX3_caskTold_117 ?_
              refine cy_tiast (tl' := ((q96, .inl (kI, 8, .inl (upd (upd (upd (fun _ => 0) 0 0) 1 (cq_sa S (nI c) ns)) 2 (S 9 c)))) :: tl)) hC 0 q96 hW 0 (i := 2) rfl rfl (by omega) (by decide) rfl dX3_caskTold_118 (fun H locs hW => ?_)
              refine lv_dup hx hb dX3_caskTold_119 rfl ?_
              refine lv_iconst (v := 3) hx hb dX3_caskTold_120 (by decide) ?_
              refine lv_aload_n hx hb dX3_caskTold_121 rfl (lv_at hl 0 rfl) ?_
              refine lv_iload_n hx hb dX3_caskTold_122 rfl (lv_at hl 1 rfl) ?_
              refine cy_callV (As := [.int (nI c)]) (rest := [.int 3, .ref q96, .ref q96]) (q0 := 0) (ci := 3) hC.1 hC.2.1 hC.2.2 hW (c_X3_tensions (c := c) (by omega) (cq_ok_of rfl rfl hq)) (cwV 1 hts gX3_caskTold_X3_tensions rfl rfl rfl (by decide +kernel) ⟨Nat.le_of_ble_eq_true rfl, Nat.le_of_ble_eq_true rfl⟩) (cy_w_at (by decide) (rfl)) rfl rfl hl.1 rfl (Nat.le_of_ble_eq_true rfl) dX3_caskTold_123 ⟨Nat.le_of_ble_eq_true rfl, Nat.le_of_ble_eq_true rfl⟩ (k' := 1) (n' := 8) rfl rfl (fun H locs hW => ?_)
              refine cy_tiast (tl' := ((q96, .inl (kI, 8, .inl (upd (upd (upd (upd (fun _ => 0) 0 0) 1 (cq_sa S (nI c) ns)) 2 (S 9 c)) 3 (cq_tn S c)))) :: tl)) hC 0 q96 hW 0 (i := 3) rfl rfl (by omega) (by decide) rfl dX3_caskTold_126 (fun H locs hW => ?_)
              refine lv_dup hx hb dX3_caskTold_127 rfl ?_
              refine lv_iconst (v := 4) hx hb dX3_caskTold_128 (by decide) ?_
              refine lv_aload_n hx hb dX3_caskTold_129 rfl (lv_at hl 0 rfl) ?_
              refine cy_get hC (0) (by decide) hi3 hW (rfl) rfl 17 (by decide) (hts (.fieldLink RX3 45 "CaskYardModel" "swelling" "[I") (by decide +kernel)) (fun _ h9 => h9) (v := .ref (ad 11)) rfl dX3_caskTold_130 ?_
              refine lv_iload_n hx hb dX3_caskTold_133 rfl (lv_at hl 1 rfl) ?_
              refine cy_iald hC (11) (by decide) hW 0 (i := c) (rfl) rfl (by omega) (by decide) dX3_caskTold_134 ?_
              refine cy_tiast (tl' := ((q96, .inl (kI, 8, .inl (upd (upd (upd (upd (upd (fun _ => 0) 0 0) 1 (cq_sa S (nI c) ns)) 2 (S 9 c)) 3 (cq_tn S c)) 4 (S 11 c)))) :: tl)) hC 0 q96 hW 0 (i := 4) rfl rfl (by omega) (by decide) rfl dX3_caskTold_135 (fun H locs hW => ?_)
              refine lv_dup hx hb dX3_caskTold_136 rfl ?_
              refine lv_iconst (v := 5) hx hb dX3_caskTold_137 (by decide) ?_
              refine lv_aload_n hx hb dX3_caskTold_138 rfl (lv_at hl 0 rfl) ?_
              refine cy_get hC (0) (by decide) hi3 hW (rfl) rfl 18 (by decide) (hts (.fieldLink RX3 48 "CaskYardModel" "fillings" "[I") (by decide +kernel)) (fun _ h9 => h9) (v := .ref (ad 12)) rfl dX3_caskTold_139 ?_
              refine lv_iload_n hx hb dX3_caskTold_142 rfl (lv_at hl 1 rfl) ?_
              refine cy_iald hC (12) (by decide) hW 0 (i := c) (rfl) rfl (by omega) (by decide) dX3_caskTold_143 ?_
              refine cy_tiast (tl' := ((q96, .inl (kI, 8, .inl (upd (upd (upd (upd (upd (upd (fun _ => 0) 0 0) 1 (cq_sa S (nI c) ns)) 2 (S 9 c)) 3 (cq_tn S c)) 4 (S 11 c)) 5 (S 12 c)))) :: tl)) hC 0 q96 hW 0 (i := 5) rfl rfl (by omega) (by decide) rfl dX3_caskTold_144 (fun H locs hW => ?_)
              refine lv_dup hx hb dX3_caskTold_145 rfl ?_
              refine lv_bipush (v := 6) hx hb dX3_caskTold_146 (by decide) ?_
              refine lv_aload_n hx hb dX3_caskTold_148 rfl (lv_at hl 0 rfl) ?_
              refine cy_get hC (0) (by decide) hi3 hW (rfl) rfl 19 (by decide) (hts (.fieldLink RX3 51 "CaskYardModel" "air" "[I") (by decide +kernel)) (fun _ h9 => h9) (v := .ref (ad 13)) rfl dX3_caskTold_149 ?_
              refine lv_iload_n hx hb dX3_caskTold_152 rfl (lv_at hl 1 rfl) ?_
              refine cy_iald hC (13) (by decide) hW 0 (i := c) (rfl) rfl (by omega) (by decide) dX3_caskTold_153 ?_
              refine cy_tiast (tl' := ((q96, .inl (kI, 8, .inl (upd (upd (upd (upd (upd (upd (upd (fun _ => 0) 0 0) 1 (cq_sa S (nI c) ns)) 2 (S 9 c)) 3 (cq_tn S c)) 4 (S 11 c)) 5 (S 12 c)) 6 (S 13 c)))) :: tl)) hC 0 q96 hW 0 (i := 6) rfl rfl (by omega) (by decide) rfl dX3_caskTold_154 (fun H locs hW => ?_)
              refine lv_dup hx hb dX3_caskTold_155 rfl ?_
              refine lv_bipush (v := 7) hx hb dX3_caskTold_156 (by decide) ?_
              refine lv_aload_n hx hb dX3_caskTold_158 rfl (lv_at hl 0 rfl) ?_
              refine lv_iload_n hx hb dX3_caskTold_159 rfl (lv_at hl 1 rfl) ?_
              refine cy_callV (As := [.int (nI c)]) (rest := [.int 7, .ref q96, .ref q96]) (q0 := 0) (ci := 3) hC.1 hC.2.1 hC.2.2 hW (c_X3_all (c := c) (by omega)) (cwV 1 hts gX3_caskTold_X3_all rfl rfl rfl (by decide +kernel) ⟨Nat.le_of_ble_eq_true rfl, Nat.le_of_ble_eq_true rfl⟩) (cy_w_at (by decide) (rfl)) rfl rfl hl.1 rfl (Nat.le_of_ble_eq_true rfl) dX3_caskTold_160 ⟨Nat.le_of_ble_eq_true rfl, Nat.le_of_ble_eq_true rfl⟩ (k' := 1) (n' := 8) rfl rfl (fun H locs hW => ?_)
              refine cy_tiast (tl' := ((q96, .inl (kI, 8, .inl (upd (upd (upd (upd (upd (upd (upd (upd (fun _ => 0) 0 0) 1 (cq_sa S (nI c) ns)) 2 (S 9 c)) 3 (cq_tn S c)) 4 (S 11 c)) 5 (S 12 c)) 6 (S 13 c)) 7 (cq_al S c)))) :: tl)) hC 0 q96 hW 0 (i := 7) rfl rfl (by omega) (by decide) rfl dX3_caskTold_163 (fun H locs hW => ?_)
              refine lv_astore_n (lv' := [(3, .ref q96), (0, .ref (ad 0)), (1, .int (nI c)), (2, .int 4)]) hx hb dX3_caskTold_164 rfl hl (by decide) rfl (fun ls hl => ?_)
              refine lv_aload_n hx hb dX3_caskTold_165 rfl (lv_at hl 0 rfl) ?_
              refine lv_iload_n hx hb dX3_caskTold_166 rfl (lv_at hl 3 rfl) ?_
              refine cy_tiald hC 0 q96 hW 0 (i := 4) rfl rfl (by omega) (by decide) dX3_caskTold_167 ?_
              have hW := cy_drop hW
              refine cy_topv (congrArg Value.int (show (S 11 c) = cq_ct S ns c 4 from by first | (simp only [cq_ct, c_1, c_14, c_23, c_44, c_70, ↓reduceIte]; done) | exact absurd c_23 c_32)) ?_
              exact hE  _ _ _ _ _ _ (Nat.le_of_ble_eq_true rfl) (Nat.le_of_ble_eq_true rfl) hW dX3_caskTold_168
            · exact absurd c_70 (by decide)
          · exact absurd c_44 (by decide)
        · skip
          refine lv_aload_n hx hb dX3_caskTold_26 rfl (lv_at hl 0 rfl) ?_
          refine cy_get hC (0) (by decide) hi3 hW (rfl) rfl 14 (by decide) (hts (.fieldLink RX3 35 "CaskYardModel" "isSound" "[Z") (by decide +kernel)) (fun _ h9 => h9) (v := .ref (ad 8)) rfl dX3_caskTold_27 ?_
          refine lv_iload_n hx hb dX3_caskTold_30 rfl (lv_at hl 1 rfl) ?_
          refine cy_zald hC (8) (by decide) hW 2 (i := c) (rfl) rfl (by omega) (by decide) dX3_caskTold_31 ?_
          refine lv_if_eq (tgt := 39) hx hb dX3_caskTold_32 (by decide) (fun c_32 => ?_) (fun c_32 => ?_)
          · skip
            refine lv_iconst (v := 0) hx hb dX3_caskTold_39 (by decide) ?_
            refine cy_topv (congrArg Value.int (show 0 = cq_ct S ns c 4 from by first | (simp only [cq_ct, c_1, c_14, c_23, c_32, ↓reduceIte]; done) | exact absurd c_23 c_32)) ?_
            exact hE  _ _ _ _ _ _ (Nat.le_of_ble_eq_true rfl) (Nat.le_of_ble_eq_true rfl) hW dX3_caskTold_40
          · skip
            refine lv_iconst (v := 1) hx hb dX3_caskTold_35 (by decide) ?_
            refine lv_goto (tgt := 40) hx hb dX3_caskTold_36 (by decide) ?_
            refine cy_topv (congrArg Value.int (show 1 = cq_ct S ns c 4 from by first | (simp only [cq_ct, c_1, c_14, c_23, c_32, ↓reduceIte]; done) | exact absurd c_23 c_32)) ?_
            exact hE  _ _ _ _ _ _ (Nat.le_of_ble_eq_true rfl) (Nat.le_of_ble_eq_true rfl) hW dX3_caskTold_40
    · exact absurd c_1 (by decide)
  · have hl := hl
    have hl : lv_has ls 4 [(0, .ref (ad 0)), (1, .int (nI c)), (2, .int 5)] := hl
    refine lv_iload_n hx hb dX3_caskTold_0 rfl (lv_at hl 2 rfl) ?_
    refine lv_if_ne (tgt := 11) hx hb dX3_caskTold_1 (by decide) (fun c_1 => ?_) (fun c_1 => ?_)
    · skip
      refine lv_iload_n hx hb dX3_caskTold_11 rfl (lv_at hl 2 rfl) ?_
      refine lv_bipush (v := 15) hx hb dX3_caskTold_12 (by decide) ?_
      refine lv_icmp_eq (tgt := 26) hx hb dX3_caskTold_14 (by decide) (fun c_14 => ?_) (fun c_14 => ?_)
      · exact absurd c_14 (by decide)
      · skip
        refine lv_aload_n hx hb dX3_caskTold_17 rfl (lv_at hl 0 rfl) ?_
        refine cy_get hC (0) (by decide) hi3 hW (rfl) rfl 14 (by decide) (hts (.fieldLink RX3 35 "CaskYardModel" "isSound" "[Z") (by decide +kernel)) (fun _ h9 => h9) (v := .ref (ad 8)) rfl dX3_caskTold_18 ?_
        refine lv_iload_n hx hb dX3_caskTold_21 rfl (lv_at hl 1 rfl) ?_
        refine cy_zald hC (8) (by decide) hW 2 (i := c) (rfl) rfl (by omega) (by decide) dX3_caskTold_22 ?_
        refine lv_if_ne (tgt := 41) hx hb dX3_caskTold_23 (by decide) (fun c_23 => ?_) (fun c_23 => ?_)
        · skip
          refine lv_iload_n hx hb dX3_caskTold_41 rfl (lv_at hl 2 rfl) ?_
          refine lv_bipush (v := 7) hx hb dX3_caskTold_42 (by decide) ?_
          refine lv_icmp_le (tgt := 67) hx hb dX3_caskTold_44 (by decide) (fun c_44 => ?_) (fun c_44 => ?_)
          · skip
            refine lv_iload_n hx hb dX3_caskTold_67 rfl (lv_at hl 2 rfl) ?_
            refine lv_bipush (v := 12) hx hb dX3_caskTold_68 (by decide) ?_
            refine lv_icmp_le (tgt := 94) hx hb dX3_caskTold_70 (by decide) (fun c_70 => ?_) (fun c_70 => ?_)
            · skip
              refine lv_bipush (v := 8) hx hb dX3_caskTold_94 (by decide) ?_
              refine cy_newI hC hW rfl (hts (.arrayClass .int) (by decide +kernel)) (N := 8) (by decide) (Nat.le_of_ble_eq_true rfl) (Nat.le_of_ble_eq_true rfl) (k' := 1) (n' := 8) rfl rfl dX3_caskTold_96 (fun q96 H hW => ?_)
              refine lv_dup hx hb dX3_caskTold_98 rfl ?_
              refine lv_iconst (v := 0) hx hb dX3_caskTold_99 (by decide) ?_
              refine lv_iconst (v := 0) hx hb dX3_caskTold_100 (by decide) ?_
              refine cy_tiast (tl' := ((q96, .inl (kI, 8, .inl (upd (fun _ => 0) 0 0))) :: tl)) hC 0 q96 hW 0 (i := 0) rfl rfl (by omega) (by decide) rfl dX3_caskTold_101 (fun H locs hW => ?_)
              refine lv_dup hx hb dX3_caskTold_102 rfl ?_
              refine lv_iconst (v := 1) hx hb dX3_caskTold_103 (by decide) ?_
              refine lv_aload_n hx hb dX3_caskTold_104 rfl (lv_at hl 0 rfl) ?_
              refine lv_iload_n hx hb dX3_caskTold_105 rfl (lv_at hl 1 rfl) ?_
              refine cy_callV (As := [.int (nI c)]) (rest := [.int 1, .ref q96, .ref q96]) (q0 := 0) (ci := 3) hC.1 hC.2.1 hC.2.2 hW (c_X3_stavesOf (x := (nI c)) (ns := ns) hns (by omega)) (cwV 1 hts gX3_caskTold_X3_stavesOf rfl rfl rfl (by decide +kernel) ⟨Nat.le_of_ble_eq_true rfl, Nat.le_of_ble_eq_true rfl⟩) (cy_w_at (by decide) (rfl)) rfl rfl hl.1 rfl (Nat.le_of_ble_eq_true rfl) dX3_caskTold_106 ⟨Nat.le_of_ble_eq_true rfl, Nat.le_of_ble_eq_true rfl⟩ (k' := 1) (n' := 8) rfl rfl (fun H locs hW => ?_)
              refine cy_tiast (tl' := ((q96, .inl (kI, 8, .inl (upd (upd (fun _ => 0) 0 0) 1 (cq_sa S (nI c) ns)))) :: tl)) hC 0 q96 hW 0 (i := 1) rfl rfl (by omega) (by decide) rfl dX3_caskTold_109 (fun H locs hW => ?_)
              refine lv_dup hx hb dX3_caskTold_110 rfl ?_
              refine lv_iconst (v := 2) hx hb dX3_caskTold_111 (by decide) ?_
              refine lv_aload_n hx hb dX3_caskTold_112 rfl (lv_at hl 0 rfl) ?_
              refine cy_get hC (0) (by decide) hi3 hW (rfl) rfl 15 (by decide) (hts (.fieldLink RX3 39 "CaskYardModel" "flaws" "[I") (by decide +kernel)) (fun _ h9 => h9) (v := .ref (ad 9)) rfl dX3_caskTold_113 ?_
              refine lv_iload_n hx hb dX3_caskTold_116 rfl (lv_at hl 1 rfl) ?_
              refine cy_iald hC (9) (by decide) hW 0 (i := c) (rfl) rfl (by omega) (by decide) dX3_caskTold_117 ?_
              refine cy_tiast (tl' := ((q96, .inl (kI, 8, .inl (upd (upd (upd (fun _ => 0) 0 0) 1 (cq_sa S (nI c) ns)) 2 (S 9 c)))) :: tl)) hC 0 q96 hW 0 (i := 2) rfl rfl (by omega) (by decide) rfl dX3_caskTold_118 (fun H locs hW => ?_)
              refine lv_dup hx hb dX3_caskTold_119 rfl ?_
              refine lv_iconst (v := 3) hx hb dX3_caskTold_120 (by decide) ?_
              refine lv_aload_n hx hb dX3_caskTold_121 rfl (lv_at hl 0 rfl) ?_
              refine lv_iload_n hx hb dX3_caskTold_122 rfl (lv_at hl 1 rfl) ?_
              refine cy_callV (As := [.int (nI c)]) (rest := [.int 3, .ref q96, .ref q96]) (q0 := 0) (ci := 3) hC.1 hC.2.1 hC.2.2 hW (c_X3_tensions (c := c) (by omega) (cq_ok_of rfl rfl hq)) (cwV 1 hts gX3_caskTold_X3_tensions rfl rfl rfl (by decide +kernel) ⟨Nat.le_of_ble_eq_true rfl, Nat.le_of_ble_eq_true rfl⟩) (cy_w_at (by decide) (rfl)) rfl rfl hl.1 rfl (Nat.le_of_ble_eq_true rfl) dX3_caskTold_123 ⟨Nat.le_of_ble_eq_true rfl, Nat.le_of_ble_eq_true rfl⟩ (k' := 1) (n' := 8) rfl rfl (fun H locs hW => ?_)
              refine cy_tiast (tl' := ((q96, .inl (kI, 8, .inl (upd (upd (upd (upd (fun _ => 0) 0 0) 1 (cq_sa S (nI c) ns)) 2 (S 9 c)) 3 (cq_tn S c)))) :: tl)) hC 0 q96 hW 0 (i := 3) rfl rfl (by omega) (by decide) rfl dX3_caskTold_126 (fun H locs hW => ?_)
              refine lv_dup hx hb dX3_caskTold_127 rfl ?_
              refine lv_iconst (v := 4) hx hb dX3_caskTold_128 (by decide) ?_
              refine lv_aload_n hx hb dX3_caskTold_129 rfl (lv_at hl 0 rfl) ?_
              refine cy_get hC (0) (by decide) hi3 hW (rfl) rfl 17 (by decide) (hts (.fieldLink RX3 45 "CaskYardModel" "swelling" "[I") (by decide +kernel)) (fun _ h9 => h9) (v := .ref (ad 11)) rfl dX3_caskTold_130 ?_
              refine lv_iload_n hx hb dX3_caskTold_133 rfl (lv_at hl 1 rfl) ?_
              refine cy_iald hC (11) (by decide) hW 0 (i := c) (rfl) rfl (by omega) (by decide) dX3_caskTold_134 ?_
              refine cy_tiast (tl' := ((q96, .inl (kI, 8, .inl (upd (upd (upd (upd (upd (fun _ => 0) 0 0) 1 (cq_sa S (nI c) ns)) 2 (S 9 c)) 3 (cq_tn S c)) 4 (S 11 c)))) :: tl)) hC 0 q96 hW 0 (i := 4) rfl rfl (by omega) (by decide) rfl dX3_caskTold_135 (fun H locs hW => ?_)
              refine lv_dup hx hb dX3_caskTold_136 rfl ?_
              refine lv_iconst (v := 5) hx hb dX3_caskTold_137 (by decide) ?_
              refine lv_aload_n hx hb dX3_caskTold_138 rfl (lv_at hl 0 rfl) ?_
              refine cy_get hC (0) (by decide) hi3 hW (rfl) rfl 18 (by decide) (hts (.fieldLink RX3 48 "CaskYardModel" "fillings" "[I") (by decide +kernel)) (fun _ h9 => h9) (v := .ref (ad 12)) rfl dX3_caskTold_139 ?_
              refine lv_iload_n hx hb dX3_caskTold_142 rfl (lv_at hl 1 rfl) ?_
              refine cy_iald hC (12) (by decide) hW 0 (i := c) (rfl) rfl (by omega) (by decide) dX3_caskTold_143 ?_
              refine cy_tiast (tl' := ((q96, .inl (kI, 8, .inl (upd (upd (upd (upd (upd (upd (fun _ => 0) 0 0) 1 (cq_sa S (nI c) ns)) 2 (S 9 c)) 3 (cq_tn S c)) 4 (S 11 c)) 5 (S 12 c)))) :: tl)) hC 0 q96 hW 0 (i := 5) rfl rfl (by omega) (by decide) rfl dX3_caskTold_144 (fun H locs hW => ?_)
              refine lv_dup hx hb dX3_caskTold_145 rfl ?_
              refine lv_bipush (v := 6) hx hb dX3_caskTold_146 (by decide) ?_
              refine lv_aload_n hx hb dX3_caskTold_148 rfl (lv_at hl 0 rfl) ?_
              refine cy_get hC (0) (by decide) hi3 hW (rfl) rfl 19 (by decide) (hts (.fieldLink RX3 51 "CaskYardModel" "air" "[I") (by decide +kernel)) (fun _ h9 => h9) (v := .ref (ad 13)) rfl dX3_caskTold_149 ?_
              refine lv_iload_n hx hb dX3_caskTold_152 rfl (lv_at hl 1 rfl) ?_
              refine cy_iald hC (13) (by decide) hW 0 (i := c) (rfl) rfl (by omega) (by decide) dX3_caskTold_153 ?_
              refine cy_tiast (tl' := ((q96, .inl (kI, 8, .inl (upd (upd (upd (upd (upd (upd (upd (fun _ => 0) 0 0) 1 (cq_sa S (nI c) ns)) 2 (S 9 c)) 3 (cq_tn S c)) 4 (S 11 c)) 5 (S 12 c)) 6 (S 13 c)))) :: tl)) hC 0 q96 hW 0 (i := 6) rfl rfl (by omega) (by decide) rfl dX3_caskTold_154 (fun H locs hW => ?_)
              refine lv_dup hx hb dX3_caskTold_155 rfl ?_
              refine lv_bipush (v := 7) hx hb dX3_caskTold_156 (by decide) ?_
              refine lv_aload_n hx hb dX3_caskTold_158 rfl (lv_at hl 0 rfl) ?_
              refine lv_iload_n hx hb dX3_caskTold_159 rfl (lv_at hl 1 rfl) ?_
              refine cy_callV (As := [.int (nI c)]) (rest := [.int 7, .ref q96, .ref q96]) (q0 := 0) (ci := 3) hC.1 hC.2.1 hC.2.2 hW (c_X3_all (c := c) (by omega)) (cwV 1 hts gX3_caskTold_X3_all rfl rfl rfl (by decide +kernel) ⟨Nat.le_of_ble_eq_true rfl, Nat.le_of_ble_eq_true rfl⟩) (cy_w_at (by decide) (rfl)) rfl rfl hl.1 rfl (Nat.le_of_ble_eq_true rfl) dX3_caskTold_160 ⟨Nat.le_of_ble_eq_true rfl, Nat.le_of_ble_eq_true rfl⟩ (k' := 1) (n' := 8) rfl rfl (fun H locs hW => ?_)
              refine cy_tiast (tl' := ((q96, .inl (kI, 8, .inl (upd (upd (upd (upd (upd (upd (upd (upd (fun _ => 0) 0 0) 1 (cq_sa S (nI c) ns)) 2 (S 9 c)) 3 (cq_tn S c)) 4 (S 11 c)) 5 (S 12 c)) 6 (S 13 c)) 7 (cq_al S c)))) :: tl)) hC 0 q96 hW 0 (i := 7) rfl rfl (by omega) (by decide) rfl dX3_caskTold_163 (fun H locs hW => ?_)
              refine lv_astore_n (lv' := [(3, .ref q96), (0, .ref (ad 0)), (1, .int (nI c)), (2, .int 5)]) hx hb dX3_caskTold_164 rfl hl (by decide) rfl (fun ls hl => ?_)
              refine lv_aload_n hx hb dX3_caskTold_165 rfl (lv_at hl 0 rfl) ?_
              refine lv_iload_n hx hb dX3_caskTold_166 rfl (lv_at hl 3 rfl) ?_
              refine cy_tiald hC 0 q96 hW 0 (i := 5) rfl rfl (by omega) (by decide) dX3_caskTold_167 ?_
              have hW := cy_drop hW
              refine cy_topv (congrArg Value.int (show (S 12 c) = cq_ct S ns c 5 from by first | (simp only [cq_ct, c_1, c_14, c_23, c_44, c_70, ↓reduceIte]; done) | exact absurd c_23 c_32)) ?_
              exact hE  _ _ _ _ _ _ (Nat.le_of_ble_eq_true rfl) (Nat.le_of_ble_eq_true rfl) hW dX3_caskTold_168
            · exact absurd c_70 (by decide)
          · exact absurd c_44 (by decide)
        · skip
          refine lv_aload_n hx hb dX3_caskTold_26 rfl (lv_at hl 0 rfl) ?_
          refine cy_get hC (0) (by decide) hi3 hW (rfl) rfl 14 (by decide) (hts (.fieldLink RX3 35 "CaskYardModel" "isSound" "[Z") (by decide +kernel)) (fun _ h9 => h9) (v := .ref (ad 8)) rfl dX3_caskTold_27 ?_
          refine lv_iload_n hx hb dX3_caskTold_30 rfl (lv_at hl 1 rfl) ?_
          refine cy_zald hC (8) (by decide) hW 2 (i := c) (rfl) rfl (by omega) (by decide) dX3_caskTold_31 ?_
          refine lv_if_eq (tgt := 39) hx hb dX3_caskTold_32 (by decide) (fun c_32 => ?_) (fun c_32 => ?_)
          · skip
            refine lv_iconst (v := 0) hx hb dX3_caskTold_39 (by decide) ?_
            refine cy_topv (congrArg Value.int (show 0 = cq_ct S ns c 5 from by first | (simp only [cq_ct, c_1, c_14, c_23, c_32, ↓reduceIte]; done) | exact absurd c_23 c_32)) ?_
            exact hE  _ _ _ _ _ _ (Nat.le_of_ble_eq_true rfl) (Nat.le_of_ble_eq_true rfl) hW dX3_caskTold_40
          · skip
            refine lv_iconst (v := 1) hx hb dX3_caskTold_35 (by decide) ?_
            refine lv_goto (tgt := 40) hx hb dX3_caskTold_36 (by decide) ?_
            refine cy_topv (congrArg Value.int (show 1 = cq_ct S ns c 5 from by first | (simp only [cq_ct, c_1, c_14, c_23, c_32, ↓reduceIte]; done) | exact absurd c_23 c_32)) ?_
            exact hE  _ _ _ _ _ _ (Nat.le_of_ble_eq_true rfl) (Nat.le_of_ble_eq_true rfl) hW dX3_caskTold_40
    · exact absurd c_1 (by decide)
  · have hl := hl
    have hl : lv_has ls 4 [(0, .ref (ad 0)), (1, .int (nI c)), (2, .int 6)] := hl
    refine lv_iload_n hx hb dX3_caskTold_0 rfl (lv_at hl 2 rfl) ?_
    refine lv_if_ne (tgt := 11) hx hb dX3_caskTold_1 (by decide) (fun c_1 => ?_) (fun c_1 => ?_)
    · skip
      refine lv_iload_n hx hb dX3_caskTold_11 rfl (lv_at hl 2 rfl) ?_
      refine lv_bipush (v := 15) hx hb dX3_caskTold_12 (by decide) ?_
      refine lv_icmp_eq (tgt := 26) hx hb dX3_caskTold_14 (by decide) (fun c_14 => ?_) (fun c_14 => ?_)
      · exact absurd c_14 (by decide)
      · skip
        refine lv_aload_n hx hb dX3_caskTold_17 rfl (lv_at hl 0 rfl) ?_
        refine cy_get hC (0) (by decide) hi3 hW (rfl) rfl 14 (by decide) (hts (.fieldLink RX3 35 "CaskYardModel" "isSound" "[Z") (by decide +kernel)) (fun _ h9 => h9) (v := .ref (ad 8)) rfl dX3_caskTold_18 ?_
        refine lv_iload_n hx hb dX3_caskTold_21 rfl (lv_at hl 1 rfl) ?_
        refine cy_zald hC (8) (by decide) hW 2 (i := c) (rfl) rfl (by omega) (by decide) dX3_caskTold_22 ?_
        refine lv_if_ne (tgt := 41) hx hb dX3_caskTold_23 (by decide) (fun c_23 => ?_) (fun c_23 => ?_)
        · skip
          refine lv_iload_n hx hb dX3_caskTold_41 rfl (lv_at hl 2 rfl) ?_
          refine lv_bipush (v := 7) hx hb dX3_caskTold_42 (by decide) ?_
          refine lv_icmp_le (tgt := 67) hx hb dX3_caskTold_44 (by decide) (fun c_44 => ?_) (fun c_44 => ?_)
          · skip
            refine lv_iload_n hx hb dX3_caskTold_67 rfl (lv_at hl 2 rfl) ?_
            refine lv_bipush (v := 12) hx hb dX3_caskTold_68 (by decide) ?_
            refine lv_icmp_le (tgt := 94) hx hb dX3_caskTold_70 (by decide) (fun c_70 => ?_) (fun c_70 => ?_)
            · skip
              refine lv_bipush (v := 8) hx hb dX3_caskTold_94 (by decide) ?_
              refine cy_newI hC hW rfl (hts (.arrayClass .int) (by decide +kernel)) (N := 8) (by decide) (Nat.le_of_ble_eq_true rfl) (Nat.le_of_ble_eq_true rfl) (k' := 1) (n' := 8) rfl rfl dX3_caskTold_96 (fun q96 H hW => ?_)
              refine lv_dup hx hb dX3_caskTold_98 rfl ?_
              refine lv_iconst (v := 0) hx hb dX3_caskTold_99 (by decide) ?_
              refine lv_iconst (v := 0) hx hb dX3_caskTold_100 (by decide) ?_
              refine cy_tiast (tl' := ((q96, .inl (kI, 8, .inl (upd (fun _ => 0) 0 0))) :: tl)) hC 0 q96 hW 0 (i := 0) rfl rfl (by omega) (by decide) rfl dX3_caskTold_101 (fun H locs hW => ?_)
              refine lv_dup hx hb dX3_caskTold_102 rfl ?_
              refine lv_iconst (v := 1) hx hb dX3_caskTold_103 (by decide) ?_
              refine lv_aload_n hx hb dX3_caskTold_104 rfl (lv_at hl 0 rfl) ?_
              refine lv_iload_n hx hb dX3_caskTold_105 rfl (lv_at hl 1 rfl) ?_
              refine cy_callV (As := [.int (nI c)]) (rest := [.int 1, .ref q96, .ref q96]) (q0 := 0) (ci := 3) hC.1 hC.2.1 hC.2.2 hW (c_X3_stavesOf (x := (nI c)) (ns := ns) hns (by omega)) (cwV 1 hts gX3_caskTold_X3_stavesOf rfl rfl rfl (by decide +kernel) ⟨Nat.le_of_ble_eq_true rfl, Nat.le_of_ble_eq_true rfl⟩) (cy_w_at (by decide) (rfl)) rfl rfl hl.1 rfl (Nat.le_of_ble_eq_true rfl) dX3_caskTold_106 ⟨Nat.le_of_ble_eq_true rfl, Nat.le_of_ble_eq_true rfl⟩ (k' := 1) (n' := 8) rfl rfl (fun H locs hW => ?_)
              refine cy_tiast (tl' := ((q96, .inl (kI, 8, .inl (upd (upd (fun _ => 0) 0 0) 1 (cq_sa S (nI c) ns)))) :: tl)) hC 0 q96 hW 0 (i := 1) rfl rfl (by omega) (by decide) rfl dX3_caskTold_109 (fun H locs hW => ?_)
              refine lv_dup hx hb dX3_caskTold_110 rfl ?_
              refine lv_iconst (v := 2) hx hb dX3_caskTold_111 (by decide) ?_
              refine lv_aload_n hx hb dX3_caskTold_112 rfl (lv_at hl 0 rfl) ?_
              refine cy_get hC (0) (by decide) hi3 hW (rfl) rfl 15 (by decide) (hts (.fieldLink RX3 39 "CaskYardModel" "flaws" "[I") (by decide +kernel)) (fun _ h9 => h9) (v := .ref (ad 9)) rfl dX3_caskTold_113 ?_
              refine lv_iload_n hx hb dX3_caskTold_116 rfl (lv_at hl 1 rfl) ?_
              refine cy_iald hC (9) (by decide) hW 0 (i := c) (rfl) rfl (by omega) (by decide) dX3_caskTold_117 ?_
              refine cy_tiast (tl' := ((q96, .inl (kI, 8, .inl (upd (upd (upd (fun _ => 0) 0 0) 1 (cq_sa S (nI c) ns)) 2 (S 9 c)))) :: tl)) hC 0 q96 hW 0 (i := 2) rfl rfl (by omega) (by decide) rfl dX3_caskTold_118 (fun H locs hW => ?_)
              refine lv_dup hx hb dX3_caskTold_119 rfl ?_
              refine lv_iconst (v := 3) hx hb dX3_caskTold_120 (by decide) ?_
              refine lv_aload_n hx hb dX3_caskTold_121 rfl (lv_at hl 0 rfl) ?_
              refine lv_iload_n hx hb dX3_caskTold_122 rfl (lv_at hl 1 rfl) ?_
              refine cy_callV (As := [.int (nI c)]) (rest := [.int 3, .ref q96, .ref q96]) (q0 := 0) (ci := 3) hC.1 hC.2.1 hC.2.2 hW (c_X3_tensions (c := c) (by omega) (cq_ok_of rfl rfl hq)) (cwV 1 hts gX3_caskTold_X3_tensions rfl rfl rfl (by decide +kernel) ⟨Nat.le_of_ble_eq_true rfl, Nat.le_of_ble_eq_true rfl⟩) (cy_w_at (by decide) (rfl)) rfl rfl hl.1 rfl (Nat.le_of_ble_eq_true rfl) dX3_caskTold_123 ⟨Nat.le_of_ble_eq_true rfl, Nat.le_of_ble_eq_true rfl⟩ (k' := 1) (n' := 8) rfl rfl (fun H locs hW => ?_)
              refine cy_tiast (tl' := ((q96, .inl (kI, 8, .inl (upd (upd (upd (upd (fun _ => 0) 0 0) 1 (cq_sa S (nI c) ns)) 2 (S 9 c)) 3 (cq_tn S c)))) :: tl)) hC 0 q96 hW 0 (i := 3) rfl rfl (by omega) (by decide) rfl dX3_caskTold_126 (fun H locs hW => ?_)
              refine lv_dup hx hb dX3_caskTold_127 rfl ?_
              refine lv_iconst (v := 4) hx hb dX3_caskTold_128 (by decide) ?_
              refine lv_aload_n hx hb dX3_caskTold_129 rfl (lv_at hl 0 rfl) ?_
              refine cy_get hC (0) (by decide) hi3 hW (rfl) rfl 17 (by decide) (hts (.fieldLink RX3 45 "CaskYardModel" "swelling" "[I") (by decide +kernel)) (fun _ h9 => h9) (v := .ref (ad 11)) rfl dX3_caskTold_130 ?_
              refine lv_iload_n hx hb dX3_caskTold_133 rfl (lv_at hl 1 rfl) ?_
              refine cy_iald hC (11) (by decide) hW 0 (i := c) (rfl) rfl (by omega) (by decide) dX3_caskTold_134 ?_
              refine cy_tiast (tl' := ((q96, .inl (kI, 8, .inl (upd (upd (upd (upd (upd (fun _ => 0) 0 0) 1 (cq_sa S (nI c) ns)) 2 (S 9 c)) 3 (cq_tn S c)) 4 (S 11 c)))) :: tl)) hC 0 q96 hW 0 (i := 4) rfl rfl (by omega) (by decide) rfl dX3_caskTold_135 (fun H locs hW => ?_)
              refine lv_dup hx hb dX3_caskTold_136 rfl ?_
              refine lv_iconst (v := 5) hx hb dX3_caskTold_137 (by decide) ?_
              refine lv_aload_n hx hb dX3_caskTold_138 rfl (lv_at hl 0 rfl) ?_
              refine cy_get hC (0) (by decide) hi3 hW (rfl) rfl 18 (by decide) (hts (.fieldLink RX3 48 "CaskYardModel" "fillings" "[I") (by decide +kernel)) (fun _ h9 => h9) (v := .ref (ad 12)) rfl dX3_caskTold_139 ?_
              refine lv_iload_n hx hb dX3_caskTold_142 rfl (lv_at hl 1 rfl) ?_
              refine cy_iald hC (12) (by decide) hW 0 (i := c) (rfl) rfl (by omega) (by decide) dX3_caskTold_143 ?_
              refine cy_tiast (tl' := ((q96, .inl (kI, 8, .inl (upd (upd (upd (upd (upd (upd (fun _ => 0) 0 0) 1 (cq_sa S (nI c) ns)) 2 (S 9 c)) 3 (cq_tn S c)) 4 (S 11 c)) 5 (S 12 c)))) :: tl)) hC 0 q96 hW 0 (i := 5) rfl rfl (by omega) (by decide) rfl dX3_caskTold_144 (fun H locs hW => ?_)
              refine lv_dup hx hb dX3_caskTold_145 rfl ?_
              refine lv_bipush (v := 6) hx hb dX3_caskTold_146 (by decide) ?_
              refine lv_aload_n hx hb dX3_caskTold_148 rfl (lv_at hl 0 rfl) ?_
              refine cy_get hC (0) (by decide) hi3 hW (rfl) rfl 19 (by decide) (hts (.fieldLink RX3 51 "CaskYardModel" "air" "[I") (by decide +kernel)) (fun _ h9 => h9) (v := .ref (ad 13)) rfl dX3_caskTold_149 ?_
              refine lv_iload_n hx hb dX3_caskTold_152 rfl (lv_at hl 1 rfl) ?_
              refine cy_iald hC (13) (by decide) hW 0 (i := c) (rfl) rfl (by omega) (by decide) dX3_caskTold_153 ?_
              refine cy_tiast (tl' := ((q96, .inl (kI, 8, .inl (upd (upd (upd (upd (upd (upd (upd (fun _ => 0) 0 0) 1 (cq_sa S (nI c) ns)) 2 (S 9 c)) 3 (cq_tn S c)) 4 (S 11 c)) 5 (S 12 c)) 6 (S 13 c)))) :: tl)) hC 0 q96 hW 0 (i := 6) rfl rfl (by omega) (by decide) rfl dX3_caskTold_154 (fun H locs hW => ?_)
              refine lv_dup hx hb dX3_caskTold_155 rfl ?_
              refine lv_bipush (v := 7) hx hb dX3_caskTold_156 (by decide) ?_
              refine lv_aload_n hx hb dX3_caskTold_158 rfl (lv_at hl 0 rfl) ?_
              refine lv_iload_n hx hb dX3_caskTold_159 rfl (lv_at hl 1 rfl) ?_
              refine cy_callV (As := [.int (nI c)]) (rest := [.int 7, .ref q96, .ref q96]) (q0 := 0) (ci := 3) hC.1 hC.2.1 hC.2.2 hW (c_X3_all (c := c) (by omega)) (cwV 1 hts gX3_caskTold_X3_all rfl rfl rfl (by decide +kernel) ⟨Nat.le_of_ble_eq_true rfl, Nat.le_of_ble_eq_true rfl⟩) (cy_w_at (by decide) (rfl)) rfl rfl hl.1 rfl (Nat.le_of_ble_eq_true rfl) dX3_caskTold_160 ⟨Nat.le_of_ble_eq_true rfl, Nat.le_of_ble_eq_true rfl⟩ (k' := 1) (n' := 8) rfl rfl (fun H locs hW => ?_)
              refine cy_tiast (tl' := ((q96, .inl (kI, 8, .inl (upd (upd (upd (upd (upd (upd (upd (upd (fun _ => 0) 0 0) 1 (cq_sa S (nI c) ns)) 2 (S 9 c)) 3 (cq_tn S c)) 4 (S 11 c)) 5 (S 12 c)) 6 (S 13 c)) 7 (cq_al S c)))) :: tl)) hC 0 q96 hW 0 (i := 7) rfl rfl (by omega) (by decide) rfl dX3_caskTold_163 (fun H locs hW => ?_)
              refine lv_astore_n (lv' := [(3, .ref q96), (0, .ref (ad 0)), (1, .int (nI c)), (2, .int 6)]) hx hb dX3_caskTold_164 rfl hl (by decide) rfl (fun ls hl => ?_)
              refine lv_aload_n hx hb dX3_caskTold_165 rfl (lv_at hl 0 rfl) ?_
              refine lv_iload_n hx hb dX3_caskTold_166 rfl (lv_at hl 3 rfl) ?_
              refine cy_tiald hC 0 q96 hW 0 (i := 6) rfl rfl (by omega) (by decide) dX3_caskTold_167 ?_
              have hW := cy_drop hW
              refine cy_topv (congrArg Value.int (show (S 13 c) = cq_ct S ns c 6 from by first | (simp only [cq_ct, c_1, c_14, c_23, c_44, c_70, ↓reduceIte]; done) | exact absurd c_23 c_32)) ?_
              exact hE  _ _ _ _ _ _ (Nat.le_of_ble_eq_true rfl) (Nat.le_of_ble_eq_true rfl) hW dX3_caskTold_168
            · exact absurd c_70 (by decide)
          · exact absurd c_44 (by decide)
        · skip
          refine lv_aload_n hx hb dX3_caskTold_26 rfl (lv_at hl 0 rfl) ?_
          refine cy_get hC (0) (by decide) hi3 hW (rfl) rfl 14 (by decide) (hts (.fieldLink RX3 35 "CaskYardModel" "isSound" "[Z") (by decide +kernel)) (fun _ h9 => h9) (v := .ref (ad 8)) rfl dX3_caskTold_27 ?_
          refine lv_iload_n hx hb dX3_caskTold_30 rfl (lv_at hl 1 rfl) ?_
          refine cy_zald hC (8) (by decide) hW 2 (i := c) (rfl) rfl (by omega) (by decide) dX3_caskTold_31 ?_
          refine lv_if_eq (tgt := 39) hx hb dX3_caskTold_32 (by decide) (fun c_32 => ?_) (fun c_32 => ?_)
          · skip
            refine lv_iconst (v := 0) hx hb dX3_caskTold_39 (by decide) ?_
            refine cy_topv (congrArg Value.int (show 0 = cq_ct S ns c 6 from by first | (simp only [cq_ct, c_1, c_14, c_23, c_32, ↓reduceIte]; done) | exact absurd c_23 c_32)) ?_
            exact hE  _ _ _ _ _ _ (Nat.le_of_ble_eq_true rfl) (Nat.le_of_ble_eq_true rfl) hW dX3_caskTold_40
          · skip
            refine lv_iconst (v := 1) hx hb dX3_caskTold_35 (by decide) ?_
            refine lv_goto (tgt := 40) hx hb dX3_caskTold_36 (by decide) ?_
            refine cy_topv (congrArg Value.int (show 1 = cq_ct S ns c 6 from by first | (simp only [cq_ct, c_1, c_14, c_23, c_32, ↓reduceIte]; done) | exact absurd c_23 c_32)) ?_
            exact hE  _ _ _ _ _ _ (Nat.le_of_ble_eq_true rfl) (Nat.le_of_ble_eq_true rfl) hW dX3_caskTold_40
    · exact absurd c_1 (by decide)
  · have hl := hl
    have hl : lv_has ls 4 [(0, .ref (ad 0)), (1, .int (nI c)), (2, .int 7)] := hl
    refine lv_iload_n hx hb dX3_caskTold_0 rfl (lv_at hl 2 rfl) ?_
    refine lv_if_ne (tgt := 11) hx hb dX3_caskTold_1 (by decide) (fun c_1 => ?_) (fun c_1 => ?_)
    · skip
      refine lv_iload_n hx hb dX3_caskTold_11 rfl (lv_at hl 2 rfl) ?_
      refine lv_bipush (v := 15) hx hb dX3_caskTold_12 (by decide) ?_
      refine lv_icmp_eq (tgt := 26) hx hb dX3_caskTold_14 (by decide) (fun c_14 => ?_) (fun c_14 => ?_)
      · exact absurd c_14 (by decide)
      · skip
        refine lv_aload_n hx hb dX3_caskTold_17 rfl (lv_at hl 0 rfl) ?_
        refine cy_get hC (0) (by decide) hi3 hW (rfl) rfl 14 (by decide) (hts (.fieldLink RX3 35 "CaskYardModel" "isSound" "[Z") (by decide +kernel)) (fun _ h9 => h9) (v := .ref (ad 8)) rfl dX3_caskTold_18 ?_
        refine lv_iload_n hx hb dX3_caskTold_21 rfl (lv_at hl 1 rfl) ?_
        refine cy_zald hC (8) (by decide) hW 2 (i := c) (rfl) rfl (by omega) (by decide) dX3_caskTold_22 ?_
        refine lv_if_ne (tgt := 41) hx hb dX3_caskTold_23 (by decide) (fun c_23 => ?_) (fun c_23 => ?_)
        · skip
          refine lv_iload_n hx hb dX3_caskTold_41 rfl (lv_at hl 2 rfl) ?_
          refine lv_bipush (v := 7) hx hb dX3_caskTold_42 (by decide) ?_
          refine lv_icmp_le (tgt := 67) hx hb dX3_caskTold_44 (by decide) (fun c_44 => ?_) (fun c_44 => ?_)
          · skip
            refine lv_iload_n hx hb dX3_caskTold_67 rfl (lv_at hl 2 rfl) ?_
            refine lv_bipush (v := 12) hx hb dX3_caskTold_68 (by decide) ?_
            refine lv_icmp_le (tgt := 94) hx hb dX3_caskTold_70 (by decide) (fun c_70 => ?_) (fun c_70 => ?_)
            · skip
              refine lv_bipush (v := 8) hx hb dX3_caskTold_94 (by decide) ?_
              refine cy_newI hC hW rfl (hts (.arrayClass .int) (by decide +kernel)) (N := 8) (by decide) (Nat.le_of_ble_eq_true rfl) (Nat.le_of_ble_eq_true rfl) (k' := 1) (n' := 8) rfl rfl dX3_caskTold_96 (fun q96 H hW => ?_)
              refine lv_dup hx hb dX3_caskTold_98 rfl ?_
              refine lv_iconst (v := 0) hx hb dX3_caskTold_99 (by decide) ?_
              refine lv_iconst (v := 0) hx hb dX3_caskTold_100 (by decide) ?_
              refine cy_tiast (tl' := ((q96, .inl (kI, 8, .inl (upd (fun _ => 0) 0 0))) :: tl)) hC 0 q96 hW 0 (i := 0) rfl rfl (by omega) (by decide) rfl dX3_caskTold_101 (fun H locs hW => ?_)
              refine lv_dup hx hb dX3_caskTold_102 rfl ?_
              refine lv_iconst (v := 1) hx hb dX3_caskTold_103 (by decide) ?_
              refine lv_aload_n hx hb dX3_caskTold_104 rfl (lv_at hl 0 rfl) ?_
              refine lv_iload_n hx hb dX3_caskTold_105 rfl (lv_at hl 1 rfl) ?_
              refine cy_callV (As := [.int (nI c)]) (rest := [.int 1, .ref q96, .ref q96]) (q0 := 0) (ci := 3) hC.1 hC.2.1 hC.2.2 hW (c_X3_stavesOf (x := (nI c)) (ns := ns) hns (by omega)) (cwV 1 hts gX3_caskTold_X3_stavesOf rfl rfl rfl (by decide +kernel) ⟨Nat.le_of_ble_eq_true rfl, Nat.le_of_ble_eq_true rfl⟩) (cy_w_at (by decide) (rfl)) rfl rfl hl.1 rfl (Nat.le_of_ble_eq_true rfl) dX3_caskTold_106 ⟨Nat.le_of_ble_eq_true rfl, Nat.le_of_ble_eq_true rfl⟩ (k' := 1) (n' := 8) rfl rfl (fun H locs hW => ?_)
              refine cy_tiast (tl' := ((q96, .inl (kI, 8, .inl (upd (upd (fun _ => 0) 0 0) 1 (cq_sa S (nI c) ns)))) :: tl)) hC 0 q96 hW 0 (i := 1) rfl rfl (by omega) (by decide) rfl dX3_caskTold_109 (fun H locs hW => ?_)
              refine lv_dup hx hb dX3_caskTold_110 rfl ?_
              refine lv_iconst (v := 2) hx hb dX3_caskTold_111 (by decide) ?_
              refine lv_aload_n hx hb dX3_caskTold_112 rfl (lv_at hl 0 rfl) ?_
              refine cy_get hC (0) (by decide) hi3 hW (rfl) rfl 15 (by decide) (hts (.fieldLink RX3 39 "CaskYardModel" "flaws" "[I") (by decide +kernel)) (fun _ h9 => h9) (v := .ref (ad 9)) rfl dX3_caskTold_113 ?_
              refine lv_iload_n hx hb dX3_caskTold_116 rfl (lv_at hl 1 rfl) ?_
              refine cy_iald hC (9) (by decide) hW 0 (i := c) (rfl) rfl (by omega) (by decide) dX3_caskTold_117 ?_
              refine cy_tiast (tl' := ((q96, .inl (kI, 8, .inl (upd (upd (upd (fun _ => 0) 0 0) 1 (cq_sa S (nI c) ns)) 2 (S 9 c)))) :: tl)) hC 0 q96 hW 0 (i := 2) rfl rfl (by omega) (by decide) rfl dX3_caskTold_118 (fun H locs hW => ?_)
              refine lv_dup hx hb dX3_caskTold_119 rfl ?_
              refine lv_iconst (v := 3) hx hb dX3_caskTold_120 (by decide) ?_
              refine lv_aload_n hx hb dX3_caskTold_121 rfl (lv_at hl 0 rfl) ?_
              refine lv_iload_n hx hb dX3_caskTold_122 rfl (lv_at hl 1 rfl) ?_
              refine cy_callV (As := [.int (nI c)]) (rest := [.int 3, .ref q96, .ref q96]) (q0 := 0) (ci := 3) hC.1 hC.2.1 hC.2.2 hW (c_X3_tensions (c := c) (by omega) (cq_ok_of rfl rfl hq)) (cwV 1 hts gX3_caskTold_X3_tensions rfl rfl rfl (by decide +kernel) ⟨Nat.le_of_ble_eq_true rfl, Nat.le_of_ble_eq_true rfl⟩) (cy_w_at (by decide) (rfl)) rfl rfl hl.1 rfl (Nat.le_of_ble_eq_true rfl) dX3_caskTold_123 ⟨Nat.le_of_ble_eq_true rfl, Nat.le_of_ble_eq_true rfl⟩ (k' := 1) (n' := 8) rfl rfl (fun H locs hW => ?_)
              refine cy_tiast (tl' := ((q96, .inl (kI, 8, .inl (upd (upd (upd (upd (fun _ => 0) 0 0) 1 (cq_sa S (nI c) ns)) 2 (S 9 c)) 3 (cq_tn S c)))) :: tl)) hC 0 q96 hW 0 (i := 3) rfl rfl (by omega) (by decide) rfl dX3_caskTold_126 (fun H locs hW => ?_)
              refine lv_dup hx hb dX3_caskTold_127 rfl ?_
              refine lv_iconst (v := 4) hx hb dX3_caskTold_128 (by decide) ?_
              refine lv_aload_n hx hb dX3_caskTold_129 rfl (lv_at hl 0 rfl) ?_
              refine cy_get hC (0) (by decide) hi3 hW (rfl) rfl 17 (by decide) (hts (.fieldLink RX3 45 "CaskYardModel" "swelling" "[I") (by decide +kernel)) (fun _ h9 => h9) (v := .ref (ad 11)) rfl dX3_caskTold_130 ?_
              refine lv_iload_n hx hb dX3_caskTold_133 rfl (lv_at hl 1 rfl) ?_
              refine cy_iald hC (11) (by decide) hW 0 (i := c) (rfl) rfl (by omega) (by decide) dX3_caskTold_134 ?_
              refine cy_tiast (tl' := ((q96, .inl (kI, 8, .inl (upd (upd (upd (upd (upd (fun _ => 0) 0 0) 1 (cq_sa S (nI c) ns)) 2 (S 9 c)) 3 (cq_tn S c)) 4 (S 11 c)))) :: tl)) hC 0 q96 hW 0 (i := 4) rfl rfl (by omega) (by decide) rfl dX3_caskTold_135 (fun H locs hW => ?_)
              refine lv_dup hx hb dX3_caskTold_136 rfl ?_
              refine lv_iconst (v := 5) hx hb dX3_caskTold_137 (by decide) ?_
              refine lv_aload_n hx hb dX3_caskTold_138 rfl (lv_at hl 0 rfl) ?_
              refine cy_get hC (0) (by decide) hi3 hW (rfl) rfl 18 (by decide) (hts (.fieldLink RX3 48 "CaskYardModel" "fillings" "[I") (by decide +kernel)) (fun _ h9 => h9) (v := .ref (ad 12)) rfl dX3_caskTold_139 ?_
              refine lv_iload_n hx hb dX3_caskTold_142 rfl (lv_at hl 1 rfl) ?_
              refine cy_iald hC (12) (by decide) hW 0 (i := c) (rfl) rfl (by omega) (by decide) dX3_caskTold_143 ?_
              refine cy_tiast (tl' := ((q96, .inl (kI, 8, .inl (upd (upd (upd (upd (upd (upd (fun _ => 0) 0 0) 1 (cq_sa S (nI c) ns)) 2 (S 9 c)) 3 (cq_tn S c)) 4 (S 11 c)) 5 (S 12 c)))) :: tl)) hC 0 q96 hW 0 (i := 5) rfl rfl (by omega) (by decide) rfl dX3_caskTold_144 (fun H locs hW => ?_)
              refine lv_dup hx hb dX3_caskTold_145 rfl ?_
              refine lv_bipush (v := 6) hx hb dX3_caskTold_146 (by decide) ?_
              refine lv_aload_n hx hb dX3_caskTold_148 rfl (lv_at hl 0 rfl) ?_
              refine cy_get hC (0) (by decide) hi3 hW (rfl) rfl 19 (by decide) (hts (.fieldLink RX3 51 "CaskYardModel" "air" "[I") (by decide +kernel)) (fun _ h9 => h9) (v := .ref (ad 13)) rfl dX3_caskTold_149 ?_
              refine lv_iload_n hx hb dX3_caskTold_152 rfl (lv_at hl 1 rfl) ?_
              refine cy_iald hC (13) (by decide) hW 0 (i := c) (rfl) rfl (by omega) (by decide) dX3_caskTold_153 ?_
              refine cy_tiast (tl' := ((q96, .inl (kI, 8, .inl (upd (upd (upd (upd (upd (upd (upd (fun _ => 0) 0 0) 1 (cq_sa S (nI c) ns)) 2 (S 9 c)) 3 (cq_tn S c)) 4 (S 11 c)) 5 (S 12 c)) 6 (S 13 c)))) :: tl)) hC 0 q96 hW 0 (i := 6) rfl rfl (by omega) (by decide) rfl dX3_caskTold_154 (fun H locs hW => ?_)
              refine lv_dup hx hb dX3_caskTold_155 rfl ?_
              refine lv_bipush (v := 7) hx hb dX3_caskTold_156 (by decide) ?_
              refine lv_aload_n hx hb dX3_caskTold_158 rfl (lv_at hl 0 rfl) ?_
              refine lv_iload_n hx hb dX3_caskTold_159 rfl (lv_at hl 1 rfl) ?_
              refine cy_callV (As := [.int (nI c)]) (rest := [.int 7, .ref q96, .ref q96]) (q0 := 0) (ci := 3) hC.1 hC.2.1 hC.2.2 hW (c_X3_all (c := c) (by omega)) (cwV 1 hts gX3_caskTold_X3_all rfl rfl rfl (by decide +kernel) ⟨Nat.le_of_ble_eq_true rfl, Nat.le_of_ble_eq_true rfl⟩) (cy_w_at (by decide) (rfl)) rfl rfl hl.1 rfl (Nat.le_of_ble_eq_true rfl) dX3_caskTold_160 ⟨Nat.le_of_ble_eq_true rfl, Nat.le_of_ble_eq_true rfl⟩ (k' := 1) (n' := 8) rfl rfl (fun H locs hW => ?_)
              refine cy_tiast (tl' := ((q96, .inl (kI, 8, .inl (upd (upd (upd (upd (upd (upd (upd (upd (fun _ => 0) 0 0) 1 (cq_sa S (nI c) ns)) 2 (S 9 c)) 3 (cq_tn S c)) 4 (S 11 c)) 5 (S 12 c)) 6 (S 13 c)) 7 (cq_al S c)))) :: tl)) hC 0 q96 hW 0 (i := 7) rfl rfl (by omega) (by decide) rfl dX3_caskTold_163 (fun H locs hW => ?_)
              refine lv_astore_n (lv' := [(3, .ref q96), (0, .ref (ad 0)), (1, .int (nI c)), (2, .int 7)]) hx hb dX3_caskTold_164 rfl hl (by decide) rfl (fun ls hl => ?_)
              refine lv_aload_n hx hb dX3_caskTold_165 rfl (lv_at hl 0 rfl) ?_
              refine lv_iload_n hx hb dX3_caskTold_166 rfl (lv_at hl 3 rfl) ?_
              refine cy_tiald hC 0 q96 hW 0 (i := 7) rfl rfl (by omega) (by decide) dX3_caskTold_167 ?_
              have hW := cy_drop hW
              refine cy_topv (congrArg Value.int (show (cq_al S c) = cq_ct S ns c 7 from by first | (simp only [cq_ct, c_1, c_14, c_23, c_44, c_70, ↓reduceIte]; done) | exact absurd c_23 c_32)) ?_
              exact hE  _ _ _ _ _ _ (Nat.le_of_ble_eq_true rfl) (Nat.le_of_ble_eq_true rfl) hW dX3_caskTold_168
            · exact absurd c_70 (by decide)
          · exact absurd c_44 (by decide)
        · skip
          refine lv_aload_n hx hb dX3_caskTold_26 rfl (lv_at hl 0 rfl) ?_
          refine cy_get hC (0) (by decide) hi3 hW (rfl) rfl 14 (by decide) (hts (.fieldLink RX3 35 "CaskYardModel" "isSound" "[Z") (by decide +kernel)) (fun _ h9 => h9) (v := .ref (ad 8)) rfl dX3_caskTold_27 ?_
          refine lv_iload_n hx hb dX3_caskTold_30 rfl (lv_at hl 1 rfl) ?_
          refine cy_zald hC (8) (by decide) hW 2 (i := c) (rfl) rfl (by omega) (by decide) dX3_caskTold_31 ?_
          refine lv_if_eq (tgt := 39) hx hb dX3_caskTold_32 (by decide) (fun c_32 => ?_) (fun c_32 => ?_)
          · skip
            refine lv_iconst (v := 0) hx hb dX3_caskTold_39 (by decide) ?_
            refine cy_topv (congrArg Value.int (show 0 = cq_ct S ns c 7 from by first | (simp only [cq_ct, c_1, c_14, c_23, c_32, ↓reduceIte]; done) | exact absurd c_23 c_32)) ?_
            exact hE  _ _ _ _ _ _ (Nat.le_of_ble_eq_true rfl) (Nat.le_of_ble_eq_true rfl) hW dX3_caskTold_40
          · skip
            refine lv_iconst (v := 1) hx hb dX3_caskTold_35 (by decide) ?_
            refine lv_goto (tgt := 40) hx hb dX3_caskTold_36 (by decide) ?_
            refine cy_topv (congrArg Value.int (show 1 = cq_ct S ns c 7 from by first | (simp only [cq_ct, c_1, c_14, c_23, c_32, ↓reduceIte]; done) | exact absurd c_23 c_32)) ?_
            exact hE  _ _ _ _ _ _ (Nat.le_of_ble_eq_true rfl) (Nat.le_of_ble_eq_true rfl) hW dX3_caskTold_40
    · exact absurd c_1 (by decide)
  · have hl := hl
    have hl : lv_has ls 4 [(0, .ref (ad 0)), (1, .int (nI c)), (2, .int 8)] := hl
    refine lv_iload_n hx hb dX3_caskTold_0 rfl (lv_at hl 2 rfl) ?_
    refine lv_if_ne (tgt := 11) hx hb dX3_caskTold_1 (by decide) (fun c_1 => ?_) (fun c_1 => ?_)
    · skip
      refine lv_iload_n hx hb dX3_caskTold_11 rfl (lv_at hl 2 rfl) ?_
      refine lv_bipush (v := 15) hx hb dX3_caskTold_12 (by decide) ?_
      refine lv_icmp_eq (tgt := 26) hx hb dX3_caskTold_14 (by decide) (fun c_14 => ?_) (fun c_14 => ?_)
      · exact absurd c_14 (by decide)
      · skip
        refine lv_aload_n hx hb dX3_caskTold_17 rfl (lv_at hl 0 rfl) ?_
        refine cy_get hC (0) (by decide) hi3 hW (rfl) rfl 14 (by decide) (hts (.fieldLink RX3 35 "CaskYardModel" "isSound" "[Z") (by decide +kernel)) (fun _ h9 => h9) (v := .ref (ad 8)) rfl dX3_caskTold_18 ?_
        refine lv_iload_n hx hb dX3_caskTold_21 rfl (lv_at hl 1 rfl) ?_
        refine cy_zald hC (8) (by decide) hW 2 (i := c) (rfl) rfl (by omega) (by decide) dX3_caskTold_22 ?_
        refine lv_if_ne (tgt := 41) hx hb dX3_caskTold_23 (by decide) (fun c_23 => ?_) (fun c_23 => ?_)
        · skip
          refine lv_iload_n hx hb dX3_caskTold_41 rfl (lv_at hl 2 rfl) ?_
          refine lv_bipush (v := 7) hx hb dX3_caskTold_42 (by decide) ?_
          refine lv_icmp_le (tgt := 67) hx hb dX3_caskTold_44 (by decide) (fun c_44 => ?_) (fun c_44 => ?_)
          · exact absurd c_44 (by decide)
          · skip
            refine lv_iload_n hx hb dX3_caskTold_47 rfl (lv_at hl 2 rfl) ?_
            refine lv_bipush (v := 13) hx hb dX3_caskTold_48 (by decide) ?_
            refine lv_icmp_ge (tgt := 67) hx hb dX3_caskTold_50 (by decide) (fun c_50 => ?_) (fun c_50 => ?_)
            · exact absurd c_50 (by decide)
            · skip
              refine lv_aload_n hx hb dX3_caskTold_53 rfl (lv_at hl 0 rfl) ?_
              refine cy_get hC (0) (by decide) hi3 hW (rfl) rfl 20 (by decide) (hts (.fieldLink RX3 54 "CaskYardModel" "holds" "[I") (by decide +kernel)) (fun _ h9 => h9) (v := .ref (ad 14)) rfl dX3_caskTold_54 ?_
              refine lv_iconst (v := 5) hx hb dX3_caskTold_57 (by decide) ?_
              refine lv_iload_n hx hb dX3_caskTold_58 rfl (lv_at hl 1 rfl) ?_
              refine lv_imul hx hb dX3_caskTold_59 ?_
              refine cy_top (pk_mul 5 c) ?_
              refine lv_iload_n hx hb dX3_caskTold_60 rfl (lv_at hl 2 rfl) ?_
              refine lv_iadd hx hb dX3_caskTold_61 ?_
              refine cy_top (nI_add (5 * c) 8) ?_
              refine lv_bipush (v := 8) hx hb dX3_caskTold_62 (by decide) ?_
              refine lv_isub hx hb dX3_caskTold_64 ?_
              refine cy_top (pk_sub (a := ((5 * c) + 8)) (b := 8) (by omega)) ?_
              refine cy_top (show nI (((5 * c) + 8) - 8) = nI (5 * c + 0) from congrArg nI (by omega)) ?_
              refine cy_iald hC (14) (by decide) hW 0 (i := (5 * c + 0)) (rfl) rfl (by omega) (by decide) dX3_caskTold_65 ?_
              refine cy_topv (congrArg Value.int (show S 14 (5 * c + 0) = cq_ct S ns c 8 from by first | (simp only [cq_ct, c_1, c_14, c_23, c_44, c_50, ↓reduceIte]; done) | exact absurd c_23 c_32)) ?_
              exact hE  _ _ _ _ _ _ (Nat.le_of_ble_eq_true rfl) (Nat.le_of_ble_eq_true rfl) hW dX3_caskTold_66
        · skip
          refine lv_aload_n hx hb dX3_caskTold_26 rfl (lv_at hl 0 rfl) ?_
          refine cy_get hC (0) (by decide) hi3 hW (rfl) rfl 14 (by decide) (hts (.fieldLink RX3 35 "CaskYardModel" "isSound" "[Z") (by decide +kernel)) (fun _ h9 => h9) (v := .ref (ad 8)) rfl dX3_caskTold_27 ?_
          refine lv_iload_n hx hb dX3_caskTold_30 rfl (lv_at hl 1 rfl) ?_
          refine cy_zald hC (8) (by decide) hW 2 (i := c) (rfl) rfl (by omega) (by decide) dX3_caskTold_31 ?_
          refine lv_if_eq (tgt := 39) hx hb dX3_caskTold_32 (by decide) (fun c_32 => ?_) (fun c_32 => ?_)
          · skip
            refine lv_iconst (v := 0) hx hb dX3_caskTold_39 (by decide) ?_
            refine cy_topv (congrArg Value.int (show 0 = cq_ct S ns c 8 from by first | (simp only [cq_ct, c_1, c_14, c_23, c_32, ↓reduceIte]; done) | exact absurd c_23 c_32)) ?_
            exact hE  _ _ _ _ _ _ (Nat.le_of_ble_eq_true rfl) (Nat.le_of_ble_eq_true rfl) hW dX3_caskTold_40
          · skip
            refine lv_iconst (v := 1) hx hb dX3_caskTold_35 (by decide) ?_
            refine lv_goto (tgt := 40) hx hb dX3_caskTold_36 (by decide) ?_
            refine cy_topv (congrArg Value.int (show 1 = cq_ct S ns c 8 from by first | (simp only [cq_ct, c_1, c_14, c_23, c_32, ↓reduceIte]; done) | exact absurd c_23 c_32)) ?_
            exact hE  _ _ _ _ _ _ (Nat.le_of_ble_eq_true rfl) (Nat.le_of_ble_eq_true rfl) hW dX3_caskTold_40
    · exact absurd c_1 (by decide)
  · have hl := hl
    have hl : lv_has ls 4 [(0, .ref (ad 0)), (1, .int (nI c)), (2, .int 9)] := hl
    refine lv_iload_n hx hb dX3_caskTold_0 rfl (lv_at hl 2 rfl) ?_
    refine lv_if_ne (tgt := 11) hx hb dX3_caskTold_1 (by decide) (fun c_1 => ?_) (fun c_1 => ?_)
    · skip
      refine lv_iload_n hx hb dX3_caskTold_11 rfl (lv_at hl 2 rfl) ?_
      refine lv_bipush (v := 15) hx hb dX3_caskTold_12 (by decide) ?_
      refine lv_icmp_eq (tgt := 26) hx hb dX3_caskTold_14 (by decide) (fun c_14 => ?_) (fun c_14 => ?_)
      · exact absurd c_14 (by decide)
      · skip
        refine lv_aload_n hx hb dX3_caskTold_17 rfl (lv_at hl 0 rfl) ?_
        refine cy_get hC (0) (by decide) hi3 hW (rfl) rfl 14 (by decide) (hts (.fieldLink RX3 35 "CaskYardModel" "isSound" "[Z") (by decide +kernel)) (fun _ h9 => h9) (v := .ref (ad 8)) rfl dX3_caskTold_18 ?_
        refine lv_iload_n hx hb dX3_caskTold_21 rfl (lv_at hl 1 rfl) ?_
        refine cy_zald hC (8) (by decide) hW 2 (i := c) (rfl) rfl (by omega) (by decide) dX3_caskTold_22 ?_
        refine lv_if_ne (tgt := 41) hx hb dX3_caskTold_23 (by decide) (fun c_23 => ?_) (fun c_23 => ?_)
        · skip
          refine lv_iload_n hx hb dX3_caskTold_41 rfl (lv_at hl 2 rfl) ?_
          refine lv_bipush (v := 7) hx hb dX3_caskTold_42 (by decide) ?_
          refine lv_icmp_le (tgt := 67) hx hb dX3_caskTold_44 (by decide) (fun c_44 => ?_) (fun c_44 => ?_)
          · exact absurd c_44 (by decide)
          · skip
            refine lv_iload_n hx hb dX3_caskTold_47 rfl (lv_at hl 2 rfl) ?_
            refine lv_bipush (v := 13) hx hb dX3_caskTold_48 (by decide) ?_
            refine lv_icmp_ge (tgt := 67) hx hb dX3_caskTold_50 (by decide) (fun c_50 => ?_) (fun c_50 => ?_)
            · exact absurd c_50 (by decide)
            · skip
              refine lv_aload_n hx hb dX3_caskTold_53 rfl (lv_at hl 0 rfl) ?_
              refine cy_get hC (0) (by decide) hi3 hW (rfl) rfl 20 (by decide) (hts (.fieldLink RX3 54 "CaskYardModel" "holds" "[I") (by decide +kernel)) (fun _ h9 => h9) (v := .ref (ad 14)) rfl dX3_caskTold_54 ?_
              refine lv_iconst (v := 5) hx hb dX3_caskTold_57 (by decide) ?_
              refine lv_iload_n hx hb dX3_caskTold_58 rfl (lv_at hl 1 rfl) ?_
              refine lv_imul hx hb dX3_caskTold_59 ?_
              refine cy_top (pk_mul 5 c) ?_
              refine lv_iload_n hx hb dX3_caskTold_60 rfl (lv_at hl 2 rfl) ?_
              refine lv_iadd hx hb dX3_caskTold_61 ?_
              refine cy_top (nI_add (5 * c) 9) ?_
              refine lv_bipush (v := 8) hx hb dX3_caskTold_62 (by decide) ?_
              refine lv_isub hx hb dX3_caskTold_64 ?_
              refine cy_top (pk_sub (a := ((5 * c) + 9)) (b := 8) (by omega)) ?_
              refine cy_top (show nI (((5 * c) + 9) - 8) = nI (5 * c + 1) from congrArg nI (by omega)) ?_
              refine cy_iald hC (14) (by decide) hW 0 (i := (5 * c + 1)) (rfl) rfl (by omega) (by decide) dX3_caskTold_65 ?_
              refine cy_topv (congrArg Value.int (show S 14 (5 * c + 1) = cq_ct S ns c 9 from by first | (simp only [cq_ct, c_1, c_14, c_23, c_44, c_50, ↓reduceIte]; done) | exact absurd c_23 c_32)) ?_
              exact hE  _ _ _ _ _ _ (Nat.le_of_ble_eq_true rfl) (Nat.le_of_ble_eq_true rfl) hW dX3_caskTold_66
        · skip
          refine lv_aload_n hx hb dX3_caskTold_26 rfl (lv_at hl 0 rfl) ?_
          refine cy_get hC (0) (by decide) hi3 hW (rfl) rfl 14 (by decide) (hts (.fieldLink RX3 35 "CaskYardModel" "isSound" "[Z") (by decide +kernel)) (fun _ h9 => h9) (v := .ref (ad 8)) rfl dX3_caskTold_27 ?_
          refine lv_iload_n hx hb dX3_caskTold_30 rfl (lv_at hl 1 rfl) ?_
          refine cy_zald hC (8) (by decide) hW 2 (i := c) (rfl) rfl (by omega) (by decide) dX3_caskTold_31 ?_
          refine lv_if_eq (tgt := 39) hx hb dX3_caskTold_32 (by decide) (fun c_32 => ?_) (fun c_32 => ?_)
          · skip
            refine lv_iconst (v := 0) hx hb dX3_caskTold_39 (by decide) ?_
            refine cy_topv (congrArg Value.int (show 0 = cq_ct S ns c 9 from by first | (simp only [cq_ct, c_1, c_14, c_23, c_32, ↓reduceIte]; done) | exact absurd c_23 c_32)) ?_
            exact hE  _ _ _ _ _ _ (Nat.le_of_ble_eq_true rfl) (Nat.le_of_ble_eq_true rfl) hW dX3_caskTold_40
          · skip
            refine lv_iconst (v := 1) hx hb dX3_caskTold_35 (by decide) ?_
            refine lv_goto (tgt := 40) hx hb dX3_caskTold_36 (by decide) ?_
            refine cy_topv (congrArg Value.int (show 1 = cq_ct S ns c 9 from by first | (simp only [cq_ct, c_1, c_14, c_23, c_32, ↓reduceIte]; done) | exact absurd c_23 c_32)) ?_
            exact hE  _ _ _ _ _ _ (Nat.le_of_ble_eq_true rfl) (Nat.le_of_ble_eq_true rfl) hW dX3_caskTold_40
    · exact absurd c_1 (by decide)
  · have hl := hl
    have hl : lv_has ls 4 [(0, .ref (ad 0)), (1, .int (nI c)), (2, .int 10)] := hl
    refine lv_iload_n hx hb dX3_caskTold_0 rfl (lv_at hl 2 rfl) ?_
    refine lv_if_ne (tgt := 11) hx hb dX3_caskTold_1 (by decide) (fun c_1 => ?_) (fun c_1 => ?_)
    · skip
      refine lv_iload_n hx hb dX3_caskTold_11 rfl (lv_at hl 2 rfl) ?_
      refine lv_bipush (v := 15) hx hb dX3_caskTold_12 (by decide) ?_
      refine lv_icmp_eq (tgt := 26) hx hb dX3_caskTold_14 (by decide) (fun c_14 => ?_) (fun c_14 => ?_)
      · exact absurd c_14 (by decide)
      · skip
        refine lv_aload_n hx hb dX3_caskTold_17 rfl (lv_at hl 0 rfl) ?_
        refine cy_get hC (0) (by decide) hi3 hW (rfl) rfl 14 (by decide) (hts (.fieldLink RX3 35 "CaskYardModel" "isSound" "[Z") (by decide +kernel)) (fun _ h9 => h9) (v := .ref (ad 8)) rfl dX3_caskTold_18 ?_
        refine lv_iload_n hx hb dX3_caskTold_21 rfl (lv_at hl 1 rfl) ?_
        refine cy_zald hC (8) (by decide) hW 2 (i := c) (rfl) rfl (by omega) (by decide) dX3_caskTold_22 ?_
        refine lv_if_ne (tgt := 41) hx hb dX3_caskTold_23 (by decide) (fun c_23 => ?_) (fun c_23 => ?_)
        · skip
          refine lv_iload_n hx hb dX3_caskTold_41 rfl (lv_at hl 2 rfl) ?_
          refine lv_bipush (v := 7) hx hb dX3_caskTold_42 (by decide) ?_
          refine lv_icmp_le (tgt := 67) hx hb dX3_caskTold_44 (by decide) (fun c_44 => ?_) (fun c_44 => ?_)
          · exact absurd c_44 (by decide)
          · skip
            refine lv_iload_n hx hb dX3_caskTold_47 rfl (lv_at hl 2 rfl) ?_
            refine lv_bipush (v := 13) hx hb dX3_caskTold_48 (by decide) ?_
            refine lv_icmp_ge (tgt := 67) hx hb dX3_caskTold_50 (by decide) (fun c_50 => ?_) (fun c_50 => ?_)
            · exact absurd c_50 (by decide)
            · skip
              refine lv_aload_n hx hb dX3_caskTold_53 rfl (lv_at hl 0 rfl) ?_
              refine cy_get hC (0) (by decide) hi3 hW (rfl) rfl 20 (by decide) (hts (.fieldLink RX3 54 "CaskYardModel" "holds" "[I") (by decide +kernel)) (fun _ h9 => h9) (v := .ref (ad 14)) rfl dX3_caskTold_54 ?_
              refine lv_iconst (v := 5) hx hb dX3_caskTold_57 (by decide) ?_
              refine lv_iload_n hx hb dX3_caskTold_58 rfl (lv_at hl 1 rfl) ?_
              refine lv_imul hx hb dX3_caskTold_59 ?_
              refine cy_top (pk_mul 5 c) ?_
              refine lv_iload_n hx hb dX3_caskTold_60 rfl (lv_at hl 2 rfl) ?_
              refine lv_iadd hx hb dX3_caskTold_61 ?_
              refine cy_top (nI_add (5 * c) 10) ?_
              refine lv_bipush (v := 8) hx hb dX3_caskTold_62 (by decide) ?_
              refine lv_isub hx hb dX3_caskTold_64 ?_
              refine cy_top (pk_sub (a := ((5 * c) + 10)) (b := 8) (by omega)) ?_
              refine cy_top (show nI (((5 * c) + 10) - 8) = nI (5 * c + 2) from congrArg nI (by omega)) ?_
              refine cy_iald hC (14) (by decide) hW 0 (i := (5 * c + 2)) (rfl) rfl (by omega) (by decide) dX3_caskTold_65 ?_
              refine cy_topv (congrArg Value.int (show S 14 (5 * c + 2) = cq_ct S ns c 10 from by first | (simp only [cq_ct, c_1, c_14, c_23, c_44, c_50, ↓reduceIte]; done) | exact absurd c_23 c_32)) ?_
              exact hE  _ _ _ _ _ _ (Nat.le_of_ble_eq_true rfl) (Nat.le_of_ble_eq_true rfl) hW dX3_caskTold_66
        · skip
          refine lv_aload_n hx hb dX3_caskTold_26 rfl (lv_at hl 0 rfl) ?_
          refine cy_get hC (0) (by decide) hi3 hW (rfl) rfl 14 (by decide) (hts (.fieldLink RX3 35 "CaskYardModel" "isSound" "[Z") (by decide +kernel)) (fun _ h9 => h9) (v := .ref (ad 8)) rfl dX3_caskTold_27 ?_
          refine lv_iload_n hx hb dX3_caskTold_30 rfl (lv_at hl 1 rfl) ?_
          refine cy_zald hC (8) (by decide) hW 2 (i := c) (rfl) rfl (by omega) (by decide) dX3_caskTold_31 ?_
          refine lv_if_eq (tgt := 39) hx hb dX3_caskTold_32 (by decide) (fun c_32 => ?_) (fun c_32 => ?_)
          · skip
            refine lv_iconst (v := 0) hx hb dX3_caskTold_39 (by decide) ?_
            refine cy_topv (congrArg Value.int (show 0 = cq_ct S ns c 10 from by first | (simp only [cq_ct, c_1, c_14, c_23, c_32, ↓reduceIte]; done) | exact absurd c_23 c_32)) ?_
            exact hE  _ _ _ _ _ _ (Nat.le_of_ble_eq_true rfl) (Nat.le_of_ble_eq_true rfl) hW dX3_caskTold_40
          · skip
            refine lv_iconst (v := 1) hx hb dX3_caskTold_35 (by decide) ?_
            refine lv_goto (tgt := 40) hx hb dX3_caskTold_36 (by decide) ?_
            refine cy_topv (congrArg Value.int (show 1 = cq_ct S ns c 10 from by first | (simp only [cq_ct, c_1, c_14, c_23, c_32, ↓reduceIte]; done) | exact absurd c_23 c_32)) ?_
            exact hE  _ _ _ _ _ _ (Nat.le_of_ble_eq_true rfl) (Nat.le_of_ble_eq_true rfl) hW dX3_caskTold_40
    · exact absurd c_1 (by decide)
  · have hl := hl
    have hl : lv_has ls 4 [(0, .ref (ad 0)), (1, .int (nI c)), (2, .int 11)] := hl
    refine lv_iload_n hx hb dX3_caskTold_0 rfl (lv_at hl 2 rfl) ?_
    refine lv_if_ne (tgt := 11) hx hb dX3_caskTold_1 (by decide) (fun c_1 => ?_) (fun c_1 => ?_)
    · skip
      refine lv_iload_n hx hb dX3_caskTold_11 rfl (lv_at hl 2 rfl) ?_
      refine lv_bipush (v := 15) hx hb dX3_caskTold_12 (by decide) ?_
      refine lv_icmp_eq (tgt := 26) hx hb dX3_caskTold_14 (by decide) (fun c_14 => ?_) (fun c_14 => ?_)
      · exact absurd c_14 (by decide)
      · skip
        refine lv_aload_n hx hb dX3_caskTold_17 rfl (lv_at hl 0 rfl) ?_
        refine cy_get hC (0) (by decide) hi3 hW (rfl) rfl 14 (by decide) (hts (.fieldLink RX3 35 "CaskYardModel" "isSound" "[Z") (by decide +kernel)) (fun _ h9 => h9) (v := .ref (ad 8)) rfl dX3_caskTold_18 ?_
        refine lv_iload_n hx hb dX3_caskTold_21 rfl (lv_at hl 1 rfl) ?_
        refine cy_zald hC (8) (by decide) hW 2 (i := c) (rfl) rfl (by omega) (by decide) dX3_caskTold_22 ?_
        refine lv_if_ne (tgt := 41) hx hb dX3_caskTold_23 (by decide) (fun c_23 => ?_) (fun c_23 => ?_)
        · skip
          refine lv_iload_n hx hb dX3_caskTold_41 rfl (lv_at hl 2 rfl) ?_
          refine lv_bipush (v := 7) hx hb dX3_caskTold_42 (by decide) ?_
          refine lv_icmp_le (tgt := 67) hx hb dX3_caskTold_44 (by decide) (fun c_44 => ?_) (fun c_44 => ?_)
          · exact absurd c_44 (by decide)
          · skip
            refine lv_iload_n hx hb dX3_caskTold_47 rfl (lv_at hl 2 rfl) ?_
            refine lv_bipush (v := 13) hx hb dX3_caskTold_48 (by decide) ?_
            refine lv_icmp_ge (tgt := 67) hx hb dX3_caskTold_50 (by decide) (fun c_50 => ?_) (fun c_50 => ?_)
            · exact absurd c_50 (by decide)
            · skip
              refine lv_aload_n hx hb dX3_caskTold_53 rfl (lv_at hl 0 rfl) ?_
              refine cy_get hC (0) (by decide) hi3 hW (rfl) rfl 20 (by decide) (hts (.fieldLink RX3 54 "CaskYardModel" "holds" "[I") (by decide +kernel)) (fun _ h9 => h9) (v := .ref (ad 14)) rfl dX3_caskTold_54 ?_
              refine lv_iconst (v := 5) hx hb dX3_caskTold_57 (by decide) ?_
              refine lv_iload_n hx hb dX3_caskTold_58 rfl (lv_at hl 1 rfl) ?_
              refine lv_imul hx hb dX3_caskTold_59 ?_
              refine cy_top (pk_mul 5 c) ?_
              refine lv_iload_n hx hb dX3_caskTold_60 rfl (lv_at hl 2 rfl) ?_
              refine lv_iadd hx hb dX3_caskTold_61 ?_
              refine cy_top (nI_add (5 * c) 11) ?_
              refine lv_bipush (v := 8) hx hb dX3_caskTold_62 (by decide) ?_
              refine lv_isub hx hb dX3_caskTold_64 ?_
              refine cy_top (pk_sub (a := ((5 * c) + 11)) (b := 8) (by omega)) ?_
              refine cy_top (show nI (((5 * c) + 11) - 8) = nI (5 * c + 3) from congrArg nI (by omega)) ?_
              refine cy_iald hC (14) (by decide) hW 0 (i := (5 * c + 3)) (rfl) rfl (by omega) (by decide) dX3_caskTold_65 ?_
              refine cy_topv (congrArg Value.int (show S 14 (5 * c + 3) = cq_ct S ns c 11 from by first | (simp only [cq_ct, c_1, c_14, c_23, c_44, c_50, ↓reduceIte]; done) | exact absurd c_23 c_32)) ?_
              exact hE  _ _ _ _ _ _ (Nat.le_of_ble_eq_true rfl) (Nat.le_of_ble_eq_true rfl) hW dX3_caskTold_66
        · skip
          refine lv_aload_n hx hb dX3_caskTold_26 rfl (lv_at hl 0 rfl) ?_
          refine cy_get hC (0) (by decide) hi3 hW (rfl) rfl 14 (by decide) (hts (.fieldLink RX3 35 "CaskYardModel" "isSound" "[Z") (by decide +kernel)) (fun _ h9 => h9) (v := .ref (ad 8)) rfl dX3_caskTold_27 ?_
          refine lv_iload_n hx hb dX3_caskTold_30 rfl (lv_at hl 1 rfl) ?_
          refine cy_zald hC (8) (by decide) hW 2 (i := c) (rfl) rfl (by omega) (by decide) dX3_caskTold_31 ?_
          refine lv_if_eq (tgt := 39) hx hb dX3_caskTold_32 (by decide) (fun c_32 => ?_) (fun c_32 => ?_)
          · skip
            refine lv_iconst (v := 0) hx hb dX3_caskTold_39 (by decide) ?_
            refine cy_topv (congrArg Value.int (show 0 = cq_ct S ns c 11 from by first | (simp only [cq_ct, c_1, c_14, c_23, c_32, ↓reduceIte]; done) | exact absurd c_23 c_32)) ?_
            exact hE  _ _ _ _ _ _ (Nat.le_of_ble_eq_true rfl) (Nat.le_of_ble_eq_true rfl) hW dX3_caskTold_40
          · skip
            refine lv_iconst (v := 1) hx hb dX3_caskTold_35 (by decide) ?_
            refine lv_goto (tgt := 40) hx hb dX3_caskTold_36 (by decide) ?_
            refine cy_topv (congrArg Value.int (show 1 = cq_ct S ns c 11 from by first | (simp only [cq_ct, c_1, c_14, c_23, c_32, ↓reduceIte]; done) | exact absurd c_23 c_32)) ?_
            exact hE  _ _ _ _ _ _ (Nat.le_of_ble_eq_true rfl) (Nat.le_of_ble_eq_true rfl) hW dX3_caskTold_40
    · exact absurd c_1 (by decide)
  · have hl := hl
    have hl : lv_has ls 4 [(0, .ref (ad 0)), (1, .int (nI c)), (2, .int 12)] := hl
    refine lv_iload_n hx hb dX3_caskTold_0 rfl (lv_at hl 2 rfl) ?_
    refine lv_if_ne (tgt := 11) hx hb dX3_caskTold_1 (by decide) (fun c_1 => ?_) (fun c_1 => ?_)
    · skip
      refine lv_iload_n hx hb dX3_caskTold_11 rfl (lv_at hl 2 rfl) ?_
      refine lv_bipush (v := 15) hx hb dX3_caskTold_12 (by decide) ?_
      refine lv_icmp_eq (tgt := 26) hx hb dX3_caskTold_14 (by decide) (fun c_14 => ?_) (fun c_14 => ?_)
      · exact absurd c_14 (by decide)
      · skip
        refine lv_aload_n hx hb dX3_caskTold_17 rfl (lv_at hl 0 rfl) ?_
        refine cy_get hC (0) (by decide) hi3 hW (rfl) rfl 14 (by decide) (hts (.fieldLink RX3 35 "CaskYardModel" "isSound" "[Z") (by decide +kernel)) (fun _ h9 => h9) (v := .ref (ad 8)) rfl dX3_caskTold_18 ?_
        refine lv_iload_n hx hb dX3_caskTold_21 rfl (lv_at hl 1 rfl) ?_
        refine cy_zald hC (8) (by decide) hW 2 (i := c) (rfl) rfl (by omega) (by decide) dX3_caskTold_22 ?_
        refine lv_if_ne (tgt := 41) hx hb dX3_caskTold_23 (by decide) (fun c_23 => ?_) (fun c_23 => ?_)
        · skip
          refine lv_iload_n hx hb dX3_caskTold_41 rfl (lv_at hl 2 rfl) ?_
          refine lv_bipush (v := 7) hx hb dX3_caskTold_42 (by decide) ?_
          refine lv_icmp_le (tgt := 67) hx hb dX3_caskTold_44 (by decide) (fun c_44 => ?_) (fun c_44 => ?_)
          · exact absurd c_44 (by decide)
          · skip
            refine lv_iload_n hx hb dX3_caskTold_47 rfl (lv_at hl 2 rfl) ?_
            refine lv_bipush (v := 13) hx hb dX3_caskTold_48 (by decide) ?_
            refine lv_icmp_ge (tgt := 67) hx hb dX3_caskTold_50 (by decide) (fun c_50 => ?_) (fun c_50 => ?_)
            · exact absurd c_50 (by decide)
            · skip
              refine lv_aload_n hx hb dX3_caskTold_53 rfl (lv_at hl 0 rfl) ?_
              refine cy_get hC (0) (by decide) hi3 hW (rfl) rfl 20 (by decide) (hts (.fieldLink RX3 54 "CaskYardModel" "holds" "[I") (by decide +kernel)) (fun _ h9 => h9) (v := .ref (ad 14)) rfl dX3_caskTold_54 ?_
              refine lv_iconst (v := 5) hx hb dX3_caskTold_57 (by decide) ?_
              refine lv_iload_n hx hb dX3_caskTold_58 rfl (lv_at hl 1 rfl) ?_
              refine lv_imul hx hb dX3_caskTold_59 ?_
              refine cy_top (pk_mul 5 c) ?_
              refine lv_iload_n hx hb dX3_caskTold_60 rfl (lv_at hl 2 rfl) ?_
              refine lv_iadd hx hb dX3_caskTold_61 ?_
              refine cy_top (nI_add (5 * c) 12) ?_
              refine lv_bipush (v := 8) hx hb dX3_caskTold_62 (by decide) ?_
              refine lv_isub hx hb dX3_caskTold_64 ?_
              refine cy_top (pk_sub (a := ((5 * c) + 12)) (b := 8) (by omega)) ?_
              refine cy_top (show nI (((5 * c) + 12) - 8) = nI (5 * c + 4) from congrArg nI (by omega)) ?_
              refine cy_iald hC (14) (by decide) hW 0 (i := (5 * c + 4)) (rfl) rfl (by omega) (by decide) dX3_caskTold_65 ?_
              refine cy_topv (congrArg Value.int (show S 14 (5 * c + 4) = cq_ct S ns c 12 from by first | (simp only [cq_ct, c_1, c_14, c_23, c_44, c_50, ↓reduceIte]; done) | exact absurd c_23 c_32)) ?_
              exact hE  _ _ _ _ _ _ (Nat.le_of_ble_eq_true rfl) (Nat.le_of_ble_eq_true rfl) hW dX3_caskTold_66
        · skip
          refine lv_aload_n hx hb dX3_caskTold_26 rfl (lv_at hl 0 rfl) ?_
          refine cy_get hC (0) (by decide) hi3 hW (rfl) rfl 14 (by decide) (hts (.fieldLink RX3 35 "CaskYardModel" "isSound" "[Z") (by decide +kernel)) (fun _ h9 => h9) (v := .ref (ad 8)) rfl dX3_caskTold_27 ?_
          refine lv_iload_n hx hb dX3_caskTold_30 rfl (lv_at hl 1 rfl) ?_
          refine cy_zald hC (8) (by decide) hW 2 (i := c) (rfl) rfl (by omega) (by decide) dX3_caskTold_31 ?_
          refine lv_if_eq (tgt := 39) hx hb dX3_caskTold_32 (by decide) (fun c_32 => ?_) (fun c_32 => ?_)
          · skip
            refine lv_iconst (v := 0) hx hb dX3_caskTold_39 (by decide) ?_
            refine cy_topv (congrArg Value.int (show 0 = cq_ct S ns c 12 from by first | (simp only [cq_ct, c_1, c_14, c_23, c_32, ↓reduceIte]; done) | exact absurd c_23 c_32)) ?_
            exact hE  _ _ _ _ _ _ (Nat.le_of_ble_eq_true rfl) (Nat.le_of_ble_eq_true rfl) hW dX3_caskTold_40
          · skip
            refine lv_iconst (v := 1) hx hb dX3_caskTold_35 (by decide) ?_
            refine lv_goto (tgt := 40) hx hb dX3_caskTold_36 (by decide) ?_
            refine cy_topv (congrArg Value.int (show 1 = cq_ct S ns c 12 from by first | (simp only [cq_ct, c_1, c_14, c_23, c_32, ↓reduceIte]; done) | exact absurd c_23 c_32)) ?_
            exact hE  _ _ _ _ _ _ (Nat.le_of_ble_eq_true rfl) (Nat.le_of_ble_eq_true rfl) hW dX3_caskTold_40
    · exact absurd c_1 (by decide)
  · have hl := hl
    have hl : lv_has ls 4 [(0, .ref (ad 0)), (1, .int (nI c)), (2, .int 13)] := hl
    refine lv_iload_n hx hb dX3_caskTold_0 rfl (lv_at hl 2 rfl) ?_
    refine lv_if_ne (tgt := 11) hx hb dX3_caskTold_1 (by decide) (fun c_1 => ?_) (fun c_1 => ?_)
    · skip
      refine lv_iload_n hx hb dX3_caskTold_11 rfl (lv_at hl 2 rfl) ?_
      refine lv_bipush (v := 15) hx hb dX3_caskTold_12 (by decide) ?_
      refine lv_icmp_eq (tgt := 26) hx hb dX3_caskTold_14 (by decide) (fun c_14 => ?_) (fun c_14 => ?_)
      · exact absurd c_14 (by decide)
      · skip
        refine lv_aload_n hx hb dX3_caskTold_17 rfl (lv_at hl 0 rfl) ?_
        refine cy_get hC (0) (by decide) hi3 hW (rfl) rfl 14 (by decide) (hts (.fieldLink RX3 35 "CaskYardModel" "isSound" "[Z") (by decide +kernel)) (fun _ h9 => h9) (v := .ref (ad 8)) rfl dX3_caskTold_18 ?_
        refine lv_iload_n hx hb dX3_caskTold_21 rfl (lv_at hl 1 rfl) ?_
        refine cy_zald hC (8) (by decide) hW 2 (i := c) (rfl) rfl (by omega) (by decide) dX3_caskTold_22 ?_
        refine lv_if_ne (tgt := 41) hx hb dX3_caskTold_23 (by decide) (fun c_23 => ?_) (fun c_23 => ?_)
        · skip
          refine lv_iload_n hx hb dX3_caskTold_41 rfl (lv_at hl 2 rfl) ?_
          refine lv_bipush (v := 7) hx hb dX3_caskTold_42 (by decide) ?_
          refine lv_icmp_le (tgt := 67) hx hb dX3_caskTold_44 (by decide) (fun c_44 => ?_) (fun c_44 => ?_)
          · exact absurd c_44 (by decide)
          · skip
            refine lv_iload_n hx hb dX3_caskTold_47 rfl (lv_at hl 2 rfl) ?_
            refine lv_bipush (v := 13) hx hb dX3_caskTold_48 (by decide) ?_
            refine lv_icmp_ge (tgt := 67) hx hb dX3_caskTold_50 (by decide) (fun c_50 => ?_) (fun c_50 => ?_)
            · skip
              refine lv_iload_n hx hb dX3_caskTold_67 rfl (lv_at hl 2 rfl) ?_
              refine lv_bipush (v := 12) hx hb dX3_caskTold_68 (by decide) ?_
              refine lv_icmp_le (tgt := 94) hx hb dX3_caskTold_70 (by decide) (fun c_70 => ?_) (fun c_70 => ?_)
              · exact absurd c_70 (by decide)
              · skip
                refine lv_iload_n hx hb dX3_caskTold_73 rfl (lv_at hl 2 rfl) ?_
                refine lv_bipush (v := 13) hx hb dX3_caskTold_74 (by decide) ?_
                refine lv_icmp_ne (tgt := 88) hx hb dX3_caskTold_76 (by decide) (fun c_76 => ?_) (fun c_76 => ?_)
                · exact absurd c_76 (by decide)
                · skip
                  refine lv_aload_n hx hb dX3_caskTold_79 rfl (lv_at hl 0 rfl) ?_
                  refine cy_get hC (0) (by decide) hi3 hW (rfl) rfl 21 (by decide) (hts (.fieldLink RX3 57 "CaskYardModel" "grains" "[I") (by decide +kernel)) (fun _ h9 => h9) (v := .ref (ad 15)) rfl dX3_caskTold_80 ?_
                  refine lv_iload_n hx hb dX3_caskTold_83 rfl (lv_at hl 1 rfl) ?_
                  refine cy_iald hC (15) (by decide) hW 0 (i := c) (rfl) rfl (by omega) (by decide) dX3_caskTold_84 ?_
                  refine lv_goto (tgt := 93) hx hb dX3_caskTold_85 (by decide) ?_
                  refine cy_topv (congrArg Value.int (show S 15 c = cq_ct S ns c 13 from by first | (simp only [cq_ct, c_1, c_14, c_23, c_44, c_50, c_70, c_76, ↓reduceIte]; done) | exact absurd c_23 c_32)) ?_
                  exact hE  _ _ _ _ _ _ (Nat.le_of_ble_eq_true rfl) (Nat.le_of_ble_eq_true rfl) hW dX3_caskTold_93
            · exact absurd c_50 (by decide)
        · skip
          refine lv_aload_n hx hb dX3_caskTold_26 rfl (lv_at hl 0 rfl) ?_
          refine cy_get hC (0) (by decide) hi3 hW (rfl) rfl 14 (by decide) (hts (.fieldLink RX3 35 "CaskYardModel" "isSound" "[Z") (by decide +kernel)) (fun _ h9 => h9) (v := .ref (ad 8)) rfl dX3_caskTold_27 ?_
          refine lv_iload_n hx hb dX3_caskTold_30 rfl (lv_at hl 1 rfl) ?_
          refine cy_zald hC (8) (by decide) hW 2 (i := c) (rfl) rfl (by omega) (by decide) dX3_caskTold_31 ?_
          refine lv_if_eq (tgt := 39) hx hb dX3_caskTold_32 (by decide) (fun c_32 => ?_) (fun c_32 => ?_)
          · skip
            refine lv_iconst (v := 0) hx hb dX3_caskTold_39 (by decide) ?_
            refine cy_topv (congrArg Value.int (show 0 = cq_ct S ns c 13 from by first | (simp only [cq_ct, c_1, c_14, c_23, c_32, ↓reduceIte]; done) | exact absurd c_23 c_32)) ?_
            exact hE  _ _ _ _ _ _ (Nat.le_of_ble_eq_true rfl) (Nat.le_of_ble_eq_true rfl) hW dX3_caskTold_40
          · skip
            refine lv_iconst (v := 1) hx hb dX3_caskTold_35 (by decide) ?_
            refine lv_goto (tgt := 40) hx hb dX3_caskTold_36 (by decide) ?_
            refine cy_topv (congrArg Value.int (show 1 = cq_ct S ns c 13 from by first | (simp only [cq_ct, c_1, c_14, c_23, c_32, ↓reduceIte]; done) | exact absurd c_23 c_32)) ?_
            exact hE  _ _ _ _ _ _ (Nat.le_of_ble_eq_true rfl) (Nat.le_of_ble_eq_true rfl) hW dX3_caskTold_40
    · exact absurd c_1 (by decide)
  · have hl := hl
    have hl : lv_has ls 4 [(0, .ref (ad 0)), (1, .int (nI c)), (2, .int 14)] := hl
    refine lv_iload_n hx hb dX3_caskTold_0 rfl (lv_at hl 2 rfl) ?_
    refine lv_if_ne (tgt := 11) hx hb dX3_caskTold_1 (by decide) (fun c_1 => ?_) (fun c_1 => ?_)
    · skip
      refine lv_iload_n hx hb dX3_caskTold_11 rfl (lv_at hl 2 rfl) ?_
      refine lv_bipush (v := 15) hx hb dX3_caskTold_12 (by decide) ?_
      refine lv_icmp_eq (tgt := 26) hx hb dX3_caskTold_14 (by decide) (fun c_14 => ?_) (fun c_14 => ?_)
      · exact absurd c_14 (by decide)
      · skip
        refine lv_aload_n hx hb dX3_caskTold_17 rfl (lv_at hl 0 rfl) ?_
        refine cy_get hC (0) (by decide) hi3 hW (rfl) rfl 14 (by decide) (hts (.fieldLink RX3 35 "CaskYardModel" "isSound" "[Z") (by decide +kernel)) (fun _ h9 => h9) (v := .ref (ad 8)) rfl dX3_caskTold_18 ?_
        refine lv_iload_n hx hb dX3_caskTold_21 rfl (lv_at hl 1 rfl) ?_
        refine cy_zald hC (8) (by decide) hW 2 (i := c) (rfl) rfl (by omega) (by decide) dX3_caskTold_22 ?_
        refine lv_if_ne (tgt := 41) hx hb dX3_caskTold_23 (by decide) (fun c_23 => ?_) (fun c_23 => ?_)
        · skip
          refine lv_iload_n hx hb dX3_caskTold_41 rfl (lv_at hl 2 rfl) ?_
          refine lv_bipush (v := 7) hx hb dX3_caskTold_42 (by decide) ?_
          refine lv_icmp_le (tgt := 67) hx hb dX3_caskTold_44 (by decide) (fun c_44 => ?_) (fun c_44 => ?_)
          · exact absurd c_44 (by decide)
          · skip
            refine lv_iload_n hx hb dX3_caskTold_47 rfl (lv_at hl 2 rfl) ?_
            refine lv_bipush (v := 13) hx hb dX3_caskTold_48 (by decide) ?_
            refine lv_icmp_ge (tgt := 67) hx hb dX3_caskTold_50 (by decide) (fun c_50 => ?_) (fun c_50 => ?_)
            · skip
              refine lv_iload_n hx hb dX3_caskTold_67 rfl (lv_at hl 2 rfl) ?_
              refine lv_bipush (v := 12) hx hb dX3_caskTold_68 (by decide) ?_
              refine lv_icmp_le (tgt := 94) hx hb dX3_caskTold_70 (by decide) (fun c_70 => ?_) (fun c_70 => ?_)
              · exact absurd c_70 (by decide)
              · skip
                refine lv_iload_n hx hb dX3_caskTold_73 rfl (lv_at hl 2 rfl) ?_
                refine lv_bipush (v := 13) hx hb dX3_caskTold_74 (by decide) ?_
                refine lv_icmp_ne (tgt := 88) hx hb dX3_caskTold_76 (by decide) (fun c_76 => ?_) (fun c_76 => ?_)
                · skip
                  refine lv_aload_n hx hb dX3_caskTold_88 rfl (lv_at hl 0 rfl) ?_
                  refine lv_iload_n hx hb dX3_caskTold_89 rfl (lv_at hl 1 rfl) ?_
                  refine cy_callV (As := [.int (nI c)]) (rest := []) (q0 := 0) (ci := 3) hC.1 hC.2.1 hC.2.2 hW (c_X3_leak (c := c) (by omega) (cq_ok_of rfl rfl hq)) (cwV 1 hts gX3_caskTold_X3_leak rfl rfl rfl (by decide +kernel) ⟨Nat.le_of_ble_eq_true rfl, Nat.le_of_ble_eq_true rfl⟩) (cy_w_at (by decide) (rfl)) rfl rfl hl.1 rfl (Nat.le_of_ble_eq_true rfl) dX3_caskTold_90 ⟨Nat.le_of_ble_eq_true rfl, Nat.le_of_ble_eq_true rfl⟩ (k' := 0) (n' := 0) rfl rfl (fun H locs hW => ?_)
                  refine cy_topv (congrArg Value.int (show cq_lk S c = cq_ct S ns c 14 from by first | (simp only [cq_ct, c_1, c_14, c_23, c_44, c_50, c_70, c_76, ↓reduceIte]; done) | exact absurd c_23 c_32)) ?_
                  exact hE  _ _ _ _ _ _ (Nat.le_of_ble_eq_true rfl) (Nat.le_of_ble_eq_true rfl) hW dX3_caskTold_93
                · exact absurd c_76 (by decide)
            · exact absurd c_50 (by decide)
        · skip
          refine lv_aload_n hx hb dX3_caskTold_26 rfl (lv_at hl 0 rfl) ?_
          refine cy_get hC (0) (by decide) hi3 hW (rfl) rfl 14 (by decide) (hts (.fieldLink RX3 35 "CaskYardModel" "isSound" "[Z") (by decide +kernel)) (fun _ h9 => h9) (v := .ref (ad 8)) rfl dX3_caskTold_27 ?_
          refine lv_iload_n hx hb dX3_caskTold_30 rfl (lv_at hl 1 rfl) ?_
          refine cy_zald hC (8) (by decide) hW 2 (i := c) (rfl) rfl (by omega) (by decide) dX3_caskTold_31 ?_
          refine lv_if_eq (tgt := 39) hx hb dX3_caskTold_32 (by decide) (fun c_32 => ?_) (fun c_32 => ?_)
          · skip
            refine lv_iconst (v := 0) hx hb dX3_caskTold_39 (by decide) ?_
            refine cy_topv (congrArg Value.int (show 0 = cq_ct S ns c 14 from by first | (simp only [cq_ct, c_1, c_14, c_23, c_32, ↓reduceIte]; done) | exact absurd c_23 c_32)) ?_
            exact hE  _ _ _ _ _ _ (Nat.le_of_ble_eq_true rfl) (Nat.le_of_ble_eq_true rfl) hW dX3_caskTold_40
          · skip
            refine lv_iconst (v := 1) hx hb dX3_caskTold_35 (by decide) ?_
            refine lv_goto (tgt := 40) hx hb dX3_caskTold_36 (by decide) ?_
            refine cy_topv (congrArg Value.int (show 1 = cq_ct S ns c 14 from by first | (simp only [cq_ct, c_1, c_14, c_23, c_32, ↓reduceIte]; done) | exact absurd c_23 c_32)) ?_
            exact hE  _ _ _ _ _ _ (Nat.le_of_ble_eq_true rfl) (Nat.le_of_ble_eq_true rfl) hW dX3_caskTold_40
    · exact absurd c_1 (by decide)
  · have hl := hl
    have hl : lv_has ls 4 [(0, .ref (ad 0)), (1, .int (nI c)), (2, .int 15)] := hl
    refine lv_iload_n hx hb dX3_caskTold_0 rfl (lv_at hl 2 rfl) ?_
    refine lv_if_ne (tgt := 11) hx hb dX3_caskTold_1 (by decide) (fun c_1 => ?_) (fun c_1 => ?_)
    · skip
      refine lv_iload_n hx hb dX3_caskTold_11 rfl (lv_at hl 2 rfl) ?_
      refine lv_bipush (v := 15) hx hb dX3_caskTold_12 (by decide) ?_
      refine lv_icmp_eq (tgt := 26) hx hb dX3_caskTold_14 (by decide) (fun c_14 => ?_) (fun c_14 => ?_)
      · skip
        refine lv_aload_n hx hb dX3_caskTold_26 rfl (lv_at hl 0 rfl) ?_
        refine cy_get hC (0) (by decide) hi3 hW (rfl) rfl 14 (by decide) (hts (.fieldLink RX3 35 "CaskYardModel" "isSound" "[Z") (by decide +kernel)) (fun _ h9 => h9) (v := .ref (ad 8)) rfl dX3_caskTold_27 ?_
        refine lv_iload_n hx hb dX3_caskTold_30 rfl (lv_at hl 1 rfl) ?_
        refine cy_zald hC (8) (by decide) hW 2 (i := c) (rfl) rfl (by omega) (by decide) dX3_caskTold_31 ?_
        refine lv_if_eq (tgt := 39) hx hb dX3_caskTold_32 (by decide) (fun c_32 => ?_) (fun c_32 => ?_)
        · skip
          refine lv_iconst (v := 0) hx hb dX3_caskTold_39 (by decide) ?_
          refine cy_topv (congrArg Value.int (show 0 = cq_ct S ns c 15 from by first | (simp only [cq_ct, c_1, c_14, c_32, ↓reduceIte]; done) | exact absurd c_23 c_32)) ?_
          exact hE  _ _ _ _ _ _ (Nat.le_of_ble_eq_true rfl) (Nat.le_of_ble_eq_true rfl) hW dX3_caskTold_40
        · skip
          refine lv_iconst (v := 1) hx hb dX3_caskTold_35 (by decide) ?_
          refine lv_goto (tgt := 40) hx hb dX3_caskTold_36 (by decide) ?_
          refine cy_topv (congrArg Value.int (show 1 = cq_ct S ns c 15 from by first | (simp only [cq_ct, c_1, c_14, c_32, ↓reduceIte]; done) | exact absurd c_23 c_32)) ?_
          exact hE  _ _ _ _ _ _ (Nat.le_of_ble_eq_true rfl) (Nat.le_of_ble_eq_true rfl) hW dX3_caskTold_40
      · exact absurd c_14 (by decide)
    · exact absurd c_1 (by decide)
abbrev rm_X3_cask : Room := { frames := 4, cells := 1, slots := 8, locals := 88 }
set_option maxHeartbeats 4000000 in
set_option maxRecDepth 100000 in
theorem c_X3_cask {l : Launch} {D : va_G} {kI kJ kZ kC : ClassId} {ad : Nat → Nat} {S : Nat → Nat → Int32} {tl : va_W} {x y : Int32} {ns : Nat} (hns : S 0 4 = nI ns) (h60 : ns ≤ 60) {nc : Nat} (hnc : S 0 12 = nI nc) (h12 : nc ≤ 12) (hq : cq_ok S) : cy_M l yX3_cask wsX3_cask rm_X3_cask D (cy_tys kI kJ kZ kC) [.ref (ad 0), .int x, .int y] (cy_Mw kI kZ ad S tl) (some (.int ((cq_Ca S x y ns nc).2))) (cy_Mw kI kZ ad (cq_Ca S x y ns nc).1 tl) := by
  refine cy_of (own := RX3) (cc := cX3_cask) (maxL := 3) (ret := (some .int)) (i := .ireturn) (by decide) rfl rfl (Nat.le_of_ble_eq_true rfl) (cy_endI rfl) ?_
  intro p e s m args below meth co Q A ls hC hE hW hl
  have hx := hC.1.1; have hb := hC.1.2.1; have hml := hC.1.2.2.1; have hown := hC.1.2.2.2.1; have hts := hC.1.2.2.2.2
  have hl : lv_has ls 3 [(0, .ref (ad 0)), (1, .int x), (2, .int y)] := hl
  have hi3 : ∀ w ∈ u_ws RX3 TX3 25, w ∈ wsX3_cask := by decide +kernel
  refine lv_aload_n hx hb dX3_cask_0 rfl (lv_at hl 0 rfl) ?_
  refine lv_iconst (v := 0) hx hb dX3_cask_1 (by decide) ?_
  refine cy_put hC (0) (by decide) hi3 tyX3 tyX3_ok nmX3 hW (rfl) rfl 0 (by decide) (hts (.fieldLink RX3 67 "CaskYardModel" "thrown" "I") (by decide +kernel)) (fun _ h9 => h9) rfl (ty := .int) (by decide +kernel) rfl rfl (Nat.le_of_ble_eq_true rfl) (upd (S 0) 0 0) cy_hM0 (S' := (va_up S 0 (upd (S 0) 0 0))) rfl dX3_cask_2 (fun H locs hW => ?_)
  refine lv_aload_n hx hb dX3_cask_5 rfl (lv_at hl 0 rfl) ?_
  refine lv_iload_n hx hb dX3_cask_6 rfl (lv_at hl 1 rfl) ?_
  refine cy_callV (As := [.int x]) (rest := []) (q0 := 0) (ci := 3) hC.1 hC.2.1 hC.2.2 hW (c_X3_isCask (x := x) (nc := nc) hnc (by omega)) (cwV 1 hts gX3_cask_X3_isCask rfl rfl rfl (by decide +kernel) ⟨Nat.le_of_ble_eq_true rfl, Nat.le_of_ble_eq_true rfl⟩) (cy_w_at (by decide) (cy_rd (cy_us) rfl)) rfl rfl hl.1 rfl (Nat.le_of_ble_eq_true rfl) dX3_cask_7 ⟨Nat.le_of_ble_eq_true rfl, Nat.le_of_ble_eq_true rfl⟩ (k' := 0) (n' := 0) rfl rfl (fun H locs hW => ?_)
  refine lv_if_eq (tgt := 32) hx hb dX3_cask_10 (by decide) (fun c_10 => ?_) (fun c_10 => ?_)
  · skip
    refine lv_aload_n hx hb dX3_cask_32 rfl (lv_at hl 0 rfl) ?_
    refine lv_iconst (v := 1) hx hb dX3_cask_33 (by decide) ?_
    refine cy_callV (As := [.int 1]) (rest := []) (q0 := 0) (ci := 3) hC.1 hC.2.1 hC.2.2 hW (c_X3_no (x := 1)) (cwV 1 hts gX3_cask_X3_no rfl rfl rfl (by decide +kernel) ⟨Nat.le_of_ble_eq_true rfl, Nat.le_of_ble_eq_true rfl⟩) (cy_w_at (by decide) (cy_rd (cy_us) rfl)) rfl rfl hl.1 rfl (Nat.le_of_ble_eq_true rfl) dX3_cask_34 ⟨Nat.le_of_ble_eq_true rfl, Nat.le_of_ble_eq_true rfl⟩ (k' := 0) (n' := 0) rfl rfl (fun H locs hW => ?_)
    rw [show va_up (va_up S 0 (upd (S 0) 0 0)) 0 (upd ((va_up S 0 (upd (S 0) 0 0)) 0) 0 1) = (va_up S 0 (upd (upd (S 0) 0 0) 0 1)) from by rw [cy_us, cy_uu]] at hW
    refine cy_topv (congrArg Value.int (show 0 = (cq_Ca S x y ns nc).2 from by simp only [cq_Ca, cq_th, cq_rs, c_10, eq_self, ↓reduceIte, not_true_eq_false, not_false_eq_true])) ?_
    have hW := cy_castS (show (va_up S 0 (upd (upd (S 0) 0 0) 0 1)) = (cq_Ca S x y ns nc).1 from by simp only [cq_Ca, cq_th, cq_rs, c_10, eq_self, ↓reduceIte, not_true_eq_false, not_false_eq_true]) hW
    exact hE  _ _ _ _ _ _ (Nat.le_of_ble_eq_true rfl) (Nat.le_of_ble_eq_true rfl) hW dX3_cask_37
  · skip
    obtain ⟨c, hc, rfl⟩ := cq_in_t (by omega) c_10
    have clc : (nI c).toNatClampNeg = c := nI_clamp (by omega)
    have hl : lv_has ls 3 [(0, .ref (ad 0)), (1, .int (nI c)), (2, .int y)] := hl
    refine lv_iload_n hx hb dX3_cask_13 rfl (lv_at hl 2 rfl) ?_
    refine lv_iconst (v := 0) hx hb dX3_cask_14 (by decide) ?_
    refine lv_bipush (v := 15) hx hb dX3_cask_15 (by decide) ?_
    refine cy_callS (As := [.int y, .int 0, .int 15]) (rest := []) hC.1 hC.2.1 hC.2.2 hW (c_X3_isIn (x := y) (y := 0) (z := 15)) (va_cwS 3 hts gX3_cask_X3_isIn rfl rfl rfl (by decide +kernel) ⟨Nat.le_of_ble_eq_true rfl, Nat.le_of_ble_eq_true rfl⟩) rfl hl.1 rfl (Nat.le_of_ble_eq_true rfl) dX3_cask_17 ⟨Nat.le_of_ble_eq_true rfl, Nat.le_of_ble_eq_true rfl⟩ (k' := 0) (n' := 0) rfl rfl (fun H locs hW => ?_)
    refine lv_if_eq (tgt := 32) hx hb dX3_cask_20 (by decide) (fun c_20 => ?_) (fun c_20 => ?_)
    · skip
      refine lv_aload_n hx hb dX3_cask_32 rfl (lv_at hl 0 rfl) ?_
      refine lv_iconst (v := 1) hx hb dX3_cask_33 (by decide) ?_
      refine cy_callV (As := [.int 1]) (rest := []) (q0 := 0) (ci := 3) hC.1 hC.2.1 hC.2.2 hW (c_X3_no (x := 1)) (cwV 1 hts gX3_cask_X3_no rfl rfl rfl (by decide +kernel) ⟨Nat.le_of_ble_eq_true rfl, Nat.le_of_ble_eq_true rfl⟩) (cy_w_at (by decide) (cy_rd (cy_us) rfl)) rfl rfl hl.1 rfl (Nat.le_of_ble_eq_true rfl) dX3_cask_34 ⟨Nat.le_of_ble_eq_true rfl, Nat.le_of_ble_eq_true rfl⟩ (k' := 0) (n' := 0) rfl rfl (fun H locs hW => ?_)
      rw [show va_up (va_up S 0 (upd (S 0) 0 0)) 0 (upd ((va_up S 0 (upd (S 0) 0 0)) 0) 0 1) = (va_up S 0 (upd (upd (S 0) 0 0) 0 1)) from by rw [cy_us, cy_uu]] at hW
      refine cy_topv (congrArg Value.int (show 0 = (cq_Ca S (nI c) y ns nc).2 from by simp only [cq_Ca, cq_th, cq_rs, c_10, c_20, clc, eq_self, ↓reduceIte, not_true_eq_false, not_false_eq_true])) ?_
      have hW := cy_castS (show (va_up S 0 (upd (upd (S 0) 0 0) 0 1)) = (cq_Ca S (nI c) y ns nc).1 from by simp only [cq_Ca, cq_th, cq_rs, c_10, c_20, clc, eq_self, ↓reduceIte, not_true_eq_false, not_false_eq_true]) hW
      exact hE  _ _ _ _ _ _ (Nat.le_of_ble_eq_true rfl) (Nat.le_of_ble_eq_true rfl) hW dX3_cask_37
    · skip
      obtain ⟨k, hk, rfl⟩ := cq_in_l (n := 15) (by decide) c_20
      have clk : (nI k).toNatClampNeg = k := nI_clamp (by omega)
      have hl : lv_has ls 3 [(0, .ref (ad 0)), (1, .int (nI c)), (2, .int (nI k))] := hl
      refine lv_aload_n hx hb dX3_cask_23 rfl (lv_at hl 0 rfl) ?_
      refine lv_iload_n hx hb dX3_cask_24 rfl (lv_at hl 1 rfl) ?_
      refine lv_iload_n hx hb dX3_cask_25 rfl (lv_at hl 2 rfl) ?_
      refine cy_callV (As := [.int (nI c), .int (nI k)]) (rest := []) (q0 := 0) (ci := 3) hC.1 hC.2.1 hC.2.2 hW (c_X3_caskTold (c := c) (x := k) (by omega) (by omega) (ns := ns) hns (by omega) (cq_ok_of rfl rfl hq)) (cwV 2 hts gX3_cask_X3_caskTold rfl rfl rfl (by decide +kernel) ⟨Nat.le_of_ble_eq_true rfl, Nat.le_of_ble_eq_true rfl⟩) (cy_w_at (by decide) (cy_rd (cy_us) rfl)) rfl rfl hl.1 rfl (Nat.le_of_ble_eq_true rfl) dX3_cask_26 ⟨Nat.le_of_ble_eq_true rfl, Nat.le_of_ble_eq_true rfl⟩ (k' := 1) (n' := 8) rfl rfl (fun H locs hW => ?_)
      refine cy_topv (show _ = Value.int (cq_ct S ns c k) from (congrArg Value.int (cq_ct_c (fun j h => cy_un (by omega))))) ?_
      refine lv_goto (tgt := 37) hx hb dX3_cask_29 (by decide) ?_
      refine cy_topv (congrArg Value.int (show cq_ct S ns c k = (cq_Ca S (nI c) (nI k) ns nc).2 from by simp only [cq_Ca, cq_th, cq_rs, c_10, c_20, clc, clk, eq_self, ↓reduceIte, not_true_eq_false, not_false_eq_true])) ?_
      have hW := cy_castS (show (va_up S 0 (upd (S 0) 0 0)) = (cq_Ca S (nI c) (nI k) ns nc).1 from by simp only [cq_Ca, cq_th, cq_rs, c_10, c_20, clc, clk, eq_self, ↓reduceIte, not_true_eq_false, not_false_eq_true]) hW
      exact hE  _ _ _ _ _ _ (Nat.le_of_ble_eq_true rfl) (Nat.le_of_ble_eq_true rfl) hW dX3_cask_37
abbrev rm_X3_beginFilling : Room := { frames := 1, cells := 0, slots := 0, locals := 23 }
set_option maxHeartbeats 4000000 in
set_option maxRecDepth 100000 in
theorem c_X3_beginFilling {l : Launch} {D : va_G} {kI kJ kZ kC : ClassId} {ad : Nat → Nat} {S : Nat → Nat → Int32} {tl : va_W} {c : Nat} (hc : c < 12) : cy_M l yX3_beginFilling wsX3_beginFilling rm_X3_beginFilling D (cy_tys kI kJ kZ kC) [.ref (ad 0), .int (nI c)] (cy_Mw kI kZ ad S tl) none (cy_Mw kI kZ ad (cq_bf S c) tl) := by
  refine cy_of (own := RX3) (cc := cX3_beginFilling) (maxL := 2) (ret := none) (i := .return_) (by decide) rfl rfl (Nat.le_of_ble_eq_true rfl) cy_endV ?_
  intro p e s m args below meth co Q A ls hC hE hW hl
  have hx := hC.1.1; have hb := hC.1.2.1; have hml := hC.1.2.2.1; have hown := hC.1.2.2.2.1; have hts := hC.1.2.2.2.2
  have hl : lv_has ls 2 [(0, .ref (ad 0)), (1, .int (nI c))] := hl
  have hi3 : ∀ w ∈ u_ws RX3 TX3 25, w ∈ wsX3_beginFilling := by decide +kernel
  refine lv_aload_n hx hb dX3_beginFilling_0 rfl (lv_at hl 0 rfl) ?_
  refine cy_get hC (0) (by decide) hi3 hW (rfl) rfl 18 (by decide) (hts (.fieldLink RX3 48 "CaskYardModel" "fillings" "[I") (by decide +kernel)) (fun _ h9 => h9) (v := .ref (ad 12)) rfl dX3_beginFilling_1 ?_
  refine lv_iload_n hx hb dX3_beginFilling_4 rfl (lv_at hl 1 rfl) ?_
  refine lv_dup2_11 hx hb dX3_beginFilling_5 rfl rfl ?_
  refine cy_iald hC (12) (by decide) hW 0 (i := c) (rfl) rfl (by omega) (by decide) dX3_beginFilling_6 ?_
  refine lv_aload_n hx hb dX3_beginFilling_7 rfl (lv_at hl 0 rfl) ?_
  refine lv_iload_n hx hb dX3_beginFilling_8 rfl (lv_at hl 1 rfl) ?_
  refine cy_callV (As := [.int (nI c)]) (rest := [.int (S 12 c), .int (nI c), .ref (ad 12)]) (q0 := 0) (ci := 3) hC.1 hC.2.1 hC.2.2 hW (c_X3_all (c := c) (by omega)) (cwV 1 hts gX3_beginFilling_X3_all rfl rfl rfl (by decide +kernel) ⟨Nat.le_of_ble_eq_true rfl, Nat.le_of_ble_eq_true rfl⟩) (cy_w_at (by decide) (rfl)) rfl rfl hl.1 rfl (Nat.le_of_ble_eq_true rfl) dX3_beginFilling_9 ⟨Nat.le_of_ble_eq_true rfl, Nat.le_of_ble_eq_true rfl⟩ (k' := 0) (n' := 0) rfl rfl (fun H locs hW => ?_)
  refine lv_if_ne (tgt := 19) hx hb dX3_beginFilling_12 (by decide) (fun c_12 => ?_) (fun c_12 => ?_)
  · skip
    refine lv_iconst (v := 0) hx hb dX3_beginFilling_19 (by decide) ?_
    refine lv_iadd hx hb dX3_beginFilling_20 ?_
    refine cy_iast hC (12) (by decide) hW 0 (i := c) (rfl) rfl (by omega) (by decide) (upd (S 12) c ((S 12 c) + 0)) rfl (S' := (va_up S 12 (upd (S 12) c ((S 12 c) + 0)))) rfl dX3_beginFilling_21 (fun H locs hW => ?_)
    have hW := cy_castS (show (va_up S 12 (upd (S 12) c ((S 12 c) + 0))) = (cq_bf S c) from by simp only [cq_bf, c_12, eq_self, ↓reduceIte, not_true_eq_false, not_false_eq_true]) hW
    exact hE  _ _ _ _ _ _ (Nat.le_of_ble_eq_true rfl) (Nat.le_of_ble_eq_true rfl) hW dX3_beginFilling_22
  · skip
    refine lv_iconst (v := 1) hx hb dX3_beginFilling_15 (by decide) ?_
    refine lv_goto (tgt := 20) hx hb dX3_beginFilling_16 (by decide) ?_
    refine lv_iadd hx hb dX3_beginFilling_20 ?_
    refine cy_iast hC (12) (by decide) hW 0 (i := c) (rfl) rfl (by omega) (by decide) (upd (S 12) c ((S 12 c) + 1)) rfl (S' := (va_up S 12 (upd (S 12) c ((S 12 c) + 1)))) rfl dX3_beginFilling_21 (fun H locs hW => ?_)
    have hW := cy_castS (show (va_up S 12 (upd (S 12) c ((S 12 c) + 1))) = (cq_bf S c) from by simp only [cq_bf, c_12, eq_self, ↓reduceIte, not_true_eq_false, not_false_eq_true]) hW
    exact hE  _ _ _ _ _ _ (Nat.le_of_ble_eq_true rfl) (Nat.le_of_ble_eq_true rfl) hW dX3_beginFilling_22
abbrev rm_X3_fill : Room := { frames := 2, cells := 0, slots := 0, locals := 44 }
set_option maxHeartbeats 4000000 in
set_option maxRecDepth 100000 in
theorem c_X3_fill {l : Launch} {D : va_G} {kI kJ kZ kC : ClassId} {ad : Nat → Nat} {S : Nat → Nat → Int32} {tl : va_W} {x y z : Int32} {nc : Nat} (hnc : S 0 12 = nI nc) (h12 : nc ≤ 12) (hq : cq_ok S) : cy_M l yX3_fill wsX3_fill rm_X3_fill D (cy_tys kI kJ kZ kC) [.ref (ad 0), .int x, .int y, .int z] (cy_Mw kI kZ ad S tl) (some (.int ((cq_Fi S x y z nc).2))) (cy_Mw kI kZ ad (cq_Fi S x y z nc).1 tl) := by
  refine cy_of (own := RX3) (cc := cX3_fill) (maxL := 4) (ret := (some .int)) (i := .ireturn) (by decide) rfl rfl (Nat.le_of_ble_eq_true rfl) (cy_endI rfl) ?_
  intro p e s m args below meth co Q A ls hC hE hW hl
  have hx := hC.1.1; have hb := hC.1.2.1; have hml := hC.1.2.2.1; have hown := hC.1.2.2.2.1; have hts := hC.1.2.2.2.2
  have hl : lv_has ls 4 [(0, .ref (ad 0)), (1, .int x), (2, .int y), (3, .int z)] := hl
  have hi3 : ∀ w ∈ u_ws RX3 TX3 25, w ∈ wsX3_fill := by decide +kernel
  refine lv_aload_n hx hb dX3_fill_0 rfl (lv_at hl 0 rfl) ?_
  refine lv_iconst (v := 0) hx hb dX3_fill_1 (by decide) ?_
  refine cy_put hC (0) (by decide) hi3 tyX3 tyX3_ok nmX3 hW (rfl) rfl 0 (by decide) (hts (.fieldLink RX3 67 "CaskYardModel" "thrown" "I") (by decide +kernel)) (fun _ h9 => h9) rfl (ty := .int) (by decide +kernel) rfl rfl (Nat.le_of_ble_eq_true rfl) (upd (S 0) 0 0) cy_hM0 (S' := (va_up S 0 (upd (S 0) 0 0))) rfl dX3_fill_2 (fun H locs hW => ?_)
  refine lv_aload_n hx hb dX3_fill_5 rfl (lv_at hl 0 rfl) ?_
  refine lv_iload_n hx hb dX3_fill_6 rfl (lv_at hl 1 rfl) ?_
  refine cy_callV (As := [.int x]) (rest := []) (q0 := 0) (ci := 3) hC.1 hC.2.1 hC.2.2 hW (c_X3_isCask (x := x) (nc := nc) hnc (by omega)) (cwV 1 hts gX3_fill_X3_isCask rfl rfl rfl (by decide +kernel) ⟨Nat.le_of_ble_eq_true rfl, Nat.le_of_ble_eq_true rfl⟩) (cy_w_at (by decide) (cy_rd (cy_us) rfl)) rfl rfl hl.1 rfl (Nat.le_of_ble_eq_true rfl) dX3_fill_7 ⟨Nat.le_of_ble_eq_true rfl, Nat.le_of_ble_eq_true rfl⟩ (k' := 0) (n' := 0) rfl rfl (fun H locs hW => ?_)
  refine lv_if_ne (tgt := 19) hx hb dX3_fill_10 (by decide) (fun c_10 => ?_) (fun c_10 => ?_)
  · skip
    obtain ⟨c, hc, rfl⟩ := cq_in_t (by omega) c_10
    have clc : (nI c).toNatClampNeg = c := nI_clamp (by omega)
    have hl : lv_has ls 4 [(0, .ref (ad 0)), (1, .int (nI c)), (2, .int y), (3, .int z)] := hl
    refine lv_iload_n hx hb dX3_fill_19 rfl (lv_at hl 2 rfl) ?_
    refine lv_iconst (v := 0) hx hb dX3_fill_20 (by decide) ?_
    refine lv_iconst (v := 3) hx hb dX3_fill_21 (by decide) ?_
    refine cy_callS (As := [.int y, .int 0, .int 3]) (rest := []) hC.1 hC.2.1 hC.2.2 hW (c_X3_isIn (x := y) (y := 0) (z := 3)) (va_cwS 3 hts gX3_fill_X3_isIn rfl rfl rfl (by decide +kernel) ⟨Nat.le_of_ble_eq_true rfl, Nat.le_of_ble_eq_true rfl⟩) rfl hl.1 rfl (Nat.le_of_ble_eq_true rfl) dX3_fill_22 ⟨Nat.le_of_ble_eq_true rfl, Nat.le_of_ble_eq_true rfl⟩ (k' := 0) (n' := 0) rfl rfl (fun H locs hW => ?_)
    refine lv_if_eq (tgt := 38) hx hb dX3_fill_25 (by decide) (fun c_25 => ?_) (fun c_25 => ?_)
    · skip
      refine lv_aload_n hx hb dX3_fill_38 rfl (lv_at hl 0 rfl) ?_
      refine lv_iconst (v := 2) hx hb dX3_fill_39 (by decide) ?_
      refine cy_callV (As := [.int 2]) (rest := []) (q0 := 0) (ci := 3) hC.1 hC.2.1 hC.2.2 hW (c_X3_no (x := 2)) (cwV 1 hts gX3_fill_X3_no rfl rfl rfl (by decide +kernel) ⟨Nat.le_of_ble_eq_true rfl, Nat.le_of_ble_eq_true rfl⟩) (cy_w_at (by decide) (cy_rd (cy_us) rfl)) rfl rfl hl.1 rfl (Nat.le_of_ble_eq_true rfl) dX3_fill_40 ⟨Nat.le_of_ble_eq_true rfl, Nat.le_of_ble_eq_true rfl⟩ (k' := 0) (n' := 0) rfl rfl (fun H locs hW => ?_)
      rw [show va_up (va_up S 0 (upd (S 0) 0 0)) 0 (upd ((va_up S 0 (upd (S 0) 0 0)) 0) 0 2) = (va_up S 0 (upd (upd (S 0) 0 0) 0 2)) from by rw [cy_us, cy_uu]] at hW
      refine cy_topv (congrArg Value.int (show 0 = (cq_Fi S (nI c) y z nc).2 from by simp only [cq_Fi, cq_th, cq_nFi, cq_rs, c_10, c_25, clc, eq_self, ↓reduceIte, not_true_eq_false, not_false_eq_true])) ?_
      have hW := cy_castS (show (va_up S 0 (upd (upd (S 0) 0 0) 0 2)) = (cq_Fi S (nI c) y z nc).1 from by simp only [cq_Fi, cq_th, cq_nFi, cq_rs, c_10, c_25, clc, eq_self, ↓reduceIte, not_true_eq_false, not_false_eq_true]) hW
      exact hE  _ _ _ _ _ _ (Nat.le_of_ble_eq_true rfl) (Nat.le_of_ble_eq_true rfl) hW dX3_fill_43
    · skip
      obtain ⟨i, hi, rfl⟩ := cq_in_l (n := 3) (by decide) c_25
      have cli : (nI i).toNatClampNeg = i := nI_clamp (by omega)
      have hl : lv_has ls 4 [(0, .ref (ad 0)), (1, .int (nI c)), (2, .int (nI i)), (3, .int z)] := hl
      refine lv_iload_n hx hb dX3_fill_28 rfl (lv_at hl 3 rfl) ?_
      refine lv_iconst (v := 1) hx hb dX3_fill_29 (by decide) ?_
      refine lv_ldc (v := 60000) hx hb hown (hts (.constant RX3 89 60000) (by decide +kernel)) dX3_fill_30 ?_
      refine cy_callS (As := [.int z, .int 1, .int 60000]) (rest := []) hC.1 hC.2.1 hC.2.2 hW (c_X3_isIn (x := z) (y := 1) (z := 60000)) (va_cwS 3 hts gX3_fill_X3_isIn rfl rfl rfl (by decide +kernel) ⟨Nat.le_of_ble_eq_true rfl, Nat.le_of_ble_eq_true rfl⟩) rfl hl.1 rfl (Nat.le_of_ble_eq_true rfl) dX3_fill_32 ⟨Nat.le_of_ble_eq_true rfl, Nat.le_of_ble_eq_true rfl⟩ (k' := 0) (n' := 0) rfl rfl (fun H locs hW => ?_)
      refine lv_if_ne (tgt := 44) hx hb dX3_fill_35 (by decide) (fun c_35 => ?_) (fun c_35 => ?_)
      · skip
        refine lv_aload_n hx hb dX3_fill_44 rfl (lv_at hl 0 rfl) ?_
        refine cy_get hC (0) (by decide) hi3 hW (cy_rd (cy_us) rfl) rfl 14 (by decide) (hts (.fieldLink RX3 35 "CaskYardModel" "isSound" "[Z") (by decide +kernel)) (fun _ h9 => h9) (v := .ref (ad 8)) rfl dX3_fill_45 ?_
        refine lv_iload_n hx hb dX3_fill_48 rfl (lv_at hl 1 rfl) ?_
        refine cy_zald hC (8) (by decide) hW 2 (i := c) (cy_rd (cy_un (by omega)) rfl) rfl (by omega) (by decide) dX3_fill_49 ?_
        refine lv_if_eq (tgt := 74) hx hb dX3_fill_50 (by decide) (fun c_50 => ?_) (fun c_50 => ?_)
        · skip
          refine lv_aload_n hx hb dX3_fill_74 rfl (lv_at hl 0 rfl) ?_
          refine lv_iconst (v := 3) hx hb dX3_fill_75 (by decide) ?_
          refine cy_callV (As := [.int 3]) (rest := []) (q0 := 0) (ci := 3) hC.1 hC.2.1 hC.2.2 hW (c_X3_no (x := 3)) (cwV 1 hts gX3_fill_X3_no rfl rfl rfl (by decide +kernel) ⟨Nat.le_of_ble_eq_true rfl, Nat.le_of_ble_eq_true rfl⟩) (cy_w_at (by decide) (cy_rd (cy_us) rfl)) rfl rfl hl.1 rfl (Nat.le_of_ble_eq_true rfl) dX3_fill_76 ⟨Nat.le_of_ble_eq_true rfl, Nat.le_of_ble_eq_true rfl⟩ (k' := 0) (n' := 0) rfl rfl (fun H locs hW => ?_)
          rw [show va_up (va_up S 0 (upd (S 0) 0 0)) 0 (upd ((va_up S 0 (upd (S 0) 0 0)) 0) 0 3) = (va_up S 0 (upd (upd (S 0) 0 0) 0 3)) from by rw [cy_us, cy_uu]] at hW
          refine cy_topv (congrArg Value.int (show 0 = (cq_Fi S (nI c) (nI i) z nc).2 from by simp only [cq_Fi, cq_th, cq_nFi, cq_rs, c_10, c_25, c_35, c_50, clc, cli, eq_self, ↓reduceIte, not_true_eq_false, not_false_eq_true])) ?_
          have hW := cy_castS (show (va_up S 0 (upd (upd (S 0) 0 0) 0 3)) = (cq_Fi S (nI c) (nI i) z nc).1 from by simp only [cq_Fi, cq_th, cq_nFi, cq_rs, c_10, c_25, c_35, c_50, clc, cli, eq_self, ↓reduceIte, not_true_eq_false, not_false_eq_true]) hW
          exact hE  _ _ _ _ _ _ (Nat.le_of_ble_eq_true rfl) (Nat.le_of_ble_eq_true rfl) hW dX3_fill_79
        · skip
          refine lv_aload_n hx hb dX3_fill_53 rfl (lv_at hl 0 rfl) ?_
          refine lv_iload_n hx hb dX3_fill_54 rfl (lv_at hl 1 rfl) ?_
          refine cy_callV (As := [.int (nI c)]) (rest := []) (q0 := 0) (ci := 3) hC.1 hC.2.1 hC.2.2 hW (c_X3_all (c := c) (by omega)) (cwV 1 hts gX3_fill_X3_all rfl rfl rfl (by decide +kernel) ⟨Nat.le_of_ble_eq_true rfl, Nat.le_of_ble_eq_true rfl⟩) (cy_w_at (by decide) (cy_rd (cy_us) rfl)) rfl rfl hl.1 rfl (Nat.le_of_ble_eq_true rfl) dX3_fill_55 ⟨Nat.le_of_ble_eq_true rfl, Nat.le_of_ble_eq_true rfl⟩ (k' := 0) (n' := 0) rfl rfl (fun H locs hW => ?_)
          refine cy_topv (show _ = Value.int (cq_al S c) from rfl) ?_
          refine lv_iload_n hx hb dX3_fill_58 rfl (lv_at hl 3 rfl) ?_
          refine lv_iadd hx hb dX3_fill_59 ?_
          refine lv_aload_n hx hb dX3_fill_60 rfl (lv_at hl 0 rfl) ?_
          refine cy_get hC (0) (by decide) hi3 hW (cy_rd (cy_us) rfl) rfl 10 (by decide) (hts (.fieldLink RX3 26 "CaskYardModel" "room" "[I") (by decide +kernel)) (fun _ h9 => h9) (v := .ref (ad 5)) rfl dX3_fill_61 ?_
          refine lv_aload_n hx hb dX3_fill_64 rfl (lv_at hl 0 rfl) ?_
          refine cy_get hC (0) (by decide) hi3 hW (cy_rd (cy_us) rfl) rfl 13 (by decide) (hts (.fieldLink RX3 32 "CaskYardModel" "sort" "[I") (by decide +kernel)) (fun _ h9 => h9) (v := .ref (ad 7)) rfl dX3_fill_65 ?_
          refine lv_iload_n hx hb dX3_fill_68 rfl (lv_at hl 1 rfl) ?_
          refine cy_iald hC (7) (by decide) hW 0 (i := c) (cy_rd (cy_un (by omega)) rfl) rfl (by omega) (by decide) dX3_fill_69 ?_
          refine cy_top (y := nI (cq_so S c)) ((hq.1 c (Nat.lt_of_lt_of_le hc h12)).2) ?_
          refine cy_iald hC (5) (by decide) hW 0 (i := (cq_so S c)) (cy_rd (cy_un (by omega)) rfl) rfl (hq.1 c (Nat.lt_of_lt_of_le hc h12)).1 (by decide) dX3_fill_70 ?_
          refine lv_icmp_le (tgt := 80) hx hb dX3_fill_71 (by decide) (fun c_71 => ?_) (fun c_71 => ?_)
          · skip
            refine lv_aload_n hx hb dX3_fill_80 rfl (lv_at hl 0 rfl) ?_
            refine lv_iload_n hx hb dX3_fill_81 rfl (lv_at hl 1 rfl) ?_
            refine cy_callV (As := [.int (nI c)]) (rest := []) (q0 := 0) (ci := 3) hC.1 hC.2.1 hC.2.2 hW (c_X3_beginFilling (c := c) (by omega)) (cwV 1 hts gX3_fill_X3_beginFilling rfl rfl rfl (by decide +kernel) ⟨Nat.le_of_ble_eq_true rfl, Nat.le_of_ble_eq_true rfl⟩) (cy_w_at (by decide) (cy_rd (cy_us) rfl)) rfl rfl hl.1 rfl (Nat.le_of_ble_eq_true rfl) dX3_fill_82 ⟨Nat.le_of_ble_eq_true rfl, Nat.le_of_ble_eq_true rfl⟩ (k' := 0) (n' := 0) rfl rfl (fun H locs hW => ?_)
            refine lv_aload_n hx hb dX3_fill_85 rfl (lv_at hl 0 rfl) ?_
            refine cy_get hC (0) (by decide) hi3 hW (rfl) rfl 20 (by decide) (hts (.fieldLink RX3 54 "CaskYardModel" "holds" "[I") (by decide +kernel)) (fun _ h9 => h9) (v := .ref (ad 14)) rfl dX3_fill_86 ?_
            refine lv_iconst (v := 5) hx hb dX3_fill_89 (by decide) ?_
            refine lv_iload_n hx hb dX3_fill_90 rfl (lv_at hl 1 rfl) ?_
            refine lv_imul hx hb dX3_fill_91 ?_
            refine cy_top (pk_mul 5 c) ?_
            refine lv_iload_n hx hb dX3_fill_92 rfl (lv_at hl 2 rfl) ?_
            refine lv_iadd hx hb dX3_fill_93 ?_
            refine cy_top (nI_add (5 * c) i) ?_
            refine lv_dup2_11 hx hb dX3_fill_94 rfl rfl ?_
            refine cy_iald hC (14) (by decide) hW 0 (i := ((5 * c) + i)) (rfl) rfl (by omega) (by decide) dX3_fill_95 ?_
            refine lv_iload_n hx hb dX3_fill_96 rfl (lv_at hl 3 rfl) ?_
            refine lv_iadd hx hb dX3_fill_97 ?_
            refine cy_iast hC (14) (by decide) hW 0 (i := ((5 * c) + i)) (rfl) rfl (by omega) (by decide) (upd ((cq_bf (va_up S 0 (upd (S 0) 0 0)) c) 14) ((5 * c) + i) ((((cq_bf (va_up S 0 (upd (S 0) 0 0)) c) 14) ((5 * c) + i)) + z)) rfl (S' := (va_up (cq_bf (va_up S 0 (upd (S 0) 0 0)) c) 14 (upd ((cq_bf (va_up S 0 (upd (S 0) 0 0)) c) 14) ((5 * c) + i) ((((cq_bf (va_up S 0 (upd (S 0) 0 0)) c) 14) ((5 * c) + i)) + z)))) rfl dX3_fill_98 (fun H locs hW => ?_)
            refine lv_aload_n hx hb dX3_fill_99 rfl (lv_at hl 0 rfl) ?_
            refine lv_iload_n hx hb dX3_fill_100 rfl (lv_at hl 1 rfl) ?_
            refine cy_callV (As := [.int (nI c)]) (rest := []) (q0 := 0) (ci := 3) hC.1 hC.2.1 hC.2.2 hW (c_X3_all (c := c) (by omega)) (cwV 1 hts gX3_fill_X3_all rfl rfl rfl (by decide +kernel) ⟨Nat.le_of_ble_eq_true rfl, Nat.le_of_ble_eq_true rfl⟩) (cy_w_at (by decide) (cy_rd (cy_un (by omega)) rfl)) rfl rfl hl.1 rfl (Nat.le_of_ble_eq_true rfl) dX3_fill_101 ⟨Nat.le_of_ble_eq_true rfl, Nat.le_of_ble_eq_true rfl⟩ (k' := 0) (n' := 0) rfl rfl (fun H locs hW => ?_)
            refine cy_topv (congrArg Value.int (show cq_al (va_up (cq_bf (va_up S 0 (upd (S 0) 0 0)) c) 14 (upd ((cq_bf (va_up S 0 (upd (S 0) 0 0)) c) 14) ((5 * c) + i) ((((cq_bf (va_up S 0 (upd (S 0) 0 0)) c) 14) ((5 * c) + i)) + z))) c = (cq_Fi S (nI c) (nI i) z nc).2 from by simp only [cq_Fi, cq_th, cq_nFi, cq_rs, c_10, c_25, c_35, c_50, c_71, clc, cli, eq_self, ↓reduceIte, not_true_eq_false, not_false_eq_true])) ?_
            have hW := cy_castS (show (va_up (cq_bf (va_up S 0 (upd (S 0) 0 0)) c) 14 (upd ((cq_bf (va_up S 0 (upd (S 0) 0 0)) c) 14) ((5 * c) + i) ((((cq_bf (va_up S 0 (upd (S 0) 0 0)) c) 14) ((5 * c) + i)) + z))) = (cq_Fi S (nI c) (nI i) z nc).1 from by simp only [cq_Fi, cq_th, cq_nFi, cq_rs, c_10, c_25, c_35, c_50, c_71, clc, cli, eq_self, ↓reduceIte, not_true_eq_false, not_false_eq_true]) hW
            exact hE  _ _ _ _ _ _ (Nat.le_of_ble_eq_true rfl) (Nat.le_of_ble_eq_true rfl) hW dX3_fill_104
          · skip
            refine lv_aload_n hx hb dX3_fill_74 rfl (lv_at hl 0 rfl) ?_
            refine lv_iconst (v := 3) hx hb dX3_fill_75 (by decide) ?_
            refine cy_callV (As := [.int 3]) (rest := []) (q0 := 0) (ci := 3) hC.1 hC.2.1 hC.2.2 hW (c_X3_no (x := 3)) (cwV 1 hts gX3_fill_X3_no rfl rfl rfl (by decide +kernel) ⟨Nat.le_of_ble_eq_true rfl, Nat.le_of_ble_eq_true rfl⟩) (cy_w_at (by decide) (cy_rd (cy_us) rfl)) rfl rfl hl.1 rfl (Nat.le_of_ble_eq_true rfl) dX3_fill_76 ⟨Nat.le_of_ble_eq_true rfl, Nat.le_of_ble_eq_true rfl⟩ (k' := 0) (n' := 0) rfl rfl (fun H locs hW => ?_)
            rw [show va_up (va_up S 0 (upd (S 0) 0 0)) 0 (upd ((va_up S 0 (upd (S 0) 0 0)) 0) 0 3) = (va_up S 0 (upd (upd (S 0) 0 0) 0 3)) from by rw [cy_us, cy_uu]] at hW
            refine cy_topv (congrArg Value.int (show 0 = (cq_Fi S (nI c) (nI i) z nc).2 from by simp only [cq_Fi, cq_th, cq_nFi, cq_rs, c_10, c_25, c_35, c_50, c_71, clc, cli, eq_self, ↓reduceIte, not_true_eq_false, not_false_eq_true])) ?_
            have hW := cy_castS (show (va_up S 0 (upd (upd (S 0) 0 0) 0 3)) = (cq_Fi S (nI c) (nI i) z nc).1 from by simp only [cq_Fi, cq_th, cq_nFi, cq_rs, c_10, c_25, c_35, c_50, c_71, clc, cli, eq_self, ↓reduceIte, not_true_eq_false, not_false_eq_true]) hW
            exact hE  _ _ _ _ _ _ (Nat.le_of_ble_eq_true rfl) (Nat.le_of_ble_eq_true rfl) hW dX3_fill_79
      · skip
        refine lv_aload_n hx hb dX3_fill_38 rfl (lv_at hl 0 rfl) ?_
        refine lv_iconst (v := 2) hx hb dX3_fill_39 (by decide) ?_
        refine cy_callV (As := [.int 2]) (rest := []) (q0 := 0) (ci := 3) hC.1 hC.2.1 hC.2.2 hW (c_X3_no (x := 2)) (cwV 1 hts gX3_fill_X3_no rfl rfl rfl (by decide +kernel) ⟨Nat.le_of_ble_eq_true rfl, Nat.le_of_ble_eq_true rfl⟩) (cy_w_at (by decide) (cy_rd (cy_us) rfl)) rfl rfl hl.1 rfl (Nat.le_of_ble_eq_true rfl) dX3_fill_40 ⟨Nat.le_of_ble_eq_true rfl, Nat.le_of_ble_eq_true rfl⟩ (k' := 0) (n' := 0) rfl rfl (fun H locs hW => ?_)
        rw [show va_up (va_up S 0 (upd (S 0) 0 0)) 0 (upd ((va_up S 0 (upd (S 0) 0 0)) 0) 0 2) = (va_up S 0 (upd (upd (S 0) 0 0) 0 2)) from by rw [cy_us, cy_uu]] at hW
        refine cy_topv (congrArg Value.int (show 0 = (cq_Fi S (nI c) (nI i) z nc).2 from by simp only [cq_Fi, cq_th, cq_nFi, cq_rs, c_10, c_25, c_35, clc, cli, eq_self, ↓reduceIte, not_true_eq_false, not_false_eq_true])) ?_
        have hW := cy_castS (show (va_up S 0 (upd (upd (S 0) 0 0) 0 2)) = (cq_Fi S (nI c) (nI i) z nc).1 from by simp only [cq_Fi, cq_th, cq_nFi, cq_rs, c_10, c_25, c_35, clc, cli, eq_self, ↓reduceIte, not_true_eq_false, not_false_eq_true]) hW
        exact hE  _ _ _ _ _ _ (Nat.le_of_ble_eq_true rfl) (Nat.le_of_ble_eq_true rfl) hW dX3_fill_43
  · skip
    refine lv_aload_n hx hb dX3_fill_13 rfl (lv_at hl 0 rfl) ?_
    refine lv_iconst (v := 1) hx hb dX3_fill_14 (by decide) ?_
    refine cy_callV (As := [.int 1]) (rest := []) (q0 := 0) (ci := 3) hC.1 hC.2.1 hC.2.2 hW (c_X3_no (x := 1)) (cwV 1 hts gX3_fill_X3_no rfl rfl rfl (by decide +kernel) ⟨Nat.le_of_ble_eq_true rfl, Nat.le_of_ble_eq_true rfl⟩) (cy_w_at (by decide) (cy_rd (cy_us) rfl)) rfl rfl hl.1 rfl (Nat.le_of_ble_eq_true rfl) dX3_fill_15 ⟨Nat.le_of_ble_eq_true rfl, Nat.le_of_ble_eq_true rfl⟩ (k' := 0) (n' := 0) rfl rfl (fun H locs hW => ?_)
    rw [show va_up (va_up S 0 (upd (S 0) 0 0)) 0 (upd ((va_up S 0 (upd (S 0) 0 0)) 0) 0 1) = (va_up S 0 (upd (upd (S 0) 0 0) 0 1)) from by rw [cy_us, cy_uu]] at hW
    refine cy_topv (congrArg Value.int (show 0 = (cq_Fi S x y z nc).2 from by simp only [cq_Fi, cq_th, cq_nFi, cq_rs, c_10, eq_self, ↓reduceIte, not_true_eq_false, not_false_eq_true])) ?_
    have hW := cy_castS (show (va_up S 0 (upd (upd (S 0) 0 0) 0 1)) = (cq_Fi S x y z nc).1 from by simp only [cq_Fi, cq_th, cq_nFi, cq_rs, c_10, eq_self, ↓reduceIte, not_true_eq_false, not_false_eq_true]) hW
    exact hE  _ _ _ _ _ _ (Nat.le_of_ble_eq_true rfl) (Nat.le_of_ble_eq_true rfl) hW dX3_fill_18
abbrev rm_X3_setWarmth : Room := { frames := 1, cells := 0, slots := 0, locals := 22 }
set_option maxHeartbeats 4000000 in
set_option maxRecDepth 100000 in
theorem c_X3_setWarmth {l : Launch} {D : va_G} {kI kJ kZ kC : ClassId} {ad : Nat → Nat} {S : Nat → Nat → Int32} {tl : va_W} {x : Int32} : cy_M l yX3_setWarmth wsX3_setWarmth rm_X3_setWarmth D (cy_tys kI kJ kZ kC) [.ref (ad 0), .int x] (cy_Mw kI kZ ad S tl) (some (.int ((cq_Sw S x).2))) (cy_Mw kI kZ ad (cq_Sw S x).1 tl) := by
  refine cy_of (own := RX3) (cc := cX3_setWarmth) (maxL := 3) (ret := (some .int)) (i := .ireturn) (by decide) rfl rfl (Nat.le_of_ble_eq_true rfl) (cy_endI rfl) ?_
  intro p e s m args below meth co Q A ls hC hE hW hl
  have hx := hC.1.1; have hb := hC.1.2.1; have hml := hC.1.2.2.1; have hown := hC.1.2.2.2.1; have hts := hC.1.2.2.2.2
  have hl : lv_has ls 3 [(0, .ref (ad 0)), (1, .int x)] := hl
  have hi3 : ∀ w ∈ u_ws RX3 TX3 25, w ∈ wsX3_setWarmth := by decide +kernel
  refine lv_aload_n hx hb dX3_setWarmth_0 rfl (lv_at hl 0 rfl) ?_
  refine lv_iconst (v := 0) hx hb dX3_setWarmth_1 (by decide) ?_
  refine cy_put hC (0) (by decide) hi3 tyX3 tyX3_ok nmX3 hW (rfl) rfl 0 (by decide) (hts (.fieldLink RX3 67 "CaskYardModel" "thrown" "I") (by decide +kernel)) (fun _ h9 => h9) rfl (ty := .int) (by decide +kernel) rfl rfl (Nat.le_of_ble_eq_true rfl) (upd (S 0) 0 0) cy_hM0 (S' := (va_up S 0 (upd (S 0) 0 0))) rfl dX3_setWarmth_2 (fun H locs hW => ?_)
  refine lv_iload_n hx hb dX3_setWarmth_5 rfl (lv_at hl 1 rfl) ?_
  refine lv_iconst (v := 0) hx hb dX3_setWarmth_6 (by decide) ?_
  refine lv_bipush (v := 9) hx hb dX3_setWarmth_7 (by decide) ?_
  refine cy_callS (As := [.int x, .int 0, .int 9]) (rest := []) hC.1 hC.2.1 hC.2.2 hW (c_X3_isIn (x := x) (y := 0) (z := 9)) (va_cwS 3 hts gX3_setWarmth_X3_isIn rfl rfl rfl (by decide +kernel) ⟨Nat.le_of_ble_eq_true rfl, Nat.le_of_ble_eq_true rfl⟩) rfl hl.1 rfl (Nat.le_of_ble_eq_true rfl) dX3_setWarmth_9 ⟨Nat.le_of_ble_eq_true rfl, Nat.le_of_ble_eq_true rfl⟩ (k' := 0) (n' := 0) rfl rfl (fun H locs hW => ?_)
  refine lv_if_ne (tgt := 21) hx hb dX3_setWarmth_12 (by decide) (fun c_12 => ?_) (fun c_12 => ?_)
  · skip
    refine lv_aload_n hx hb dX3_setWarmth_21 rfl (lv_at hl 0 rfl) ?_
    refine cy_get hC (0) (by decide) hi3 hW (cy_rd (cy_us) rfl) rfl 2 (by decide) (hts (.fieldLink RX3 7 "CaskYardModel" "warmth" "I") (by decide +kernel)) (fun _ h9 => h9) (v := .int ((S 0) 2)) rfl dX3_setWarmth_22 ?_
    refine lv_istore_n (lv' := [(2, .int (S 0 2)), (0, .ref (ad 0)), (1, .int x)]) hx hb dX3_setWarmth_25 rfl hl (by decide) rfl (fun ls hl => ?_)
    refine lv_aload_n hx hb dX3_setWarmth_26 rfl (lv_at hl 1 rfl) ?_
    refine lv_iload_n hx hb dX3_setWarmth_27 rfl (lv_at hl 2 rfl) ?_
    refine cy_put hC (0) (by decide) hi3 tyX3 tyX3_ok nmX3 hW (cy_rd (cy_us) rfl) rfl 2 (by decide) (hts (.fieldLink RX3 7 "CaskYardModel" "warmth" "I") (by decide +kernel)) (fun _ h9 => h9) rfl (ty := .int) (by decide +kernel) rfl rfl (Nat.le_of_ble_eq_true rfl) (upd (upd (S 0) 0 0) 2 x) cy_hM2 (S' := (va_up S 0 (upd (upd (S 0) 0 0) 2 x))) cy_uu dX3_setWarmth_28 (fun H locs hW => ?_)
    refine lv_iload_n hx hb dX3_setWarmth_31 rfl (lv_at hl 0 rfl) ?_
    refine cy_topv (congrArg Value.int (show S 0 2 = (cq_Sw S x).2 from by simp only [cq_Sw, cq_th, c_12, eq_self, ↓reduceIte, not_true_eq_false, not_false_eq_true])) ?_
    have hW := cy_castS (show (va_up S 0 (upd (upd (S 0) 0 0) 2 x)) = (cq_Sw S x).1 from by simp only [cq_Sw, cq_th, c_12, eq_self, ↓reduceIte, not_true_eq_false, not_false_eq_true]) hW
    exact hE  _ _ _ _ _ _ (Nat.le_of_ble_eq_true rfl) (Nat.le_of_ble_eq_true rfl) hW dX3_setWarmth_32
  · skip
    refine lv_aload_n hx hb dX3_setWarmth_15 rfl (lv_at hl 0 rfl) ?_
    refine lv_iconst (v := 1) hx hb dX3_setWarmth_16 (by decide) ?_
    refine cy_callV (As := [.int 1]) (rest := []) (q0 := 0) (ci := 3) hC.1 hC.2.1 hC.2.2 hW (c_X3_no (x := 1)) (cwV 1 hts gX3_setWarmth_X3_no rfl rfl rfl (by decide +kernel) ⟨Nat.le_of_ble_eq_true rfl, Nat.le_of_ble_eq_true rfl⟩) (cy_w_at (by decide) (cy_rd (cy_us) rfl)) rfl rfl hl.1 rfl (Nat.le_of_ble_eq_true rfl) dX3_setWarmth_17 ⟨Nat.le_of_ble_eq_true rfl, Nat.le_of_ble_eq_true rfl⟩ (k' := 0) (n' := 0) rfl rfl (fun H locs hW => ?_)
    rw [show va_up (va_up S 0 (upd (S 0) 0 0)) 0 (upd ((va_up S 0 (upd (S 0) 0 0)) 0) 0 1) = (va_up S 0 (upd (upd (S 0) 0 0) 0 1)) from by rw [cy_us, cy_uu]] at hW
    refine cy_topv (congrArg Value.int (show 0 = (cq_Sw S x).2 from by simp only [cq_Sw, cq_th, c_12, eq_self, ↓reduceIte, not_true_eq_false, not_false_eq_true])) ?_
    have hW := cy_castS (show (va_up S 0 (upd (upd (S 0) 0 0) 0 1)) = (cq_Sw S x).1 from by simp only [cq_Sw, cq_th, c_12, eq_self, ↓reduceIte, not_true_eq_false, not_false_eq_true]) hW
    exact hE  _ _ _ _ _ _ (Nat.le_of_ble_eq_true rfl) (Nat.le_of_ble_eq_true rfl) hW dX3_setWarmth_20
