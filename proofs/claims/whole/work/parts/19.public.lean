abbrev rm_X2_addStave : Room := { frames := 6, cells := 1, slots := 6, locals := 90 }
set_option maxHeartbeats 4000000 in
set_option maxRecDepth 100000 in
theorem c_X2_addStave {l : Launch} {D : va_G} {kI kJ kZ kC : ClassId} {ad : Nat → Nat} {S : Nat → Nat → Int32} {tl : va_W} {Z : Nat → Int64} {x y : Int32} {ns : Nat} (hns : S 0 3 = nI ns) (h60 : ns ≤ 60) : cy_X l yX2_addStave wsX2_addStave rm_X2_addStave D (cy_tys kI kJ kZ kC) [.ref (ad 0), .int x, .int y] (cy_Y kI kJ kC ad S Z tl) (cy_tAs x y ns) (some (.int (nI ns))) (cy_Y kI kJ kC ad (cy_if (cy_tAs x y ns) (cy_nAs S x y ns) S) Z tl) := by
  refine cy_ofX (cc := cX2_addStave) (maxL := 3) (ret := (some .int)) (i := .ireturn) (by decide) rfl rfl (Nat.le_of_ble_eq_true rfl) (by decide) (fun _ => (cy_endI rfl)) ?_
  intro p e s m args below meth co Q A ls hC hTh hE hT hW hl
  have hx := hC.1.1; have hb := hC.1.2.1; have hml := hC.1.2.2.1; have hown := hC.1.2.2.2.1; have hts := hC.1.2.2.2.2
  have hl : lv_has ls 3 [(0, .ref (ad 0)), (1, .int x), (2, .int y)] := hl
  have hi2 : ∀ w ∈ u_ws RX2 TX2 17, w ∈ wsX2_addStave := by decide +kernel
  have hkIA : Cond.classLink RX2 57 cy_IA ∈ wsX2_addStave := by decide +kernel
  have hiIA : Cond.initialized cy_IA ∈ wsX2_addStave := by decide +kernel
  have hgIA : ∀ w ∈ (vx_atS RX2 61 cy_IA cy_nm).filter goodWord, w ∈ wsX2_addStave := by decide +kernel
  have hkIS : Cond.classLink RX2 69 cy_IS ∈ wsX2_addStave := by decide +kernel
  have hiIS : Cond.initialized cy_IS ∈ wsX2_addStave := by decide +kernel
  have hgIS : ∀ w ∈ (vx_atS RX2 73 cy_IS cy_nm).filter goodWord, w ∈ wsX2_addStave := by decide +kernel
  refine lv_iload_n hx hb dX2_addStave_0 rfl (lv_at hl 1 rfl) ?_
  refine lv_bipush (v := 20) hx hb dX2_addStave_1 (by decide) ?_
  refine lv_icmp_lt (tgt := 12) hx hb dX2_addStave_3 (by decide) (fun c_3 => ?_) (fun c_3 => ?_)
  · skip
    have hW := cy_castS (show S = cy_if (cy_tAs x y ns) (cy_nAs S x y ns) S from Eq.trans (by first | (simp only [cy_nAs, c_3, eq_self, ↓reduceIte]; done) | (simp only [cy_nAs, c_3, eq_self, ↓reduceIte]; rfl) | rfl) (cy_if_s (show cy_tAs x y ns = some cy_IA from by simp only [cy_tAs, c_3, eq_self, ↓reduceIte])).symm) hW
    exact hT _ _ _ _ 12 _ [] 57 61 59 cy_IA "width is not 20 to 120" cy_ok_IA (show cy_tAs x y ns = some cy_IA from by simp only [cy_tAs, c_3, eq_self, ↓reduceIte]) (Nat.le_of_ble_eq_true rfl) (Nat.le_of_ble_eq_true rfl) (Nat.le_of_ble_eq_true rfl) hW (hl.1.trans hml.symm) (by decide +kernel) hkIA hiIA hgIA dX2_addStave_12 dX2_addStave_15 (Or.inl ⟨dX2_addStave_16, dX2_addStave_18, dX2_addStave_21⟩)
  · skip
    refine lv_iload_n hx hb dX2_addStave_6 rfl (lv_at hl 1 rfl) ?_
    refine lv_bipush (v := 120) hx hb dX2_addStave_7 (by decide) ?_
    refine lv_icmp_le (tgt := 22) hx hb dX2_addStave_9 (by decide) (fun c_9 => ?_) (fun c_9 => ?_)
    · skip
      refine lv_iload_n hx hb dX2_addStave_22 rfl (lv_at hl 2 rfl) ?_
      refine lv_if_lt (tgt := 32) hx hb dX2_addStave_23 (by decide) (fun c_23 => ?_) (fun c_23 => ?_)
      · skip
        have hW := cy_castS (show S = cy_if (cy_tAs x y ns) (cy_nAs S x y ns) S from Eq.trans (by first | (simp only [cy_nAs, c_3, c_9, c_23, eq_self, ↓reduceIte]; done) | (simp only [cy_nAs, c_3, c_9, c_23, eq_self, ↓reduceIte]; rfl) | rfl) (cy_if_s (show cy_tAs x y ns = some cy_IA from by simp only [cy_tAs, c_3, c_9, c_23, eq_self, ↓reduceIte])).symm) hW
        exact hT _ _ _ _ 32 _ [] 57 61 64 cy_IA "dryness is not 0 to 100" cy_ok_IA (show cy_tAs x y ns = some cy_IA from by simp only [cy_tAs, c_3, c_9, c_23, eq_self, ↓reduceIte]) (Nat.le_of_ble_eq_true rfl) (Nat.le_of_ble_eq_true rfl) (Nat.le_of_ble_eq_true rfl) hW (hl.1.trans hml.symm) (by decide +kernel) hkIA hiIA hgIA dX2_addStave_32 dX2_addStave_35 (Or.inl ⟨dX2_addStave_36, dX2_addStave_38, dX2_addStave_41⟩)
      · skip
        refine lv_iload_n hx hb dX2_addStave_26 rfl (lv_at hl 2 rfl) ?_
        refine lv_bipush (v := 100) hx hb dX2_addStave_27 (by decide) ?_
        refine lv_icmp_le (tgt := 42) hx hb dX2_addStave_29 (by decide) (fun c_29 => ?_) (fun c_29 => ?_)
        · skip
          refine lv_aload_n hx hb dX2_addStave_42 rfl (lv_at hl 0 rfl) ?_
          refine cy_get hC (0) (by decide) hi2 hW (rfl) rfl 3 (by decide) (hts (.fieldLink RX2 66 "CaskYard" "staveCount" "I") (by decide +kernel)) (fun _ h9 => h9) (v := .int (S 0 3)) rfl dX2_addStave_43 ?_
          refine cy_top (y := nI ns) hns ?_
          refine lv_bipush (v := 60) hx hb dX2_addStave_46 (by decide) ?_
          refine lv_icmp_lt (tgt := 61) hx hb dX2_addStave_48 (by decide) (fun c_48 => ?_) (fun c_48 => ?_)
          · skip
            have q_48 := cy_lt (a := ns) (b := 60) (by omega) (by omega) c_48
            refine lv_aload_n hx hb dX2_addStave_61 rfl (lv_at hl 0 rfl) ?_
            refine cy_get hC (0) (by decide) hi2 hW (rfl) rfl 0 (by decide) (hts (.fieldLink RX2 9 "CaskYard" "widths" "[I") (by decide +kernel)) (fun _ h9 => h9) (v := .ref (ad 1)) rfl dX2_addStave_62 ?_
            refine lv_aload_n hx hb dX2_addStave_65 rfl (lv_at hl 0 rfl) ?_
            refine cy_get hC (0) (by decide) hi2 hW (rfl) rfl 3 (by decide) (hts (.fieldLink RX2 66 "CaskYard" "staveCount" "I") (by decide +kernel)) (fun _ h9 => h9) (v := .int (S 0 3)) rfl dX2_addStave_66 ?_
            refine cy_top (y := nI ns) hns ?_
            refine lv_iload_n hx hb dX2_addStave_69 rfl (lv_at hl 1 rfl) ?_
            refine cy_iast hC (1) (by decide) hW 0 (i := ns) (rfl) rfl (by omega) (by decide) (upd (S 1) ns x) rfl (S' := (va_up S 1 (upd (S 1) ns x))) rfl dX2_addStave_70 (fun H locs hW => ?_)
            refine lv_aload_n hx hb dX2_addStave_71 rfl (lv_at hl 0 rfl) ?_
            refine cy_get hC (0) (by decide) hi2 hW (cy_rd (cy_un (by omega)) rfl) rfl 1 (by decide) (hts (.fieldLink RX2 13 "CaskYard" "drynesses" "[I") (by decide +kernel)) (fun _ h9 => h9) (v := .ref (ad 2)) rfl dX2_addStave_72 ?_
            refine lv_aload_n hx hb dX2_addStave_75 rfl (lv_at hl 0 rfl) ?_
            refine cy_get hC (0) (by decide) hi2 hW (cy_rd (cy_un (by omega)) rfl) rfl 3 (by decide) (hts (.fieldLink RX2 66 "CaskYard" "staveCount" "I") (by decide +kernel)) (fun _ h9 => h9) (v := .int (S 0 3)) rfl dX2_addStave_76 ?_
            refine cy_top (y := nI ns) hns ?_
            refine lv_iload_n hx hb dX2_addStave_79 rfl (lv_at hl 2 rfl) ?_
            refine cy_iast hC (2) (by decide) hW 0 (i := ns) (cy_rd (cy_un (by omega)) rfl) rfl (by omega) (by decide) (upd (S 2) ns y) rfl (S' := (va_up (va_up S 1 (upd (S 1) ns x)) 2 (upd (S 2) ns y))) rfl dX2_addStave_80 (fun H locs hW => ?_)
            refine lv_aload_n hx hb dX2_addStave_81 rfl (lv_at hl 0 rfl) ?_
            refine cy_get hC (0) (by decide) hi2 hW (cy_rd ((cy_un (by omega)).trans (cy_un (by omega))) rfl) rfl 2 (by decide) (hts (.fieldLink RX2 16 "CaskYard" "places" "[I") (by decide +kernel)) (fun _ h9 => h9) (v := .ref (ad 3)) rfl dX2_addStave_82 ?_
            refine lv_aload_n hx hb dX2_addStave_85 rfl (lv_at hl 0 rfl) ?_
            refine cy_get hC (0) (by decide) hi2 hW (cy_rd ((cy_un (by omega)).trans (cy_un (by omega))) rfl) rfl 3 (by decide) (hts (.fieldLink RX2 66 "CaskYard" "staveCount" "I") (by decide +kernel)) (fun _ h9 => h9) (v := .int (S 0 3)) rfl dX2_addStave_86 ?_
            refine cy_top (y := nI ns) hns ?_
            refine lv_iconst (v := (-1)) hx hb dX2_addStave_89 (by decide) ?_
            refine cy_iast hC (3) (by decide) hW 0 (i := ns) (cy_rd ((cy_un (by omega)).trans (cy_un (by omega))) rfl) rfl (by omega) (by decide) (upd (S 3) ns (-1)) rfl (S' := (va_up (va_up (va_up S 1 (upd (S 1) ns x)) 2 (upd (S 2) ns y)) 3 (upd (S 3) ns (-1)))) rfl dX2_addStave_90 (fun H locs hW => ?_)
            refine lv_aload_n hx hb dX2_addStave_91 rfl (lv_at hl 0 rfl) ?_
            refine lv_dup hx hb dX2_addStave_92 rfl ?_
            refine cy_get hC (0) (by decide) hi2 hW (cy_rd ((cy_un (by omega)).trans ((cy_un (by omega)).trans (cy_un (by omega)))) rfl) rfl 3 (by decide) (hts (.fieldLink RX2 66 "CaskYard" "staveCount" "I") (by decide +kernel)) (fun _ h9 => h9) (v := .int (S 0 3)) rfl dX2_addStave_93 ?_
            refine cy_top (y := nI ns) hns ?_
            refine lv_iconst (v := 1) hx hb dX2_addStave_96 (by decide) ?_
            refine lv_iadd hx hb dX2_addStave_97 ?_
            refine cy_top (nI_add ns 1) ?_
            refine cy_put hC (0) (by decide) hi2 tyX2 tyX2_ok nmX2 hW (cy_rd ((cy_un (by omega)).trans ((cy_un (by omega)).trans (cy_un (by omega)))) rfl) rfl 3 (by decide) (hts (.fieldLink RX2 66 "CaskYard" "staveCount" "I") (by decide +kernel)) (fun _ h9 => h9) rfl (ty := .int) (by decide +kernel) rfl rfl (Nat.le_of_ble_eq_true rfl) (upd (S 0) 3 (nI (ns + 1))) cy_hY3 (S' := (va_up (va_up (va_up (va_up S 1 (upd (S 1) ns x)) 2 (upd (S 2) ns y)) 3 (upd (S 3) ns (-1))) 0 (upd (S 0) 3 (nI (ns + 1))))) rfl dX2_addStave_98 (fun H locs hW => ?_)
            refine lv_aload_n hx hb dX2_addStave_101 rfl (lv_at hl 0 rfl) ?_
            refine cy_get hC (0) (by decide) hi2 hW (cy_rd (cy_us) rfl) rfl 3 (by decide) (hts (.fieldLink RX2 66 "CaskYard" "staveCount" "I") (by decide +kernel)) (fun _ h9 => h9) (v := .int (nI (ns + 1))) rfl dX2_addStave_102 ?_
            refine lv_iconst (v := 1) hx hb dX2_addStave_105 (by decide) ?_
            refine lv_isub hx hb dX2_addStave_106 ?_
            refine cy_topv (congrArg Value.int (show (nI (ns + 1)) - 1 = nI ns from by rw [nI_pred])) ?_
            have hW := cy_castS (show (va_up (va_up (va_up (va_up S 1 (upd (S 1) ns x)) 2 (upd (S 2) ns y)) 3 (upd (S 3) ns (-1))) 0 (upd (S 0) 3 (nI (ns + 1)))) = cy_if (cy_tAs x y ns) (cy_nAs S x y ns) S from Eq.trans (by first | (simp only [cy_nAs, c_3, c_9, c_23, c_29, c_48, eq_self, ↓reduceIte]; done) | (simp only [cy_nAs, c_3, c_9, c_23, c_29, c_48, eq_self, ↓reduceIte]; rfl) | rfl) (cy_if_n (show cy_tAs x y ns = none from by simp only [cy_tAs, c_3, c_9, c_23, c_29, c_48, eq_self, ↓reduceIte])).symm) hW
            exact hE (show cy_tAs x y ns = none from by simp only [cy_tAs, c_3, c_9, c_23, c_29, c_48, eq_self, ↓reduceIte]) _ _ _ _ _ _ (Nat.le_of_ble_eq_true rfl) (Nat.le_of_ble_eq_true rfl) hW dX2_addStave_107
          · skip
            have q_48 := cy_nlt (a := ns) (b := 60) (by omega) (by omega) c_48
            have hW := cy_castS (show S = cy_if (cy_tAs x y ns) (cy_nAs S x y ns) S from Eq.trans (by first | (simp only [cy_nAs, c_3, c_9, c_23, c_29, c_48, eq_self, ↓reduceIte]; done) | (simp only [cy_nAs, c_3, c_9, c_23, c_29, c_48, eq_self, ↓reduceIte]; rfl) | rfl) (cy_if_s (show cy_tAs x y ns = some cy_IS from by simp only [cy_tAs, c_3, c_9, c_23, c_29, c_48, eq_self, ↓reduceIte])).symm) hW
            exact hT _ _ _ _ 51 _ [] 69 73 71 cy_IS "there are 60 staves" cy_ok_IS (show cy_tAs x y ns = some cy_IS from by simp only [cy_tAs, c_3, c_9, c_23, c_29, c_48, eq_self, ↓reduceIte]) (Nat.le_of_ble_eq_true rfl) (Nat.le_of_ble_eq_true rfl) (Nat.le_of_ble_eq_true rfl) hW (hl.1.trans hml.symm) (by decide +kernel) hkIS hiIS hgIS dX2_addStave_51 dX2_addStave_54 (Or.inl ⟨dX2_addStave_55, dX2_addStave_57, dX2_addStave_60⟩)
        · skip
          have hW := cy_castS (show S = cy_if (cy_tAs x y ns) (cy_nAs S x y ns) S from Eq.trans (by first | (simp only [cy_nAs, c_3, c_9, c_23, c_29, eq_self, ↓reduceIte]; done) | (simp only [cy_nAs, c_3, c_9, c_23, c_29, eq_self, ↓reduceIte]; rfl) | rfl) (cy_if_s (show cy_tAs x y ns = some cy_IA from by simp only [cy_tAs, c_3, c_9, c_23, c_29, eq_self, ↓reduceIte])).symm) hW
          exact hT _ _ _ _ 32 _ [] 57 61 64 cy_IA "dryness is not 0 to 100" cy_ok_IA (show cy_tAs x y ns = some cy_IA from by simp only [cy_tAs, c_3, c_9, c_23, c_29, eq_self, ↓reduceIte]) (Nat.le_of_ble_eq_true rfl) (Nat.le_of_ble_eq_true rfl) (Nat.le_of_ble_eq_true rfl) hW (hl.1.trans hml.symm) (by decide +kernel) hkIA hiIA hgIA dX2_addStave_32 dX2_addStave_35 (Or.inl ⟨dX2_addStave_36, dX2_addStave_38, dX2_addStave_41⟩)
    · skip
      have hW := cy_castS (show S = cy_if (cy_tAs x y ns) (cy_nAs S x y ns) S from Eq.trans (by first | (simp only [cy_nAs, c_3, c_9, eq_self, ↓reduceIte]; done) | (simp only [cy_nAs, c_3, c_9, eq_self, ↓reduceIte]; rfl) | rfl) (cy_if_s (show cy_tAs x y ns = some cy_IA from by simp only [cy_tAs, c_3, c_9, eq_self, ↓reduceIte])).symm) hW
      exact hT _ _ _ _ 12 _ [] 57 61 59 cy_IA "width is not 20 to 120" cy_ok_IA (show cy_tAs x y ns = some cy_IA from by simp only [cy_tAs, c_3, c_9, eq_self, ↓reduceIte]) (Nat.le_of_ble_eq_true rfl) (Nat.le_of_ble_eq_true rfl) (Nat.le_of_ble_eq_true rfl) hW (hl.1.trans hml.symm) (by decide +kernel) hkIA hiIA hgIA dX2_addStave_12 dX2_addStave_15 (Or.inl ⟨dX2_addStave_16, dX2_addStave_18, dX2_addStave_21⟩)
abbrev rm_X2_stave : Room := { frames := 6, cells := 1, slots := 6, locals := 90 }
set_option maxHeartbeats 4000000 in
set_option maxRecDepth 100000 in
theorem c_X2_stave {l : Launch} {D : va_G} {kI kJ kZ kC : ClassId} {ad : Nat → Nat} {S : Nat → Nat → Int32} {tl : va_W} {Z : Nat → Int64} {x y : Int32} {ns : Nat} (hns : S 0 3 = nI ns) (h60 : ns ≤ 60) : cy_X l yX2_stave wsX2_stave rm_X2_stave D (cy_tys kI kJ kZ kC) [.ref (ad 0), .int x, .int y] (cy_Y kI kJ kC ad S Z tl) (cy_tSt x y ns) (some (.int (cy_rSt S x y))) (cy_Y kI kJ kC ad (cy_if (cy_tSt x y ns) S S) Z tl) := by
  refine cy_ofX (cc := cX2_stave) (maxL := 3) (ret := (some .int)) (i := .ireturn) (by decide) rfl rfl (Nat.le_of_ble_eq_true rfl) (by decide) (fun _ => (cy_endI rfl)) ?_
  intro p e s m args below meth co Q A ls hC hTh hE hT hW hl
  have hx := hC.1.1; have hb := hC.1.2.1; have hml := hC.1.2.2.1; have hown := hC.1.2.2.2.1; have hts := hC.1.2.2.2.2
  have hl : lv_has ls 3 [(0, .ref (ad 0)), (1, .int x), (2, .int y)] := hl
  have hi2 : ∀ w ∈ u_ws RX2 TX2 17, w ∈ wsX2_stave := by decide +kernel
  have hkIB : Cond.classLink RX2 78 cy_IB ∈ wsX2_stave := by decide +kernel
  have hiIB : Cond.initialized cy_IB ∈ wsX2_stave := by decide +kernel
  have hgIB : ∀ w ∈ (vx_atS RX2 82 cy_IB cy_nm).filter goodWord, w ∈ wsX2_stave := by decide +kernel
  refine lv_aload_n hx hb dX2_stave_0 rfl (lv_at hl 0 rfl) ?_
  refine lv_iload_n hx hb dX2_stave_1 rfl (lv_at hl 1 rfl) ?_
  refine cy_callV (As := [.int x]) (rest := []) (q0 := 0) (ci := 2) hC.1 hC.2.1 hC.2.2 hW (c_X2_isStave (x := x)) (cwV 1 hts gX2_stave_X2_isStave rfl rfl rfl (by decide +kernel) ⟨Nat.le_of_ble_eq_true rfl, Nat.le_of_ble_eq_true rfl⟩) (cy_w_at (by decide) (rfl)) rfl rfl hl.1 rfl (Nat.le_of_ble_eq_true rfl) dX2_stave_2 ⟨Nat.le_of_ble_eq_true rfl, Nat.le_of_ble_eq_true rfl⟩ (k' := 0) (n' := 0) rfl rfl (fun H locs hW => ?_)
  refine cy_topv (show _ = Value.int (cy_rIs x (nI ns)) from (congrArg (fun z => Value.int (cy_rIs x z)) hns)) ?_
  refine lv_if_ne (tgt := 18) hx hb dX2_stave_5 (by decide) (fun c_5 => ?_) (fun c_5 => ?_)
  · skip
    obtain ⟨i, hi, rfl⟩ := cy_rIs_t (by omega) c_5
    have cli : (nI i).toNatClampNeg = i := nI_clamp (by omega)
    have hl : lv_has ls 3 [(0, .ref (ad 0)), (1, .int (nI i)), (2, .int y)] := hl
    refine lv_iload_n hx hb dX2_stave_18 rfl (lv_at hl 2 rfl) ?_
    refine lv_if_lt (tgt := 27) hx hb dX2_stave_19 (by decide) (fun c_19 => ?_) (fun c_19 => ?_)
    · skip
      have hW := cy_castS (show S = cy_if (cy_tSt (nI i) y ns) S S from Eq.trans (by first | (simp only [c_5, c_19, cli, eq_self, ↓reduceIte]; done) | (simp only [c_5, c_19, cli, eq_self, ↓reduceIte]; rfl) | rfl) (cy_if_s (show cy_tSt (nI i) y ns = some cy_IB from by simp only [cy_tSt, c_5, c_19, cli, eq_self, ↓reduceIte])).symm) hW
      exact hT _ _ _ _ 27 _ [] 78 82 83 cy_IB "what is not 0 to 2" cy_ok_IB (show cy_tSt (nI i) y ns = some cy_IB from by simp only [cy_tSt, c_5, c_19, cli, eq_self, ↓reduceIte]) (Nat.le_of_ble_eq_true rfl) (Nat.le_of_ble_eq_true rfl) (Nat.le_of_ble_eq_true rfl) hW (hl.1.trans hml.symm) (by decide +kernel) hkIB hiIB hgIB dX2_stave_27 dX2_stave_30 (Or.inl ⟨dX2_stave_31, dX2_stave_33, dX2_stave_36⟩)
    · skip
      refine lv_iload_n hx hb dX2_stave_22 rfl (lv_at hl 2 rfl) ?_
      refine lv_iconst (v := 3) hx hb dX2_stave_23 (by decide) ?_
      refine lv_icmp_lt (tgt := 37) hx hb dX2_stave_24 (by decide) (fun c_24 => ?_) (fun c_24 => ?_)
      · skip
        obtain ⟨k, hk, rfl⟩ := cy_rng (n := 3) rfl (by decide) c_19 c_24
        have clk : (nI k).toNatClampNeg = k := nI_clamp (by omega)
        have hl : lv_has ls 3 [(0, .ref (ad 0)), (1, .int (nI i)), (2, .int (nI k))] := hl
        have hs_k : k = 0 ∨ k = 1 ∨ k = 2 := by omega
        rcases hs_k with rfl | rfl | rfl
        · have hl := hl
          have hl : lv_has ls 3 [(0, .ref (ad 0)), (1, .int (nI i)), (2, .int 0)] := hl
          refine lv_iload_n hx hb dX2_stave_37 rfl (lv_at hl 2 rfl) ?_
          refine lv_lookup (off := 26) (tgt := 64) hx hb dX2_stave_38 (by decide) (by decide) (by decide) ?_
          refine lv_aload_n hx hb dX2_stave_64 rfl (lv_at hl 0 rfl) ?_
          refine cy_get hC (0) (by decide) hi2 hW (rfl) rfl 0 (by decide) (hts (.fieldLink RX2 9 "CaskYard" "widths" "[I") (by decide +kernel)) (fun _ h9 => h9) (v := .ref (ad 1)) rfl dX2_stave_65 ?_
          refine lv_iload_n hx hb dX2_stave_68 rfl (lv_at hl 1 rfl) ?_
          refine cy_iald hC (1) (by decide) hW 0 (i := i) (rfl) rfl (by omega) (by decide) dX2_stave_69 ?_
          refine cy_topv (congrArg Value.int (show S 1 i = cy_rSt S (nI i) (nI 0) from by unfold cy_rSt; rw [cli]; rfl)) ?_
          have hW := cy_castS (show S = cy_if (cy_tSt (nI i) (nI 0) ns) S S from Eq.trans (by first | (simp only [c_5, c_19, c_24, cli, clk, eq_self, ↓reduceIte]; done) | (simp only [c_5, c_19, c_24, cli, clk, eq_self, ↓reduceIte]; rfl) | rfl) (cy_if_n (show cy_tSt (nI i) (nI 0) ns = none from by simp only [cy_tSt, c_5, c_19, c_24, cli, clk, eq_self, ↓reduceIte])).symm) hW
          exact hE (show cy_tSt (nI i) (nI 0) ns = none from by simp only [cy_tSt, c_5, c_19, c_24, cli, clk, eq_self, ↓reduceIte]) _ _ _ _ _ _ (Nat.le_of_ble_eq_true rfl) (Nat.le_of_ble_eq_true rfl) hW dX2_stave_70
        · have hl := hl
          have hl : lv_has ls 3 [(0, .ref (ad 0)), (1, .int (nI i)), (2, .int 1)] := hl
          refine lv_iload_n hx hb dX2_stave_37 rfl (lv_at hl 2 rfl) ?_
          refine lv_lookup (off := 33) (tgt := 71) hx hb dX2_stave_38 (by decide) (by decide) (by decide) ?_
          refine lv_aload_n hx hb dX2_stave_71 rfl (lv_at hl 0 rfl) ?_
          refine cy_get hC (0) (by decide) hi2 hW (rfl) rfl 1 (by decide) (hts (.fieldLink RX2 13 "CaskYard" "drynesses" "[I") (by decide +kernel)) (fun _ h9 => h9) (v := .ref (ad 2)) rfl dX2_stave_72 ?_
          refine lv_iload_n hx hb dX2_stave_75 rfl (lv_at hl 1 rfl) ?_
          refine cy_iald hC (2) (by decide) hW 0 (i := i) (rfl) rfl (by omega) (by decide) dX2_stave_76 ?_
          refine cy_topv (congrArg Value.int (show S 2 i = cy_rSt S (nI i) (nI 1) from by unfold cy_rSt; rw [cli]; rfl)) ?_
          have hW := cy_castS (show S = cy_if (cy_tSt (nI i) (nI 1) ns) S S from Eq.trans (by first | (simp only [c_5, c_19, c_24, cli, clk, eq_self, ↓reduceIte]; done) | (simp only [c_5, c_19, c_24, cli, clk, eq_self, ↓reduceIte]; rfl) | rfl) (cy_if_n (show cy_tSt (nI i) (nI 1) ns = none from by simp only [cy_tSt, c_5, c_19, c_24, cli, clk, eq_self, ↓reduceIte])).symm) hW
          exact hE (show cy_tSt (nI i) (nI 1) ns = none from by simp only [cy_tSt, c_5, c_19, c_24, cli, clk, eq_self, ↓reduceIte]) _ _ _ _ _ _ (Nat.le_of_ble_eq_true rfl) (Nat.le_of_ble_eq_true rfl) hW dX2_stave_77
        · have hl := hl
          have hl : lv_has ls 3 [(0, .ref (ad 0)), (1, .int (nI i)), (2, .int 2)] := hl
          refine lv_iload_n hx hb dX2_stave_37 rfl (lv_at hl 2 rfl) ?_
          refine lv_lookup (off := 40) (tgt := 78) hx hb dX2_stave_38 (by decide) (by decide) (by decide) ?_
          refine lv_aload_n hx hb dX2_stave_78 rfl (lv_at hl 0 rfl) ?_
          refine cy_get hC (0) (by decide) hi2 hW (rfl) rfl 2 (by decide) (hts (.fieldLink RX2 16 "CaskYard" "places" "[I") (by decide +kernel)) (fun _ h9 => h9) (v := .ref (ad 3)) rfl dX2_stave_79 ?_
          refine lv_iload_n hx hb dX2_stave_82 rfl (lv_at hl 1 rfl) ?_
          refine cy_iald hC (3) (by decide) hW 0 (i := i) (rfl) rfl (by omega) (by decide) dX2_stave_83 ?_
          refine cy_topv (congrArg Value.int (show S 3 i = cy_rSt S (nI i) (nI 2) from by unfold cy_rSt; rw [cli]; rfl)) ?_
          have hW := cy_castS (show S = cy_if (cy_tSt (nI i) (nI 2) ns) S S from Eq.trans (by first | (simp only [c_5, c_19, c_24, cli, clk, eq_self, ↓reduceIte]; done) | (simp only [c_5, c_19, c_24, cli, clk, eq_self, ↓reduceIte]; rfl) | rfl) (cy_if_n (show cy_tSt (nI i) (nI 2) ns = none from by simp only [cy_tSt, c_5, c_19, c_24, cli, clk, eq_self, ↓reduceIte])).symm) hW
          exact hE (show cy_tSt (nI i) (nI 2) ns = none from by simp only [cy_tSt, c_5, c_19, c_24, cli, clk, eq_self, ↓reduceIte]) _ _ _ _ _ _ (Nat.le_of_ble_eq_true rfl) (Nat.le_of_ble_eq_true rfl) hW dX2_stave_84
      · skip
        have hW := cy_castS (show S = cy_if (cy_tSt (nI i) y ns) S S from Eq.trans (by first | (simp only [c_5, c_19, c_24, cli, eq_self, ↓reduceIte]; done) | (simp only [c_5, c_19, c_24, cli, eq_self, ↓reduceIte]; rfl) | rfl) (cy_if_s (show cy_tSt (nI i) y ns = some cy_IB from by simp only [cy_tSt, c_5, c_19, c_24, cli, eq_self, ↓reduceIte])).symm) hW
        exact hT _ _ _ _ 27 _ [] 78 82 83 cy_IB "what is not 0 to 2" cy_ok_IB (show cy_tSt (nI i) y ns = some cy_IB from by simp only [cy_tSt, c_5, c_19, c_24, cli, eq_self, ↓reduceIte]) (Nat.le_of_ble_eq_true rfl) (Nat.le_of_ble_eq_true rfl) (Nat.le_of_ble_eq_true rfl) hW (hl.1.trans hml.symm) (by decide +kernel) hkIB hiIB hgIB dX2_stave_27 dX2_stave_30 (Or.inl ⟨dX2_stave_31, dX2_stave_33, dX2_stave_36⟩)
  · skip
    have hW := cy_castS (show S = cy_if (cy_tSt x y ns) S S from Eq.trans (by first | (simp only [c_5, eq_self, ↓reduceIte]; done) | (simp only [c_5, eq_self, ↓reduceIte]; rfl) | rfl) (cy_if_s (show cy_tSt x y ns = some cy_IB from by simp only [cy_tSt, c_5, eq_self, ↓reduceIte])).symm) hW
    exact hT _ _ _ _ 8 _ [] 78 82 80 cy_IB "no such stave" cy_ok_IB (show cy_tSt x y ns = some cy_IB from by simp only [cy_tSt, c_5, eq_self, ↓reduceIte]) (Nat.le_of_ble_eq_true rfl) (Nat.le_of_ble_eq_true rfl) (Nat.le_of_ble_eq_true rfl) hW (hl.1.trans hml.symm) (by decide +kernel) hkIB hiIB hgIB dX2_stave_8 dX2_stave_11 (Or.inl ⟨dX2_stave_12, dX2_stave_14, dX2_stave_17⟩)
abbrev rm_X2_addSort : Room := { frames := 6, cells := 1, slots := 6, locals := 90 }
set_option maxHeartbeats 4000000 in
set_option maxRecDepth 100000 in
theorem c_X2_addSort {l : Launch} {D : va_G} {kI kJ kZ kC : ClassId} {ad : Nat → Nat} {S : Nat → Nat → Int32} {tl : va_W} {Z : Nat → Int64} {x y z : Int32} {no : Nat} (hno : S 0 7 = nI no) (h6 : no ≤ 6) : cy_X l yX2_addSort wsX2_addSort rm_X2_addSort D (cy_tys kI kJ kZ kC) [.ref (ad 0), .int x, .int y, .int z] (cy_Y kI kJ kC ad S Z tl) (cy_tAo x y z no) (some (.int (nI no))) (cy_Y kI kJ kC ad (cy_if (cy_tAo x y z no) (cy_nAo S x y z no) S) Z tl) := by
  refine cy_ofX (cc := cX2_addSort) (maxL := 4) (ret := (some .int)) (i := .ireturn) (by decide) rfl rfl (Nat.le_of_ble_eq_true rfl) (by decide) (fun _ => (cy_endI rfl)) ?_
  intro p e s m args below meth co Q A ls hC hTh hE hT hW hl
  have hx := hC.1.1; have hb := hC.1.2.1; have hml := hC.1.2.2.1; have hown := hC.1.2.2.2.1; have hts := hC.1.2.2.2.2
  have hl : lv_has ls 4 [(0, .ref (ad 0)), (1, .int x), (2, .int y), (3, .int z)] := hl
  have hi2 : ∀ w ∈ u_ws RX2 TX2 17, w ∈ wsX2_addSort := by decide +kernel
  have hkIA : Cond.classLink RX2 57 cy_IA ∈ wsX2_addSort := by decide +kernel
  have hiIA : Cond.initialized cy_IA ∈ wsX2_addSort := by decide +kernel
  have hgIA : ∀ w ∈ (vx_atS RX2 61 cy_IA cy_nm).filter goodWord, w ∈ wsX2_addSort := by decide +kernel
  have hkIS : Cond.classLink RX2 69 cy_IS ∈ wsX2_addSort := by decide +kernel
  have hiIS : Cond.initialized cy_IS ∈ wsX2_addSort := by decide +kernel
  have hgIS : ∀ w ∈ (vx_atS RX2 73 cy_IS cy_nm).filter goodWord, w ∈ wsX2_addSort := by decide +kernel
  refine lv_iload_n hx hb dX2_addSort_0 rfl (lv_at hl 1 rfl) ?_
  refine lv_sipush (v := 300) hx hb dX2_addSort_1 (by decide) ?_
  refine lv_icmp_lt (tgt := 14) hx hb dX2_addSort_4 (by decide) (fun c_4 => ?_) (fun c_4 => ?_)
  · skip
    have hW := cy_castS (show S = cy_if (cy_tAo x y z no) (cy_nAo S x y z no) S from Eq.trans (by first | (simp only [cy_nAo, c_4, eq_self, ↓reduceIte]; done) | (simp only [cy_nAo, c_4, eq_self, ↓reduceIte]; rfl) | rfl) (cy_if_s (show cy_tAo x y z no = some cy_IA from by simp only [cy_tAo, c_4, eq_self, ↓reduceIte])).symm) hW
    exact hT _ _ _ _ 14 _ [] 57 61 85 cy_IA "girth is not 300 to 1500" cy_ok_IA (show cy_tAo x y z no = some cy_IA from by simp only [cy_tAo, c_4, eq_self, ↓reduceIte]) (Nat.le_of_ble_eq_true rfl) (Nat.le_of_ble_eq_true rfl) (Nat.le_of_ble_eq_true rfl) hW (hl.1.trans hml.symm) (by decide +kernel) hkIA hiIA hgIA dX2_addSort_14 dX2_addSort_17 (Or.inl ⟨dX2_addSort_18, dX2_addSort_20, dX2_addSort_23⟩)
  · skip
    refine lv_iload_n hx hb dX2_addSort_7 rfl (lv_at hl 1 rfl) ?_
    refine lv_sipush (v := 1500) hx hb dX2_addSort_8 (by decide) ?_
    refine lv_icmp_le (tgt := 24) hx hb dX2_addSort_11 (by decide) (fun c_11 => ?_) (fun c_11 => ?_)
    · skip
      refine lv_iload_n hx hb dX2_addSort_24 rfl (lv_at hl 2 rfl) ?_
      refine lv_bipush (v := 100) hx hb dX2_addSort_25 (by decide) ?_
      refine lv_icmp_lt (tgt := 36) hx hb dX2_addSort_27 (by decide) (fun c_27 => ?_) (fun c_27 => ?_)
      · skip
        have hW := cy_castS (show S = cy_if (cy_tAo x y z no) (cy_nAo S x y z no) S from Eq.trans (by first | (simp only [cy_nAo, c_4, c_11, c_27, eq_self, ↓reduceIte]; done) | (simp only [cy_nAo, c_4, c_11, c_27, eq_self, ↓reduceIte]; rfl) | rfl) (cy_if_s (show cy_tAo x y z no = some cy_IA from by simp only [cy_tAo, c_4, c_11, c_27, eq_self, ↓reduceIte])).symm) hW
        exact hT _ _ _ _ 36 _ [] 57 61 88 cy_IA "room is not 100 to 60000" cy_ok_IA (show cy_tAo x y z no = some cy_IA from by simp only [cy_tAo, c_4, c_11, c_27, eq_self, ↓reduceIte]) (Nat.le_of_ble_eq_true rfl) (Nat.le_of_ble_eq_true rfl) (Nat.le_of_ble_eq_true rfl) hW (hl.1.trans hml.symm) (by decide +kernel) hkIA hiIA hgIA dX2_addSort_36 dX2_addSort_39 (Or.inl ⟨dX2_addSort_40, dX2_addSort_42, dX2_addSort_45⟩)
      · skip
        refine lv_iload_n hx hb dX2_addSort_30 rfl (lv_at hl 2 rfl) ?_
        refine lv_ldc (v := 60000) hx hb hown (hts (.constant RX2 87 60000) (by decide +kernel)) dX2_addSort_31 ?_
        refine lv_icmp_le (tgt := 46) hx hb dX2_addSort_33 (by decide) (fun c_33 => ?_) (fun c_33 => ?_)
        · skip
          refine lv_iload_n hx hb dX2_addSort_46 rfl (lv_at hl 3 rfl) ?_
          refine lv_iconst (v := 2) hx hb dX2_addSort_47 (by decide) ?_
          refine lv_icmp_lt (tgt := 57) hx hb dX2_addSort_48 (by decide) (fun c_48 => ?_) (fun c_48 => ?_)
          · skip
            have hW := cy_castS (show S = cy_if (cy_tAo x y z no) (cy_nAo S x y z no) S from Eq.trans (by first | (simp only [cy_nAo, c_4, c_11, c_27, c_33, c_48, eq_self, ↓reduceIte]; done) | (simp only [cy_nAo, c_4, c_11, c_27, c_33, c_48, eq_self, ↓reduceIte]; rfl) | rfl) (cy_if_s (show cy_tAo x y z no = some cy_IA from by simp only [cy_tAo, c_4, c_11, c_27, c_33, c_48, eq_self, ↓reduceIte])).symm) hW
            exact hT _ _ _ _ 57 _ [] 57 61 90 cy_IA "hoops is not 2 to 8" cy_ok_IA (show cy_tAo x y z no = some cy_IA from by simp only [cy_tAo, c_4, c_11, c_27, c_33, c_48, eq_self, ↓reduceIte]) (Nat.le_of_ble_eq_true rfl) (Nat.le_of_ble_eq_true rfl) (Nat.le_of_ble_eq_true rfl) hW (hl.1.trans hml.symm) (by decide +kernel) hkIA hiIA hgIA dX2_addSort_57 dX2_addSort_60 (Or.inl ⟨dX2_addSort_61, dX2_addSort_63, dX2_addSort_66⟩)
          · skip
            refine lv_iload_n hx hb dX2_addSort_51 rfl (lv_at hl 3 rfl) ?_
            refine lv_bipush (v := 8) hx hb dX2_addSort_52 (by decide) ?_
            refine lv_icmp_le (tgt := 67) hx hb dX2_addSort_54 (by decide) (fun c_54 => ?_) (fun c_54 => ?_)
            · skip
              refine lv_aload_n hx hb dX2_addSort_67 rfl (lv_at hl 0 rfl) ?_
              refine cy_get hC (0) (by decide) hi2 hW (rfl) rfl 7 (by decide) (hts (.fieldLink RX2 92 "CaskYard" "sortCount" "I") (by decide +kernel)) (fun _ h9 => h9) (v := .int (S 0 7)) rfl dX2_addSort_68 ?_
              refine cy_top (y := nI no) hno ?_
              refine lv_bipush (v := 6) hx hb dX2_addSort_71 (by decide) ?_
              refine lv_icmp_lt (tgt := 86) hx hb dX2_addSort_73 (by decide) (fun c_73 => ?_) (fun c_73 => ?_)
              · skip
                have q_73 := cy_lt (a := no) (b := 6) (by omega) (by omega) c_73
                refine lv_aload_n hx hb dX2_addSort_86 rfl (lv_at hl 0 rfl) ?_
                refine cy_get hC (0) (by decide) hi2 hW (rfl) rfl 4 (by decide) (hts (.fieldLink RX2 19 "CaskYard" "girths" "[I") (by decide +kernel)) (fun _ h9 => h9) (v := .ref (ad 4)) rfl dX2_addSort_87 ?_
                refine lv_aload_n hx hb dX2_addSort_90 rfl (lv_at hl 0 rfl) ?_
                refine cy_get hC (0) (by decide) hi2 hW (rfl) rfl 7 (by decide) (hts (.fieldLink RX2 92 "CaskYard" "sortCount" "I") (by decide +kernel)) (fun _ h9 => h9) (v := .int (S 0 7)) rfl dX2_addSort_91 ?_
                refine cy_top (y := nI no) hno ?_
                refine lv_iload_n hx hb dX2_addSort_94 rfl (lv_at hl 1 rfl) ?_
                refine cy_iast hC (4) (by decide) hW 0 (i := no) (rfl) rfl (by omega) (by decide) (upd (S 4) no x) rfl (S' := (va_up S 4 (upd (S 4) no x))) rfl dX2_addSort_95 (fun H locs hW => ?_)
                refine lv_aload_n hx hb dX2_addSort_96 rfl (lv_at hl 0 rfl) ?_
                refine cy_get hC (0) (by decide) hi2 hW (cy_rd (cy_un (by omega)) rfl) rfl 5 (by decide) (hts (.fieldLink RX2 22 "CaskYard" "rooms" "[I") (by decide +kernel)) (fun _ h9 => h9) (v := .ref (ad 5)) rfl dX2_addSort_97 ?_
                refine lv_aload_n hx hb dX2_addSort_100 rfl (lv_at hl 0 rfl) ?_
                refine cy_get hC (0) (by decide) hi2 hW (cy_rd (cy_un (by omega)) rfl) rfl 7 (by decide) (hts (.fieldLink RX2 92 "CaskYard" "sortCount" "I") (by decide +kernel)) (fun _ h9 => h9) (v := .int (S 0 7)) rfl dX2_addSort_101 ?_
                refine cy_top (y := nI no) hno ?_
                refine lv_iload_n hx hb dX2_addSort_104 rfl (lv_at hl 2 rfl) ?_
                refine cy_iast hC (5) (by decide) hW 0 (i := no) (cy_rd (cy_un (by omega)) rfl) rfl (by omega) (by decide) (upd (S 5) no y) rfl (S' := (va_up (va_up S 4 (upd (S 4) no x)) 5 (upd (S 5) no y))) rfl dX2_addSort_105 (fun H locs hW => ?_)
                refine lv_aload_n hx hb dX2_addSort_106 rfl (lv_at hl 0 rfl) ?_
                refine cy_get hC (0) (by decide) hi2 hW (cy_rd ((cy_un (by omega)).trans (cy_un (by omega))) rfl) rfl 6 (by decide) (hts (.fieldLink RX2 25 "CaskYard" "hoopNumbers" "[I") (by decide +kernel)) (fun _ h9 => h9) (v := .ref (ad 6)) rfl dX2_addSort_107 ?_
                refine lv_aload_n hx hb dX2_addSort_110 rfl (lv_at hl 0 rfl) ?_
                refine cy_get hC (0) (by decide) hi2 hW (cy_rd ((cy_un (by omega)).trans (cy_un (by omega))) rfl) rfl 7 (by decide) (hts (.fieldLink RX2 92 "CaskYard" "sortCount" "I") (by decide +kernel)) (fun _ h9 => h9) (v := .int (S 0 7)) rfl dX2_addSort_111 ?_
                refine cy_top (y := nI no) hno ?_
                refine lv_iload_n hx hb dX2_addSort_114 rfl (lv_at hl 3 rfl) ?_
                refine cy_iast hC (6) (by decide) hW 0 (i := no) (cy_rd ((cy_un (by omega)).trans (cy_un (by omega))) rfl) rfl (by omega) (by decide) (upd (S 6) no z) rfl (S' := (va_up (va_up (va_up S 4 (upd (S 4) no x)) 5 (upd (S 5) no y)) 6 (upd (S 6) no z))) rfl dX2_addSort_115 (fun H locs hW => ?_)
                refine lv_aload_n hx hb dX2_addSort_116 rfl (lv_at hl 0 rfl) ?_
                refine lv_dup hx hb dX2_addSort_117 rfl ?_
                refine cy_get hC (0) (by decide) hi2 hW (cy_rd ((cy_un (by omega)).trans ((cy_un (by omega)).trans (cy_un (by omega)))) rfl) rfl 7 (by decide) (hts (.fieldLink RX2 92 "CaskYard" "sortCount" "I") (by decide +kernel)) (fun _ h9 => h9) (v := .int (S 0 7)) rfl dX2_addSort_118 ?_
                refine cy_top (y := nI no) hno ?_
                refine lv_iconst (v := 1) hx hb dX2_addSort_121 (by decide) ?_
                refine lv_iadd hx hb dX2_addSort_122 ?_
                refine cy_top (nI_add no 1) ?_
                refine cy_put hC (0) (by decide) hi2 tyX2 tyX2_ok nmX2 hW (cy_rd ((cy_un (by omega)).trans ((cy_un (by omega)).trans (cy_un (by omega)))) rfl) rfl 7 (by decide) (hts (.fieldLink RX2 92 "CaskYard" "sortCount" "I") (by decide +kernel)) (fun _ h9 => h9) rfl (ty := .int) (by decide +kernel) rfl rfl (Nat.le_of_ble_eq_true rfl) (upd (S 0) 7 (nI (no + 1))) cy_hY7 (S' := (va_up (va_up (va_up (va_up S 4 (upd (S 4) no x)) 5 (upd (S 5) no y)) 6 (upd (S 6) no z)) 0 (upd (S 0) 7 (nI (no + 1))))) rfl dX2_addSort_123 (fun H locs hW => ?_)
                refine lv_aload_n hx hb dX2_addSort_126 rfl (lv_at hl 0 rfl) ?_
                refine cy_get hC (0) (by decide) hi2 hW (cy_rd (cy_us) rfl) rfl 7 (by decide) (hts (.fieldLink RX2 92 "CaskYard" "sortCount" "I") (by decide +kernel)) (fun _ h9 => h9) (v := .int (nI (no + 1))) rfl dX2_addSort_127 ?_
                refine lv_iconst (v := 1) hx hb dX2_addSort_130 (by decide) ?_
                refine lv_isub hx hb dX2_addSort_131 ?_
                refine cy_topv (congrArg Value.int (show (nI (no + 1)) - 1 = nI no from by rw [nI_pred])) ?_
                have hW := cy_castS (show (va_up (va_up (va_up (va_up S 4 (upd (S 4) no x)) 5 (upd (S 5) no y)) 6 (upd (S 6) no z)) 0 (upd (S 0) 7 (nI (no + 1)))) = cy_if (cy_tAo x y z no) (cy_nAo S x y z no) S from Eq.trans (by first | (simp only [cy_nAo, c_4, c_11, c_27, c_33, c_48, c_54, c_73, eq_self, ↓reduceIte]; done) | (simp only [cy_nAo, c_4, c_11, c_27, c_33, c_48, c_54, c_73, eq_self, ↓reduceIte]; rfl) | rfl) (cy_if_n (show cy_tAo x y z no = none from by simp only [cy_tAo, c_4, c_11, c_27, c_33, c_48, c_54, c_73, eq_self, ↓reduceIte])).symm) hW
                exact hE (show cy_tAo x y z no = none from by simp only [cy_tAo, c_4, c_11, c_27, c_33, c_48, c_54, c_73, eq_self, ↓reduceIte]) _ _ _ _ _ _ (Nat.le_of_ble_eq_true rfl) (Nat.le_of_ble_eq_true rfl) hW dX2_addSort_132
              · skip
                have q_73 := cy_nlt (a := no) (b := 6) (by omega) (by omega) c_73
                have hW := cy_castS (show S = cy_if (cy_tAo x y z no) (cy_nAo S x y z no) S from Eq.trans (by first | (simp only [cy_nAo, c_4, c_11, c_27, c_33, c_48, c_54, c_73, eq_self, ↓reduceIte]; done) | (simp only [cy_nAo, c_4, c_11, c_27, c_33, c_48, c_54, c_73, eq_self, ↓reduceIte]; rfl) | rfl) (cy_if_s (show cy_tAo x y z no = some cy_IS from by simp only [cy_tAo, c_4, c_11, c_27, c_33, c_48, c_54, c_73, eq_self, ↓reduceIte])).symm) hW
                exact hT _ _ _ _ 76 _ [] 69 73 95 cy_IS "there are 6 sorts" cy_ok_IS (show cy_tAo x y z no = some cy_IS from by simp only [cy_tAo, c_4, c_11, c_27, c_33, c_48, c_54, c_73, eq_self, ↓reduceIte]) (Nat.le_of_ble_eq_true rfl) (Nat.le_of_ble_eq_true rfl) (Nat.le_of_ble_eq_true rfl) hW (hl.1.trans hml.symm) (by decide +kernel) hkIS hiIS hgIS dX2_addSort_76 dX2_addSort_79 (Or.inl ⟨dX2_addSort_80, dX2_addSort_82, dX2_addSort_85⟩)
            · skip
              have hW := cy_castS (show S = cy_if (cy_tAo x y z no) (cy_nAo S x y z no) S from Eq.trans (by first | (simp only [cy_nAo, c_4, c_11, c_27, c_33, c_48, c_54, eq_self, ↓reduceIte]; done) | (simp only [cy_nAo, c_4, c_11, c_27, c_33, c_48, c_54, eq_self, ↓reduceIte]; rfl) | rfl) (cy_if_s (show cy_tAo x y z no = some cy_IA from by simp only [cy_tAo, c_4, c_11, c_27, c_33, c_48, c_54, eq_self, ↓reduceIte])).symm) hW
              exact hT _ _ _ _ 57 _ [] 57 61 90 cy_IA "hoops is not 2 to 8" cy_ok_IA (show cy_tAo x y z no = some cy_IA from by simp only [cy_tAo, c_4, c_11, c_27, c_33, c_48, c_54, eq_self, ↓reduceIte]) (Nat.le_of_ble_eq_true rfl) (Nat.le_of_ble_eq_true rfl) (Nat.le_of_ble_eq_true rfl) hW (hl.1.trans hml.symm) (by decide +kernel) hkIA hiIA hgIA dX2_addSort_57 dX2_addSort_60 (Or.inl ⟨dX2_addSort_61, dX2_addSort_63, dX2_addSort_66⟩)
        · skip
          have hW := cy_castS (show S = cy_if (cy_tAo x y z no) (cy_nAo S x y z no) S from Eq.trans (by first | (simp only [cy_nAo, c_4, c_11, c_27, c_33, eq_self, ↓reduceIte]; done) | (simp only [cy_nAo, c_4, c_11, c_27, c_33, eq_self, ↓reduceIte]; rfl) | rfl) (cy_if_s (show cy_tAo x y z no = some cy_IA from by simp only [cy_tAo, c_4, c_11, c_27, c_33, eq_self, ↓reduceIte])).symm) hW
          exact hT _ _ _ _ 36 _ [] 57 61 88 cy_IA "room is not 100 to 60000" cy_ok_IA (show cy_tAo x y z no = some cy_IA from by simp only [cy_tAo, c_4, c_11, c_27, c_33, eq_self, ↓reduceIte]) (Nat.le_of_ble_eq_true rfl) (Nat.le_of_ble_eq_true rfl) (Nat.le_of_ble_eq_true rfl) hW (hl.1.trans hml.symm) (by decide +kernel) hkIA hiIA hgIA dX2_addSort_36 dX2_addSort_39 (Or.inl ⟨dX2_addSort_40, dX2_addSort_42, dX2_addSort_45⟩)
    · skip
      have hW := cy_castS (show S = cy_if (cy_tAo x y z no) (cy_nAo S x y z no) S from Eq.trans (by first | (simp only [cy_nAo, c_4, c_11, eq_self, ↓reduceIte]; done) | (simp only [cy_nAo, c_4, c_11, eq_self, ↓reduceIte]; rfl) | rfl) (cy_if_s (show cy_tAo x y z no = some cy_IA from by simp only [cy_tAo, c_4, c_11, eq_self, ↓reduceIte])).symm) hW
      exact hT _ _ _ _ 14 _ [] 57 61 85 cy_IA "girth is not 300 to 1500" cy_ok_IA (show cy_tAo x y z no = some cy_IA from by simp only [cy_tAo, c_4, c_11, eq_self, ↓reduceIte]) (Nat.le_of_ble_eq_true rfl) (Nat.le_of_ble_eq_true rfl) (Nat.le_of_ble_eq_true rfl) hW (hl.1.trans hml.symm) (by decide +kernel) hkIA hiIA hgIA dX2_addSort_14 dX2_addSort_17 (Or.inl ⟨dX2_addSort_18, dX2_addSort_20, dX2_addSort_23⟩)
abbrev rm_X2_choose : Room := { frames := 6, cells := 1, slots := 6, locals := 90 }
set_option maxHeartbeats 4000000 in
set_option maxRecDepth 100000 in
theorem c_X2_choose {l : Launch} {D : va_G} {kI kJ kZ kC : ClassId} {ad : Nat → Nat} {S : Nat → Nat → Int32} {tl : va_W} {Z : Nat → Int64} {ns : Nat} {x y : Int32} (hns : S 0 3 = nI ns) (h60 : ns ≤ 60) {no : Nat} (hno : S 0 7 = nI no) (h6 : no ≤ 6) (hwd : ∀ i, i < ns → 1 ≤ (S 1 i).toNatClampNeg ∧ (S 1 i).toNatClampNeg ≤ 120 ∧ S 1 i = nI (S 1 i).toNatClampNeg) (hgi : ∀ j, j < no → 300 ≤ (S 4 j).toNatClampNeg ∧ (S 4 j).toNatClampNeg ≤ 1500 ∧ S 4 j = nI (S 4 j).toNatClampNeg) : cy_X l yX2_choose wsX2_choose rm_X2_choose D (cy_tys kI kJ kZ kC) [.ref (ad 0), .int x, .int y] (cy_Y kI kJ kC ad S Z tl) (cy_tCh x y no) (some (.int (cy_rCh S Z ns x y))) (cy_Y kI kJ kC ad (cy_if (cy_tCh x y no) (va_up S 9 (cy_fz S Z ns (cy_gi S x)).1) S) (cy_if (cy_tCh x y no) ((cy_fz S Z ns (cy_gi S x)).2) Z) tl) := by
  refine cy_ofX (cc := cX2_choose) (maxL := 5) (ret := (some .int)) (i := .ireturn) (by decide) rfl rfl (Nat.le_of_ble_eq_true rfl) (by decide) (fun _ => (cy_endI rfl)) ?_
  intro p e s m args below meth co Q A ls hC hTh hE hT hW hl
  have hx := hC.1.1; have hb := hC.1.2.1; have hml := hC.1.2.2.1; have hown := hC.1.2.2.2.1; have hts := hC.1.2.2.2.2
  have hl : lv_has ls 5 [(0, .ref (ad 0)), (1, .int x), (2, .int y)] := hl
  have hi2 : ∀ w ∈ u_ws RX2 TX2 17, w ∈ wsX2_choose := by decide +kernel
  have hkIB : Cond.classLink RX2 78 cy_IB ∈ wsX2_choose := by decide +kernel
  have hiIB : Cond.initialized cy_IB ∈ wsX2_choose := by decide +kernel
  have hgIB : ∀ w ∈ (vx_atS RX2 82 cy_IB cy_nm).filter goodWord, w ∈ wsX2_choose := by decide +kernel
  refine lv_aload_n hx hb dX2_choose_0 rfl (lv_at hl 0 rfl) ?_
  refine lv_iload_n hx hb dX2_choose_1 rfl (lv_at hl 1 rfl) ?_
  refine cy_callV (As := [.int x]) (rest := []) (q0 := 0) (ci := 2) hC.1 hC.2.1 hC.2.2 hW (c_X2_isSort (x := x)) (cwV 1 hts gX2_choose_X2_isSort rfl rfl rfl (by decide +kernel) ⟨Nat.le_of_ble_eq_true rfl, Nat.le_of_ble_eq_true rfl⟩) (cy_w_at (by decide) (rfl)) rfl rfl hl.1 rfl (Nat.le_of_ble_eq_true rfl) dX2_choose_2 ⟨Nat.le_of_ble_eq_true rfl, Nat.le_of_ble_eq_true rfl⟩ (k' := 0) (n' := 0) rfl rfl (fun H locs hW => ?_)
  refine cy_topv (show _ = Value.int (cy_rIs x (nI no)) from (congrArg (fun z => Value.int (cy_rIs x z)) hno)) ?_
  refine lv_if_ne (tgt := 18) hx hb dX2_choose_5 (by decide) (fun c_5 => ?_) (fun c_5 => ?_)
  · skip
    obtain ⟨i, hi, rfl⟩ := cy_rIs_t (by omega) c_5
    have cli : (nI i).toNatClampNeg = i := nI_clamp (by omega)
    have hl : lv_has ls 5 [(0, .ref (ad 0)), (1, .int (nI i)), (2, .int y)] := hl
    refine lv_iload_n hx hb dX2_choose_18 rfl (lv_at hl 2 rfl) ?_
    refine lv_if_lt (tgt := 28) hx hb dX2_choose_19 (by decide) (fun c_19 => ?_) (fun c_19 => ?_)
    · skip
      have hW := cy_castS (show S = cy_if (cy_tCh (nI i) y no) (va_up S 9 (cy_fz S Z ns (cy_gi S (nI i))).1) S from Eq.trans (by first | (simp only [cy_gi, c_5, c_19, cli, eq_self, ↓reduceIte]; done) | (simp only [cy_gi, c_5, c_19, cli, eq_self, ↓reduceIte]; rfl) | rfl) (cy_if_s (show cy_tCh (nI i) y no = some cy_IB from by simp only [cy_tCh, c_5, c_19, cli, eq_self, ↓reduceIte])).symm) hW
      have hW := cy_castZ (show Z = cy_if (cy_tCh (nI i) y no) ((cy_fz S Z ns (cy_gi S (nI i))).2) Z from Eq.trans (by first | (simp only [cy_gi, c_5, c_19, cli, eq_self, ↓reduceIte]; done) | (simp only [cy_gi, c_5, c_19, cli, eq_self, ↓reduceIte]; rfl) | rfl) (cy_if_s (show cy_tCh (nI i) y no = some cy_IB from by simp only [cy_tCh, c_5, c_19, cli, eq_self, ↓reduceIte])).symm) hW
      exact hT _ _ _ _ 28 _ [] 78 82 102 cy_IB "index is not 0 to 59" cy_ok_IB (show cy_tCh (nI i) y no = some cy_IB from by simp only [cy_tCh, c_5, c_19, cli, eq_self, ↓reduceIte]) (Nat.le_of_ble_eq_true rfl) (Nat.le_of_ble_eq_true rfl) (Nat.le_of_ble_eq_true rfl) hW (hl.1.trans hml.symm) (by decide +kernel) hkIB hiIB hgIB dX2_choose_28 dX2_choose_31 (Or.inl ⟨dX2_choose_32, dX2_choose_34, dX2_choose_37⟩)
    · skip
      refine lv_iload_n hx hb dX2_choose_22 rfl (lv_at hl 2 rfl) ?_
      refine lv_bipush (v := 60) hx hb dX2_choose_23 (by decide) ?_
      refine lv_icmp_lt (tgt := 38) hx hb dX2_choose_25 (by decide) (fun c_25 => ?_) (fun c_25 => ?_)
      · skip
        refine lv_aload_n hx hb dX2_choose_38 rfl (lv_at hl 0 rfl) ?_
        refine lv_aload_n hx hb dX2_choose_39 rfl (lv_at hl 0 rfl) ?_
        refine cy_get hC (0) (by decide) hi2 hW (rfl) rfl 4 (by decide) (hts (.fieldLink RX2 19 "CaskYard" "girths" "[I") (by decide +kernel)) (fun _ h9 => h9) (v := .ref (ad 4)) rfl dX2_choose_40 ?_
        refine lv_iload_n hx hb dX2_choose_43 rfl (lv_at hl 1 rfl) ?_
        refine cy_iald hC (4) (by decide) hW 0 (i := i) (rfl) rfl (by omega) (by decide) dX2_choose_44 ?_
        refine cy_top (y := nI ((S 4 i).toNatClampNeg)) ((hgi i hi).2.2) ?_
        refine cy_callV (As := [.int (nI ((S 4 i).toNatClampNeg))]) (rest := []) (q0 := 0) (ci := 2) hC.1 hC.2.1 hC.2.2 hW (c_X2_findSet (g := ((S 4 i).toNatClampNeg)) (hgi _ (by assumption)).2.1 (hgi _ (by assumption)).1 (ns := ns) hwd hns (by omega)) (cwV 1 hts gX2_choose_X2_findSet rfl rfl rfl (by decide +kernel) ⟨Nat.le_of_ble_eq_true rfl, Nat.le_of_ble_eq_true rfl⟩) (cy_w_at (by decide) (rfl)) rfl rfl hl.1 rfl (Nat.le_of_ble_eq_true rfl) dX2_choose_45 ⟨Nat.le_of_ble_eq_true rfl, Nat.le_of_ble_eq_true rfl⟩ (k' := 0) (n' := 0) rfl rfl (fun H locs hW => ?_)
        refine lv_lstore_n (lv' := [(3, .long (cy_rFs S Z ns ((S 4 i).toNatClampNeg))), (0, .ref (ad 0)), (1, .int (nI i)), (2, .int y)]) hx hb dX2_choose_48 rfl hl (by decide) rfl (fun ls hl => ?_)
        refine lv_lload_n hx hb dX2_choose_49 rfl (lv_at hl 0 rfl) ?_
        refine lv_ldc2 (v := (-1)) hx hb hown (hts (.constantLong RX2 108 (-1)) (by decide +kernel)) dX2_choose_50 ?_
        refine W.lcmp hx hb dX2_choose_53 ?_
        refine lv_if_ne (tgt := 61) hx hb dX2_choose_54 (by decide) (fun c_54 => ?_) (fun c_54 => ?_)
        · skip
          refine lv_aload_n hx hb dX2_choose_61 rfl (lv_at hl 1 rfl) ?_
          refine lv_lload_n hx hb dX2_choose_62 rfl (lv_at hl 0 rfl) ?_
          refine lv_iload_n hx hb dX2_choose_63 rfl (lv_at hl 3 rfl) ?_
          refine cy_callV (As := [.long (cy_rFs S Z ns ((S 4 i).toNatClampNeg)), .int y]) (rest := []) (q0 := 0) (ci := 2) hC.1 hC.2.1 hC.2.2 hW (c_X2_memberOf (z := (cy_rFs S Z ns ((S 4 i).toNatClampNeg))) (x := y) (ns := ns) hns (by omega)) (cwV 2 hts gX2_choose_X2_memberOf rfl rfl rfl (by decide +kernel) ⟨Nat.le_of_ble_eq_true rfl, Nat.le_of_ble_eq_true rfl⟩) (cy_w_at (by decide) (cy_rd (cy_un (by omega)) rfl)) rfl rfl hl.1 rfl (Nat.le_of_ble_eq_true rfl) dX2_choose_64 ⟨Nat.le_of_ble_eq_true rfl, Nat.le_of_ble_eq_true rfl⟩ (k' := 0) (n' := 0) rfl rfl (fun H locs hW => ?_)
          refine cy_topv (congrArg Value.int (show cy_mo (cy_rFs S Z ns ((S 4 i).toNatClampNeg)) y ns 0 0 = cy_rCh S Z ns (nI i) y from by simp only [cy_rCh, cy_gi, c_5, c_19, c_25, c_54, cli, ↓reduceIte])) ?_
          have hW := cy_castS (show (va_up S 9 ((cy_fz S Z ns ((S 4 i).toNatClampNeg)).1)) = cy_if (cy_tCh (nI i) y no) (va_up S 9 (cy_fz S Z ns (cy_gi S (nI i))).1) S from Eq.trans (by first | (simp only [cy_gi, c_5, c_19, c_25, c_54, cli, eq_self, ↓reduceIte]; done) | (simp only [cy_gi, c_5, c_19, c_25, c_54, cli, eq_self, ↓reduceIte]; rfl) | rfl) (cy_if_n (show cy_tCh (nI i) y no = none from by simp only [cy_tCh, c_5, c_19, c_25, c_54, cli, eq_self, ↓reduceIte])).symm) hW
          have hW := cy_castZ (show (cy_fz S Z ns ((S 4 i).toNatClampNeg)).2 = cy_if (cy_tCh (nI i) y no) ((cy_fz S Z ns (cy_gi S (nI i))).2) Z from Eq.trans (by first | (simp only [cy_gi, c_5, c_19, c_25, c_54, cli, eq_self, ↓reduceIte]; done) | (simp only [cy_gi, c_5, c_19, c_25, c_54, cli, eq_self, ↓reduceIte]; rfl) | rfl) (cy_if_n (show cy_tCh (nI i) y no = none from by simp only [cy_tCh, c_5, c_19, c_25, c_54, cli, eq_self, ↓reduceIte])).symm) hW
          exact hE (show cy_tCh (nI i) y no = none from by simp only [cy_tCh, c_5, c_19, c_25, c_54, cli, eq_self, ↓reduceIte]) _ _ _ _ _ _ (Nat.le_of_ble_eq_true rfl) (Nat.le_of_ble_eq_true rfl) hW dX2_choose_67
        · skip
          refine lv_iconst (v := (-1)) hx hb dX2_choose_57 (by decide) ?_
          refine lv_goto (tgt := 67) hx hb dX2_choose_58 (by decide) ?_
          refine cy_topv (congrArg Value.int (show (-1) = cy_rCh S Z ns (nI i) y from by simp only [cy_rCh, cy_gi, c_5, c_19, c_25, c_54, cli, ↓reduceIte])) ?_
          have hW := cy_castS (show (va_up S 9 ((cy_fz S Z ns ((S 4 i).toNatClampNeg)).1)) = cy_if (cy_tCh (nI i) y no) (va_up S 9 (cy_fz S Z ns (cy_gi S (nI i))).1) S from Eq.trans (by first | (simp only [cy_gi, c_5, c_19, c_25, c_54, cli, eq_self, ↓reduceIte]; done) | (simp only [cy_gi, c_5, c_19, c_25, c_54, cli, eq_self, ↓reduceIte]; rfl) | rfl) (cy_if_n (show cy_tCh (nI i) y no = none from by simp only [cy_tCh, c_5, c_19, c_25, c_54, cli, eq_self, ↓reduceIte])).symm) hW
          have hW := cy_castZ (show (cy_fz S Z ns ((S 4 i).toNatClampNeg)).2 = cy_if (cy_tCh (nI i) y no) ((cy_fz S Z ns (cy_gi S (nI i))).2) Z from Eq.trans (by first | (simp only [cy_gi, c_5, c_19, c_25, c_54, cli, eq_self, ↓reduceIte]; done) | (simp only [cy_gi, c_5, c_19, c_25, c_54, cli, eq_self, ↓reduceIte]; rfl) | rfl) (cy_if_n (show cy_tCh (nI i) y no = none from by simp only [cy_tCh, c_5, c_19, c_25, c_54, cli, eq_self, ↓reduceIte])).symm) hW
          exact hE (show cy_tCh (nI i) y no = none from by simp only [cy_tCh, c_5, c_19, c_25, c_54, cli, eq_self, ↓reduceIte]) _ _ _ _ _ _ (Nat.le_of_ble_eq_true rfl) (Nat.le_of_ble_eq_true rfl) hW dX2_choose_67
      · skip
        have hW := cy_castS (show S = cy_if (cy_tCh (nI i) y no) (va_up S 9 (cy_fz S Z ns (cy_gi S (nI i))).1) S from Eq.trans (by first | (simp only [cy_gi, c_5, c_19, c_25, cli, eq_self, ↓reduceIte]; done) | (simp only [cy_gi, c_5, c_19, c_25, cli, eq_self, ↓reduceIte]; rfl) | rfl) (cy_if_s (show cy_tCh (nI i) y no = some cy_IB from by simp only [cy_tCh, c_5, c_19, c_25, cli, eq_self, ↓reduceIte])).symm) hW
        have hW := cy_castZ (show Z = cy_if (cy_tCh (nI i) y no) ((cy_fz S Z ns (cy_gi S (nI i))).2) Z from Eq.trans (by first | (simp only [cy_gi, c_5, c_19, c_25, cli, eq_self, ↓reduceIte]; done) | (simp only [cy_gi, c_5, c_19, c_25, cli, eq_self, ↓reduceIte]; rfl) | rfl) (cy_if_s (show cy_tCh (nI i) y no = some cy_IB from by simp only [cy_tCh, c_5, c_19, c_25, cli, eq_self, ↓reduceIte])).symm) hW
        exact hT _ _ _ _ 28 _ [] 78 82 102 cy_IB "index is not 0 to 59" cy_ok_IB (show cy_tCh (nI i) y no = some cy_IB from by simp only [cy_tCh, c_5, c_19, c_25, cli, eq_self, ↓reduceIte]) (Nat.le_of_ble_eq_true rfl) (Nat.le_of_ble_eq_true rfl) (Nat.le_of_ble_eq_true rfl) hW (hl.1.trans hml.symm) (by decide +kernel) hkIB hiIB hgIB dX2_choose_28 dX2_choose_31 (Or.inl ⟨dX2_choose_32, dX2_choose_34, dX2_choose_37⟩)
  · skip
    have hW := cy_castS (show S = cy_if (cy_tCh x y no) (va_up S 9 (cy_fz S Z ns (cy_gi S x)).1) S from Eq.trans (by first | (simp only [cy_gi, c_5, eq_self, ↓reduceIte]; done) | (simp only [cy_gi, c_5, eq_self, ↓reduceIte]; rfl) | rfl) (cy_if_s (show cy_tCh x y no = some cy_IB from by simp only [cy_tCh, c_5, eq_self, ↓reduceIte])).symm) hW
    have hW := cy_castZ (show Z = cy_if (cy_tCh x y no) ((cy_fz S Z ns (cy_gi S x)).2) Z from Eq.trans (by first | (simp only [cy_gi, c_5, eq_self, ↓reduceIte]; done) | (simp only [cy_gi, c_5, eq_self, ↓reduceIte]; rfl) | rfl) (cy_if_s (show cy_tCh x y no = some cy_IB from by simp only [cy_tCh, c_5, eq_self, ↓reduceIte])).symm) hW
    exact hT _ _ _ _ 8 _ [] 78 82 100 cy_IB "no such sort" cy_ok_IB (show cy_tCh x y no = some cy_IB from by simp only [cy_tCh, c_5, eq_self, ↓reduceIte]) (Nat.le_of_ble_eq_true rfl) (Nat.le_of_ble_eq_true rfl) (Nat.le_of_ble_eq_true rfl) hW (hl.1.trans hml.symm) (by decide +kernel) hkIB hiIB hgIB dX2_choose_8 dX2_choose_11 (Or.inl ⟨dX2_choose_12, dX2_choose_14, dX2_choose_17⟩)
abbrev rm_X2_drive : Room := { frames := 6, cells := 1, slots := 6, locals := 90 }
set_option maxHeartbeats 4000000 in
set_option maxRecDepth 100000 in
theorem c_X2_drive {l : Launch} {D : va_G} {kI kJ kZ kC : ClassId} {ad : Nat → Nat} {S : Nat → Nat → Int32} {tl : va_W} {Z : Nat → Int64} {x y z : Int32} {nc : Nat} (hnc : S 0 9 = nI nc) (h12 : nc ≤ 12) (hhc : ∀ c, c < nc → (S (3 * c + 11) 4).toNatClampNeg ≤ 8 ∧ S (3 * c + 11) 4 = nI (S (3 * c + 11) 4).toNatClampNeg) : cy_X l yX2_drive wsX2_drive rm_X2_drive D (cy_tys kI kJ kZ kC) [.ref (ad 0), .int x, .int y, .int z] (cy_Y kI kJ kC ad S Z tl) (cy_tDr S x y z nc) (some (.int (cy_mn 9 (S (3 * x.toNatClampNeg + 12) y.toNatClampNeg + z)))) (cy_Y kI kJ kC ad (cy_if (cy_tDr S x y z nc) (cy_nDr S x.toNatClampNeg y.toNatClampNeg z) S) Z tl) := by
  refine cy_ofX (cc := cX2_drive) (maxL := 5) (ret := (some .int)) (i := .ireturn) (by decide) rfl rfl (Nat.le_of_ble_eq_true rfl) (by decide) (fun _ => (cy_endI rfl)) ?_
  intro p e s m args below meth co Q A ls hC hTh hE hT hW hl
  have hx := hC.1.1; have hb := hC.1.2.1; have hml := hC.1.2.2.1; have hown := hC.1.2.2.2.1; have hts := hC.1.2.2.2.2
  have hl : lv_has ls 5 [(0, .ref (ad 0)), (1, .int x), (2, .int y), (3, .int z)] := hl
  have hi1 : ∀ w ∈ u_ws RX1 TX1 11, w ∈ wsX2_drive := by decide +kernel
  have hi2 : ∀ w ∈ u_ws RX2 TX2 17, w ∈ wsX2_drive := by decide +kernel
  have hkIA : Cond.classLink RX2 57 cy_IA ∈ wsX2_drive := by decide +kernel
  have hiIA : Cond.initialized cy_IA ∈ wsX2_drive := by decide +kernel
  have hgIA : ∀ w ∈ (vx_atS RX2 61 cy_IA cy_nm).filter goodWord, w ∈ wsX2_drive := by decide +kernel
  have hkIB : Cond.classLink RX2 78 cy_IB ∈ wsX2_drive := by decide +kernel
  have hiIB : Cond.initialized cy_IB ∈ wsX2_drive := by decide +kernel
  have hgIB : ∀ w ∈ (vx_atS RX2 82 cy_IB cy_nm).filter goodWord, w ∈ wsX2_drive := by decide +kernel
  refine lv_aload_n hx hb dX2_drive_0 rfl (lv_at hl 0 rfl) ?_
  refine lv_iload_n hx hb dX2_drive_1 rfl (lv_at hl 1 rfl) ?_
  refine cy_callV (As := [.int x]) (rest := []) (q0 := 0) (ci := 2) hC.1 hC.2.1 hC.2.2 hW (c_X2_isCask (x := x)) (cwV 1 hts gX2_drive_X2_isCask rfl rfl rfl (by decide +kernel) ⟨Nat.le_of_ble_eq_true rfl, Nat.le_of_ble_eq_true rfl⟩) (cy_w_at (by decide) (rfl)) rfl rfl hl.1 rfl (Nat.le_of_ble_eq_true rfl) dX2_drive_2 ⟨Nat.le_of_ble_eq_true rfl, Nat.le_of_ble_eq_true rfl⟩ (k' := 0) (n' := 0) rfl rfl (fun H locs hW => ?_)
  refine cy_topv (show _ = Value.int (cy_rIs x (nI nc)) from (congrArg (fun z => Value.int (cy_rIs x z)) hnc)) ?_
  refine lv_if_ne (tgt := 18) hx hb dX2_drive_5 (by decide) (fun c_5 => ?_) (fun c_5 => ?_)
  · skip
    obtain ⟨c, hc, rfl⟩ := cy_rIs_t (by omega) c_5
    have clc : (nI c).toNatClampNeg = c := nI_clamp (by omega)
    have hl : lv_has ls 5 [(0, .ref (ad 0)), (1, .int (nI c)), (2, .int y), (3, .int z)] := hl
    refine lv_aload_n hx hb dX2_drive_18 rfl (lv_at hl 0 rfl) ?_
    refine cy_get hC (0) (by decide) hi2 hW (rfl) rfl 8 (by decide) (hts (.fieldLink RX2 30 "CaskYard" "casks" "[LCaskYard$Cask;") (by decide +kernel)) (fun _ h9 => h9) (v := .ref (ad 7)) rfl dX2_drive_19 ?_
    refine lv_iload_n hx hb dX2_drive_22 rfl (lv_at hl 1 rfl) ?_
    refine cy_aald hC (7) (by decide) hW 3 (i := c) (a := ad (3 * c + 11)) (rfl) rfl (by omega) (by decide) rfl dX2_drive_23 ?_
    refine lv_astore (lv' := [(4, .ref (ad (3 * c + 11))), (0, .ref (ad 0)), (1, .int (nI c)), (2, .int y), (3, .int z)]) hx hb dX2_drive_24 hl (by decide) rfl (fun ls hl => ?_)
    refine lv_iload_n hx hb dX2_drive_26 rfl (lv_at hl 3 rfl) ?_
    refine lv_if_lt (tgt := 39) hx hb dX2_drive_27 (by decide) (fun c_27 => ?_) (fun c_27 => ?_)
    · skip
      have hW := cy_castS (show S = cy_if (cy_tDr S (nI c) y z nc) (cy_nDr S (nI c).toNatClampNeg y.toNatClampNeg z) S from Eq.trans (by first | (simp only [cy_nDr, cy_dT, c_5, c_27, clc, eq_self, ↓reduceIte]; done) | (simp only [cy_nDr, cy_dT, c_5, c_27, clc, eq_self, ↓reduceIte]; rfl) | rfl) (cy_if_s (show cy_tDr S (nI c) y z nc = some cy_IB from by simp only [cy_tDr, c_5, c_27, clc, eq_self, ↓reduceIte])).symm) hW
      exact hT _ _ _ _ 39 _ [] 78 82 149 cy_IB "no such hoop" cy_ok_IB (show cy_tDr S (nI c) y z nc = some cy_IB from by simp only [cy_tDr, c_5, c_27, clc, eq_self, ↓reduceIte]) (Nat.le_of_ble_eq_true rfl) (Nat.le_of_ble_eq_true rfl) (Nat.le_of_ble_eq_true rfl) hW (hl.1.trans hml.symm) (by decide +kernel) hkIB hiIB hgIB dX2_drive_39 dX2_drive_42 (Or.inl ⟨dX2_drive_43, dX2_drive_45, dX2_drive_48⟩)
    · skip
      refine lv_iload_n hx hb dX2_drive_30 rfl (lv_at hl 3 rfl) ?_
      refine lv_aload hx hb dX2_drive_31 (lv_at hl 0 rfl) ?_
      refine cy_get hC (3 * c + 11) (by omega) hi1 hW (cy_eY_o) rfl 4 (by decide) (hts (.fieldLink RX2 146 "CaskYard$Cask" "hoops" "I") (by decide +kernel)) (fun _ h9 => h9) (v := .int (S (3 * c + 11) 4)) rfl dX2_drive_33 ?_
      refine lv_icmp_lt (tgt := 49) hx hb dX2_drive_36 (by decide) (fun c_36 => ?_) (fun c_36 => ?_)
      · skip
        obtain ⟨i, hi, rfl⟩ := cy_rng (hhc _ hc).2 (by have := (hhc _ hc).1; omega) c_27 c_36
        have cli : (nI i).toNatClampNeg = i := nI_clamp (by have := (hhc _ hc).1; omega)
        have hl : lv_has ls 5 [(4, .ref (ad (3 * c + 11))), (0, .ref (ad 0)), (1, .int (nI c)), (2, .int (nI i)), (3, .int z)] := hl
        have hi8 : i < 8 := Nat.lt_of_lt_of_le hi (hhc _ hc).1
        refine lv_iload_n hx hb dX2_drive_49 rfl (lv_at hl 4 rfl) ?_
        refine lv_iconst (v := 1) hx hb dX2_drive_50 (by decide) ?_
        refine lv_icmp_lt (tgt := 60) hx hb dX2_drive_51 (by decide) (fun c_51 => ?_) (fun c_51 => ?_)
        · skip
          have hW := cy_castS (show S = cy_if (cy_tDr S (nI c) (nI i) z nc) (cy_nDr S (nI c).toNatClampNeg (nI i).toNatClampNeg z) S from Eq.trans (by first | (simp only [cy_nDr, cy_dT, c_5, c_27, c_36, c_51, clc, cli, eq_self, ↓reduceIte]; done) | (simp only [cy_nDr, cy_dT, c_5, c_27, c_36, c_51, clc, cli, eq_self, ↓reduceIte]; rfl) | rfl) (cy_if_s (show cy_tDr S (nI c) (nI i) z nc = some cy_IA from by simp only [cy_tDr, c_5, c_27, c_36, c_51, clc, cli, eq_self, ↓reduceIte])).symm) hW
          exact hT _ _ _ _ 60 _ [] 57 61 151 cy_IA "by is not 1 to 9" cy_ok_IA (show cy_tDr S (nI c) (nI i) z nc = some cy_IA from by simp only [cy_tDr, c_5, c_27, c_36, c_51, clc, cli, eq_self, ↓reduceIte]) (Nat.le_of_ble_eq_true rfl) (Nat.le_of_ble_eq_true rfl) (Nat.le_of_ble_eq_true rfl) hW (hl.1.trans hml.symm) (by decide +kernel) hkIA hiIA hgIA dX2_drive_60 dX2_drive_63 (Or.inl ⟨dX2_drive_64, dX2_drive_66, dX2_drive_69⟩)
        · skip
          refine lv_iload_n hx hb dX2_drive_54 rfl (lv_at hl 4 rfl) ?_
          refine lv_bipush (v := 9) hx hb dX2_drive_55 (by decide) ?_
          refine lv_icmp_le (tgt := 70) hx hb dX2_drive_57 (by decide) (fun c_57 => ?_) (fun c_57 => ?_)
          · skip
            refine lv_aload hx hb dX2_drive_70 (lv_at hl 0 rfl) ?_
            refine cy_get hC (3 * c + 11) (by omega) hi1 hW (cy_eY_o) rfl 9 (by decide) (hts (.fieldLink RX2 153 "CaskYard$Cask" "tensions" "[I") (by decide +kernel)) (fun _ h9 => h9) (v := .ref (ad (3 * c + 12))) rfl dX2_drive_72 ?_
            refine lv_iload_n hx hb dX2_drive_75 rfl (lv_at hl 3 rfl) ?_
            refine lv_bipush (v := 9) hx hb dX2_drive_76 (by decide) ?_
            refine lv_aload hx hb dX2_drive_78 (lv_at hl 0 rfl) ?_
            refine cy_get hC (3 * c + 11) (by omega) hi1 hW (cy_eY_o) rfl 9 (by decide) (hts (.fieldLink RX2 153 "CaskYard$Cask" "tensions" "[I") (by decide +kernel)) (fun _ h9 => h9) (v := .ref (ad (3 * c + 12))) rfl dX2_drive_80 ?_
            refine lv_iload_n hx hb dX2_drive_83 rfl (lv_at hl 3 rfl) ?_
            refine cy_iald hC (3 * c + 12) (by omega) hW 0 (i := i) (cy_eY_t) rfl (by omega) (by decide) dX2_drive_84 ?_
            refine lv_iload_n hx hb dX2_drive_85 rfl (lv_at hl 4 rfl) ?_
            refine lv_iadd hx hb dX2_drive_86 ?_
            refine va_mmin hx hb (hml.trans hl.1.symm) hown (hts (.methodLink RX2 156 Lib.Math.min.name) (by decide +kernel)) (hts (.static Lib.Math.min.name) (by decide +kernel)) (hts (.initialized "java/lang/Math") (by decide +kernel)) (hts (.code Lib.Math.min.name Lib.Math.min.code 2 (some .int)) (by decide +kernel)) (Nat.le_of_ble_eq_true rfl) (Nat.le_of_ble_eq_true rfl) (Nat.le_of_ble_eq_true rfl) (Nat.le_of_ble_eq_true rfl) dX2_drive_87 ?_
            refine cy_topv (show _ = Value.int (cy_mn 9 ((S (3 * c + 12) i) + z)) from rfl) ?_
            refine cy_iast hC (3 * c + 12) (by omega) hW 0 (i := i) (cy_eY_t) rfl (by omega) (by decide) (upd (S (3 * c + 12)) i (cy_mn 9 ((S (3 * c + 12) i) + z))) cy_eY_t.symm (S' := (va_up S (3 * c + 12) (upd (S (3 * c + 12)) i (cy_mn 9 ((S (3 * c + 12) i) + z))))) rfl dX2_drive_90 (fun H locs hW => ?_)
            refine lv_aload hx hb dX2_drive_91 (lv_at hl 0 rfl) ?_
            refine cy_callV (As := []) (rest := []) (q0 := 3 * c + 11) (ci := 1) hC.1 hC.2.1 hC.2.2 hW (c_X1_allTensions (c := c) (by omega)) (cwV 0 hts gX2_drive_X1_allTensions rfl rfl rfl (by decide +kernel) ⟨Nat.le_of_ble_eq_true rfl, Nat.le_of_ble_eq_true rfl⟩) (cy_w_at (by omega) (cy_rd (cy_un (by omega)) cy_eY_o)) rfl rfl hl.1 rfl (Nat.le_of_ble_eq_true rfl) dX2_drive_93 ⟨Nat.le_of_ble_eq_true rfl, Nat.le_of_ble_eq_true rfl⟩ (k' := 0) (n' := 0) rfl rfl (fun H locs hW => ?_)
            refine cy_topv (show _ = Value.int (cy_sm (upd (S (3 * c + 12)) i (cy_mn 9 ((S (3 * c + 12) i) + z))) 8) from by rw [cy_us]) ?_
            refine lv_iconst (v := 5) hx hb dX2_drive_96 (by decide) ?_
            refine lv_aload hx hb dX2_drive_97 (lv_at hl 0 rfl) ?_
            refine cy_get hC (3 * c + 11) (by omega) hi1 hW (cy_rd (cy_un (by omega)) cy_eY_o) rfl 4 (by decide) (hts (.fieldLink RX2 146 "CaskYard$Cask" "hoops" "I") (by decide +kernel)) (fun _ h9 => h9) (v := .int (S (3 * c + 11) 4)) rfl dX2_drive_99 ?_
            refine lv_imul hx hb dX2_drive_102 ?_
            refine lv_icmp_le (tgt := 117) hx hb dX2_drive_103 (by decide) (fun c_103 => ?_) (fun c_103 => ?_)
            · skip
              refine lv_aload hx hb dX2_drive_117 (lv_at hl 0 rfl) ?_
              refine cy_get hC (3 * c + 11) (by omega) hi1 hW (cy_rd (cy_un (by omega)) cy_eY_o) rfl 9 (by decide) (hts (.fieldLink RX2 153 "CaskYard$Cask" "tensions" "[I") (by decide +kernel)) (fun _ h9 => h9) (v := .ref (ad (3 * c + 12))) rfl dX2_drive_119 ?_
              refine lv_iload_n hx hb dX2_drive_122 rfl (lv_at hl 3 rfl) ?_
              refine cy_iald hC (3 * c + 12) (by omega) hW 0 (i := i) (cy_rd (cy_us) cy_eY_t) rfl (by omega) (by decide) dX2_drive_123 ?_
              refine cy_topv (congrArg Value.int (show (upd (S (3 * c + 12)) i (cy_mn 9 ((S (3 * c + 12) i) + z))) i = cy_mn 9 (S (3 * (nI c).toNatClampNeg + 12) (nI i).toNatClampNeg + z) from by simp only [c_5, c_27, c_36, c_51, c_57, c_103, clc, cli]; exact pk_us)) ?_
              have hW := cy_castS (show (va_up S (3 * c + 12) (upd (S (3 * c + 12)) i (cy_mn 9 ((S (3 * c + 12) i) + z)))) = cy_if (cy_tDr S (nI c) (nI i) z nc) (cy_nDr S (nI c).toNatClampNeg (nI i).toNatClampNeg z) S from Eq.trans (by first | (simp only [cy_nDr, cy_dT, c_5, c_27, c_36, c_51, c_57, c_103, clc, cli, eq_self, ↓reduceIte]; done) | (simp only [cy_nDr, cy_dT, c_5, c_27, c_36, c_51, c_57, c_103, clc, cli, eq_self, ↓reduceIte]; rfl) | rfl) (cy_if_n (show cy_tDr S (nI c) (nI i) z nc = none from by simp only [cy_tDr, c_5, c_27, c_36, c_51, c_57, c_103, clc, cli, eq_self, ↓reduceIte])).symm) hW
              exact hE (show cy_tDr S (nI c) (nI i) z nc = none from by simp only [cy_tDr, c_5, c_27, c_36, c_51, c_57, c_103, clc, cli, eq_self, ↓reduceIte]) _ _ _ _ _ _ (Nat.le_of_ble_eq_true rfl) (Nat.le_of_ble_eq_true rfl) hW dX2_drive_124
            · skip
              refine lv_aload hx hb dX2_drive_106 (lv_at hl 0 rfl) ?_
              refine lv_dup hx hb dX2_drive_108 rfl ?_
              refine cy_get hC (3 * c + 11) (by omega) hi1 hW (cy_rd (cy_un (by omega)) cy_eY_o) rfl 3 (by decide) (hts (.fieldLink RX2 138 "CaskYard$Cask" "flaws" "I") (by decide +kernel)) (fun _ h9 => h9) (v := .int (S (3 * c + 11) 3)) rfl dX2_drive_109 ?_
              refine lv_iconst (v := 1) hx hb dX2_drive_112 (by decide) ?_
              refine lv_iadd hx hb dX2_drive_113 ?_
              refine cy_put hC (3 * c + 11) (by omega) hi1 tyX1 tyX1_ok nmX1 hW (cy_rd (cy_un (by omega)) cy_eY_o) rfl 3 (by decide) (hts (.fieldLink RX2 138 "CaskYard$Cask" "flaws" "I") (by decide +kernel)) (fun _ h9 => h9) rfl (ty := .int) (by decide +kernel) rfl rfl (Nat.le_of_ble_eq_true rfl) (upd (S (3 * c + 11)) 3 ((S (3 * c + 11) 3) + 1)) cy_hC3 (S' := (va_up (va_up S (3 * c + 12) (upd (S (3 * c + 12)) i (cy_mn 9 ((S (3 * c + 12) i) + z)))) (3 * c + 11) (upd (S (3 * c + 11)) 3 ((S (3 * c + 11) 3) + 1)))) rfl dX2_drive_114 (fun H locs hW => ?_)
              refine lv_aload hx hb dX2_drive_117 (lv_at hl 0 rfl) ?_
              refine cy_get hC (3 * c + 11) (by omega) hi1 hW (cy_rd (cy_us) cy_eY_o) rfl 9 (by decide) (hts (.fieldLink RX2 153 "CaskYard$Cask" "tensions" "[I") (by decide +kernel)) (fun _ h9 => h9) (v := .ref (ad (3 * c + 12))) rfl dX2_drive_119 ?_
              refine lv_iload_n hx hb dX2_drive_122 rfl (lv_at hl 3 rfl) ?_
              refine cy_iald hC (3 * c + 12) (by omega) hW 0 (i := i) (cy_rd ((cy_un (by omega)).trans cy_us) cy_eY_t) rfl (by omega) (by decide) dX2_drive_123 ?_
              refine cy_topv (congrArg Value.int (show (upd (S (3 * c + 12)) i (cy_mn 9 ((S (3 * c + 12) i) + z))) i = cy_mn 9 (S (3 * (nI c).toNatClampNeg + 12) (nI i).toNatClampNeg + z) from by simp only [c_5, c_27, c_36, c_51, c_57, c_103, clc, cli]; exact pk_us)) ?_
              have hW := cy_castS (show (va_up (va_up S (3 * c + 12) (upd (S (3 * c + 12)) i (cy_mn 9 ((S (3 * c + 12) i) + z)))) (3 * c + 11) (upd (S (3 * c + 11)) 3 ((S (3 * c + 11) 3) + 1))) = cy_if (cy_tDr S (nI c) (nI i) z nc) (cy_nDr S (nI c).toNatClampNeg (nI i).toNatClampNeg z) S from Eq.trans (by first | (simp only [cy_nDr, cy_dT, c_5, c_27, c_36, c_51, c_57, c_103, clc, cli, eq_self, ↓reduceIte]; done) | (simp only [cy_nDr, cy_dT, c_5, c_27, c_36, c_51, c_57, c_103, clc, cli, eq_self, ↓reduceIte]; rfl) | rfl) (cy_if_n (show cy_tDr S (nI c) (nI i) z nc = none from by simp only [cy_tDr, c_5, c_27, c_36, c_51, c_57, c_103, clc, cli, eq_self, ↓reduceIte])).symm) hW
              exact hE (show cy_tDr S (nI c) (nI i) z nc = none from by simp only [cy_tDr, c_5, c_27, c_36, c_51, c_57, c_103, clc, cli, eq_self, ↓reduceIte]) _ _ _ _ _ _ (Nat.le_of_ble_eq_true rfl) (Nat.le_of_ble_eq_true rfl) hW dX2_drive_124
          · skip
            have hW := cy_castS (show S = cy_if (cy_tDr S (nI c) (nI i) z nc) (cy_nDr S (nI c).toNatClampNeg (nI i).toNatClampNeg z) S from Eq.trans (by first | (simp only [cy_nDr, cy_dT, c_5, c_27, c_36, c_51, c_57, clc, cli, eq_self, ↓reduceIte]; done) | (simp only [cy_nDr, cy_dT, c_5, c_27, c_36, c_51, c_57, clc, cli, eq_self, ↓reduceIte]; rfl) | rfl) (cy_if_s (show cy_tDr S (nI c) (nI i) z nc = some cy_IA from by simp only [cy_tDr, c_5, c_27, c_36, c_51, c_57, clc, cli, eq_self, ↓reduceIte])).symm) hW
            exact hT _ _ _ _ 60 _ [] 57 61 151 cy_IA "by is not 1 to 9" cy_ok_IA (show cy_tDr S (nI c) (nI i) z nc = some cy_IA from by simp only [cy_tDr, c_5, c_27, c_36, c_51, c_57, clc, cli, eq_self, ↓reduceIte]) (Nat.le_of_ble_eq_true rfl) (Nat.le_of_ble_eq_true rfl) (Nat.le_of_ble_eq_true rfl) hW (hl.1.trans hml.symm) (by decide +kernel) hkIA hiIA hgIA dX2_drive_60 dX2_drive_63 (Or.inl ⟨dX2_drive_64, dX2_drive_66, dX2_drive_69⟩)
      · skip
        have hW := cy_castS (show S = cy_if (cy_tDr S (nI c) y z nc) (cy_nDr S (nI c).toNatClampNeg y.toNatClampNeg z) S from Eq.trans (by first | (simp only [cy_nDr, cy_dT, c_5, c_27, c_36, clc, eq_self, ↓reduceIte]; done) | (simp only [cy_nDr, cy_dT, c_5, c_27, c_36, clc, eq_self, ↓reduceIte]; rfl) | rfl) (cy_if_s (show cy_tDr S (nI c) y z nc = some cy_IB from by simp only [cy_tDr, c_5, c_27, c_36, clc, eq_self, ↓reduceIte])).symm) hW
        exact hT _ _ _ _ 39 _ [] 78 82 149 cy_IB "no such hoop" cy_ok_IB (show cy_tDr S (nI c) y z nc = some cy_IB from by simp only [cy_tDr, c_5, c_27, c_36, clc, eq_self, ↓reduceIte]) (Nat.le_of_ble_eq_true rfl) (Nat.le_of_ble_eq_true rfl) (Nat.le_of_ble_eq_true rfl) hW (hl.1.trans hml.symm) (by decide +kernel) hkIB hiIB hgIB dX2_drive_39 dX2_drive_42 (Or.inl ⟨dX2_drive_43, dX2_drive_45, dX2_drive_48⟩)
  · skip
    have hW := cy_castS (show S = cy_if (cy_tDr S x y z nc) (cy_nDr S x.toNatClampNeg y.toNatClampNeg z) S from Eq.trans (by first | (simp only [cy_nDr, cy_dT, c_5, eq_self, ↓reduceIte]; done) | (simp only [cy_nDr, cy_dT, c_5, eq_self, ↓reduceIte]; rfl) | rfl) (cy_if_s (show cy_tDr S x y z nc = some cy_IB from by simp only [cy_tDr, c_5, eq_self, ↓reduceIte])).symm) hW
    exact hT _ _ _ _ 8 _ [] 78 82 144 cy_IB "no such cask" cy_ok_IB (show cy_tDr S x y z nc = some cy_IB from by simp only [cy_tDr, c_5, eq_self, ↓reduceIte]) (Nat.le_of_ble_eq_true rfl) (Nat.le_of_ble_eq_true rfl) (Nat.le_of_ble_eq_true rfl) hW (hl.1.trans hml.symm) (by decide +kernel) hkIB hiIB hgIB dX2_drive_8 dX2_drive_11 (Or.inl ⟨dX2_drive_12, dX2_drive_14, dX2_drive_17⟩)
abbrev rm_X2_mend : Room := { frames := 6, cells := 1, slots := 6, locals := 90 }
set_option maxHeartbeats 4000000 in
set_option maxRecDepth 100000 in
theorem c_X2_mend {l : Launch} {D : va_G} {kI kJ kZ kC : ClassId} {ad : Nat → Nat} {S : Nat → Nat → Int32} {tl : va_W} {Z : Nat → Int64} {x y : Int32} {ns : Nat} (hns : S 0 3 = nI ns) (h60 : ns ≤ 60) {nc : Nat} (hnc : S 0 9 = nI nc) (h12 : nc ≤ 12) : cy_X l yX2_mend wsX2_mend rm_X2_mend D (cy_tys kI kJ kZ kC) [.ref (ad 0), .int x, .int y] (cy_Y kI kJ kC ad S Z tl) (cy_tMe S x y ns nc) (some (.int (S (3 * x.toNatClampNeg + 11) 3))) (cy_Y kI kJ kC ad (cy_if (cy_tMe S x y ns nc) (cy_nMe S x.toNatClampNeg y.toNatClampNeg (cy_lst S x ns).toNatClampNeg) S) Z tl) := by
  refine cy_ofX (cc := cX2_mend) (maxL := 6) (ret := (some .int)) (i := .ireturn) (by decide) rfl rfl (Nat.le_of_ble_eq_true rfl) (by decide) (fun _ => (cy_endI rfl)) ?_
  intro p e s m args below meth co Q A ls hC hTh hE hT hW hl
  have hx := hC.1.1; have hb := hC.1.2.1; have hml := hC.1.2.2.1; have hown := hC.1.2.2.2.1; have hts := hC.1.2.2.2.2
  have hl : lv_has ls 6 [(0, .ref (ad 0)), (1, .int x), (2, .int y)] := hl
  have hi1 : ∀ w ∈ u_ws RX1 TX1 11, w ∈ wsX2_mend := by decide +kernel
  have hi2 : ∀ w ∈ u_ws RX2 TX2 17, w ∈ wsX2_mend := by decide +kernel
  have hkIS : Cond.classLink RX2 69 cy_IS ∈ wsX2_mend := by decide +kernel
  have hiIS : Cond.initialized cy_IS ∈ wsX2_mend := by decide +kernel
  have hgIS : ∀ w ∈ (vx_atS RX2 73 cy_IS cy_nm).filter goodWord, w ∈ wsX2_mend := by decide +kernel
  have hkIB : Cond.classLink RX2 78 cy_IB ∈ wsX2_mend := by decide +kernel
  have hiIB : Cond.initialized cy_IB ∈ wsX2_mend := by decide +kernel
  have hgIB : ∀ w ∈ (vx_atS RX2 82 cy_IB cy_nm).filter goodWord, w ∈ wsX2_mend := by decide +kernel
  refine lv_aload_n hx hb dX2_mend_0 rfl (lv_at hl 0 rfl) ?_
  refine lv_iload_n hx hb dX2_mend_1 rfl (lv_at hl 1 rfl) ?_
  refine cy_callV (As := [.int x]) (rest := []) (q0 := 0) (ci := 2) hC.1 hC.2.1 hC.2.2 hW (c_X2_isCask (x := x)) (cwV 1 hts gX2_mend_X2_isCask rfl rfl rfl (by decide +kernel) ⟨Nat.le_of_ble_eq_true rfl, Nat.le_of_ble_eq_true rfl⟩) (cy_w_at (by decide) (rfl)) rfl rfl hl.1 rfl (Nat.le_of_ble_eq_true rfl) dX2_mend_2 ⟨Nat.le_of_ble_eq_true rfl, Nat.le_of_ble_eq_true rfl⟩ (k' := 0) (n' := 0) rfl rfl (fun H locs hW => ?_)
  refine cy_topv (show _ = Value.int (cy_rIs x (nI nc)) from (congrArg (fun z => Value.int (cy_rIs x z)) hnc)) ?_
  refine lv_if_ne (tgt := 18) hx hb dX2_mend_5 (by decide) (fun c_5 => ?_) (fun c_5 => ?_)
  · skip
    obtain ⟨c, hc, rfl⟩ := cy_rIs_t (by omega) c_5
    have clc : (nI c).toNatClampNeg = c := nI_clamp (by omega)
    have hl : lv_has ls 6 [(0, .ref (ad 0)), (1, .int (nI c)), (2, .int y)] := hl
    refine lv_aload_n hx hb dX2_mend_18 rfl (lv_at hl 0 rfl) ?_
    refine lv_iload_n hx hb dX2_mend_19 rfl (lv_at hl 2 rfl) ?_
    refine cy_callV (As := [.int y]) (rest := []) (q0 := 0) (ci := 2) hC.1 hC.2.1 hC.2.2 hW (c_X2_isStave (x := y)) (cwV 1 hts gX2_mend_X2_isStave rfl rfl rfl (by decide +kernel) ⟨Nat.le_of_ble_eq_true rfl, Nat.le_of_ble_eq_true rfl⟩) (cy_w_at (by decide) (rfl)) rfl rfl hl.1 rfl (Nat.le_of_ble_eq_true rfl) dX2_mend_20 ⟨Nat.le_of_ble_eq_true rfl, Nat.le_of_ble_eq_true rfl⟩ (k' := 0) (n' := 0) rfl rfl (fun H locs hW => ?_)
    refine cy_topv (show _ = Value.int (cy_rIs y (nI ns)) from (congrArg (fun z => Value.int (cy_rIs y z)) hns)) ?_
    refine lv_if_ne (tgt := 36) hx hb dX2_mend_23 (by decide) (fun c_23 => ?_) (fun c_23 => ?_)
    · skip
      obtain ⟨d, hd, rfl⟩ := cy_rIs_t (by omega) c_23
      have cld : (nI d).toNatClampNeg = d := nI_clamp (by omega)
      have hl : lv_has ls 6 [(0, .ref (ad 0)), (1, .int (nI c)), (2, .int (nI d))] := hl
      refine lv_aload_n hx hb dX2_mend_36 rfl (lv_at hl 0 rfl) ?_
      refine cy_get hC (0) (by decide) hi2 hW (rfl) rfl 8 (by decide) (hts (.fieldLink RX2 30 "CaskYard" "casks" "[LCaskYard$Cask;") (by decide +kernel)) (fun _ h9 => h9) (v := .ref (ad 7)) rfl dX2_mend_37 ?_
      refine lv_iload_n hx hb dX2_mend_40 rfl (lv_at hl 1 rfl) ?_
      refine cy_aald hC (7) (by decide) hW 3 (i := c) (a := ad (3 * c + 11)) (rfl) rfl (by omega) (by decide) rfl dX2_mend_41 ?_
      refine lv_astore_n (lv' := [(3, .ref (ad (3 * c + 11))), (0, .ref (ad 0)), (1, .int (nI c)), (2, .int (nI d))]) hx hb dX2_mend_42 rfl hl (by decide) rfl (fun ls hl => ?_)
      refine lv_aload_n hx hb dX2_mend_43 rfl (lv_at hl 1 rfl) ?_
      refine lv_iload_n hx hb dX2_mend_44 rfl (lv_at hl 2 rfl) ?_
      refine cy_callV (As := [.int (nI c)]) (rest := []) (q0 := 0) (ci := 2) hC.1 hC.2.1 hC.2.2 hW (c_X2_lastStaveIn (x := (nI c)) (ns := ns) hns (by omega)) (cwV 1 hts gX2_mend_X2_lastStaveIn rfl rfl rfl (by decide +kernel) ⟨Nat.le_of_ble_eq_true rfl, Nat.le_of_ble_eq_true rfl⟩) (cy_w_at (by decide) (rfl)) rfl rfl hl.1 rfl (Nat.le_of_ble_eq_true rfl) dX2_mend_45 ⟨Nat.le_of_ble_eq_true rfl, Nat.le_of_ble_eq_true rfl⟩ (k' := 0) (n' := 0) rfl rfl (fun H locs hW => ?_)
      refine lv_istore (lv' := [(4, .int (cy_lst S (nI c) ns)), (3, .ref (ad (3 * c + 11))), (0, .ref (ad 0)), (1, .int (nI c)), (2, .int (nI d))]) hx hb dX2_mend_48 hl (by decide) rfl (fun ls hl => ?_)
      refine lv_aload_n hx hb dX2_mend_50 rfl (lv_at hl 1 rfl) ?_
      refine cy_get hC (3 * c + 11) (by omega) hi1 hW (cy_eY_o) rfl 2 (by decide) (hts (.fieldLink RX2 127 "CaskYard$Cask" "sound" "Z") (by decide +kernel)) (fun _ h9 => h9) (v := .int (S (3 * c + 11) 2)) rfl dX2_mend_51 ?_
      refine lv_if_eq (tgt := 63) hx hb dX2_mend_54 (by decide) (fun c_54 => ?_) (fun c_54 => ?_)
      · skip
        have hW := cy_castS (show S = cy_if (cy_tMe S (nI c) (nI d) ns nc) (cy_nMe S (nI c).toNatClampNeg (nI d).toNatClampNeg (cy_lst S (nI c) ns).toNatClampNeg) S from Eq.trans (by first | (simp only [cy_nMe, c_5, c_23, c_54, clc, cld, eq_self, ↓reduceIte]; done) | (simp only [cy_nMe, c_5, c_23, c_54, clc, cld, eq_self, ↓reduceIte]; rfl) | rfl) (cy_if_s (show cy_tMe S (nI c) (nI d) ns nc = some cy_IS from by simp only [cy_tMe, c_5, c_23, c_54, clc, cld, eq_self, ↓reduceIte])).symm) hW
        exact hT _ _ _ _ 63 _ [] 69 73 170 cy_IS "the cask is broken up" cy_ok_IS (show cy_tMe S (nI c) (nI d) ns nc = some cy_IS from by simp only [cy_tMe, c_5, c_23, c_54, clc, cld, eq_self, ↓reduceIte]) (Nat.le_of_ble_eq_true rfl) (Nat.le_of_ble_eq_true rfl) (Nat.le_of_ble_eq_true rfl) hW (hl.1.trans hml.symm) (by decide +kernel) hkIS hiIS hgIS dX2_mend_63 dX2_mend_66 (Or.inl ⟨dX2_mend_67, dX2_mend_69, dX2_mend_72⟩)
      · skip
        refine lv_iload hx hb dX2_mend_57 (lv_at hl 0 rfl) ?_
        refine lv_iconst (v := (-1)) hx hb dX2_mend_59 (by decide) ?_
        refine lv_icmp_ne (tgt := 73) hx hb dX2_mend_60 (by decide) (fun c_60 => ?_) (fun c_60 => ?_)
        · skip
          obtain ⟨k, hk, ek⟩ := cy_lst_in c_60
          have clk : (cy_lst S (nI c) ns).toNatClampNeg = k := by rw [ek]; exact nI_clamp (by omega)
          rw [ek] at hl
          refine lv_aload_n hx hb dX2_mend_73 rfl (lv_at hl 1 rfl) ?_
          refine cy_callV (As := []) (rest := []) (q0 := 3 * c + 11) (ci := 1) hC.1 hC.2.1 hC.2.2 hW (c_X1_held (c := c) (by omega)) (cwV 0 hts gX2_mend_X1_held rfl rfl rfl (by decide +kernel) ⟨Nat.le_of_ble_eq_true rfl, Nat.le_of_ble_eq_true rfl⟩) (cy_w_at (by omega) (cy_eY_o)) rfl rfl hl.1 rfl (Nat.le_of_ble_eq_true rfl) dX2_mend_74 ⟨Nat.le_of_ble_eq_true rfl, Nat.le_of_ble_eq_true rfl⟩ (k' := 0) (n' := 0) rfl rfl (fun H locs hW => ?_)
          refine lv_if_le (tgt := 90) hx hb dX2_mend_77 (by decide) (fun c_77 => ?_) (fun c_77 => ?_)
          · skip
            refine lv_aload_n hx hb dX2_mend_90 rfl (lv_at hl 2 rfl) ?_
            refine cy_get hC (0) (by decide) hi2 hW (rfl) rfl 2 (by decide) (hts (.fieldLink RX2 16 "CaskYard" "places" "[I") (by decide +kernel)) (fun _ h9 => h9) (v := .ref (ad 3)) rfl dX2_mend_91 ?_
            refine lv_iload_n hx hb dX2_mend_94 rfl (lv_at hl 4 rfl) ?_
            refine cy_iald hC (3) (by decide) hW 0 (i := d) (rfl) rfl (by omega) (by decide) dX2_mend_95 ?_
            refine lv_iconst (v := (-1)) hx hb dX2_mend_96 (by decide) ?_
            refine lv_icmp_eq (tgt := 110) hx hb dX2_mend_97 (by decide) (fun c_97 => ?_) (fun c_97 => ?_)
            · skip
              refine lv_aload_n hx hb dX2_mend_110 rfl (lv_at hl 2 rfl) ?_
              refine cy_get hC (0) (by decide) hi2 hW (rfl) rfl 0 (by decide) (hts (.fieldLink RX2 9 "CaskYard" "widths" "[I") (by decide +kernel)) (fun _ h9 => h9) (v := .ref (ad 1)) rfl dX2_mend_111 ?_
              refine lv_iload_n hx hb dX2_mend_114 rfl (lv_at hl 4 rfl) ?_
              refine cy_iald hC (1) (by decide) hW 0 (i := d) (rfl) rfl (by omega) (by decide) dX2_mend_115 ?_
              refine lv_aload_n hx hb dX2_mend_116 rfl (lv_at hl 2 rfl) ?_
              refine cy_get hC (0) (by decide) hi2 hW (rfl) rfl 0 (by decide) (hts (.fieldLink RX2 9 "CaskYard" "widths" "[I") (by decide +kernel)) (fun _ h9 => h9) (v := .ref (ad 1)) rfl dX2_mend_117 ?_
              refine lv_iload hx hb dX2_mend_120 (lv_at hl 0 rfl) ?_
              refine cy_iald hC (1) (by decide) hW 0 (i := k) (rfl) rfl (by omega) (by decide) dX2_mend_122 ?_
              refine lv_icmp_eq (tgt := 136) hx hb dX2_mend_123 (by decide) (fun c_123 => ?_) (fun c_123 => ?_)
              · skip
                refine lv_aload_n hx hb dX2_mend_136 rfl (lv_at hl 1 rfl) ?_
                refine cy_get hC (3 * c + 11) (by omega) hi1 hW (cy_eY_o) rfl 3 (by decide) (hts (.fieldLink RX2 138 "CaskYard$Cask" "flaws" "I") (by decide +kernel)) (fun _ h9 => h9) (v := .int (S (3 * c + 11) 3)) rfl dX2_mend_137 ?_
                refine lv_istore (lv' := [(5, .int (S (3 * c + 11) 3)), (4, .int (nI k)), (3, .ref (ad (3 * c + 11))), (0, .ref (ad 0)), (1, .int (nI c)), (2, .int (nI d))]) hx hb dX2_mend_140 hl (by decide) rfl (fun ls hl => ?_)
                refine lv_aload_n hx hb dX2_mend_142 rfl (lv_at hl 3 rfl) ?_
                refine cy_get hC (0) (by decide) hi2 hW (rfl) rfl 2 (by decide) (hts (.fieldLink RX2 16 "CaskYard" "places" "[I") (by decide +kernel)) (fun _ h9 => h9) (v := .ref (ad 3)) rfl dX2_mend_143 ?_
                refine lv_iload hx hb dX2_mend_146 (lv_at hl 1 rfl) ?_
                refine lv_bipush (v := (-2)) hx hb dX2_mend_148 (by decide) ?_
                refine cy_iast hC (3) (by decide) hW 0 (i := k) (rfl) rfl (by omega) (by decide) (upd (S 3) k (-2)) rfl (S' := (va_up S 3 (upd (S 3) k (-2)))) rfl dX2_mend_150 (fun H locs hW => ?_)
                refine lv_aload_n hx hb dX2_mend_151 rfl (lv_at hl 3 rfl) ?_
                refine cy_get hC (0) (by decide) hi2 hW (cy_rd (cy_un (by omega)) rfl) rfl 2 (by decide) (hts (.fieldLink RX2 16 "CaskYard" "places" "[I") (by decide +kernel)) (fun _ h9 => h9) (v := .ref (ad 3)) rfl dX2_mend_152 ?_
                refine lv_iload_n hx hb dX2_mend_155 rfl (lv_at hl 5 rfl) ?_
                refine lv_iload_n hx hb dX2_mend_156 rfl (lv_at hl 4 rfl) ?_
                refine cy_iast hC (3) (by decide) hW 0 (i := d) (cy_rd (cy_us) rfl) rfl (by omega) (by decide) (upd (upd (S 3) k (-2)) d (nI c)) rfl (S' := (va_up S 3 (upd (upd (S 3) k (-2)) d (nI c)))) cy_uu dX2_mend_157 (fun H locs hW => ?_)
                refine lv_aload_n hx hb dX2_mend_158 rfl (lv_at hl 2 rfl) ?_
                refine lv_aload_n hx hb dX2_mend_159 rfl (lv_at hl 3 rfl) ?_
                refine lv_iload_n hx hb dX2_mend_160 rfl (lv_at hl 5 rfl) ?_
                refine cy_callV (As := [.int (nI d)]) (rest := [.ref (ad (3 * c + 11))]) (q0 := 0) (ci := 2) hC.1 hC.2.1 hC.2.2 hW (c_X2_flawsOf (i := d) (by omega)) (cwV 1 hts gX2_mend_X2_flawsOf rfl rfl rfl (by decide +kernel) ⟨Nat.le_of_ble_eq_true rfl, Nat.le_of_ble_eq_true rfl⟩) (cy_w_at (by decide) (cy_rd (cy_un (by omega)) rfl)) rfl rfl hl.1 rfl (Nat.le_of_ble_eq_true rfl) dX2_mend_161 ⟨Nat.le_of_ble_eq_true rfl, Nat.le_of_ble_eq_true rfl⟩ (k' := 0) (n' := 0) rfl rfl (fun H locs hW => ?_)
                refine cy_put hC (3 * c + 11) (by omega) hi1 tyX1 tyX1_ok nmX1 hW (cy_rd (cy_un (by omega)) cy_eY_o) rfl 3 (by decide) (hts (.fieldLink RX2 138 "CaskYard$Cask" "flaws" "I") (by decide +kernel)) (fun _ h9 => h9) rfl (ty := .int) (by decide +kernel) rfl rfl (Nat.le_of_ble_eq_true rfl) (upd (S (3 * c + 11)) 3 (cy_fw (va_up S 3 (upd (upd (S 3) k (-2)) d (nI c))) d)) cy_hC3 (S' := (va_up (va_up S 3 (upd (upd (S 3) k (-2)) d (nI c))) (3 * c + 11) (upd (S (3 * c + 11)) 3 (cy_fw (va_up S 3 (upd (upd (S 3) k (-2)) d (nI c))) d)))) rfl dX2_mend_164 (fun H locs hW => ?_)
                refine lv_iload hx hb dX2_mend_167 (lv_at hl 0 rfl) ?_
                refine cy_topv (congrArg Value.int (show S (3 * c + 11) 3 = S (3 * (nI c).toNatClampNeg + 11) 3 from by simp only [c_5, c_23, c_54, c_60, c_77, c_97, c_123, clc, cld, clk])) ?_
                have hW := cy_castS (show (va_up (va_up S 3 (upd (upd (S 3) k (-2)) d (nI c))) (3 * c + 11) (upd (S (3 * c + 11)) 3 (cy_fw (va_up S 3 (upd (upd (S 3) k (-2)) d (nI c))) d))) = cy_if (cy_tMe S (nI c) (nI d) ns nc) (cy_nMe S (nI c).toNatClampNeg (nI d).toNatClampNeg (cy_lst S (nI c) ns).toNatClampNeg) S from Eq.trans (by first | (simp only [cy_nMe, c_5, c_23, c_54, c_60, c_77, c_97, c_123, clc, cld, clk, eq_self, ↓reduceIte]; done) | (simp only [cy_nMe, c_5, c_23, c_54, c_60, c_77, c_97, c_123, clc, cld, clk, eq_self, ↓reduceIte]; rfl) | rfl) (cy_if_n (show cy_tMe S (nI c) (nI d) ns nc = none from by simp only [cy_tMe, c_5, c_23, c_54, c_60, c_77, c_97, c_123, clc, cld, clk, eq_self, ↓reduceIte])).symm) hW
                exact hE (show cy_tMe S (nI c) (nI d) ns nc = none from by simp only [cy_tMe, c_5, c_23, c_54, c_60, c_77, c_97, c_123, clc, cld, clk, eq_self, ↓reduceIte]) _ _ _ _ _ _ (Nat.le_of_ble_eq_true rfl) (Nat.le_of_ble_eq_true rfl) hW dX2_mend_169
              · skip
                have hW := cy_castS (show S = cy_if (cy_tMe S (nI c) (nI d) ns nc) (cy_nMe S (nI c).toNatClampNeg (nI d).toNatClampNeg (cy_lst S (nI c) ns).toNatClampNeg) S from Eq.trans (by first | (simp only [cy_nMe, c_5, c_23, c_54, c_60, c_77, c_97, c_123, clc, cld, clk, eq_self, ↓reduceIte]; done) | (simp only [cy_nMe, c_5, c_23, c_54, c_60, c_77, c_97, c_123, clc, cld, clk, eq_self, ↓reduceIte]; rfl) | rfl) (cy_if_s (show cy_tMe S (nI c) (nI d) ns nc = some cy_IS from by simp only [cy_tMe, c_5, c_23, c_54, c_60, c_77, c_97, c_123, clc, cld, clk, eq_self, ↓reduceIte])).symm) hW
                exact hT _ _ _ _ 126 _ [] 69 73 179 cy_IS "the stave has another width" cy_ok_IS (show cy_tMe S (nI c) (nI d) ns nc = some cy_IS from by simp only [cy_tMe, c_5, c_23, c_54, c_60, c_77, c_97, c_123, clc, cld, clk, eq_self, ↓reduceIte]) (Nat.le_of_ble_eq_true rfl) (Nat.le_of_ble_eq_true rfl) (Nat.le_of_ble_eq_true rfl) hW (hl.1.trans hml.symm) (by decide +kernel) hkIS hiIS hgIS dX2_mend_126 dX2_mend_129 (Or.inl ⟨dX2_mend_130, dX2_mend_132, dX2_mend_135⟩)
            · skip
              have hW := cy_castS (show S = cy_if (cy_tMe S (nI c) (nI d) ns nc) (cy_nMe S (nI c).toNatClampNeg (nI d).toNatClampNeg (cy_lst S (nI c) ns).toNatClampNeg) S from Eq.trans (by first | (simp only [cy_nMe, c_5, c_23, c_54, c_60, c_77, c_97, clc, cld, clk, eq_self, ↓reduceIte]; done) | (simp only [cy_nMe, c_5, c_23, c_54, c_60, c_77, c_97, clc, cld, clk, eq_self, ↓reduceIte]; rfl) | rfl) (cy_if_s (show cy_tMe S (nI c) (nI d) ns nc = some cy_IS from by simp only [cy_tMe, c_5, c_23, c_54, c_60, c_77, c_97, clc, cld, clk, eq_self, ↓reduceIte])).symm) hW
              exact hT _ _ _ _ 100 _ [] 69 73 177 cy_IS "the stave is not in the yard" cy_ok_IS (show cy_tMe S (nI c) (nI d) ns nc = some cy_IS from by simp only [cy_tMe, c_5, c_23, c_54, c_60, c_77, c_97, clc, cld, clk, eq_self, ↓reduceIte]) (Nat.le_of_ble_eq_true rfl) (Nat.le_of_ble_eq_true rfl) (Nat.le_of_ble_eq_true rfl) hW (hl.1.trans hml.symm) (by decide +kernel) hkIS hiIS hgIS dX2_mend_100 dX2_mend_103 (Or.inl ⟨dX2_mend_104, dX2_mend_106, dX2_mend_109⟩)
          · skip
            have hW := cy_castS (show S = cy_if (cy_tMe S (nI c) (nI d) ns nc) (cy_nMe S (nI c).toNatClampNeg (nI d).toNatClampNeg (cy_lst S (nI c) ns).toNatClampNeg) S from Eq.trans (by first | (simp only [cy_nMe, c_5, c_23, c_54, c_60, c_77, clc, cld, clk, eq_self, ↓reduceIte]; done) | (simp only [cy_nMe, c_5, c_23, c_54, c_60, c_77, clc, cld, clk, eq_self, ↓reduceIte]; rfl) | rfl) (cy_if_s (show cy_tMe S (nI c) (nI d) ns nc = some cy_IS from by simp only [cy_tMe, c_5, c_23, c_54, c_60, c_77, clc, cld, clk, eq_self, ↓reduceIte])).symm) hW
            exact hT _ _ _ _ 80 _ [] 69 73 175 cy_IS "the cask holds something" cy_ok_IS (show cy_tMe S (nI c) (nI d) ns nc = some cy_IS from by simp only [cy_tMe, c_5, c_23, c_54, c_60, c_77, clc, cld, clk, eq_self, ↓reduceIte]) (Nat.le_of_ble_eq_true rfl) (Nat.le_of_ble_eq_true rfl) (Nat.le_of_ble_eq_true rfl) hW (hl.1.trans hml.symm) (by decide +kernel) hkIS hiIS hgIS dX2_mend_80 dX2_mend_83 (Or.inl ⟨dX2_mend_84, dX2_mend_86, dX2_mend_89⟩)
        · skip
          have hW := cy_castS (show S = cy_if (cy_tMe S (nI c) (nI d) ns nc) (cy_nMe S (nI c).toNatClampNeg (nI d).toNatClampNeg (cy_lst S (nI c) ns).toNatClampNeg) S from Eq.trans (by first | (simp only [cy_nMe, c_5, c_23, c_54, c_60, clc, cld, eq_self, ↓reduceIte]; done) | (simp only [cy_nMe, c_5, c_23, c_54, c_60, clc, cld, eq_self, ↓reduceIte]; rfl) | rfl) (cy_if_s (show cy_tMe S (nI c) (nI d) ns nc = some cy_IS from by simp only [cy_tMe, c_5, c_23, c_54, c_60, clc, cld, eq_self, ↓reduceIte])).symm) hW
          exact hT _ _ _ _ 63 _ [] 69 73 170 cy_IS "the cask is broken up" cy_ok_IS (show cy_tMe S (nI c) (nI d) ns nc = some cy_IS from by simp only [cy_tMe, c_5, c_23, c_54, c_60, clc, cld, eq_self, ↓reduceIte]) (Nat.le_of_ble_eq_true rfl) (Nat.le_of_ble_eq_true rfl) (Nat.le_of_ble_eq_true rfl) hW (hl.1.trans hml.symm) (by decide +kernel) hkIS hiIS hgIS dX2_mend_63 dX2_mend_66 (Or.inl ⟨dX2_mend_67, dX2_mend_69, dX2_mend_72⟩)
    · skip
      have hW := cy_castS (show S = cy_if (cy_tMe S (nI c) y ns nc) (cy_nMe S (nI c).toNatClampNeg y.toNatClampNeg (cy_lst S (nI c) ns).toNatClampNeg) S from Eq.trans (by first | (simp only [cy_nMe, c_5, c_23, clc, eq_self, ↓reduceIte]; done) | (simp only [cy_nMe, c_5, c_23, clc, eq_self, ↓reduceIte]; rfl) | rfl) (cy_if_s (show cy_tMe S (nI c) y ns nc = some cy_IB from by simp only [cy_tMe, c_5, c_23, clc, eq_self, ↓reduceIte])).symm) hW
      exact hT _ _ _ _ 26 _ [] 78 82 80 cy_IB "no such stave" cy_ok_IB (show cy_tMe S (nI c) y ns nc = some cy_IB from by simp only [cy_tMe, c_5, c_23, clc, eq_self, ↓reduceIte]) (Nat.le_of_ble_eq_true rfl) (Nat.le_of_ble_eq_true rfl) (Nat.le_of_ble_eq_true rfl) hW (hl.1.trans hml.symm) (by decide +kernel) hkIB hiIB hgIB dX2_mend_26 dX2_mend_29 (Or.inl ⟨dX2_mend_30, dX2_mend_32, dX2_mend_35⟩)
  · skip
    have hW := cy_castS (show S = cy_if (cy_tMe S x y ns nc) (cy_nMe S x.toNatClampNeg y.toNatClampNeg (cy_lst S x ns).toNatClampNeg) S from Eq.trans (by first | (simp only [cy_nMe, c_5, eq_self, ↓reduceIte]; done) | (simp only [cy_nMe, c_5, eq_self, ↓reduceIte]; rfl) | rfl) (cy_if_s (show cy_tMe S x y ns nc = some cy_IB from by simp only [cy_tMe, c_5, eq_self, ↓reduceIte])).symm) hW
    exact hT _ _ _ _ 8 _ [] 78 82 144 cy_IB "no such cask" cy_ok_IB (show cy_tMe S x y ns nc = some cy_IB from by simp only [cy_tMe, c_5, eq_self, ↓reduceIte]) (Nat.le_of_ble_eq_true rfl) (Nat.le_of_ble_eq_true rfl) (Nat.le_of_ble_eq_true rfl) hW (hl.1.trans hml.symm) (by decide +kernel) hkIB hiIB hgIB dX2_mend_8 dX2_mend_11 (Or.inl ⟨dX2_mend_12, dX2_mend_14, dX2_mend_17⟩)
abbrev rm_X2_breakUp : Room := { frames := 6, cells := 1, slots := 6, locals := 90 }
set_option maxHeartbeats 4000000 in
set_option maxRecDepth 100000 in
theorem c_X2_breakUp {l : Launch} {D : va_G} {kI kJ kZ kC : ClassId} {ad : Nat → Nat} {S : Nat → Nat → Int32} {tl : va_W} {Z : Nat → Int64} {x : Int32} {ns : Nat} (hns : S 0 3 = nI ns) (h60 : ns ≤ 60) {nc : Nat} (hnc : S 0 9 = nI nc) (h12 : nc ≤ 12) : cy_X l yX2_breakUp wsX2_breakUp rm_X2_breakUp D (cy_tys kI kJ kZ kC) [.ref (ad 0), .int x] (cy_Y kI kJ kC ad S Z tl) (cy_tBr S x nc) (some (.int (cy_sm (S (3 * x.toNatClampNeg + 13)) 5))) (cy_Y kI kJ kC ad (cy_if (cy_tBr S x nc) (cy_sCl (cy_ts S x ns).1 x.toNatClampNeg) S) Z tl) := by
  refine cy_ofX (cc := cX2_breakUp) (maxL := 4) (ret := (some .int)) (i := .ireturn) (by decide) rfl rfl (Nat.le_of_ble_eq_true rfl) (by decide) (fun _ => (cy_endI rfl)) ?_
  intro p e s m args below meth co Q A ls hC hTh hE hT hW hl
  have hx := hC.1.1; have hb := hC.1.2.1; have hml := hC.1.2.2.1; have hown := hC.1.2.2.2.1; have hts := hC.1.2.2.2.2
  have hl : lv_has ls 4 [(0, .ref (ad 0)), (1, .int x)] := hl
  have hi1 : ∀ w ∈ u_ws RX1 TX1 11, w ∈ wsX2_breakUp := by decide +kernel
  have hi2 : ∀ w ∈ u_ws RX2 TX2 17, w ∈ wsX2_breakUp := by decide +kernel
  have hkIS : Cond.classLink RX2 69 cy_IS ∈ wsX2_breakUp := by decide +kernel
  have hiIS : Cond.initialized cy_IS ∈ wsX2_breakUp := by decide +kernel
  have hgIS : ∀ w ∈ (vx_atS RX2 73 cy_IS cy_nm).filter goodWord, w ∈ wsX2_breakUp := by decide +kernel
  have hkIB : Cond.classLink RX2 78 cy_IB ∈ wsX2_breakUp := by decide +kernel
  have hiIB : Cond.initialized cy_IB ∈ wsX2_breakUp := by decide +kernel
  have hgIB : ∀ w ∈ (vx_atS RX2 82 cy_IB cy_nm).filter goodWord, w ∈ wsX2_breakUp := by decide +kernel
  refine lv_aload_n hx hb dX2_breakUp_0 rfl (lv_at hl 0 rfl) ?_
  refine lv_iload_n hx hb dX2_breakUp_1 rfl (lv_at hl 1 rfl) ?_
  refine cy_callV (As := [.int x]) (rest := []) (q0 := 0) (ci := 2) hC.1 hC.2.1 hC.2.2 hW (c_X2_isCask (x := x)) (cwV 1 hts gX2_breakUp_X2_isCask rfl rfl rfl (by decide +kernel) ⟨Nat.le_of_ble_eq_true rfl, Nat.le_of_ble_eq_true rfl⟩) (cy_w_at (by decide) (rfl)) rfl rfl hl.1 rfl (Nat.le_of_ble_eq_true rfl) dX2_breakUp_2 ⟨Nat.le_of_ble_eq_true rfl, Nat.le_of_ble_eq_true rfl⟩ (k' := 0) (n' := 0) rfl rfl (fun H locs hW => ?_)
  refine cy_topv (show _ = Value.int (cy_rIs x (nI nc)) from (congrArg (fun z => Value.int (cy_rIs x z)) hnc)) ?_
  refine lv_if_ne (tgt := 18) hx hb dX2_breakUp_5 (by decide) (fun c_5 => ?_) (fun c_5 => ?_)
  · skip
    obtain ⟨c, hc, rfl⟩ := cy_rIs_t (by omega) c_5
    have clc : (nI c).toNatClampNeg = c := nI_clamp (by omega)
    have hl : lv_has ls 4 [(0, .ref (ad 0)), (1, .int (nI c))] := hl
    refine lv_aload_n hx hb dX2_breakUp_18 rfl (lv_at hl 0 rfl) ?_
    refine cy_get hC (0) (by decide) hi2 hW (rfl) rfl 8 (by decide) (hts (.fieldLink RX2 30 "CaskYard" "casks" "[LCaskYard$Cask;") (by decide +kernel)) (fun _ h9 => h9) (v := .ref (ad 7)) rfl dX2_breakUp_19 ?_
    refine lv_iload_n hx hb dX2_breakUp_22 rfl (lv_at hl 1 rfl) ?_
    refine cy_aald hC (7) (by decide) hW 3 (i := c) (a := ad (3 * c + 11)) (rfl) rfl (by omega) (by decide) rfl dX2_breakUp_23 ?_
    refine lv_astore_n (lv' := [(2, .ref (ad (3 * c + 11))), (0, .ref (ad 0)), (1, .int (nI c))]) hx hb dX2_breakUp_24 rfl hl (by decide) rfl (fun ls hl => ?_)
    refine lv_aload_n hx hb dX2_breakUp_25 rfl (lv_at hl 0 rfl) ?_
    refine cy_get hC (3 * c + 11) (by omega) hi1 hW (cy_eY_o) rfl 2 (by decide) (hts (.fieldLink RX2 127 "CaskYard$Cask" "sound" "Z") (by decide +kernel)) (fun _ h9 => h9) (v := .int (S (3 * c + 11) 2)) rfl dX2_breakUp_26 ?_
    refine lv_if_ne (tgt := 42) hx hb dX2_breakUp_29 (by decide) (fun c_29 => ?_) (fun c_29 => ?_)
    · skip
      refine lv_aload_n hx hb dX2_breakUp_42 rfl (lv_at hl 0 rfl) ?_
      refine cy_callV (As := []) (rest := []) (q0 := 3 * c + 11) (ci := 1) hC.1 hC.2.1 hC.2.2 hW (c_X1_held (c := c) (by omega)) (cwV 0 hts gX2_breakUp_X1_held rfl rfl rfl (by decide +kernel) ⟨Nat.le_of_ble_eq_true rfl, Nat.le_of_ble_eq_true rfl⟩) (cy_w_at (by omega) (cy_eY_o)) rfl rfl hl.1 rfl (Nat.le_of_ble_eq_true rfl) dX2_breakUp_43 ⟨Nat.le_of_ble_eq_true rfl, Nat.le_of_ble_eq_true rfl⟩ (k' := 0) (n' := 0) rfl rfl (fun H locs hW => ?_)
      refine lv_istore_n (lv' := [(3, .int (cy_sm (S (3 * c + 13)) 5)), (2, .ref (ad (3 * c + 11))), (0, .ref (ad 0)), (1, .int (nI c))]) hx hb dX2_breakUp_46 rfl hl (by decide) rfl (fun ls hl => ?_)
      refine lv_aload_n hx hb dX2_breakUp_47 rfl (lv_at hl 2 rfl) ?_
      refine lv_iload_n hx hb dX2_breakUp_48 rfl (lv_at hl 3 rfl) ?_
      refine cy_callV (As := [.int (nI c)]) (rest := []) (q0 := 0) (ci := 2) hC.1 hC.2.1 hC.2.2 hW (c_X2_takeStavesOutOf (x := (nI c)) (ns := ns) hns (by omega)) (cwV 1 hts gX2_breakUp_X2_takeStavesOutOf rfl rfl rfl (by decide +kernel) ⟨Nat.le_of_ble_eq_true rfl, Nat.le_of_ble_eq_true rfl⟩) (cy_w_at (by decide) (rfl)) rfl rfl hl.1 rfl (Nat.le_of_ble_eq_true rfl) dX2_breakUp_49 ⟨Nat.le_of_ble_eq_true rfl, Nat.le_of_ble_eq_true rfl⟩ (k' := 0) (n' := 0) rfl rfl (fun H locs hW => ?_)
      refine lv_aload_n hx hb dX2_breakUp_52 rfl (lv_at hl 1 rfl) ?_
      refine cy_callV (As := []) (rest := []) (q0 := 3 * c + 11) (ci := 1) hC.1 hC.2.1 hC.2.2 hW (c_X1_clear (c := c)  (by omega)) (cwV 0 hts gX2_breakUp_X1_clear rfl rfl rfl (by decide +kernel) ⟨Nat.le_of_ble_eq_true rfl, Nat.le_of_ble_eq_true rfl⟩) (cy_w_at (by omega) (cy_eY_o)) rfl rfl hl.1 rfl (Nat.le_of_ble_eq_true rfl) dX2_breakUp_53 ⟨Nat.le_of_ble_eq_true rfl, Nat.le_of_ble_eq_true rfl⟩ (k' := 0) (n' := 0) rfl rfl (fun H locs hW => ?_)
      refine lv_iload_n hx hb dX2_breakUp_56 rfl (lv_at hl 0 rfl) ?_
      refine cy_topv (congrArg Value.int (show cy_sm (S (3 * c + 13)) 5 = cy_sm (S (3 * (nI c).toNatClampNeg + 13)) 5 from by simp only [c_5, c_29, clc])) ?_
      have hW := cy_castS (show (cy_sCl ((cy_ts S (nI c) ns).1) c) = cy_if (cy_tBr S (nI c) nc) (cy_sCl (cy_ts S (nI c) ns).1 (nI c).toNatClampNeg) S from Eq.trans (by first | (simp only [c_5, c_29, clc, eq_self, ↓reduceIte]; done) | (simp only [c_5, c_29, clc, eq_self, ↓reduceIte]; rfl) | rfl) (cy_if_n (show cy_tBr S (nI c) nc = none from by simp only [cy_tBr, c_5, c_29, clc, eq_self, ↓reduceIte])).symm) hW
      exact hE (show cy_tBr S (nI c) nc = none from by simp only [cy_tBr, c_5, c_29, clc, eq_self, ↓reduceIte]) _ _ _ _ _ _ (Nat.le_of_ble_eq_true rfl) (Nat.le_of_ble_eq_true rfl) hW dX2_breakUp_57
    · skip
      have hW := cy_castS (show S = cy_if (cy_tBr S (nI c) nc) (cy_sCl (cy_ts S (nI c) ns).1 (nI c).toNatClampNeg) S from Eq.trans (by first | (simp only [c_5, c_29, clc, eq_self, ↓reduceIte]; done) | (simp only [c_5, c_29, clc, eq_self, ↓reduceIte]; rfl) | rfl) (cy_if_s (show cy_tBr S (nI c) nc = some cy_IS from by simp only [cy_tBr, c_5, c_29, clc, eq_self, ↓reduceIte])).symm) hW
      exact hT _ _ _ _ 32 _ [] 69 73 184 cy_IS "it is broken up" cy_ok_IS (show cy_tBr S (nI c) nc = some cy_IS from by simp only [cy_tBr, c_5, c_29, clc, eq_self, ↓reduceIte]) (Nat.le_of_ble_eq_true rfl) (Nat.le_of_ble_eq_true rfl) (Nat.le_of_ble_eq_true rfl) hW (hl.1.trans hml.symm) (by decide +kernel) hkIS hiIS hgIS dX2_breakUp_32 dX2_breakUp_35 (Or.inl ⟨dX2_breakUp_36, dX2_breakUp_38, dX2_breakUp_41⟩)
  · skip
    have hW := cy_castS (show S = cy_if (cy_tBr S x nc) (cy_sCl (cy_ts S x ns).1 x.toNatClampNeg) S from Eq.trans (by first | (simp only [c_5, eq_self, ↓reduceIte]; done) | (simp only [c_5, eq_self, ↓reduceIte]; rfl) | rfl) (cy_if_s (show cy_tBr S x nc = some cy_IB from by simp only [cy_tBr, c_5, eq_self, ↓reduceIte])).symm) hW
    exact hT _ _ _ _ 8 _ [] 78 82 144 cy_IB "no such cask" cy_ok_IB (show cy_tBr S x nc = some cy_IB from by simp only [cy_tBr, c_5, eq_self, ↓reduceIte]) (Nat.le_of_ble_eq_true rfl) (Nat.le_of_ble_eq_true rfl) (Nat.le_of_ble_eq_true rfl) hW (hl.1.trans hml.symm) (by decide +kernel) hkIB hiIB hgIB dX2_breakUp_8 dX2_breakUp_11 (Or.inl ⟨dX2_breakUp_12, dX2_breakUp_14, dX2_breakUp_17⟩)
abbrev rm_X2_cask : Room := { frames := 6, cells := 1, slots := 6, locals := 90 }
set_option maxHeartbeats 4000000 in
set_option maxRecDepth 100000 in
theorem c_X2_cask {l : Launch} {D : va_G} {kI kJ kZ kC : ClassId} {ad : Nat → Nat} {S : Nat → Nat → Int32} {tl : va_W} {Z : Nat → Int64} {x y : Int32} {ns : Nat} (hns : S 0 3 = nI ns) (h60 : ns ≤ 60) {nc : Nat} (hnc : S 0 9 = nI nc) (h12 : nc ≤ 12) : cy_X l yX2_cask wsX2_cask rm_X2_cask D (cy_tys kI kJ kZ kC) [.ref (ad 0), .int x, .int y] (cy_Y kI kJ kC ad S Z tl) (cy_tCa x y nc) (some (.int (cy_tell S ns x.toNatClampNeg y.toNatClampNeg))) (cy_Y kI kJ kC ad (cy_if (cy_tCa x y nc) S S) Z tl) := by
  refine cy_ofX (cc := cX2_cask) (maxL := 3) (ret := (some .int)) (i := .ireturn) (by decide) rfl rfl (Nat.le_of_ble_eq_true rfl) (by decide) (fun _ => (cy_endI rfl)) ?_
  intro p e s m args below meth co Q A ls hC hTh hE hT hW hl
  have hx := hC.1.1; have hb := hC.1.2.1; have hml := hC.1.2.2.1; have hown := hC.1.2.2.2.1; have hts := hC.1.2.2.2.2
  have hl : lv_has ls 3 [(0, .ref (ad 0)), (1, .int x), (2, .int y)] := hl
  have hkIB : Cond.classLink RX2 78 cy_IB ∈ wsX2_cask := by decide +kernel
  have hiIB : Cond.initialized cy_IB ∈ wsX2_cask := by decide +kernel
  have hgIB : ∀ w ∈ (vx_atS RX2 82 cy_IB cy_nm).filter goodWord, w ∈ wsX2_cask := by decide +kernel
  refine lv_aload_n hx hb dX2_cask_0 rfl (lv_at hl 0 rfl) ?_
  refine lv_iload_n hx hb dX2_cask_1 rfl (lv_at hl 1 rfl) ?_
  refine cy_callV (As := [.int x]) (rest := []) (q0 := 0) (ci := 2) hC.1 hC.2.1 hC.2.2 hW (c_X2_isCask (x := x)) (cwV 1 hts gX2_cask_X2_isCask rfl rfl rfl (by decide +kernel) ⟨Nat.le_of_ble_eq_true rfl, Nat.le_of_ble_eq_true rfl⟩) (cy_w_at (by decide) (rfl)) rfl rfl hl.1 rfl (Nat.le_of_ble_eq_true rfl) dX2_cask_2 ⟨Nat.le_of_ble_eq_true rfl, Nat.le_of_ble_eq_true rfl⟩ (k' := 0) (n' := 0) rfl rfl (fun H locs hW => ?_)
  refine cy_topv (show _ = Value.int (cy_rIs x (nI nc)) from (congrArg (fun z => Value.int (cy_rIs x z)) hnc)) ?_
  refine lv_if_ne (tgt := 18) hx hb dX2_cask_5 (by decide) (fun c_5 => ?_) (fun c_5 => ?_)
  · skip
    obtain ⟨c, hc, rfl⟩ := cy_rIs_t (by omega) c_5
    have clc : (nI c).toNatClampNeg = c := nI_clamp (by omega)
    have hl : lv_has ls 3 [(0, .ref (ad 0)), (1, .int (nI c)), (2, .int y)] := hl
    refine lv_iload_n hx hb dX2_cask_18 rfl (lv_at hl 2 rfl) ?_
    refine lv_if_lt (tgt := 28) hx hb dX2_cask_19 (by decide) (fun c_19 => ?_) (fun c_19 => ?_)
    · skip
      have hW := cy_castS (show S = cy_if (cy_tCa (nI c) y nc) S S from Eq.trans (by first | (simp only [c_5, c_19, clc, eq_self, ↓reduceIte]; done) | (simp only [c_5, c_19, clc, eq_self, ↓reduceIte]; rfl) | rfl) (cy_if_s (show cy_tCa (nI c) y nc = some cy_IB from by simp only [cy_tCa, c_5, c_19, clc, eq_self, ↓reduceIte])).symm) hW
      exact hT _ _ _ _ 28 _ [] 78 82 192 cy_IB "what is not 0 to 15" cy_ok_IB (show cy_tCa (nI c) y nc = some cy_IB from by simp only [cy_tCa, c_5, c_19, clc, eq_self, ↓reduceIte]) (Nat.le_of_ble_eq_true rfl) (Nat.le_of_ble_eq_true rfl) (Nat.le_of_ble_eq_true rfl) hW (hl.1.trans hml.symm) (by decide +kernel) hkIB hiIB hgIB dX2_cask_28 dX2_cask_31 (Or.inl ⟨dX2_cask_32, dX2_cask_34, dX2_cask_37⟩)
    · skip
      refine lv_iload_n hx hb dX2_cask_22 rfl (lv_at hl 2 rfl) ?_
      refine lv_bipush (v := 16) hx hb dX2_cask_23 (by decide) ?_
      refine lv_icmp_lt (tgt := 38) hx hb dX2_cask_25 (by decide) (fun c_25 => ?_) (fun c_25 => ?_)
      · skip
        obtain ⟨k, hk, rfl⟩ := cy_rng (n := 16) rfl (by decide) c_19 c_25
        have clk : (nI k).toNatClampNeg = k := nI_clamp (by omega)
        have hl : lv_has ls 3 [(0, .ref (ad 0)), (1, .int (nI c)), (2, .int (nI k))] := hl
        refine lv_aload_n hx hb dX2_cask_38 rfl (lv_at hl 0 rfl) ?_
        refine lv_iload_n hx hb dX2_cask_39 rfl (lv_at hl 1 rfl) ?_
        refine lv_iload_n hx hb dX2_cask_40 rfl (lv_at hl 2 rfl) ?_
        refine cy_callV (As := [.int (nI c), .int (nI k)]) (rest := []) (q0 := 0) (ci := 2) hC.1 hC.2.1 hC.2.2 hW (c_X2_tellOfCask (c := c) (x := k) (ns := ns) (by omega) (by omega) hns (by omega)) (cwV 2 hts gX2_cask_X2_tellOfCask rfl rfl rfl (by decide +kernel) ⟨Nat.le_of_ble_eq_true rfl, Nat.le_of_ble_eq_true rfl⟩) (cy_w_at (by decide) (rfl)) rfl rfl hl.1 rfl (Nat.le_of_ble_eq_true rfl) dX2_cask_41 ⟨Nat.le_of_ble_eq_true rfl, Nat.le_of_ble_eq_true rfl⟩ (k' := 0) (n' := 0) rfl rfl (fun H locs hW => ?_)
        refine cy_topv (congrArg Value.int (show cy_tell S ns c k = cy_tell S ns (nI c).toNatClampNeg (nI k).toNatClampNeg from by simp only [c_5, c_19, c_25, clc, clk])) ?_
        have hW := cy_castS (show S = cy_if (cy_tCa (nI c) (nI k) nc) S S from Eq.trans (by first | (simp only [c_5, c_19, c_25, clc, clk, eq_self, ↓reduceIte]; done) | (simp only [c_5, c_19, c_25, clc, clk, eq_self, ↓reduceIte]; rfl) | rfl) (cy_if_n (show cy_tCa (nI c) (nI k) nc = none from by simp only [cy_tCa, c_5, c_19, c_25, clc, clk, eq_self, ↓reduceIte])).symm) hW
        exact hE (show cy_tCa (nI c) (nI k) nc = none from by simp only [cy_tCa, c_5, c_19, c_25, clc, clk, eq_self, ↓reduceIte]) _ _ _ _ _ _ (Nat.le_of_ble_eq_true rfl) (Nat.le_of_ble_eq_true rfl) hW dX2_cask_44
      · skip
        have hW := cy_castS (show S = cy_if (cy_tCa (nI c) y nc) S S from Eq.trans (by first | (simp only [c_5, c_19, c_25, clc, eq_self, ↓reduceIte]; done) | (simp only [c_5, c_19, c_25, clc, eq_self, ↓reduceIte]; rfl) | rfl) (cy_if_s (show cy_tCa (nI c) y nc = some cy_IB from by simp only [cy_tCa, c_5, c_19, c_25, clc, eq_self, ↓reduceIte])).symm) hW
        exact hT _ _ _ _ 28 _ [] 78 82 192 cy_IB "what is not 0 to 15" cy_ok_IB (show cy_tCa (nI c) y nc = some cy_IB from by simp only [cy_tCa, c_5, c_19, c_25, clc, eq_self, ↓reduceIte]) (Nat.le_of_ble_eq_true rfl) (Nat.le_of_ble_eq_true rfl) (Nat.le_of_ble_eq_true rfl) hW (hl.1.trans hml.symm) (by decide +kernel) hkIB hiIB hgIB dX2_cask_28 dX2_cask_31 (Or.inl ⟨dX2_cask_32, dX2_cask_34, dX2_cask_37⟩)
  · skip
    have hW := cy_castS (show S = cy_if (cy_tCa x y nc) S S from Eq.trans (by first | (simp only [c_5, eq_self, ↓reduceIte]; done) | (simp only [c_5, eq_self, ↓reduceIte]; rfl) | rfl) (cy_if_s (show cy_tCa x y nc = some cy_IB from by simp only [cy_tCa, c_5, eq_self, ↓reduceIte])).symm) hW
    exact hT _ _ _ _ 8 _ [] 78 82 144 cy_IB "no such cask" cy_ok_IB (show cy_tCa x y nc = some cy_IB from by simp only [cy_tCa, c_5, eq_self, ↓reduceIte]) (Nat.le_of_ble_eq_true rfl) (Nat.le_of_ble_eq_true rfl) (Nat.le_of_ble_eq_true rfl) hW (hl.1.trans hml.symm) (by decide +kernel) hkIB hiIB hgIB dX2_cask_8 dX2_cask_11 (Or.inl ⟨dX2_cask_12, dX2_cask_14, dX2_cask_17⟩)
abbrev rm_X2_fill : Room := { frames := 6, cells := 1, slots := 6, locals := 90 }
set_option maxHeartbeats 4000000 in
set_option maxRecDepth 100000 in
theorem c_X2_fill {l : Launch} {D : va_G} {kI kJ kZ kC : ClassId} {ad : Nat → Nat} {S : Nat → Nat → Int32} {tl : va_W} {Z : Nat → Int64} {x y z : Int32} {nc : Nat} (hnc : S 0 9 = nI nc) (h12 : nc ≤ 12) : cy_X l yX2_fill wsX2_fill rm_X2_fill D (cy_tys kI kJ kZ kC) [.ref (ad 0), .int x, .int y, .int z] (cy_Y kI kJ kC ad S Z tl) (cy_tFi S x y z nc) (some (.int (cy_sm (cy_nFi S x.toNatClampNeg y.toNatClampNeg z (3 * x.toNatClampNeg + 13)) 5))) (cy_Y kI kJ kC ad (cy_if (cy_tFi S x y z nc) (cy_nFi S x.toNatClampNeg y.toNatClampNeg z) S) Z tl) := by
  refine cy_ofX (cc := cX2_fill) (maxL := 5) (ret := (some .int)) (i := .ireturn) (by decide) rfl rfl (Nat.le_of_ble_eq_true rfl) (by decide) (fun _ => (cy_endI rfl)) ?_
  intro p e s m args below meth co Q A ls hC hTh hE hT hW hl
  have hx := hC.1.1; have hb := hC.1.2.1; have hml := hC.1.2.2.1; have hown := hC.1.2.2.2.1; have hts := hC.1.2.2.2.2
  have hl : lv_has ls 5 [(0, .ref (ad 0)), (1, .int x), (2, .int y), (3, .int z)] := hl
  have hi1 : ∀ w ∈ u_ws RX1 TX1 11, w ∈ wsX2_fill := by decide +kernel
  have hi2 : ∀ w ∈ u_ws RX2 TX2 17, w ∈ wsX2_fill := by decide +kernel
  have hkIA : Cond.classLink RX2 57 cy_IA ∈ wsX2_fill := by decide +kernel
  have hiIA : Cond.initialized cy_IA ∈ wsX2_fill := by decide +kernel
  have hgIA : ∀ w ∈ (vx_atS RX2 61 cy_IA cy_nm).filter goodWord, w ∈ wsX2_fill := by decide +kernel
  have hkIS : Cond.classLink RX2 69 cy_IS ∈ wsX2_fill := by decide +kernel
  have hiIS : Cond.initialized cy_IS ∈ wsX2_fill := by decide +kernel
  have hgIS : ∀ w ∈ (vx_atS RX2 73 cy_IS cy_nm).filter goodWord, w ∈ wsX2_fill := by decide +kernel
  have hkIB : Cond.classLink RX2 78 cy_IB ∈ wsX2_fill := by decide +kernel
  have hiIB : Cond.initialized cy_IB ∈ wsX2_fill := by decide +kernel
  have hgIB : ∀ w ∈ (vx_atS RX2 82 cy_IB cy_nm).filter goodWord, w ∈ wsX2_fill := by decide +kernel
  refine lv_aload_n hx hb dX2_fill_0 rfl (lv_at hl 0 rfl) ?_
  refine lv_iload_n hx hb dX2_fill_1 rfl (lv_at hl 1 rfl) ?_
  refine cy_callV (As := [.int x]) (rest := []) (q0 := 0) (ci := 2) hC.1 hC.2.1 hC.2.2 hW (c_X2_isCask (x := x)) (cwV 1 hts gX2_fill_X2_isCask rfl rfl rfl (by decide +kernel) ⟨Nat.le_of_ble_eq_true rfl, Nat.le_of_ble_eq_true rfl⟩) (cy_w_at (by decide) (rfl)) rfl rfl hl.1 rfl (Nat.le_of_ble_eq_true rfl) dX2_fill_2 ⟨Nat.le_of_ble_eq_true rfl, Nat.le_of_ble_eq_true rfl⟩ (k' := 0) (n' := 0) rfl rfl (fun H locs hW => ?_)
  refine cy_topv (show _ = Value.int (cy_rIs x (nI nc)) from (congrArg (fun z => Value.int (cy_rIs x z)) hnc)) ?_
  refine lv_if_ne (tgt := 18) hx hb dX2_fill_5 (by decide) (fun c_5 => ?_) (fun c_5 => ?_)
  · skip
    obtain ⟨c, hc, rfl⟩ := cy_rIs_t (by omega) c_5
    have clc : (nI c).toNatClampNeg = c := nI_clamp (by omega)
    have hl : lv_has ls 5 [(0, .ref (ad 0)), (1, .int (nI c)), (2, .int y), (3, .int z)] := hl
    refine lv_iload_n hx hb dX2_fill_18 rfl (lv_at hl 2 rfl) ?_
    refine lv_if_lt (tgt := 27) hx hb dX2_fill_19 (by decide) (fun c_19 => ?_) (fun c_19 => ?_)
    · skip
      have hW := cy_castS (show S = cy_if (cy_tFi S (nI c) y z nc) (cy_nFi S (nI c).toNatClampNeg y.toNatClampNeg z) S from Eq.trans (by first | (simp only [cy_nFi, c_5, c_19, clc, eq_self, ↓reduceIte]; done) | (simp only [cy_nFi, c_5, c_19, clc, eq_self, ↓reduceIte]; rfl) | rfl) (cy_if_s (show cy_tFi S (nI c) y z nc = some cy_IA from by simp only [cy_tFi, c_5, c_19, clc, eq_self, ↓reduceIte])).symm) hW
      exact hT _ _ _ _ 27 _ [] 57 61 197 cy_IA "liquid is not 0 to 3" cy_ok_IA (show cy_tFi S (nI c) y z nc = some cy_IA from by simp only [cy_tFi, c_5, c_19, clc, eq_self, ↓reduceIte]) (Nat.le_of_ble_eq_true rfl) (Nat.le_of_ble_eq_true rfl) (Nat.le_of_ble_eq_true rfl) hW (hl.1.trans hml.symm) (by decide +kernel) hkIA hiIA hgIA dX2_fill_27 dX2_fill_30 (Or.inl ⟨dX2_fill_31, dX2_fill_33, dX2_fill_36⟩)
    · skip
      refine lv_iload_n hx hb dX2_fill_22 rfl (lv_at hl 2 rfl) ?_
      refine lv_iconst (v := 4) hx hb dX2_fill_23 (by decide) ?_
      refine lv_icmp_lt (tgt := 37) hx hb dX2_fill_24 (by decide) (fun c_24 => ?_) (fun c_24 => ?_)
      · skip
        obtain ⟨i, hi, rfl⟩ := cy_rng (n := 4) rfl (by decide) c_19 c_24
        have cli : (nI i).toNatClampNeg = i := nI_clamp (by omega)
        have hl : lv_has ls 5 [(0, .ref (ad 0)), (1, .int (nI c)), (2, .int (nI i)), (3, .int z)] := hl
        refine lv_iload_n hx hb dX2_fill_37 rfl (lv_at hl 3 rfl) ?_
        refine lv_iconst (v := 1) hx hb dX2_fill_38 (by decide) ?_
        refine lv_icmp_lt (tgt := 48) hx hb dX2_fill_39 (by decide) (fun c_39 => ?_) (fun c_39 => ?_)
        · skip
          have hW := cy_castS (show S = cy_if (cy_tFi S (nI c) (nI i) z nc) (cy_nFi S (nI c).toNatClampNeg (nI i).toNatClampNeg z) S from Eq.trans (by first | (simp only [cy_nFi, c_5, c_19, c_24, c_39, clc, cli, eq_self, ↓reduceIte]; done) | (simp only [cy_nFi, c_5, c_19, c_24, c_39, clc, cli, eq_self, ↓reduceIte]; rfl) | rfl) (cy_if_s (show cy_tFi S (nI c) (nI i) z nc = some cy_IA from by simp only [cy_tFi, c_5, c_19, c_24, c_39, clc, cli, eq_self, ↓reduceIte])).symm) hW
          exact hT _ _ _ _ 48 _ [] 57 61 199 cy_IA "amount is not 1 to 60000" cy_ok_IA (show cy_tFi S (nI c) (nI i) z nc = some cy_IA from by simp only [cy_tFi, c_5, c_19, c_24, c_39, clc, cli, eq_self, ↓reduceIte]) (Nat.le_of_ble_eq_true rfl) (Nat.le_of_ble_eq_true rfl) (Nat.le_of_ble_eq_true rfl) hW (hl.1.trans hml.symm) (by decide +kernel) hkIA hiIA hgIA dX2_fill_48 dX2_fill_51 (Or.inl ⟨dX2_fill_52, dX2_fill_54, dX2_fill_57⟩)
        · skip
          refine lv_iload_n hx hb dX2_fill_42 rfl (lv_at hl 3 rfl) ?_
          refine lv_ldc (v := 60000) hx hb hown (hts (.constant RX2 87 60000) (by decide +kernel)) dX2_fill_43 ?_
          refine lv_icmp_le (tgt := 58) hx hb dX2_fill_45 (by decide) (fun c_45 => ?_) (fun c_45 => ?_)
          · skip
            refine lv_aload_n hx hb dX2_fill_58 rfl (lv_at hl 0 rfl) ?_
            refine cy_get hC (0) (by decide) hi2 hW (rfl) rfl 8 (by decide) (hts (.fieldLink RX2 30 "CaskYard" "casks" "[LCaskYard$Cask;") (by decide +kernel)) (fun _ h9 => h9) (v := .ref (ad 7)) rfl dX2_fill_59 ?_
            refine lv_iload_n hx hb dX2_fill_62 rfl (lv_at hl 1 rfl) ?_
            refine cy_aald hC (7) (by decide) hW 3 (i := c) (a := ad (3 * c + 11)) (rfl) rfl (by omega) (by decide) rfl dX2_fill_63 ?_
            refine lv_astore (lv' := [(4, .ref (ad (3 * c + 11))), (0, .ref (ad 0)), (1, .int (nI c)), (2, .int (nI i)), (3, .int z)]) hx hb dX2_fill_64 hl (by decide) rfl (fun ls hl => ?_)
            refine lv_aload hx hb dX2_fill_66 (lv_at hl 0 rfl) ?_
            refine cy_get hC (3 * c + 11) (by omega) hi1 hW (cy_eY_o) rfl 2 (by decide) (hts (.fieldLink RX2 127 "CaskYard$Cask" "sound" "Z") (by decide +kernel)) (fun _ h9 => h9) (v := .int (S (3 * c + 11) 2)) rfl dX2_fill_68 ?_
            refine lv_if_ne (tgt := 84) hx hb dX2_fill_71 (by decide) (fun c_71 => ?_) (fun c_71 => ?_)
            · skip
              refine lv_aload hx hb dX2_fill_84 (lv_at hl 0 rfl) ?_
              refine cy_callV (As := []) (rest := []) (q0 := 3 * c + 11) (ci := 1) hC.1 hC.2.1 hC.2.2 hW (c_X1_held (c := c) (by omega)) (cwV 0 hts gX2_fill_X1_held rfl rfl rfl (by decide +kernel) ⟨Nat.le_of_ble_eq_true rfl, Nat.le_of_ble_eq_true rfl⟩) (cy_w_at (by omega) (cy_eY_o)) rfl rfl hl.1 rfl (Nat.le_of_ble_eq_true rfl) dX2_fill_86 ⟨Nat.le_of_ble_eq_true rfl, Nat.le_of_ble_eq_true rfl⟩ (k' := 0) (n' := 0) rfl rfl (fun H locs hW => ?_)
              refine lv_iload_n hx hb dX2_fill_89 rfl (lv_at hl 4 rfl) ?_
              refine lv_iadd hx hb dX2_fill_90 ?_
              refine lv_aload hx hb dX2_fill_91 (lv_at hl 0 rfl) ?_
              refine cy_get hC (3 * c + 11) (by omega) hi1 hW (cy_eY_o) rfl 1 (by decide) (hts (.fieldLink RX2 124 "CaskYard$Cask" "room" "I") (by decide +kernel)) (fun _ h9 => h9) (v := .int (S (3 * c + 11) 1)) rfl dX2_fill_93 ?_
              refine lv_icmp_le (tgt := 109) hx hb dX2_fill_96 (by decide) (fun c_96 => ?_) (fun c_96 => ?_)
              · skip
                refine lv_aload hx hb dX2_fill_109 (lv_at hl 0 rfl) ?_
                refine cy_callV (As := []) (rest := []) (q0 := 3 * c + 11) (ci := 1) hC.1 hC.2.1 hC.2.2 hW (c_X1_countFilling (c := c)  (by omega)) (cwV 0 hts gX2_fill_X1_countFilling rfl rfl rfl (by decide +kernel) ⟨Nat.le_of_ble_eq_true rfl, Nat.le_of_ble_eq_true rfl⟩) (cy_w_at (by omega) (cy_eY_o)) rfl rfl hl.1 rfl (Nat.le_of_ble_eq_true rfl) dX2_fill_111 ⟨Nat.le_of_ble_eq_true rfl, Nat.le_of_ble_eq_true rfl⟩ (k' := 0) (n' := 0) rfl rfl (fun H locs hW => ?_)
                refine lv_aload hx hb dX2_fill_114 (lv_at hl 0 rfl) ?_
                refine cy_get hC (3 * c + 11) (by omega) hi1 hW (cy_eY_o) rfl 10 (by decide) (hts (.fieldLink RX2 206 "CaskYard$Cask" "amounts" "[I") (by decide +kernel)) (fun _ h9 => h9) (v := .ref (ad (3 * c + 13))) rfl dX2_fill_116 ?_
                refine lv_iload_n hx hb dX2_fill_119 rfl (lv_at hl 3 rfl) ?_
                refine lv_dup2_11 hx hb dX2_fill_120 rfl rfl ?_
                refine cy_iald hC (3 * c + 13) (by omega) hW 0 (i := i) (cy_eY_a) rfl (by omega) (by decide) dX2_fill_121 ?_
                refine lv_iload_n hx hb dX2_fill_122 rfl (lv_at hl 4 rfl) ?_
                refine lv_iadd hx hb dX2_fill_123 ?_
                refine cy_iast hC (3 * c + 13) (by omega) hW 0 (i := i) (cy_eY_a) rfl (by omega) (by decide) (upd ((cy_sCf S c) (3 * c + 13)) i ((((cy_sCf S c) (3 * c + 13)) i) + z)) cy_eY_a.symm (S' := (va_up (cy_sCf S c) (3 * c + 13) (upd ((cy_sCf S c) (3 * c + 13)) i ((((cy_sCf S c) (3 * c + 13)) i) + z)))) rfl dX2_fill_124 (fun H locs hW => ?_)
                refine lv_aload hx hb dX2_fill_125 (lv_at hl 0 rfl) ?_
                refine cy_callV (As := []) (rest := []) (q0 := 3 * c + 11) (ci := 1) hC.1 hC.2.1 hC.2.2 hW (c_X1_held (c := c) (by omega)) (cwV 0 hts gX2_fill_X1_held rfl rfl rfl (by decide +kernel) ⟨Nat.le_of_ble_eq_true rfl, Nat.le_of_ble_eq_true rfl⟩) (cy_w_at (by omega) (cy_rd (cy_un (by omega)) cy_eY_o)) rfl rfl hl.1 rfl (Nat.le_of_ble_eq_true rfl) dX2_fill_127 ⟨Nat.le_of_ble_eq_true rfl, Nat.le_of_ble_eq_true rfl⟩ (k' := 0) (n' := 0) rfl rfl (fun H locs hW => ?_)
                refine cy_topv (show _ = Value.int (cy_sm (upd ((cy_sCf S c) (3 * c + 13)) i ((((cy_sCf S c) (3 * c + 13)) i) + z)) 5) from by rw [cy_us]) ?_
                refine cy_topv (congrArg Value.int (show cy_sm (upd ((cy_sCf S c) (3 * c + 13)) i ((((cy_sCf S c) (3 * c + 13)) i) + z)) 5 = cy_sm (cy_nFi S (nI c).toNatClampNeg (nI i).toNatClampNeg z (3 * (nI c).toNatClampNeg + 13)) 5 from by simp only [cy_nFi, c_5, c_19, c_24, c_39, c_45, c_71, c_96, clc, cli, cy_us])) ?_
                have hW := cy_castS (show (va_up (cy_sCf S c) (3 * c + 13) (upd ((cy_sCf S c) (3 * c + 13)) i ((((cy_sCf S c) (3 * c + 13)) i) + z))) = cy_if (cy_tFi S (nI c) (nI i) z nc) (cy_nFi S (nI c).toNatClampNeg (nI i).toNatClampNeg z) S from Eq.trans (by first | (simp only [cy_nFi, c_5, c_19, c_24, c_39, c_45, c_71, c_96, clc, cli, eq_self, ↓reduceIte]; done) | (simp only [cy_nFi, c_5, c_19, c_24, c_39, c_45, c_71, c_96, clc, cli, eq_self, ↓reduceIte]; rfl) | rfl) (cy_if_n (show cy_tFi S (nI c) (nI i) z nc = none from by simp only [cy_tFi, c_5, c_19, c_24, c_39, c_45, c_71, c_96, clc, cli, eq_self, ↓reduceIte])).symm) hW
                exact hE (show cy_tFi S (nI c) (nI i) z nc = none from by simp only [cy_tFi, c_5, c_19, c_24, c_39, c_45, c_71, c_96, clc, cli, eq_self, ↓reduceIte]) _ _ _ _ _ _ (Nat.le_of_ble_eq_true rfl) (Nat.le_of_ble_eq_true rfl) hW dX2_fill_130
              · skip
                have hW := cy_castS (show S = cy_if (cy_tFi S (nI c) (nI i) z nc) (cy_nFi S (nI c).toNatClampNeg (nI i).toNatClampNeg z) S from Eq.trans (by first | (simp only [cy_nFi, c_5, c_19, c_24, c_39, c_45, c_71, c_96, clc, cli, eq_self, ↓reduceIte]; done) | (simp only [cy_nFi, c_5, c_19, c_24, c_39, c_45, c_71, c_96, clc, cli, eq_self, ↓reduceIte]; rfl) | rfl) (cy_if_s (show cy_tFi S (nI c) (nI i) z nc = some cy_IS from by simp only [cy_tFi, c_5, c_19, c_24, c_39, c_45, c_71, c_96, clc, cli, eq_self, ↓reduceIte])).symm) hW
                exact hT _ _ _ _ 99 _ [] 69 73 201 cy_IS "it would hold more than its room" cy_ok_IS (show cy_tFi S (nI c) (nI i) z nc = some cy_IS from by simp only [cy_tFi, c_5, c_19, c_24, c_39, c_45, c_71, c_96, clc, cli, eq_self, ↓reduceIte]) (Nat.le_of_ble_eq_true rfl) (Nat.le_of_ble_eq_true rfl) (Nat.le_of_ble_eq_true rfl) hW (hl.1.trans hml.symm) (by decide +kernel) hkIS hiIS hgIS dX2_fill_99 dX2_fill_102 (Or.inl ⟨dX2_fill_103, dX2_fill_105, dX2_fill_108⟩)
            · skip
              have hW := cy_castS (show S = cy_if (cy_tFi S (nI c) (nI i) z nc) (cy_nFi S (nI c).toNatClampNeg (nI i).toNatClampNeg z) S from Eq.trans (by first | (simp only [cy_nFi, c_5, c_19, c_24, c_39, c_45, c_71, clc, cli, eq_self, ↓reduceIte]; done) | (simp only [cy_nFi, c_5, c_19, c_24, c_39, c_45, c_71, clc, cli, eq_self, ↓reduceIte]; rfl) | rfl) (cy_if_s (show cy_tFi S (nI c) (nI i) z nc = some cy_IS from by simp only [cy_tFi, c_5, c_19, c_24, c_39, c_45, c_71, clc, cli, eq_self, ↓reduceIte])).symm) hW
              exact hT _ _ _ _ 74 _ [] 69 73 184 cy_IS "it is broken up" cy_ok_IS (show cy_tFi S (nI c) (nI i) z nc = some cy_IS from by simp only [cy_tFi, c_5, c_19, c_24, c_39, c_45, c_71, clc, cli, eq_self, ↓reduceIte]) (Nat.le_of_ble_eq_true rfl) (Nat.le_of_ble_eq_true rfl) (Nat.le_of_ble_eq_true rfl) hW (hl.1.trans hml.symm) (by decide +kernel) hkIS hiIS hgIS dX2_fill_74 dX2_fill_77 (Or.inl ⟨dX2_fill_78, dX2_fill_80, dX2_fill_83⟩)
          · skip
            have hW := cy_castS (show S = cy_if (cy_tFi S (nI c) (nI i) z nc) (cy_nFi S (nI c).toNatClampNeg (nI i).toNatClampNeg z) S from Eq.trans (by first | (simp only [cy_nFi, c_5, c_19, c_24, c_39, c_45, clc, cli, eq_self, ↓reduceIte]; done) | (simp only [cy_nFi, c_5, c_19, c_24, c_39, c_45, clc, cli, eq_self, ↓reduceIte]; rfl) | rfl) (cy_if_s (show cy_tFi S (nI c) (nI i) z nc = some cy_IA from by simp only [cy_tFi, c_5, c_19, c_24, c_39, c_45, clc, cli, eq_self, ↓reduceIte])).symm) hW
            exact hT _ _ _ _ 48 _ [] 57 61 199 cy_IA "amount is not 1 to 60000" cy_ok_IA (show cy_tFi S (nI c) (nI i) z nc = some cy_IA from by simp only [cy_tFi, c_5, c_19, c_24, c_39, c_45, clc, cli, eq_self, ↓reduceIte]) (Nat.le_of_ble_eq_true rfl) (Nat.le_of_ble_eq_true rfl) (Nat.le_of_ble_eq_true rfl) hW (hl.1.trans hml.symm) (by decide +kernel) hkIA hiIA hgIA dX2_fill_48 dX2_fill_51 (Or.inl ⟨dX2_fill_52, dX2_fill_54, dX2_fill_57⟩)
      · skip
        have hW := cy_castS (show S = cy_if (cy_tFi S (nI c) y z nc) (cy_nFi S (nI c).toNatClampNeg y.toNatClampNeg z) S from Eq.trans (by first | (simp only [cy_nFi, c_5, c_19, c_24, clc, eq_self, ↓reduceIte]; done) | (simp only [cy_nFi, c_5, c_19, c_24, clc, eq_self, ↓reduceIte]; rfl) | rfl) (cy_if_s (show cy_tFi S (nI c) y z nc = some cy_IA from by simp only [cy_tFi, c_5, c_19, c_24, clc, eq_self, ↓reduceIte])).symm) hW
        exact hT _ _ _ _ 27 _ [] 57 61 197 cy_IA "liquid is not 0 to 3" cy_ok_IA (show cy_tFi S (nI c) y z nc = some cy_IA from by simp only [cy_tFi, c_5, c_19, c_24, clc, eq_self, ↓reduceIte]) (Nat.le_of_ble_eq_true rfl) (Nat.le_of_ble_eq_true rfl) (Nat.le_of_ble_eq_true rfl) hW (hl.1.trans hml.symm) (by decide +kernel) hkIA hiIA hgIA dX2_fill_27 dX2_fill_30 (Or.inl ⟨dX2_fill_31, dX2_fill_33, dX2_fill_36⟩)
  · skip
    have hW := cy_castS (show S = cy_if (cy_tFi S x y z nc) (cy_nFi S x.toNatClampNeg y.toNatClampNeg z) S from Eq.trans (by first | (simp only [cy_nFi, c_5, eq_self, ↓reduceIte]; done) | (simp only [cy_nFi, c_5, eq_self, ↓reduceIte]; rfl) | rfl) (cy_if_s (show cy_tFi S x y z nc = some cy_IB from by simp only [cy_tFi, c_5, eq_self, ↓reduceIte])).symm) hW
    exact hT _ _ _ _ 8 _ [] 78 82 144 cy_IB "no such cask" cy_ok_IB (show cy_tFi S x y z nc = some cy_IB from by simp only [cy_tFi, c_5, eq_self, ↓reduceIte]) (Nat.le_of_ble_eq_true rfl) (Nat.le_of_ble_eq_true rfl) (Nat.le_of_ble_eq_true rfl) hW (hl.1.trans hml.symm) (by decide +kernel) hkIB hiIB hgIB dX2_fill_8 dX2_fill_11 (Or.inl ⟨dX2_fill_12, dX2_fill_14, dX2_fill_17⟩)
abbrev rm_X2_rack : Room := { frames := 6, cells := 1, slots := 6, locals := 90 }
set_option maxHeartbeats 4000000 in
set_option maxRecDepth 100000 in
theorem c_X2_rack {l : Launch} {D : va_G} {kI kJ kZ kC : ClassId} {ad : Nat → Nat} {S : Nat → Nat → Int32} {tl : va_W} {Z : Nat → Int64} {x y z : Int32} {nc : Nat} (hnc : S 0 9 = nI nc) (h12 : nc ≤ 12) : cy_X l yX2_rack wsX2_rack rm_X2_rack D (cy_tys kI kJ kZ kC) [.ref (ad 0), .int x, .int y, .int z] (cy_Y kI kJ kC ad S Z tl) (cy_tRk S x y z nc) (some (.int (cy_sm (cy_nRk S x y z (3 * x.toNatClampNeg + 13)) 5))) (cy_Y kI kJ kC ad (cy_if (cy_tRk S x y z nc) (cy_nRk S x y z) S) Z tl) := by
  refine cy_ofX (cc := cX2_rack) (maxL := 8) (ret := (some .int)) (i := .ireturn) (by decide) rfl rfl (Nat.le_of_ble_eq_true rfl) (by decide) (fun _ => (cy_endI rfl)) ?_
  intro p e s m args below meth co Q A ls hC hTh hE hT hW hl
  have hx := hC.1.1; have hb := hC.1.2.1; have hml := hC.1.2.2.1; have hown := hC.1.2.2.2.1; have hts := hC.1.2.2.2.2
  have hl : lv_has ls 8 [(0, .ref (ad 0)), (1, .int x), (2, .int y), (3, .int z)] := hl
  have hi1 : ∀ w ∈ u_ws RX1 TX1 11, w ∈ wsX2_rack := by decide +kernel
  have hi2 : ∀ w ∈ u_ws RX2 TX2 17, w ∈ wsX2_rack := by decide +kernel
  have hkIA : Cond.classLink RX2 57 cy_IA ∈ wsX2_rack := by decide +kernel
  have hiIA : Cond.initialized cy_IA ∈ wsX2_rack := by decide +kernel
  have hgIA : ∀ w ∈ (vx_atS RX2 61 cy_IA cy_nm).filter goodWord, w ∈ wsX2_rack := by decide +kernel
  have hkIS : Cond.classLink RX2 69 cy_IS ∈ wsX2_rack := by decide +kernel
  have hiIS : Cond.initialized cy_IS ∈ wsX2_rack := by decide +kernel
  have hgIS : ∀ w ∈ (vx_atS RX2 73 cy_IS cy_nm).filter goodWord, w ∈ wsX2_rack := by decide +kernel
  have hkIB : Cond.classLink RX2 78 cy_IB ∈ wsX2_rack := by decide +kernel
  have hiIB : Cond.initialized cy_IB ∈ wsX2_rack := by decide +kernel
  have hgIB : ∀ w ∈ (vx_atS RX2 82 cy_IB cy_nm).filter goodWord, w ∈ wsX2_rack := by decide +kernel
  refine lv_iload_n hx hb dX2_rack_0 rfl (lv_at hl 2 rfl) ?_
  refine lv_iconst (v := (-1)) hx hb dX2_rack_1 (by decide) ?_
  refine lv_icmp_ne (tgt := 9) hx hb dX2_rack_2 (by decide) (fun c_2 => ?_) (fun c_2 => ?_)
  · skip
    refine lv_iconst (v := 0) hx hb dX2_rack_9 (by decide) ?_
    refine lv_istore (lv' := [(4, .int 0), (0, .ref (ad 0)), (1, .int x), (2, .int y), (3, .int z)]) hx hb dX2_rack_10 hl (by decide) rfl (fun ls hl => ?_)
    refine lv_aload_n hx hb dX2_rack_12 rfl (lv_at hl 1 rfl) ?_
    refine lv_iload_n hx hb dX2_rack_13 rfl (lv_at hl 2 rfl) ?_
    refine cy_callV (As := [.int x]) (rest := []) (q0 := 0) (ci := 2) hC.1 hC.2.1 hC.2.2 hW (c_X2_isCask (x := x)) (cwV 1 hts gX2_rack_X2_isCask rfl rfl rfl (by decide +kernel) ⟨Nat.le_of_ble_eq_true rfl, Nat.le_of_ble_eq_true rfl⟩) (cy_w_at (by decide) (rfl)) rfl rfl hl.1 rfl (Nat.le_of_ble_eq_true rfl) dX2_rack_14 ⟨Nat.le_of_ble_eq_true rfl, Nat.le_of_ble_eq_true rfl⟩ (k' := 0) (n' := 0) rfl rfl (fun H locs hW => ?_)
    refine cy_topv (show _ = Value.int (cy_rIs x (nI nc)) from (congrArg (fun z => Value.int (cy_rIs x z)) hnc)) ?_
    refine lv_if_eq (tgt := 33) hx hb dX2_rack_17 (by decide) (fun c_17 => ?_) (fun c_17 => ?_)
    · skip
      have hW := cy_castS (show S = cy_if (cy_tRk S x y z nc) (cy_nRk S x y z) S from Eq.trans (by first | (simp only [cy_nRk, c_2, c_17, eq_self, ↓reduceIte]; done) | (simp only [cy_nRk, c_2, c_17, eq_self, ↓reduceIte]; rfl) | rfl) (cy_if_s (show cy_tRk S x y z nc = some cy_IB from by simp only [cy_tRk, c_2, c_17, eq_self, ↓reduceIte])).symm) hW
      exact hT _ _ _ _ 33 _ [] 78 82 144 cy_IB "no such cask" cy_ok_IB (show cy_tRk S x y z nc = some cy_IB from by simp only [cy_tRk, c_2, c_17, eq_self, ↓reduceIte]) (Nat.le_of_ble_eq_true rfl) (Nat.le_of_ble_eq_true rfl) (Nat.le_of_ble_eq_true rfl) hW (hl.1.trans hml.symm) (by decide +kernel) hkIB hiIB hgIB dX2_rack_33 dX2_rack_36 (Or.inl ⟨dX2_rack_37, dX2_rack_39, dX2_rack_42⟩)
    · skip
      obtain ⟨c, hc, rfl⟩ := cy_rIs_t (by omega) c_17
      have clc : (nI c).toNatClampNeg = c := nI_clamp (by omega)
      have hl : lv_has ls 8 [(4, .int 0), (0, .ref (ad 0)), (1, .int (nI c)), (2, .int y), (3, .int z)] := hl
      refine lv_iload hx hb dX2_rack_20 (lv_at hl 0 rfl) ?_
      refine lv_if_ne (tgt := 43) hx hb dX2_rack_22 (by decide) (fun c_22 => ?_) (fun c_22 => ?_)
      · exact absurd c_22 (by decide)
      · skip
        refine lv_aload_n hx hb dX2_rack_25 rfl (lv_at hl 1 rfl) ?_
        refine lv_iload_n hx hb dX2_rack_26 rfl (lv_at hl 3 rfl) ?_
        refine cy_callV (As := [.int y]) (rest := []) (q0 := 0) (ci := 2) hC.1 hC.2.1 hC.2.2 hW (c_X2_isCask (x := y)) (cwV 1 hts gX2_rack_X2_isCask rfl rfl rfl (by decide +kernel) ⟨Nat.le_of_ble_eq_true rfl, Nat.le_of_ble_eq_true rfl⟩) (cy_w_at (by decide) (rfl)) rfl rfl hl.1 rfl (Nat.le_of_ble_eq_true rfl) dX2_rack_27 ⟨Nat.le_of_ble_eq_true rfl, Nat.le_of_ble_eq_true rfl⟩ (k' := 0) (n' := 0) rfl rfl (fun H locs hW => ?_)
        refine cy_topv (show _ = Value.int (cy_rIs y (nI nc)) from (congrArg (fun z => Value.int (cy_rIs y z)) hnc)) ?_
        refine lv_if_ne (tgt := 43) hx hb dX2_rack_30 (by decide) (fun c_30 => ?_) (fun c_30 => ?_)
        · skip
          obtain ⟨d, hd, rfl⟩ := cy_rIs_t (by omega) c_30
          have cld : (nI d).toNatClampNeg = d := nI_clamp (by omega)
          have hl : lv_has ls 8 [(4, .int 0), (0, .ref (ad 0)), (1, .int (nI c)), (2, .int (nI d)), (3, .int z)] := hl
          refine lv_iload_n hx hb dX2_rack_43 rfl (lv_at hl 2 rfl) ?_
          refine lv_iload_n hx hb dX2_rack_44 rfl (lv_at hl 3 rfl) ?_
          refine lv_icmp_ne (tgt := 58) hx hb dX2_rack_45 (by decide) (fun c_45 => ?_) (fun c_45 => ?_)
          · skip
            have q_45 := cy_ne (a := c) (b := d) (by omega) (by omega) c_45
            have hcd : c ≠ 12 := by omega
            refine lv_iload_n hx hb dX2_rack_58 rfl (lv_at hl 4 rfl) ?_
            refine lv_iconst (v := 1) hx hb dX2_rack_59 (by decide) ?_
            refine lv_icmp_lt (tgt := 69) hx hb dX2_rack_60 (by decide) (fun c_60 => ?_) (fun c_60 => ?_)
            · skip
              have hW := cy_castS (show S = cy_if (cy_tRk S (nI c) (nI d) z nc) (cy_nRk S (nI c) (nI d) z) S from Eq.trans (by first | (simp only [cy_nRk, c_2, c_17, c_22, c_30, c_45, c_60, clc, cld, eq_self, ↓reduceIte]; done) | (simp only [cy_nRk, c_2, c_17, c_22, c_30, c_45, c_60, clc, cld, eq_self, ↓reduceIte]; rfl) | rfl) (cy_if_s (show cy_tRk S (nI c) (nI d) z nc = some cy_IA from by simp only [cy_tRk, c_2, c_17, c_22, c_30, c_45, c_60, clc, cld, eq_self, ↓reduceIte])).symm) hW
              exact hT _ _ _ _ 69 _ [] 57 61 199 cy_IA "amount is not 1 to 60000" cy_ok_IA (show cy_tRk S (nI c) (nI d) z nc = some cy_IA from by simp only [cy_tRk, c_2, c_17, c_22, c_30, c_45, c_60, clc, cld, eq_self, ↓reduceIte]) (Nat.le_of_ble_eq_true rfl) (Nat.le_of_ble_eq_true rfl) (Nat.le_of_ble_eq_true rfl) hW (hl.1.trans hml.symm) (by decide +kernel) hkIA hiIA hgIA dX2_rack_69 dX2_rack_72 (Or.inl ⟨dX2_rack_73, dX2_rack_75, dX2_rack_78⟩)
            · skip
              refine lv_iload_n hx hb dX2_rack_63 rfl (lv_at hl 4 rfl) ?_
              refine lv_ldc (v := 60000) hx hb hown (hts (.constant RX2 87 60000) (by decide +kernel)) dX2_rack_64 ?_
              refine lv_icmp_le (tgt := 79) hx hb dX2_rack_66 (by decide) (fun c_66 => ?_) (fun c_66 => ?_)
              · skip
                refine lv_aload_n hx hb dX2_rack_79 rfl (lv_at hl 1 rfl) ?_
                refine cy_get hC (0) (by decide) hi2 hW (rfl) rfl 8 (by decide) (hts (.fieldLink RX2 30 "CaskYard" "casks" "[LCaskYard$Cask;") (by decide +kernel)) (fun _ h9 => h9) (v := .ref (ad 7)) rfl dX2_rack_80 ?_
                refine lv_iload_n hx hb dX2_rack_83 rfl (lv_at hl 2 rfl) ?_
                refine cy_aald hC (7) (by decide) hW 3 (i := c) (a := ad (3 * c + 11)) (rfl) rfl (by omega) (by decide) rfl dX2_rack_84 ?_
                refine lv_astore (lv' := [(5, .ref (ad (3 * c + 11))), (4, .int 0), (0, .ref (ad 0)), (1, .int (nI c)), (2, .int (nI d)), (3, .int z)]) hx hb dX2_rack_85 hl (by decide) rfl (fun ls hl => ?_)
                refine lv_iload hx hb dX2_rack_87 (lv_at hl 1 rfl) ?_
                refine lv_if_eq (tgt := 99) hx hb dX2_rack_89 (by decide) (fun c_89 => ?_) (fun c_89 => ?_)
                · skip
                  refine lv_aload_n hx hb dX2_rack_99 rfl (lv_at hl 2 rfl) ?_
                  refine cy_get hC (0) (by decide) hi2 hW (rfl) rfl 8 (by decide) (hts (.fieldLink RX2 30 "CaskYard" "casks" "[LCaskYard$Cask;") (by decide +kernel)) (fun _ h9 => h9) (v := .ref (ad 7)) rfl dX2_rack_100 ?_
                  refine lv_iload_n hx hb dX2_rack_103 rfl (lv_at hl 4 rfl) ?_
                  refine cy_aald hC (7) (by decide) hW 3 (i := d) (a := ad (3 * d + 11)) (rfl) rfl (by omega) (by decide) rfl dX2_rack_104 ?_
                  refine lv_astore (lv' := [(6, .ref (ad (3 * d + 11))), (5, .ref (ad (3 * c + 11))), (4, .int 0), (0, .ref (ad 0)), (1, .int (nI c)), (2, .int (nI d)), (3, .int z)]) hx hb dX2_rack_105 hl (by decide) rfl (fun ls hl => ?_)
                  refine lv_aload hx hb dX2_rack_107 (lv_at hl 1 rfl) ?_
                  refine cy_get hC (3 * c + 11) (by omega) hi1 hW (cy_eY_o) rfl 2 (by decide) (hts (.fieldLink RX2 127 "CaskYard$Cask" "sound" "Z") (by decide +kernel)) (fun _ h9 => h9) (v := .int (S (3 * c + 11) 2)) rfl dX2_rack_109 ?_
                  refine lv_if_eq (tgt := 128) hx hb dX2_rack_112 (by decide) (fun c_112 => ?_) (fun c_112 => ?_)
                  · skip
                    have hW := cy_castS (show S = cy_if (cy_tRk S (nI c) (nI d) z nc) (cy_nRk S (nI c) (nI d) z) S from Eq.trans (by first | (simp only [cy_nRk, c_2, c_17, c_22, c_30, c_45, c_60, c_66, c_89, c_112, clc, cld, eq_self, ↓reduceIte]; done) | (simp only [cy_nRk, c_2, c_17, c_22, c_30, c_45, c_60, c_66, c_89, c_112, clc, cld, eq_self, ↓reduceIte]; rfl) | rfl) (cy_if_s (show cy_tRk S (nI c) (nI d) z nc = some cy_IS from by simp only [cy_tRk, c_2, c_17, c_22, c_30, c_45, c_60, c_66, c_89, c_112, clc, cld, eq_self, ↓reduceIte])).symm) hW
                    exact hT _ _ _ _ 128 _ [] 69 73 211 cy_IS "one of them is broken up" cy_ok_IS (show cy_tRk S (nI c) (nI d) z nc = some cy_IS from by simp only [cy_tRk, c_2, c_17, c_22, c_30, c_45, c_60, c_66, c_89, c_112, clc, cld, eq_self, ↓reduceIte]) (Nat.le_of_ble_eq_true rfl) (Nat.le_of_ble_eq_true rfl) (Nat.le_of_ble_eq_true rfl) hW (hl.1.trans hml.symm) (by decide +kernel) hkIS hiIS hgIS dX2_rack_128 dX2_rack_131 (Or.inl ⟨dX2_rack_132, dX2_rack_134, dX2_rack_137⟩)
                  · skip
                    refine lv_iload hx hb dX2_rack_115 (lv_at hl 2 rfl) ?_
                    refine lv_if_ne (tgt := 138) hx hb dX2_rack_117 (by decide) (fun c_117 => ?_) (fun c_117 => ?_)
                    · exact absurd c_117 (by decide)
                    · skip
                      refine lv_aload hx hb dX2_rack_120 (lv_at hl 0 rfl) ?_
                      refine cy_get hC (3 * d + 11) (by omega) hi1 hW (cy_eY_o) rfl 2 (by decide) (hts (.fieldLink RX2 127 "CaskYard$Cask" "sound" "Z") (by decide +kernel)) (fun _ h9 => h9) (v := .int (S (3 * d + 11) 2)) rfl dX2_rack_122 ?_
                      refine lv_if_ne (tgt := 138) hx hb dX2_rack_125 (by decide) (fun c_125 => ?_) (fun c_125 => ?_)
                      · skip
                        refine lv_aload hx hb dX2_rack_138 (lv_at hl 1 rfl) ?_
                        refine cy_callV (As := []) (rest := []) (q0 := 3 * c + 11) (ci := 1) hC.1 hC.2.1 hC.2.2 hW (c_X1_held (c := c) (by omega)) (cwV 0 hts gX2_rack_X1_held rfl rfl rfl (by decide +kernel) ⟨Nat.le_of_ble_eq_true rfl, Nat.le_of_ble_eq_true rfl⟩) (cy_w_at (by omega) (cy_eY_o)) rfl rfl hl.1 rfl (Nat.le_of_ble_eq_true rfl) dX2_rack_140 ⟨Nat.le_of_ble_eq_true rfl, Nat.le_of_ble_eq_true rfl⟩ (k' := 0) (n' := 0) rfl rfl (fun H locs hW => ?_)
                        refine lv_istore (lv' := [(7, .int (cy_sm (S (3 * c + 13)) 5)), (6, .ref (ad (3 * d + 11))), (5, .ref (ad (3 * c + 11))), (4, .int 0), (0, .ref (ad 0)), (1, .int (nI c)), (2, .int (nI d)), (3, .int z)]) hx hb dX2_rack_143 hl (by decide) rfl (fun ls hl => ?_)
                        refine lv_iload hx hb dX2_rack_145 (lv_at hl 0 rfl) ?_
                        refine lv_iload_n hx hb dX2_rack_147 rfl (lv_at hl 7 rfl) ?_
                        refine lv_icmp_ge (tgt := 161) hx hb dX2_rack_148 (by decide) (fun c_148 => ?_) (fun c_148 => ?_)
                        · skip
                          refine lv_iload hx hb dX2_rack_161 (lv_at hl 3 rfl) ?_
                          refine lv_if_ne (tgt := 191) hx hb dX2_rack_163 (by decide) (fun c_163 => ?_) (fun c_163 => ?_)
                          · exact absurd c_163 (by decide)
                          · skip
                            refine lv_aload hx hb dX2_rack_166 (lv_at hl 1 rfl) ?_
                            refine cy_callV (As := []) (rest := []) (q0 := 3 * d + 11) (ci := 1) hC.1 hC.2.1 hC.2.2 hW (c_X1_held (c := d) (by omega)) (cwV 0 hts gX2_rack_X1_held rfl rfl rfl (by decide +kernel) ⟨Nat.le_of_ble_eq_true rfl, Nat.le_of_ble_eq_true rfl⟩) (cy_w_at (by omega) (cy_eY_o)) rfl rfl hl.1 rfl (Nat.le_of_ble_eq_true rfl) dX2_rack_168 ⟨Nat.le_of_ble_eq_true rfl, Nat.le_of_ble_eq_true rfl⟩ (k' := 0) (n' := 0) rfl rfl (fun H locs hW => ?_)
                            refine lv_iload_n hx hb dX2_rack_171 rfl (lv_at hl 7 rfl) ?_
                            refine lv_iadd hx hb dX2_rack_172 ?_
                            refine lv_aload hx hb dX2_rack_173 (lv_at hl 1 rfl) ?_
                            refine cy_get hC (3 * d + 11) (by omega) hi1 hW (cy_eY_o) rfl 1 (by decide) (hts (.fieldLink RX2 124 "CaskYard$Cask" "room" "I") (by decide +kernel)) (fun _ h9 => h9) (v := .int (S (3 * d + 11) 1)) rfl dX2_rack_175 ?_
                            refine lv_icmp_le (tgt := 191) hx hb dX2_rack_178 (by decide) (fun c_178 => ?_) (fun c_178 => ?_)
                            · skip
                              refine lv_iload hx hb dX2_rack_191 (lv_at hl 3 rfl) ?_
                              refine lv_if_eq (tgt := 203) hx hb dX2_rack_193 (by decide) (fun c_193 => ?_) (fun c_193 => ?_)
                              · skip
                                refine lv_aload hx hb dX2_rack_203 (lv_at hl 1 rfl) ?_
                                refine cy_callV (As := []) (rest := []) (q0 := 3 * d + 11) (ci := 1) hC.1 hC.2.1 hC.2.2 hW (c_X1_countFilling (c := d)  (by omega)) (cwV 0 hts gX2_rack_X1_countFilling rfl rfl rfl (by decide +kernel) ⟨Nat.le_of_ble_eq_true rfl, Nat.le_of_ble_eq_true rfl⟩) (cy_w_at (by omega) (cy_eY_o)) rfl rfl hl.1 rfl (Nat.le_of_ble_eq_true rfl) dX2_rack_205 ⟨Nat.le_of_ble_eq_true rfl, Nat.le_of_ble_eq_true rfl⟩ (k' := 0) (n' := 0) rfl rfl (fun H locs hW => ?_)
                                refine lv_aload hx hb dX2_rack_208 (lv_at hl 2 rfl) ?_
                                refine lv_aload hx hb dX2_rack_210 (lv_at hl 1 rfl) ?_
                                refine lv_iload_n hx hb dX2_rack_212 rfl (lv_at hl 7 rfl) ?_
                                refine lv_iload hx hb dX2_rack_213 (lv_at hl 0 rfl) ?_
                                refine cy_callV (As := [.ref (ad (3 * d + 11)), .int z, .int (cy_sm (S (3 * c + 13)) 5)]) (rest := []) (q0 := 3 * c + 11) (ci := 1) hC.1 hC.2.1 hC.2.2 hW (c_X1_moveTo (c := c) (d := d) (x := z) (al := (cy_sm (S (3 * c + 13)) 5)) (by omega) (by omega) (cy_pos c_60 c_148) (by omega)) (cwV 3 hts gX2_rack_X1_moveTo rfl rfl rfl (by decide +kernel) ⟨Nat.le_of_ble_eq_true rfl, Nat.le_of_ble_eq_true rfl⟩) (cy_w_at (by omega) (cy_eY_o)) rfl rfl hl.1 rfl (Nat.le_of_ble_eq_true rfl) dX2_rack_215 ⟨Nat.le_of_ble_eq_true rfl, Nat.le_of_ble_eq_true rfl⟩ (k' := 0) (n' := 0) rfl rfl (fun H locs hW => ?_)
                                refine lv_aload hx hb dX2_rack_218 (lv_at hl 2 rfl) ?_
                                refine cy_callV (As := []) (rest := []) (q0 := 3 * c + 11) (ci := 1) hC.1 hC.2.1 hC.2.2 hW (c_X1_held (c := c) (by omega)) (cwV 0 hts gX2_rack_X1_held rfl rfl rfl (by decide +kernel) ⟨Nat.le_of_ble_eq_true rfl, Nat.le_of_ble_eq_true rfl⟩) (cy_w_at (by omega) (cy_eY_o)) rfl rfl hl.1 rfl (Nat.le_of_ble_eq_true rfl) dX2_rack_220 ⟨Nat.le_of_ble_eq_true rfl, Nat.le_of_ble_eq_true rfl⟩ (k' := 0) (n' := 0) rfl rfl (fun H locs hW => ?_)
                                refine cy_topv (congrArg Value.int (show cy_sm ((cy_sMv (cy_sCf S d) c d z (cy_sm (S (3 * c + 13)) 5)) (3 * c + 13)) 5 = cy_sm (cy_nRk S (nI c) (nI d) z (3 * (nI c).toNatClampNeg + 13)) 5 from by simp only [cy_nRk, c_2, c_17, c_22, c_30, c_45, c_60, c_66, c_89, c_112, c_117, c_125, c_148, c_163, c_178, c_193, clc, cld, ↓reduceIte])) ?_
                                have hW := cy_castS (show (cy_sMv (cy_sCf S d) c d z (cy_sm (S (3 * c + 13)) 5)) = cy_if (cy_tRk S (nI c) (nI d) z nc) (cy_nRk S (nI c) (nI d) z) S from Eq.trans (by first | (simp only [cy_nRk, c_2, c_17, c_22, c_30, c_45, c_60, c_66, c_89, c_112, c_117, c_125, c_148, c_163, c_178, c_193, clc, cld, eq_self, ↓reduceIte]; done) | (simp only [cy_nRk, c_2, c_17, c_22, c_30, c_45, c_60, c_66, c_89, c_112, c_117, c_125, c_148, c_163, c_178, c_193, clc, cld, eq_self, ↓reduceIte]; rfl) | rfl) (cy_if_n (show cy_tRk S (nI c) (nI d) z nc = none from by simp only [cy_tRk, c_2, c_17, c_22, c_30, c_45, c_60, c_66, c_89, c_112, c_117, c_125, c_148, c_163, c_178, c_193, clc, cld, eq_self, ↓reduceIte])).symm) hW
                                exact hE (show cy_tRk S (nI c) (nI d) z nc = none from by simp only [cy_tRk, c_2, c_17, c_22, c_30, c_45, c_60, c_66, c_89, c_112, c_117, c_125, c_148, c_163, c_178, c_193, clc, cld, eq_self, ↓reduceIte]) _ _ _ _ _ _ (Nat.le_of_ble_eq_true rfl) (Nat.le_of_ble_eq_true rfl) hW dX2_rack_223
                              · exact absurd c_193 (by decide)
                            · skip
                              have hW := cy_castS (show S = cy_if (cy_tRk S (nI c) (nI d) z nc) (cy_nRk S (nI c) (nI d) z) S from Eq.trans (by first | (simp only [cy_nRk, c_2, c_17, c_22, c_30, c_45, c_60, c_66, c_89, c_112, c_117, c_125, c_148, c_163, c_178, clc, cld, eq_self, ↓reduceIte]; done) | (simp only [cy_nRk, c_2, c_17, c_22, c_30, c_45, c_60, c_66, c_89, c_112, c_117, c_125, c_148, c_163, c_178, clc, cld, eq_self, ↓reduceIte]; rfl) | rfl) (cy_if_s (show cy_tRk S (nI c) (nI d) z nc = some cy_IS from by simp only [cy_tRk, c_2, c_17, c_22, c_30, c_45, c_60, c_66, c_89, c_112, c_117, c_125, c_148, c_163, c_178, clc, cld, eq_self, ↓reduceIte])).symm) hW
                              exact hT _ _ _ _ 181 _ [] 69 73 215 cy_IS "the second one would hold more than its room" cy_ok_IS (show cy_tRk S (nI c) (nI d) z nc = some cy_IS from by simp only [cy_tRk, c_2, c_17, c_22, c_30, c_45, c_60, c_66, c_89, c_112, c_117, c_125, c_148, c_163, c_178, clc, cld, eq_self, ↓reduceIte]) (Nat.le_of_ble_eq_true rfl) (Nat.le_of_ble_eq_true rfl) (Nat.le_of_ble_eq_true rfl) hW (hl.1.trans hml.symm) (by decide +kernel) hkIS hiIS hgIS dX2_rack_181 dX2_rack_184 (Or.inl ⟨dX2_rack_185, dX2_rack_187, dX2_rack_190⟩)
                        · skip
                          have hW := cy_castS (show S = cy_if (cy_tRk S (nI c) (nI d) z nc) (cy_nRk S (nI c) (nI d) z) S from Eq.trans (by first | (simp only [cy_nRk, c_2, c_17, c_22, c_30, c_45, c_60, c_66, c_89, c_112, c_117, c_125, c_148, clc, cld, eq_self, ↓reduceIte]; done) | (simp only [cy_nRk, c_2, c_17, c_22, c_30, c_45, c_60, c_66, c_89, c_112, c_117, c_125, c_148, clc, cld, eq_self, ↓reduceIte]; rfl) | rfl) (cy_if_s (show cy_tRk S (nI c) (nI d) z nc = some cy_IS from by simp only [cy_tRk, c_2, c_17, c_22, c_30, c_45, c_60, c_66, c_89, c_112, c_117, c_125, c_148, clc, cld, eq_self, ↓reduceIte])).symm) hW
                          exact hT _ _ _ _ 151 _ [] 69 73 213 cy_IS "the first one holds less" cy_ok_IS (show cy_tRk S (nI c) (nI d) z nc = some cy_IS from by simp only [cy_tRk, c_2, c_17, c_22, c_30, c_45, c_60, c_66, c_89, c_112, c_117, c_125, c_148, clc, cld, eq_self, ↓reduceIte]) (Nat.le_of_ble_eq_true rfl) (Nat.le_of_ble_eq_true rfl) (Nat.le_of_ble_eq_true rfl) hW (hl.1.trans hml.symm) (by decide +kernel) hkIS hiIS hgIS dX2_rack_151 dX2_rack_154 (Or.inl ⟨dX2_rack_155, dX2_rack_157, dX2_rack_160⟩)
                      · skip
                        have hW := cy_castS (show S = cy_if (cy_tRk S (nI c) (nI d) z nc) (cy_nRk S (nI c) (nI d) z) S from Eq.trans (by first | (simp only [cy_nRk, c_2, c_17, c_22, c_30, c_45, c_60, c_66, c_89, c_112, c_117, c_125, clc, cld, eq_self, ↓reduceIte]; done) | (simp only [cy_nRk, c_2, c_17, c_22, c_30, c_45, c_60, c_66, c_89, c_112, c_117, c_125, clc, cld, eq_self, ↓reduceIte]; rfl) | rfl) (cy_if_s (show cy_tRk S (nI c) (nI d) z nc = some cy_IS from by simp only [cy_tRk, c_2, c_17, c_22, c_30, c_45, c_60, c_66, c_89, c_112, c_117, c_125, clc, cld, eq_self, ↓reduceIte])).symm) hW
                        exact hT _ _ _ _ 128 _ [] 69 73 211 cy_IS "one of them is broken up" cy_ok_IS (show cy_tRk S (nI c) (nI d) z nc = some cy_IS from by simp only [cy_tRk, c_2, c_17, c_22, c_30, c_45, c_60, c_66, c_89, c_112, c_117, c_125, clc, cld, eq_self, ↓reduceIte]) (Nat.le_of_ble_eq_true rfl) (Nat.le_of_ble_eq_true rfl) (Nat.le_of_ble_eq_true rfl) hW (hl.1.trans hml.symm) (by decide +kernel) hkIS hiIS hgIS dX2_rack_128 dX2_rack_131 (Or.inl ⟨dX2_rack_132, dX2_rack_134, dX2_rack_137⟩)
                · exact absurd c_89 (by decide)
              · skip
                have hW := cy_castS (show S = cy_if (cy_tRk S (nI c) (nI d) z nc) (cy_nRk S (nI c) (nI d) z) S from Eq.trans (by first | (simp only [cy_nRk, c_2, c_17, c_22, c_30, c_45, c_60, c_66, clc, cld, eq_self, ↓reduceIte]; done) | (simp only [cy_nRk, c_2, c_17, c_22, c_30, c_45, c_60, c_66, clc, cld, eq_self, ↓reduceIte]; rfl) | rfl) (cy_if_s (show cy_tRk S (nI c) (nI d) z nc = some cy_IA from by simp only [cy_tRk, c_2, c_17, c_22, c_30, c_45, c_60, c_66, clc, cld, eq_self, ↓reduceIte])).symm) hW
                exact hT _ _ _ _ 69 _ [] 57 61 199 cy_IA "amount is not 1 to 60000" cy_ok_IA (show cy_tRk S (nI c) (nI d) z nc = some cy_IA from by simp only [cy_tRk, c_2, c_17, c_22, c_30, c_45, c_60, c_66, clc, cld, eq_self, ↓reduceIte]) (Nat.le_of_ble_eq_true rfl) (Nat.le_of_ble_eq_true rfl) (Nat.le_of_ble_eq_true rfl) hW (hl.1.trans hml.symm) (by decide +kernel) hkIA hiIA hgIA dX2_rack_69 dX2_rack_72 (Or.inl ⟨dX2_rack_73, dX2_rack_75, dX2_rack_78⟩)
          · skip
            have q_45 := cy_eq (a := c) (b := d) (by omega) (by omega) c_45
            have hW := cy_castS (show S = cy_if (cy_tRk S (nI c) (nI d) z nc) (cy_nRk S (nI c) (nI d) z) S from Eq.trans (by first | (simp only [cy_nRk, c_2, c_17, c_22, c_30, c_45, clc, cld, eq_self, ↓reduceIte]; done) | (simp only [cy_nRk, c_2, c_17, c_22, c_30, c_45, clc, cld, eq_self, ↓reduceIte]; rfl) | rfl) (cy_if_s (show cy_tRk S (nI c) (nI d) z nc = some cy_IA from by simp only [cy_tRk, c_2, c_17, c_22, c_30, c_45, clc, cld, eq_self, ↓reduceIte])).symm) hW
            exact hT _ _ _ _ 48 _ [] 57 61 209 cy_IA "both are the same" cy_ok_IA (show cy_tRk S (nI c) (nI d) z nc = some cy_IA from by simp only [cy_tRk, c_2, c_17, c_22, c_30, c_45, clc, cld, eq_self, ↓reduceIte]) (Nat.le_of_ble_eq_true rfl) (Nat.le_of_ble_eq_true rfl) (Nat.le_of_ble_eq_true rfl) hW (hl.1.trans hml.symm) (by decide +kernel) hkIA hiIA hgIA dX2_rack_48 dX2_rack_51 (Or.inl ⟨dX2_rack_52, dX2_rack_54, dX2_rack_57⟩)
        · skip
          have hW := cy_castS (show S = cy_if (cy_tRk S (nI c) y z nc) (cy_nRk S (nI c) y z) S from Eq.trans (by first | (simp only [cy_nRk, c_2, c_17, c_22, c_30, clc, eq_self, ↓reduceIte]; done) | (simp only [cy_nRk, c_2, c_17, c_22, c_30, clc, eq_self, ↓reduceIte]; rfl) | rfl) (cy_if_s (show cy_tRk S (nI c) y z nc = some cy_IB from by simp only [cy_tRk, c_2, c_17, c_22, c_30, clc, eq_self, ↓reduceIte])).symm) hW
          exact hT _ _ _ _ 33 _ [] 78 82 144 cy_IB "no such cask" cy_ok_IB (show cy_tRk S (nI c) y z nc = some cy_IB from by simp only [cy_tRk, c_2, c_17, c_22, c_30, clc, eq_self, ↓reduceIte]) (Nat.le_of_ble_eq_true rfl) (Nat.le_of_ble_eq_true rfl) (Nat.le_of_ble_eq_true rfl) hW (hl.1.trans hml.symm) (by decide +kernel) hkIB hiIB hgIB dX2_rack_33 dX2_rack_36 (Or.inl ⟨dX2_rack_37, dX2_rack_39, dX2_rack_42⟩)
  · skip
    subst c_2
    have hl : lv_has ls 8 [(0, .ref (ad 0)), (1, .int x), (2, .int (-1)), (3, .int z)] := hl
    refine lv_iconst (v := 1) hx hb dX2_rack_5 (by decide) ?_
    refine lv_goto (tgt := 10) hx hb dX2_rack_6 (by decide) ?_
    refine lv_istore (lv' := [(4, .int 1), (0, .ref (ad 0)), (1, .int x), (2, .int (-1)), (3, .int z)]) hx hb dX2_rack_10 hl (by decide) rfl (fun ls hl => ?_)
    refine lv_aload_n hx hb dX2_rack_12 rfl (lv_at hl 1 rfl) ?_
    refine lv_iload_n hx hb dX2_rack_13 rfl (lv_at hl 2 rfl) ?_
    refine cy_callV (As := [.int x]) (rest := []) (q0 := 0) (ci := 2) hC.1 hC.2.1 hC.2.2 hW (c_X2_isCask (x := x)) (cwV 1 hts gX2_rack_X2_isCask rfl rfl rfl (by decide +kernel) ⟨Nat.le_of_ble_eq_true rfl, Nat.le_of_ble_eq_true rfl⟩) (cy_w_at (by decide) (rfl)) rfl rfl hl.1 rfl (Nat.le_of_ble_eq_true rfl) dX2_rack_14 ⟨Nat.le_of_ble_eq_true rfl, Nat.le_of_ble_eq_true rfl⟩ (k' := 0) (n' := 0) rfl rfl (fun H locs hW => ?_)
    refine cy_topv (show _ = Value.int (cy_rIs x (nI nc)) from (congrArg (fun z => Value.int (cy_rIs x z)) hnc)) ?_
    refine lv_if_eq (tgt := 33) hx hb dX2_rack_17 (by decide) (fun c_17 => ?_) (fun c_17 => ?_)
    · skip
      have hW := cy_castS (show S = cy_if (cy_tRk S x (-1) z nc) (cy_nRk S x (-1) z) S from Eq.trans (by first | (simp only [cy_nRk, c_17, eq_self, ↓reduceIte]; done) | (simp only [cy_nRk, c_17, eq_self, ↓reduceIte]; rfl) | rfl) (cy_if_s (show cy_tRk S x (-1) z nc = some cy_IB from by simp only [cy_tRk, c_17, eq_self, ↓reduceIte])).symm) hW
      exact hT _ _ _ _ 33 _ [] 78 82 144 cy_IB "no such cask" cy_ok_IB (show cy_tRk S x (-1) z nc = some cy_IB from by simp only [cy_tRk, c_17, eq_self, ↓reduceIte]) (Nat.le_of_ble_eq_true rfl) (Nat.le_of_ble_eq_true rfl) (Nat.le_of_ble_eq_true rfl) hW (hl.1.trans hml.symm) (by decide +kernel) hkIB hiIB hgIB dX2_rack_33 dX2_rack_36 (Or.inl ⟨dX2_rack_37, dX2_rack_39, dX2_rack_42⟩)
    · skip
      obtain ⟨c, hc, rfl⟩ := cy_rIs_t (by omega) c_17
      have clc : (nI c).toNatClampNeg = c := nI_clamp (by omega)
      have hl : lv_has ls 8 [(4, .int 1), (0, .ref (ad 0)), (1, .int (nI c)), (2, .int (-1)), (3, .int z)] := hl
      refine lv_iload hx hb dX2_rack_20 (lv_at hl 0 rfl) ?_
      refine lv_if_ne (tgt := 43) hx hb dX2_rack_22 (by decide) (fun c_22 => ?_) (fun c_22 => ?_)
      · skip
        refine lv_iload_n hx hb dX2_rack_43 rfl (lv_at hl 2 rfl) ?_
        refine lv_iload_n hx hb dX2_rack_44 rfl (lv_at hl 3 rfl) ?_
        refine lv_icmp_ne (tgt := 58) hx hb dX2_rack_45 (by decide) (fun c_45 => ?_) (fun c_45 => ?_)
        · skip
          have hcd : c ≠ 12 := by omega
          refine lv_iload_n hx hb dX2_rack_58 rfl (lv_at hl 4 rfl) ?_
          refine lv_iconst (v := 1) hx hb dX2_rack_59 (by decide) ?_
          refine lv_icmp_lt (tgt := 69) hx hb dX2_rack_60 (by decide) (fun c_60 => ?_) (fun c_60 => ?_)
          · skip
            have hW := cy_castS (show S = cy_if (cy_tRk S (nI c) (-1) z nc) (cy_nRk S (nI c) (-1) z) S from Eq.trans (by first | (simp only [cy_nRk, c_17, c_22, c_45, c_60, clc, eq_self, ↓reduceIte]; done) | (simp only [cy_nRk, c_17, c_22, c_45, c_60, clc, eq_self, ↓reduceIte]; rfl) | rfl) (cy_if_s (show cy_tRk S (nI c) (-1) z nc = some cy_IA from by simp only [cy_tRk, c_17, c_22, c_45, c_60, clc, eq_self, ↓reduceIte])).symm) hW
            exact hT _ _ _ _ 69 _ [] 57 61 199 cy_IA "amount is not 1 to 60000" cy_ok_IA (show cy_tRk S (nI c) (-1) z nc = some cy_IA from by simp only [cy_tRk, c_17, c_22, c_45, c_60, clc, eq_self, ↓reduceIte]) (Nat.le_of_ble_eq_true rfl) (Nat.le_of_ble_eq_true rfl) (Nat.le_of_ble_eq_true rfl) hW (hl.1.trans hml.symm) (by decide +kernel) hkIA hiIA hgIA dX2_rack_69 dX2_rack_72 (Or.inl ⟨dX2_rack_73, dX2_rack_75, dX2_rack_78⟩)
          · skip
            refine lv_iload_n hx hb dX2_rack_63 rfl (lv_at hl 4 rfl) ?_
            refine lv_ldc (v := 60000) hx hb hown (hts (.constant RX2 87 60000) (by decide +kernel)) dX2_rack_64 ?_
            refine lv_icmp_le (tgt := 79) hx hb dX2_rack_66 (by decide) (fun c_66 => ?_) (fun c_66 => ?_)
            · skip
              refine lv_aload_n hx hb dX2_rack_79 rfl (lv_at hl 1 rfl) ?_
              refine cy_get hC (0) (by decide) hi2 hW (rfl) rfl 8 (by decide) (hts (.fieldLink RX2 30 "CaskYard" "casks" "[LCaskYard$Cask;") (by decide +kernel)) (fun _ h9 => h9) (v := .ref (ad 7)) rfl dX2_rack_80 ?_
              refine lv_iload_n hx hb dX2_rack_83 rfl (lv_at hl 2 rfl) ?_
              refine cy_aald hC (7) (by decide) hW 3 (i := c) (a := ad (3 * c + 11)) (rfl) rfl (by omega) (by decide) rfl dX2_rack_84 ?_
              refine lv_astore (lv' := [(5, .ref (ad (3 * c + 11))), (4, .int 1), (0, .ref (ad 0)), (1, .int (nI c)), (2, .int (-1)), (3, .int z)]) hx hb dX2_rack_85 hl (by decide) rfl (fun ls hl => ?_)
              refine lv_iload hx hb dX2_rack_87 (lv_at hl 1 rfl) ?_
              refine lv_if_eq (tgt := 99) hx hb dX2_rack_89 (by decide) (fun c_89 => ?_) (fun c_89 => ?_)
              · exact absurd c_89 (by decide)
              · skip
                refine lv_aload_n hx hb dX2_rack_92 rfl (lv_at hl 2 rfl) ?_
                refine cy_get hC (0) (by decide) hi2 hW (rfl) rfl 10 (by decide) (hts (.fieldLink RX2 35 "CaskYard" "spare" "LCaskYard$Cask;") (by decide +kernel)) (fun _ h9 => h9) (v := .ref (ad (3 * 12 + 11))) rfl dX2_rack_93 ?_
                refine lv_goto (tgt := 105) hx hb dX2_rack_96 (by decide) ?_
                refine lv_astore (lv' := [(6, .ref (ad (3 * 12 + 11))), (5, .ref (ad (3 * c + 11))), (4, .int 1), (0, .ref (ad 0)), (1, .int (nI c)), (2, .int (-1)), (3, .int z)]) hx hb dX2_rack_105 hl (by decide) rfl (fun ls hl => ?_)
                refine lv_aload hx hb dX2_rack_107 (lv_at hl 1 rfl) ?_
                refine cy_get hC (3 * c + 11) (by omega) hi1 hW (cy_eY_o) rfl 2 (by decide) (hts (.fieldLink RX2 127 "CaskYard$Cask" "sound" "Z") (by decide +kernel)) (fun _ h9 => h9) (v := .int (S (3 * c + 11) 2)) rfl dX2_rack_109 ?_
                refine lv_if_eq (tgt := 128) hx hb dX2_rack_112 (by decide) (fun c_112 => ?_) (fun c_112 => ?_)
                · skip
                  have hW := cy_castS (show S = cy_if (cy_tRk S (nI c) (-1) z nc) (cy_nRk S (nI c) (-1) z) S from Eq.trans (by first | (simp only [cy_nRk, c_17, c_22, c_45, c_60, c_66, c_89, c_112, clc, eq_self, ↓reduceIte]; done) | (simp only [cy_nRk, c_17, c_22, c_45, c_60, c_66, c_89, c_112, clc, eq_self, ↓reduceIte]; rfl) | rfl) (cy_if_s (show cy_tRk S (nI c) (-1) z nc = some cy_IS from by simp only [cy_tRk, c_17, c_22, c_45, c_60, c_66, c_89, c_112, clc, eq_self, ↓reduceIte])).symm) hW
                  exact hT _ _ _ _ 128 _ [] 69 73 211 cy_IS "one of them is broken up" cy_ok_IS (show cy_tRk S (nI c) (-1) z nc = some cy_IS from by simp only [cy_tRk, c_17, c_22, c_45, c_60, c_66, c_89, c_112, clc, eq_self, ↓reduceIte]) (Nat.le_of_ble_eq_true rfl) (Nat.le_of_ble_eq_true rfl) (Nat.le_of_ble_eq_true rfl) hW (hl.1.trans hml.symm) (by decide +kernel) hkIS hiIS hgIS dX2_rack_128 dX2_rack_131 (Or.inl ⟨dX2_rack_132, dX2_rack_134, dX2_rack_137⟩)
                · skip
                  refine lv_iload hx hb dX2_rack_115 (lv_at hl 2 rfl) ?_
                  refine lv_if_ne (tgt := 138) hx hb dX2_rack_117 (by decide) (fun c_117 => ?_) (fun c_117 => ?_)
                  · skip
                    refine lv_aload hx hb dX2_rack_138 (lv_at hl 1 rfl) ?_
                    refine cy_callV (As := []) (rest := []) (q0 := 3 * c + 11) (ci := 1) hC.1 hC.2.1 hC.2.2 hW (c_X1_held (c := c) (by omega)) (cwV 0 hts gX2_rack_X1_held rfl rfl rfl (by decide +kernel) ⟨Nat.le_of_ble_eq_true rfl, Nat.le_of_ble_eq_true rfl⟩) (cy_w_at (by omega) (cy_eY_o)) rfl rfl hl.1 rfl (Nat.le_of_ble_eq_true rfl) dX2_rack_140 ⟨Nat.le_of_ble_eq_true rfl, Nat.le_of_ble_eq_true rfl⟩ (k' := 0) (n' := 0) rfl rfl (fun H locs hW => ?_)
                    refine lv_istore (lv' := [(7, .int (cy_sm (S (3 * c + 13)) 5)), (6, .ref (ad (3 * 12 + 11))), (5, .ref (ad (3 * c + 11))), (4, .int 1), (0, .ref (ad 0)), (1, .int (nI c)), (2, .int (-1)), (3, .int z)]) hx hb dX2_rack_143 hl (by decide) rfl (fun ls hl => ?_)
                    refine lv_iload hx hb dX2_rack_145 (lv_at hl 0 rfl) ?_
                    refine lv_iload_n hx hb dX2_rack_147 rfl (lv_at hl 7 rfl) ?_
                    refine lv_icmp_ge (tgt := 161) hx hb dX2_rack_148 (by decide) (fun c_148 => ?_) (fun c_148 => ?_)
                    · skip
                      refine lv_iload hx hb dX2_rack_161 (lv_at hl 3 rfl) ?_
                      refine lv_if_ne (tgt := 191) hx hb dX2_rack_163 (by decide) (fun c_163 => ?_) (fun c_163 => ?_)
                      · skip
                        refine lv_iload hx hb dX2_rack_191 (lv_at hl 3 rfl) ?_
                        refine lv_if_eq (tgt := 203) hx hb dX2_rack_193 (by decide) (fun c_193 => ?_) (fun c_193 => ?_)
                        · exact absurd c_193 (by decide)
                        · skip
                          refine lv_aload_n hx hb dX2_rack_196 rfl (lv_at hl 4 rfl) ?_
                          refine cy_get hC (0) (by decide) hi2 hW (rfl) rfl 10 (by decide) (hts (.fieldLink RX2 35 "CaskYard" "spare" "LCaskYard$Cask;") (by decide +kernel)) (fun _ h9 => h9) (v := .ref (ad (3 * 12 + 11))) rfl dX2_rack_197 ?_
                          refine cy_callV (As := []) (rest := []) (q0 := 3 * 12 + 11) (ci := 1) hC.1 hC.2.1 hC.2.2 hW (c_X1_clear (c := 12)  (by omega)) (cwV 0 hts gX2_rack_X1_clear rfl rfl rfl (by decide +kernel) ⟨Nat.le_of_ble_eq_true rfl, Nat.le_of_ble_eq_true rfl⟩) (cy_w_at (by omega) (cy_eY_o)) rfl rfl hl.1 rfl (Nat.le_of_ble_eq_true rfl) dX2_rack_200 ⟨Nat.le_of_ble_eq_true rfl, Nat.le_of_ble_eq_true rfl⟩ (k' := 0) (n' := 0) rfl rfl (fun H locs hW => ?_)
                          refine lv_aload hx hb dX2_rack_203 (lv_at hl 1 rfl) ?_
                          refine cy_callV (As := []) (rest := []) (q0 := 3 * 12 + 11) (ci := 1) hC.1 hC.2.1 hC.2.2 hW (c_X1_countFilling (c := 12)  (by omega)) (cwV 0 hts gX2_rack_X1_countFilling rfl rfl rfl (by decide +kernel) ⟨Nat.le_of_ble_eq_true rfl, Nat.le_of_ble_eq_true rfl⟩) (cy_w_at (by omega) (cy_eY_o)) rfl rfl hl.1 rfl (Nat.le_of_ble_eq_true rfl) dX2_rack_205 ⟨Nat.le_of_ble_eq_true rfl, Nat.le_of_ble_eq_true rfl⟩ (k' := 0) (n' := 0) rfl rfl (fun H locs hW => ?_)
                          refine lv_aload hx hb dX2_rack_208 (lv_at hl 2 rfl) ?_
                          refine lv_aload hx hb dX2_rack_210 (lv_at hl 1 rfl) ?_
                          refine lv_iload_n hx hb dX2_rack_212 rfl (lv_at hl 7 rfl) ?_
                          refine lv_iload hx hb dX2_rack_213 (lv_at hl 0 rfl) ?_
                          refine cy_callV (As := [.ref (ad (3 * 12 + 11)), .int z, .int (cy_sm (S (3 * c + 13)) 5)]) (rest := []) (q0 := 3 * c + 11) (ci := 1) hC.1 hC.2.1 hC.2.2 hW (c_X1_moveTo (c := c) (d := 12) (x := z) (al := (cy_sm (S (3 * c + 13)) 5)) (by omega) (by omega) (cy_pos c_60 c_148) (by omega)) (cwV 3 hts gX2_rack_X1_moveTo rfl rfl rfl (by decide +kernel) ⟨Nat.le_of_ble_eq_true rfl, Nat.le_of_ble_eq_true rfl⟩) (cy_w_at (by omega) (cy_eY_o)) rfl rfl hl.1 rfl (Nat.le_of_ble_eq_true rfl) dX2_rack_215 ⟨Nat.le_of_ble_eq_true rfl, Nat.le_of_ble_eq_true rfl⟩ (k' := 0) (n' := 0) rfl rfl (fun H locs hW => ?_)
                          refine lv_aload hx hb dX2_rack_218 (lv_at hl 2 rfl) ?_
                          refine cy_callV (As := []) (rest := []) (q0 := 3 * c + 11) (ci := 1) hC.1 hC.2.1 hC.2.2 hW (c_X1_held (c := c) (by omega)) (cwV 0 hts gX2_rack_X1_held rfl rfl rfl (by decide +kernel) ⟨Nat.le_of_ble_eq_true rfl, Nat.le_of_ble_eq_true rfl⟩) (cy_w_at (by omega) (cy_eY_o)) rfl rfl hl.1 rfl (Nat.le_of_ble_eq_true rfl) dX2_rack_220 ⟨Nat.le_of_ble_eq_true rfl, Nat.le_of_ble_eq_true rfl⟩ (k' := 0) (n' := 0) rfl rfl (fun H locs hW => ?_)
                          refine cy_topv (congrArg Value.int (show cy_sm ((cy_sMv (cy_sCf (cy_sCl S 12) 12) c 12 z (cy_sm (S (3 * c + 13)) 5)) (3 * c + 13)) 5 = cy_sm (cy_nRk S (nI c) (-1) z (3 * (nI c).toNatClampNeg + 13)) 5 from by simp only [cy_nRk, c_17, c_22, c_45, c_60, c_66, c_89, c_112, c_117, c_148, c_163, c_193, clc, ↓reduceIte])) ?_
                          have hW := cy_castS (show (cy_sMv (cy_sCf (cy_sCl S 12) 12) c 12 z (cy_sm (S (3 * c + 13)) 5)) = cy_if (cy_tRk S (nI c) (-1) z nc) (cy_nRk S (nI c) (-1) z) S from Eq.trans (by first | (simp only [cy_nRk, c_17, c_22, c_45, c_60, c_66, c_89, c_112, c_117, c_148, c_163, c_193, clc, eq_self, ↓reduceIte]; done) | (simp only [cy_nRk, c_17, c_22, c_45, c_60, c_66, c_89, c_112, c_117, c_148, c_163, c_193, clc, eq_self, ↓reduceIte]; rfl) | rfl) (cy_if_n (show cy_tRk S (nI c) (-1) z nc = none from by simp only [cy_tRk, c_17, c_22, c_45, c_60, c_66, c_89, c_112, c_117, c_148, c_163, c_193, clc, eq_self, ↓reduceIte])).symm) hW
                          exact hE (show cy_tRk S (nI c) (-1) z nc = none from by simp only [cy_tRk, c_17, c_22, c_45, c_60, c_66, c_89, c_112, c_117, c_148, c_163, c_193, clc, eq_self, ↓reduceIte]) _ _ _ _ _ _ (Nat.le_of_ble_eq_true rfl) (Nat.le_of_ble_eq_true rfl) hW dX2_rack_223
                      · exact absurd c_163 (by decide)
                    · skip
                      have hW := cy_castS (show S = cy_if (cy_tRk S (nI c) (-1) z nc) (cy_nRk S (nI c) (-1) z) S from Eq.trans (by first | (simp only [cy_nRk, c_17, c_22, c_45, c_60, c_66, c_89, c_112, c_117, c_148, clc, eq_self, ↓reduceIte]; done) | (simp only [cy_nRk, c_17, c_22, c_45, c_60, c_66, c_89, c_112, c_117, c_148, clc, eq_self, ↓reduceIte]; rfl) | rfl) (cy_if_s (show cy_tRk S (nI c) (-1) z nc = some cy_IS from by simp only [cy_tRk, c_17, c_22, c_45, c_60, c_66, c_89, c_112, c_117, c_148, clc, eq_self, ↓reduceIte])).symm) hW
                      exact hT _ _ _ _ 151 _ [] 69 73 213 cy_IS "the first one holds less" cy_ok_IS (show cy_tRk S (nI c) (-1) z nc = some cy_IS from by simp only [cy_tRk, c_17, c_22, c_45, c_60, c_66, c_89, c_112, c_117, c_148, clc, eq_self, ↓reduceIte]) (Nat.le_of_ble_eq_true rfl) (Nat.le_of_ble_eq_true rfl) (Nat.le_of_ble_eq_true rfl) hW (hl.1.trans hml.symm) (by decide +kernel) hkIS hiIS hgIS dX2_rack_151 dX2_rack_154 (Or.inl ⟨dX2_rack_155, dX2_rack_157, dX2_rack_160⟩)
                  · exact absurd c_117 (by decide)
            · skip
              have hW := cy_castS (show S = cy_if (cy_tRk S (nI c) (-1) z nc) (cy_nRk S (nI c) (-1) z) S from Eq.trans (by first | (simp only [cy_nRk, c_17, c_22, c_45, c_60, c_66, clc, eq_self, ↓reduceIte]; done) | (simp only [cy_nRk, c_17, c_22, c_45, c_60, c_66, clc, eq_self, ↓reduceIte]; rfl) | rfl) (cy_if_s (show cy_tRk S (nI c) (-1) z nc = some cy_IA from by simp only [cy_tRk, c_17, c_22, c_45, c_60, c_66, clc, eq_self, ↓reduceIte])).symm) hW
              exact hT _ _ _ _ 69 _ [] 57 61 199 cy_IA "amount is not 1 to 60000" cy_ok_IA (show cy_tRk S (nI c) (-1) z nc = some cy_IA from by simp only [cy_tRk, c_17, c_22, c_45, c_60, c_66, clc, eq_self, ↓reduceIte]) (Nat.le_of_ble_eq_true rfl) (Nat.le_of_ble_eq_true rfl) (Nat.le_of_ble_eq_true rfl) hW (hl.1.trans hml.symm) (by decide +kernel) hkIA hiIA hgIA dX2_rack_69 dX2_rack_72 (Or.inl ⟨dX2_rack_73, dX2_rack_75, dX2_rack_78⟩)
        · skip
          exact absurd c_45 (cy_nm1 (by omega))
      · exact absurd c_22 (by decide)
abbrev rm_X2_setWarmth : Room := { frames := 6, cells := 1, slots := 6, locals := 90 }
set_option maxHeartbeats 4000000 in
set_option maxRecDepth 100000 in
theorem c_X2_setWarmth {l : Launch} {D : va_G} {kI kJ kZ kC : ClassId} {ad : Nat → Nat} {S : Nat → Nat → Int32} {tl : va_W} {Z : Nat → Int64} {x : Int32} : cy_X l yX2_setWarmth wsX2_setWarmth rm_X2_setWarmth D (cy_tys kI kJ kZ kC) [.ref (ad 0), .int x] (cy_Y kI kJ kC ad S Z tl) (cy_tSw x) (some (.int (S 0 16))) (cy_Y kI kJ kC ad (cy_if (cy_tSw x) (va_up S 0 (upd (S 0) 16 x)) S) Z tl) := by
  refine cy_ofX (cc := cX2_setWarmth) (maxL := 3) (ret := (some .int)) (i := .ireturn) (by decide) rfl rfl (Nat.le_of_ble_eq_true rfl) (by decide) (fun _ => (cy_endI rfl)) ?_
  intro p e s m args below meth co Q A ls hC hTh hE hT hW hl
  have hx := hC.1.1; have hb := hC.1.2.1; have hml := hC.1.2.2.1; have hown := hC.1.2.2.2.1; have hts := hC.1.2.2.2.2
  have hl : lv_has ls 3 [(0, .ref (ad 0)), (1, .int x)] := hl
  have hi2 : ∀ w ∈ u_ws RX2 TX2 17, w ∈ wsX2_setWarmth := by decide +kernel
  have hkIA : Cond.classLink RX2 57 cy_IA ∈ wsX2_setWarmth := by decide +kernel
  have hiIA : Cond.initialized cy_IA ∈ wsX2_setWarmth := by decide +kernel
  have hgIA : ∀ w ∈ (vx_atS RX2 61 cy_IA cy_nm).filter goodWord, w ∈ wsX2_setWarmth := by decide +kernel
  refine lv_iload_n hx hb dX2_setWarmth_0 rfl (lv_at hl 1 rfl) ?_
  refine lv_if_lt (tgt := 10) hx hb dX2_setWarmth_1 (by decide) (fun c_1 => ?_) (fun c_1 => ?_)
  · skip
    have hW := cy_castS (show S = cy_if (cy_tSw x) (va_up S 0 (upd (S 0) 16 x)) S from Eq.trans (by first | (simp only [c_1, eq_self, ↓reduceIte]; done) | (simp only [c_1, eq_self, ↓reduceIte]; rfl) | rfl) (cy_if_s (show cy_tSw x = some cy_IA from by simp only [cy_tSw, c_1, eq_self, ↓reduceIte])).symm) hW
    exact hT _ _ _ _ 10 _ [] 57 61 221 cy_IA "warmth is not 0 to 9" cy_ok_IA (show cy_tSw x = some cy_IA from by simp only [cy_tSw, c_1, eq_self, ↓reduceIte]) (Nat.le_of_ble_eq_true rfl) (Nat.le_of_ble_eq_true rfl) (Nat.le_of_ble_eq_true rfl) hW (hl.1.trans hml.symm) (by decide +kernel) hkIA hiIA hgIA dX2_setWarmth_10 dX2_setWarmth_13 (Or.inl ⟨dX2_setWarmth_14, dX2_setWarmth_16, dX2_setWarmth_19⟩)
  · skip
    refine lv_iload_n hx hb dX2_setWarmth_4 rfl (lv_at hl 1 rfl) ?_
    refine lv_bipush (v := 9) hx hb dX2_setWarmth_5 (by decide) ?_
    refine lv_icmp_le (tgt := 20) hx hb dX2_setWarmth_7 (by decide) (fun c_7 => ?_) (fun c_7 => ?_)
    · skip
      refine lv_aload_n hx hb dX2_setWarmth_20 rfl (lv_at hl 0 rfl) ?_
      refine cy_get hC (0) (by decide) hi2 hW (rfl) rfl 16 (by decide) (hts (.fieldLink RX2 53 "CaskYard" "warmthNow" "I") (by decide +kernel)) (fun _ h9 => h9) (v := .int (S 0 16)) rfl dX2_setWarmth_21 ?_
      refine lv_istore_n (lv' := [(2, .int (S 0 16)), (0, .ref (ad 0)), (1, .int x)]) hx hb dX2_setWarmth_24 rfl hl (by decide) rfl (fun ls hl => ?_)
      refine lv_aload_n hx hb dX2_setWarmth_25 rfl (lv_at hl 1 rfl) ?_
      refine lv_iload_n hx hb dX2_setWarmth_26 rfl (lv_at hl 2 rfl) ?_
      refine cy_put hC (0) (by decide) hi2 tyX2 tyX2_ok nmX2 hW (rfl) rfl 16 (by decide) (hts (.fieldLink RX2 53 "CaskYard" "warmthNow" "I") (by decide +kernel)) (fun _ h9 => h9) rfl (ty := .int) (by decide +kernel) rfl rfl (Nat.le_of_ble_eq_true rfl) (upd (S 0) 16 x) cy_hY16 (S' := (va_up S 0 (upd (S 0) 16 x))) rfl dX2_setWarmth_27 (fun H locs hW => ?_)
      refine lv_iload_n hx hb dX2_setWarmth_30 rfl (lv_at hl 0 rfl) ?_
      have hW := cy_castS (show (va_up S 0 (upd (S 0) 16 x)) = cy_if (cy_tSw x) (va_up S 0 (upd (S 0) 16 x)) S from Eq.trans (by first | (simp only [c_1, c_7, eq_self, ↓reduceIte]; done) | (simp only [c_1, c_7, eq_self, ↓reduceIte]; rfl) | rfl) (cy_if_n (show cy_tSw x = none from by simp only [cy_tSw, c_1, c_7, eq_self, ↓reduceIte])).symm) hW
      exact hE (show cy_tSw x = none from by simp only [cy_tSw, c_1, c_7, eq_self, ↓reduceIte]) _ _ _ _ _ _ (Nat.le_of_ble_eq_true rfl) (Nat.le_of_ble_eq_true rfl) hW dX2_setWarmth_31
    · skip
      have hW := cy_castS (show S = cy_if (cy_tSw x) (va_up S 0 (upd (S 0) 16 x)) S from Eq.trans (by first | (simp only [c_1, c_7, eq_self, ↓reduceIte]; done) | (simp only [c_1, c_7, eq_self, ↓reduceIte]; rfl) | rfl) (cy_if_s (show cy_tSw x = some cy_IA from by simp only [cy_tSw, c_1, c_7, eq_self, ↓reduceIte])).symm) hW
      exact hT _ _ _ _ 10 _ [] 57 61 221 cy_IA "warmth is not 0 to 9" cy_ok_IA (show cy_tSw x = some cy_IA from by simp only [cy_tSw, c_1, c_7, eq_self, ↓reduceIte]) (Nat.le_of_ble_eq_true rfl) (Nat.le_of_ble_eq_true rfl) (Nat.le_of_ble_eq_true rfl) hW (hl.1.trans hml.symm) (by decide +kernel) hkIA hiIA hgIA dX2_setWarmth_10 dX2_setWarmth_13 (Or.inl ⟨dX2_setWarmth_14, dX2_setWarmth_16, dX2_setWarmth_19⟩)
abbrev rm_X2_pass : Room := { frames := 6, cells := 1, slots := 6, locals := 90 }
set_option maxHeartbeats 4000000 in
set_option maxRecDepth 100000 in
theorem c_X2_pass {l : Launch} {D : va_G} {kI kJ kZ kC : ClassId} {ad : Nat → Nat} {S : Nat → Nat → Int32} {tl : va_W} {Z : Nat → Int64} {x : Int32} {ns : Nat} (hns : S 0 3 = nI ns) (h60 : ns ≤ 60) {nc : Nat} (hnc : S 0 9 = nI nc) (h12 : nc ≤ 12) : cy_X l yX2_pass wsX2_pass rm_X2_pass D (cy_tys kI kJ kZ kC) [.ref (ad 0), .int x] (cy_Y kI kJ kC ad S Z tl) (cy_tPa S x) (some (.int ((cy_pm S ns nc x.toNatClampNeg).2))) (cy_Y kI kJ kC ad (cy_if (cy_tPa S x) (cy_nPa S ns nc x.toNatClampNeg) S) Z tl) := by
  refine cy_ofX (cc := cX2_pass) (maxL := 4) (ret := (some .int)) (i := .ireturn) (by decide) rfl rfl (Nat.le_of_ble_eq_true rfl) (by decide) (fun _ => (cy_endI rfl)) ?_
  intro p e s m args below meth co Q A ls hC hTh hE hT hW hl
  have hx := hC.1.1; have hb := hC.1.2.1; have hml := hC.1.2.2.1; have hown := hC.1.2.2.2.1; have hts := hC.1.2.2.2.2
  have hl : lv_has ls 4 [(0, .ref (ad 0)), (1, .int x)] := hl
  have hi2 : ∀ w ∈ u_ws RX2 TX2 17, w ∈ wsX2_pass := by decide +kernel
  have hkIA : Cond.classLink RX2 57 cy_IA ∈ wsX2_pass := by decide +kernel
  have hiIA : Cond.initialized cy_IA ∈ wsX2_pass := by decide +kernel
  have hgIA : ∀ w ∈ (vx_atS RX2 61 cy_IA cy_nm).filter goodWord, w ∈ wsX2_pass := by decide +kernel
  have hkIS : Cond.classLink RX2 69 cy_IS ∈ wsX2_pass := by decide +kernel
  have hiIS : Cond.initialized cy_IS ∈ wsX2_pass := by decide +kernel
  have hgIS : ∀ w ∈ (vx_atS RX2 73 cy_IS cy_nm).filter goodWord, w ∈ wsX2_pass := by decide +kernel
  refine lv_iload_n hx hb dX2_pass_0 rfl (lv_at hl 1 rfl) ?_
  refine lv_iconst (v := 1) hx hb dX2_pass_1 (by decide) ?_
  refine lv_icmp_lt (tgt := 11) hx hb dX2_pass_2 (by decide) (fun c_2 => ?_) (fun c_2 => ?_)
  · skip
    have hW := cy_castS (show S = cy_if (cy_tPa S x) (cy_nPa S ns nc x.toNatClampNeg) S from Eq.trans (by first | (simp only [cy_nPa, c_2, eq_self, ↓reduceIte]; done) | (simp only [cy_nPa, c_2, eq_self, ↓reduceIte]; rfl) | rfl) (cy_if_s (show cy_tPa S x = some cy_IA from by simp only [cy_tPa, c_2, eq_self, ↓reduceIte])).symm) hW
    exact hT _ _ _ _ 11 _ [] 57 61 223 cy_IA "months is not 1 to 60" cy_ok_IA (show cy_tPa S x = some cy_IA from by simp only [cy_tPa, c_2, eq_self, ↓reduceIte]) (Nat.le_of_ble_eq_true rfl) (Nat.le_of_ble_eq_true rfl) (Nat.le_of_ble_eq_true rfl) hW (hl.1.trans hml.symm) (by decide +kernel) hkIA hiIA hgIA dX2_pass_11 dX2_pass_14 (Or.inl ⟨dX2_pass_15, dX2_pass_17, dX2_pass_20⟩)
  · skip
    refine lv_iload_n hx hb dX2_pass_5 rfl (lv_at hl 1 rfl) ?_
    refine lv_bipush (v := 60) hx hb dX2_pass_6 (by decide) ?_
    refine lv_icmp_le (tgt := 21) hx hb dX2_pass_8 (by decide) (fun c_8 => ?_) (fun c_8 => ?_)
    · skip
      refine lv_aload_n hx hb dX2_pass_21 rfl (lv_at hl 0 rfl) ?_
      refine cy_get hC (0) (by decide) hi2 hW (rfl) rfl 14 (by decide) (hts (.fieldLink RX2 225 "CaskYard" "month" "I") (by decide +kernel)) (fun _ h9 => h9) (v := .int (S 0 14)) rfl dX2_pass_22 ?_
      refine lv_iload_n hx hb dX2_pass_25 rfl (lv_at hl 1 rfl) ?_
      refine lv_iadd hx hb dX2_pass_26 ?_
      refine lv_sipush (v := 1200) hx hb dX2_pass_27 (by decide) ?_
      refine lv_icmp_le (tgt := 43) hx hb dX2_pass_30 (by decide) (fun c_30 => ?_) (fun c_30 => ?_)
      · skip
        obtain ⟨k, hk, rfl⟩ := cy_rng1 (n := 60) (by decide) c_2 c_8
        have clk : (nI k).toNatClampNeg = k := nI_clamp (by omega)
        have hl : lv_has ls 4 [(0, .ref (ad 0)), (1, .int (nI k))] := hl
        refine lv_iconst (v := 0) hx hb dX2_pass_43 (by decide) ?_
        refine lv_istore_n (lv' := [(2, .int 0), (0, .ref (ad 0)), (1, .int (nI k))]) hx hb dX2_pass_44 rfl hl (by decide) rfl (fun ls hl => ?_)
        refine lv_iconst (v := 0) hx hb dX2_pass_45 (by decide) ?_
        refine lv_istore_n (lv' := [(3, .int 0), (2, .int 0), (0, .ref (ad 0)), (1, .int (nI k))]) hx hb dX2_pass_46 rfl hl (by decide) rfl (fun ls hl => ?_)
        have L_47 : ∀ (fu : Nat) (i : Nat), k - i < fu → (i ≤ k) → ∀ (H : Heap) (locs : List Loc), cy_W D A s.heap (cy_Y kI kJ kC ad (cy_pm S ns nc i).1 Z tl) H locs → ∀ (ls : Array Slot), lv_has ls 4 [(2, .int ((cy_pm S ns nc i).2)), (3, .int (nI i)), (0, .ref (ad 0)), (1, .int (nI k))] → W p l e rm_X2_pass s m args below meth co H locs 0 0 Q (F0 m 47 ls []) := by
          intro fu
          induction fu with
          | zero => intro i hn; exact absurd hn (Nat.not_lt_zero _)
          | succ fu ih_47 =>
            intro i hn_47 hi H locs hW ls hl
            refine lv_iload_n hx hb dX2_pass_47 rfl (lv_at hl 1 rfl) ?_
            refine lv_iload_n hx hb dX2_pass_48 rfl (lv_at hl 3 rfl) ?_
            refine lv_icmp_ge (tgt := 65) hx hb dX2_pass_49 (by decide) (fun c_49 => ?_) (fun c_49 => ?_)
            · skip
              have q_49 := cy_le (a := k) (b := i) (by omega) (by omega) c_49
              obtain rfl : k = i := by omega
              refine lv_aload_n hx hb dX2_pass_65 rfl (lv_at hl 2 rfl) ?_
              refine lv_dup hx hb dX2_pass_66 rfl ?_
              refine cy_get hC (0) (by decide) hi2 hW (rfl) rfl 15 (by decide) (hts (.fieldLink RX2 233 "CaskYard" "lostInAll" "I") (by decide +kernel)) (fun _ h9 => h9) (v := .int (((cy_pm S ns nc k).1 0) 15)) rfl dX2_pass_67 ?_
              refine lv_iload_n hx hb dX2_pass_70 rfl (lv_at hl 0 rfl) ?_
              refine lv_iadd hx hb dX2_pass_71 ?_
              refine cy_put hC (0) (by decide) hi2 tyX2 tyX2_ok nmX2 hW (rfl) rfl 15 (by decide) (hts (.fieldLink RX2 233 "CaskYard" "lostInAll" "I") (by decide +kernel)) (fun _ h9 => h9) rfl (ty := .int) (by decide +kernel) rfl rfl (Nat.le_of_ble_eq_true rfl) (upd ((cy_pm S ns nc k).1 0) 15 ((((cy_pm S ns nc k).1 0) 15) + ((cy_pm S ns nc k).2))) cy_hY15 (S' := (va_up (cy_pm S ns nc k).1 0 (upd ((cy_pm S ns nc k).1 0) 15 ((((cy_pm S ns nc k).1 0) 15) + ((cy_pm S ns nc k).2))))) rfl dX2_pass_72 (fun H locs hW => ?_)
              refine lv_iload_n hx hb dX2_pass_75 rfl (lv_at hl 0 rfl) ?_
              refine cy_topv (congrArg Value.int (show (cy_pm S ns nc k).2 = (cy_pm S ns nc (nI k).toNatClampNeg).2 from by simp only [c_2, c_8, c_30, c_49, clk])) ?_
              have hW := cy_castS (show (va_up (cy_pm S ns nc k).1 0 (upd ((cy_pm S ns nc k).1 0) 15 ((((cy_pm S ns nc k).1 0) 15) + ((cy_pm S ns nc k).2)))) = cy_if (cy_tPa S (nI k)) (cy_nPa S ns nc (nI k).toNatClampNeg) S from Eq.trans (by first | (simp only [cy_nPa, c_2, c_8, c_30, c_49, clk, eq_self, ↓reduceIte]; done) | (simp only [cy_nPa, c_2, c_8, c_30, c_49, clk, eq_self, ↓reduceIte]; rfl) | rfl) (cy_if_n (show cy_tPa S (nI k) = none from by simp only [cy_tPa, c_2, c_8, c_30, c_49, clk, eq_self, ↓reduceIte])).symm) hW
              exact hE (show cy_tPa S (nI k) = none from by simp only [cy_tPa, c_2, c_8, c_30, c_49, clk, eq_self, ↓reduceIte]) _ _ _ _ _ _ (Nat.le_of_ble_eq_true rfl) (Nat.le_of_ble_eq_true rfl) hW dX2_pass_76
            · skip
              have q_49 := cy_nle (a := k) (b := i) (by omega) (by omega) c_49
              refine lv_iload_n hx hb dX2_pass_52 rfl (lv_at hl 0 rfl) ?_
              refine lv_aload_n hx hb dX2_pass_53 rfl (lv_at hl 2 rfl) ?_
              refine cy_callV (As := []) (rest := [.int ((cy_pm S ns nc i).2)]) (q0 := 0) (ci := 2) hC.1 hC.2.1 hC.2.2 hW (c_X2_liveMonth (ns := ns) (nc := nc) (by rw [cy_pm_0 (by decide)]; exact hns) (by omega) (by rw [cy_pm_0 (by decide)]; exact hnc) (by omega)) (cwV 0 hts gX2_pass_X2_liveMonth rfl rfl rfl (by decide +kernel) ⟨Nat.le_of_ble_eq_true rfl, Nat.le_of_ble_eq_true rfl⟩) (cy_w_at (by decide) (rfl)) rfl rfl hl.1 rfl (Nat.le_of_ble_eq_true rfl) dX2_pass_54 ⟨Nat.le_of_ble_eq_true rfl, Nat.le_of_ble_eq_true rfl⟩ (k' := 0) (n' := 0) rfl rfl (fun H locs hW => ?_)
              refine lv_iadd hx hb dX2_pass_57 ?_
              refine lv_istore_n (lv' := [(2, .int (((cy_pm S ns nc i).2) + ((cy_mS ((cy_pm S ns nc i).1) ns nc).2))), (3, .int (nI i)), (0, .ref (ad 0)), (1, .int (nI k))]) hx hb dX2_pass_58 rfl hl (by decide) rfl (fun ls hl => ?_)
              refine lv_iinc (v := nI (i + 1)) (lv' := [(3, .int (nI (i + 1))), (2, .int (((cy_pm S ns nc i).2) + ((cy_mS ((cy_pm S ns nc i).1) ns nc).2))), (0, .ref (ad 0)), (1, .int (nI k))]) hx hb dX2_pass_59 hl (k := 1) rfl (nI_1 i) (by decide) rfl (fun ls hl => ?_)
              refine lv_goto (tgt := 47) hx hb dX2_pass_62 (by decide) ?_
              exact ih_47 (i + 1) (by omega) (by omega) _ _ hW _ (lv_sub hl [1, 0, 2, 3] rfl)
        exact L_47 ((k - 0) + 1) 0 (Nat.lt_succ_self _) (by omega) _ _ hW _ (lv_sub hl [1, 0, 2, 3] rfl)
      · skip
        have hW := cy_castS (show S = cy_if (cy_tPa S x) (cy_nPa S ns nc x.toNatClampNeg) S from Eq.trans (by first | (simp only [cy_nPa, c_2, c_8, c_30, eq_self, ↓reduceIte]; done) | (simp only [cy_nPa, c_2, c_8, c_30, eq_self, ↓reduceIte]; rfl) | rfl) (cy_if_s (show cy_tPa S x = some cy_IS from by simp only [cy_tPa, c_2, c_8, c_30, eq_self, ↓reduceIte])).symm) hW
        exact hT _ _ _ _ 33 _ [] 69 73 228 cy_IS "the month would be greater than 1200" cy_ok_IS (show cy_tPa S x = some cy_IS from by simp only [cy_tPa, c_2, c_8, c_30, eq_self, ↓reduceIte]) (Nat.le_of_ble_eq_true rfl) (Nat.le_of_ble_eq_true rfl) (Nat.le_of_ble_eq_true rfl) hW (hl.1.trans hml.symm) (by decide +kernel) hkIS hiIS hgIS dX2_pass_33 dX2_pass_36 (Or.inl ⟨dX2_pass_37, dX2_pass_39, dX2_pass_42⟩)
    · skip
      have hW := cy_castS (show S = cy_if (cy_tPa S x) (cy_nPa S ns nc x.toNatClampNeg) S from Eq.trans (by first | (simp only [cy_nPa, c_2, c_8, eq_self, ↓reduceIte]; done) | (simp only [cy_nPa, c_2, c_8, eq_self, ↓reduceIte]; rfl) | rfl) (cy_if_s (show cy_tPa S x = some cy_IA from by simp only [cy_tPa, c_2, c_8, eq_self, ↓reduceIte])).symm) hW
      exact hT _ _ _ _ 11 _ [] 57 61 223 cy_IA "months is not 1 to 60" cy_ok_IA (show cy_tPa S x = some cy_IA from by simp only [cy_tPa, c_2, c_8, eq_self, ↓reduceIte]) (Nat.le_of_ble_eq_true rfl) (Nat.le_of_ble_eq_true rfl) (Nat.le_of_ble_eq_true rfl) hW (hl.1.trans hml.symm) (by decide +kernel) hkIA hiIA hgIA dX2_pass_11 dX2_pass_14 (Or.inl ⟨dX2_pass_15, dX2_pass_17, dX2_pass_20⟩)
abbrev rm_X2_count : Room := { frames := 6, cells := 1, slots := 6, locals := 90 }
set_option maxHeartbeats 4000000 in
set_option maxRecDepth 100000 in
theorem c_X2_count {l : Launch} {D : va_G} {kI kJ kZ kC : ClassId} {ad : Nat → Nat} {S : Nat → Nat → Int32} {tl : va_W} {Z : Nat → Int64} {x : Int32} {ns : Nat} (hns : S 0 3 = nI ns) (h60 : ns ≤ 60) {nc : Nat} (hnc : S 0 9 = nI nc) (h12 : nc ≤ 12) : cy_X l yX2_count wsX2_count rm_X2_count D (cy_tys kI kJ kZ kC) [.ref (ad 0), .int x] (cy_Y kI kJ kC ad S Z tl) (cy_tCo x) (some (.int (cy_cnt S ns nc x.toNatClampNeg))) (cy_Y kI kJ kC ad (cy_if (cy_tCo x) S S) Z tl) := by
  refine cy_ofX (cc := cX2_count) (maxL := 2) (ret := (some .int)) (i := .ireturn) (by decide) rfl rfl (Nat.le_of_ble_eq_true rfl) (by decide) (fun _ => (cy_endI rfl)) ?_
  intro p e s m args below meth co Q A ls hC hTh hE hT hW hl
  have hx := hC.1.1; have hb := hC.1.2.1; have hml := hC.1.2.2.1; have hown := hC.1.2.2.2.1; have hts := hC.1.2.2.2.2
  have hl : lv_has ls 2 [(0, .ref (ad 0)), (1, .int x)] := hl
  have hi2 : ∀ w ∈ u_ws RX2 TX2 17, w ∈ wsX2_count := by decide +kernel
  have hkIB : Cond.classLink RX2 78 cy_IB ∈ wsX2_count := by decide +kernel
  have hiIB : Cond.initialized cy_IB ∈ wsX2_count := by decide +kernel
  have hgIB : ∀ w ∈ (vx_atS RX2 82 cy_IB cy_nm).filter goodWord, w ∈ wsX2_count := by decide +kernel
  refine lv_iload_n hx hb dX2_count_0 rfl (lv_at hl 1 rfl) ?_
  refine lv_if_lt (tgt := 10) hx hb dX2_count_1 (by decide) (fun c_1 => ?_) (fun c_1 => ?_)
  · skip
    have hW := cy_castS (show S = cy_if (cy_tCo x) S S from Eq.trans (by first | (simp only [c_1, eq_self, ↓reduceIte]; done) | (simp only [c_1, eq_self, ↓reduceIte]; rfl) | rfl) (cy_if_s (show cy_tCo x = some cy_IB from by simp only [cy_tCo, c_1, eq_self, ↓reduceIte])).symm) hW
    exact hT _ _ _ _ 10 _ [] 78 82 236 cy_IB "what is not 0 to 9" cy_ok_IB (show cy_tCo x = some cy_IB from by simp only [cy_tCo, c_1, eq_self, ↓reduceIte]) (Nat.le_of_ble_eq_true rfl) (Nat.le_of_ble_eq_true rfl) (Nat.le_of_ble_eq_true rfl) hW (hl.1.trans hml.symm) (by decide +kernel) hkIB hiIB hgIB dX2_count_10 dX2_count_13 (Or.inl ⟨dX2_count_14, dX2_count_16, dX2_count_19⟩)
  · skip
    refine lv_iload_n hx hb dX2_count_4 rfl (lv_at hl 1 rfl) ?_
    refine lv_bipush (v := 10) hx hb dX2_count_5 (by decide) ?_
    refine lv_icmp_lt (tgt := 20) hx hb dX2_count_7 (by decide) (fun c_7 => ?_) (fun c_7 => ?_)
    · skip
      obtain ⟨k, hk, rfl⟩ := cy_rng (n := 10) rfl (by decide) c_1 c_7
      have clk : (nI k).toNatClampNeg = k := nI_clamp (by omega)
      have hl : lv_has ls 2 [(0, .ref (ad 0)), (1, .int (nI k))] := hl
      have hs_k : k = 0 ∨ k = 1 ∨ k = 2 ∨ k = 3 ∨ k = 4 ∨ k = 5 ∨ k = 6 ∨ k = 7 ∨ k = 8 ∨ k = 9 := by omega
      rcases hs_k with rfl | rfl | rfl | rfl | rfl | rfl | rfl | rfl | rfl | rfl
      · have hl := hl
        have hl : lv_has ls 2 [(0, .ref (ad 0)), (1, .int 0)] := hl
        refine lv_iload_n hx hb dX2_count_20 rfl (lv_at hl 1 rfl) ?_
        refine lv_tableIn (off := 51) (tgt := 72) hx hb dX2_count_21 (by decide) (by decide) (by decide) (by decide) ?_
        refine lv_aload_n hx hb dX2_count_72 rfl (lv_at hl 0 rfl) ?_
        refine cy_get hC (0) (by decide) hi2 hW (rfl) rfl 14 (by decide) (hts (.fieldLink RX2 225 "CaskYard" "month" "I") (by decide +kernel)) (fun _ h9 => h9) (v := .int (S 0 14)) rfl dX2_count_73 ?_
        refine cy_topv (congrArg Value.int (show S 0 14 = cy_cnt S ns nc (nI 0).toNatClampNeg from by simp only [c_1, c_7, clk]; rfl)) ?_
        have hW := cy_castS (show S = cy_if (cy_tCo (nI 0)) S S from Eq.trans (by first | (simp only [c_1, c_7, clk, eq_self, ↓reduceIte]; done) | (simp only [c_1, c_7, clk, eq_self, ↓reduceIte]; rfl) | rfl) (cy_if_n (show cy_tCo (nI 0) = none from by simp only [cy_tCo, c_1, c_7, clk, eq_self, ↓reduceIte])).symm) hW
        exact hE (show cy_tCo (nI 0) = none from by simp only [cy_tCo, c_1, c_7, clk, eq_self, ↓reduceIte]) _ _ _ _ _ _ (Nat.le_of_ble_eq_true rfl) (Nat.le_of_ble_eq_true rfl) hW dX2_count_76
      · have hl := hl
        have hl : lv_has ls 2 [(0, .ref (ad 0)), (1, .int 1)] := hl
        refine lv_iload_n hx hb dX2_count_20 rfl (lv_at hl 1 rfl) ?_
        refine lv_tableIn (off := 56) (tgt := 77) hx hb dX2_count_21 (by decide) (by decide) (by decide) (by decide) ?_
        refine lv_aload_n hx hb dX2_count_77 rfl (lv_at hl 0 rfl) ?_
        refine cy_get hC (0) (by decide) hi2 hW (rfl) rfl 3 (by decide) (hts (.fieldLink RX2 66 "CaskYard" "staveCount" "I") (by decide +kernel)) (fun _ h9 => h9) (v := .int (S 0 3)) rfl dX2_count_78 ?_
        refine cy_top (y := nI ns) hns ?_
        refine cy_topv (congrArg Value.int (show nI ns = cy_cnt S ns nc (nI 1).toNatClampNeg from by simp only [c_1, c_7, clk]; rfl)) ?_
        have hW := cy_castS (show S = cy_if (cy_tCo (nI 1)) S S from Eq.trans (by first | (simp only [c_1, c_7, clk, eq_self, ↓reduceIte]; done) | (simp only [c_1, c_7, clk, eq_self, ↓reduceIte]; rfl) | rfl) (cy_if_n (show cy_tCo (nI 1) = none from by simp only [cy_tCo, c_1, c_7, clk, eq_self, ↓reduceIte])).symm) hW
        exact hE (show cy_tCo (nI 1) = none from by simp only [cy_tCo, c_1, c_7, clk, eq_self, ↓reduceIte]) _ _ _ _ _ _ (Nat.le_of_ble_eq_true rfl) (Nat.le_of_ble_eq_true rfl) hW dX2_count_81
      · have hl := hl
        have hl : lv_has ls 2 [(0, .ref (ad 0)), (1, .int 2)] := hl
        refine lv_iload_n hx hb dX2_count_20 rfl (lv_at hl 1 rfl) ?_
        refine lv_tableIn (off := 61) (tgt := 82) hx hb dX2_count_21 (by decide) (by decide) (by decide) (by decide) ?_
        refine lv_aload_n hx hb dX2_count_82 rfl (lv_at hl 0 rfl) ?_
        refine lv_iconst (v := (-1)) hx hb dX2_count_83 (by decide) ?_
        refine cy_callV (As := [.int (-1)]) (rest := []) (q0 := 0) (ci := 2) hC.1 hC.2.1 hC.2.2 hW (c_X2_stavesAt (x := (-1)) (ns := ns) hns (by omega)) (cwV 1 hts gX2_count_X2_stavesAt rfl rfl rfl (by decide +kernel) ⟨Nat.le_of_ble_eq_true rfl, Nat.le_of_ble_eq_true rfl⟩) (cy_w_at (by decide) (rfl)) rfl rfl hl.1 rfl (Nat.le_of_ble_eq_true rfl) dX2_count_84 ⟨Nat.le_of_ble_eq_true rfl, Nat.le_of_ble_eq_true rfl⟩ (k' := 0) (n' := 0) rfl rfl (fun H locs hW => ?_)
        refine cy_topv (congrArg Value.int (show cy_sa S (-1) ns = cy_cnt S ns nc (nI 2).toNatClampNeg from by simp only [c_1, c_7, clk]; rfl)) ?_
        have hW := cy_castS (show S = cy_if (cy_tCo (nI 2)) S S from Eq.trans (by first | (simp only [c_1, c_7, clk, eq_self, ↓reduceIte]; done) | (simp only [c_1, c_7, clk, eq_self, ↓reduceIte]; rfl) | rfl) (cy_if_n (show cy_tCo (nI 2) = none from by simp only [cy_tCo, c_1, c_7, clk, eq_self, ↓reduceIte])).symm) hW
        exact hE (show cy_tCo (nI 2) = none from by simp only [cy_tCo, c_1, c_7, clk, eq_self, ↓reduceIte]) _ _ _ _ _ _ (Nat.le_of_ble_eq_true rfl) (Nat.le_of_ble_eq_true rfl) hW dX2_count_87
      · have hl := hl
        have hl : lv_has ls 2 [(0, .ref (ad 0)), (1, .int 3)] := hl
        refine lv_iload_n hx hb dX2_count_20 rfl (lv_at hl 1 rfl) ?_
        refine lv_tableIn (off := 67) (tgt := 88) hx hb dX2_count_21 (by decide) (by decide) (by decide) (by decide) ?_
        refine lv_aload_n hx hb dX2_count_88 rfl (lv_at hl 0 rfl) ?_
        refine cy_get hC (0) (by decide) hi2 hW (rfl) rfl 7 (by decide) (hts (.fieldLink RX2 92 "CaskYard" "sortCount" "I") (by decide +kernel)) (fun _ h9 => h9) (v := .int (S 0 7)) rfl dX2_count_89 ?_
        refine cy_topv (congrArg Value.int (show S 0 7 = cy_cnt S ns nc (nI 3).toNatClampNeg from by simp only [c_1, c_7, clk]; rfl)) ?_
        have hW := cy_castS (show S = cy_if (cy_tCo (nI 3)) S S from Eq.trans (by first | (simp only [c_1, c_7, clk, eq_self, ↓reduceIte]; done) | (simp only [c_1, c_7, clk, eq_self, ↓reduceIte]; rfl) | rfl) (cy_if_n (show cy_tCo (nI 3) = none from by simp only [cy_tCo, c_1, c_7, clk, eq_self, ↓reduceIte])).symm) hW
        exact hE (show cy_tCo (nI 3) = none from by simp only [cy_tCo, c_1, c_7, clk, eq_self, ↓reduceIte]) _ _ _ _ _ _ (Nat.le_of_ble_eq_true rfl) (Nat.le_of_ble_eq_true rfl) hW dX2_count_92
      · have hl := hl
        have hl : lv_has ls 2 [(0, .ref (ad 0)), (1, .int 4)] := hl
        refine lv_iload_n hx hb dX2_count_20 rfl (lv_at hl 1 rfl) ?_
        refine lv_tableIn (off := 72) (tgt := 93) hx hb dX2_count_21 (by decide) (by decide) (by decide) (by decide) ?_
        refine lv_aload_n hx hb dX2_count_93 rfl (lv_at hl 0 rfl) ?_
        refine cy_get hC (0) (by decide) hi2 hW (rfl) rfl 9 (by decide) (hts (.fieldLink RX2 114 "CaskYard" "caskCount" "I") (by decide +kernel)) (fun _ h9 => h9) (v := .int (S 0 9)) rfl dX2_count_94 ?_
        refine cy_top (y := nI nc) hnc ?_
        refine cy_topv (congrArg Value.int (show nI nc = cy_cnt S ns nc (nI 4).toNatClampNeg from by simp only [c_1, c_7, clk]; rfl)) ?_
        have hW := cy_castS (show S = cy_if (cy_tCo (nI 4)) S S from Eq.trans (by first | (simp only [c_1, c_7, clk, eq_self, ↓reduceIte]; done) | (simp only [c_1, c_7, clk, eq_self, ↓reduceIte]; rfl) | rfl) (cy_if_n (show cy_tCo (nI 4) = none from by simp only [cy_tCo, c_1, c_7, clk, eq_self, ↓reduceIte])).symm) hW
        exact hE (show cy_tCo (nI 4) = none from by simp only [cy_tCo, c_1, c_7, clk, eq_self, ↓reduceIte]) _ _ _ _ _ _ (Nat.le_of_ble_eq_true rfl) (Nat.le_of_ble_eq_true rfl) hW dX2_count_97
      · have hl := hl
        have hl : lv_has ls 2 [(0, .ref (ad 0)), (1, .int 5)] := hl
        refine lv_iload_n hx hb dX2_count_20 rfl (lv_at hl 1 rfl) ?_
        refine lv_tableIn (off := 77) (tgt := 98) hx hb dX2_count_21 (by decide) (by decide) (by decide) (by decide) ?_
        refine lv_aload_n hx hb dX2_count_98 rfl (lv_at hl 0 rfl) ?_
        refine cy_callV (As := []) (rest := []) (q0 := 0) (ci := 2) hC.1 hC.2.1 hC.2.2 hW (c_X2_soundCasks (nc := nc) hnc (by omega)) (cwV 0 hts gX2_count_X2_soundCasks rfl rfl rfl (by decide +kernel) ⟨Nat.le_of_ble_eq_true rfl, Nat.le_of_ble_eq_true rfl⟩) (cy_w_at (by decide) (rfl)) rfl rfl hl.1 rfl (Nat.le_of_ble_eq_true rfl) dX2_count_99 ⟨Nat.le_of_ble_eq_true rfl, Nat.le_of_ble_eq_true rfl⟩ (k' := 0) (n' := 0) rfl rfl (fun H locs hW => ?_)
        refine cy_topv (congrArg Value.int (show cy_sq S nc = cy_cnt S ns nc (nI 5).toNatClampNeg from by simp only [c_1, c_7, clk]; rfl)) ?_
        have hW := cy_castS (show S = cy_if (cy_tCo (nI 5)) S S from Eq.trans (by first | (simp only [c_1, c_7, clk, eq_self, ↓reduceIte]; done) | (simp only [c_1, c_7, clk, eq_self, ↓reduceIte]; rfl) | rfl) (cy_if_n (show cy_tCo (nI 5) = none from by simp only [cy_tCo, c_1, c_7, clk, eq_self, ↓reduceIte])).symm) hW
        exact hE (show cy_tCo (nI 5) = none from by simp only [cy_tCo, c_1, c_7, clk, eq_self, ↓reduceIte]) _ _ _ _ _ _ (Nat.le_of_ble_eq_true rfl) (Nat.le_of_ble_eq_true rfl) hW dX2_count_102
      · have hl := hl
        have hl : lv_has ls 2 [(0, .ref (ad 0)), (1, .int 6)] := hl
        refine lv_iload_n hx hb dX2_count_20 rfl (lv_at hl 1 rfl) ?_
        refine lv_tableIn (off := 82) (tgt := 103) hx hb dX2_count_21 (by decide) (by decide) (by decide) (by decide) ?_
        refine lv_aload_n hx hb dX2_count_103 rfl (lv_at hl 0 rfl) ?_
        refine cy_callV (As := []) (rest := []) (q0 := 0) (ci := 2) hC.1 hC.2.1 hC.2.2 hW (c_X2_heldByAll (nc := nc) hnc (by omega)) (cwV 0 hts gX2_count_X2_heldByAll rfl rfl rfl (by decide +kernel) ⟨Nat.le_of_ble_eq_true rfl, Nat.le_of_ble_eq_true rfl⟩) (cy_w_at (by decide) (rfl)) rfl rfl hl.1 rfl (Nat.le_of_ble_eq_true rfl) dX2_count_104 ⟨Nat.le_of_ble_eq_true rfl, Nat.le_of_ble_eq_true rfl⟩ (k' := 0) (n' := 0) rfl rfl (fun H locs hW => ?_)
        refine cy_topv (congrArg Value.int (show cy_ha S nc = cy_cnt S ns nc (nI 6).toNatClampNeg from by simp only [c_1, c_7, clk]; rfl)) ?_
        have hW := cy_castS (show S = cy_if (cy_tCo (nI 6)) S S from Eq.trans (by first | (simp only [c_1, c_7, clk, eq_self, ↓reduceIte]; done) | (simp only [c_1, c_7, clk, eq_self, ↓reduceIte]; rfl) | rfl) (cy_if_n (show cy_tCo (nI 6) = none from by simp only [cy_tCo, c_1, c_7, clk, eq_self, ↓reduceIte])).symm) hW
        exact hE (show cy_tCo (nI 6) = none from by simp only [cy_tCo, c_1, c_7, clk, eq_self, ↓reduceIte]) _ _ _ _ _ _ (Nat.le_of_ble_eq_true rfl) (Nat.le_of_ble_eq_true rfl) hW dX2_count_107
      · have hl := hl
        have hl : lv_has ls 2 [(0, .ref (ad 0)), (1, .int 7)] := hl
        refine lv_iload_n hx hb dX2_count_20 rfl (lv_at hl 1 rfl) ?_
        refine lv_tableIn (off := 87) (tgt := 108) hx hb dX2_count_21 (by decide) (by decide) (by decide) (by decide) ?_
        refine lv_aload_n hx hb dX2_count_108 rfl (lv_at hl 0 rfl) ?_
        refine cy_callV (As := []) (rest := []) (q0 := 0) (ci := 2) hC.1 hC.2.1 hC.2.2 hW (c_X2_vinegarOfAll (nc := nc) hnc (by omega)) (cwV 0 hts gX2_count_X2_vinegarOfAll rfl rfl rfl (by decide +kernel) ⟨Nat.le_of_ble_eq_true rfl, Nat.le_of_ble_eq_true rfl⟩) (cy_w_at (by decide) (rfl)) rfl rfl hl.1 rfl (Nat.le_of_ble_eq_true rfl) dX2_count_109 ⟨Nat.le_of_ble_eq_true rfl, Nat.le_of_ble_eq_true rfl⟩ (k' := 0) (n' := 0) rfl rfl (fun H locs hW => ?_)
        refine cy_topv (congrArg Value.int (show cy_va S nc = cy_cnt S ns nc (nI 7).toNatClampNeg from by simp only [c_1, c_7, clk]; rfl)) ?_
        have hW := cy_castS (show S = cy_if (cy_tCo (nI 7)) S S from Eq.trans (by first | (simp only [c_1, c_7, clk, eq_self, ↓reduceIte]; done) | (simp only [c_1, c_7, clk, eq_self, ↓reduceIte]; rfl) | rfl) (cy_if_n (show cy_tCo (nI 7) = none from by simp only [cy_tCo, c_1, c_7, clk, eq_self, ↓reduceIte])).symm) hW
        exact hE (show cy_tCo (nI 7) = none from by simp only [cy_tCo, c_1, c_7, clk, eq_self, ↓reduceIte]) _ _ _ _ _ _ (Nat.le_of_ble_eq_true rfl) (Nat.le_of_ble_eq_true rfl) hW dX2_count_112
      · have hl := hl
        have hl : lv_has ls 2 [(0, .ref (ad 0)), (1, .int 8)] := hl
        refine lv_iload_n hx hb dX2_count_20 rfl (lv_at hl 1 rfl) ?_
        refine lv_tableIn (off := 92) (tgt := 113) hx hb dX2_count_21 (by decide) (by decide) (by decide) (by decide) ?_
        refine lv_aload_n hx hb dX2_count_113 rfl (lv_at hl 0 rfl) ?_
        refine cy_get hC (0) (by decide) hi2 hW (rfl) rfl 15 (by decide) (hts (.fieldLink RX2 233 "CaskYard" "lostInAll" "I") (by decide +kernel)) (fun _ h9 => h9) (v := .int (S 0 15)) rfl dX2_count_114 ?_
        refine cy_topv (congrArg Value.int (show S 0 15 = cy_cnt S ns nc (nI 8).toNatClampNeg from by simp only [c_1, c_7, clk]; rfl)) ?_
        have hW := cy_castS (show S = cy_if (cy_tCo (nI 8)) S S from Eq.trans (by first | (simp only [c_1, c_7, clk, eq_self, ↓reduceIte]; done) | (simp only [c_1, c_7, clk, eq_self, ↓reduceIte]; rfl) | rfl) (cy_if_n (show cy_tCo (nI 8) = none from by simp only [cy_tCo, c_1, c_7, clk, eq_self, ↓reduceIte])).symm) hW
        exact hE (show cy_tCo (nI 8) = none from by simp only [cy_tCo, c_1, c_7, clk, eq_self, ↓reduceIte]) _ _ _ _ _ _ (Nat.le_of_ble_eq_true rfl) (Nat.le_of_ble_eq_true rfl) hW dX2_count_117
      · have hl := hl
        have hl : lv_has ls 2 [(0, .ref (ad 0)), (1, .int 9)] := hl
        refine lv_iload_n hx hb dX2_count_20 rfl (lv_at hl 1 rfl) ?_
        refine lv_tableOut (tgt := 118) hx hb dX2_count_21 (by decide) (by decide) ?_
        refine lv_aload_n hx hb dX2_count_118 rfl (lv_at hl 0 rfl) ?_
        refine cy_get hC (0) (by decide) hi2 hW (rfl) rfl 16 (by decide) (hts (.fieldLink RX2 53 "CaskYard" "warmthNow" "I") (by decide +kernel)) (fun _ h9 => h9) (v := .int (S 0 16)) rfl dX2_count_119 ?_
        refine cy_topv (congrArg Value.int (show S 0 16 = cy_cnt S ns nc (nI 9).toNatClampNeg from by simp only [c_1, c_7, clk]; rfl)) ?_
        have hW := cy_castS (show S = cy_if (cy_tCo (nI 9)) S S from Eq.trans (by first | (simp only [c_1, c_7, clk, eq_self, ↓reduceIte]; done) | (simp only [c_1, c_7, clk, eq_self, ↓reduceIte]; rfl) | rfl) (cy_if_n (show cy_tCo (nI 9) = none from by simp only [cy_tCo, c_1, c_7, clk, eq_self, ↓reduceIte])).symm) hW
        exact hE (show cy_tCo (nI 9) = none from by simp only [cy_tCo, c_1, c_7, clk, eq_self, ↓reduceIte]) _ _ _ _ _ _ (Nat.le_of_ble_eq_true rfl) (Nat.le_of_ble_eq_true rfl) hW dX2_count_122
    · skip
      have hW := cy_castS (show S = cy_if (cy_tCo x) S S from Eq.trans (by first | (simp only [c_1, c_7, eq_self, ↓reduceIte]; done) | (simp only [c_1, c_7, eq_self, ↓reduceIte]; rfl) | rfl) (cy_if_s (show cy_tCo x = some cy_IB from by simp only [cy_tCo, c_1, c_7, eq_self, ↓reduceIte])).symm) hW
      exact hT _ _ _ _ 10 _ [] 78 82 236 cy_IB "what is not 0 to 9" cy_ok_IB (show cy_tCo x = some cy_IB from by simp only [cy_tCo, c_1, c_7, eq_self, ↓reduceIte]) (Nat.le_of_ble_eq_true rfl) (Nat.le_of_ble_eq_true rfl) (Nat.le_of_ble_eq_true rfl) hW (hl.1.trans hml.symm) (by decide +kernel) hkIB hiIB hgIB dX2_count_10 dX2_count_13 (Or.inl ⟨dX2_count_14, dX2_count_16, dX2_count_19⟩)
abbrev rm_X2_foresee : Room := { frames := 6, cells := 1, slots := 6, locals := 90 }
set_option maxHeartbeats 4000000 in
set_option maxRecDepth 100000 in
theorem c_X2_foresee {l : Launch} {D : va_G} {kI kJ kZ kC : ClassId} {ad : Nat → Nat} {S : Nat → Nat → Int32} {tl : va_W} {Z : Nat → Int64} {x y z : Int32} {nc : Nat} (hnc : S 0 9 = nI nc) (h12 : nc ≤ 12) (hb2 : ∀ c, c < nc → S (3 * c + 11) 2 = 0 ∨ S (3 * c + 11) 2 = 1) : cy_X l yX2_foresee wsX2_foresee rm_X2_foresee D (cy_tys kI kJ kZ kC) [.ref (ad 0), .int x, .int y, .int z] (cy_Y kI kJ kC ad S Z tl) (cy_tFo S x y z nc) (some (.int (cy_rFo S x.toNatClampNeg y.toNatClampNeg z.toNatClampNeg))) (cy_Y kI kJ kC ad (cy_if (cy_tFo S x y z nc) (cy_fe S x.toNatClampNeg y.toNatClampNeg) S) Z tl) := by
  refine cy_ofX (cc := cX2_foresee) (maxL := 5) (ret := (some .int)) (i := .ireturn) (by decide) rfl rfl (Nat.le_of_ble_eq_true rfl) (by decide) (fun _ => (cy_endI rfl)) ?_
  intro p e s m args below meth co Q A ls hC hTh hE hT hW hl
  have hx := hC.1.1; have hb := hC.1.2.1; have hml := hC.1.2.2.1; have hown := hC.1.2.2.2.1; have hts := hC.1.2.2.2.2
  have hl : lv_has ls 5 [(0, .ref (ad 0)), (1, .int x), (2, .int y), (3, .int z)] := hl
  have hi1 : ∀ w ∈ u_ws RX1 TX1 11, w ∈ wsX2_foresee := by decide +kernel
  have hi2 : ∀ w ∈ u_ws RX2 TX2 17, w ∈ wsX2_foresee := by decide +kernel
  have hkIA : Cond.classLink RX2 57 cy_IA ∈ wsX2_foresee := by decide +kernel
  have hiIA : Cond.initialized cy_IA ∈ wsX2_foresee := by decide +kernel
  have hgIA : ∀ w ∈ (vx_atS RX2 61 cy_IA cy_nm).filter goodWord, w ∈ wsX2_foresee := by decide +kernel
  have hkIS : Cond.classLink RX2 69 cy_IS ∈ wsX2_foresee := by decide +kernel
  have hiIS : Cond.initialized cy_IS ∈ wsX2_foresee := by decide +kernel
  have hgIS : ∀ w ∈ (vx_atS RX2 73 cy_IS cy_nm).filter goodWord, w ∈ wsX2_foresee := by decide +kernel
  have hkIB : Cond.classLink RX2 78 cy_IB ∈ wsX2_foresee := by decide +kernel
  have hiIB : Cond.initialized cy_IB ∈ wsX2_foresee := by decide +kernel
  have hgIB : ∀ w ∈ (vx_atS RX2 82 cy_IB cy_nm).filter goodWord, w ∈ wsX2_foresee := by decide +kernel
  refine lv_aload_n hx hb dX2_foresee_0 rfl (lv_at hl 0 rfl) ?_
  refine lv_iload_n hx hb dX2_foresee_1 rfl (lv_at hl 1 rfl) ?_
  refine cy_callV (As := [.int x]) (rest := []) (q0 := 0) (ci := 2) hC.1 hC.2.1 hC.2.2 hW (c_X2_isCask (x := x)) (cwV 1 hts gX2_foresee_X2_isCask rfl rfl rfl (by decide +kernel) ⟨Nat.le_of_ble_eq_true rfl, Nat.le_of_ble_eq_true rfl⟩) (cy_w_at (by decide) (rfl)) rfl rfl hl.1 rfl (Nat.le_of_ble_eq_true rfl) dX2_foresee_2 ⟨Nat.le_of_ble_eq_true rfl, Nat.le_of_ble_eq_true rfl⟩ (k' := 0) (n' := 0) rfl rfl (fun H locs hW => ?_)
  refine cy_topv (show _ = Value.int (cy_rIs x (nI nc)) from (congrArg (fun z => Value.int (cy_rIs x z)) hnc)) ?_
  refine lv_if_ne (tgt := 18) hx hb dX2_foresee_5 (by decide) (fun c_5 => ?_) (fun c_5 => ?_)
  · skip
    obtain ⟨c, hc, rfl⟩ := cy_rIs_t (by omega) c_5
    have clc : (nI c).toNatClampNeg = c := nI_clamp (by omega)
    have hl : lv_has ls 5 [(0, .ref (ad 0)), (1, .int (nI c)), (2, .int y), (3, .int z)] := hl
    refine lv_iload_n hx hb dX2_foresee_18 rfl (lv_at hl 3 rfl) ?_
    refine lv_if_lt (tgt := 27) hx hb dX2_foresee_19 (by decide) (fun c_19 => ?_) (fun c_19 => ?_)
    · skip
      have hW := cy_castS (show S = cy_if (cy_tFo S (nI c) y z nc) (cy_fe S (nI c).toNatClampNeg y.toNatClampNeg) S from Eq.trans (by first | (simp only [c_5, c_19, clc, eq_self, ↓reduceIte]; done) | (simp only [c_5, c_19, clc, eq_self, ↓reduceIte]; rfl) | rfl) (cy_if_s (show cy_tFo S (nI c) y z nc = some cy_IB from by simp only [cy_tFo, c_5, c_19, clc, eq_self, ↓reduceIte])).symm) hW
      exact hT _ _ _ _ 27 _ [] 78 82 250 cy_IB "what is not 0 to 3" cy_ok_IB (show cy_tFo S (nI c) y z nc = some cy_IB from by simp only [cy_tFo, c_5, c_19, clc, eq_self, ↓reduceIte]) (Nat.le_of_ble_eq_true rfl) (Nat.le_of_ble_eq_true rfl) (Nat.le_of_ble_eq_true rfl) hW (hl.1.trans hml.symm) (by decide +kernel) hkIB hiIB hgIB dX2_foresee_27 dX2_foresee_30 (Or.inl ⟨dX2_foresee_31, dX2_foresee_33, dX2_foresee_36⟩)
    · skip
      refine lv_iload_n hx hb dX2_foresee_22 rfl (lv_at hl 3 rfl) ?_
      refine lv_iconst (v := 4) hx hb dX2_foresee_23 (by decide) ?_
      refine lv_icmp_lt (tgt := 37) hx hb dX2_foresee_24 (by decide) (fun c_24 => ?_) (fun c_24 => ?_)
      · skip
        obtain ⟨w, hw, rfl⟩ := cy_rng (n := 4) rfl (by decide) c_19 c_24
        have clw : (nI w).toNatClampNeg = w := nI_clamp (by omega)
        have hl : lv_has ls 5 [(0, .ref (ad 0)), (1, .int (nI c)), (2, .int y), (3, .int (nI w))] := hl
        refine lv_iload_n hx hb dX2_foresee_37 rfl (lv_at hl 2 rfl) ?_
        refine lv_iconst (v := 1) hx hb dX2_foresee_38 (by decide) ?_
        refine lv_icmp_lt (tgt := 48) hx hb dX2_foresee_39 (by decide) (fun c_39 => ?_) (fun c_39 => ?_)
        · skip
          have hW := cy_castS (show S = cy_if (cy_tFo S (nI c) y (nI w) nc) (cy_fe S (nI c).toNatClampNeg y.toNatClampNeg) S from Eq.trans (by first | (simp only [c_5, c_19, c_24, c_39, clc, clw, eq_self, ↓reduceIte]; done) | (simp only [c_5, c_19, c_24, c_39, clc, clw, eq_self, ↓reduceIte]; rfl) | rfl) (cy_if_s (show cy_tFo S (nI c) y (nI w) nc = some cy_IA from by simp only [cy_tFo, c_5, c_19, c_24, c_39, clc, clw, eq_self, ↓reduceIte])).symm) hW
          exact hT _ _ _ _ 48 _ [] 57 61 223 cy_IA "months is not 1 to 60" cy_ok_IA (show cy_tFo S (nI c) y (nI w) nc = some cy_IA from by simp only [cy_tFo, c_5, c_19, c_24, c_39, clc, clw, eq_self, ↓reduceIte]) (Nat.le_of_ble_eq_true rfl) (Nat.le_of_ble_eq_true rfl) (Nat.le_of_ble_eq_true rfl) hW (hl.1.trans hml.symm) (by decide +kernel) hkIA hiIA hgIA dX2_foresee_48 dX2_foresee_51 (Or.inl ⟨dX2_foresee_52, dX2_foresee_54, dX2_foresee_57⟩)
        · skip
          refine lv_iload_n hx hb dX2_foresee_42 rfl (lv_at hl 2 rfl) ?_
          refine lv_bipush (v := 60) hx hb dX2_foresee_43 (by decide) ?_
          refine lv_icmp_le (tgt := 58) hx hb dX2_foresee_45 (by decide) (fun c_45 => ?_) (fun c_45 => ?_)
          · skip
            refine lv_aload_n hx hb dX2_foresee_58 rfl (lv_at hl 0 rfl) ?_
            refine cy_get hC (0) (by decide) hi2 hW (rfl) rfl 14 (by decide) (hts (.fieldLink RX2 225 "CaskYard" "month" "I") (by decide +kernel)) (fun _ h9 => h9) (v := .int (S 0 14)) rfl dX2_foresee_59 ?_
            refine lv_iload_n hx hb dX2_foresee_62 rfl (lv_at hl 2 rfl) ?_
            refine lv_iadd hx hb dX2_foresee_63 ?_
            refine lv_sipush (v := 1200) hx hb dX2_foresee_64 (by decide) ?_
            refine lv_icmp_le (tgt := 80) hx hb dX2_foresee_67 (by decide) (fun c_67 => ?_) (fun c_67 => ?_)
            · skip
              obtain ⟨k, hk, rfl⟩ := cy_rng1 (n := 60) (by decide) c_39 c_45
              have clk : (nI k).toNatClampNeg = k := nI_clamp (by omega)
              have hl : lv_has ls 5 [(0, .ref (ad 0)), (1, .int (nI c)), (2, .int (nI k)), (3, .int (nI w))] := hl
              refine lv_aload_n hx hb dX2_foresee_80 rfl (lv_at hl 0 rfl) ?_
              refine cy_get hC (0) (by decide) hi2 hW (rfl) rfl 10 (by decide) (hts (.fieldLink RX2 35 "CaskYard" "spare" "LCaskYard$Cask;") (by decide +kernel)) (fun _ h9 => h9) (v := .ref (ad (3 * 12 + 11))) rfl dX2_foresee_81 ?_
              refine lv_aload_n hx hb dX2_foresee_84 rfl (lv_at hl 0 rfl) ?_
              refine cy_get hC (0) (by decide) hi2 hW (rfl) rfl 8 (by decide) (hts (.fieldLink RX2 30 "CaskYard" "casks" "[LCaskYard$Cask;") (by decide +kernel)) (fun _ h9 => h9) (v := .ref (ad 7)) rfl dX2_foresee_85 ?_
              refine lv_iload_n hx hb dX2_foresee_88 rfl (lv_at hl 1 rfl) ?_
              refine cy_aald hC (7) (by decide) hW 3 (i := c) (a := ad (3 * c + 11)) (rfl) rfl (by omega) (by decide) rfl dX2_foresee_89 ?_
              refine cy_callV (As := [.ref (ad (3 * c + 11))]) (rest := []) (q0 := 3 * 12 + 11) (ci := 1) hC.1 hC.2.1 hC.2.2 hW (c_X1_copyFrom (c := 12) (d := c) (by omega) (by omega) (hb2 _ (by assumption)) (by omega)) (cwV 1 hts gX2_foresee_X1_copyFrom rfl rfl rfl (by decide +kernel) ⟨Nat.le_of_ble_eq_true rfl, Nat.le_of_ble_eq_true rfl⟩) (cy_w_at (by omega) (cy_eY_o)) rfl rfl hl.1 rfl (Nat.le_of_ble_eq_true rfl) dX2_foresee_90 ⟨Nat.le_of_ble_eq_true rfl, Nat.le_of_ble_eq_true rfl⟩ (k' := 0) (n' := 0) rfl rfl (fun H locs hW => ?_)
              refine lv_iconst (v := 0) hx hb dX2_foresee_93 (by decide) ?_
              refine lv_istore (lv' := [(4, .int 0), (0, .ref (ad 0)), (1, .int (nI c)), (2, .int (nI k)), (3, .int (nI w))]) hx hb dX2_foresee_94 hl (by decide) rfl (fun ls hl => ?_)
              have L_96 : ∀ (fu : Nat) (i : Nat), k - i < fu → (i ≤ k) → ∀ (H : Heap) (locs : List Loc), cy_W D A s.heap (cy_Y kI kJ kC ad (cy_fe S c i) Z tl) H locs → ∀ (ls : Array Slot), lv_has ls 5 [(4, .int (nI i)), (0, .ref (ad 0)), (1, .int (nI c)), (2, .int (nI k)), (3, .int (nI w))] → W p l e rm_X2_foresee s m args below meth co H locs 0 0 Q (F0 m 96 ls []) := by
                intro fu
                induction fu with
                | zero => intro i hn; exact absurd hn (Nat.not_lt_zero _)
                | succ fu ih_96 =>
                  intro i hn_96 hi H locs hW ls hl
                  refine lv_iload hx hb dX2_foresee_96 (lv_at hl 0 rfl) ?_
                  refine lv_iload_n hx hb dX2_foresee_98 rfl (lv_at hl 3 rfl) ?_
                  refine lv_icmp_ge (tgt := 130) hx hb dX2_foresee_99 (by decide) (fun c_99 => ?_) (fun c_99 => ?_)
                  · skip
                    have q_99 := cy_le (a := k) (b := i) (by omega) (by omega) c_99
                    obtain rfl : k = i := by omega
                    have hs_w : w = 0 ∨ w = 1 ∨ w = 2 ∨ w = 3 := by omega
                    rcases hs_w with rfl | rfl | rfl | rfl
                    · have hl := hl
                      have hl : lv_has ls 5 [(4, .int (nI k)), (0, .ref (ad 0)), (1, .int (nI c)), (2, .int (nI k)), (3, .int 0)] := hl
                      refine lv_iload_n hx hb dX2_foresee_130 rfl (lv_at hl 4 rfl) ?_
                      refine lv_tableIn (off := 25) (tgt := 156) hx hb dX2_foresee_131 (by decide) (by decide) (by decide) (by decide) ?_
                      refine lv_aload_n hx hb dX2_foresee_156 rfl (lv_at hl 1 rfl) ?_
                      refine cy_get hC (0) (by decide) hi2 hW (rfl) rfl 10 (by decide) (hts (.fieldLink RX2 35 "CaskYard" "spare" "LCaskYard$Cask;") (by decide +kernel)) (fun _ h9 => h9) (v := .ref (ad (3 * 12 + 11))) rfl dX2_foresee_157 ?_
                      refine cy_callV (As := []) (rest := []) (q0 := 3 * 12 + 11) (ci := 1) hC.1 hC.2.1 hC.2.2 hW (c_X1_held (c := 12) (by omega)) (cwV 0 hts gX2_foresee_X1_held rfl rfl rfl (by decide +kernel) ⟨Nat.le_of_ble_eq_true rfl, Nat.le_of_ble_eq_true rfl⟩) (cy_w_at (by omega) (cy_eY_o)) rfl rfl hl.1 rfl (Nat.le_of_ble_eq_true rfl) dX2_foresee_160 ⟨Nat.le_of_ble_eq_true rfl, Nat.le_of_ble_eq_true rfl⟩ (k' := 0) (n' := 0) rfl rfl (fun H locs hW => ?_)
                      refine cy_topv (congrArg Value.int (show cy_sm ((cy_fe S c k) (3 * 12 + 13)) 5 = cy_rFo S (nI c).toNatClampNeg (nI k).toNatClampNeg (nI 0).toNatClampNeg from by simp only [c_5, c_19, c_24, c_39, c_45, c_67, c_99, clc, clw, clk]; rfl)) ?_
                      have hW := cy_castS (show (cy_fe S c k) = cy_if (cy_tFo S (nI c) (nI k) (nI 0) nc) (cy_fe S (nI c).toNatClampNeg (nI k).toNatClampNeg) S from Eq.trans (by first | (simp only [c_5, c_19, c_24, c_39, c_45, c_67, c_99, clc, clw, clk, eq_self, ↓reduceIte]; done) | (simp only [c_5, c_19, c_24, c_39, c_45, c_67, c_99, clc, clw, clk, eq_self, ↓reduceIte]; rfl) | rfl) (cy_if_n (show cy_tFo S (nI c) (nI k) (nI 0) nc = none from by simp only [cy_tFo, c_5, c_19, c_24, c_39, c_45, c_67, c_99, clc, clw, clk, eq_self, ↓reduceIte])).symm) hW
                      exact hE (show cy_tFo S (nI c) (nI k) (nI 0) nc = none from by simp only [cy_tFo, c_5, c_19, c_24, c_39, c_45, c_67, c_99, clc, clw, clk, eq_self, ↓reduceIte]) _ _ _ _ _ _ (Nat.le_of_ble_eq_true rfl) (Nat.le_of_ble_eq_true rfl) hW dX2_foresee_163
                    · have hl := hl
                      have hl : lv_has ls 5 [(4, .int (nI k)), (0, .ref (ad 0)), (1, .int (nI c)), (2, .int (nI k)), (3, .int 1)] := hl
                      refine lv_iload_n hx hb dX2_foresee_130 rfl (lv_at hl 4 rfl) ?_
                      refine lv_tableIn (off := 33) (tgt := 164) hx hb dX2_foresee_131 (by decide) (by decide) (by decide) (by decide) ?_
                      refine lv_aload_n hx hb dX2_foresee_164 rfl (lv_at hl 1 rfl) ?_
                      refine cy_get hC (0) (by decide) hi2 hW (rfl) rfl 10 (by decide) (hts (.fieldLink RX2 35 "CaskYard" "spare" "LCaskYard$Cask;") (by decide +kernel)) (fun _ h9 => h9) (v := .ref (ad (3 * 12 + 11))) rfl dX2_foresee_165 ?_
                      refine cy_get hC (3 * 12 + 11) (by omega) hi1 hW (cy_eY_o) rfl 10 (by decide) (hts (.fieldLink RX2 206 "CaskYard$Cask" "amounts" "[I") (by decide +kernel)) (fun _ h9 => h9) (v := .ref (ad (3 * 12 + 13))) rfl dX2_foresee_168 ?_
                      refine lv_iconst (v := 4) hx hb dX2_foresee_171 (by decide) ?_
                      refine cy_iald hC (3 * 12 + 13) (by omega) hW 0 (i := 4) (cy_eY_a) rfl (by omega) (by decide) dX2_foresee_172 ?_
                      refine cy_topv (congrArg Value.int (show ((cy_fe S c k) (3 * 12 + 13)) 4 = cy_rFo S (nI c).toNatClampNeg (nI k).toNatClampNeg (nI 1).toNatClampNeg from by simp only [c_5, c_19, c_24, c_39, c_45, c_67, c_99, clc, clw, clk]; rfl)) ?_
                      have hW := cy_castS (show (cy_fe S c k) = cy_if (cy_tFo S (nI c) (nI k) (nI 1) nc) (cy_fe S (nI c).toNatClampNeg (nI k).toNatClampNeg) S from Eq.trans (by first | (simp only [c_5, c_19, c_24, c_39, c_45, c_67, c_99, clc, clw, clk, eq_self, ↓reduceIte]; done) | (simp only [c_5, c_19, c_24, c_39, c_45, c_67, c_99, clc, clw, clk, eq_self, ↓reduceIte]; rfl) | rfl) (cy_if_n (show cy_tFo S (nI c) (nI k) (nI 1) nc = none from by simp only [cy_tFo, c_5, c_19, c_24, c_39, c_45, c_67, c_99, clc, clw, clk, eq_self, ↓reduceIte])).symm) hW
                      exact hE (show cy_tFo S (nI c) (nI k) (nI 1) nc = none from by simp only [cy_tFo, c_5, c_19, c_24, c_39, c_45, c_67, c_99, clc, clw, clk, eq_self, ↓reduceIte]) _ _ _ _ _ _ (Nat.le_of_ble_eq_true rfl) (Nat.le_of_ble_eq_true rfl) hW dX2_foresee_173
                    · have hl := hl
                      have hl : lv_has ls 5 [(4, .int (nI k)), (0, .ref (ad 0)), (1, .int (nI c)), (2, .int (nI k)), (3, .int 2)] := hl
                      refine lv_iload_n hx hb dX2_foresee_130 rfl (lv_at hl 4 rfl) ?_
                      refine lv_tableIn (off := 43) (tgt := 174) hx hb dX2_foresee_131 (by decide) (by decide) (by decide) (by decide) ?_
                      refine lv_aload_n hx hb dX2_foresee_174 rfl (lv_at hl 1 rfl) ?_
                      refine cy_get hC (0) (by decide) hi2 hW (rfl) rfl 10 (by decide) (hts (.fieldLink RX2 35 "CaskYard" "spare" "LCaskYard$Cask;") (by decide +kernel)) (fun _ h9 => h9) (v := .ref (ad (3 * 12 + 11))) rfl dX2_foresee_175 ?_
                      refine cy_get hC (3 * 12 + 11) (by omega) hi1 hW (cy_eY_o) rfl 8 (by decide) (hts (.fieldLink RX2 263 "CaskYard$Cask" "grains" "I") (by decide +kernel)) (fun _ h9 => h9) (v := .int (((cy_fe S c k) (3 * 12 + 11)) 8)) rfl dX2_foresee_178 ?_
                      refine cy_topv (congrArg Value.int (show ((cy_fe S c k) (3 * 12 + 11)) 8 = cy_rFo S (nI c).toNatClampNeg (nI k).toNatClampNeg (nI 2).toNatClampNeg from by simp only [c_5, c_19, c_24, c_39, c_45, c_67, c_99, clc, clw, clk]; rfl)) ?_
                      have hW := cy_castS (show (cy_fe S c k) = cy_if (cy_tFo S (nI c) (nI k) (nI 2) nc) (cy_fe S (nI c).toNatClampNeg (nI k).toNatClampNeg) S from Eq.trans (by first | (simp only [c_5, c_19, c_24, c_39, c_45, c_67, c_99, clc, clw, clk, eq_self, ↓reduceIte]; done) | (simp only [c_5, c_19, c_24, c_39, c_45, c_67, c_99, clc, clw, clk, eq_self, ↓reduceIte]; rfl) | rfl) (cy_if_n (show cy_tFo S (nI c) (nI k) (nI 2) nc = none from by simp only [cy_tFo, c_5, c_19, c_24, c_39, c_45, c_67, c_99, clc, clw, clk, eq_self, ↓reduceIte])).symm) hW
                      exact hE (show cy_tFo S (nI c) (nI k) (nI 2) nc = none from by simp only [cy_tFo, c_5, c_19, c_24, c_39, c_45, c_67, c_99, clc, clw, clk, eq_self, ↓reduceIte]) _ _ _ _ _ _ (Nat.le_of_ble_eq_true rfl) (Nat.le_of_ble_eq_true rfl) hW dX2_foresee_181
                    · have hl := hl
                      have hl : lv_has ls 5 [(4, .int (nI k)), (0, .ref (ad 0)), (1, .int (nI c)), (2, .int (nI k)), (3, .int 3)] := hl
                      refine lv_iload_n hx hb dX2_foresee_130 rfl (lv_at hl 4 rfl) ?_
                      refine lv_tableOut (tgt := 182) hx hb dX2_foresee_131 (by decide) (by decide) ?_
                      refine lv_aload_n hx hb dX2_foresee_182 rfl (lv_at hl 1 rfl) ?_
                      refine cy_get hC (0) (by decide) hi2 hW (rfl) rfl 10 (by decide) (hts (.fieldLink RX2 35 "CaskYard" "spare" "LCaskYard$Cask;") (by decide +kernel)) (fun _ h9 => h9) (v := .ref (ad (3 * 12 + 11))) rfl dX2_foresee_183 ?_
                      refine cy_callV (As := []) (rest := []) (q0 := 3 * 12 + 11) (ci := 1) hC.1 hC.2.1 hC.2.2 hW (c_X1_leak (c := 12) (by omega)) (cwV 0 hts gX2_foresee_X1_leak rfl rfl rfl (by decide +kernel) ⟨Nat.le_of_ble_eq_true rfl, Nat.le_of_ble_eq_true rfl⟩) (cy_w_at (by omega) (cy_eY_o)) rfl rfl hl.1 rfl (Nat.le_of_ble_eq_true rfl) dX2_foresee_186 ⟨Nat.le_of_ble_eq_true rfl, Nat.le_of_ble_eq_true rfl⟩ (k' := 0) (n' := 0) rfl rfl (fun H locs hW => ?_)
                      refine cy_topv (congrArg Value.int (show cy_rLeak (cy_fe S c k) 12 = cy_rFo S (nI c).toNatClampNeg (nI k).toNatClampNeg (nI 3).toNatClampNeg from by simp only [c_5, c_19, c_24, c_39, c_45, c_67, c_99, clc, clw, clk]; rfl)) ?_
                      have hW := cy_castS (show (cy_fe S c k) = cy_if (cy_tFo S (nI c) (nI k) (nI 3) nc) (cy_fe S (nI c).toNatClampNeg (nI k).toNatClampNeg) S from Eq.trans (by first | (simp only [c_5, c_19, c_24, c_39, c_45, c_67, c_99, clc, clw, clk, eq_self, ↓reduceIte]; done) | (simp only [c_5, c_19, c_24, c_39, c_45, c_67, c_99, clc, clw, clk, eq_self, ↓reduceIte]; rfl) | rfl) (cy_if_n (show cy_tFo S (nI c) (nI k) (nI 3) nc = none from by simp only [cy_tFo, c_5, c_19, c_24, c_39, c_45, c_67, c_99, clc, clw, clk, eq_self, ↓reduceIte])).symm) hW
                      exact hE (show cy_tFo S (nI c) (nI k) (nI 3) nc = none from by simp only [cy_tFo, c_5, c_19, c_24, c_39, c_45, c_67, c_99, clc, clw, clk, eq_self, ↓reduceIte]) _ _ _ _ _ _ (Nat.le_of_ble_eq_true rfl) (Nat.le_of_ble_eq_true rfl) hW dX2_foresee_189
                  · skip
                    have q_99 := cy_nle (a := k) (b := i) (by omega) (by omega) c_99
                    refine lv_aload_n hx hb dX2_foresee_102 rfl (lv_at hl 1 rfl) ?_
                    refine cy_get hC (0) (by decide) hi2 hW (rfl) rfl 10 (by decide) (hts (.fieldLink RX2 35 "CaskYard" "spare" "LCaskYard$Cask;") (by decide +kernel)) (fun _ h9 => h9) (v := .ref (ad (3 * 12 + 11))) rfl dX2_foresee_103 ?_
                    refine lv_aload_n hx hb dX2_foresee_106 rfl (lv_at hl 1 rfl) ?_
                    refine cy_get hC (0) (by decide) hi2 hW (rfl) rfl 16 (by decide) (hts (.fieldLink RX2 53 "CaskYard" "warmthNow" "I") (by decide +kernel)) (fun _ h9 => h9) (v := .int (((cy_fe S c i) 0) 16)) rfl dX2_foresee_107 ?_
                    refine cy_top (y := S 0 16) (by rw [cy_fe_n (by decide)]) ?_
                    refine lv_aload_n hx hb dX2_foresee_110 rfl (lv_at hl 1 rfl) ?_
                    refine cy_get hC (0) (by decide) hi2 hW (rfl) rfl 14 (by decide) (hts (.fieldLink RX2 225 "CaskYard" "month" "I") (by decide +kernel)) (fun _ h9 => h9) (v := .int (((cy_fe S c i) 0) 14)) rfl dX2_foresee_111 ?_
                    refine cy_top (y := S 0 14) (by rw [cy_fe_n (by decide)]) ?_
                    refine lv_iload hx hb dX2_foresee_114 (lv_at hl 0 rfl) ?_
                    refine lv_iadd hx hb dX2_foresee_116 ?_
                    refine cy_callS (As := [.int ((S 0 14) + (nI i))]) (rest := [.int (S 0 16), .ref (ad (3 * 12 + 11))]) hC.1 hC.2.1 hC.2.2 hW (c_X2_hoopsLoosenIn (x := ((S 0 14) + (nI i)))) (va_cwS 1 hts gX2_foresee_X2_hoopsLoosenIn rfl rfl rfl (by decide +kernel) ⟨Nat.le_of_ble_eq_true rfl, Nat.le_of_ble_eq_true rfl⟩) rfl hl.1 rfl (Nat.le_of_ble_eq_true rfl) dX2_foresee_117 ⟨Nat.le_of_ble_eq_true rfl, Nat.le_of_ble_eq_true rfl⟩ (k' := 0) (n' := 0) rfl rfl (fun H locs hW => ?_)
                    refine cy_callV (As := [.int (S 0 16), .int (cy_hl ((S 0 14) + (nI i)))]) (rest := []) (q0 := 3 * 12 + 11) (ci := 1) hC.1 hC.2.1 hC.2.2 hW (c_X1_live (c := 12) (x := (S 0 16)) (b := (cy_hl ((S 0 14) + (nI i)))) (by omega)) (cwV 2 hts gX2_foresee_X1_live rfl rfl rfl (by decide +kernel) ⟨Nat.le_of_ble_eq_true rfl, Nat.le_of_ble_eq_true rfl⟩) (cy_w_at (by omega) (cy_eY_o)) rfl rfl hl.1 rfl (Nat.le_of_ble_eq_true rfl) dX2_foresee_120 ⟨Nat.le_of_ble_eq_true rfl, Nat.le_of_ble_eq_true rfl⟩ (k' := 0) (n' := 0) rfl rfl (fun H locs hW => ?_)
                    refine lv_pop hx hb dX2_foresee_123 rfl ?_
                    refine lv_iinc (v := nI (i + 1)) (lv' := [(4, .int (nI (i + 1))), (0, .ref (ad 0)), (1, .int (nI c)), (2, .int (nI k)), (3, .int (nI w))]) hx hb dX2_foresee_124 hl (k := 0) rfl (nI_1 i) (by decide) rfl (fun ls hl => ?_)
                    refine lv_goto (tgt := 96) hx hb dX2_foresee_127 (by decide) ?_
                    exact ih_96 (i + 1) (by omega) (by omega) _ _ hW _ (lv_sub hl [0, 1, 2, 3, 4] rfl)
              exact L_96 ((k - 0) + 1) 0 (Nat.lt_succ_self _) (by omega) _ _ hW _ (lv_sub hl [0, 1, 2, 3, 4] rfl)
            · skip
              have hW := cy_castS (show S = cy_if (cy_tFo S (nI c) y (nI w) nc) (cy_fe S (nI c).toNatClampNeg y.toNatClampNeg) S from Eq.trans (by first | (simp only [c_5, c_19, c_24, c_39, c_45, c_67, clc, clw, eq_self, ↓reduceIte]; done) | (simp only [c_5, c_19, c_24, c_39, c_45, c_67, clc, clw, eq_self, ↓reduceIte]; rfl) | rfl) (cy_if_s (show cy_tFo S (nI c) y (nI w) nc = some cy_IS from by simp only [cy_tFo, c_5, c_19, c_24, c_39, c_45, c_67, clc, clw, eq_self, ↓reduceIte])).symm) hW
              exact hT _ _ _ _ 70 _ [] 69 73 228 cy_IS "the month would be greater than 1200" cy_ok_IS (show cy_tFo S (nI c) y (nI w) nc = some cy_IS from by simp only [cy_tFo, c_5, c_19, c_24, c_39, c_45, c_67, clc, clw, eq_self, ↓reduceIte]) (Nat.le_of_ble_eq_true rfl) (Nat.le_of_ble_eq_true rfl) (Nat.le_of_ble_eq_true rfl) hW (hl.1.trans hml.symm) (by decide +kernel) hkIS hiIS hgIS dX2_foresee_70 dX2_foresee_73 (Or.inl ⟨dX2_foresee_74, dX2_foresee_76, dX2_foresee_79⟩)
          · skip
            have hW := cy_castS (show S = cy_if (cy_tFo S (nI c) y (nI w) nc) (cy_fe S (nI c).toNatClampNeg y.toNatClampNeg) S from Eq.trans (by first | (simp only [c_5, c_19, c_24, c_39, c_45, clc, clw, eq_self, ↓reduceIte]; done) | (simp only [c_5, c_19, c_24, c_39, c_45, clc, clw, eq_self, ↓reduceIte]; rfl) | rfl) (cy_if_s (show cy_tFo S (nI c) y (nI w) nc = some cy_IA from by simp only [cy_tFo, c_5, c_19, c_24, c_39, c_45, clc, clw, eq_self, ↓reduceIte])).symm) hW
            exact hT _ _ _ _ 48 _ [] 57 61 223 cy_IA "months is not 1 to 60" cy_ok_IA (show cy_tFo S (nI c) y (nI w) nc = some cy_IA from by simp only [cy_tFo, c_5, c_19, c_24, c_39, c_45, clc, clw, eq_self, ↓reduceIte]) (Nat.le_of_ble_eq_true rfl) (Nat.le_of_ble_eq_true rfl) (Nat.le_of_ble_eq_true rfl) hW (hl.1.trans hml.symm) (by decide +kernel) hkIA hiIA hgIA dX2_foresee_48 dX2_foresee_51 (Or.inl ⟨dX2_foresee_52, dX2_foresee_54, dX2_foresee_57⟩)
      · skip
        have hW := cy_castS (show S = cy_if (cy_tFo S (nI c) y z nc) (cy_fe S (nI c).toNatClampNeg y.toNatClampNeg) S from Eq.trans (by first | (simp only [c_5, c_19, c_24, clc, eq_self, ↓reduceIte]; done) | (simp only [c_5, c_19, c_24, clc, eq_self, ↓reduceIte]; rfl) | rfl) (cy_if_s (show cy_tFo S (nI c) y z nc = some cy_IB from by simp only [cy_tFo, c_5, c_19, c_24, clc, eq_self, ↓reduceIte])).symm) hW
        exact hT _ _ _ _ 27 _ [] 78 82 250 cy_IB "what is not 0 to 3" cy_ok_IB (show cy_tFo S (nI c) y z nc = some cy_IB from by simp only [cy_tFo, c_5, c_19, c_24, clc, eq_self, ↓reduceIte]) (Nat.le_of_ble_eq_true rfl) (Nat.le_of_ble_eq_true rfl) (Nat.le_of_ble_eq_true rfl) hW (hl.1.trans hml.symm) (by decide +kernel) hkIB hiIB hgIB dX2_foresee_27 dX2_foresee_30 (Or.inl ⟨dX2_foresee_31, dX2_foresee_33, dX2_foresee_36⟩)
  · skip
    have hW := cy_castS (show S = cy_if (cy_tFo S x y z nc) (cy_fe S x.toNatClampNeg y.toNatClampNeg) S from Eq.trans (by first | (simp only [c_5, eq_self, ↓reduceIte]; done) | (simp only [c_5, eq_self, ↓reduceIte]; rfl) | rfl) (cy_if_s (show cy_tFo S x y z nc = some cy_IB from by simp only [cy_tFo, c_5, eq_self, ↓reduceIte])).symm) hW
    exact hT _ _ _ _ 8 _ [] 78 82 144 cy_IB "no such cask" cy_ok_IB (show cy_tFo S x y z nc = some cy_IB from by simp only [cy_tFo, c_5, eq_self, ↓reduceIte]) (Nat.le_of_ble_eq_true rfl) (Nat.le_of_ble_eq_true rfl) (Nat.le_of_ble_eq_true rfl) hW (hl.1.trans hml.symm) (by decide +kernel) hkIB hiIB hgIB dX2_foresee_8 dX2_foresee_11 (Or.inl ⟨dX2_foresee_12, dX2_foresee_14, dX2_foresee_17⟩)
abbrev rm_X2_blend : Room := { frames := 6, cells := 1, slots := 6, locals := 93 }
set_option maxHeartbeats 4000000 in
set_option maxRecDepth 100000 in
theorem c_X2_blend {l : Launch} {D : va_G} {kI kJ kZ kC : ClassId} {ad : Nat → Nat} {S : Nat → Nat → Int32} {tl : va_W} {Z : Nat → Int64} {x y : Int32} {nc : Nat} (hnc : S 0 9 = nI nc) (h12 : nc ≤ 12) : cy_X l yX2_blend wsX2_blend rm_X2_blend D (cy_tys kI kJ kZ kC) [.ref (ad 0), .int x, .int y] (cy_Y kI kJ kC ad S Z tl) (cy_tBl x y) (some (.int (cy_fo S nc x nc 10 y.toNatClampNeg))) (cy_Y kI kJ kC ad (cy_if (cy_tBl x y) (cy_fo S nc x nc) S) Z tl) := by
  refine cy_ofX (cc := cX2_blend) (maxL := 3) (ret := (some .int)) (i := .ireturn) (by decide) rfl rfl (Nat.le_of_ble_eq_true rfl) (by decide) (fun _ => (cy_endI rfl)) ?_
  intro p e s m args below meth co Q A ls hC hTh hE hT hW hl
  have hx := hC.1.1; have hb := hC.1.2.1; have hml := hC.1.2.2.1; have hown := hC.1.2.2.2.1; have hts := hC.1.2.2.2.2
  have hl : lv_has ls 3 [(0, .ref (ad 0)), (1, .int x), (2, .int y)] := hl
  have hi0 : ∀ w ∈ u_ws RX0 TX0 5, w ∈ wsX2_blend := by decide +kernel
  have hi2 : ∀ w ∈ u_ws RX2 TX2 17, w ∈ wsX2_blend := by decide +kernel
  have hkIA : Cond.classLink RX2 57 cy_IA ∈ wsX2_blend := by decide +kernel
  have hiIA : Cond.initialized cy_IA ∈ wsX2_blend := by decide +kernel
  have hgIA : ∀ w ∈ (vx_atS RX2 61 cy_IA cy_nm).filter goodWord, w ∈ wsX2_blend := by decide +kernel
  have hkIB : Cond.classLink RX2 78 cy_IB ∈ wsX2_blend := by decide +kernel
  have hiIB : Cond.initialized cy_IB ∈ wsX2_blend := by decide +kernel
  have hgIB : ∀ w ∈ (vx_atS RX2 82 cy_IB cy_nm).filter goodWord, w ∈ wsX2_blend := by decide +kernel
  refine lv_iload_n hx hb dX2_blend_0 rfl (lv_at hl 1 rfl) ?_
  refine lv_if_lt (tgt := 11) hx hb dX2_blend_1 (by decide) (fun c_1 => ?_) (fun c_1 => ?_)
  · skip
    have hW := cy_castS (show S = cy_if (cy_tBl x y) (cy_fo S nc x nc) S from Eq.trans (by first | (simp only [c_1, eq_self, ↓reduceIte]; done) | (simp only [c_1, eq_self, ↓reduceIte]; rfl) | rfl) (cy_if_s (show cy_tBl x y = some cy_IA from by simp only [cy_tBl, c_1, eq_self, ↓reduceIte])).symm) hW
    exact hT _ _ _ _ 11 _ [] 57 61 270 cy_IA "target is not 0 to 1000000" cy_ok_IA (show cy_tBl x y = some cy_IA from by simp only [cy_tBl, c_1, eq_self, ↓reduceIte]) (Nat.le_of_ble_eq_true rfl) (Nat.le_of_ble_eq_true rfl) (Nat.le_of_ble_eq_true rfl) hW (hl.1.trans hml.symm) (by decide +kernel) hkIA hiIA hgIA dX2_blend_11 dX2_blend_14 (Or.inr ⟨dX2_blend_15, dX2_blend_18, dX2_blend_21⟩)
  · skip
    refine lv_iload_n hx hb dX2_blend_4 rfl (lv_at hl 1 rfl) ?_
    refine lv_ldcw (v := 1000000) hx hb hown (hts (.constant RX2 269 1000000) (by decide +kernel)) dX2_blend_5 ?_
    refine lv_icmp_le (tgt := 22) hx hb dX2_blend_8 (by decide) (fun c_8 => ?_) (fun c_8 => ?_)
    · skip
      refine lv_iload_n hx hb dX2_blend_22 rfl (lv_at hl 2 rfl) ?_
      refine lv_if_lt (tgt := 31) hx hb dX2_blend_23 (by decide) (fun c_23 => ?_) (fun c_23 => ?_)
      · skip
        have hW := cy_castS (show S = cy_if (cy_tBl x y) (cy_fo S nc x nc) S from Eq.trans (by first | (simp only [c_1, c_8, c_23, eq_self, ↓reduceIte]; done) | (simp only [c_1, c_8, c_23, eq_self, ↓reduceIte]; rfl) | rfl) (cy_if_s (show cy_tBl x y = some cy_IB from by simp only [cy_tBl, c_1, c_8, c_23, eq_self, ↓reduceIte])).symm) hW
        exact hT _ _ _ _ 31 _ [] 78 82 250 cy_IB "what is not 0 to 3" cy_ok_IB (show cy_tBl x y = some cy_IB from by simp only [cy_tBl, c_1, c_8, c_23, eq_self, ↓reduceIte]) (Nat.le_of_ble_eq_true rfl) (Nat.le_of_ble_eq_true rfl) (Nat.le_of_ble_eq_true rfl) hW (hl.1.trans hml.symm) (by decide +kernel) hkIB hiIB hgIB dX2_blend_31 dX2_blend_34 (Or.inl ⟨dX2_blend_35, dX2_blend_37, dX2_blend_40⟩)
      · skip
        refine lv_iload_n hx hb dX2_blend_26 rfl (lv_at hl 2 rfl) ?_
        refine lv_iconst (v := 4) hx hb dX2_blend_27 (by decide) ?_
        refine lv_icmp_lt (tgt := 41) hx hb dX2_blend_28 (by decide) (fun c_28 => ?_) (fun c_28 => ?_)
        · skip
          obtain ⟨k, hk, rfl⟩ := cy_rng (n := 4) rfl (by decide) c_23 c_28
          have clk : (nI k).toNatClampNeg = k := nI_clamp (by omega)
          have hl : lv_has ls 3 [(0, .ref (ad 0)), (1, .int x), (2, .int (nI k))] := hl
          refine lv_aload_n hx hb dX2_blend_41 rfl (lv_at hl 0 rfl) ?_
          refine lv_iload_n hx hb dX2_blend_42 rfl (lv_at hl 1 rfl) ?_
          refine cy_callV (As := [.int x]) (rest := []) (q0 := 0) (ci := 2) hC.1 hC.2.1 hC.2.2 hW (c_X2_findBestBlend (tg := x) (nc := nc) hnc (by omega)) (cwV 1 hts gX2_blend_X2_findBestBlend rfl rfl rfl (by decide +kernel) ⟨Nat.le_of_ble_eq_true rfl, Nat.le_of_ble_eq_true rfl⟩) (cy_w_at (by decide) (rfl)) rfl rfl hl.1 rfl (Nat.le_of_ble_eq_true rfl) dX2_blend_43 ⟨Nat.le_of_ble_eq_true rfl, Nat.le_of_ble_eq_true rfl⟩ (k' := 0) (n' := 0) rfl rfl (fun H locs hW => ?_)
          have hs_k : k = 0 ∨ k = 1 ∨ k = 2 ∨ k = 3 := by omega
          rcases hs_k with rfl | rfl | rfl | rfl
          · have hl := hl
            have hl : lv_has ls 3 [(0, .ref (ad 0)), (1, .int x), (2, .int 0)] := hl
            refine lv_iload_n hx hb dX2_blend_46 rfl (lv_at hl 2 rfl) ?_
            refine lv_tableIn (off := 25) (tgt := 72) hx hb dX2_blend_47 (by decide) (by decide) (by decide) (by decide) ?_
            refine lv_aload_n hx hb dX2_blend_72 rfl (lv_at hl 0 rfl) ?_
            refine cy_get hC (0) (by decide) hi2 hW (rfl) rfl 13 (by decide) (hts (.fieldLink RX2 49 "CaskYard" "best" "LCaskYard$Blend;") (by decide +kernel)) (fun _ h9 => h9) (v := .ref (ad 10)) rfl dX2_blend_73 ?_
            refine cy_get hC (10) (by decide) hi0 hW (rfl) rfl 0 (by decide) (hts (.fieldLink RX2 275 "CaskYard$Blend" "a" "I") (by decide +kernel)) (fun _ h9 => h9) (v := .int (((cy_fo S nc x nc) 10) 0)) rfl dX2_blend_76 ?_
            refine cy_topv (congrArg Value.int (show ((cy_fo S nc x nc) 10) 0 = cy_fo S nc x nc 10 (nI 0).toNatClampNeg from by first | (simp only [c_1, c_8, c_23, c_28, clk]; done) | (simp only [c_1, c_8, c_23, c_28, clk]; rfl))) ?_
            have hW := cy_castS (show (cy_fo S nc x nc) = cy_if (cy_tBl x (nI 0)) (cy_fo S nc x nc) S from Eq.trans (by first | (simp only [c_1, c_8, c_23, c_28, clk, eq_self, ↓reduceIte]; done) | (simp only [c_1, c_8, c_23, c_28, clk, eq_self, ↓reduceIte]; rfl) | rfl) (cy_if_n (show cy_tBl x (nI 0) = none from by simp only [cy_tBl, c_1, c_8, c_23, c_28, clk, eq_self, ↓reduceIte])).symm) hW
            exact hE (show cy_tBl x (nI 0) = none from by simp only [cy_tBl, c_1, c_8, c_23, c_28, clk, eq_self, ↓reduceIte]) _ _ _ _ _ _ (Nat.le_of_ble_eq_true rfl) (Nat.le_of_ble_eq_true rfl) hW dX2_blend_79
          · have hl := hl
            have hl : lv_has ls 3 [(0, .ref (ad 0)), (1, .int x), (2, .int 1)] := hl
            refine lv_iload_n hx hb dX2_blend_46 rfl (lv_at hl 2 rfl) ?_
            refine lv_tableIn (off := 33) (tgt := 80) hx hb dX2_blend_47 (by decide) (by decide) (by decide) (by decide) ?_
            refine lv_aload_n hx hb dX2_blend_80 rfl (lv_at hl 0 rfl) ?_
            refine cy_get hC (0) (by decide) hi2 hW (rfl) rfl 13 (by decide) (hts (.fieldLink RX2 49 "CaskYard" "best" "LCaskYard$Blend;") (by decide +kernel)) (fun _ h9 => h9) (v := .ref (ad 10)) rfl dX2_blend_81 ?_
            refine cy_get hC (10) (by decide) hi0 hW (rfl) rfl 1 (by decide) (hts (.fieldLink RX2 278 "CaskYard$Blend" "b" "I") (by decide +kernel)) (fun _ h9 => h9) (v := .int (((cy_fo S nc x nc) 10) 1)) rfl dX2_blend_84 ?_
            refine cy_topv (congrArg Value.int (show ((cy_fo S nc x nc) 10) 1 = cy_fo S nc x nc 10 (nI 1).toNatClampNeg from by first | (simp only [c_1, c_8, c_23, c_28, clk]; done) | (simp only [c_1, c_8, c_23, c_28, clk]; rfl))) ?_
            have hW := cy_castS (show (cy_fo S nc x nc) = cy_if (cy_tBl x (nI 1)) (cy_fo S nc x nc) S from Eq.trans (by first | (simp only [c_1, c_8, c_23, c_28, clk, eq_self, ↓reduceIte]; done) | (simp only [c_1, c_8, c_23, c_28, clk, eq_self, ↓reduceIte]; rfl) | rfl) (cy_if_n (show cy_tBl x (nI 1) = none from by simp only [cy_tBl, c_1, c_8, c_23, c_28, clk, eq_self, ↓reduceIte])).symm) hW
            exact hE (show cy_tBl x (nI 1) = none from by simp only [cy_tBl, c_1, c_8, c_23, c_28, clk, eq_self, ↓reduceIte]) _ _ _ _ _ _ (Nat.le_of_ble_eq_true rfl) (Nat.le_of_ble_eq_true rfl) hW dX2_blend_87
          · have hl := hl
            have hl : lv_has ls 3 [(0, .ref (ad 0)), (1, .int x), (2, .int 2)] := hl
            refine lv_iload_n hx hb dX2_blend_46 rfl (lv_at hl 2 rfl) ?_
            refine lv_tableIn (off := 41) (tgt := 88) hx hb dX2_blend_47 (by decide) (by decide) (by decide) (by decide) ?_
            refine lv_aload_n hx hb dX2_blend_88 rfl (lv_at hl 0 rfl) ?_
            refine cy_get hC (0) (by decide) hi2 hW (rfl) rfl 13 (by decide) (hts (.fieldLink RX2 49 "CaskYard" "best" "LCaskYard$Blend;") (by decide +kernel)) (fun _ h9 => h9) (v := .ref (ad 10)) rfl dX2_blend_89 ?_
            refine cy_get hC (10) (by decide) hi0 hW (rfl) rfl 2 (by decide) (hts (.fieldLink RX2 281 "CaskYard$Blend" "tenths" "I") (by decide +kernel)) (fun _ h9 => h9) (v := .int (((cy_fo S nc x nc) 10) 2)) rfl dX2_blend_92 ?_
            refine cy_topv (congrArg Value.int (show ((cy_fo S nc x nc) 10) 2 = cy_fo S nc x nc 10 (nI 2).toNatClampNeg from by first | (simp only [c_1, c_8, c_23, c_28, clk]; done) | (simp only [c_1, c_8, c_23, c_28, clk]; rfl))) ?_
            have hW := cy_castS (show (cy_fo S nc x nc) = cy_if (cy_tBl x (nI 2)) (cy_fo S nc x nc) S from Eq.trans (by first | (simp only [c_1, c_8, c_23, c_28, clk, eq_self, ↓reduceIte]; done) | (simp only [c_1, c_8, c_23, c_28, clk, eq_self, ↓reduceIte]; rfl) | rfl) (cy_if_n (show cy_tBl x (nI 2) = none from by simp only [cy_tBl, c_1, c_8, c_23, c_28, clk, eq_self, ↓reduceIte])).symm) hW
            exact hE (show cy_tBl x (nI 2) = none from by simp only [cy_tBl, c_1, c_8, c_23, c_28, clk, eq_self, ↓reduceIte]) _ _ _ _ _ _ (Nat.le_of_ble_eq_true rfl) (Nat.le_of_ble_eq_true rfl) hW dX2_blend_95
          · have hl := hl
            have hl : lv_has ls 3 [(0, .ref (ad 0)), (1, .int x), (2, .int 3)] := hl
            refine lv_iload_n hx hb dX2_blend_46 rfl (lv_at hl 2 rfl) ?_
            refine lv_tableOut (tgt := 96) hx hb dX2_blend_47 (by decide) (by decide) ?_
            refine lv_aload_n hx hb dX2_blend_96 rfl (lv_at hl 0 rfl) ?_
            refine cy_get hC (0) (by decide) hi2 hW (rfl) rfl 13 (by decide) (hts (.fieldLink RX2 49 "CaskYard" "best" "LCaskYard$Blend;") (by decide +kernel)) (fun _ h9 => h9) (v := .ref (ad 10)) rfl dX2_blend_97 ?_
            refine cy_get hC (10) (by decide) hi0 hW (rfl) rfl 3 (by decide) (hts (.fieldLink RX2 284 "CaskYard$Blend" "mixedTaste" "I") (by decide +kernel)) (fun _ h9 => h9) (v := .int (((cy_fo S nc x nc) 10) 3)) rfl dX2_blend_100 ?_
            refine cy_topv (congrArg Value.int (show ((cy_fo S nc x nc) 10) 3 = cy_fo S nc x nc 10 (nI 3).toNatClampNeg from by first | (simp only [c_1, c_8, c_23, c_28, clk]; done) | (simp only [c_1, c_8, c_23, c_28, clk]; rfl))) ?_
            have hW := cy_castS (show (cy_fo S nc x nc) = cy_if (cy_tBl x (nI 3)) (cy_fo S nc x nc) S from Eq.trans (by first | (simp only [c_1, c_8, c_23, c_28, clk, eq_self, ↓reduceIte]; done) | (simp only [c_1, c_8, c_23, c_28, clk, eq_self, ↓reduceIte]; rfl) | rfl) (cy_if_n (show cy_tBl x (nI 3) = none from by simp only [cy_tBl, c_1, c_8, c_23, c_28, clk, eq_self, ↓reduceIte])).symm) hW
            exact hE (show cy_tBl x (nI 3) = none from by simp only [cy_tBl, c_1, c_8, c_23, c_28, clk, eq_self, ↓reduceIte]) _ _ _ _ _ _ (Nat.le_of_ble_eq_true rfl) (Nat.le_of_ble_eq_true rfl) hW dX2_blend_103
        · skip
          have hW := cy_castS (show S = cy_if (cy_tBl x y) (cy_fo S nc x nc) S from Eq.trans (by first | (simp only [c_1, c_8, c_23, c_28, eq_self, ↓reduceIte]; done) | (simp only [c_1, c_8, c_23, c_28, eq_self, ↓reduceIte]; rfl) | rfl) (cy_if_s (show cy_tBl x y = some cy_IB from by simp only [cy_tBl, c_1, c_8, c_23, c_28, eq_self, ↓reduceIte])).symm) hW
          exact hT _ _ _ _ 31 _ [] 78 82 250 cy_IB "what is not 0 to 3" cy_ok_IB (show cy_tBl x y = some cy_IB from by simp only [cy_tBl, c_1, c_8, c_23, c_28, eq_self, ↓reduceIte]) (Nat.le_of_ble_eq_true rfl) (Nat.le_of_ble_eq_true rfl) (Nat.le_of_ble_eq_true rfl) hW (hl.1.trans hml.symm) (by decide +kernel) hkIB hiIB hgIB dX2_blend_31 dX2_blend_34 (Or.inl ⟨dX2_blend_35, dX2_blend_37, dX2_blend_40⟩)
    · skip
      have hW := cy_castS (show S = cy_if (cy_tBl x y) (cy_fo S nc x nc) S from Eq.trans (by first | (simp only [c_1, c_8, eq_self, ↓reduceIte]; done) | (simp only [c_1, c_8, eq_self, ↓reduceIte]; rfl) | rfl) (cy_if_s (show cy_tBl x y = some cy_IA from by simp only [cy_tBl, c_1, c_8, eq_self, ↓reduceIte])).symm) hW
      exact hT _ _ _ _ 11 _ [] 57 61 270 cy_IA "target is not 0 to 1000000" cy_ok_IA (show cy_tBl x y = some cy_IA from by simp only [cy_tBl, c_1, c_8, eq_self, ↓reduceIte]) (Nat.le_of_ble_eq_true rfl) (Nat.le_of_ble_eq_true rfl) (Nat.le_of_ble_eq_true rfl) hW (hl.1.trans hml.symm) (by decide +kernel) hkIA hiIA hgIA dX2_blend_11 dX2_blend_14 (Or.inr ⟨dX2_blend_15, dX2_blend_18, dX2_blend_21⟩)
