abbrev rm_X0_clear : Room := { frames := 0, cells := 0, slots := 0, locals := 0 }
set_option maxHeartbeats 4000000 in
set_option maxRecDepth 100000 in
theorem c_X0_clear {l : Launch} {D : va_G} {kI kJ kZ kC : ClassId} {ad : Nat → Nat} {S : Nat → Nat → Int32} {tl : va_W} {Z : Nat → Int64}  : cy_M l yX0_clear wsX0_clear rm_X0_clear D (cy_tys kI kJ kZ kC) [.ref (ad 10)] (cy_Y kI kJ kC ad S Z tl) none (cy_Y kI kJ kC ad (cy_sBc S) Z tl) := by
  refine cy_of (own := RX0) (cc := cX0_clear) (maxL := 1) (ret := none) (i := .return_) (by decide) rfl rfl (Nat.le_of_ble_eq_true rfl) cy_endV ?_
  intro p e s m args below meth co Q A ls hC hE hW hl
  have hx := hC.1.1; have hb := hC.1.2.1; have hml := hC.1.2.2.1; have hown := hC.1.2.2.2.1; have hts := hC.1.2.2.2.2
  have hl : lv_has ls 1 [(0, .ref (ad 10))] := hl
  have hi0 : ∀ w ∈ u_ws RX0 TX0 5, w ∈ wsX0_clear := by decide +kernel
  refine lv_aload_n hx hb dX0_clear_0 rfl (lv_at hl 0 rfl) ?_
  refine lv_iconst (v := (-1)) hx hb dX0_clear_1 (by decide) ?_
  refine cy_put hC (10) (by decide) hi0 tyX0 tyX0_ok nmX0 hW (rfl) rfl 0 (by decide) (hts (.fieldLink RX0 9 "CaskYard$Blend" "a" "I") (by decide +kernel)) (fun _ h9 => h9) rfl (ty := .int) (by decide +kernel) rfl rfl (Nat.le_of_ble_eq_true rfl) (upd (S 10) 0 (-1)) cy_hB0 (S' := (va_up S 10 (upd (S 10) 0 (-1)))) rfl dX0_clear_2 (fun H locs hW => ?_)
  refine lv_aload_n hx hb dX0_clear_5 rfl (lv_at hl 0 rfl) ?_
  refine lv_iconst (v := (-1)) hx hb dX0_clear_6 (by decide) ?_
  refine cy_put hC (10) (by decide) hi0 tyX0 tyX0_ok nmX0 hW (cy_rd (cy_us) rfl) rfl 1 (by decide) (hts (.fieldLink RX0 15 "CaskYard$Blend" "b" "I") (by decide +kernel)) (fun _ h9 => h9) rfl (ty := .int) (by decide +kernel) rfl rfl (Nat.le_of_ble_eq_true rfl) (upd (upd (S 10) 0 (-1)) 1 (-1)) cy_hB1 (S' := (va_up S 10 (upd (upd (S 10) 0 (-1)) 1 (-1)))) cy_uu dX0_clear_7 (fun H locs hW => ?_)
  refine lv_aload_n hx hb dX0_clear_10 rfl (lv_at hl 0 rfl) ?_
  refine lv_iconst (v := (-1)) hx hb dX0_clear_11 (by decide) ?_
  refine cy_put hC (10) (by decide) hi0 tyX0 tyX0_ok nmX0 hW (cy_rd (cy_us) rfl) rfl 2 (by decide) (hts (.fieldLink RX0 18 "CaskYard$Blend" "tenths" "I") (by decide +kernel)) (fun _ h9 => h9) rfl (ty := .int) (by decide +kernel) rfl rfl (Nat.le_of_ble_eq_true rfl) (upd (upd (upd (S 10) 0 (-1)) 1 (-1)) 2 (-1)) cy_hB2 (S' := (va_up S 10 (upd (upd (upd (S 10) 0 (-1)) 1 (-1)) 2 (-1)))) cy_uu dX0_clear_12 (fun H locs hW => ?_)
  refine lv_aload_n hx hb dX0_clear_15 rfl (lv_at hl 0 rfl) ?_
  refine lv_iconst (v := (-1)) hx hb dX0_clear_16 (by decide) ?_
  refine cy_put hC (10) (by decide) hi0 tyX0 tyX0_ok nmX0 hW (cy_rd (cy_us) rfl) rfl 3 (by decide) (hts (.fieldLink RX0 21 "CaskYard$Blend" "mixedTaste" "I") (by decide +kernel)) (fun _ h9 => h9) rfl (ty := .int) (by decide +kernel) rfl rfl (Nat.le_of_ble_eq_true rfl) (upd (upd (upd (upd (S 10) 0 (-1)) 1 (-1)) 2 (-1)) 3 (-1)) cy_hB3 (S' := (va_up S 10 (upd (upd (upd (upd (S 10) 0 (-1)) 1 (-1)) 2 (-1)) 3 (-1)))) cy_uu dX0_clear_17 (fun H locs hW => ?_)
  refine lv_aload_n hx hb dX0_clear_20 rfl (lv_at hl 0 rfl) ?_
  refine lv_iconst (v := 0) hx hb dX0_clear_21 (by decide) ?_
  refine cy_put hC (10) (by decide) hi0 tyX0 tyX0_ok nmX0 hW (cy_rd (cy_us) rfl) rfl 4 (by decide) (hts (.fieldLink RX0 24 "CaskYard$Blend" "difference" "I") (by decide +kernel)) (fun _ h9 => h9) rfl (ty := .int) (by decide +kernel) rfl rfl (Nat.le_of_ble_eq_true rfl) (upd (upd (upd (upd (upd (S 10) 0 (-1)) 1 (-1)) 2 (-1)) 3 (-1)) 4 0) cy_hB4 (S' := (va_up S 10 (upd (upd (upd (upd (upd (S 10) 0 (-1)) 1 (-1)) 2 (-1)) 3 (-1)) 4 0))) cy_uu dX0_clear_22 (fun H locs hW => ?_)
  exact hE _ _ _ _ _ _ (Nat.le_of_ble_eq_true rfl) (Nat.le_of_ble_eq_true rfl) hW dX0_clear_25
abbrev rm_X0_offer : Room := { frames := 1, cells := 0, slots := 0, locals := 13 }
set_option maxHeartbeats 4000000 in
set_option maxRecDepth 100000 in
theorem c_X0_offer {l : Launch} {D : va_G} {kI kJ kZ kC : ClassId} {ad : Nat → Nat} {S : Nat → Nat → Int32} {tl : va_W} {Z : Nat → Int64} {a b t x tg : Int32} : cy_M l yX0_offer wsX0_offer rm_X0_offer D (cy_tys kI kJ kZ kC) [.ref (ad 10), .int a, .int b, .int t, .int x, .int tg] (cy_Y kI kJ kC ad S Z tl) none (cy_Y kI kJ kC ad (cy_sOf S a b t x tg) Z tl) := by
  refine cy_of (own := RX0) (cc := cX0_offer) (maxL := 7) (ret := none) (i := .return_) (by decide) rfl rfl (Nat.le_of_ble_eq_true rfl) cy_endV ?_
  intro p e s m args below meth co Q A ls hC hE hW hl
  have hx := hC.1.1; have hb := hC.1.2.1; have hml := hC.1.2.2.1; have hown := hC.1.2.2.2.1; have hts := hC.1.2.2.2.2
  have hl : lv_has ls 7 [(0, .ref (ad 10)), (1, .int a), (2, .int b), (3, .int t), (4, .int x), (5, .int tg)] := hl
  have hi0 : ∀ w ∈ u_ws RX0 TX0 5, w ∈ wsX0_offer := by decide +kernel
  refine lv_iload hx hb dX0_offer_0 (lv_at hl 4 rfl) ?_
  refine lv_iload hx hb dX0_offer_2 (lv_at hl 5 rfl) ?_
  refine lv_isub hx hb dX0_offer_4 ?_
  refine va_mabs hx hb (hml.trans hl.1.symm) hown (hts (.methodLink RX0 27 Lib.Math.abs.name) (by decide +kernel)) (hts (.static Lib.Math.abs.name) (by decide +kernel)) (hts (.initialized "java/lang/Math") (by decide +kernel)) (hts (.code Lib.Math.abs.name Lib.Math.abs.code 1 (some .int)) (by decide +kernel)) (Nat.le_of_ble_eq_true rfl) (Nat.le_of_ble_eq_true rfl) (Nat.le_of_ble_eq_true rfl) (Nat.le_of_ble_eq_true rfl) dX0_offer_5 ?_
  refine cy_topv (show _ = Value.int (cy_ab (x - tg)) from rfl) ?_
  refine lv_istore (lv' := [(6, .int (cy_ab (x - tg))), (0, .ref (ad 10)), (1, .int a), (2, .int b), (3, .int t), (4, .int x), (5, .int tg)]) hx hb dX0_offer_8 hl (by decide) rfl (fun ls hl => ?_)
  refine lv_aload_n hx hb dX0_offer_10 rfl (lv_at hl 1 rfl) ?_
  refine cy_get hC (10) (by decide) hi0 hW (rfl) rfl 0 (by decide) (hts (.fieldLink RX0 9 "CaskYard$Blend" "a" "I") (by decide +kernel)) (fun _ h9 => h9) (v := .int (S 10 0)) rfl dX0_offer_11 ?_
  refine lv_iconst (v := (-1)) hx hb dX0_offer_14 (by decide) ?_
  refine lv_icmp_eq (tgt := 27) hx hb dX0_offer_15 (by decide) (fun c_15 => ?_) (fun c_15 => ?_)
  · skip
    refine lv_aload_n hx hb dX0_offer_27 rfl (lv_at hl 1 rfl) ?_
    refine lv_iload_n hx hb dX0_offer_28 rfl (lv_at hl 2 rfl) ?_
    refine cy_put hC (10) (by decide) hi0 tyX0 tyX0_ok nmX0 hW (rfl) rfl 0 (by decide) (hts (.fieldLink RX0 9 "CaskYard$Blend" "a" "I") (by decide +kernel)) (fun _ h9 => h9) rfl (ty := .int) (by decide +kernel) rfl rfl (Nat.le_of_ble_eq_true rfl) (upd (S 10) 0 a) cy_hB0 (S' := (va_up S 10 (upd (S 10) 0 a))) rfl dX0_offer_29 (fun H locs hW => ?_)
    refine lv_aload_n hx hb dX0_offer_32 rfl (lv_at hl 1 rfl) ?_
    refine lv_iload_n hx hb dX0_offer_33 rfl (lv_at hl 3 rfl) ?_
    refine cy_put hC (10) (by decide) hi0 tyX0 tyX0_ok nmX0 hW (cy_rd (cy_us) rfl) rfl 1 (by decide) (hts (.fieldLink RX0 15 "CaskYard$Blend" "b" "I") (by decide +kernel)) (fun _ h9 => h9) rfl (ty := .int) (by decide +kernel) rfl rfl (Nat.le_of_ble_eq_true rfl) (upd (upd (S 10) 0 a) 1 b) cy_hB1 (S' := (va_up S 10 (upd (upd (S 10) 0 a) 1 b))) cy_uu dX0_offer_34 (fun H locs hW => ?_)
    refine lv_aload_n hx hb dX0_offer_37 rfl (lv_at hl 1 rfl) ?_
    refine lv_iload_n hx hb dX0_offer_38 rfl (lv_at hl 4 rfl) ?_
    refine cy_put hC (10) (by decide) hi0 tyX0 tyX0_ok nmX0 hW (cy_rd (cy_us) rfl) rfl 2 (by decide) (hts (.fieldLink RX0 18 "CaskYard$Blend" "tenths" "I") (by decide +kernel)) (fun _ h9 => h9) rfl (ty := .int) (by decide +kernel) rfl rfl (Nat.le_of_ble_eq_true rfl) (upd (upd (upd (S 10) 0 a) 1 b) 2 t) cy_hB2 (S' := (va_up S 10 (upd (upd (upd (S 10) 0 a) 1 b) 2 t))) cy_uu dX0_offer_39 (fun H locs hW => ?_)
    refine lv_aload_n hx hb dX0_offer_42 rfl (lv_at hl 1 rfl) ?_
    refine lv_iload hx hb dX0_offer_43 (lv_at hl 5 rfl) ?_
    refine cy_put hC (10) (by decide) hi0 tyX0 tyX0_ok nmX0 hW (cy_rd (cy_us) rfl) rfl 3 (by decide) (hts (.fieldLink RX0 21 "CaskYard$Blend" "mixedTaste" "I") (by decide +kernel)) (fun _ h9 => h9) rfl (ty := .int) (by decide +kernel) rfl rfl (Nat.le_of_ble_eq_true rfl) (upd (upd (upd (upd (S 10) 0 a) 1 b) 2 t) 3 x) cy_hB3 (S' := (va_up S 10 (upd (upd (upd (upd (S 10) 0 a) 1 b) 2 t) 3 x))) cy_uu dX0_offer_45 (fun H locs hW => ?_)
    refine lv_aload_n hx hb dX0_offer_48 rfl (lv_at hl 1 rfl) ?_
    refine lv_iload hx hb dX0_offer_49 (lv_at hl 0 rfl) ?_
    refine cy_put hC (10) (by decide) hi0 tyX0 tyX0_ok nmX0 hW (cy_rd (cy_us) rfl) rfl 4 (by decide) (hts (.fieldLink RX0 24 "CaskYard$Blend" "difference" "I") (by decide +kernel)) (fun _ h9 => h9) rfl (ty := .int) (by decide +kernel) rfl rfl (Nat.le_of_ble_eq_true rfl) (upd (upd (upd (upd (upd (S 10) 0 a) 1 b) 2 t) 3 x) 4 (cy_ab (x - tg))) cy_hB4 (S' := (va_up S 10 (upd (upd (upd (upd (upd (S 10) 0 a) 1 b) 2 t) 3 x) 4 (cy_ab (x - tg))))) cy_uu dX0_offer_51 (fun H locs hW => ?_)
    have hW := cy_castS (show (va_up S 10 (upd (upd (upd (upd (upd (S 10) 0 a) 1 b) 2 t) 3 x) 4 (cy_ab (x - tg)))) = (cy_sOf S a b t x tg) from by simp only [cy_sOf, cy_bu, c_15, ↓reduceIte, not_true_eq_false, not_false_eq_true]) hW
    exact hE _ _ _ _ _ _ (Nat.le_of_ble_eq_true rfl) (Nat.le_of_ble_eq_true rfl) hW dX0_offer_54
  · skip
    refine lv_iload hx hb dX0_offer_18 (lv_at hl 0 rfl) ?_
    refine lv_aload_n hx hb dX0_offer_20 rfl (lv_at hl 1 rfl) ?_
    refine cy_get hC (10) (by decide) hi0 hW (rfl) rfl 4 (by decide) (hts (.fieldLink RX0 24 "CaskYard$Blend" "difference" "I") (by decide +kernel)) (fun _ h9 => h9) (v := .int (S 10 4)) rfl dX0_offer_21 ?_
    refine lv_icmp_ge (tgt := 54) hx hb dX0_offer_24 (by decide) (fun c_24 => ?_) (fun c_24 => ?_)
    · skip
      have hW := cy_castS (show S = (cy_sOf S a b t x tg) from by simp only [cy_sOf, cy_bu, c_15, c_24, ↓reduceIte, not_true_eq_false, not_false_eq_true]) hW
      exact hE _ _ _ _ _ _ (Nat.le_of_ble_eq_true rfl) (Nat.le_of_ble_eq_true rfl) hW dX0_offer_54
    · skip
      refine lv_aload_n hx hb dX0_offer_27 rfl (lv_at hl 1 rfl) ?_
      refine lv_iload_n hx hb dX0_offer_28 rfl (lv_at hl 2 rfl) ?_
      refine cy_put hC (10) (by decide) hi0 tyX0 tyX0_ok nmX0 hW (rfl) rfl 0 (by decide) (hts (.fieldLink RX0 9 "CaskYard$Blend" "a" "I") (by decide +kernel)) (fun _ h9 => h9) rfl (ty := .int) (by decide +kernel) rfl rfl (Nat.le_of_ble_eq_true rfl) (upd (S 10) 0 a) cy_hB0 (S' := (va_up S 10 (upd (S 10) 0 a))) rfl dX0_offer_29 (fun H locs hW => ?_)
      refine lv_aload_n hx hb dX0_offer_32 rfl (lv_at hl 1 rfl) ?_
      refine lv_iload_n hx hb dX0_offer_33 rfl (lv_at hl 3 rfl) ?_
      refine cy_put hC (10) (by decide) hi0 tyX0 tyX0_ok nmX0 hW (cy_rd (cy_us) rfl) rfl 1 (by decide) (hts (.fieldLink RX0 15 "CaskYard$Blend" "b" "I") (by decide +kernel)) (fun _ h9 => h9) rfl (ty := .int) (by decide +kernel) rfl rfl (Nat.le_of_ble_eq_true rfl) (upd (upd (S 10) 0 a) 1 b) cy_hB1 (S' := (va_up S 10 (upd (upd (S 10) 0 a) 1 b))) cy_uu dX0_offer_34 (fun H locs hW => ?_)
      refine lv_aload_n hx hb dX0_offer_37 rfl (lv_at hl 1 rfl) ?_
      refine lv_iload_n hx hb dX0_offer_38 rfl (lv_at hl 4 rfl) ?_
      refine cy_put hC (10) (by decide) hi0 tyX0 tyX0_ok nmX0 hW (cy_rd (cy_us) rfl) rfl 2 (by decide) (hts (.fieldLink RX0 18 "CaskYard$Blend" "tenths" "I") (by decide +kernel)) (fun _ h9 => h9) rfl (ty := .int) (by decide +kernel) rfl rfl (Nat.le_of_ble_eq_true rfl) (upd (upd (upd (S 10) 0 a) 1 b) 2 t) cy_hB2 (S' := (va_up S 10 (upd (upd (upd (S 10) 0 a) 1 b) 2 t))) cy_uu dX0_offer_39 (fun H locs hW => ?_)
      refine lv_aload_n hx hb dX0_offer_42 rfl (lv_at hl 1 rfl) ?_
      refine lv_iload hx hb dX0_offer_43 (lv_at hl 5 rfl) ?_
      refine cy_put hC (10) (by decide) hi0 tyX0 tyX0_ok nmX0 hW (cy_rd (cy_us) rfl) rfl 3 (by decide) (hts (.fieldLink RX0 21 "CaskYard$Blend" "mixedTaste" "I") (by decide +kernel)) (fun _ h9 => h9) rfl (ty := .int) (by decide +kernel) rfl rfl (Nat.le_of_ble_eq_true rfl) (upd (upd (upd (upd (S 10) 0 a) 1 b) 2 t) 3 x) cy_hB3 (S' := (va_up S 10 (upd (upd (upd (upd (S 10) 0 a) 1 b) 2 t) 3 x))) cy_uu dX0_offer_45 (fun H locs hW => ?_)
      refine lv_aload_n hx hb dX0_offer_48 rfl (lv_at hl 1 rfl) ?_
      refine lv_iload hx hb dX0_offer_49 (lv_at hl 0 rfl) ?_
      refine cy_put hC (10) (by decide) hi0 tyX0 tyX0_ok nmX0 hW (cy_rd (cy_us) rfl) rfl 4 (by decide) (hts (.fieldLink RX0 24 "CaskYard$Blend" "difference" "I") (by decide +kernel)) (fun _ h9 => h9) rfl (ty := .int) (by decide +kernel) rfl rfl (Nat.le_of_ble_eq_true rfl) (upd (upd (upd (upd (upd (S 10) 0 a) 1 b) 2 t) 3 x) 4 (cy_ab (x - tg))) cy_hB4 (S' := (va_up S 10 (upd (upd (upd (upd (upd (S 10) 0 a) 1 b) 2 t) 3 x) 4 (cy_ab (x - tg))))) cy_uu dX0_offer_51 (fun H locs hW => ?_)
      have hW := cy_castS (show (va_up S 10 (upd (upd (upd (upd (upd (S 10) 0 a) 1 b) 2 t) 3 x) 4 (cy_ab (x - tg)))) = (cy_sOf S a b t x tg) from by simp only [cy_sOf, cy_bu, c_15, c_24, ↓reduceIte, not_true_eq_false, not_false_eq_true]) hW
      exact hE _ _ _ _ _ _ (Nat.le_of_ble_eq_true rfl) (Nat.le_of_ble_eq_true rfl) hW dX0_offer_54
abbrev rm_X2_isStave : Room := { frames := 0, cells := 0, slots := 0, locals := 0 }
set_option maxHeartbeats 4000000 in
set_option maxRecDepth 100000 in
theorem c_X2_isStave {l : Launch} {D : va_G} {kI kJ kZ kC : ClassId} {ad : Nat → Nat} {S : Nat → Nat → Int32} {tl : va_W} {Z : Nat → Int64} {x : Int32} : cy_M l yX2_isStave wsX2_isStave rm_X2_isStave D (cy_tys kI kJ kZ kC) [.ref (ad 0), .int x] (cy_Y kI kJ kC ad S Z tl) (some (.int (cy_rIs x (S 0 3)))) (cy_Y kI kJ kC ad S Z tl) := by
  refine cy_of (own := RX2) (cc := cX2_isStave) (maxL := 2) (ret := (some .boolean)) (i := .ireturn) (by decide) rfl rfl (Nat.le_of_ble_eq_true rfl) (cy_endI cy_rIs_b) ?_
  intro p e s m args below meth co Q A ls hC hE hW hl
  have hx := hC.1.1; have hb := hC.1.2.1; have hml := hC.1.2.2.1; have hown := hC.1.2.2.2.1; have hts := hC.1.2.2.2.2
  have hl : lv_has ls 2 [(0, .ref (ad 0)), (1, .int x)] := hl
  have hi2 : ∀ w ∈ u_ws RX2 TX2 17, w ∈ wsX2_isStave := by decide +kernel
  refine lv_iload_n hx hb dX2_isStave_0 rfl (lv_at hl 1 rfl) ?_
  refine lv_if_lt (tgt := 16) hx hb dX2_isStave_1 (by decide) (fun c_1 => ?_) (fun c_1 => ?_)
  · skip
    refine lv_iconst (v := 0) hx hb dX2_isStave_16 (by decide) ?_
    refine cy_topv (congrArg Value.int (show 0 = cy_rIs x (S 0 3) from by simp only [cy_rIs, c_1, ↓reduceIte, not_true_eq_false, not_false_eq_true])) ?_
    exact hE _ _ _ _ _ _ (Nat.le_of_ble_eq_true rfl) (Nat.le_of_ble_eq_true rfl) hW dX2_isStave_17
  · skip
    refine lv_iload_n hx hb dX2_isStave_4 rfl (lv_at hl 1 rfl) ?_
    refine lv_aload_n hx hb dX2_isStave_5 rfl (lv_at hl 0 rfl) ?_
    refine cy_get hC (0) (by decide) hi2 hW (rfl) rfl 3 (by decide) (hts (.fieldLink RX2 66 "CaskYard" "staveCount" "I") (by decide +kernel)) (fun _ h9 => h9) (v := .int (S 0 3)) rfl dX2_isStave_6 ?_
    refine lv_icmp_ge (tgt := 16) hx hb dX2_isStave_9 (by decide) (fun c_9 => ?_) (fun c_9 => ?_)
    · skip
      refine lv_iconst (v := 0) hx hb dX2_isStave_16 (by decide) ?_
      refine cy_topv (congrArg Value.int (show 0 = cy_rIs x (S 0 3) from by simp only [cy_rIs, c_1, c_9, ↓reduceIte, not_true_eq_false, not_false_eq_true])) ?_
      exact hE _ _ _ _ _ _ (Nat.le_of_ble_eq_true rfl) (Nat.le_of_ble_eq_true rfl) hW dX2_isStave_17
    · skip
      refine lv_iconst (v := 1) hx hb dX2_isStave_12 (by decide) ?_
      refine lv_goto (tgt := 17) hx hb dX2_isStave_13 (by decide) ?_
      refine cy_topv (congrArg Value.int (show 1 = cy_rIs x (S 0 3) from by simp only [cy_rIs, c_1, c_9, ↓reduceIte, not_true_eq_false, not_false_eq_true])) ?_
      exact hE _ _ _ _ _ _ (Nat.le_of_ble_eq_true rfl) (Nat.le_of_ble_eq_true rfl) hW dX2_isStave_17
abbrev rm_X2_isSort : Room := { frames := 0, cells := 0, slots := 0, locals := 0 }
set_option maxHeartbeats 4000000 in
set_option maxRecDepth 100000 in
theorem c_X2_isSort {l : Launch} {D : va_G} {kI kJ kZ kC : ClassId} {ad : Nat → Nat} {S : Nat → Nat → Int32} {tl : va_W} {Z : Nat → Int64} {x : Int32} : cy_M l yX2_isSort wsX2_isSort rm_X2_isSort D (cy_tys kI kJ kZ kC) [.ref (ad 0), .int x] (cy_Y kI kJ kC ad S Z tl) (some (.int (cy_rIs x (S 0 7)))) (cy_Y kI kJ kC ad S Z tl) := by
  refine cy_of (own := RX2) (cc := cX2_isSort) (maxL := 2) (ret := (some .boolean)) (i := .ireturn) (by decide) rfl rfl (Nat.le_of_ble_eq_true rfl) (cy_endI cy_rIs_b) ?_
  intro p e s m args below meth co Q A ls hC hE hW hl
  have hx := hC.1.1; have hb := hC.1.2.1; have hml := hC.1.2.2.1; have hown := hC.1.2.2.2.1; have hts := hC.1.2.2.2.2
  have hl : lv_has ls 2 [(0, .ref (ad 0)), (1, .int x)] := hl
  have hi2 : ∀ w ∈ u_ws RX2 TX2 17, w ∈ wsX2_isSort := by decide +kernel
  refine lv_iload_n hx hb dX2_isSort_0 rfl (lv_at hl 1 rfl) ?_
  refine lv_if_lt (tgt := 16) hx hb dX2_isSort_1 (by decide) (fun c_1 => ?_) (fun c_1 => ?_)
  · skip
    refine lv_iconst (v := 0) hx hb dX2_isSort_16 (by decide) ?_
    refine cy_topv (congrArg Value.int (show 0 = cy_rIs x (S 0 7) from by simp only [cy_rIs, c_1, ↓reduceIte, not_true_eq_false, not_false_eq_true])) ?_
    exact hE _ _ _ _ _ _ (Nat.le_of_ble_eq_true rfl) (Nat.le_of_ble_eq_true rfl) hW dX2_isSort_17
  · skip
    refine lv_iload_n hx hb dX2_isSort_4 rfl (lv_at hl 1 rfl) ?_
    refine lv_aload_n hx hb dX2_isSort_5 rfl (lv_at hl 0 rfl) ?_
    refine cy_get hC (0) (by decide) hi2 hW (rfl) rfl 7 (by decide) (hts (.fieldLink RX2 92 "CaskYard" "sortCount" "I") (by decide +kernel)) (fun _ h9 => h9) (v := .int (S 0 7)) rfl dX2_isSort_6 ?_
    refine lv_icmp_ge (tgt := 16) hx hb dX2_isSort_9 (by decide) (fun c_9 => ?_) (fun c_9 => ?_)
    · skip
      refine lv_iconst (v := 0) hx hb dX2_isSort_16 (by decide) ?_
      refine cy_topv (congrArg Value.int (show 0 = cy_rIs x (S 0 7) from by simp only [cy_rIs, c_1, c_9, ↓reduceIte, not_true_eq_false, not_false_eq_true])) ?_
      exact hE _ _ _ _ _ _ (Nat.le_of_ble_eq_true rfl) (Nat.le_of_ble_eq_true rfl) hW dX2_isSort_17
    · skip
      refine lv_iconst (v := 1) hx hb dX2_isSort_12 (by decide) ?_
      refine lv_goto (tgt := 17) hx hb dX2_isSort_13 (by decide) ?_
      refine cy_topv (congrArg Value.int (show 1 = cy_rIs x (S 0 7) from by simp only [cy_rIs, c_1, c_9, ↓reduceIte, not_true_eq_false, not_false_eq_true])) ?_
      exact hE _ _ _ _ _ _ (Nat.le_of_ble_eq_true rfl) (Nat.le_of_ble_eq_true rfl) hW dX2_isSort_17
abbrev rm_X2_isCask : Room := { frames := 0, cells := 0, slots := 0, locals := 0 }
set_option maxHeartbeats 4000000 in
set_option maxRecDepth 100000 in
theorem c_X2_isCask {l : Launch} {D : va_G} {kI kJ kZ kC : ClassId} {ad : Nat → Nat} {S : Nat → Nat → Int32} {tl : va_W} {Z : Nat → Int64} {x : Int32} : cy_M l yX2_isCask wsX2_isCask rm_X2_isCask D (cy_tys kI kJ kZ kC) [.ref (ad 0), .int x] (cy_Y kI kJ kC ad S Z tl) (some (.int (cy_rIs x (S 0 9)))) (cy_Y kI kJ kC ad S Z tl) := by
  refine cy_of (own := RX2) (cc := cX2_isCask) (maxL := 2) (ret := (some .boolean)) (i := .ireturn) (by decide) rfl rfl (Nat.le_of_ble_eq_true rfl) (cy_endI cy_rIs_b) ?_
  intro p e s m args below meth co Q A ls hC hE hW hl
  have hx := hC.1.1; have hb := hC.1.2.1; have hml := hC.1.2.2.1; have hown := hC.1.2.2.2.1; have hts := hC.1.2.2.2.2
  have hl : lv_has ls 2 [(0, .ref (ad 0)), (1, .int x)] := hl
  have hi2 : ∀ w ∈ u_ws RX2 TX2 17, w ∈ wsX2_isCask := by decide +kernel
  refine lv_iload_n hx hb dX2_isCask_0 rfl (lv_at hl 1 rfl) ?_
  refine lv_if_lt (tgt := 16) hx hb dX2_isCask_1 (by decide) (fun c_1 => ?_) (fun c_1 => ?_)
  · skip
    refine lv_iconst (v := 0) hx hb dX2_isCask_16 (by decide) ?_
    refine cy_topv (congrArg Value.int (show 0 = cy_rIs x (S 0 9) from by simp only [cy_rIs, c_1, ↓reduceIte, not_true_eq_false, not_false_eq_true])) ?_
    exact hE _ _ _ _ _ _ (Nat.le_of_ble_eq_true rfl) (Nat.le_of_ble_eq_true rfl) hW dX2_isCask_17
  · skip
    refine lv_iload_n hx hb dX2_isCask_4 rfl (lv_at hl 1 rfl) ?_
    refine lv_aload_n hx hb dX2_isCask_5 rfl (lv_at hl 0 rfl) ?_
    refine cy_get hC (0) (by decide) hi2 hW (rfl) rfl 9 (by decide) (hts (.fieldLink RX2 114 "CaskYard" "caskCount" "I") (by decide +kernel)) (fun _ h9 => h9) (v := .int (S 0 9)) rfl dX2_isCask_6 ?_
    refine lv_icmp_ge (tgt := 16) hx hb dX2_isCask_9 (by decide) (fun c_9 => ?_) (fun c_9 => ?_)
    · skip
      refine lv_iconst (v := 0) hx hb dX2_isCask_16 (by decide) ?_
      refine cy_topv (congrArg Value.int (show 0 = cy_rIs x (S 0 9) from by simp only [cy_rIs, c_1, c_9, ↓reduceIte, not_true_eq_false, not_false_eq_true])) ?_
      exact hE _ _ _ _ _ _ (Nat.le_of_ble_eq_true rfl) (Nat.le_of_ble_eq_true rfl) hW dX2_isCask_17
    · skip
      refine lv_iconst (v := 1) hx hb dX2_isCask_12 (by decide) ?_
      refine lv_goto (tgt := 17) hx hb dX2_isCask_13 (by decide) ?_
      refine cy_topv (congrArg Value.int (show 1 = cy_rIs x (S 0 9) from by simp only [cy_rIs, c_1, c_9, ↓reduceIte, not_true_eq_false, not_false_eq_true])) ?_
      exact hE _ _ _ _ _ _ (Nat.le_of_ble_eq_true rfl) (Nat.le_of_ble_eq_true rfl) hW dX2_isCask_17
abbrev rm_X2_isUsable : Room := { frames := 0, cells := 0, slots := 0, locals := 0 }
set_option maxHeartbeats 4000000 in
set_option maxRecDepth 100000 in
theorem c_X2_isUsable {l : Launch} {D : va_G} {kI kJ kZ kC : ClassId} {ad : Nat → Nat} {S : Nat → Nat → Int32} {tl : va_W} {Z : Nat → Int64} {i : Nat} (hi : i < 60) : cy_M l yX2_isUsable wsX2_isUsable rm_X2_isUsable D (cy_tys kI kJ kZ kC) [.ref (ad 0), .int (nI i)] (cy_Y kI kJ kC ad S Z tl) (some (.int (cy_rUs S i))) (cy_Y kI kJ kC ad S Z tl) := by
  refine cy_of (own := RX2) (cc := cX2_isUsable) (maxL := 2) (ret := (some .boolean)) (i := .ireturn) (by decide) rfl rfl (Nat.le_of_ble_eq_true rfl) (cy_endI cy_rUs_b) ?_
  intro p e s m args below meth co Q A ls hC hE hW hl
  have hx := hC.1.1; have hb := hC.1.2.1; have hml := hC.1.2.2.1; have hown := hC.1.2.2.2.1; have hts := hC.1.2.2.2.2
  have hl : lv_has ls 2 [(0, .ref (ad 0)), (1, .int (nI i))] := hl
  have hi2 : ∀ w ∈ u_ws RX2 TX2 17, w ∈ wsX2_isUsable := by decide +kernel
  refine lv_aload_n hx hb dX2_isUsable_0 rfl (lv_at hl 0 rfl) ?_
  refine cy_get hC (0) (by decide) hi2 hW (rfl) rfl 2 (by decide) (hts (.fieldLink RX2 16 "CaskYard" "places" "[I") (by decide +kernel)) (fun _ h9 => h9) (v := .ref (ad 3)) rfl dX2_isUsable_1 ?_
  refine lv_iload_n hx hb dX2_isUsable_4 rfl (lv_at hl 1 rfl) ?_
  refine cy_iald hC (3) (by decide) hW 0 (i := i) (rfl) rfl (by omega) (by decide) dX2_isUsable_5 ?_
  refine lv_iconst (v := (-1)) hx hb dX2_isUsable_6 (by decide) ?_
  refine lv_icmp_ne (tgt := 25) hx hb dX2_isUsable_7 (by decide) (fun c_7 => ?_) (fun c_7 => ?_)
  · skip
    refine lv_iconst (v := 0) hx hb dX2_isUsable_25 (by decide) ?_
    refine cy_topv (congrArg Value.int (show 0 = cy_rUs S i from by simp only [cy_rUs, c_7, ↓reduceIte, not_true_eq_false, not_false_eq_true])) ?_
    exact hE _ _ _ _ _ _ (Nat.le_of_ble_eq_true rfl) (Nat.le_of_ble_eq_true rfl) hW dX2_isUsable_26
  · skip
    refine lv_aload_n hx hb dX2_isUsable_10 rfl (lv_at hl 0 rfl) ?_
    refine cy_get hC (0) (by decide) hi2 hW (rfl) rfl 1 (by decide) (hts (.fieldLink RX2 13 "CaskYard" "drynesses" "[I") (by decide +kernel)) (fun _ h9 => h9) (v := .ref (ad 2)) rfl dX2_isUsable_11 ?_
    refine lv_iload_n hx hb dX2_isUsable_14 rfl (lv_at hl 1 rfl) ?_
    refine cy_iald hC (2) (by decide) hW 0 (i := i) (rfl) rfl (by omega) (by decide) dX2_isUsable_15 ?_
    refine lv_bipush (v := 60) hx hb dX2_isUsable_16 (by decide) ?_
    refine lv_icmp_lt (tgt := 25) hx hb dX2_isUsable_18 (by decide) (fun c_18 => ?_) (fun c_18 => ?_)
    · skip
      refine lv_iconst (v := 0) hx hb dX2_isUsable_25 (by decide) ?_
      refine cy_topv (congrArg Value.int (show 0 = cy_rUs S i from by simp only [cy_rUs, c_7, c_18, ↓reduceIte, not_true_eq_false, not_false_eq_true])) ?_
      exact hE _ _ _ _ _ _ (Nat.le_of_ble_eq_true rfl) (Nat.le_of_ble_eq_true rfl) hW dX2_isUsable_26
    · skip
      refine lv_iconst (v := 1) hx hb dX2_isUsable_21 (by decide) ?_
      refine lv_goto (tgt := 26) hx hb dX2_isUsable_22 (by decide) ?_
      refine cy_topv (congrArg Value.int (show 1 = cy_rUs S i from by simp only [cy_rUs, c_7, c_18, ↓reduceIte, not_true_eq_false, not_false_eq_true])) ?_
      exact hE _ _ _ _ _ _ (Nat.le_of_ble_eq_true rfl) (Nat.le_of_ble_eq_true rfl) hW dX2_isUsable_26
abbrev rm_X2_flawsOf : Room := { frames := 0, cells := 0, slots := 0, locals := 0 }
set_option maxHeartbeats 4000000 in
set_option maxRecDepth 100000 in
theorem c_X2_flawsOf {l : Launch} {D : va_G} {kI kJ kZ kC : ClassId} {ad : Nat → Nat} {S : Nat → Nat → Int32} {tl : va_W} {Z : Nat → Int64} {i : Nat} (hi : i < 60) : cy_M l yX2_flawsOf wsX2_flawsOf rm_X2_flawsOf D (cy_tys kI kJ kZ kC) [.ref (ad 0), .int (nI i)] (cy_Y kI kJ kC ad S Z tl) (some (.int (cy_fw S i))) (cy_Y kI kJ kC ad S Z tl) := by
  refine cy_of (own := RX2) (cc := cX2_flawsOf) (maxL := 2) (ret := (some .int)) (i := .ireturn) (by decide) rfl rfl (Nat.le_of_ble_eq_true rfl) (cy_endI rfl) ?_
  intro p e s m args below meth co Q A ls hC hE hW hl
  have hx := hC.1.1; have hb := hC.1.2.1; have hml := hC.1.2.2.1; have hown := hC.1.2.2.2.1; have hts := hC.1.2.2.2.2
  have hl : lv_has ls 2 [(0, .ref (ad 0)), (1, .int (nI i))] := hl
  have hi2 : ∀ w ∈ u_ws RX2 TX2 17, w ∈ wsX2_flawsOf := by decide +kernel
  refine lv_aload_n hx hb dX2_flawsOf_0 rfl (lv_at hl 0 rfl) ?_
  refine cy_get hC (0) (by decide) hi2 hW (rfl) rfl 1 (by decide) (hts (.fieldLink RX2 13 "CaskYard" "drynesses" "[I") (by decide +kernel)) (fun _ h9 => h9) (v := .ref (ad 2)) rfl dX2_flawsOf_1 ?_
  refine lv_iload_n hx hb dX2_flawsOf_4 rfl (lv_at hl 1 rfl) ?_
  refine cy_iald hC (2) (by decide) hW 0 (i := i) (rfl) rfl (by omega) (by decide) dX2_flawsOf_5 ?_
  refine lv_bipush (v := 70) hx hb dX2_flawsOf_6 (by decide) ?_
  refine lv_icmp_ge (tgt := 15) hx hb dX2_flawsOf_8 (by decide) (fun c_8 => ?_) (fun c_8 => ?_)
  · skip
    refine lv_iconst (v := 0) hx hb dX2_flawsOf_15 (by decide) ?_
    refine cy_topv (congrArg Value.int (show 0 = cy_fw S i from by simp only [cy_fw, c_8, ↓reduceIte, not_true_eq_false, not_false_eq_true])) ?_
    exact hE _ _ _ _ _ _ (Nat.le_of_ble_eq_true rfl) (Nat.le_of_ble_eq_true rfl) hW dX2_flawsOf_16
  · skip
    refine lv_iconst (v := 1) hx hb dX2_flawsOf_11 (by decide) ?_
    refine lv_goto (tgt := 16) hx hb dX2_flawsOf_12 (by decide) ?_
    refine cy_topv (congrArg Value.int (show 1 = cy_fw S i from by simp only [cy_fw, c_8, ↓reduceIte, not_true_eq_false, not_false_eq_true])) ?_
    exact hE _ _ _ _ _ _ (Nat.le_of_ble_eq_true rfl) (Nat.le_of_ble_eq_true rfl) hW dX2_flawsOf_16
abbrev rm_X2_stavesAt : Room := { frames := 0, cells := 0, slots := 0, locals := 0 }
set_option maxHeartbeats 4000000 in
set_option maxRecDepth 100000 in
theorem c_X2_stavesAt {l : Launch} {D : va_G} {kI kJ kZ kC : ClassId} {ad : Nat → Nat} {S : Nat → Nat → Int32} {tl : va_W} {Z : Nat → Int64} {x : Int32} {ns : Nat} (hns : S 0 3 = nI ns) (h60 : ns ≤ 60) : cy_M l yX2_stavesAt wsX2_stavesAt rm_X2_stavesAt D (cy_tys kI kJ kZ kC) [.ref (ad 0), .int x] (cy_Y kI kJ kC ad S Z tl) (some (.int (cy_sa S x ns))) (cy_Y kI kJ kC ad S Z tl) := by
  refine cy_of (own := RX2) (cc := cX2_stavesAt) (maxL := 4) (ret := (some .int)) (i := .ireturn) (by decide) rfl rfl (Nat.le_of_ble_eq_true rfl) (cy_endI rfl) ?_
  intro p e s m args below meth co Q A ls hC hE hW hl
  have hx := hC.1.1; have hb := hC.1.2.1; have hml := hC.1.2.2.1; have hown := hC.1.2.2.2.1; have hts := hC.1.2.2.2.2
  have hl : lv_has ls 4 [(0, .ref (ad 0)), (1, .int x)] := hl
  have hi2 : ∀ w ∈ u_ws RX2 TX2 17, w ∈ wsX2_stavesAt := by decide +kernel
  refine lv_iconst (v := 0) hx hb dX2_stavesAt_0 (by decide) ?_
  refine lv_istore_n (lv' := [(2, .int 0), (0, .ref (ad 0)), (1, .int x)]) hx hb dX2_stavesAt_1 rfl hl (by decide) rfl (fun ls hl => ?_)
  refine lv_iconst (v := 0) hx hb dX2_stavesAt_2 (by decide) ?_
  refine lv_istore_n (lv' := [(3, .int 0), (2, .int 0), (0, .ref (ad 0)), (1, .int x)]) hx hb dX2_stavesAt_3 rfl hl (by decide) rfl (fun ls hl => ?_)
  have L_4 : ∀ (fu : Nat) (i : Nat), ns - i < fu → (i ≤ ns) → ∀ (H : Heap) (locs : List Loc), cy_W D A s.heap (cy_Y kI kJ kC ad S Z tl) H locs → ∀ (ls : Array Slot), lv_has ls 4 [(2, .int (cy_sa S x i)), (3, .int (nI i)), (0, .ref (ad 0)), (1, .int x)] → W p l e rm_X2_stavesAt s m args below meth co H locs 0 0 Q (F0 m 4 ls []) := by
    intro fu
    induction fu with
    | zero => intro i hn; exact absurd hn (Nat.not_lt_zero _)
    | succ fu ih_4 =>
      intro i hn_4 hi H locs hW ls hl
      refine lv_iload_n hx hb dX2_stavesAt_4 rfl (lv_at hl 1 rfl) ?_
      refine lv_aload_n hx hb dX2_stavesAt_5 rfl (lv_at hl 2 rfl) ?_
      refine cy_get hC (0) (by decide) hi2 hW (rfl) rfl 3 (by decide) (hts (.fieldLink RX2 66 "CaskYard" "staveCount" "I") (by decide +kernel)) (fun _ h9 => h9) (v := .int (S 0 3)) rfl dX2_stavesAt_6 ?_
      refine cy_top (y := nI ns) hns ?_
      refine lv_icmp_ge (tgt := 31) hx hb dX2_stavesAt_9 (by decide) (fun c_9 => ?_) (fun c_9 => ?_)
      · skip
        have q_9 := cy_le (a := ns) (b := i) (by omega) (by omega) c_9
        obtain rfl : ns = i := by omega
        refine lv_iload_n hx hb dX2_stavesAt_31 rfl (lv_at hl 0 rfl) ?_
        exact hE _ _ _ _ _ _ (Nat.le_of_ble_eq_true rfl) (Nat.le_of_ble_eq_true rfl) hW dX2_stavesAt_32
      · skip
        have q_9 := cy_nle (a := ns) (b := i) (by omega) (by omega) c_9
        refine lv_aload_n hx hb dX2_stavesAt_12 rfl (lv_at hl 2 rfl) ?_
        refine cy_get hC (0) (by decide) hi2 hW (rfl) rfl 2 (by decide) (hts (.fieldLink RX2 16 "CaskYard" "places" "[I") (by decide +kernel)) (fun _ h9 => h9) (v := .ref (ad 3)) rfl dX2_stavesAt_13 ?_
        refine lv_iload_n hx hb dX2_stavesAt_16 rfl (lv_at hl 1 rfl) ?_
        refine cy_iald hC (3) (by decide) hW 0 (i := i) (rfl) rfl (by omega) (by decide) dX2_stavesAt_17 ?_
        refine lv_iload_n hx hb dX2_stavesAt_18 rfl (lv_at hl 3 rfl) ?_
        refine lv_icmp_ne (tgt := 25) hx hb dX2_stavesAt_19 (by decide) (fun c_19 => ?_) (fun c_19 => ?_)
        · skip
          refine lv_iinc (v := nI (i + 1)) (lv' := [(3, .int (nI (i + 1))), (2, .int (cy_sa S x i)), (0, .ref (ad 0)), (1, .int x)]) hx hb dX2_stavesAt_25 hl (k := 1) rfl (nI_1 i) (by decide) rfl (fun ls hl => ?_)
          refine lv_goto (tgt := 4) hx hb dX2_stavesAt_28 (by decide) ?_
          rw [show cy_sa S x i = cy_sa S x (i + 1) from by simp only [cy_sa, c_9, c_19, ↓reduceIte, not_true_eq_false, not_false_eq_true]] at hl
          exact ih_4 (i + 1) (by omega) (by omega) _ _ hW _ (lv_sub hl [1, 0, 2, 3] rfl)
        · skip
          refine lv_iinc (v := (cy_sa S x i) + 1) (lv' := [(2, .int ((cy_sa S x i) + 1)), (3, .int (nI i)), (0, .ref (ad 0)), (1, .int x)]) hx hb dX2_stavesAt_22 hl (k := 0) rfl rfl (by decide) rfl (fun ls hl => ?_)
          refine lv_iinc (v := nI (i + 1)) (lv' := [(3, .int (nI (i + 1))), (2, .int ((cy_sa S x i) + 1)), (0, .ref (ad 0)), (1, .int x)]) hx hb dX2_stavesAt_25 hl (k := 1) rfl (nI_1 i) (by decide) rfl (fun ls hl => ?_)
          refine lv_goto (tgt := 4) hx hb dX2_stavesAt_28 (by decide) ?_
          rw [show (cy_sa S x i) + 1 = cy_sa S x (i + 1) from by simp only [cy_sa, c_9, c_19, ↓reduceIte, not_true_eq_false, not_false_eq_true]] at hl
          exact ih_4 (i + 1) (by omega) (by omega) _ _ hW _ (lv_sub hl [1, 0, 2, 3] rfl)
  exact L_4 ((ns - 0) + 1) 0 (Nat.lt_succ_self _) (by omega) _ _ hW _ (lv_sub hl [1, 0, 2, 3] rfl)
abbrev rm_X2_lastStaveIn : Room := { frames := 0, cells := 0, slots := 0, locals := 0 }
set_option maxHeartbeats 4000000 in
set_option maxRecDepth 100000 in
theorem c_X2_lastStaveIn {l : Launch} {D : va_G} {kI kJ kZ kC : ClassId} {ad : Nat → Nat} {S : Nat → Nat → Int32} {tl : va_W} {Z : Nat → Int64} {x : Int32} {ns : Nat} (hns : S 0 3 = nI ns) (h60 : ns ≤ 60) : cy_M l yX2_lastStaveIn wsX2_lastStaveIn rm_X2_lastStaveIn D (cy_tys kI kJ kZ kC) [.ref (ad 0), .int x] (cy_Y kI kJ kC ad S Z tl) (some (.int (cy_lst S x ns))) (cy_Y kI kJ kC ad S Z tl) := by
  refine cy_of (own := RX2) (cc := cX2_lastStaveIn) (maxL := 3) (ret := (some .int)) (i := .ireturn) (by decide) rfl rfl (Nat.le_of_ble_eq_true rfl) (cy_endI rfl) ?_
  intro p e s m args below meth co Q A ls hC hE hW hl
  have hx := hC.1.1; have hb := hC.1.2.1; have hml := hC.1.2.2.1; have hown := hC.1.2.2.2.1; have hts := hC.1.2.2.2.2
  have hl : lv_has ls 3 [(0, .ref (ad 0)), (1, .int x)] := hl
  have hi2 : ∀ w ∈ u_ws RX2 TX2 17, w ∈ wsX2_lastStaveIn := by decide +kernel
  refine lv_aload_n hx hb dX2_lastStaveIn_0 rfl (lv_at hl 0 rfl) ?_
  refine cy_get hC (0) (by decide) hi2 hW (rfl) rfl 3 (by decide) (hts (.fieldLink RX2 66 "CaskYard" "staveCount" "I") (by decide +kernel)) (fun _ h9 => h9) (v := .int (S 0 3)) rfl dX2_lastStaveIn_1 ?_
  refine cy_top (y := nI ns) hns ?_
  refine lv_iconst (v := 1) hx hb dX2_lastStaveIn_4 (by decide) ?_
  refine lv_isub hx hb dX2_lastStaveIn_5 ?_
  refine lv_istore_n (lv' := [(2, .int ((nI ns) - 1)), (0, .ref (ad 0)), (1, .int x)]) hx hb dX2_lastStaveIn_6 rfl hl (by decide) rfl (fun ls hl => ?_)
  have L_7 : ∀ (fu : Nat) (k : Nat), k < fu → (k ≤ ns) → (cy_lst S x ns = cy_lst S x k) → ∀ (H : Heap) (locs : List Loc), cy_W D A s.heap (cy_Y kI kJ kC ad S Z tl) H locs → ∀ (ls : Array Slot), lv_has ls 3 [(2, .int (nI k - 1)), (0, .ref (ad 0)), (1, .int x)] → W p l e rm_X2_lastStaveIn s m args below meth co H locs 0 0 Q (F0 m 7 ls []) := by
    intro fu
    induction fu with
    | zero => intro k hn; exact absurd hn (Nat.not_lt_zero _)
    | succ fu ih_7 =>
      intro k hn_7 hi he H locs hW ls hl
      refine lv_iload_n hx hb dX2_lastStaveIn_7 rfl (lv_at hl 0 rfl) ?_
      refine lv_if_lt (tgt := 29) hx hb dX2_lastStaveIn_8 (by decide) (fun c_8 => ?_) (fun c_8 => ?_)
      · skip
        obtain rfl := cy_p1 (by omega) c_8
        refine lv_iconst (v := (-1)) hx hb dX2_lastStaveIn_29 (by decide) ?_
        refine cy_top (y := cy_lst S x ns) he.symm ?_
        exact hE _ _ _ _ _ _ (Nat.le_of_ble_eq_true rfl) (Nat.le_of_ble_eq_true rfl) hW dX2_lastStaveIn_30
      · skip
        obtain ⟨j, rfl⟩ := cy_p1' c_8
        rw [nI_pred] at hl
        refine lv_aload_n hx hb dX2_lastStaveIn_11 rfl (lv_at hl 1 rfl) ?_
        refine cy_get hC (0) (by decide) hi2 hW (rfl) rfl 2 (by decide) (hts (.fieldLink RX2 16 "CaskYard" "places" "[I") (by decide +kernel)) (fun _ h9 => h9) (v := .ref (ad 3)) rfl dX2_lastStaveIn_12 ?_
        refine lv_iload_n hx hb dX2_lastStaveIn_15 rfl (lv_at hl 0 rfl) ?_
        refine cy_iald hC (3) (by decide) hW 0 (i := j) (rfl) rfl (by omega) (by decide) dX2_lastStaveIn_16 ?_
        refine lv_iload_n hx hb dX2_lastStaveIn_17 rfl (lv_at hl 2 rfl) ?_
        refine lv_icmp_ne (tgt := 23) hx hb dX2_lastStaveIn_18 (by decide) (fun c_18 => ?_) (fun c_18 => ?_)
        · skip
          refine lv_iinc (v := (nI j) - 1) (lv' := [(2, .int ((nI j) - 1)), (0, .ref (ad 0)), (1, .int x)]) hx hb dX2_lastStaveIn_23 hl (k := 0) rfl (cy_dm _) (by decide) rfl (fun ls hl => ?_)
          refine lv_goto (tgt := 7) hx hb dX2_lastStaveIn_26 (by decide) ?_
          exact ih_7 j (by omega) (by omega) (he.trans (by simp only [cy_lst, c_18, ↓reduceIte, not_false_eq_true])) _ _ hW _ (lv_sub hl [0, 1, 2] rfl)
        · skip
          refine lv_iload_n hx hb dX2_lastStaveIn_21 rfl (lv_at hl 0 rfl) ?_
          refine cy_top (y := cy_lst S x ns) (by rw [he]; simp only [cy_lst, c_18, ↓reduceIte, not_true_eq_false]) ?_
          exact hE _ _ _ _ _ _ (Nat.le_of_ble_eq_true rfl) (Nat.le_of_ble_eq_true rfl) hW dX2_lastStaveIn_22
  exact L_7 ((ns) + 1) ns (Nat.lt_succ_self _) (Nat.le_refl _) rfl _ _ hW _ (lv_sub hl [0, 1, 2] rfl)
abbrev rm_X2_isIn : Room := { frames := 0, cells := 0, slots := 0, locals := 0 }
set_option maxHeartbeats 4000000 in
set_option maxRecDepth 100000 in
theorem c_X2_isIn {l : Launch} {D : va_G} {kI kJ kZ kC : ClassId} {ad : Nat → Nat} {S : Nat → Nat → Int32} {tl : va_W} {Z : Nat → Int64} {z : Int64} {i : Nat} : cy_M l yX2_isIn wsX2_isIn rm_X2_isIn D (cy_tys kI kJ kZ kC) [.long z, .int (nI i)] (cy_Y kI kJ kC ad S Z tl) (some (.int (cy_in z i))) (cy_Y kI kJ kC ad S Z tl) := by
  refine cy_of (own := RX2) (cc := cX2_isIn) (maxL := 3) (ret := (some .boolean)) (i := .ireturn) (by decide) rfl rfl (Nat.le_of_ble_eq_true rfl) (cy_endI cy_in_b) ?_
  intro p e s m args below meth co Q A ls hC hE hW hl
  have hx := hC.1.1; have hb := hC.1.2.1; have hml := hC.1.2.2.1; have hown := hC.1.2.2.2.1; have hts := hC.1.2.2.2.2
  have hl : lv_has ls 3 [(0, .long z), (2, .int (nI i))] := hl
  refine lv_lload_n hx hb dX2_isIn_0 rfl (lv_at hl 0 rfl) ?_
  refine lv_iload_n hx hb dX2_isIn_1 rfl (lv_at hl 1 rfl) ?_
  refine lv_lushr hx hb dX2_isIn_2 rfl ?_
  refine lv_lconst (v := 1) hx hb dX2_isIn_3 rfl ?_
  refine lv_land hx hb dX2_isIn_4 ?_
  refine lv_lconst (v := 0) hx hb dX2_isIn_5 rfl ?_
  refine W.lcmp hx hb dX2_isIn_6 ?_
  refine lv_if_eq (tgt := 14) hx hb dX2_isIn_7 (by decide) (fun c_7 => ?_) (fun c_7 => ?_)
  · skip
    refine lv_iconst (v := 0) hx hb dX2_isIn_14 (by decide) ?_
    refine cy_topv (congrArg Value.int (show 0 = cy_in z i from by simp only [cy_in, c_7, ↓reduceIte, not_true_eq_false, not_false_eq_true])) ?_
    exact hE _ _ _ _ _ _ (Nat.le_of_ble_eq_true rfl) (Nat.le_of_ble_eq_true rfl) hW dX2_isIn_15
  · skip
    refine lv_iconst (v := 1) hx hb dX2_isIn_10 (by decide) ?_
    refine lv_goto (tgt := 15) hx hb dX2_isIn_11 (by decide) ?_
    refine cy_topv (congrArg Value.int (show 1 = cy_in z i from by simp only [cy_in, c_7, ↓reduceIte, not_true_eq_false, not_false_eq_true])) ?_
    exact hE _ _ _ _ _ _ (Nat.le_of_ble_eq_true rfl) (Nat.le_of_ble_eq_true rfl) hW dX2_isIn_15
abbrev rm_X2_memberOf : Room := { frames := 1, cells := 0, slots := 0, locals := 22 }
set_option maxHeartbeats 4000000 in
set_option maxRecDepth 100000 in
theorem c_X2_memberOf {l : Launch} {D : va_G} {kI kJ kZ kC : ClassId} {ad : Nat → Nat} {S : Nat → Nat → Int32} {tl : va_W} {Z : Nat → Int64} {z : Int64} {x : Int32} {ns : Nat} (hns : S 0 3 = nI ns) (h60 : ns ≤ 60) : cy_M l yX2_memberOf wsX2_memberOf rm_X2_memberOf D (cy_tys kI kJ kZ kC) [.ref (ad 0), .long z, .int x] (cy_Y kI kJ kC ad S Z tl) (some (.int (cy_mo z x ns 0 0))) (cy_Y kI kJ kC ad S Z tl) := by
  refine cy_of (own := RX2) (cc := cX2_memberOf) (maxL := 6) (ret := (some .int)) (i := .ireturn) (by decide) rfl rfl (Nat.le_of_ble_eq_true rfl) (cy_endI rfl) ?_
  intro p e s m args below meth co Q A ls hC hE hW hl
  have hx := hC.1.1; have hb := hC.1.2.1; have hml := hC.1.2.2.1; have hown := hC.1.2.2.2.1; have hts := hC.1.2.2.2.2
  have hl : lv_has ls 6 [(0, .ref (ad 0)), (1, .long z), (3, .int x)] := hl
  have hi2 : ∀ w ∈ u_ws RX2 TX2 17, w ∈ wsX2_memberOf := by decide +kernel
  refine lv_iconst (v := 0) hx hb dX2_memberOf_0 (by decide) ?_
  refine lv_istore (lv' := [(4, .int 0), (0, .ref (ad 0)), (1, .long z), (3, .int x)]) hx hb dX2_memberOf_1 hl (by decide) rfl (fun ls hl => ?_)
  refine lv_iconst (v := 0) hx hb dX2_memberOf_3 (by decide) ?_
  refine lv_istore (lv' := [(5, .int 0), (4, .int 0), (0, .ref (ad 0)), (1, .long z), (3, .int x)]) hx hb dX2_memberOf_4 hl (by decide) rfl (fun ls hl => ?_)
  have L_6 : ∀ (fu : Nat) (i : Nat) (b : Int32), ns - i < fu → (i ≤ ns) → (cy_mo z x ns 0 0 = cy_mo z x (ns - i) i b) → ∀ (H : Heap) (locs : List Loc), cy_W D A s.heap (cy_Y kI kJ kC ad S Z tl) H locs → ∀ (ls : Array Slot), lv_has ls 6 [(4, .int b), (5, .int (nI i)), (0, .ref (ad 0)), (1, .long z), (3, .int x)] → W p l e rm_X2_memberOf s m args below meth co H locs 0 0 Q (F0 m 6 ls []) := by
    intro fu
    induction fu with
    | zero => intro i b hn; exact absurd hn (Nat.not_lt_zero _)
    | succ fu ih_6 =>
      intro i b hn_6 hi he H locs hW ls hl
      refine lv_iload hx hb dX2_memberOf_6 (lv_at hl 1 rfl) ?_
      refine lv_aload_n hx hb dX2_memberOf_8 rfl (lv_at hl 2 rfl) ?_
      refine cy_get hC (0) (by decide) hi2 hW (rfl) rfl 3 (by decide) (hts (.fieldLink RX2 66 "CaskYard" "staveCount" "I") (by decide +kernel)) (fun _ h9 => h9) (v := .int (S 0 3)) rfl dX2_memberOf_9 ?_
      refine cy_top (y := nI ns) hns ?_
      refine lv_icmp_ge (tgt := 42) hx hb dX2_memberOf_12 (by decide) (fun c_12 => ?_) (fun c_12 => ?_)
      · skip
        have q_12 := cy_le (a := ns) (b := i) (by omega) (by omega) c_12
        refine lv_iconst (v := (-1)) hx hb dX2_memberOf_42 (by decide) ?_
        refine cy_top (y := cy_mo z x ns 0 0) (by rw [he, show ns - i = 0 by omega]; rfl) ?_
        exact hE _ _ _ _ _ _ (Nat.le_of_ble_eq_true rfl) (Nat.le_of_ble_eq_true rfl) hW dX2_memberOf_43
      · skip
        have q_12 := cy_nle (a := ns) (b := i) (by omega) (by omega) c_12
        refine lv_lload_n hx hb dX2_memberOf_15 rfl (lv_at hl 3 rfl) ?_
        refine lv_iload hx hb dX2_memberOf_16 (lv_at hl 1 rfl) ?_
        refine cy_callS (As := [.long z, .int (nI i)]) (rest := []) hC.1 hC.2.1 hC.2.2 hW (c_X2_isIn (z := z) (i := i)) (va_cwS 2 hts gX2_memberOf_X2_isIn rfl rfl rfl (by decide +kernel) ⟨Nat.le_of_ble_eq_true rfl, Nat.le_of_ble_eq_true rfl⟩) rfl hl.1 rfl (Nat.le_of_ble_eq_true rfl) dX2_memberOf_18 ⟨Nat.le_of_ble_eq_true rfl, Nat.le_of_ble_eq_true rfl⟩ (k' := 0) (n' := 0) rfl rfl (fun H locs hW => ?_)
        refine lv_if_eq (tgt := 36) hx hb dX2_memberOf_21 (by decide) (fun c_21 => ?_) (fun c_21 => ?_)
        · skip
          refine lv_iinc (v := nI (i + 1)) (lv' := [(5, .int (nI (i + 1))), (4, .int b), (0, .ref (ad 0)), (1, .long z), (3, .int x)]) hx hb dX2_memberOf_36 hl (k := 1) rfl (nI_1 i) (by decide) rfl (fun ls hl => ?_)
          refine lv_goto (tgt := 6) hx hb dX2_memberOf_39 (by decide) ?_
          exact ih_6 (i + 1) b (by omega) (by omega) (he.trans (by rw [show ns - i = (ns - (i + 1)) + 1 by omega]; simp only [cy_mo, c_21, ↓reduceIte, not_false_eq_true])) _ _ hW _ (lv_sub hl [1, 0, 2, 3, 4] rfl)
        · skip
          refine lv_iload hx hb dX2_memberOf_24 (lv_at hl 0 rfl) ?_
          refine lv_iload_n hx hb dX2_memberOf_26 rfl (lv_at hl 4 rfl) ?_
          refine lv_icmp_ne (tgt := 33) hx hb dX2_memberOf_27 (by decide) (fun c_27 => ?_) (fun c_27 => ?_)
          · skip
            refine lv_iinc (v := b + 1) (lv' := [(4, .int (b + 1)), (5, .int (nI i)), (0, .ref (ad 0)), (1, .long z), (3, .int x)]) hx hb dX2_memberOf_33 hl (k := 0) rfl rfl (by decide) rfl (fun ls hl => ?_)
            refine lv_iinc (v := nI (i + 1)) (lv' := [(5, .int (nI (i + 1))), (4, .int (b + 1)), (0, .ref (ad 0)), (1, .long z), (3, .int x)]) hx hb dX2_memberOf_36 hl (k := 1) rfl (nI_1 i) (by decide) rfl (fun ls hl => ?_)
            refine lv_goto (tgt := 6) hx hb dX2_memberOf_39 (by decide) ?_
            exact ih_6 (i + 1) (b + 1) (by omega) (by omega) (he.trans (by rw [show ns - i = (ns - (i + 1)) + 1 by omega]; simp only [cy_mo, c_21, c_27, ↓reduceIte, not_false_eq_true])) _ _ hW _ (lv_sub hl [1, 0, 2, 3, 4] rfl)
          · skip
            refine lv_iload hx hb dX2_memberOf_30 (lv_at hl 1 rfl) ?_
            refine cy_top (y := cy_mo z x ns 0 0) (by rw [he, show ns - i = (ns - (i + 1)) + 1 by omega]; simp only [cy_mo, c_21, c_27, ↓reduceIte, not_true_eq_false]) ?_
            exact hE _ _ _ _ _ _ (Nat.le_of_ble_eq_true rfl) (Nat.le_of_ble_eq_true rfl) hW dX2_memberOf_32
  exact L_6 ((ns - 0) + 1) 0 0 (Nat.lt_succ_self _) (Nat.zero_le _) rfl _ _ hW _ (lv_sub hl [1, 0, 2, 3, 4] rfl)
abbrev rm_X2_putStavesIn : Room := { frames := 1, cells := 0, slots := 0, locals := 22 }
set_option maxHeartbeats 4000000 in
set_option maxRecDepth 100000 in
theorem c_X2_putStavesIn {l : Launch} {D : va_G} {kI kJ kZ kC : ClassId} {ad : Nat → Nat} {S : Nat → Nat → Int32} {tl : va_W} {Z : Nat → Int64} {z : Int64} {x : Int32} {ns : Nat} (hns : S 0 3 = nI ns) (h60 : ns ≤ 60) : cy_M l yX2_putStavesIn wsX2_putStavesIn rm_X2_putStavesIn D (cy_tys kI kJ kZ kC) [.ref (ad 0), .long z, .int x] (cy_Y kI kJ kC ad S Z tl) (some (.int ((cy_ps S z x ns).2))) (cy_Y kI kJ kC ad (cy_ps S z x ns).1 Z tl) := by
  refine cy_of (own := RX2) (cc := cX2_putStavesIn) (maxL := 6) (ret := (some .int)) (i := .ireturn) (by decide) rfl rfl (Nat.le_of_ble_eq_true rfl) (cy_endI rfl) ?_
  intro p e s m args below meth co Q A ls hC hE hW hl
  have hx := hC.1.1; have hb := hC.1.2.1; have hml := hC.1.2.2.1; have hown := hC.1.2.2.2.1; have hts := hC.1.2.2.2.2
  have hl : lv_has ls 6 [(0, .ref (ad 0)), (1, .long z), (3, .int x)] := hl
  have hi2 : ∀ w ∈ u_ws RX2 TX2 17, w ∈ wsX2_putStavesIn := by decide +kernel
  refine lv_iconst (v := 0) hx hb dX2_putStavesIn_0 (by decide) ?_
  refine lv_istore (lv' := [(4, .int 0), (0, .ref (ad 0)), (1, .long z), (3, .int x)]) hx hb dX2_putStavesIn_1 hl (by decide) rfl (fun ls hl => ?_)
  refine lv_iconst (v := 0) hx hb dX2_putStavesIn_3 (by decide) ?_
  refine lv_istore (lv' := [(5, .int 0), (4, .int 0), (0, .ref (ad 0)), (1, .long z), (3, .int x)]) hx hb dX2_putStavesIn_4 hl (by decide) rfl (fun ls hl => ?_)
  have L_6 : ∀ (fu : Nat) (i : Nat), ns - i < fu → (i ≤ ns) → ∀ (H : Heap) (locs : List Loc), cy_W D A s.heap (cy_Y kI kJ kC ad (cy_ps S z x i).1 Z tl) H locs → ∀ (ls : Array Slot), lv_has ls 6 [(4, .int ((cy_ps S z x i).2)), (5, .int (nI i)), (0, .ref (ad 0)), (1, .long z), (3, .int x)] → W p l e rm_X2_putStavesIn s m args below meth co H locs 0 0 Q (F0 m 6 ls []) := by
    intro fu
    induction fu with
    | zero => intro i hn; exact absurd hn (Nat.not_lt_zero _)
    | succ fu ih_6 =>
      intro i hn_6 hi H locs hW ls hl
      refine lv_iload hx hb dX2_putStavesIn_6 (lv_at hl 1 rfl) ?_
      refine lv_aload_n hx hb dX2_putStavesIn_8 rfl (lv_at hl 2 rfl) ?_
      refine cy_get hC (0) (by decide) hi2 hW (rfl) rfl 3 (by decide) (hts (.fieldLink RX2 66 "CaskYard" "staveCount" "I") (by decide +kernel)) (fun _ h9 => h9) (v := .int (((cy_ps S z x i).1 0) 3)) rfl dX2_putStavesIn_9 ?_
      refine cy_top (y := nI ns) (by rw [cy_ps_n (by decide)]; exact hns) ?_
      refine lv_icmp_ge (tgt := 49) hx hb dX2_putStavesIn_12 (by decide) (fun c_12 => ?_) (fun c_12 => ?_)
      · skip
        have q_12 := cy_le (a := ns) (b := i) (by omega) (by omega) c_12
        obtain rfl : ns = i := by omega
        refine lv_iload hx hb dX2_putStavesIn_49 (lv_at hl 0 rfl) ?_
        exact hE _ _ _ _ _ _ (Nat.le_of_ble_eq_true rfl) (Nat.le_of_ble_eq_true rfl) hW dX2_putStavesIn_51
      · skip
        have q_12 := cy_nle (a := ns) (b := i) (by omega) (by omega) c_12
        refine lv_lload_n hx hb dX2_putStavesIn_15 rfl (lv_at hl 3 rfl) ?_
        refine lv_iload hx hb dX2_putStavesIn_16 (lv_at hl 1 rfl) ?_
        refine cy_callS (As := [.long z, .int (nI i)]) (rest := []) hC.1 hC.2.1 hC.2.2 hW (c_X2_isIn (z := z) (i := i)) (va_cwS 2 hts gX2_putStavesIn_X2_isIn rfl rfl rfl (by decide +kernel) ⟨Nat.le_of_ble_eq_true rfl, Nat.le_of_ble_eq_true rfl⟩) rfl hl.1 rfl (Nat.le_of_ble_eq_true rfl) dX2_putStavesIn_18 ⟨Nat.le_of_ble_eq_true rfl, Nat.le_of_ble_eq_true rfl⟩ (k' := 0) (n' := 0) rfl rfl (fun H locs hW => ?_)
        refine lv_if_eq (tgt := 43) hx hb dX2_putStavesIn_21 (by decide) (fun c_21 => ?_) (fun c_21 => ?_)
        · skip
          refine lv_iinc (v := nI (i + 1)) (lv' := [(5, .int (nI (i + 1))), (4, .int ((cy_ps S z x i).2)), (0, .ref (ad 0)), (1, .long z), (3, .int x)]) hx hb dX2_putStavesIn_43 hl (k := 1) rfl (nI_1 i) (by decide) rfl (fun ls hl => ?_)
          refine lv_goto (tgt := 6) hx hb dX2_putStavesIn_46 (by decide) ?_
          rw [show (cy_ps S z x i).2 = (cy_ps S z x (i + 1)).2 from by simp only [cy_ps, c_12, c_21, ↓reduceIte, not_true_eq_false, not_false_eq_true]] at hl
          have hW := cy_castS (show (cy_ps S z x i).1 = (cy_ps S z x (i + 1)).1 from by simp only [cy_ps, c_12, c_21, ↓reduceIte, not_true_eq_false, not_false_eq_true]) hW
          exact ih_6 (i + 1) (by omega) (by omega) _ _ hW _ (lv_sub hl [1, 0, 2, 3, 4] rfl)
        · skip
          refine lv_aload_n hx hb dX2_putStavesIn_24 rfl (lv_at hl 2 rfl) ?_
          refine cy_get hC (0) (by decide) hi2 hW (rfl) rfl 2 (by decide) (hts (.fieldLink RX2 16 "CaskYard" "places" "[I") (by decide +kernel)) (fun _ h9 => h9) (v := .ref (ad 3)) rfl dX2_putStavesIn_25 ?_
          refine lv_iload hx hb dX2_putStavesIn_28 (lv_at hl 1 rfl) ?_
          refine lv_iload_n hx hb dX2_putStavesIn_30 rfl (lv_at hl 4 rfl) ?_
          refine cy_iast hC (3) (by decide) hW 0 (i := i) (rfl) rfl (by omega) (by decide) (upd ((cy_ps S z x i).1 3) i x) rfl (S' := (va_up (cy_ps S z x i).1 3 (upd ((cy_ps S z x i).1 3) i x))) rfl dX2_putStavesIn_31 (fun H locs hW => ?_)
          refine lv_iload hx hb dX2_putStavesIn_32 (lv_at hl 0 rfl) ?_
          refine lv_aload_n hx hb dX2_putStavesIn_34 rfl (lv_at hl 2 rfl) ?_
          refine lv_iload hx hb dX2_putStavesIn_35 (lv_at hl 1 rfl) ?_
          refine cy_callV (As := [.int (nI i)]) (rest := [.int ((cy_ps S z x i).2)]) (q0 := 0) (ci := 2) hC.1 hC.2.1 hC.2.2 hW (c_X2_flawsOf (i := i) (by omega)) (cwV 1 hts gX2_putStavesIn_X2_flawsOf rfl rfl rfl (by decide +kernel) ⟨Nat.le_of_ble_eq_true rfl, Nat.le_of_ble_eq_true rfl⟩) (cy_w_at (by decide) (cy_rd (cy_un (by omega)) rfl)) rfl rfl hl.1 rfl (Nat.le_of_ble_eq_true rfl) dX2_putStavesIn_37 ⟨Nat.le_of_ble_eq_true rfl, Nat.le_of_ble_eq_true rfl⟩ (k' := 0) (n' := 0) rfl rfl (fun H locs hW => ?_)
          refine lv_iadd hx hb dX2_putStavesIn_40 ?_
          refine lv_istore (lv' := [(4, .int (((cy_ps S z x i).2) + (cy_fw (va_up (cy_ps S z x i).1 3 (upd ((cy_ps S z x i).1 3) i x)) i))), (5, .int (nI i)), (0, .ref (ad 0)), (1, .long z), (3, .int x)]) hx hb dX2_putStavesIn_41 hl (by decide) rfl (fun ls hl => ?_)
          refine lv_iinc (v := nI (i + 1)) (lv' := [(5, .int (nI (i + 1))), (4, .int (((cy_ps S z x i).2) + (cy_fw (va_up (cy_ps S z x i).1 3 (upd ((cy_ps S z x i).1 3) i x)) i))), (0, .ref (ad 0)), (1, .long z), (3, .int x)]) hx hb dX2_putStavesIn_43 hl (k := 1) rfl (nI_1 i) (by decide) rfl (fun ls hl => ?_)
          refine lv_goto (tgt := 6) hx hb dX2_putStavesIn_46 (by decide) ?_
          rw [show ((cy_ps S z x i).2) + (cy_fw (va_up (cy_ps S z x i).1 3 (upd ((cy_ps S z x i).1 3) i x)) i) = (cy_ps S z x (i + 1)).2 from by simp only [cy_ps, c_12, c_21, ↓reduceIte, not_true_eq_false, not_false_eq_true]] at hl
          have hW := cy_castS (show (va_up (cy_ps S z x i).1 3 (upd ((cy_ps S z x i).1 3) i x)) = (cy_ps S z x (i + 1)).1 from by simp only [cy_ps, c_12, c_21, ↓reduceIte, not_true_eq_false, not_false_eq_true]) hW
          exact ih_6 (i + 1) (by omega) (by omega) _ _ hW _ (lv_sub hl [1, 0, 2, 3, 4] rfl)
  exact L_6 ((ns - 0) + 1) 0 (Nat.lt_succ_self _) (by omega) _ _ hW _ (lv_sub hl [1, 0, 2, 3, 4] rfl)
abbrev rm_X2_takeStavesOutOf : Room := { frames := 1, cells := 0, slots := 0, locals := 15 }
set_option maxHeartbeats 4000000 in
set_option maxRecDepth 100000 in
theorem c_X2_takeStavesOutOf {l : Launch} {D : va_G} {kI kJ kZ kC : ClassId} {ad : Nat → Nat} {S : Nat → Nat → Int32} {tl : va_W} {Z : Nat → Int64} {x : Int32} {ns : Nat} (hns : S 0 3 = nI ns) (h60 : ns ≤ 60) : cy_M l yX2_takeStavesOutOf wsX2_takeStavesOutOf rm_X2_takeStavesOutOf D (cy_tys kI kJ kZ kC) [.ref (ad 0), .int x] (cy_Y kI kJ kC ad S Z tl) none (cy_Y kI kJ kC ad (cy_ts S x ns).1 Z tl) := by
  refine cy_of (own := RX2) (cc := cX2_takeStavesOutOf) (maxL := 4) (ret := none) (i := .return_) (by decide) rfl rfl (Nat.le_of_ble_eq_true rfl) cy_endV ?_
  intro p e s m args below meth co Q A ls hC hE hW hl
  have hx := hC.1.1; have hb := hC.1.2.1; have hml := hC.1.2.2.1; have hown := hC.1.2.2.2.1; have hts := hC.1.2.2.2.2
  have hl : lv_has ls 4 [(0, .ref (ad 0)), (1, .int x)] := hl
  have hi2 : ∀ w ∈ u_ws RX2 TX2 17, w ∈ wsX2_takeStavesOutOf := by decide +kernel
  refine lv_iconst (v := 1) hx hb dX2_takeStavesOutOf_0 (by decide) ?_
  refine lv_istore_n (lv' := [(2, .int 1), (0, .ref (ad 0)), (1, .int x)]) hx hb dX2_takeStavesOutOf_1 rfl hl (by decide) rfl (fun ls hl => ?_)
  refine lv_iconst (v := 0) hx hb dX2_takeStavesOutOf_2 (by decide) ?_
  refine lv_istore_n (lv' := [(3, .int 0), (2, .int 1), (0, .ref (ad 0)), (1, .int x)]) hx hb dX2_takeStavesOutOf_3 rfl hl (by decide) rfl (fun ls hl => ?_)
  have L_4 : ∀ (fu : Nat) (i : Nat), ns - i < fu → (i ≤ ns) → ∀ (H : Heap) (locs : List Loc), cy_W D A s.heap (cy_Y kI kJ kC ad (cy_ts S x i).1 Z tl) H locs → ∀ (ls : Array Slot), lv_has ls 4 [(2, .int ((cy_ts S x i).2)), (3, .int (nI i)), (0, .ref (ad 0)), (1, .int x)] → W p l e rm_X2_takeStavesOutOf s m args below meth co H locs 0 0 Q (F0 m 4 ls []) := by
    intro fu
    induction fu with
    | zero => intro i hn; exact absurd hn (Nat.not_lt_zero _)
    | succ fu ih_4 =>
      intro i hn_4 hi H locs hW ls hl
      refine lv_iload_n hx hb dX2_takeStavesOutOf_4 rfl (lv_at hl 1 rfl) ?_
      refine lv_aload_n hx hb dX2_takeStavesOutOf_5 rfl (lv_at hl 2 rfl) ?_
      refine cy_get hC (0) (by decide) hi2 hW (rfl) rfl 3 (by decide) (hts (.fieldLink RX2 66 "CaskYard" "staveCount" "I") (by decide +kernel)) (fun _ h9 => h9) (v := .int (((cy_ts S x i).1 0) 3)) rfl dX2_takeStavesOutOf_6 ?_
      refine cy_top (y := nI ns) (by rw [cy_ts_n (by decide) (by decide)]; exact hns) ?_
      refine lv_icmp_ge (tgt := 65) hx hb dX2_takeStavesOutOf_9 (by decide) (fun c_9 => ?_) (fun c_9 => ?_)
      · skip
        have q_9 := cy_le (a := ns) (b := i) (by omega) (by omega) c_9
        obtain rfl : ns = i := by omega
        exact hE _ _ _ _ _ _ (Nat.le_of_ble_eq_true rfl) (Nat.le_of_ble_eq_true rfl) hW dX2_takeStavesOutOf_65
      · skip
        have q_9 := cy_nle (a := ns) (b := i) (by omega) (by omega) c_9
        refine lv_aload_n hx hb dX2_takeStavesOutOf_12 rfl (lv_at hl 2 rfl) ?_
        refine cy_get hC (0) (by decide) hi2 hW (rfl) rfl 2 (by decide) (hts (.fieldLink RX2 16 "CaskYard" "places" "[I") (by decide +kernel)) (fun _ h9 => h9) (v := .ref (ad 3)) rfl dX2_takeStavesOutOf_13 ?_
        refine lv_iload_n hx hb dX2_takeStavesOutOf_16 rfl (lv_at hl 1 rfl) ?_
        refine cy_iald hC (3) (by decide) hW 0 (i := i) (rfl) rfl (by omega) (by decide) dX2_takeStavesOutOf_17 ?_
        refine lv_iload_n hx hb dX2_takeStavesOutOf_18 rfl (lv_at hl 3 rfl) ?_
        refine lv_icmp_ne (tgt := 59) hx hb dX2_takeStavesOutOf_19 (by decide) (fun c_19 => ?_) (fun c_19 => ?_)
        · skip
          refine lv_iinc (v := nI (i + 1)) (lv' := [(3, .int (nI (i + 1))), (2, .int ((cy_ts S x i).2)), (0, .ref (ad 0)), (1, .int x)]) hx hb dX2_takeStavesOutOf_59 hl (k := 1) rfl (nI_1 i) (by decide) rfl (fun ls hl => ?_)
          refine lv_goto (tgt := 4) hx hb dX2_takeStavesOutOf_62 (by decide) ?_
          rw [show (cy_ts S x i).2 = (cy_ts S x (i + 1)).2 from by simp only [cy_ts, c_9, c_19, ↓reduceIte, not_true_eq_false, not_false_eq_true]] at hl
          have hW := cy_castS (show (cy_ts S x i).1 = (cy_ts S x (i + 1)).1 from by simp only [cy_ts, c_9, c_19, ↓reduceIte, not_true_eq_false, not_false_eq_true]) hW
          exact ih_4 (i + 1) (by omega) (by omega) _ _ hW _ (lv_sub hl [1, 0, 2, 3] rfl)
        · skip
          refine lv_aload_n hx hb dX2_takeStavesOutOf_22 rfl (lv_at hl 2 rfl) ?_
          refine cy_get hC (0) (by decide) hi2 hW (rfl) rfl 1 (by decide) (hts (.fieldLink RX2 13 "CaskYard" "drynesses" "[I") (by decide +kernel)) (fun _ h9 => h9) (v := .ref (ad 2)) rfl dX2_takeStavesOutOf_23 ?_
          refine lv_iload_n hx hb dX2_takeStavesOutOf_26 rfl (lv_at hl 1 rfl) ?_
          refine lv_iconst (v := 0) hx hb dX2_takeStavesOutOf_27 (by decide) ?_
          refine lv_aload_n hx hb dX2_takeStavesOutOf_28 rfl (lv_at hl 2 rfl) ?_
          refine cy_get hC (0) (by decide) hi2 hW (rfl) rfl 1 (by decide) (hts (.fieldLink RX2 13 "CaskYard" "drynesses" "[I") (by decide +kernel)) (fun _ h9 => h9) (v := .ref (ad 2)) rfl dX2_takeStavesOutOf_29 ?_
          refine lv_iload_n hx hb dX2_takeStavesOutOf_32 rfl (lv_at hl 1 rfl) ?_
          refine cy_iald hC (2) (by decide) hW 0 (i := i) (rfl) rfl (by omega) (by decide) dX2_takeStavesOutOf_33 ?_
          refine lv_bipush (v := 30) hx hb dX2_takeStavesOutOf_34 (by decide) ?_
          refine lv_isub hx hb dX2_takeStavesOutOf_36 ?_
          refine va_mmax hx hb (hml.trans hl.1.symm) hown (hts (.methodLink RX2 318 Lib.Math.max.name) (by decide +kernel)) (hts (.static Lib.Math.max.name) (by decide +kernel)) (hts (.initialized "java/lang/Math") (by decide +kernel)) (hts (.code Lib.Math.max.name Lib.Math.max.code 2 (some .int)) (by decide +kernel)) (Nat.le_of_ble_eq_true rfl) (Nat.le_of_ble_eq_true rfl) (Nat.le_of_ble_eq_true rfl) (Nat.le_of_ble_eq_true rfl) dX2_takeStavesOutOf_37 ?_
          refine cy_topv (show _ = Value.int (cy_mx 0 ((((cy_ts S x i).1 2) i) - 30)) from rfl) ?_
          refine cy_iast hC (2) (by decide) hW 0 (i := i) (rfl) rfl (by omega) (by decide) (upd ((cy_ts S x i).1 2) i (cy_mx 0 ((((cy_ts S x i).1 2) i) - 30))) rfl (S' := (va_up (cy_ts S x i).1 2 (upd ((cy_ts S x i).1 2) i (cy_mx 0 ((((cy_ts S x i).1 2) i) - 30))))) rfl dX2_takeStavesOutOf_40 (fun H locs hW => ?_)
          refine lv_aload_n hx hb dX2_takeStavesOutOf_41 rfl (lv_at hl 2 rfl) ?_
          refine cy_get hC (0) (by decide) hi2 hW (cy_rd (cy_un (by omega)) rfl) rfl 2 (by decide) (hts (.fieldLink RX2 16 "CaskYard" "places" "[I") (by decide +kernel)) (fun _ h9 => h9) (v := .ref (ad 3)) rfl dX2_takeStavesOutOf_42 ?_
          refine lv_iload_n hx hb dX2_takeStavesOutOf_45 rfl (lv_at hl 1 rfl) ?_
          refine lv_iload_n hx hb dX2_takeStavesOutOf_46 rfl (lv_at hl 0 rfl) ?_
          refine lv_if_eq (tgt := 55) hx hb dX2_takeStavesOutOf_47 (by decide) (fun c_47 => ?_) (fun c_47 => ?_)
          · skip
            refine lv_iconst (v := (-1)) hx hb dX2_takeStavesOutOf_55 (by decide) ?_
            refine cy_iast hC (3) (by decide) hW 0 (i := i) (cy_rd (cy_un (by omega)) rfl) rfl (by omega) (by decide) (upd ((cy_ts S x i).1 3) i (-1)) rfl (S' := (va_up (va_up (cy_ts S x i).1 2 (upd ((cy_ts S x i).1 2) i (cy_mx 0 ((((cy_ts S x i).1 2) i) - 30)))) 3 (upd ((cy_ts S x i).1 3) i (-1)))) rfl dX2_takeStavesOutOf_56 (fun H locs hW => ?_)
            refine lv_iconst (v := 0) hx hb dX2_takeStavesOutOf_57 (by decide) ?_
            refine lv_istore_n (lv' := [(2, .int 0), (3, .int (nI i)), (0, .ref (ad 0)), (1, .int x)]) hx hb dX2_takeStavesOutOf_58 rfl hl (by decide) rfl (fun ls hl => ?_)
            refine lv_iinc (v := nI (i + 1)) (lv' := [(3, .int (nI (i + 1))), (2, .int 0), (0, .ref (ad 0)), (1, .int x)]) hx hb dX2_takeStavesOutOf_59 hl (k := 1) rfl (nI_1 i) (by decide) rfl (fun ls hl => ?_)
            refine lv_goto (tgt := 4) hx hb dX2_takeStavesOutOf_62 (by decide) ?_
            rw [show 0 = (cy_ts S x (i + 1)).2 from by simp only [cy_ts, c_9, c_19, c_47, ↓reduceIte, not_true_eq_false, not_false_eq_true]] at hl
            have hW := cy_castS (show (va_up (va_up (cy_ts S x i).1 2 (upd ((cy_ts S x i).1 2) i (cy_mx 0 ((((cy_ts S x i).1 2) i) - 30)))) 3 (upd ((cy_ts S x i).1 3) i (-1))) = (cy_ts S x (i + 1)).1 from by simp only [cy_ts, c_9, c_19, c_47, ↓reduceIte, not_true_eq_false, not_false_eq_true]) hW
            exact ih_4 (i + 1) (by omega) (by omega) _ _ hW _ (lv_sub hl [1, 0, 2, 3] rfl)
          · skip
            refine lv_bipush (v := (-2)) hx hb dX2_takeStavesOutOf_50 (by decide) ?_
            refine lv_goto (tgt := 56) hx hb dX2_takeStavesOutOf_52 (by decide) ?_
            refine cy_iast hC (3) (by decide) hW 0 (i := i) (cy_rd (cy_un (by omega)) rfl) rfl (by omega) (by decide) (upd ((cy_ts S x i).1 3) i (-2)) rfl (S' := (va_up (va_up (cy_ts S x i).1 2 (upd ((cy_ts S x i).1 2) i (cy_mx 0 ((((cy_ts S x i).1 2) i) - 30)))) 3 (upd ((cy_ts S x i).1 3) i (-2)))) rfl dX2_takeStavesOutOf_56 (fun H locs hW => ?_)
            refine lv_iconst (v := 0) hx hb dX2_takeStavesOutOf_57 (by decide) ?_
            refine lv_istore_n (lv' := [(2, .int 0), (3, .int (nI i)), (0, .ref (ad 0)), (1, .int x)]) hx hb dX2_takeStavesOutOf_58 rfl hl (by decide) rfl (fun ls hl => ?_)
            refine lv_iinc (v := nI (i + 1)) (lv' := [(3, .int (nI (i + 1))), (2, .int 0), (0, .ref (ad 0)), (1, .int x)]) hx hb dX2_takeStavesOutOf_59 hl (k := 1) rfl (nI_1 i) (by decide) rfl (fun ls hl => ?_)
            refine lv_goto (tgt := 4) hx hb dX2_takeStavesOutOf_62 (by decide) ?_
            rw [show 0 = (cy_ts S x (i + 1)).2 from by simp only [cy_ts, c_9, c_19, c_47, ↓reduceIte, not_true_eq_false, not_false_eq_true]] at hl
            have hW := cy_castS (show (va_up (va_up (cy_ts S x i).1 2 (upd ((cy_ts S x i).1 2) i (cy_mx 0 ((((cy_ts S x i).1 2) i) - 30)))) 3 (upd ((cy_ts S x i).1 3) i (-2))) = (cy_ts S x (i + 1)).1 from by simp only [cy_ts, c_9, c_19, c_47, ↓reduceIte, not_true_eq_false, not_false_eq_true]) hW
            exact ih_4 (i + 1) (by omega) (by omega) _ _ hW _ (lv_sub hl [1, 0, 2, 3] rfl)
  exact L_4 ((ns - 0) + 1) 0 (Nat.lt_succ_self _) (by omega) _ _ hW _ (lv_sub hl [1, 0, 2, 3] rfl)
abbrev rm_X2_soundCasks : Room := { frames := 0, cells := 0, slots := 0, locals := 0 }
set_option maxHeartbeats 4000000 in
set_option maxRecDepth 100000 in
theorem c_X2_soundCasks {l : Launch} {D : va_G} {kI kJ kZ kC : ClassId} {ad : Nat → Nat} {S : Nat → Nat → Int32} {tl : va_W} {Z : Nat → Int64} {nc : Nat} (hnc : S 0 9 = nI nc) (h12 : nc ≤ 12) : cy_M l yX2_soundCasks wsX2_soundCasks rm_X2_soundCasks D (cy_tys kI kJ kZ kC) [.ref (ad 0)] (cy_Y kI kJ kC ad S Z tl) (some (.int (cy_sq S nc))) (cy_Y kI kJ kC ad S Z tl) := by
  refine cy_of (own := RX2) (cc := cX2_soundCasks) (maxL := 3) (ret := (some .int)) (i := .ireturn) (by decide) rfl rfl (Nat.le_of_ble_eq_true rfl) (cy_endI rfl) ?_
  intro p e s m args below meth co Q A ls hC hE hW hl
  have hx := hC.1.1; have hb := hC.1.2.1; have hml := hC.1.2.2.1; have hown := hC.1.2.2.2.1; have hts := hC.1.2.2.2.2
  have hl : lv_has ls 3 [(0, .ref (ad 0))] := hl
  have hi1 : ∀ w ∈ u_ws RX1 TX1 11, w ∈ wsX2_soundCasks := by decide +kernel
  have hi2 : ∀ w ∈ u_ws RX2 TX2 17, w ∈ wsX2_soundCasks := by decide +kernel
  refine lv_iconst (v := 0) hx hb dX2_soundCasks_0 (by decide) ?_
  refine lv_istore_n (lv' := [(1, .int 0), (0, .ref (ad 0))]) hx hb dX2_soundCasks_1 rfl hl (by decide) rfl (fun ls hl => ?_)
  refine lv_iconst (v := 0) hx hb dX2_soundCasks_2 (by decide) ?_
  refine lv_istore_n (lv' := [(2, .int 0), (1, .int 0), (0, .ref (ad 0))]) hx hb dX2_soundCasks_3 rfl hl (by decide) rfl (fun ls hl => ?_)
  have L_4 : ∀ (fu : Nat) (i : Nat), nc - i < fu → (i ≤ nc) → ∀ (H : Heap) (locs : List Loc), cy_W D A s.heap (cy_Y kI kJ kC ad S Z tl) H locs → ∀ (ls : Array Slot), lv_has ls 3 [(1, .int (cy_sq S i)), (2, .int (nI i)), (0, .ref (ad 0))] → W p l e rm_X2_soundCasks s m args below meth co H locs 0 0 Q (F0 m 4 ls []) := by
    intro fu
    induction fu with
    | zero => intro i hn; exact absurd hn (Nat.not_lt_zero _)
    | succ fu ih_4 =>
      intro i hn_4 hi H locs hW ls hl
      refine lv_iload_n hx hb dX2_soundCasks_4 rfl (lv_at hl 1 rfl) ?_
      refine lv_aload_n hx hb dX2_soundCasks_5 rfl (lv_at hl 2 rfl) ?_
      refine cy_get hC (0) (by decide) hi2 hW (rfl) rfl 9 (by decide) (hts (.fieldLink RX2 114 "CaskYard" "caskCount" "I") (by decide +kernel)) (fun _ h9 => h9) (v := .int (S 0 9)) rfl dX2_soundCasks_6 ?_
      refine cy_top (y := nI nc) hnc ?_
      refine lv_icmp_ge (tgt := 33) hx hb dX2_soundCasks_9 (by decide) (fun c_9 => ?_) (fun c_9 => ?_)
      · skip
        have q_9 := cy_le (a := nc) (b := i) (by omega) (by omega) c_9
        obtain rfl : nc = i := by omega
        refine lv_iload_n hx hb dX2_soundCasks_33 rfl (lv_at hl 0 rfl) ?_
        exact hE _ _ _ _ _ _ (Nat.le_of_ble_eq_true rfl) (Nat.le_of_ble_eq_true rfl) hW dX2_soundCasks_34
      · skip
        have q_9 := cy_nle (a := nc) (b := i) (by omega) (by omega) c_9
        refine lv_aload_n hx hb dX2_soundCasks_12 rfl (lv_at hl 2 rfl) ?_
        refine cy_get hC (0) (by decide) hi2 hW (rfl) rfl 8 (by decide) (hts (.fieldLink RX2 30 "CaskYard" "casks" "[LCaskYard$Cask;") (by decide +kernel)) (fun _ h9 => h9) (v := .ref (ad 7)) rfl dX2_soundCasks_13 ?_
        refine lv_iload_n hx hb dX2_soundCasks_16 rfl (lv_at hl 1 rfl) ?_
        refine cy_aald hC (7) (by decide) hW 3 (i := i) (a := ad (3 * i + 11)) (rfl) rfl (by omega) (by decide) rfl dX2_soundCasks_17 ?_
        refine cy_get hC (3 * i + 11) (by omega) hi1 hW (cy_eY_o) rfl 2 (by decide) (hts (.fieldLink RX2 127 "CaskYard$Cask" "sound" "Z") (by decide +kernel)) (fun _ h9 => h9) (v := .int (S (3 * i + 11) 2)) rfl dX2_soundCasks_18 ?_
        refine lv_if_eq (tgt := 27) hx hb dX2_soundCasks_21 (by decide) (fun c_21 => ?_) (fun c_21 => ?_)
        · skip
          refine lv_iinc (v := nI (i + 1)) (lv' := [(2, .int (nI (i + 1))), (1, .int (cy_sq S i)), (0, .ref (ad 0))]) hx hb dX2_soundCasks_27 hl (k := 1) rfl (nI_1 i) (by decide) rfl (fun ls hl => ?_)
          refine lv_goto (tgt := 4) hx hb dX2_soundCasks_30 (by decide) ?_
          rw [show cy_sq S i = cy_sq S (i + 1) from by simp only [cy_sq, c_9, c_21, ↓reduceIte, not_true_eq_false, not_false_eq_true]] at hl
          exact ih_4 (i + 1) (by omega) (by omega) _ _ hW _ (lv_sub hl [1, 0, 2] rfl)
        · skip
          refine lv_iinc (v := (cy_sq S i) + 1) (lv' := [(1, .int ((cy_sq S i) + 1)), (2, .int (nI i)), (0, .ref (ad 0))]) hx hb dX2_soundCasks_24 hl (k := 0) rfl rfl (by decide) rfl (fun ls hl => ?_)
          refine lv_iinc (v := nI (i + 1)) (lv' := [(2, .int (nI (i + 1))), (1, .int ((cy_sq S i) + 1)), (0, .ref (ad 0))]) hx hb dX2_soundCasks_27 hl (k := 1) rfl (nI_1 i) (by decide) rfl (fun ls hl => ?_)
          refine lv_goto (tgt := 4) hx hb dX2_soundCasks_30 (by decide) ?_
          rw [show (cy_sq S i) + 1 = cy_sq S (i + 1) from by simp only [cy_sq, c_9, c_21, ↓reduceIte, not_true_eq_false, not_false_eq_true]] at hl
          exact ih_4 (i + 1) (by omega) (by omega) _ _ hW _ (lv_sub hl [1, 0, 2] rfl)
  exact L_4 ((nc - 0) + 1) 0 (Nat.lt_succ_self _) (by omega) _ _ hW _ (lv_sub hl [1, 0, 2] rfl)
abbrev rm_X2_heldByAll : Room := { frames := 1, cells := 0, slots := 0, locals := 22 }
set_option maxHeartbeats 4000000 in
set_option maxRecDepth 100000 in
theorem c_X2_heldByAll {l : Launch} {D : va_G} {kI kJ kZ kC : ClassId} {ad : Nat → Nat} {S : Nat → Nat → Int32} {tl : va_W} {Z : Nat → Int64} {nc : Nat} (hnc : S 0 9 = nI nc) (h12 : nc ≤ 12) : cy_M l yX2_heldByAll wsX2_heldByAll rm_X2_heldByAll D (cy_tys kI kJ kZ kC) [.ref (ad 0)] (cy_Y kI kJ kC ad S Z tl) (some (.int (cy_ha S nc))) (cy_Y kI kJ kC ad S Z tl) := by
  refine cy_of (own := RX2) (cc := cX2_heldByAll) (maxL := 3) (ret := (some .int)) (i := .ireturn) (by decide) rfl rfl (Nat.le_of_ble_eq_true rfl) (cy_endI rfl) ?_
  intro p e s m args below meth co Q A ls hC hE hW hl
  have hx := hC.1.1; have hb := hC.1.2.1; have hml := hC.1.2.2.1; have hown := hC.1.2.2.2.1; have hts := hC.1.2.2.2.2
  have hl : lv_has ls 3 [(0, .ref (ad 0))] := hl
  have hi2 : ∀ w ∈ u_ws RX2 TX2 17, w ∈ wsX2_heldByAll := by decide +kernel
  refine lv_iconst (v := 0) hx hb dX2_heldByAll_0 (by decide) ?_
  refine lv_istore_n (lv' := [(1, .int 0), (0, .ref (ad 0))]) hx hb dX2_heldByAll_1 rfl hl (by decide) rfl (fun ls hl => ?_)
  refine lv_iconst (v := 0) hx hb dX2_heldByAll_2 (by decide) ?_
  refine lv_istore_n (lv' := [(2, .int 0), (1, .int 0), (0, .ref (ad 0))]) hx hb dX2_heldByAll_3 rfl hl (by decide) rfl (fun ls hl => ?_)
  have L_4 : ∀ (fu : Nat) (i : Nat), nc - i < fu → (i ≤ nc) → ∀ (H : Heap) (locs : List Loc), cy_W D A s.heap (cy_Y kI kJ kC ad S Z tl) H locs → ∀ (ls : Array Slot), lv_has ls 3 [(1, .int (cy_ha S i)), (2, .int (nI i)), (0, .ref (ad 0))] → W p l e rm_X2_heldByAll s m args below meth co H locs 0 0 Q (F0 m 4 ls []) := by
    intro fu
    induction fu with
    | zero => intro i hn; exact absurd hn (Nat.not_lt_zero _)
    | succ fu ih_4 =>
      intro i hn_4 hi H locs hW ls hl
      refine lv_iload_n hx hb dX2_heldByAll_4 rfl (lv_at hl 1 rfl) ?_
      refine lv_aload_n hx hb dX2_heldByAll_5 rfl (lv_at hl 2 rfl) ?_
      refine cy_get hC (0) (by decide) hi2 hW (rfl) rfl 9 (by decide) (hts (.fieldLink RX2 114 "CaskYard" "caskCount" "I") (by decide +kernel)) (fun _ h9 => h9) (v := .int (S 0 9)) rfl dX2_heldByAll_6 ?_
      refine cy_top (y := nI nc) hnc ?_
      refine lv_icmp_ge (tgt := 30) hx hb dX2_heldByAll_9 (by decide) (fun c_9 => ?_) (fun c_9 => ?_)
      · skip
        have q_9 := cy_le (a := nc) (b := i) (by omega) (by omega) c_9
        obtain rfl : nc = i := by omega
        refine lv_iload_n hx hb dX2_heldByAll_30 rfl (lv_at hl 0 rfl) ?_
        exact hE _ _ _ _ _ _ (Nat.le_of_ble_eq_true rfl) (Nat.le_of_ble_eq_true rfl) hW dX2_heldByAll_31
      · skip
        have q_9 := cy_nle (a := nc) (b := i) (by omega) (by omega) c_9
        refine lv_iload_n hx hb dX2_heldByAll_12 rfl (lv_at hl 0 rfl) ?_
        refine lv_aload_n hx hb dX2_heldByAll_13 rfl (lv_at hl 2 rfl) ?_
        refine cy_get hC (0) (by decide) hi2 hW (rfl) rfl 8 (by decide) (hts (.fieldLink RX2 30 "CaskYard" "casks" "[LCaskYard$Cask;") (by decide +kernel)) (fun _ h9 => h9) (v := .ref (ad 7)) rfl dX2_heldByAll_14 ?_
        refine lv_iload_n hx hb dX2_heldByAll_17 rfl (lv_at hl 1 rfl) ?_
        refine cy_aald hC (7) (by decide) hW 3 (i := i) (a := ad (3 * i + 11)) (rfl) rfl (by omega) (by decide) rfl dX2_heldByAll_18 ?_
        refine cy_callV (As := []) (rest := [.int (cy_ha S i)]) (q0 := 3 * i + 11) (ci := 1) hC.1 hC.2.1 hC.2.2 hW (c_X1_held (c := i) (by omega)) (cwV 0 hts gX2_heldByAll_X1_held rfl rfl rfl (by decide +kernel) ⟨Nat.le_of_ble_eq_true rfl, Nat.le_of_ble_eq_true rfl⟩) (cy_w_at (by omega) (cy_eY_o)) rfl rfl hl.1 rfl (Nat.le_of_ble_eq_true rfl) dX2_heldByAll_19 ⟨Nat.le_of_ble_eq_true rfl, Nat.le_of_ble_eq_true rfl⟩ (k' := 0) (n' := 0) rfl rfl (fun H locs hW => ?_)
        refine lv_iadd hx hb dX2_heldByAll_22 ?_
        refine lv_istore_n (lv' := [(1, .int ((cy_ha S i) + (cy_sm (S (3 * i + 13)) 5))), (2, .int (nI i)), (0, .ref (ad 0))]) hx hb dX2_heldByAll_23 rfl hl (by decide) rfl (fun ls hl => ?_)
        refine lv_iinc (v := nI (i + 1)) (lv' := [(2, .int (nI (i + 1))), (1, .int ((cy_ha S i) + (cy_sm (S (3 * i + 13)) 5))), (0, .ref (ad 0))]) hx hb dX2_heldByAll_24 hl (k := 1) rfl (nI_1 i) (by decide) rfl (fun ls hl => ?_)
        refine lv_goto (tgt := 4) hx hb dX2_heldByAll_27 (by decide) ?_
        exact ih_4 (i + 1) (by omega) (by omega) _ _ hW _ (lv_sub hl [1, 0, 2] rfl)
  exact L_4 ((nc - 0) + 1) 0 (Nat.lt_succ_self _) (by omega) _ _ hW _ (lv_sub hl [1, 0, 2] rfl)
abbrev rm_X2_vinegarOfAll : Room := { frames := 0, cells := 0, slots := 0, locals := 0 }
set_option maxHeartbeats 4000000 in
set_option maxRecDepth 100000 in
theorem c_X2_vinegarOfAll {l : Launch} {D : va_G} {kI kJ kZ kC : ClassId} {ad : Nat → Nat} {S : Nat → Nat → Int32} {tl : va_W} {Z : Nat → Int64} {nc : Nat} (hnc : S 0 9 = nI nc) (h12 : nc ≤ 12) : cy_M l yX2_vinegarOfAll wsX2_vinegarOfAll rm_X2_vinegarOfAll D (cy_tys kI kJ kZ kC) [.ref (ad 0)] (cy_Y kI kJ kC ad S Z tl) (some (.int (cy_va S nc))) (cy_Y kI kJ kC ad S Z tl) := by
  refine cy_of (own := RX2) (cc := cX2_vinegarOfAll) (maxL := 3) (ret := (some .int)) (i := .ireturn) (by decide) rfl rfl (Nat.le_of_ble_eq_true rfl) (cy_endI rfl) ?_
  intro p e s m args below meth co Q A ls hC hE hW hl
  have hx := hC.1.1; have hb := hC.1.2.1; have hml := hC.1.2.2.1; have hown := hC.1.2.2.2.1; have hts := hC.1.2.2.2.2
  have hl : lv_has ls 3 [(0, .ref (ad 0))] := hl
  have hi1 : ∀ w ∈ u_ws RX1 TX1 11, w ∈ wsX2_vinegarOfAll := by decide +kernel
  have hi2 : ∀ w ∈ u_ws RX2 TX2 17, w ∈ wsX2_vinegarOfAll := by decide +kernel
  refine lv_iconst (v := 0) hx hb dX2_vinegarOfAll_0 (by decide) ?_
  refine lv_istore_n (lv' := [(1, .int 0), (0, .ref (ad 0))]) hx hb dX2_vinegarOfAll_1 rfl hl (by decide) rfl (fun ls hl => ?_)
  refine lv_iconst (v := 0) hx hb dX2_vinegarOfAll_2 (by decide) ?_
  refine lv_istore_n (lv' := [(2, .int 0), (1, .int 0), (0, .ref (ad 0))]) hx hb dX2_vinegarOfAll_3 rfl hl (by decide) rfl (fun ls hl => ?_)
  have L_4 : ∀ (fu : Nat) (i : Nat), nc - i < fu → (i ≤ nc) → ∀ (H : Heap) (locs : List Loc), cy_W D A s.heap (cy_Y kI kJ kC ad S Z tl) H locs → ∀ (ls : Array Slot), lv_has ls 3 [(1, .int (cy_va S i)), (2, .int (nI i)), (0, .ref (ad 0))] → W p l e rm_X2_vinegarOfAll s m args below meth co H locs 0 0 Q (F0 m 4 ls []) := by
    intro fu
    induction fu with
    | zero => intro i hn; exact absurd hn (Nat.not_lt_zero _)
    | succ fu ih_4 =>
      intro i hn_4 hi H locs hW ls hl
      refine lv_iload_n hx hb dX2_vinegarOfAll_4 rfl (lv_at hl 1 rfl) ?_
      refine lv_aload_n hx hb dX2_vinegarOfAll_5 rfl (lv_at hl 2 rfl) ?_
      refine cy_get hC (0) (by decide) hi2 hW (rfl) rfl 9 (by decide) (hts (.fieldLink RX2 114 "CaskYard" "caskCount" "I") (by decide +kernel)) (fun _ h9 => h9) (v := .int (S 0 9)) rfl dX2_vinegarOfAll_6 ?_
      refine cy_top (y := nI nc) hnc ?_
      refine lv_icmp_ge (tgt := 32) hx hb dX2_vinegarOfAll_9 (by decide) (fun c_9 => ?_) (fun c_9 => ?_)
      · skip
        have q_9 := cy_le (a := nc) (b := i) (by omega) (by omega) c_9
        obtain rfl : nc = i := by omega
        refine lv_iload_n hx hb dX2_vinegarOfAll_32 rfl (lv_at hl 0 rfl) ?_
        exact hE _ _ _ _ _ _ (Nat.le_of_ble_eq_true rfl) (Nat.le_of_ble_eq_true rfl) hW dX2_vinegarOfAll_33
      · skip
        have q_9 := cy_nle (a := nc) (b := i) (by omega) (by omega) c_9
        refine lv_iload_n hx hb dX2_vinegarOfAll_12 rfl (lv_at hl 0 rfl) ?_
        refine lv_aload_n hx hb dX2_vinegarOfAll_13 rfl (lv_at hl 2 rfl) ?_
        refine cy_get hC (0) (by decide) hi2 hW (rfl) rfl 8 (by decide) (hts (.fieldLink RX2 30 "CaskYard" "casks" "[LCaskYard$Cask;") (by decide +kernel)) (fun _ h9 => h9) (v := .ref (ad 7)) rfl dX2_vinegarOfAll_14 ?_
        refine lv_iload_n hx hb dX2_vinegarOfAll_17 rfl (lv_at hl 1 rfl) ?_
        refine cy_aald hC (7) (by decide) hW 3 (i := i) (a := ad (3 * i + 11)) (rfl) rfl (by omega) (by decide) rfl dX2_vinegarOfAll_18 ?_
        refine cy_get hC (3 * i + 11) (by omega) hi1 hW (cy_eY_o) rfl 10 (by decide) (hts (.fieldLink RX2 206 "CaskYard$Cask" "amounts" "[I") (by decide +kernel)) (fun _ h9 => h9) (v := .ref (ad (3 * i + 13))) rfl dX2_vinegarOfAll_19 ?_
        refine lv_iconst (v := 4) hx hb dX2_vinegarOfAll_22 (by decide) ?_
        refine cy_iald hC (3 * i + 13) (by omega) hW 0 (i := 4) (cy_eY_a) rfl (by omega) (by decide) dX2_vinegarOfAll_23 ?_
        refine lv_iadd hx hb dX2_vinegarOfAll_24 ?_
        refine lv_istore_n (lv' := [(1, .int ((cy_va S i) + (S (3 * i + 13) 4))), (2, .int (nI i)), (0, .ref (ad 0))]) hx hb dX2_vinegarOfAll_25 rfl hl (by decide) rfl (fun ls hl => ?_)
        refine lv_iinc (v := nI (i + 1)) (lv' := [(2, .int (nI (i + 1))), (1, .int ((cy_va S i) + (S (3 * i + 13) 4))), (0, .ref (ad 0))]) hx hb dX2_vinegarOfAll_26 hl (k := 1) rfl (nI_1 i) (by decide) rfl (fun ls hl => ?_)
        refine lv_goto (tgt := 4) hx hb dX2_vinegarOfAll_29 (by decide) ?_
        exact ih_4 (i + 1) (by omega) (by omega) _ _ hW _ (lv_sub hl [1, 0, 2] rfl)
  exact L_4 ((nc - 0) + 1) 0 (Nat.lt_succ_self _) (by omega) _ _ hW _ (lv_sub hl [1, 0, 2] rfl)
abbrev rm_X2_hoopsLoosenIn : Room := { frames := 0, cells := 0, slots := 0, locals := 0 }
set_option maxHeartbeats 4000000 in
set_option maxRecDepth 100000 in
theorem c_X2_hoopsLoosenIn {l : Launch} {D : va_G} {kI kJ kZ kC : ClassId} {ad : Nat → Nat} {S : Nat → Nat → Int32} {tl : va_W} {Z : Nat → Int64} {x : Int32} : cy_M l yX2_hoopsLoosenIn wsX2_hoopsLoosenIn rm_X2_hoopsLoosenIn D (cy_tys kI kJ kZ kC) [.int x] (cy_Y kI kJ kC ad S Z tl) (some (.int (cy_hl x))) (cy_Y kI kJ kC ad S Z tl) := by
  refine cy_of (own := RX2) (cc := cX2_hoopsLoosenIn) (maxL := 1) (ret := (some .boolean)) (i := .ireturn) (by decide) rfl rfl (Nat.le_of_ble_eq_true rfl) (cy_endI cy_hl_b) ?_
  intro p e s m args below meth co Q A ls hC hE hW hl
  have hx := hC.1.1; have hb := hC.1.2.1; have hml := hC.1.2.2.1; have hown := hC.1.2.2.2.1; have hts := hC.1.2.2.2.2
  have hl : lv_has ls 1 [(0, .int x)] := hl
  refine lv_iload_n hx hb dX2_hoopsLoosenIn_0 rfl (lv_at hl 0 rfl) ?_
  refine lv_iconst (v := 1) hx hb dX2_hoopsLoosenIn_1 (by decide) ?_
  refine lv_iadd hx hb dX2_hoopsLoosenIn_2 ?_
  refine lv_bipush (v := 12) hx hb dX2_hoopsLoosenIn_3 (by decide) ?_
  refine lv_irem hx hb dX2_hoopsLoosenIn_5 (by decide) ?_
  refine lv_if_ne (tgt := 13) hx hb dX2_hoopsLoosenIn_6 (by decide) (fun c_6 => ?_) (fun c_6 => ?_)
  · skip
    refine lv_iconst (v := 0) hx hb dX2_hoopsLoosenIn_13 (by decide) ?_
    refine cy_topv (congrArg Value.int (show 0 = cy_hl x from by simp only [cy_hl, c_6, ↓reduceIte, not_true_eq_false, not_false_eq_true])) ?_
    exact hE _ _ _ _ _ _ (Nat.le_of_ble_eq_true rfl) (Nat.le_of_ble_eq_true rfl) hW dX2_hoopsLoosenIn_14
  · skip
    refine lv_iconst (v := 1) hx hb dX2_hoopsLoosenIn_9 (by decide) ?_
    refine lv_goto (tgt := 14) hx hb dX2_hoopsLoosenIn_10 (by decide) ?_
    refine cy_topv (congrArg Value.int (show 1 = cy_hl x from by simp only [cy_hl, c_6, ↓reduceIte, not_true_eq_false, not_false_eq_true])) ?_
    exact hE _ _ _ _ _ _ (Nat.le_of_ble_eq_true rfl) (Nat.le_of_ble_eq_true rfl) hW dX2_hoopsLoosenIn_14
abbrev rm_X2_liveMonth : Room := { frames := 3, cells := 0, slots := 0, locals := 67 }
set_option maxHeartbeats 4000000 in
set_option maxRecDepth 100000 in
theorem c_X2_liveMonth {l : Launch} {D : va_G} {kI kJ kZ kC : ClassId} {ad : Nat → Nat} {S : Nat → Nat → Int32} {tl : va_W} {Z : Nat → Int64} {ns : Nat} (hns : S 0 3 = nI ns) (h60 : ns ≤ 60) {nc : Nat} (hnc : S 0 9 = nI nc) (h12 : nc ≤ 12) : cy_M l yX2_liveMonth wsX2_liveMonth rm_X2_liveMonth D (cy_tys kI kJ kZ kC) [.ref (ad 0)] (cy_Y kI kJ kC ad S Z tl) (some (.int ((cy_mS S ns nc).2))) (cy_Y kI kJ kC ad (cy_sMo S ns nc) Z tl) := by
  refine cy_of (own := RX2) (cc := cX2_liveMonth) (maxL := 3) (ret := (some .int)) (i := .ireturn) (by decide) rfl rfl (Nat.le_of_ble_eq_true rfl) (cy_endI rfl) ?_
  intro p e s m args below meth co Q A ls hC hE hW hl
  have hx := hC.1.1; have hb := hC.1.2.1; have hml := hC.1.2.2.1; have hown := hC.1.2.2.2.1; have hts := hC.1.2.2.2.2
  have hl : lv_has ls 3 [(0, .ref (ad 0))] := hl
  have hi2 : ∀ w ∈ u_ws RX2 TX2 17, w ∈ wsX2_liveMonth := by decide +kernel
  refine lv_iconst (v := 0) hx hb dX2_liveMonth_0 (by decide) ?_
  refine lv_istore_n (lv' := [(1, .int 0), (0, .ref (ad 0))]) hx hb dX2_liveMonth_1 rfl hl (by decide) rfl (fun ls hl => ?_)
  have L_2 : ∀ (fu : Nat) (i : Nat), ns - i < fu → (i ≤ ns) → ∀ (H : Heap) (locs : List Loc), cy_W D A s.heap (cy_Y kI kJ kC ad (cy_se S i) Z tl) H locs → ∀ (ls : Array Slot), lv_has ls 3 [(1, .int (nI i)), (0, .ref (ad 0))] → W p l e rm_X2_liveMonth s m args below meth co H locs 0 0 Q (F0 m 2 ls []) := by
    intro fu
    induction fu with
    | zero => intro i hn; exact absurd hn (Nat.not_lt_zero _)
    | succ fu ih_2 =>
      intro i hn_2 hi H locs hW ls hl
      refine lv_iload_n hx hb dX2_liveMonth_2 rfl (lv_at hl 0 rfl) ?_
      refine lv_aload_n hx hb dX2_liveMonth_3 rfl (lv_at hl 1 rfl) ?_
      refine cy_get hC (0) (by decide) hi2 hW (rfl) rfl 3 (by decide) (hts (.fieldLink RX2 66 "CaskYard" "staveCount" "I") (by decide +kernel)) (fun _ h9 => h9) (v := .int (((cy_se S i) 0) 3)) rfl dX2_liveMonth_4 ?_
      refine cy_top (y := nI ns) (by rw [cy_se_n (by decide)]; exact hns) ?_
      refine lv_icmp_ge (tgt := 45) hx hb dX2_liveMonth_7 (by decide) (fun c_7 => ?_) (fun c_7 => ?_)
      · skip
        have q_7 := cy_le (a := ns) (b := i) (by omega) (by omega) c_7
        obtain rfl : ns = i := by omega
        refine lv_iconst (v := 0) hx hb dX2_liveMonth_45 (by decide) ?_
        refine lv_istore_n (lv' := [(1, .int 0), (0, .ref (ad 0))]) hx hb dX2_liveMonth_46 rfl hl (by decide) rfl (fun ls hl => ?_)
        refine lv_iconst (v := 0) hx hb dX2_liveMonth_47 (by decide) ?_
        refine lv_istore_n (lv' := [(2, .int 0), (1, .int 0), (0, .ref (ad 0))]) hx hb dX2_liveMonth_48 rfl hl (by decide) rfl (fun ls hl => ?_)
        have L_49 : ∀ (fu : Nat) (i : Nat), nc - i < fu → (i ≤ nc) → ∀ (H : Heap) (locs : List Loc), cy_W D A s.heap (cy_Y kI kJ kC ad (cy_lm (cy_se S ns) (S 0 16) (cy_hl (S 0 14)) i).1 Z tl) H locs → ∀ (ls : Array Slot), lv_has ls 3 [(1, .int ((cy_lm (cy_se S ns) (S 0 16) (cy_hl (S 0 14)) i).2)), (2, .int (nI i)), (0, .ref (ad 0))] → W p l e rm_X2_liveMonth s m args below meth co H locs 0 0 Q (F0 m 49 ls []) := by
          intro fu
          induction fu with
          | zero => intro i hn; exact absurd hn (Nat.not_lt_zero _)
          | succ fu ih_49 =>
            intro i hn_49 hi H locs hW ls hl
            refine lv_iload_n hx hb dX2_liveMonth_49 rfl (lv_at hl 1 rfl) ?_
            refine lv_aload_n hx hb dX2_liveMonth_50 rfl (lv_at hl 2 rfl) ?_
            refine cy_get hC (0) (by decide) hi2 hW (rfl) rfl 9 (by decide) (hts (.fieldLink RX2 114 "CaskYard" "caskCount" "I") (by decide +kernel)) (fun _ h9 => h9) (v := .int (((cy_lm (cy_se S ns) (S 0 16) (cy_hl (S 0 14)) i).1 0) 9)) rfl dX2_liveMonth_51 ?_
            refine cy_top (y := nI nc) (by rw [cy_lm_n (by decide), cy_se_n (by decide)]; exact hnc) ?_
            refine lv_icmp_ge (tgt := 86) hx hb dX2_liveMonth_54 (by decide) (fun c_54 => ?_) (fun c_54 => ?_)
            · skip
              have q_54 := cy_le (a := nc) (b := i) (by omega) (by omega) c_54
              obtain rfl : nc = i := by omega
              refine lv_aload_n hx hb dX2_liveMonth_86 rfl (lv_at hl 2 rfl) ?_
              refine lv_dup hx hb dX2_liveMonth_87 rfl ?_
              refine cy_get hC (0) (by decide) hi2 hW (rfl) rfl 14 (by decide) (hts (.fieldLink RX2 225 "CaskYard" "month" "I") (by decide +kernel)) (fun _ h9 => h9) (v := .int (((cy_lm (cy_se S ns) (S 0 16) (cy_hl (S 0 14)) nc).1 0) 14)) rfl dX2_liveMonth_88 ?_
              refine cy_top (y := S 0 14) (by rw [cy_lm_n (by decide), cy_se_n (by decide)]) ?_
              refine lv_iconst (v := 1) hx hb dX2_liveMonth_91 (by decide) ?_
              refine lv_iadd hx hb dX2_liveMonth_92 ?_
              refine cy_put hC (0) (by decide) hi2 tyX2 tyX2_ok nmX2 hW (rfl) rfl 14 (by decide) (hts (.fieldLink RX2 225 "CaskYard" "month" "I") (by decide +kernel)) (fun _ h9 => h9) rfl (ty := .int) (by decide +kernel) rfl rfl (Nat.le_of_ble_eq_true rfl) (upd ((cy_lm (cy_se S ns) (S 0 16) (cy_hl (S 0 14)) nc).1 0) 14 ((S 0 14) + 1)) cy_hY14 (S' := (va_up (cy_lm (cy_se S ns) (S 0 16) (cy_hl (S 0 14)) nc).1 0 (upd ((cy_lm (cy_se S ns) (S 0 16) (cy_hl (S 0 14)) nc).1 0) 14 ((S 0 14) + 1)))) rfl dX2_liveMonth_93 (fun H locs hW => ?_)
              refine lv_iload_n hx hb dX2_liveMonth_96 rfl (lv_at hl 0 rfl) ?_
              have hW := cy_castS (show _ = cy_sMo S ns nc from by unfold cy_sMo cy_mS; rw [show (cy_lm (cy_se S ns) (S 0 16) (cy_hl (S 0 14)) nc).1 0 = S 0 from by rw [cy_lm_n (by decide), cy_se_n (by decide)]]) hW
              exact hE _ _ _ _ _ _ (Nat.le_of_ble_eq_true rfl) (Nat.le_of_ble_eq_true rfl) hW dX2_liveMonth_97
            · skip
              have q_54 := cy_nle (a := nc) (b := i) (by omega) (by omega) c_54
              refine lv_iload_n hx hb dX2_liveMonth_57 rfl (lv_at hl 0 rfl) ?_
              refine lv_aload_n hx hb dX2_liveMonth_58 rfl (lv_at hl 2 rfl) ?_
              refine cy_get hC (0) (by decide) hi2 hW (rfl) rfl 8 (by decide) (hts (.fieldLink RX2 30 "CaskYard" "casks" "[LCaskYard$Cask;") (by decide +kernel)) (fun _ h9 => h9) (v := .ref (ad 7)) rfl dX2_liveMonth_59 ?_
              refine lv_iload_n hx hb dX2_liveMonth_62 rfl (lv_at hl 1 rfl) ?_
              refine cy_aald hC (7) (by decide) hW 3 (i := i) (a := ad (3 * i + 11)) (rfl) rfl (by omega) (by decide) rfl dX2_liveMonth_63 ?_
              refine lv_aload_n hx hb dX2_liveMonth_64 rfl (lv_at hl 2 rfl) ?_
              refine cy_get hC (0) (by decide) hi2 hW (rfl) rfl 16 (by decide) (hts (.fieldLink RX2 53 "CaskYard" "warmthNow" "I") (by decide +kernel)) (fun _ h9 => h9) (v := .int (((cy_lm (cy_se S ns) (S 0 16) (cy_hl (S 0 14)) i).1 0) 16)) rfl dX2_liveMonth_65 ?_
              refine cy_top (y := S 0 16) (by rw [cy_lm_n (by decide), cy_se_n (by decide)]) ?_
              refine lv_aload_n hx hb dX2_liveMonth_68 rfl (lv_at hl 2 rfl) ?_
              refine cy_get hC (0) (by decide) hi2 hW (rfl) rfl 14 (by decide) (hts (.fieldLink RX2 225 "CaskYard" "month" "I") (by decide +kernel)) (fun _ h9 => h9) (v := .int (((cy_lm (cy_se S ns) (S 0 16) (cy_hl (S 0 14)) i).1 0) 14)) rfl dX2_liveMonth_69 ?_
              refine cy_top (y := S 0 14) (by rw [cy_lm_n (by decide), cy_se_n (by decide)]) ?_
              refine cy_callS (As := [.int (S 0 14)]) (rest := [.int (S 0 16), .ref (ad (3 * i + 11)), .int ((cy_lm (cy_se S ns) (S 0 16) (cy_hl (S 0 14)) i).2)]) hC.1 hC.2.1 hC.2.2 hW (c_X2_hoopsLoosenIn (x := (S 0 14))) (va_cwS 1 hts gX2_liveMonth_X2_hoopsLoosenIn rfl rfl rfl (by decide +kernel) ⟨Nat.le_of_ble_eq_true rfl, Nat.le_of_ble_eq_true rfl⟩) rfl hl.1 rfl (Nat.le_of_ble_eq_true rfl) dX2_liveMonth_72 ⟨Nat.le_of_ble_eq_true rfl, Nat.le_of_ble_eq_true rfl⟩ (k' := 0) (n' := 0) rfl rfl (fun H locs hW => ?_)
              refine cy_callV (As := [.int (S 0 16), .int (cy_hl (S 0 14))]) (rest := [.int ((cy_lm (cy_se S ns) (S 0 16) (cy_hl (S 0 14)) i).2)]) (q0 := 3 * i + 11) (ci := 1) hC.1 hC.2.1 hC.2.2 hW (c_X1_live (c := i) (x := (S 0 16)) (b := (cy_hl (S 0 14))) (by omega)) (cwV 2 hts gX2_liveMonth_X1_live rfl rfl rfl (by decide +kernel) ⟨Nat.le_of_ble_eq_true rfl, Nat.le_of_ble_eq_true rfl⟩) (cy_w_at (by omega) (cy_eY_o)) rfl rfl hl.1 rfl (Nat.le_of_ble_eq_true rfl) dX2_liveMonth_75 ⟨Nat.le_of_ble_eq_true rfl, Nat.le_of_ble_eq_true rfl⟩ (k' := 0) (n' := 0) rfl rfl (fun H locs hW => ?_)
              refine lv_iadd hx hb dX2_liveMonth_78 ?_
              refine lv_istore_n (lv' := [(1, .int (((cy_lm (cy_se S ns) (S 0 16) (cy_hl (S 0 14)) i).2) + (cy_rLv ((cy_lm (cy_se S ns) (S 0 16) (cy_hl (S 0 14)) i).1) i (S 0 16)))), (2, .int (nI i)), (0, .ref (ad 0))]) hx hb dX2_liveMonth_79 rfl hl (by decide) rfl (fun ls hl => ?_)
              refine lv_iinc (v := nI (i + 1)) (lv' := [(2, .int (nI (i + 1))), (1, .int (((cy_lm (cy_se S ns) (S 0 16) (cy_hl (S 0 14)) i).2) + (cy_rLv ((cy_lm (cy_se S ns) (S 0 16) (cy_hl (S 0 14)) i).1) i (S 0 16)))), (0, .ref (ad 0))]) hx hb dX2_liveMonth_80 hl (k := 1) rfl (nI_1 i) (by decide) rfl (fun ls hl => ?_)
              refine lv_goto (tgt := 49) hx hb dX2_liveMonth_83 (by decide) ?_
              exact ih_49 (i + 1) (by omega) (by omega) _ _ hW _ (lv_sub hl [1, 0, 2] rfl)
        exact L_49 ((nc - 0) + 1) 0 (Nat.lt_succ_self _) (by omega) _ _ hW _ (lv_sub hl [1, 0, 2] rfl)
      · skip
        have q_7 := cy_nle (a := ns) (b := i) (by omega) (by omega) c_7
        refine lv_aload_n hx hb dX2_liveMonth_10 rfl (lv_at hl 1 rfl) ?_
        refine cy_get hC (0) (by decide) hi2 hW (rfl) rfl 2 (by decide) (hts (.fieldLink RX2 16 "CaskYard" "places" "[I") (by decide +kernel)) (fun _ h9 => h9) (v := .ref (ad 3)) rfl dX2_liveMonth_11 ?_
        refine lv_iload_n hx hb dX2_liveMonth_14 rfl (lv_at hl 0 rfl) ?_
        refine cy_iald hC (3) (by decide) hW 0 (i := i) (rfl) rfl (by omega) (by decide) dX2_liveMonth_15 ?_
        refine lv_iconst (v := (-1)) hx hb dX2_liveMonth_16 (by decide) ?_
        refine lv_icmp_ne (tgt := 39) hx hb dX2_liveMonth_17 (by decide) (fun c_17 => ?_) (fun c_17 => ?_)
        · skip
          refine lv_iinc (v := nI (i + 1)) (lv' := [(1, .int (nI (i + 1))), (0, .ref (ad 0))]) hx hb dX2_liveMonth_39 hl (k := 0) rfl (nI_1 i) (by decide) rfl (fun ls hl => ?_)
          refine lv_goto (tgt := 2) hx hb dX2_liveMonth_42 (by decide) ?_
          have hW := cy_castS (show (cy_se S i) = (cy_se S (i + 1)) from by simp only [cy_se, c_7, c_17, ↓reduceIte, not_true_eq_false, not_false_eq_true]) hW
          exact ih_2 (i + 1) (by omega) (by omega) _ _ hW _ (lv_sub hl [0, 1] rfl)
        · skip
          refine lv_aload_n hx hb dX2_liveMonth_20 rfl (lv_at hl 1 rfl) ?_
          refine cy_get hC (0) (by decide) hi2 hW (rfl) rfl 1 (by decide) (hts (.fieldLink RX2 13 "CaskYard" "drynesses" "[I") (by decide +kernel)) (fun _ h9 => h9) (v := .ref (ad 2)) rfl dX2_liveMonth_21 ?_
          refine lv_iload_n hx hb dX2_liveMonth_24 rfl (lv_at hl 0 rfl) ?_
          refine lv_bipush (v := 100) hx hb dX2_liveMonth_25 (by decide) ?_
          refine lv_aload_n hx hb dX2_liveMonth_27 rfl (lv_at hl 1 rfl) ?_
          refine cy_get hC (0) (by decide) hi2 hW (rfl) rfl 1 (by decide) (hts (.fieldLink RX2 13 "CaskYard" "drynesses" "[I") (by decide +kernel)) (fun _ h9 => h9) (v := .ref (ad 2)) rfl dX2_liveMonth_28 ?_
          refine lv_iload_n hx hb dX2_liveMonth_31 rfl (lv_at hl 0 rfl) ?_
          refine cy_iald hC (2) (by decide) hW 0 (i := i) (rfl) rfl (by omega) (by decide) dX2_liveMonth_32 ?_
          refine lv_iconst (v := 4) hx hb dX2_liveMonth_33 (by decide) ?_
          refine lv_iadd hx hb dX2_liveMonth_34 ?_
          refine va_mmin hx hb (hml.trans hl.1.symm) hown (hts (.methodLink RX2 156 Lib.Math.min.name) (by decide +kernel)) (hts (.static Lib.Math.min.name) (by decide +kernel)) (hts (.initialized "java/lang/Math") (by decide +kernel)) (hts (.code Lib.Math.min.name Lib.Math.min.code 2 (some .int)) (by decide +kernel)) (Nat.le_of_ble_eq_true rfl) (Nat.le_of_ble_eq_true rfl) (Nat.le_of_ble_eq_true rfl) (Nat.le_of_ble_eq_true rfl) dX2_liveMonth_35 ?_
          refine cy_topv (show _ = Value.int (cy_mn 100 ((((cy_se S i) 2) i) + 4)) from rfl) ?_
          refine cy_iast hC (2) (by decide) hW 0 (i := i) (rfl) rfl (by omega) (by decide) (upd ((cy_se S i) 2) i (cy_mn 100 ((((cy_se S i) 2) i) + 4))) rfl (S' := (va_up (cy_se S i) 2 (upd ((cy_se S i) 2) i (cy_mn 100 ((((cy_se S i) 2) i) + 4))))) rfl dX2_liveMonth_38 (fun H locs hW => ?_)
          refine lv_iinc (v := nI (i + 1)) (lv' := [(1, .int (nI (i + 1))), (0, .ref (ad 0))]) hx hb dX2_liveMonth_39 hl (k := 0) rfl (nI_1 i) (by decide) rfl (fun ls hl => ?_)
          refine lv_goto (tgt := 2) hx hb dX2_liveMonth_42 (by decide) ?_
          have hW := cy_castS (show (va_up (cy_se S i) 2 (upd ((cy_se S i) 2) i (cy_mn 100 ((((cy_se S i) 2) i) + 4)))) = (cy_se S (i + 1)) from by simp only [cy_se, c_7, c_17, ↓reduceIte, not_true_eq_false, not_false_eq_true]) hW
          exact ih_2 (i + 1) (by omega) (by omega) _ _ hW _ (lv_sub hl [0, 1] rfl)
  exact L_2 ((ns - 0) + 1) 0 (Nat.lt_succ_self _) (by omega) _ _ hW _ (lv_sub hl [0, 1] rfl)
abbrev rm_X2_offerBlends : Room := { frames := 2, cells := 0, slots := 0, locals := 43 }
set_option maxHeartbeats 4000000 in
set_option maxRecDepth 100000 in
theorem c_X2_offerBlends {l : Launch} {D : va_G} {kI kJ kZ kC : ClassId} {ad : Nat → Nat} {S : Nat → Nat → Int32} {tl : va_W} {Z : Nat → Int64} {a b : Nat} {tg : Int32} (ha : a < 12) (hb12 : b < 12) : cy_M l yX2_offerBlends wsX2_offerBlends rm_X2_offerBlends D (cy_tys kI kJ kZ kC) [.ref (ad 0), .int (nI a), .int (nI b), .int tg] (cy_Y kI kJ kC ad S Z tl) none (cy_Y kI kJ kC ad (cy_ob S a b (cy_rOak S a) (cy_rOak S b) tg 9) Z tl) := by
  refine cy_of (own := RX2) (cc := cX2_offerBlends) (maxL := 8) (ret := none) (i := .return_) (by decide) rfl rfl (Nat.le_of_ble_eq_true rfl) cy_endV ?_
  intro p e s m args below meth co Q A ls hC hE hW hl
  have hx := hC.1.1; have hb := hC.1.2.1; have hml := hC.1.2.2.1; have hown := hC.1.2.2.2.1; have hts := hC.1.2.2.2.2
  have hl : lv_has ls 8 [(0, .ref (ad 0)), (1, .int (nI a)), (2, .int (nI b)), (3, .int tg)] := hl
  have hi2 : ∀ w ∈ u_ws RX2 TX2 17, w ∈ wsX2_offerBlends := by decide +kernel
  refine lv_aload_n hx hb dX2_offerBlends_0 rfl (lv_at hl 0 rfl) ?_
  refine cy_get hC (0) (by decide) hi2 hW (rfl) rfl 8 (by decide) (hts (.fieldLink RX2 30 "CaskYard" "casks" "[LCaskYard$Cask;") (by decide +kernel)) (fun _ h9 => h9) (v := .ref (ad 7)) rfl dX2_offerBlends_1 ?_
  refine lv_iload_n hx hb dX2_offerBlends_4 rfl (lv_at hl 1 rfl) ?_
  refine cy_aald hC (7) (by decide) hW 3 (i := a) (a := ad (3 * a + 11)) (rfl) rfl (by omega) (by decide) rfl dX2_offerBlends_5 ?_
  refine cy_callV (As := []) (rest := []) (q0 := 3 * a + 11) (ci := 1) hC.1 hC.2.1 hC.2.2 hW (c_X1_tasteOfOak (c := a) (by omega)) (cwV 0 hts gX2_offerBlends_X1_tasteOfOak rfl rfl rfl (by decide +kernel) ⟨Nat.le_of_ble_eq_true rfl, Nat.le_of_ble_eq_true rfl⟩) (cy_w_at (by omega) (cy_eY_o)) rfl rfl hl.1 rfl (Nat.le_of_ble_eq_true rfl) dX2_offerBlends_6 ⟨Nat.le_of_ble_eq_true rfl, Nat.le_of_ble_eq_true rfl⟩ (k' := 0) (n' := 0) rfl rfl (fun H locs hW => ?_)
  refine lv_istore (lv' := [(4, .int (cy_rOak S a)), (0, .ref (ad 0)), (1, .int (nI a)), (2, .int (nI b)), (3, .int tg)]) hx hb dX2_offerBlends_9 hl (by decide) rfl (fun ls hl => ?_)
  refine lv_aload_n hx hb dX2_offerBlends_11 rfl (lv_at hl 1 rfl) ?_
  refine cy_get hC (0) (by decide) hi2 hW (rfl) rfl 8 (by decide) (hts (.fieldLink RX2 30 "CaskYard" "casks" "[LCaskYard$Cask;") (by decide +kernel)) (fun _ h9 => h9) (v := .ref (ad 7)) rfl dX2_offerBlends_12 ?_
  refine lv_iload_n hx hb dX2_offerBlends_15 rfl (lv_at hl 3 rfl) ?_
  refine cy_aald hC (7) (by decide) hW 3 (i := b) (a := ad (3 * b + 11)) (rfl) rfl (by omega) (by decide) rfl dX2_offerBlends_16 ?_
  refine cy_callV (As := []) (rest := []) (q0 := 3 * b + 11) (ci := 1) hC.1 hC.2.1 hC.2.2 hW (c_X1_tasteOfOak (c := b) (by omega)) (cwV 0 hts gX2_offerBlends_X1_tasteOfOak rfl rfl rfl (by decide +kernel) ⟨Nat.le_of_ble_eq_true rfl, Nat.le_of_ble_eq_true rfl⟩) (cy_w_at (by omega) (cy_eY_o)) rfl rfl hl.1 rfl (Nat.le_of_ble_eq_true rfl) dX2_offerBlends_17 ⟨Nat.le_of_ble_eq_true rfl, Nat.le_of_ble_eq_true rfl⟩ (k' := 0) (n' := 0) rfl rfl (fun H locs hW => ?_)
  refine lv_istore (lv' := [(5, .int (cy_rOak S b)), (4, .int (cy_rOak S a)), (0, .ref (ad 0)), (1, .int (nI a)), (2, .int (nI b)), (3, .int tg)]) hx hb dX2_offerBlends_20 hl (by decide) rfl (fun ls hl => ?_)
  refine lv_iconst (v := 1) hx hb dX2_offerBlends_22 (by decide) ?_
  refine lv_istore (lv' := [(6, .int 1), (5, .int (cy_rOak S b)), (4, .int (cy_rOak S a)), (0, .ref (ad 0)), (1, .int (nI a)), (2, .int (nI b)), (3, .int tg)]) hx hb dX2_offerBlends_23 hl (by decide) rfl (fun ls hl => ?_)
  have L_25 : ∀ (fu : Nat) (k : Nat), 9 - k < fu → (k ≤ 9) → ∀ (H : Heap) (locs : List Loc), cy_W D A s.heap (cy_Y kI kJ kC ad (cy_ob S a b (cy_rOak S a) (cy_rOak S b) tg k) Z tl) H locs → ∀ (ls : Array Slot), lv_has ls 8 [(4, .int (cy_rOak S a)), (5, .int (cy_rOak S b)), (6, .int (nI (k + 1))), (0, .ref (ad 0)), (1, .int (nI a)), (2, .int (nI b)), (3, .int tg)] → W p l e rm_X2_offerBlends s m args below meth co H locs 0 0 Q (F0 m 25 ls []) := by
    intro fu
    induction fu with
    | zero => intro k hn; exact absurd hn (Nat.not_lt_zero _)
    | succ fu ih_25 =>
      intro k hn_25 hi H locs hW ls hl
      refine lv_iload hx hb dX2_offerBlends_25 (lv_at hl 2 rfl) ?_
      refine lv_bipush (v := 10) hx hb dX2_offerBlends_27 (by decide) ?_
      refine lv_icmp_ge (tgt := 71) hx hb dX2_offerBlends_29 (by decide) (fun c_29 => ?_) (fun c_29 => ?_)
      · skip
        have q_29 := cy_le (a := 10) (b := (k + 1)) (by omega) (by omega) c_29
        obtain rfl : k = 9 := by omega
        exact hE _ _ _ _ _ _ (Nat.le_of_ble_eq_true rfl) (Nat.le_of_ble_eq_true rfl) hW dX2_offerBlends_71
      · skip
        have q_29 := cy_nle (a := 10) (b := (k + 1)) (by omega) (by omega) c_29
        refine lv_iload hx hb dX2_offerBlends_32 (lv_at hl 2 rfl) ?_
        refine lv_iload hx hb dX2_offerBlends_34 (lv_at hl 0 rfl) ?_
        refine lv_imul hx hb dX2_offerBlends_36 ?_
        refine lv_bipush (v := 10) hx hb dX2_offerBlends_37 (by decide) ?_
        refine lv_iload hx hb dX2_offerBlends_39 (lv_at hl 2 rfl) ?_
        refine lv_isub hx hb dX2_offerBlends_41 ?_
        refine lv_iload hx hb dX2_offerBlends_42 (lv_at hl 1 rfl) ?_
        refine lv_imul hx hb dX2_offerBlends_44 ?_
        refine lv_iadd hx hb dX2_offerBlends_45 ?_
        refine lv_bipush (v := 10) hx hb dX2_offerBlends_46 (by decide) ?_
        refine lv_idiv hx hb dX2_offerBlends_48 (by decide) ?_
        refine lv_istore (lv' := [(7, .int ((((nI (k + 1)) * (cy_rOak S a)) + ((10 - (nI (k + 1))) * (cy_rOak S b))) / 10)), (4, .int (cy_rOak S a)), (5, .int (cy_rOak S b)), (6, .int (nI (k + 1))), (0, .ref (ad 0)), (1, .int (nI a)), (2, .int (nI b)), (3, .int tg)]) hx hb dX2_offerBlends_49 hl (by decide) rfl (fun ls hl => ?_)
        refine lv_aload_n hx hb dX2_offerBlends_51 rfl (lv_at hl 4 rfl) ?_
        refine cy_get hC (0) (by decide) hi2 hW (rfl) rfl 13 (by decide) (hts (.fieldLink RX2 49 "CaskYard" "best" "LCaskYard$Blend;") (by decide +kernel)) (fun _ h9 => h9) (v := .ref (ad 10)) rfl dX2_offerBlends_52 ?_
        refine lv_iload_n hx hb dX2_offerBlends_55 rfl (lv_at hl 5 rfl) ?_
        refine lv_iload_n hx hb dX2_offerBlends_56 rfl (lv_at hl 6 rfl) ?_
        refine lv_iload hx hb dX2_offerBlends_57 (lv_at hl 3 rfl) ?_
        refine lv_iload hx hb dX2_offerBlends_59 (lv_at hl 0 rfl) ?_
        refine lv_iload_n hx hb dX2_offerBlends_61 rfl (lv_at hl 7 rfl) ?_
        refine cy_callV (As := [.int (nI a), .int (nI b), .int (nI (k + 1)), .int ((((nI (k + 1)) * (cy_rOak S a)) + ((10 - (nI (k + 1))) * (cy_rOak S b))) / 10), .int tg]) (rest := []) (q0 := 10) (ci := 0) hC.1 hC.2.1 hC.2.2 hW (c_X0_offer (a := (nI a)) (b := (nI b)) (t := (nI (k + 1))) (x := ((((nI (k + 1)) * (cy_rOak S a)) + ((10 - (nI (k + 1))) * (cy_rOak S b))) / 10)) (tg := tg)) (cwV 5 hts gX2_offerBlends_X0_offer rfl rfl rfl (by decide +kernel) ⟨Nat.le_of_ble_eq_true rfl, Nat.le_of_ble_eq_true rfl⟩) (cy_w_at (by decide) (rfl)) rfl rfl hl.1 rfl (Nat.le_of_ble_eq_true rfl) dX2_offerBlends_62 ⟨Nat.le_of_ble_eq_true rfl, Nat.le_of_ble_eq_true rfl⟩ (k' := 0) (n' := 0) rfl rfl (fun H locs hW => ?_)
        refine lv_iinc (v := nI (k + 1 + 1)) (lv' := [(6, .int (nI (k + 1 + 1))), (7, .int ((((nI (k + 1)) * (cy_rOak S a)) + ((10 - (nI (k + 1))) * (cy_rOak S b))) / 10)), (4, .int (cy_rOak S a)), (5, .int (cy_rOak S b)), (0, .ref (ad 0)), (1, .int (nI a)), (2, .int (nI b)), (3, .int tg)]) hx hb dX2_offerBlends_65 hl (k := 3) rfl (nI_1 (k + 1)) (by decide) rfl (fun ls hl => ?_)
        refine lv_goto (tgt := 25) hx hb dX2_offerBlends_68 (by decide) ?_
        exact ih_25 (k + 1) (by omega) (by omega) _ _ hW _ (lv_sub hl [2, 3, 0, 4, 5, 6, 7] rfl)
  exact L_25 ((9 - 0) + 1) 0 (Nat.lt_succ_self _) (by omega) _ _ hW _ (lv_sub hl [2, 1, 0, 3, 4, 5, 6] rfl)
abbrev rm_X2_findBestBlend : Room := { frames := 3, cells := 0, slots := 0, locals := 70 }
set_option maxHeartbeats 4000000 in
set_option maxRecDepth 100000 in
theorem c_X2_findBestBlend {l : Launch} {D : va_G} {kI kJ kZ kC : ClassId} {ad : Nat → Nat} {S : Nat → Nat → Int32} {tl : va_W} {Z : Nat → Int64} {tg : Int32} {nc : Nat} (hnc : S 0 9 = nI nc) (h12 : nc ≤ 12) : cy_M l yX2_findBestBlend wsX2_findBestBlend rm_X2_findBestBlend D (cy_tys kI kJ kZ kC) [.ref (ad 0), .int tg] (cy_Y kI kJ kC ad S Z tl) none (cy_Y kI kJ kC ad (cy_fo S nc tg nc) Z tl) := by
  refine cy_of (own := RX2) (cc := cX2_findBestBlend) (maxL := 4) (ret := none) (i := .return_) (by decide) rfl rfl (Nat.le_of_ble_eq_true rfl) cy_endV ?_
  intro p e s m args below meth co Q A ls hC hE hW hl
  have hx := hC.1.1; have hb := hC.1.2.1; have hml := hC.1.2.2.1; have hown := hC.1.2.2.2.1; have hts := hC.1.2.2.2.2
  have hl : lv_has ls 4 [(0, .ref (ad 0)), (1, .int tg)] := hl
  have hi2 : ∀ w ∈ u_ws RX2 TX2 17, w ∈ wsX2_findBestBlend := by decide +kernel
  refine lv_aload_n hx hb dX2_findBestBlend_0 rfl (lv_at hl 0 rfl) ?_
  refine cy_get hC (0) (by decide) hi2 hW (rfl) rfl 13 (by decide) (hts (.fieldLink RX2 49 "CaskYard" "best" "LCaskYard$Blend;") (by decide +kernel)) (fun _ h9 => h9) (v := .ref (ad 10)) rfl dX2_findBestBlend_1 ?_
  refine cy_callV (As := []) (rest := []) (q0 := 10) (ci := 0) hC.1 hC.2.1 hC.2.2 hW (c_X0_clear) (cwV 0 hts gX2_findBestBlend_X0_clear rfl rfl rfl (by decide +kernel) ⟨Nat.le_of_ble_eq_true rfl, Nat.le_of_ble_eq_true rfl⟩) (cy_w_at (by decide) (rfl)) rfl rfl hl.1 rfl (Nat.le_of_ble_eq_true rfl) dX2_findBestBlend_4 ⟨Nat.le_of_ble_eq_true rfl, Nat.le_of_ble_eq_true rfl⟩ (k' := 0) (n' := 0) rfl rfl (fun H locs hW => ?_)
  refine lv_iconst (v := 0) hx hb dX2_findBestBlend_7 (by decide) ?_
  refine lv_istore_n (lv' := [(2, .int 0), (0, .ref (ad 0)), (1, .int tg)]) hx hb dX2_findBestBlend_8 rfl hl (by decide) rfl (fun ls hl => ?_)
  have L_9 : ∀ (fu : Nat) (a : Nat), nc - a < fu → (a ≤ nc) → ∀ (H : Heap) (locs : List Loc), cy_W D A s.heap (cy_Y kI kJ kC ad (cy_fo S nc tg a) Z tl) H locs → ∀ (ls : Array Slot), lv_has ls 4 [(2, .int (nI a)), (0, .ref (ad 0)), (1, .int tg)] → W p l e rm_X2_findBestBlend s m args below meth co H locs 0 0 Q (F0 m 9 ls []) := by
    intro fu
    induction fu with
    | zero => intro a hn; exact absurd hn (Nat.not_lt_zero _)
    | succ fu ih_9 =>
      intro a hn_9 ha H locs hW ls hl
      refine lv_iload_n hx hb dX2_findBestBlend_9 rfl (lv_at hl 0 rfl) ?_
      refine lv_aload_n hx hb dX2_findBestBlend_10 rfl (lv_at hl 1 rfl) ?_
      refine cy_get hC (0) (by decide) hi2 hW (rfl) rfl 9 (by decide) (hts (.fieldLink RX2 114 "CaskYard" "caskCount" "I") (by decide +kernel)) (fun _ h9 => h9) (v := .int (((cy_fo S nc tg a) 0) 9)) rfl dX2_findBestBlend_11 ?_
      refine cy_top (y := nI nc) (by rw [cy_fo_n (by decide)]; exact hnc) ?_
      refine lv_icmp_ge (tgt := 72) hx hb dX2_findBestBlend_14 (by decide) (fun c_14 => ?_) (fun c_14 => ?_)
      · skip
        have q_14 := cy_le (a := nc) (b := a) (by omega) (by omega) c_14
        obtain rfl : nc = a := by omega
        exact hE _ _ _ _ _ _ (Nat.le_of_ble_eq_true rfl) (Nat.le_of_ble_eq_true rfl) hW dX2_findBestBlend_72
      · skip
        have q_14 := cy_nle (a := nc) (b := a) (by omega) (by omega) c_14
        refine lv_iload_n hx hb dX2_findBestBlend_17 rfl (lv_at hl 0 rfl) ?_
        refine lv_iconst (v := 1) hx hb dX2_findBestBlend_18 (by decide) ?_
        refine lv_iadd hx hb dX2_findBestBlend_19 ?_
        refine cy_top (nI_add a 1) ?_
        refine lv_istore_n (lv' := [(3, .int (nI (a + 1))), (2, .int (nI a)), (0, .ref (ad 0)), (1, .int tg)]) hx hb dX2_findBestBlend_20 rfl hl (by decide) rfl (fun ls hl => ?_)
        have L_21 : ∀ (fu : Nat) (k : Nat), nc - (a + 1 + k) < fu → (a + 1 + k ≤ nc) → ∀ (H : Heap) (locs : List Loc), cy_W D A s.heap (cy_Y kI kJ kC ad (cy_fi (cy_fo S nc tg a) a tg k) Z tl) H locs → ∀ (ls : Array Slot), lv_has ls 4 [(2, .int (nI a)), (3, .int (nI (a + 1 + k))), (0, .ref (ad 0)), (1, .int tg)] → W p l e rm_X2_findBestBlend s m args below meth co H locs 0 0 Q (F0 m 21 ls []) := by
          intro fu
          induction fu with
          | zero => intro k hn; exact absurd hn (Nat.not_lt_zero _)
          | succ fu ih_21 =>
            intro k hn_21 hk H locs hW ls hl
            refine lv_iload_n hx hb dX2_findBestBlend_21 rfl (lv_at hl 1 rfl) ?_
            refine lv_aload_n hx hb dX2_findBestBlend_22 rfl (lv_at hl 2 rfl) ?_
            refine cy_get hC (0) (by decide) hi2 hW (rfl) rfl 9 (by decide) (hts (.fieldLink RX2 114 "CaskYard" "caskCount" "I") (by decide +kernel)) (fun _ h9 => h9) (v := .int (((cy_fi (cy_fo S nc tg a) a tg k) 0) 9)) rfl dX2_findBestBlend_23 ?_
            refine cy_top (y := nI nc) (by rw [cy_fi_n (by decide), cy_fo_n (by decide)]; exact hnc) ?_
            refine lv_icmp_ge (tgt := 66) hx hb dX2_findBestBlend_26 (by decide) (fun c_26 => ?_) (fun c_26 => ?_)
            · skip
              have q_26 := cy_le (a := nc) (b := (a + 1 + k)) (by omega) (by omega) c_26
              obtain rfl : k = nc - (a + 1) := by omega
              refine lv_iinc (v := nI (a + 1)) (lv' := [(2, .int (nI (a + 1))), (3, .int (nI (a + 1 + (nc - (a + 1))))), (0, .ref (ad 0)), (1, .int tg)]) hx hb dX2_findBestBlend_66 hl (k := 0) rfl (nI_1 a) (by decide) rfl (fun ls hl => ?_)
              refine lv_goto (tgt := 9) hx hb dX2_findBestBlend_69 (by decide) ?_
              exact ih_9 (a + 1) (by omega) (by omega) _ _ hW _ (lv_sub hl [0, 2, 3] rfl)
            · skip
              have q_26 := cy_nle (a := nc) (b := (a + 1 + k)) (by omega) (by omega) c_26
              refine lv_aload_n hx hb dX2_findBestBlend_29 rfl (lv_at hl 2 rfl) ?_
              refine cy_get hC (0) (by decide) hi2 hW (rfl) rfl 8 (by decide) (hts (.fieldLink RX2 30 "CaskYard" "casks" "[LCaskYard$Cask;") (by decide +kernel)) (fun _ h9 => h9) (v := .ref (ad 7)) rfl dX2_findBestBlend_30 ?_
              refine lv_iload_n hx hb dX2_findBestBlend_33 rfl (lv_at hl 0 rfl) ?_
              refine cy_aald hC (7) (by decide) hW 3 (i := a) (a := ad (3 * a + 11)) (rfl) rfl (by omega) (by decide) rfl dX2_findBestBlend_34 ?_
              refine cy_callV (As := []) (rest := []) (q0 := 3 * a + 11) (ci := 1) hC.1 hC.2.1 hC.2.2 hW (c_X1_canBeBlended (c := a) (by omega)) (cwV 0 hts gX2_findBestBlend_X1_canBeBlended rfl rfl rfl (by decide +kernel) ⟨Nat.le_of_ble_eq_true rfl, Nat.le_of_ble_eq_true rfl⟩) (cy_w_at (by omega) (cy_eY_o)) rfl rfl hl.1 rfl (Nat.le_of_ble_eq_true rfl) dX2_findBestBlend_35 ⟨Nat.le_of_ble_eq_true rfl, Nat.le_of_ble_eq_true rfl⟩ (k' := 0) (n' := 0) rfl rfl (fun H locs hW => ?_)
              refine lv_if_eq (tgt := 60) hx hb dX2_findBestBlend_38 (by decide) (fun c_38 => ?_) (fun c_38 => ?_)
              · skip
                refine lv_iinc (v := nI (a + 1 + k + 1)) (lv' := [(3, .int (nI (a + 1 + k + 1))), (2, .int (nI a)), (0, .ref (ad 0)), (1, .int tg)]) hx hb dX2_findBestBlend_60 hl (k := 1) rfl (nI_1 (a + 1 + k)) (by decide) rfl (fun ls hl => ?_)
                refine lv_goto (tgt := 21) hx hb dX2_findBestBlend_63 (by decide) ?_
                have hW := cy_castS (show (cy_fi (cy_fo S nc tg a) a tg k) = (cy_fi (cy_fo S nc tg a) a tg (k + 1)) from by simp only [cy_fi, c_26, c_38, ↓reduceIte, not_true_eq_false, not_false_eq_true]) hW
                exact ih_21 (k + 1) (by omega) (by omega) _ _ hW _ (lv_sub hl [1, 0, 2, 3] rfl)
              · skip
                refine lv_aload_n hx hb dX2_findBestBlend_41 rfl (lv_at hl 2 rfl) ?_
                refine cy_get hC (0) (by decide) hi2 hW (rfl) rfl 8 (by decide) (hts (.fieldLink RX2 30 "CaskYard" "casks" "[LCaskYard$Cask;") (by decide +kernel)) (fun _ h9 => h9) (v := .ref (ad 7)) rfl dX2_findBestBlend_42 ?_
                refine lv_iload_n hx hb dX2_findBestBlend_45 rfl (lv_at hl 1 rfl) ?_
                refine cy_aald hC (7) (by decide) hW 3 (i := (a + 1 + k)) (a := ad (3 * (a + 1 + k) + 11)) (rfl) rfl (by omega) (by decide) rfl dX2_findBestBlend_46 ?_
                refine cy_callV (As := []) (rest := []) (q0 := 3 * (a + 1 + k) + 11) (ci := 1) hC.1 hC.2.1 hC.2.2 hW (c_X1_canBeBlended (c := (a + 1 + k)) (by omega)) (cwV 0 hts gX2_findBestBlend_X1_canBeBlended rfl rfl rfl (by decide +kernel) ⟨Nat.le_of_ble_eq_true rfl, Nat.le_of_ble_eq_true rfl⟩) (cy_w_at (by omega) (cy_eY_o)) rfl rfl hl.1 rfl (Nat.le_of_ble_eq_true rfl) dX2_findBestBlend_47 ⟨Nat.le_of_ble_eq_true rfl, Nat.le_of_ble_eq_true rfl⟩ (k' := 0) (n' := 0) rfl rfl (fun H locs hW => ?_)
                refine lv_if_eq (tgt := 60) hx hb dX2_findBestBlend_50 (by decide) (fun c_50 => ?_) (fun c_50 => ?_)
                · skip
                  refine lv_iinc (v := nI (a + 1 + k + 1)) (lv' := [(3, .int (nI (a + 1 + k + 1))), (2, .int (nI a)), (0, .ref (ad 0)), (1, .int tg)]) hx hb dX2_findBestBlend_60 hl (k := 1) rfl (nI_1 (a + 1 + k)) (by decide) rfl (fun ls hl => ?_)
                  refine lv_goto (tgt := 21) hx hb dX2_findBestBlend_63 (by decide) ?_
                  have hW := cy_castS (show (cy_fi (cy_fo S nc tg a) a tg k) = (cy_fi (cy_fo S nc tg a) a tg (k + 1)) from by simp only [cy_fi, c_26, c_38, c_50, ↓reduceIte, not_true_eq_false, not_false_eq_true]) hW
                  exact ih_21 (k + 1) (by omega) (by omega) _ _ hW _ (lv_sub hl [1, 0, 2, 3] rfl)
                · skip
                  refine lv_aload_n hx hb dX2_findBestBlend_53 rfl (lv_at hl 2 rfl) ?_
                  refine lv_iload_n hx hb dX2_findBestBlend_54 rfl (lv_at hl 0 rfl) ?_
                  refine lv_iload_n hx hb dX2_findBestBlend_55 rfl (lv_at hl 1 rfl) ?_
                  refine lv_iload_n hx hb dX2_findBestBlend_56 rfl (lv_at hl 3 rfl) ?_
                  refine cy_callV (As := [.int (nI a), .int (nI (a + 1 + k)), .int tg]) (rest := []) (q0 := 0) (ci := 2) hC.1 hC.2.1 hC.2.2 hW (c_X2_offerBlends (a := a) (b := (a + 1 + k)) (tg := tg) (by omega) (by omega)) (cwV 3 hts gX2_findBestBlend_X2_offerBlends rfl rfl rfl (by decide +kernel) ⟨Nat.le_of_ble_eq_true rfl, Nat.le_of_ble_eq_true rfl⟩) (cy_w_at (by decide) (rfl)) rfl rfl hl.1 rfl (Nat.le_of_ble_eq_true rfl) dX2_findBestBlend_57 ⟨Nat.le_of_ble_eq_true rfl, Nat.le_of_ble_eq_true rfl⟩ (k' := 0) (n' := 0) rfl rfl (fun H locs hW => ?_)
                  refine lv_iinc (v := nI (a + 1 + k + 1)) (lv' := [(3, .int (nI (a + 1 + k + 1))), (2, .int (nI a)), (0, .ref (ad 0)), (1, .int tg)]) hx hb dX2_findBestBlend_60 hl (k := 1) rfl (nI_1 (a + 1 + k)) (by decide) rfl (fun ls hl => ?_)
                  refine lv_goto (tgt := 21) hx hb dX2_findBestBlend_63 (by decide) ?_
                  have hW := cy_castS (show (cy_ob (cy_fi (cy_fo S nc tg a) a tg k) a (a + 1 + k) (cy_rOak (cy_fi (cy_fo S nc tg a) a tg k) a) (cy_rOak (cy_fi (cy_fo S nc tg a) a tg k) (a + 1 + k)) tg 9) = (cy_fi (cy_fo S nc tg a) a tg (k + 1)) from by simp only [cy_fi, c_26, c_38, c_50, ↓reduceIte, not_true_eq_false, not_false_eq_true]) hW
                  exact ih_21 (k + 1) (by omega) (by omega) _ _ hW _ (lv_sub hl [1, 0, 2, 3] rfl)
        exact L_21 ((nc - (a + 1 + 0)) + 1) 0 (Nat.lt_succ_self _) (by omega) _ _ hW _ (lv_sub hl [1, 0, 2, 3] rfl)
  exact L_9 ((nc - 0) + 1) 0 (Nat.lt_succ_self _) (by omega) _ _ hW _ (lv_sub hl [0, 1, 2] rfl)
abbrev rm_X2_tellOfCask : Room := { frames := 2, cells := 0, slots := 0, locals := 42 }
set_option maxHeartbeats 4000000 in
set_option maxRecDepth 100000 in
theorem c_X2_tellOfCask {l : Launch} {D : va_G} {kI kJ kZ kC : ClassId} {ad : Nat → Nat} {S : Nat → Nat → Int32} {tl : va_W} {Z : Nat → Int64} {c x : Nat} (hc : c < 12) (hx16 : x < 16) {ns : Nat} (hns : S 0 3 = nI ns) (h60 : ns ≤ 60) : cy_M l yX2_tellOfCask wsX2_tellOfCask rm_X2_tellOfCask D (cy_tys kI kJ kZ kC) [.ref (ad 0), .int (nI c), .int (nI x)] (cy_Y kI kJ kC ad S Z tl) (some (.int (cy_tell S ns c x))) (cy_Y kI kJ kC ad S Z tl) := by
  refine cy_of (own := RX2) (cc := cX2_tellOfCask) (maxL := 5) (ret := (some .int)) (i := .ireturn) (by decide) rfl rfl (Nat.le_of_ble_eq_true rfl) (cy_endI rfl) ?_
  intro p e s m args below meth co Q A ls hC hE hW hl
  have hx := hC.1.1; have hb := hC.1.2.1; have hml := hC.1.2.2.1; have hown := hC.1.2.2.2.1; have hts := hC.1.2.2.2.2
  have hl : lv_has ls 5 [(0, .ref (ad 0)), (1, .int (nI c)), (2, .int (nI x))] := hl
  have hi1 : ∀ w ∈ u_ws RX1 TX1 11, w ∈ wsX2_tellOfCask := by decide +kernel
  have hi2 : ∀ w ∈ u_ws RX2 TX2 17, w ∈ wsX2_tellOfCask := by decide +kernel
  have hs_x : x = 0 ∨ x = 1 ∨ x = 2 ∨ x = 3 ∨ x = 4 ∨ x = 5 ∨ x = 6 ∨ x = 7 ∨ x = 8 ∨ x = 9 ∨ x = 10 ∨ x = 11 ∨ x = 12 ∨ x = 13 ∨ x = 14 ∨ x = 15 := by omega
  rcases hs_x with rfl | rfl | rfl | rfl | rfl | rfl | rfl | rfl | rfl | rfl | rfl | rfl | rfl | rfl | rfl | rfl
  · have hl := hl
    have hl : lv_has ls 5 [(0, .ref (ad 0)), (1, .int (nI c)), (2, .int 0)] := hl
    refine lv_aload_n hx hb dX2_tellOfCask_0 rfl (lv_at hl 0 rfl) ?_
    refine cy_get hC (0) (by decide) hi2 hW (rfl) rfl 8 (by decide) (hts (.fieldLink RX2 30 "CaskYard" "casks" "[LCaskYard$Cask;") (by decide +kernel)) (fun _ h9 => h9) (v := .ref (ad 7)) rfl dX2_tellOfCask_1 ?_
    refine lv_iload_n hx hb dX2_tellOfCask_4 rfl (lv_at hl 1 rfl) ?_
    refine cy_aald hC (7) (by decide) hW 3 (i := c) (a := ad (3 * c + 11)) (rfl) rfl (by omega) (by decide) rfl dX2_tellOfCask_5 ?_
    refine lv_astore_n (lv' := [(3, .ref (ad (3 * c + 11))), (0, .ref (ad 0)), (1, .int (nI c)), (2, .int 0)]) hx hb dX2_tellOfCask_6 rfl hl (by decide) rfl (fun ls hl => ?_)
    refine lv_iload_n hx hb dX2_tellOfCask_7 rfl (lv_at hl 3 rfl) ?_
    refine lv_bipush (v := 8) hx hb dX2_tellOfCask_8 (by decide) ?_
    refine lv_isub hx hb dX2_tellOfCask_10 ?_
    refine cy_top (y := (-8)) (by decide) ?_
    refine lv_istore (lv' := [(4, .int (-8)), (3, .ref (ad (3 * c + 11))), (0, .ref (ad 0)), (1, .int (nI c)), (2, .int 0)]) hx hb dX2_tellOfCask_11 hl (by decide) rfl (fun ls hl => ?_)
    refine lv_iload hx hb dX2_tellOfCask_13 (lv_at hl 0 rfl) ?_
    refine lv_if_lt (tgt := 32) hx hb dX2_tellOfCask_15 (by decide) (fun c_15 => ?_) (fun c_15 => ?_)
    · skip
      refine lv_iload_n hx hb dX2_tellOfCask_32 rfl (lv_at hl 4 rfl) ?_
      refine lv_tableIn (off := 75) (tgt := 108) hx hb dX2_tellOfCask_33 (by decide) (by decide) (by decide) (by decide) ?_
      refine lv_aload_n hx hb dX2_tellOfCask_108 rfl (lv_at hl 1 rfl) ?_
      refine cy_get hC (3 * c + 11) (by omega) hi1 hW (cy_eY_o) rfl 0 (by decide) (hts (.fieldLink RX2 121 "CaskYard$Cask" "sort" "I") (by decide +kernel)) (fun _ h9 => h9) (v := .int (S (3 * c + 11) 0)) rfl dX2_tellOfCask_109 ?_
      exact hE _ _ _ _ _ _ (Nat.le_of_ble_eq_true rfl) (Nat.le_of_ble_eq_true rfl) hW dX2_tellOfCask_112
    · exact absurd c_15 (by decide)
  · have hl := hl
    have hl : lv_has ls 5 [(0, .ref (ad 0)), (1, .int (nI c)), (2, .int 1)] := hl
    refine lv_aload_n hx hb dX2_tellOfCask_0 rfl (lv_at hl 0 rfl) ?_
    refine cy_get hC (0) (by decide) hi2 hW (rfl) rfl 8 (by decide) (hts (.fieldLink RX2 30 "CaskYard" "casks" "[LCaskYard$Cask;") (by decide +kernel)) (fun _ h9 => h9) (v := .ref (ad 7)) rfl dX2_tellOfCask_1 ?_
    refine lv_iload_n hx hb dX2_tellOfCask_4 rfl (lv_at hl 1 rfl) ?_
    refine cy_aald hC (7) (by decide) hW 3 (i := c) (a := ad (3 * c + 11)) (rfl) rfl (by omega) (by decide) rfl dX2_tellOfCask_5 ?_
    refine lv_astore_n (lv' := [(3, .ref (ad (3 * c + 11))), (0, .ref (ad 0)), (1, .int (nI c)), (2, .int 1)]) hx hb dX2_tellOfCask_6 rfl hl (by decide) rfl (fun ls hl => ?_)
    refine lv_iload_n hx hb dX2_tellOfCask_7 rfl (lv_at hl 3 rfl) ?_
    refine lv_bipush (v := 8) hx hb dX2_tellOfCask_8 (by decide) ?_
    refine lv_isub hx hb dX2_tellOfCask_10 ?_
    refine cy_top (y := (-7)) (by decide) ?_
    refine lv_istore (lv' := [(4, .int (-7)), (3, .ref (ad (3 * c + 11))), (0, .ref (ad 0)), (1, .int (nI c)), (2, .int 1)]) hx hb dX2_tellOfCask_11 hl (by decide) rfl (fun ls hl => ?_)
    refine lv_iload hx hb dX2_tellOfCask_13 (lv_at hl 0 rfl) ?_
    refine lv_if_lt (tgt := 32) hx hb dX2_tellOfCask_15 (by decide) (fun c_15 => ?_) (fun c_15 => ?_)
    · skip
      refine lv_iload_n hx hb dX2_tellOfCask_32 rfl (lv_at hl 4 rfl) ?_
      refine lv_tableIn (off := 80) (tgt := 113) hx hb dX2_tellOfCask_33 (by decide) (by decide) (by decide) (by decide) ?_
      refine lv_aload_n hx hb dX2_tellOfCask_113 rfl (lv_at hl 2 rfl) ?_
      refine lv_iload_n hx hb dX2_tellOfCask_114 rfl (lv_at hl 3 rfl) ?_
      refine cy_callV (As := [.int (nI c)]) (rest := []) (q0 := 0) (ci := 2) hC.1 hC.2.1 hC.2.2 hW (c_X2_stavesAt (x := (nI c)) (ns := ns) hns (by omega)) (cwV 1 hts gX2_tellOfCask_X2_stavesAt rfl rfl rfl (by decide +kernel) ⟨Nat.le_of_ble_eq_true rfl, Nat.le_of_ble_eq_true rfl⟩) (cy_w_at (by decide) (rfl)) rfl rfl hl.1 rfl (Nat.le_of_ble_eq_true rfl) dX2_tellOfCask_115 ⟨Nat.le_of_ble_eq_true rfl, Nat.le_of_ble_eq_true rfl⟩ (k' := 0) (n' := 0) rfl rfl (fun H locs hW => ?_)
      exact hE _ _ _ _ _ _ (Nat.le_of_ble_eq_true rfl) (Nat.le_of_ble_eq_true rfl) hW dX2_tellOfCask_118
    · exact absurd c_15 (by decide)
  · have hl := hl
    have hl : lv_has ls 5 [(0, .ref (ad 0)), (1, .int (nI c)), (2, .int 2)] := hl
    refine lv_aload_n hx hb dX2_tellOfCask_0 rfl (lv_at hl 0 rfl) ?_
    refine cy_get hC (0) (by decide) hi2 hW (rfl) rfl 8 (by decide) (hts (.fieldLink RX2 30 "CaskYard" "casks" "[LCaskYard$Cask;") (by decide +kernel)) (fun _ h9 => h9) (v := .ref (ad 7)) rfl dX2_tellOfCask_1 ?_
    refine lv_iload_n hx hb dX2_tellOfCask_4 rfl (lv_at hl 1 rfl) ?_
    refine cy_aald hC (7) (by decide) hW 3 (i := c) (a := ad (3 * c + 11)) (rfl) rfl (by omega) (by decide) rfl dX2_tellOfCask_5 ?_
    refine lv_astore_n (lv' := [(3, .ref (ad (3 * c + 11))), (0, .ref (ad 0)), (1, .int (nI c)), (2, .int 2)]) hx hb dX2_tellOfCask_6 rfl hl (by decide) rfl (fun ls hl => ?_)
    refine lv_iload_n hx hb dX2_tellOfCask_7 rfl (lv_at hl 3 rfl) ?_
    refine lv_bipush (v := 8) hx hb dX2_tellOfCask_8 (by decide) ?_
    refine lv_isub hx hb dX2_tellOfCask_10 ?_
    refine cy_top (y := (-6)) (by decide) ?_
    refine lv_istore (lv' := [(4, .int (-6)), (3, .ref (ad (3 * c + 11))), (0, .ref (ad 0)), (1, .int (nI c)), (2, .int 2)]) hx hb dX2_tellOfCask_11 hl (by decide) rfl (fun ls hl => ?_)
    refine lv_iload hx hb dX2_tellOfCask_13 (lv_at hl 0 rfl) ?_
    refine lv_if_lt (tgt := 32) hx hb dX2_tellOfCask_15 (by decide) (fun c_15 => ?_) (fun c_15 => ?_)
    · skip
      refine lv_iload_n hx hb dX2_tellOfCask_32 rfl (lv_at hl 4 rfl) ?_
      refine lv_tableIn (off := 86) (tgt := 119) hx hb dX2_tellOfCask_33 (by decide) (by decide) (by decide) (by decide) ?_
      refine lv_aload_n hx hb dX2_tellOfCask_119 rfl (lv_at hl 1 rfl) ?_
      refine cy_get hC (3 * c + 11) (by omega) hi1 hW (cy_eY_o) rfl 3 (by decide) (hts (.fieldLink RX2 138 "CaskYard$Cask" "flaws" "I") (by decide +kernel)) (fun _ h9 => h9) (v := .int (S (3 * c + 11) 3)) rfl dX2_tellOfCask_120 ?_
      exact hE _ _ _ _ _ _ (Nat.le_of_ble_eq_true rfl) (Nat.le_of_ble_eq_true rfl) hW dX2_tellOfCask_123
    · exact absurd c_15 (by decide)
  · have hl := hl
    have hl : lv_has ls 5 [(0, .ref (ad 0)), (1, .int (nI c)), (2, .int 3)] := hl
    refine lv_aload_n hx hb dX2_tellOfCask_0 rfl (lv_at hl 0 rfl) ?_
    refine cy_get hC (0) (by decide) hi2 hW (rfl) rfl 8 (by decide) (hts (.fieldLink RX2 30 "CaskYard" "casks" "[LCaskYard$Cask;") (by decide +kernel)) (fun _ h9 => h9) (v := .ref (ad 7)) rfl dX2_tellOfCask_1 ?_
    refine lv_iload_n hx hb dX2_tellOfCask_4 rfl (lv_at hl 1 rfl) ?_
    refine cy_aald hC (7) (by decide) hW 3 (i := c) (a := ad (3 * c + 11)) (rfl) rfl (by omega) (by decide) rfl dX2_tellOfCask_5 ?_
    refine lv_astore_n (lv' := [(3, .ref (ad (3 * c + 11))), (0, .ref (ad 0)), (1, .int (nI c)), (2, .int 3)]) hx hb dX2_tellOfCask_6 rfl hl (by decide) rfl (fun ls hl => ?_)
    refine lv_iload_n hx hb dX2_tellOfCask_7 rfl (lv_at hl 3 rfl) ?_
    refine lv_bipush (v := 8) hx hb dX2_tellOfCask_8 (by decide) ?_
    refine lv_isub hx hb dX2_tellOfCask_10 ?_
    refine cy_top (y := (-5)) (by decide) ?_
    refine lv_istore (lv' := [(4, .int (-5)), (3, .ref (ad (3 * c + 11))), (0, .ref (ad 0)), (1, .int (nI c)), (2, .int 3)]) hx hb dX2_tellOfCask_11 hl (by decide) rfl (fun ls hl => ?_)
    refine lv_iload hx hb dX2_tellOfCask_13 (lv_at hl 0 rfl) ?_
    refine lv_if_lt (tgt := 32) hx hb dX2_tellOfCask_15 (by decide) (fun c_15 => ?_) (fun c_15 => ?_)
    · skip
      refine lv_iload_n hx hb dX2_tellOfCask_32 rfl (lv_at hl 4 rfl) ?_
      refine lv_tableIn (off := 91) (tgt := 124) hx hb dX2_tellOfCask_33 (by decide) (by decide) (by decide) (by decide) ?_
      refine lv_aload_n hx hb dX2_tellOfCask_124 rfl (lv_at hl 1 rfl) ?_
      refine cy_callV (As := []) (rest := []) (q0 := 3 * c + 11) (ci := 1) hC.1 hC.2.1 hC.2.2 hW (c_X1_allTensions (c := c) (by omega)) (cwV 0 hts gX2_tellOfCask_X1_allTensions rfl rfl rfl (by decide +kernel) ⟨Nat.le_of_ble_eq_true rfl, Nat.le_of_ble_eq_true rfl⟩) (cy_w_at (by omega) (cy_eY_o)) rfl rfl hl.1 rfl (Nat.le_of_ble_eq_true rfl) dX2_tellOfCask_125 ⟨Nat.le_of_ble_eq_true rfl, Nat.le_of_ble_eq_true rfl⟩ (k' := 0) (n' := 0) rfl rfl (fun H locs hW => ?_)
      exact hE _ _ _ _ _ _ (Nat.le_of_ble_eq_true rfl) (Nat.le_of_ble_eq_true rfl) hW dX2_tellOfCask_128
    · exact absurd c_15 (by decide)
  · have hl := hl
    have hl : lv_has ls 5 [(0, .ref (ad 0)), (1, .int (nI c)), (2, .int 4)] := hl
    refine lv_aload_n hx hb dX2_tellOfCask_0 rfl (lv_at hl 0 rfl) ?_
    refine cy_get hC (0) (by decide) hi2 hW (rfl) rfl 8 (by decide) (hts (.fieldLink RX2 30 "CaskYard" "casks" "[LCaskYard$Cask;") (by decide +kernel)) (fun _ h9 => h9) (v := .ref (ad 7)) rfl dX2_tellOfCask_1 ?_
    refine lv_iload_n hx hb dX2_tellOfCask_4 rfl (lv_at hl 1 rfl) ?_
    refine cy_aald hC (7) (by decide) hW 3 (i := c) (a := ad (3 * c + 11)) (rfl) rfl (by omega) (by decide) rfl dX2_tellOfCask_5 ?_
    refine lv_astore_n (lv' := [(3, .ref (ad (3 * c + 11))), (0, .ref (ad 0)), (1, .int (nI c)), (2, .int 4)]) hx hb dX2_tellOfCask_6 rfl hl (by decide) rfl (fun ls hl => ?_)
    refine lv_iload_n hx hb dX2_tellOfCask_7 rfl (lv_at hl 3 rfl) ?_
    refine lv_bipush (v := 8) hx hb dX2_tellOfCask_8 (by decide) ?_
    refine lv_isub hx hb dX2_tellOfCask_10 ?_
    refine cy_top (y := (-4)) (by decide) ?_
    refine lv_istore (lv' := [(4, .int (-4)), (3, .ref (ad (3 * c + 11))), (0, .ref (ad 0)), (1, .int (nI c)), (2, .int 4)]) hx hb dX2_tellOfCask_11 hl (by decide) rfl (fun ls hl => ?_)
    refine lv_iload hx hb dX2_tellOfCask_13 (lv_at hl 0 rfl) ?_
    refine lv_if_lt (tgt := 32) hx hb dX2_tellOfCask_15 (by decide) (fun c_15 => ?_) (fun c_15 => ?_)
    · skip
      refine lv_iload_n hx hb dX2_tellOfCask_32 rfl (lv_at hl 4 rfl) ?_
      refine lv_tableIn (off := 96) (tgt := 129) hx hb dX2_tellOfCask_33 (by decide) (by decide) (by decide) (by decide) ?_
      refine lv_aload_n hx hb dX2_tellOfCask_129 rfl (lv_at hl 1 rfl) ?_
      refine cy_get hC (3 * c + 11) (by omega) hi1 hW (cy_eY_o) rfl 5 (by decide) (hts (.fieldLink RX2 321 "CaskYard$Cask" "swelling" "I") (by decide +kernel)) (fun _ h9 => h9) (v := .int (S (3 * c + 11) 5)) rfl dX2_tellOfCask_130 ?_
      exact hE _ _ _ _ _ _ (Nat.le_of_ble_eq_true rfl) (Nat.le_of_ble_eq_true rfl) hW dX2_tellOfCask_133
    · exact absurd c_15 (by decide)
  · have hl := hl
    have hl : lv_has ls 5 [(0, .ref (ad 0)), (1, .int (nI c)), (2, .int 5)] := hl
    refine lv_aload_n hx hb dX2_tellOfCask_0 rfl (lv_at hl 0 rfl) ?_
    refine cy_get hC (0) (by decide) hi2 hW (rfl) rfl 8 (by decide) (hts (.fieldLink RX2 30 "CaskYard" "casks" "[LCaskYard$Cask;") (by decide +kernel)) (fun _ h9 => h9) (v := .ref (ad 7)) rfl dX2_tellOfCask_1 ?_
    refine lv_iload_n hx hb dX2_tellOfCask_4 rfl (lv_at hl 1 rfl) ?_
    refine cy_aald hC (7) (by decide) hW 3 (i := c) (a := ad (3 * c + 11)) (rfl) rfl (by omega) (by decide) rfl dX2_tellOfCask_5 ?_
    refine lv_astore_n (lv' := [(3, .ref (ad (3 * c + 11))), (0, .ref (ad 0)), (1, .int (nI c)), (2, .int 5)]) hx hb dX2_tellOfCask_6 rfl hl (by decide) rfl (fun ls hl => ?_)
    refine lv_iload_n hx hb dX2_tellOfCask_7 rfl (lv_at hl 3 rfl) ?_
    refine lv_bipush (v := 8) hx hb dX2_tellOfCask_8 (by decide) ?_
    refine lv_isub hx hb dX2_tellOfCask_10 ?_
    refine cy_top (y := (-3)) (by decide) ?_
    refine lv_istore (lv' := [(4, .int (-3)), (3, .ref (ad (3 * c + 11))), (0, .ref (ad 0)), (1, .int (nI c)), (2, .int 5)]) hx hb dX2_tellOfCask_11 hl (by decide) rfl (fun ls hl => ?_)
    refine lv_iload hx hb dX2_tellOfCask_13 (lv_at hl 0 rfl) ?_
    refine lv_if_lt (tgt := 32) hx hb dX2_tellOfCask_15 (by decide) (fun c_15 => ?_) (fun c_15 => ?_)
    · skip
      refine lv_iload_n hx hb dX2_tellOfCask_32 rfl (lv_at hl 4 rfl) ?_
      refine lv_tableIn (off := 101) (tgt := 134) hx hb dX2_tellOfCask_33 (by decide) (by decide) (by decide) (by decide) ?_
      refine lv_aload_n hx hb dX2_tellOfCask_134 rfl (lv_at hl 1 rfl) ?_
      refine cy_get hC (3 * c + 11) (by omega) hi1 hW (cy_eY_o) rfl 6 (by decide) (hts (.fieldLink RX2 324 "CaskYard$Cask" "fillings" "I") (by decide +kernel)) (fun _ h9 => h9) (v := .int (S (3 * c + 11) 6)) rfl dX2_tellOfCask_135 ?_
      exact hE _ _ _ _ _ _ (Nat.le_of_ble_eq_true rfl) (Nat.le_of_ble_eq_true rfl) hW dX2_tellOfCask_138
    · exact absurd c_15 (by decide)
  · have hl := hl
    have hl : lv_has ls 5 [(0, .ref (ad 0)), (1, .int (nI c)), (2, .int 6)] := hl
    refine lv_aload_n hx hb dX2_tellOfCask_0 rfl (lv_at hl 0 rfl) ?_
    refine cy_get hC (0) (by decide) hi2 hW (rfl) rfl 8 (by decide) (hts (.fieldLink RX2 30 "CaskYard" "casks" "[LCaskYard$Cask;") (by decide +kernel)) (fun _ h9 => h9) (v := .ref (ad 7)) rfl dX2_tellOfCask_1 ?_
    refine lv_iload_n hx hb dX2_tellOfCask_4 rfl (lv_at hl 1 rfl) ?_
    refine cy_aald hC (7) (by decide) hW 3 (i := c) (a := ad (3 * c + 11)) (rfl) rfl (by omega) (by decide) rfl dX2_tellOfCask_5 ?_
    refine lv_astore_n (lv' := [(3, .ref (ad (3 * c + 11))), (0, .ref (ad 0)), (1, .int (nI c)), (2, .int 6)]) hx hb dX2_tellOfCask_6 rfl hl (by decide) rfl (fun ls hl => ?_)
    refine lv_iload_n hx hb dX2_tellOfCask_7 rfl (lv_at hl 3 rfl) ?_
    refine lv_bipush (v := 8) hx hb dX2_tellOfCask_8 (by decide) ?_
    refine lv_isub hx hb dX2_tellOfCask_10 ?_
    refine cy_top (y := (-2)) (by decide) ?_
    refine lv_istore (lv' := [(4, .int (-2)), (3, .ref (ad (3 * c + 11))), (0, .ref (ad 0)), (1, .int (nI c)), (2, .int 6)]) hx hb dX2_tellOfCask_11 hl (by decide) rfl (fun ls hl => ?_)
    refine lv_iload hx hb dX2_tellOfCask_13 (lv_at hl 0 rfl) ?_
    refine lv_if_lt (tgt := 32) hx hb dX2_tellOfCask_15 (by decide) (fun c_15 => ?_) (fun c_15 => ?_)
    · skip
      refine lv_iload_n hx hb dX2_tellOfCask_32 rfl (lv_at hl 4 rfl) ?_
      refine lv_tableIn (off := 106) (tgt := 139) hx hb dX2_tellOfCask_33 (by decide) (by decide) (by decide) (by decide) ?_
      refine lv_aload_n hx hb dX2_tellOfCask_139 rfl (lv_at hl 1 rfl) ?_
      refine cy_get hC (3 * c + 11) (by omega) hi1 hW (cy_eY_o) rfl 7 (by decide) (hts (.fieldLink RX2 327 "CaskYard$Cask" "airMonths" "I") (by decide +kernel)) (fun _ h9 => h9) (v := .int (S (3 * c + 11) 7)) rfl dX2_tellOfCask_140 ?_
      exact hE _ _ _ _ _ _ (Nat.le_of_ble_eq_true rfl) (Nat.le_of_ble_eq_true rfl) hW dX2_tellOfCask_143
    · exact absurd c_15 (by decide)
  · have hl := hl
    have hl : lv_has ls 5 [(0, .ref (ad 0)), (1, .int (nI c)), (2, .int 7)] := hl
    refine lv_aload_n hx hb dX2_tellOfCask_0 rfl (lv_at hl 0 rfl) ?_
    refine cy_get hC (0) (by decide) hi2 hW (rfl) rfl 8 (by decide) (hts (.fieldLink RX2 30 "CaskYard" "casks" "[LCaskYard$Cask;") (by decide +kernel)) (fun _ h9 => h9) (v := .ref (ad 7)) rfl dX2_tellOfCask_1 ?_
    refine lv_iload_n hx hb dX2_tellOfCask_4 rfl (lv_at hl 1 rfl) ?_
    refine cy_aald hC (7) (by decide) hW 3 (i := c) (a := ad (3 * c + 11)) (rfl) rfl (by omega) (by decide) rfl dX2_tellOfCask_5 ?_
    refine lv_astore_n (lv' := [(3, .ref (ad (3 * c + 11))), (0, .ref (ad 0)), (1, .int (nI c)), (2, .int 7)]) hx hb dX2_tellOfCask_6 rfl hl (by decide) rfl (fun ls hl => ?_)
    refine lv_iload_n hx hb dX2_tellOfCask_7 rfl (lv_at hl 3 rfl) ?_
    refine lv_bipush (v := 8) hx hb dX2_tellOfCask_8 (by decide) ?_
    refine lv_isub hx hb dX2_tellOfCask_10 ?_
    refine cy_top (y := (-1)) (by decide) ?_
    refine lv_istore (lv' := [(4, .int (-1)), (3, .ref (ad (3 * c + 11))), (0, .ref (ad 0)), (1, .int (nI c)), (2, .int 7)]) hx hb dX2_tellOfCask_11 hl (by decide) rfl (fun ls hl => ?_)
    refine lv_iload hx hb dX2_tellOfCask_13 (lv_at hl 0 rfl) ?_
    refine lv_if_lt (tgt := 32) hx hb dX2_tellOfCask_15 (by decide) (fun c_15 => ?_) (fun c_15 => ?_)
    · skip
      refine lv_iload_n hx hb dX2_tellOfCask_32 rfl (lv_at hl 4 rfl) ?_
      refine lv_tableIn (off := 111) (tgt := 144) hx hb dX2_tellOfCask_33 (by decide) (by decide) (by decide) (by decide) ?_
      refine lv_aload_n hx hb dX2_tellOfCask_144 rfl (lv_at hl 1 rfl) ?_
      refine cy_callV (As := []) (rest := []) (q0 := 3 * c + 11) (ci := 1) hC.1 hC.2.1 hC.2.2 hW (c_X1_held (c := c) (by omega)) (cwV 0 hts gX2_tellOfCask_X1_held rfl rfl rfl (by decide +kernel) ⟨Nat.le_of_ble_eq_true rfl, Nat.le_of_ble_eq_true rfl⟩) (cy_w_at (by omega) (cy_eY_o)) rfl rfl hl.1 rfl (Nat.le_of_ble_eq_true rfl) dX2_tellOfCask_145 ⟨Nat.le_of_ble_eq_true rfl, Nat.le_of_ble_eq_true rfl⟩ (k' := 0) (n' := 0) rfl rfl (fun H locs hW => ?_)
      exact hE _ _ _ _ _ _ (Nat.le_of_ble_eq_true rfl) (Nat.le_of_ble_eq_true rfl) hW dX2_tellOfCask_148
    · exact absurd c_15 (by decide)
  · have hl := hl
    have hl : lv_has ls 5 [(0, .ref (ad 0)), (1, .int (nI c)), (2, .int 8)] := hl
    refine lv_aload_n hx hb dX2_tellOfCask_0 rfl (lv_at hl 0 rfl) ?_
    refine cy_get hC (0) (by decide) hi2 hW (rfl) rfl 8 (by decide) (hts (.fieldLink RX2 30 "CaskYard" "casks" "[LCaskYard$Cask;") (by decide +kernel)) (fun _ h9 => h9) (v := .ref (ad 7)) rfl dX2_tellOfCask_1 ?_
    refine lv_iload_n hx hb dX2_tellOfCask_4 rfl (lv_at hl 1 rfl) ?_
    refine cy_aald hC (7) (by decide) hW 3 (i := c) (a := ad (3 * c + 11)) (rfl) rfl (by omega) (by decide) rfl dX2_tellOfCask_5 ?_
    refine lv_astore_n (lv' := [(3, .ref (ad (3 * c + 11))), (0, .ref (ad 0)), (1, .int (nI c)), (2, .int 8)]) hx hb dX2_tellOfCask_6 rfl hl (by decide) rfl (fun ls hl => ?_)
    refine lv_iload_n hx hb dX2_tellOfCask_7 rfl (lv_at hl 3 rfl) ?_
    refine lv_bipush (v := 8) hx hb dX2_tellOfCask_8 (by decide) ?_
    refine lv_isub hx hb dX2_tellOfCask_10 ?_
    refine cy_top (y := 0) (by decide) ?_
    refine lv_istore (lv' := [(4, .int 0), (3, .ref (ad (3 * c + 11))), (0, .ref (ad 0)), (1, .int (nI c)), (2, .int 8)]) hx hb dX2_tellOfCask_11 hl (by decide) rfl (fun ls hl => ?_)
    refine lv_iload hx hb dX2_tellOfCask_13 (lv_at hl 0 rfl) ?_
    refine lv_if_lt (tgt := 32) hx hb dX2_tellOfCask_15 (by decide) (fun c_15 => ?_) (fun c_15 => ?_)
    · exact absurd c_15 (by decide)
    · skip
      refine lv_iload hx hb dX2_tellOfCask_18 (lv_at hl 0 rfl) ?_
      refine lv_iconst (v := 5) hx hb dX2_tellOfCask_20 (by decide) ?_
      refine lv_icmp_ge (tgt := 32) hx hb dX2_tellOfCask_21 (by decide) (fun c_21 => ?_) (fun c_21 => ?_)
      · exact absurd c_21 (by decide)
      · skip
        refine lv_aload_n hx hb dX2_tellOfCask_24 rfl (lv_at hl 1 rfl) ?_
        refine cy_get hC (3 * c + 11) (by omega) hi1 hW (cy_eY_o) rfl 10 (by decide) (hts (.fieldLink RX2 206 "CaskYard$Cask" "amounts" "[I") (by decide +kernel)) (fun _ h9 => h9) (v := .ref (ad (3 * c + 13))) rfl dX2_tellOfCask_25 ?_
        refine lv_iload hx hb dX2_tellOfCask_28 (lv_at hl 0 rfl) ?_
        refine cy_iald hC (3 * c + 13) (by omega) hW 0 (i := 0) (cy_eY_a) rfl (by omega) (by decide) dX2_tellOfCask_30 ?_
        exact hE _ _ _ _ _ _ (Nat.le_of_ble_eq_true rfl) (Nat.le_of_ble_eq_true rfl) hW dX2_tellOfCask_31
  · have hl := hl
    have hl : lv_has ls 5 [(0, .ref (ad 0)), (1, .int (nI c)), (2, .int 9)] := hl
    refine lv_aload_n hx hb dX2_tellOfCask_0 rfl (lv_at hl 0 rfl) ?_
    refine cy_get hC (0) (by decide) hi2 hW (rfl) rfl 8 (by decide) (hts (.fieldLink RX2 30 "CaskYard" "casks" "[LCaskYard$Cask;") (by decide +kernel)) (fun _ h9 => h9) (v := .ref (ad 7)) rfl dX2_tellOfCask_1 ?_
    refine lv_iload_n hx hb dX2_tellOfCask_4 rfl (lv_at hl 1 rfl) ?_
    refine cy_aald hC (7) (by decide) hW 3 (i := c) (a := ad (3 * c + 11)) (rfl) rfl (by omega) (by decide) rfl dX2_tellOfCask_5 ?_
    refine lv_astore_n (lv' := [(3, .ref (ad (3 * c + 11))), (0, .ref (ad 0)), (1, .int (nI c)), (2, .int 9)]) hx hb dX2_tellOfCask_6 rfl hl (by decide) rfl (fun ls hl => ?_)
    refine lv_iload_n hx hb dX2_tellOfCask_7 rfl (lv_at hl 3 rfl) ?_
    refine lv_bipush (v := 8) hx hb dX2_tellOfCask_8 (by decide) ?_
    refine lv_isub hx hb dX2_tellOfCask_10 ?_
    refine cy_top (y := 1) (by decide) ?_
    refine lv_istore (lv' := [(4, .int 1), (3, .ref (ad (3 * c + 11))), (0, .ref (ad 0)), (1, .int (nI c)), (2, .int 9)]) hx hb dX2_tellOfCask_11 hl (by decide) rfl (fun ls hl => ?_)
    refine lv_iload hx hb dX2_tellOfCask_13 (lv_at hl 0 rfl) ?_
    refine lv_if_lt (tgt := 32) hx hb dX2_tellOfCask_15 (by decide) (fun c_15 => ?_) (fun c_15 => ?_)
    · exact absurd c_15 (by decide)
    · skip
      refine lv_iload hx hb dX2_tellOfCask_18 (lv_at hl 0 rfl) ?_
      refine lv_iconst (v := 5) hx hb dX2_tellOfCask_20 (by decide) ?_
      refine lv_icmp_ge (tgt := 32) hx hb dX2_tellOfCask_21 (by decide) (fun c_21 => ?_) (fun c_21 => ?_)
      · exact absurd c_21 (by decide)
      · skip
        refine lv_aload_n hx hb dX2_tellOfCask_24 rfl (lv_at hl 1 rfl) ?_
        refine cy_get hC (3 * c + 11) (by omega) hi1 hW (cy_eY_o) rfl 10 (by decide) (hts (.fieldLink RX2 206 "CaskYard$Cask" "amounts" "[I") (by decide +kernel)) (fun _ h9 => h9) (v := .ref (ad (3 * c + 13))) rfl dX2_tellOfCask_25 ?_
        refine lv_iload hx hb dX2_tellOfCask_28 (lv_at hl 0 rfl) ?_
        refine cy_iald hC (3 * c + 13) (by omega) hW 0 (i := 1) (cy_eY_a) rfl (by omega) (by decide) dX2_tellOfCask_30 ?_
        exact hE _ _ _ _ _ _ (Nat.le_of_ble_eq_true rfl) (Nat.le_of_ble_eq_true rfl) hW dX2_tellOfCask_31
  · have hl := hl
    have hl : lv_has ls 5 [(0, .ref (ad 0)), (1, .int (nI c)), (2, .int 10)] := hl
    refine lv_aload_n hx hb dX2_tellOfCask_0 rfl (lv_at hl 0 rfl) ?_
    refine cy_get hC (0) (by decide) hi2 hW (rfl) rfl 8 (by decide) (hts (.fieldLink RX2 30 "CaskYard" "casks" "[LCaskYard$Cask;") (by decide +kernel)) (fun _ h9 => h9) (v := .ref (ad 7)) rfl dX2_tellOfCask_1 ?_
    refine lv_iload_n hx hb dX2_tellOfCask_4 rfl (lv_at hl 1 rfl) ?_
    refine cy_aald hC (7) (by decide) hW 3 (i := c) (a := ad (3 * c + 11)) (rfl) rfl (by omega) (by decide) rfl dX2_tellOfCask_5 ?_
    refine lv_astore_n (lv' := [(3, .ref (ad (3 * c + 11))), (0, .ref (ad 0)), (1, .int (nI c)), (2, .int 10)]) hx hb dX2_tellOfCask_6 rfl hl (by decide) rfl (fun ls hl => ?_)
    refine lv_iload_n hx hb dX2_tellOfCask_7 rfl (lv_at hl 3 rfl) ?_
    refine lv_bipush (v := 8) hx hb dX2_tellOfCask_8 (by decide) ?_
    refine lv_isub hx hb dX2_tellOfCask_10 ?_
    refine cy_top (y := 2) (by decide) ?_
    refine lv_istore (lv' := [(4, .int 2), (3, .ref (ad (3 * c + 11))), (0, .ref (ad 0)), (1, .int (nI c)), (2, .int 10)]) hx hb dX2_tellOfCask_11 hl (by decide) rfl (fun ls hl => ?_)
    refine lv_iload hx hb dX2_tellOfCask_13 (lv_at hl 0 rfl) ?_
    refine lv_if_lt (tgt := 32) hx hb dX2_tellOfCask_15 (by decide) (fun c_15 => ?_) (fun c_15 => ?_)
    · exact absurd c_15 (by decide)
    · skip
      refine lv_iload hx hb dX2_tellOfCask_18 (lv_at hl 0 rfl) ?_
      refine lv_iconst (v := 5) hx hb dX2_tellOfCask_20 (by decide) ?_
      refine lv_icmp_ge (tgt := 32) hx hb dX2_tellOfCask_21 (by decide) (fun c_21 => ?_) (fun c_21 => ?_)
      · exact absurd c_21 (by decide)
      · skip
        refine lv_aload_n hx hb dX2_tellOfCask_24 rfl (lv_at hl 1 rfl) ?_
        refine cy_get hC (3 * c + 11) (by omega) hi1 hW (cy_eY_o) rfl 10 (by decide) (hts (.fieldLink RX2 206 "CaskYard$Cask" "amounts" "[I") (by decide +kernel)) (fun _ h9 => h9) (v := .ref (ad (3 * c + 13))) rfl dX2_tellOfCask_25 ?_
        refine lv_iload hx hb dX2_tellOfCask_28 (lv_at hl 0 rfl) ?_
        refine cy_iald hC (3 * c + 13) (by omega) hW 0 (i := 2) (cy_eY_a) rfl (by omega) (by decide) dX2_tellOfCask_30 ?_
        exact hE _ _ _ _ _ _ (Nat.le_of_ble_eq_true rfl) (Nat.le_of_ble_eq_true rfl) hW dX2_tellOfCask_31
  · have hl := hl
    have hl : lv_has ls 5 [(0, .ref (ad 0)), (1, .int (nI c)), (2, .int 11)] := hl
    refine lv_aload_n hx hb dX2_tellOfCask_0 rfl (lv_at hl 0 rfl) ?_
    refine cy_get hC (0) (by decide) hi2 hW (rfl) rfl 8 (by decide) (hts (.fieldLink RX2 30 "CaskYard" "casks" "[LCaskYard$Cask;") (by decide +kernel)) (fun _ h9 => h9) (v := .ref (ad 7)) rfl dX2_tellOfCask_1 ?_
    refine lv_iload_n hx hb dX2_tellOfCask_4 rfl (lv_at hl 1 rfl) ?_
    refine cy_aald hC (7) (by decide) hW 3 (i := c) (a := ad (3 * c + 11)) (rfl) rfl (by omega) (by decide) rfl dX2_tellOfCask_5 ?_
    refine lv_astore_n (lv' := [(3, .ref (ad (3 * c + 11))), (0, .ref (ad 0)), (1, .int (nI c)), (2, .int 11)]) hx hb dX2_tellOfCask_6 rfl hl (by decide) rfl (fun ls hl => ?_)
    refine lv_iload_n hx hb dX2_tellOfCask_7 rfl (lv_at hl 3 rfl) ?_
    refine lv_bipush (v := 8) hx hb dX2_tellOfCask_8 (by decide) ?_
    refine lv_isub hx hb dX2_tellOfCask_10 ?_
    refine cy_top (y := 3) (by decide) ?_
    refine lv_istore (lv' := [(4, .int 3), (3, .ref (ad (3 * c + 11))), (0, .ref (ad 0)), (1, .int (nI c)), (2, .int 11)]) hx hb dX2_tellOfCask_11 hl (by decide) rfl (fun ls hl => ?_)
    refine lv_iload hx hb dX2_tellOfCask_13 (lv_at hl 0 rfl) ?_
    refine lv_if_lt (tgt := 32) hx hb dX2_tellOfCask_15 (by decide) (fun c_15 => ?_) (fun c_15 => ?_)
    · exact absurd c_15 (by decide)
    · skip
      refine lv_iload hx hb dX2_tellOfCask_18 (lv_at hl 0 rfl) ?_
      refine lv_iconst (v := 5) hx hb dX2_tellOfCask_20 (by decide) ?_
      refine lv_icmp_ge (tgt := 32) hx hb dX2_tellOfCask_21 (by decide) (fun c_21 => ?_) (fun c_21 => ?_)
      · exact absurd c_21 (by decide)
      · skip
        refine lv_aload_n hx hb dX2_tellOfCask_24 rfl (lv_at hl 1 rfl) ?_
        refine cy_get hC (3 * c + 11) (by omega) hi1 hW (cy_eY_o) rfl 10 (by decide) (hts (.fieldLink RX2 206 "CaskYard$Cask" "amounts" "[I") (by decide +kernel)) (fun _ h9 => h9) (v := .ref (ad (3 * c + 13))) rfl dX2_tellOfCask_25 ?_
        refine lv_iload hx hb dX2_tellOfCask_28 (lv_at hl 0 rfl) ?_
        refine cy_iald hC (3 * c + 13) (by omega) hW 0 (i := 3) (cy_eY_a) rfl (by omega) (by decide) dX2_tellOfCask_30 ?_
        exact hE _ _ _ _ _ _ (Nat.le_of_ble_eq_true rfl) (Nat.le_of_ble_eq_true rfl) hW dX2_tellOfCask_31
  · have hl := hl
    have hl : lv_has ls 5 [(0, .ref (ad 0)), (1, .int (nI c)), (2, .int 12)] := hl
    refine lv_aload_n hx hb dX2_tellOfCask_0 rfl (lv_at hl 0 rfl) ?_
    refine cy_get hC (0) (by decide) hi2 hW (rfl) rfl 8 (by decide) (hts (.fieldLink RX2 30 "CaskYard" "casks" "[LCaskYard$Cask;") (by decide +kernel)) (fun _ h9 => h9) (v := .ref (ad 7)) rfl dX2_tellOfCask_1 ?_
    refine lv_iload_n hx hb dX2_tellOfCask_4 rfl (lv_at hl 1 rfl) ?_
    refine cy_aald hC (7) (by decide) hW 3 (i := c) (a := ad (3 * c + 11)) (rfl) rfl (by omega) (by decide) rfl dX2_tellOfCask_5 ?_
    refine lv_astore_n (lv' := [(3, .ref (ad (3 * c + 11))), (0, .ref (ad 0)), (1, .int (nI c)), (2, .int 12)]) hx hb dX2_tellOfCask_6 rfl hl (by decide) rfl (fun ls hl => ?_)
    refine lv_iload_n hx hb dX2_tellOfCask_7 rfl (lv_at hl 3 rfl) ?_
    refine lv_bipush (v := 8) hx hb dX2_tellOfCask_8 (by decide) ?_
    refine lv_isub hx hb dX2_tellOfCask_10 ?_
    refine cy_top (y := 4) (by decide) ?_
    refine lv_istore (lv' := [(4, .int 4), (3, .ref (ad (3 * c + 11))), (0, .ref (ad 0)), (1, .int (nI c)), (2, .int 12)]) hx hb dX2_tellOfCask_11 hl (by decide) rfl (fun ls hl => ?_)
    refine lv_iload hx hb dX2_tellOfCask_13 (lv_at hl 0 rfl) ?_
    refine lv_if_lt (tgt := 32) hx hb dX2_tellOfCask_15 (by decide) (fun c_15 => ?_) (fun c_15 => ?_)
    · exact absurd c_15 (by decide)
    · skip
      refine lv_iload hx hb dX2_tellOfCask_18 (lv_at hl 0 rfl) ?_
      refine lv_iconst (v := 5) hx hb dX2_tellOfCask_20 (by decide) ?_
      refine lv_icmp_ge (tgt := 32) hx hb dX2_tellOfCask_21 (by decide) (fun c_21 => ?_) (fun c_21 => ?_)
      · exact absurd c_21 (by decide)
      · skip
        refine lv_aload_n hx hb dX2_tellOfCask_24 rfl (lv_at hl 1 rfl) ?_
        refine cy_get hC (3 * c + 11) (by omega) hi1 hW (cy_eY_o) rfl 10 (by decide) (hts (.fieldLink RX2 206 "CaskYard$Cask" "amounts" "[I") (by decide +kernel)) (fun _ h9 => h9) (v := .ref (ad (3 * c + 13))) rfl dX2_tellOfCask_25 ?_
        refine lv_iload hx hb dX2_tellOfCask_28 (lv_at hl 0 rfl) ?_
        refine cy_iald hC (3 * c + 13) (by omega) hW 0 (i := 4) (cy_eY_a) rfl (by omega) (by decide) dX2_tellOfCask_30 ?_
        exact hE _ _ _ _ _ _ (Nat.le_of_ble_eq_true rfl) (Nat.le_of_ble_eq_true rfl) hW dX2_tellOfCask_31
  · have hl := hl
    have hl : lv_has ls 5 [(0, .ref (ad 0)), (1, .int (nI c)), (2, .int 13)] := hl
    refine lv_aload_n hx hb dX2_tellOfCask_0 rfl (lv_at hl 0 rfl) ?_
    refine cy_get hC (0) (by decide) hi2 hW (rfl) rfl 8 (by decide) (hts (.fieldLink RX2 30 "CaskYard" "casks" "[LCaskYard$Cask;") (by decide +kernel)) (fun _ h9 => h9) (v := .ref (ad 7)) rfl dX2_tellOfCask_1 ?_
    refine lv_iload_n hx hb dX2_tellOfCask_4 rfl (lv_at hl 1 rfl) ?_
    refine cy_aald hC (7) (by decide) hW 3 (i := c) (a := ad (3 * c + 11)) (rfl) rfl (by omega) (by decide) rfl dX2_tellOfCask_5 ?_
    refine lv_astore_n (lv' := [(3, .ref (ad (3 * c + 11))), (0, .ref (ad 0)), (1, .int (nI c)), (2, .int 13)]) hx hb dX2_tellOfCask_6 rfl hl (by decide) rfl (fun ls hl => ?_)
    refine lv_iload_n hx hb dX2_tellOfCask_7 rfl (lv_at hl 3 rfl) ?_
    refine lv_bipush (v := 8) hx hb dX2_tellOfCask_8 (by decide) ?_
    refine lv_isub hx hb dX2_tellOfCask_10 ?_
    refine cy_top (y := 5) (by decide) ?_
    refine lv_istore (lv' := [(4, .int 5), (3, .ref (ad (3 * c + 11))), (0, .ref (ad 0)), (1, .int (nI c)), (2, .int 13)]) hx hb dX2_tellOfCask_11 hl (by decide) rfl (fun ls hl => ?_)
    refine lv_iload hx hb dX2_tellOfCask_13 (lv_at hl 0 rfl) ?_
    refine lv_if_lt (tgt := 32) hx hb dX2_tellOfCask_15 (by decide) (fun c_15 => ?_) (fun c_15 => ?_)
    · exact absurd c_15 (by decide)
    · skip
      refine lv_iload hx hb dX2_tellOfCask_18 (lv_at hl 0 rfl) ?_
      refine lv_iconst (v := 5) hx hb dX2_tellOfCask_20 (by decide) ?_
      refine lv_icmp_ge (tgt := 32) hx hb dX2_tellOfCask_21 (by decide) (fun c_21 => ?_) (fun c_21 => ?_)
      · skip
        refine lv_iload_n hx hb dX2_tellOfCask_32 rfl (lv_at hl 4 rfl) ?_
        refine lv_tableIn (off := 116) (tgt := 149) hx hb dX2_tellOfCask_33 (by decide) (by decide) (by decide) (by decide) ?_
        refine lv_aload_n hx hb dX2_tellOfCask_149 rfl (lv_at hl 1 rfl) ?_
        refine cy_get hC (3 * c + 11) (by omega) hi1 hW (cy_eY_o) rfl 8 (by decide) (hts (.fieldLink RX2 263 "CaskYard$Cask" "grains" "I") (by decide +kernel)) (fun _ h9 => h9) (v := .int (S (3 * c + 11) 8)) rfl dX2_tellOfCask_150 ?_
        exact hE _ _ _ _ _ _ (Nat.le_of_ble_eq_true rfl) (Nat.le_of_ble_eq_true rfl) hW dX2_tellOfCask_153
      · exact absurd c_21 (by decide)
  · have hl := hl
    have hl : lv_has ls 5 [(0, .ref (ad 0)), (1, .int (nI c)), (2, .int 14)] := hl
    refine lv_aload_n hx hb dX2_tellOfCask_0 rfl (lv_at hl 0 rfl) ?_
    refine cy_get hC (0) (by decide) hi2 hW (rfl) rfl 8 (by decide) (hts (.fieldLink RX2 30 "CaskYard" "casks" "[LCaskYard$Cask;") (by decide +kernel)) (fun _ h9 => h9) (v := .ref (ad 7)) rfl dX2_tellOfCask_1 ?_
    refine lv_iload_n hx hb dX2_tellOfCask_4 rfl (lv_at hl 1 rfl) ?_
    refine cy_aald hC (7) (by decide) hW 3 (i := c) (a := ad (3 * c + 11)) (rfl) rfl (by omega) (by decide) rfl dX2_tellOfCask_5 ?_
    refine lv_astore_n (lv' := [(3, .ref (ad (3 * c + 11))), (0, .ref (ad 0)), (1, .int (nI c)), (2, .int 14)]) hx hb dX2_tellOfCask_6 rfl hl (by decide) rfl (fun ls hl => ?_)
    refine lv_iload_n hx hb dX2_tellOfCask_7 rfl (lv_at hl 3 rfl) ?_
    refine lv_bipush (v := 8) hx hb dX2_tellOfCask_8 (by decide) ?_
    refine lv_isub hx hb dX2_tellOfCask_10 ?_
    refine cy_top (y := 6) (by decide) ?_
    refine lv_istore (lv' := [(4, .int 6), (3, .ref (ad (3 * c + 11))), (0, .ref (ad 0)), (1, .int (nI c)), (2, .int 14)]) hx hb dX2_tellOfCask_11 hl (by decide) rfl (fun ls hl => ?_)
    refine lv_iload hx hb dX2_tellOfCask_13 (lv_at hl 0 rfl) ?_
    refine lv_if_lt (tgt := 32) hx hb dX2_tellOfCask_15 (by decide) (fun c_15 => ?_) (fun c_15 => ?_)
    · exact absurd c_15 (by decide)
    · skip
      refine lv_iload hx hb dX2_tellOfCask_18 (lv_at hl 0 rfl) ?_
      refine lv_iconst (v := 5) hx hb dX2_tellOfCask_20 (by decide) ?_
      refine lv_icmp_ge (tgt := 32) hx hb dX2_tellOfCask_21 (by decide) (fun c_21 => ?_) (fun c_21 => ?_)
      · skip
        refine lv_iload_n hx hb dX2_tellOfCask_32 rfl (lv_at hl 4 rfl) ?_
        refine lv_tableIn (off := 121) (tgt := 154) hx hb dX2_tellOfCask_33 (by decide) (by decide) (by decide) (by decide) ?_
        refine lv_aload_n hx hb dX2_tellOfCask_154 rfl (lv_at hl 1 rfl) ?_
        refine cy_callV (As := []) (rest := []) (q0 := 3 * c + 11) (ci := 1) hC.1 hC.2.1 hC.2.2 hW (c_X1_leak (c := c) (by omega)) (cwV 0 hts gX2_tellOfCask_X1_leak rfl rfl rfl (by decide +kernel) ⟨Nat.le_of_ble_eq_true rfl, Nat.le_of_ble_eq_true rfl⟩) (cy_w_at (by omega) (cy_eY_o)) rfl rfl hl.1 rfl (Nat.le_of_ble_eq_true rfl) dX2_tellOfCask_155 ⟨Nat.le_of_ble_eq_true rfl, Nat.le_of_ble_eq_true rfl⟩ (k' := 0) (n' := 0) rfl rfl (fun H locs hW => ?_)
        exact hE _ _ _ _ _ _ (Nat.le_of_ble_eq_true rfl) (Nat.le_of_ble_eq_true rfl) hW dX2_tellOfCask_158
      · exact absurd c_21 (by decide)
  · have hl := hl
    have hl : lv_has ls 5 [(0, .ref (ad 0)), (1, .int (nI c)), (2, .int 15)] := hl
    refine lv_aload_n hx hb dX2_tellOfCask_0 rfl (lv_at hl 0 rfl) ?_
    refine cy_get hC (0) (by decide) hi2 hW (rfl) rfl 8 (by decide) (hts (.fieldLink RX2 30 "CaskYard" "casks" "[LCaskYard$Cask;") (by decide +kernel)) (fun _ h9 => h9) (v := .ref (ad 7)) rfl dX2_tellOfCask_1 ?_
    refine lv_iload_n hx hb dX2_tellOfCask_4 rfl (lv_at hl 1 rfl) ?_
    refine cy_aald hC (7) (by decide) hW 3 (i := c) (a := ad (3 * c + 11)) (rfl) rfl (by omega) (by decide) rfl dX2_tellOfCask_5 ?_
    refine lv_astore_n (lv' := [(3, .ref (ad (3 * c + 11))), (0, .ref (ad 0)), (1, .int (nI c)), (2, .int 15)]) hx hb dX2_tellOfCask_6 rfl hl (by decide) rfl (fun ls hl => ?_)
    refine lv_iload_n hx hb dX2_tellOfCask_7 rfl (lv_at hl 3 rfl) ?_
    refine lv_bipush (v := 8) hx hb dX2_tellOfCask_8 (by decide) ?_
    refine lv_isub hx hb dX2_tellOfCask_10 ?_
    refine cy_top (y := 7) (by decide) ?_
    refine lv_istore (lv' := [(4, .int 7), (3, .ref (ad (3 * c + 11))), (0, .ref (ad 0)), (1, .int (nI c)), (2, .int 15)]) hx hb dX2_tellOfCask_11 hl (by decide) rfl (fun ls hl => ?_)
    refine lv_iload hx hb dX2_tellOfCask_13 (lv_at hl 0 rfl) ?_
    refine lv_if_lt (tgt := 32) hx hb dX2_tellOfCask_15 (by decide) (fun c_15 => ?_) (fun c_15 => ?_)
    · exact absurd c_15 (by decide)
    · skip
      refine lv_iload hx hb dX2_tellOfCask_18 (lv_at hl 0 rfl) ?_
      refine lv_iconst (v := 5) hx hb dX2_tellOfCask_20 (by decide) ?_
      refine lv_icmp_ge (tgt := 32) hx hb dX2_tellOfCask_21 (by decide) (fun c_21 => ?_) (fun c_21 => ?_)
      · skip
        refine lv_iload_n hx hb dX2_tellOfCask_32 rfl (lv_at hl 4 rfl) ?_
        refine lv_tableOut (tgt := 159) hx hb dX2_tellOfCask_33 (by decide) (by decide) ?_
        refine lv_aload_n hx hb dX2_tellOfCask_159 rfl (lv_at hl 1 rfl) ?_
        refine cy_get hC (3 * c + 11) (by omega) hi1 hW (cy_eY_o) rfl 2 (by decide) (hts (.fieldLink RX2 127 "CaskYard$Cask" "sound" "Z") (by decide +kernel)) (fun _ h9 => h9) (v := .int (S (3 * c + 11) 2)) rfl dX2_tellOfCask_160 ?_
        refine lv_if_eq (tgt := 170) hx hb dX2_tellOfCask_163 (by decide) (fun c_163 => ?_) (fun c_163 => ?_)
        · skip
          refine lv_iconst (v := 0) hx hb dX2_tellOfCask_170 (by decide) ?_
          refine cy_top (y := if S (3 * c + 11) 2 = 0 then 0 else 1) (by simp only [c_163, ↓reduceIte]) ?_
          exact hE _ _ _ _ _ _ (Nat.le_of_ble_eq_true rfl) (Nat.le_of_ble_eq_true rfl) hW dX2_tellOfCask_171
        · skip
          refine lv_iconst (v := 1) hx hb dX2_tellOfCask_166 (by decide) ?_
          refine lv_goto (tgt := 171) hx hb dX2_tellOfCask_167 (by decide) ?_
          refine cy_top (y := if S (3 * c + 11) 2 = 0 then 0 else 1) (by simp only [c_163, ↓reduceIte]) ?_
          exact hE _ _ _ _ _ _ (Nat.le_of_ble_eq_true rfl) (Nat.le_of_ble_eq_true rfl) hW dX2_tellOfCask_171
      · exact absurd c_21 (by decide)
abbrev rm_X2_digestCask : Room := { frames := 3, cells := 0, slots := 0, locals := 66 }
set_option maxHeartbeats 4000000 in
set_option maxRecDepth 100000 in
theorem c_X2_digestCask {l : Launch} {D : va_G} {kI kJ kZ kC : ClassId} {ad : Nat → Nat} {S : Nat → Nat → Int32} {tl : va_W} {Z : Nat → Int64} {d : Int64} {c k : Nat} (hc : c < 12) (hho : S (3 * c + 11) 4 = nI k) (hk : k ≤ 8) {ns : Nat} (hns : S 0 3 = nI ns) (h60 : ns ≤ 60) : cy_M l yX2_digestCask wsX2_digestCask rm_X2_digestCask D (cy_tys kI kJ kZ kC) [.ref (ad 0), .long d, .int (nI c)] (cy_Y kI kJ kC ad S Z tl) (some (.long (cy_du (S (3 * c + 12)) (cy_dt S ns c d 16) k))) (cy_Y kI kJ kC ad S Z tl) := by
  refine cy_of (own := RX2) (cc := cX2_digestCask) (maxL := 8) (ret := (some .long)) (i := .lreturn) (by decide) rfl rfl (Nat.le_of_ble_eq_true rfl) cy_endL ?_
  intro p e s m args below meth co Q A ls hC hE hW hl
  have hx := hC.1.1; have hb := hC.1.2.1; have hml := hC.1.2.2.1; have hown := hC.1.2.2.2.1; have hts := hC.1.2.2.2.2
  have hl : lv_has ls 8 [(0, .ref (ad 0)), (1, .long d), (3, .int (nI c))] := hl
  have hi1 : ∀ w ∈ u_ws RX1 TX1 11, w ∈ wsX2_digestCask := by decide +kernel
  have hi2 : ∀ w ∈ u_ws RX2 TX2 17, w ∈ wsX2_digestCask := by decide +kernel
  refine lv_lload_n hx hb dX2_digestCask_0 rfl (lv_at hl 1 rfl) ?_
  refine lv_lstore (lv' := [(4, .long d), (0, .ref (ad 0)), (1, .long d), (3, .int (nI c))]) hx hb dX2_digestCask_1 hl (by decide) rfl (fun ls hl => ?_)
  refine lv_iconst (v := 0) hx hb dX2_digestCask_3 (by decide) ?_
  refine lv_istore (lv' := [(6, .int 0), (4, .long d), (0, .ref (ad 0)), (1, .long d), (3, .int (nI c))]) hx hb dX2_digestCask_4 hl (by decide) rfl (fun ls hl => ?_)
  have L_6 : ∀ (fu : Nat) (i : Nat), 16 - i < fu → (i ≤ 16) → ∀ (H : Heap) (locs : List Loc), cy_W D A s.heap (cy_Y kI kJ kC ad S Z tl) H locs → ∀ (ls : Array Slot), lv_has ls 8 [(4, .long (cy_dt S ns c d i)), (6, .int (nI i)), (0, .ref (ad 0)), (1, .long d), (3, .int (nI c))] → W p l e rm_X2_digestCask s m args below meth co H locs 0 0 Q (F0 m 6 ls []) := by
    intro fu
    induction fu with
    | zero => intro i hn; exact absurd hn (Nat.not_lt_zero _)
    | succ fu ih_6 =>
      intro i hn_6 hi H locs hW ls hl
      refine lv_iload hx hb dX2_digestCask_6 (lv_at hl 1 rfl) ?_
      refine lv_bipush (v := 16) hx hb dX2_digestCask_8 (by decide) ?_
      refine lv_icmp_ge (tgt := 36) hx hb dX2_digestCask_10 (by decide) (fun c_10 => ?_) (fun c_10 => ?_)
      · skip
        have q_10 := cy_le (a := 16) (b := i) (by omega) (by omega) c_10
        obtain rfl : i = 16 := by omega
        refine lv_aload_n hx hb dX2_digestCask_36 rfl (lv_at hl 2 rfl) ?_
        refine cy_get hC (0) (by decide) hi2 hW (rfl) rfl 8 (by decide) (hts (.fieldLink RX2 30 "CaskYard" "casks" "[LCaskYard$Cask;") (by decide +kernel)) (fun _ h9 => h9) (v := .ref (ad 7)) rfl dX2_digestCask_37 ?_
        refine lv_iload_n hx hb dX2_digestCask_40 rfl (lv_at hl 4 rfl) ?_
        refine cy_aald hC (7) (by decide) hW 3 (i := c) (a := ad (3 * c + 11)) (rfl) rfl (by omega) (by decide) rfl dX2_digestCask_41 ?_
        refine lv_astore (lv' := [(6, .ref (ad (3 * c + 11))), (4, .long (cy_dt S ns c d 16)), (0, .ref (ad 0)), (1, .long d), (3, .int (nI c))]) hx hb dX2_digestCask_42 hl (by decide) rfl (fun ls hl => ?_)
        refine lv_iconst (v := 0) hx hb dX2_digestCask_44 (by decide) ?_
        refine lv_istore (lv' := [(7, .int 0), (6, .ref (ad (3 * c + 11))), (4, .long (cy_dt S ns c d 16)), (0, .ref (ad 0)), (1, .long d), (3, .int (nI c))]) hx hb dX2_digestCask_45 hl (by decide) rfl (fun ls hl => ?_)
        have L_47 : ∀ (fu : Nat) (i : Nat), k - i < fu → (i ≤ k) → ∀ (H : Heap) (locs : List Loc), cy_W D A s.heap (cy_Y kI kJ kC ad S Z tl) H locs → ∀ (ls : Array Slot), lv_has ls 8 [(4, .long (cy_du (S (3 * c + 12)) (cy_dt S ns c d 16) i)), (7, .int (nI i)), (6, .ref (ad (3 * c + 11))), (0, .ref (ad 0)), (1, .long d), (3, .int (nI c))] → W p l e rm_X2_digestCask s m args below meth co H locs 0 0 Q (F0 m 47 ls []) := by
          intro fu
          induction fu with
          | zero => intro i hn; exact absurd hn (Nat.not_lt_zero _)
          | succ fu ih_47 =>
            intro i hn_47 hi H locs hW ls hl
            refine lv_iload hx hb dX2_digestCask_47 (lv_at hl 1 rfl) ?_
            refine lv_aload hx hb dX2_digestCask_49 (lv_at hl 2 rfl) ?_
            refine cy_get hC (3 * c + 11) (by omega) hi1 hW (cy_eY_o) rfl 4 (by decide) (hts (.fieldLink RX2 146 "CaskYard$Cask" "hoops" "I") (by decide +kernel)) (fun _ h9 => h9) (v := .int (S (3 * c + 11) 4)) rfl dX2_digestCask_51 ?_
            refine cy_top (y := nI k) hho ?_
            refine lv_icmp_ge (tgt := 88) hx hb dX2_digestCask_54 (by decide) (fun c_54 => ?_) (fun c_54 => ?_)
            · skip
              have q_54 := cy_le (a := k) (b := i) (by omega) (by omega) c_54
              obtain rfl : k = i := by omega
              refine lv_lload hx hb dX2_digestCask_88 (lv_at hl 0 rfl) ?_
              exact hE _ _ _ _ _ _ (Nat.le_of_ble_eq_true rfl) (Nat.le_of_ble_eq_true rfl) hW dX2_digestCask_90
            · skip
              have q_54 := cy_nle (a := k) (b := i) (by omega) (by omega) c_54
              refine lv_iload hx hb dX2_digestCask_57 (lv_at hl 1 rfl) ?_
              refine lv_bipush (v := 8) hx hb dX2_digestCask_59 (by decide) ?_
              refine lv_icmp_ge (tgt := 88) hx hb dX2_digestCask_61 (by decide) (fun c_61 => ?_) (fun c_61 => ?_)
              · skip
                have q_61 := cy_le (a := 8) (b := i) (by omega) (by omega) c_61
                obtain rfl : k = i := by omega
                refine lv_lload hx hb dX2_digestCask_88 (lv_at hl 0 rfl) ?_
                exact hE _ _ _ _ _ _ (Nat.le_of_ble_eq_true rfl) (Nat.le_of_ble_eq_true rfl) hW dX2_digestCask_90
              · skip
                have q_61 := cy_nle (a := 8) (b := i) (by omega) (by omega) c_61
                refine lv_lload hx hb dX2_digestCask_64 (lv_at hl 0 rfl) ?_
                refine lv_ldc2 (v := 31) hx hb hown (hts (.constantLong RX2 289 31) (by decide +kernel)) dX2_digestCask_66 ?_
                refine lv_lmul hx hb dX2_digestCask_69 ?_
                refine lv_aload hx hb dX2_digestCask_70 (lv_at hl 2 rfl) ?_
                refine cy_get hC (3 * c + 11) (by omega) hi1 hW (cy_eY_o) rfl 9 (by decide) (hts (.fieldLink RX2 153 "CaskYard$Cask" "tensions" "[I") (by decide +kernel)) (fun _ h9 => h9) (v := .ref (ad (3 * c + 12))) rfl dX2_digestCask_72 ?_
                refine lv_iload hx hb dX2_digestCask_75 (lv_at hl 1 rfl) ?_
                refine cy_iald hC (3 * c + 12) (by omega) hW 0 (i := i) (cy_eY_t) rfl (by omega) (by decide) dX2_digestCask_77 ?_
                refine lv_i2l hx hb dX2_digestCask_78 rfl ?_
                refine lv_ladd hx hb dX2_digestCask_79 ?_
                refine lv_lstore (lv' := [(4, .long (((cy_du (S (3 * c + 12)) (cy_dt S ns c d 16) i) * 31) + ((S (3 * c + 12) i).toInt64))), (7, .int (nI i)), (6, .ref (ad (3 * c + 11))), (0, .ref (ad 0)), (1, .long d), (3, .int (nI c))]) hx hb dX2_digestCask_80 hl (by decide) rfl (fun ls hl => ?_)
                refine lv_iinc (v := nI (i + 1)) (lv' := [(7, .int (nI (i + 1))), (4, .long (((cy_du (S (3 * c + 12)) (cy_dt S ns c d 16) i) * 31) + ((S (3 * c + 12) i).toInt64))), (6, .ref (ad (3 * c + 11))), (0, .ref (ad 0)), (1, .long d), (3, .int (nI c))]) hx hb dX2_digestCask_82 hl (k := 1) rfl (nI_1 i) (by decide) rfl (fun ls hl => ?_)
                refine lv_goto (tgt := 47) hx hb dX2_digestCask_85 (by decide) ?_
                exact ih_47 (i + 1) (by omega) (by omega) _ _ hW _ (lv_sub hl [1, 0, 2, 3, 4, 5] rfl)
        exact L_47 ((k - 0) + 1) 0 (Nat.lt_succ_self _) (by omega) _ _ hW _ (lv_sub hl [2, 0, 1, 3, 4, 5] rfl)
      · skip
        have q_10 := cy_nle (a := 16) (b := i) (by omega) (by omega) c_10
        refine lv_lload hx hb dX2_digestCask_13 (lv_at hl 0 rfl) ?_
        refine lv_ldc2 (v := 31) hx hb hown (hts (.constantLong RX2 289 31) (by decide +kernel)) dX2_digestCask_15 ?_
        refine lv_lmul hx hb dX2_digestCask_18 ?_
        refine lv_aload_n hx hb dX2_digestCask_19 rfl (lv_at hl 2 rfl) ?_
        refine lv_iload_n hx hb dX2_digestCask_20 rfl (lv_at hl 4 rfl) ?_
        refine lv_iload hx hb dX2_digestCask_21 (lv_at hl 1 rfl) ?_
        refine cy_callV (As := [.int (nI c), .int (nI i)]) (rest := [.long ((cy_dt S ns c d i) * 31)]) (q0 := 0) (ci := 2) hC.1 hC.2.1 hC.2.2 hW (c_X2_tellOfCask (c := c) (x := i) (ns := ns) (by omega) (by omega) hns (by omega)) (cwV 2 hts gX2_digestCask_X2_tellOfCask rfl rfl rfl (by decide +kernel) ⟨Nat.le_of_ble_eq_true rfl, Nat.le_of_ble_eq_true rfl⟩) (cy_w_at (by decide) (rfl)) rfl rfl hl.1 rfl (Nat.le_of_ble_eq_true rfl) dX2_digestCask_23 ⟨Nat.le_of_ble_eq_true rfl, Nat.le_of_ble_eq_true rfl⟩ (k' := 0) (n' := 0) rfl rfl (fun H locs hW => ?_)
        refine lv_i2l hx hb dX2_digestCask_26 rfl ?_
        refine lv_ladd hx hb dX2_digestCask_27 ?_
        refine lv_lstore (lv' := [(4, .long (((cy_dt S ns c d i) * 31) + ((cy_tell S ns c i).toInt64))), (6, .int (nI i)), (0, .ref (ad 0)), (1, .long d), (3, .int (nI c))]) hx hb dX2_digestCask_28 hl (by decide) rfl (fun ls hl => ?_)
        refine lv_iinc (v := nI (i + 1)) (lv' := [(6, .int (nI (i + 1))), (4, .long (((cy_dt S ns c d i) * 31) + ((cy_tell S ns c i).toInt64))), (0, .ref (ad 0)), (1, .long d), (3, .int (nI c))]) hx hb dX2_digestCask_30 hl (k := 1) rfl (nI_1 i) (by decide) rfl (fun ls hl => ?_)
        refine lv_goto (tgt := 6) hx hb dX2_digestCask_33 (by decide) ?_
        exact ih_6 (i + 1) (by omega) (by omega) _ _ hW _ (lv_sub hl [1, 0, 2, 3, 4] rfl)
  exact L_6 ((16 - 0) + 1) 0 (Nat.lt_succ_self _) (by omega) _ _ hW _ (lv_sub hl [1, 0, 2, 3, 4] rfl)
