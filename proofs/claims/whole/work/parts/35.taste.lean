abbrev rm_X2_taste : Room := { frames := 2, cells := 0, slots := 0, locals := 44 }
set_option maxHeartbeats 4000000 in
set_option maxRecDepth 100000 in
theorem c_X2_taste {l : Launch} {D : va_G} {kI kJ kZ kC : ClassId} {ad : Nat → Nat} {S : Nat → Nat → Int32} {tl : va_W} {Z : Nat → Int64} {nc : Nat} (hnc : S 0 9 = nI nc) (h12 : nc ≤ 12) : cy_M l yX2_taste wsX2_taste rm_X2_taste D (cy_tys kI kJ kZ kC) [.ref (ad 0)] (cy_Y kI kJ kC ad S Z tl) (some (.double (cy_rTa S nc))) (cy_Y kI kJ kC ad S Z tl) := by
  refine cy_of (own := RX2) (cc := cX2_taste) (maxL := 5) (ret := (some .double)) (i := .dreturn) (by decide) rfl rfl (Nat.le_of_ble_eq_true rfl) cy_endD ?_
  intro p e s m args below meth co Q A ls hC hE hW hl
  have hx := hC.1.1; have hb := hC.1.2.1; have hml := hC.1.2.2.1; have hown := hC.1.2.2.2.1; have hts := hC.1.2.2.2.2
  have hl : lv_has ls 5 [(0, .ref (ad 0))] := hl
  have hi1 : ∀ w ∈ u_ws RX1 TX1 11, w ∈ wsX2_taste := by decide +kernel
  have hi2 : ∀ w ∈ u_ws RX2 TX2 17, w ∈ wsX2_taste := by decide +kernel
  refine lv_aload_n hx hb dX2_taste_0 rfl (lv_at hl 0 rfl) ?_
  refine cy_callV (rm := rm_X2_heldByAll) (As := []) (rest := []) (q0 := 0) (ci := 2) hC.1 hC.2.1 hC.2.2 hW (c_X2_heldByAll (nc := nc) hnc (by omega)) (cwV 0 hts gX2_taste_X2_heldByAll rfl rfl rfl (by decide +kernel) ⟨Nat.le_of_ble_eq_true rfl, Nat.le_of_ble_eq_true rfl⟩) (cy_w_at (by decide) (rfl)) rfl rfl hl.1 rfl (Nat.le_of_ble_eq_true rfl) dX2_taste_1 ⟨Nat.le_of_ble_eq_true rfl, Nat.le_of_ble_eq_true rfl⟩ (k' := 0) (n' := 0) rfl rfl (fun H locs hW => ?_)
  refine lv_istore_n (lv' := [(1, .int (cy_ha S nc)), (0, .ref (ad 0))]) hx hb dX2_taste_4 rfl hl (by decide) rfl (fun ls hl => ?_)
  refine lv_iload_n hx hb dX2_taste_5 rfl (lv_at hl 0 rfl) ?_
  refine lv_if_ne (tgt := 11) hx hb dX2_taste_6 (by decide) (fun c_6 => ?_) (fun c_6 => ?_)
  · skip
    refine lv_lconst (v := 0) hx hb dX2_taste_11 rfl ?_
    refine lv_lstore_n (lv' := [(2, .long 0), (1, .int (cy_ha S nc)), (0, .ref (ad 0))]) hx hb dX2_taste_12 rfl hl (by decide) rfl (fun ls hl => ?_)
    refine lv_iconst (v := 0) hx hb dX2_taste_13 (by decide) ?_
    refine lv_istore (lv' := [(4, .int 0), (2, .long 0), (1, .int (cy_ha S nc)), (0, .ref (ad 0))]) hx hb dX2_taste_14 hl (by decide) rfl (fun ls hl => ?_)
    have L_16 : ∀ (fu : Nat) (i : Nat), nc - i < fu → (i ≤ nc) → ∀ (H : Heap) (locs : List Loc), cy_W D A s.heap (cy_Y kI kJ kC ad S Z tl) H locs → ∀ (ls : Array Slot), lv_has ls 5 [(2, .long (cy_gs S i)), (4, .int (nI i)), (0, .ref (ad 0)), (1, .int (cy_ha S nc))] → W p l e rm_X2_taste s m args below meth co H locs 0 0 Q (F0 m 16 ls []) := by
      intro fu
      induction fu with
      | zero => intro i hn; exact absurd hn (Nat.not_lt_zero _)
      | succ fu ih_16 =>
        intro i hn_16 hi H locs hW ls hl
        refine lv_iload hx hb dX2_taste_16 (lv_at hl 1 rfl) ?_
        refine lv_aload_n hx hb dX2_taste_18 rfl (lv_at hl 2 rfl) ?_
        refine cy_get hC (0) (by decide) hi2 hW (rfl) rfl 9 (by decide) (hts (.fieldLink RX2 114 "CaskYard" "caskCount" "I") (by decide +kernel)) (fun _ h9 => h9) (v := .int (S 0 9)) rfl dX2_taste_19 ?_
        refine cy_top (y := nI nc) hnc ?_
        refine lv_icmp_ge (tgt := 45) hx hb dX2_taste_22 (by decide) (fun c_22 => ?_) (fun c_22 => ?_)
        · skip
          have q_22 := cy_le (a := nc) (b := i) (by omega) (by omega) c_22
          obtain rfl : nc = i := by omega
          refine lv_lload_n hx hb dX2_taste_45 rfl (lv_at hl 0 rfl) ?_
          refine lv_l2d hx hb dX2_taste_46 ?_
          refine lv_iload_n hx hb dX2_taste_47 rfl (lv_at hl 3 rfl) ?_
          refine lv_i2d hx hb dX2_taste_48 ?_
          refine lv_ddiv hx hb dX2_taste_49 (cy_nL c_6) ?_
          refine cy_topv (congrArg Value.double (show FP.ddiv (FP.l2d (cy_gs S nc)) (FP.i2d (cy_ha S nc)) = cy_rTa S nc from by simp only [cy_rTa, c_6, c_22, eq_self, ↓reduceIte, not_true_eq_false, not_false_eq_true])) ?_
          exact hE  _ _ _ _ _ _ (Nat.le_of_ble_eq_true rfl) (Nat.le_of_ble_eq_true rfl) hW dX2_taste_50
        · skip
          have q_22 := cy_nle (a := nc) (b := i) (by omega) (by omega) c_22
          refine lv_lload_n hx hb dX2_taste_25 rfl (lv_at hl 0 rfl) ?_
          refine lv_aload_n hx hb dX2_taste_26 rfl (lv_at hl 2 rfl) ?_
          refine cy_get hC (0) (by decide) hi2 hW (rfl) rfl 8 (by decide) (hts (.fieldLink RX2 30 "CaskYard" "casks" "[LCaskYard$Cask;") (by decide +kernel)) (fun _ h9 => h9) (v := .ref (ad 7)) rfl dX2_taste_27 ?_
          refine lv_iload hx hb dX2_taste_30 (lv_at hl 1 rfl) ?_
          refine cy_aald hC (7) (by decide) hW 3 (i := i) (a := ad (3 * i + 11)) (rfl) rfl (by omega) (by decide) rfl dX2_taste_32 ?_
          refine cy_get hC (3 * i + 11) (by omega) hi1 hW (cy_eY_o) rfl 8 (by decide) (hts (.fieldLink RX2 263 "CaskYard$Cask" "grains" "I") (by decide +kernel)) (fun _ h9 => h9) (v := .int (S (3 * i + 11) 8)) rfl dX2_taste_33 ?_
          refine lv_i2l hx hb dX2_taste_36 rfl ?_
          refine lv_ladd hx hb dX2_taste_37 ?_
          refine lv_lstore_n (lv' := [(2, .long ((cy_gs S i) + ((S (3 * i + 11) 8).toInt64))), (4, .int (nI i)), (0, .ref (ad 0)), (1, .int (cy_ha S nc))]) hx hb dX2_taste_38 rfl hl (by decide) rfl (fun ls hl => ?_)
          refine lv_iinc (v := nI (i + 1)) (lv' := [(4, .int (nI (i + 1))), (2, .long ((cy_gs S i) + ((S (3 * i + 11) 8).toInt64))), (0, .ref (ad 0)), (1, .int (cy_ha S nc))]) hx hb dX2_taste_39 hl (k := 1) rfl (nI_1 i) (by decide) rfl (fun ls hl => ?_)
          refine lv_goto (tgt := 16) hx hb dX2_taste_42 (by decide) ?_
          exact ih_16 (i + 1) (by omega) (by omega) _ _ hW _ (lv_sub hl [1, 0, 2, 3] rfl)
    exact L_16 ((nc - 0) + 1) 0 (Nat.lt_succ_self _) (by omega) _ _ hW _ (lv_sub hl [1, 0, 3, 2] rfl)
  · skip
    refine lv_dconst0 hx hb dX2_taste_9 ?_
    refine cy_topv (congrArg Value.double (show FP.dconst0 = cy_rTa S nc from by simp only [cy_rTa, c_6, eq_self, ↓reduceIte, not_true_eq_false, not_false_eq_true])) ?_
    exact hE  _ _ _ _ _ _ (Nat.le_of_ble_eq_true rfl) (Nat.le_of_ble_eq_true rfl) hW dX2_taste_10
abbrev rm_X3_taste : Room := { frames := 1, cells := 0, slots := 0, locals := 23 }
set_option maxHeartbeats 4000000 in
set_option maxRecDepth 100000 in
theorem c_X3_taste {l : Launch} {D : va_G} {kI kJ kZ kC : ClassId} {ad : Nat → Nat} {S : Nat → Nat → Int32} {tl : va_W} {nc : Nat} (hnc : S 0 12 = nI nc) (h12 : nc ≤ 12) : cy_M l yX3_taste wsX3_taste rm_X3_taste D (cy_tys kI kJ kZ kC) [.ref (ad 0)] (cy_Mw kI kZ ad S tl) (some (.double (cq_rTa S nc))) (cy_Mw kI kZ ad (cq_rs S) tl) := by
  refine cy_of (own := RX3) (cc := cX3_taste) (maxL := 6) (ret := (some .double)) (i := .dreturn) (by decide) rfl rfl (Nat.le_of_ble_eq_true rfl) cy_endD ?_
  intro p e s m args below meth co Q A ls hC hE hW hl
  have hx := hC.1.1; have hb := hC.1.2.1; have hml := hC.1.2.2.1; have hown := hC.1.2.2.2.1; have hts := hC.1.2.2.2.2
  have hl : lv_has ls 6 [(0, .ref (ad 0))] := hl
  have hi3 : ∀ w ∈ u_ws RX3 TX3 25, w ∈ wsX3_taste := by decide +kernel
  refine lv_aload_n hx hb dX3_taste_0 rfl (lv_at hl 0 rfl) ?_
  refine lv_iconst (v := 0) hx hb dX3_taste_1 (by decide) ?_
  refine cy_put hC (0) (by decide) hi3 tyX3 tyX3_ok nmX3 hW (rfl) rfl 0 (by decide) (hts (.fieldLink RX3 67 "CaskYardModel" "thrown" "I") (by decide +kernel)) (fun _ h9 => h9) rfl (ty := .int) (by decide +kernel) rfl rfl (Nat.le_of_ble_eq_true rfl) (upd (S 0) 0 0) cy_hM0 (S' := (va_up S 0 (upd (S 0) 0 0))) rfl dX3_taste_2 (fun H locs hW => ?_)
  refine lv_lconst (v := 0) hx hb dX3_taste_5 rfl ?_
  refine lv_lstore_n (lv' := [(1, .long 0), (0, .ref (ad 0))]) hx hb dX3_taste_6 rfl hl (by decide) rfl (fun ls hl => ?_)
  refine lv_lconst (v := 0) hx hb dX3_taste_7 rfl ?_
  refine lv_lstore_n (lv' := [(3, .long 0), (1, .long 0), (0, .ref (ad 0))]) hx hb dX3_taste_8 rfl hl (by decide) rfl (fun ls hl => ?_)
  refine lv_iconst (v := 0) hx hb dX3_taste_9 (by decide) ?_
  refine lv_istore (lv' := [(5, .int 0), (3, .long 0), (1, .long 0), (0, .ref (ad 0))]) hx hb dX3_taste_10 hl (by decide) rfl (fun ls hl => ?_)
  have L_12 : ∀ (fu : Nat) (i : Nat), nc - i < fu → (i ≤ nc) → ∀ (H : Heap) (locs : List Loc), cy_W D A s.heap (cy_Mw kI kZ ad (va_up S 0 (upd (S 0) 0 0)) tl) H locs → ∀ (ls : Array Slot), lv_has ls 6 [(1, .long (cq_gs S i)), (3, .long (cq_hs S i)), (5, .int (nI i)), (0, .ref (ad 0))] → W p l e rm_X3_taste s m args below meth co H locs 0 0 Q (F0 m 12 ls []) := by
    intro fu
    induction fu with
    | zero => intro i hn; exact absurd hn (Nat.not_lt_zero _)
    | succ fu ih_12 =>
      intro i hn_12 hi H locs hW ls hl
      refine lv_iload hx hb dX3_taste_12 (lv_at hl 2 rfl) ?_
      refine lv_aload_n hx hb dX3_taste_14 rfl (lv_at hl 3 rfl) ?_
      refine cy_get hC (0) (by decide) hi3 hW (cy_rd (cy_us) rfl) rfl 12 (by decide) (hts (.fieldLink RX3 110 "CaskYardModel" "casks" "I") (by decide +kernel)) (fun _ h9 => h9) (v := .int ((S 0) 12)) rfl dX3_taste_15 ?_
      refine cy_top (y := nI nc) hnc ?_
      refine lv_icmp_ge (tgt := 48) hx hb dX3_taste_18 (by decide) (fun c_18 => ?_) (fun c_18 => ?_)
      · skip
        have q_18 := cy_le (a := nc) (b := i) (by omega) (by omega) c_18
        obtain rfl : nc = i := by omega
        refine lv_lload_n hx hb dX3_taste_48 rfl (lv_at hl 1 rfl) ?_
        refine lv_lconst (v := 0) hx hb dX3_taste_49 rfl ?_
        refine W.lcmp hx hb dX3_taste_50 ?_
        refine lv_if_ne (tgt := 58) hx hb dX3_taste_51 (by decide) (fun c_51 => ?_) (fun c_51 => ?_)
        · skip
          refine lv_lload_n hx hb dX3_taste_58 rfl (lv_at hl 0 rfl) ?_
          refine lv_l2d hx hb dX3_taste_59 ?_
          refine lv_lload_n hx hb dX3_taste_60 rfl (lv_at hl 1 rfl) ?_
          refine lv_l2d hx hb dX3_taste_61 ?_
          refine lv_ddiv hx hb dX3_taste_62 (cy_nLL c_51) ?_
          refine cy_topv (congrArg Value.double (show FP.ddiv (FP.l2d (cq_gs S nc)) (FP.l2d (cq_hs S nc)) = cq_rTa S nc from by simp only [cq_rTa, c_18, c_51, eq_self, ↓reduceIte, not_true_eq_false, not_false_eq_true])) ?_
          exact hE  _ _ _ _ _ _ (Nat.le_of_ble_eq_true rfl) (Nat.le_of_ble_eq_true rfl) hW dX3_taste_63
        · skip
          refine lv_dconst0 hx hb dX3_taste_54 ?_
          refine lv_goto (tgt := 63) hx hb dX3_taste_55 (by decide) ?_
          refine cy_topv (congrArg Value.double (show FP.dconst0 = cq_rTa S nc from by simp only [cq_rTa, c_18, c_51, eq_self, ↓reduceIte, not_true_eq_false, not_false_eq_true])) ?_
          exact hE  _ _ _ _ _ _ (Nat.le_of_ble_eq_true rfl) (Nat.le_of_ble_eq_true rfl) hW dX3_taste_63
      · skip
        have q_18 := cy_nle (a := nc) (b := i) (by omega) (by omega) c_18
        refine lv_lload_n hx hb dX3_taste_21 rfl (lv_at hl 0 rfl) ?_
        refine lv_aload_n hx hb dX3_taste_22 rfl (lv_at hl 3 rfl) ?_
        refine cy_get hC (0) (by decide) hi3 hW (cy_rd (cy_us) rfl) rfl 21 (by decide) (hts (.fieldLink RX3 57 "CaskYardModel" "grains" "[I") (by decide +kernel)) (fun _ h9 => h9) (v := .ref (ad 15)) rfl dX3_taste_23 ?_
        refine lv_iload hx hb dX3_taste_26 (lv_at hl 2 rfl) ?_
        refine cy_iald hC (15) (by decide) hW 0 (i := i) (cy_rd (cy_un (by omega)) rfl) rfl (by omega) (by decide) dX3_taste_28 ?_
        refine lv_i2l hx hb dX3_taste_29 rfl ?_
        refine lv_ladd hx hb dX3_taste_30 ?_
        refine lv_lstore_n (lv' := [(1, .long ((cq_gs S i) + ((S 15 i).toInt64))), (3, .long (cq_hs S i)), (5, .int (nI i)), (0, .ref (ad 0))]) hx hb dX3_taste_31 rfl hl (by decide) rfl (fun ls hl => ?_)
        refine lv_lload_n hx hb dX3_taste_32 rfl (lv_at hl 1 rfl) ?_
        refine lv_aload_n hx hb dX3_taste_33 rfl (lv_at hl 3 rfl) ?_
        refine lv_iload hx hb dX3_taste_34 (lv_at hl 2 rfl) ?_
        refine cy_callV (rm := rm_X3_all) (As := [.int (nI i)]) (rest := [.long (cq_hs S i)]) (q0 := 0) (ci := 3) hC.1 hC.2.1 hC.2.2 hW (c_X3_all (c := i) (by omega)) (cwV 1 hts gX3_taste_X3_all rfl rfl rfl (by decide +kernel) ⟨Nat.le_of_ble_eq_true rfl, Nat.le_of_ble_eq_true rfl⟩) (cy_w_at (by decide) (cy_rd (cy_us) rfl)) rfl rfl hl.1 rfl (Nat.le_of_ble_eq_true rfl) dX3_taste_36 ⟨Nat.le_of_ble_eq_true rfl, Nat.le_of_ble_eq_true rfl⟩ (k' := 0) (n' := 0) rfl rfl (fun H locs hW => ?_)
        refine cy_topv (show _ = Value.int (cq_al S i) from rfl) ?_
        refine lv_i2l hx hb dX3_taste_39 rfl ?_
        refine lv_ladd hx hb dX3_taste_40 ?_
        refine lv_lstore_n (lv' := [(3, .long ((cq_hs S i) + ((cq_al S i).toInt64))), (1, .long ((cq_gs S i) + ((S 15 i).toInt64))), (5, .int (nI i)), (0, .ref (ad 0))]) hx hb dX3_taste_41 rfl hl (by decide) rfl (fun ls hl => ?_)
        refine lv_iinc (v := nI (i + 1)) (lv' := [(5, .int (nI (i + 1))), (3, .long ((cq_hs S i) + ((cq_al S i).toInt64))), (1, .long ((cq_gs S i) + ((S 15 i).toInt64))), (0, .ref (ad 0))]) hx hb dX3_taste_42 hl (k := 2) rfl (nI_1 i) (by decide) rfl (fun ls hl => ?_)
        refine lv_goto (tgt := 12) hx hb dX3_taste_45 (by decide) ?_
        exact ih_12 (i + 1) (by omega) (by omega) _ _ hW _ (lv_sub hl [2, 1, 0, 3] rfl)
  exact L_12 ((nc - 0) + 1) 0 (Nat.lt_succ_self _) (by omega) _ _ hW _ (lv_sub hl [2, 1, 0, 3] rfl)
