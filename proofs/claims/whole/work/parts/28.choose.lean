abbrev rm_X3_choose : Room := { frames := 2, cells := 0, slots := 0, locals := 46 }
set_option maxHeartbeats 4000000 in
set_option maxRecDepth 100000 in
theorem c_X3_choose {l : Launch} {D : va_G} {kI kJ kZ kC : ClassId} {ad : Nat → Nat} {S : Nat → Nat → Int32} {tl : va_W} {ns no : Nat} {x y : Int32} (hns : S 0 4 = nI ns) (h60 : ns ≤ 60) (hno : S 0 8 = nI no) (h6 : no ≤ 6) (hwd : ∀ i, i < ns → 1 ≤ (S 1 i).toNatClampNeg ∧ (S 1 i).toNatClampNeg ≤ 120 ∧ S 1 i = nI (S 1 i).toNatClampNeg) (hgi : ∀ j, j < no → 300 ≤ (S 4 j).toNatClampNeg ∧ (S 4 j).toNatClampNeg ≤ 1500 ∧ S 4 j = nI (S 4 j).toNatClampNeg) : cy_M l yX3_choose wsX3_choose rm_X3_choose D (cy_tys kI kJ kZ kC) [.ref (ad 0), .int x, .int y] (cy_Mw kI kZ ad S tl) (some (.int ((cq_Ch S x y ns no).2))) (cy_Mw kI kZ ad (cq_Ch S x y ns no).1 tl) := by
  refine cy_of (own := RX3) (cc := cX3_choose) (maxL := 3) (ret := (some .int)) (i := .ireturn) (by decide) rfl rfl (Nat.le_of_ble_eq_true rfl) (cy_endI rfl) ?_
  intro p e s m args below meth co Q A ls hC hE hW hl
  have hx := hC.1.1; have hb := hC.1.2.1; have hml := hC.1.2.2.1; have hown := hC.1.2.2.2.1; have hts := hC.1.2.2.2.2
  have hl : lv_has ls 3 [(0, .ref (ad 0)), (1, .int x), (2, .int y)] := hl
  have hi3 : ∀ w ∈ u_ws RX3 TX3 25, w ∈ wsX3_choose := by decide +kernel
  refine lv_aload_n hx hb dX3_choose_0 rfl (lv_at hl 0 rfl) ?_
  refine lv_iconst (v := 0) hx hb dX3_choose_1 (by decide) ?_
  refine cy_put hC (0) (by decide) hi3 tyX3 tyX3_ok nmX3 hW (rfl) rfl 0 (by decide) (hts (.fieldLink RX3 67 "CaskYardModel" "thrown" "I") (by decide +kernel)) (fun _ h9 => h9) rfl (ty := .int) (by decide +kernel) rfl rfl (Nat.le_of_ble_eq_true rfl) (upd (S 0) 0 0) cy_hM0 (S' := (va_up S 0 (upd (S 0) 0 0))) rfl dX3_choose_2 (fun H locs hW => ?_)
  refine lv_aload_n hx hb dX3_choose_5 rfl (lv_at hl 0 rfl) ?_
  refine lv_iload_n hx hb dX3_choose_6 rfl (lv_at hl 1 rfl) ?_
  refine cy_callV (rm := rm_X3_isSort) (As := [.int x]) (rest := []) (q0 := 0) (ci := 3) hC.1 hC.2.1 hC.2.2 hW (c_X3_isSort (x := x) (no := no) hno (by omega)) (cwV 1 hts gX3_choose_X3_isSort rfl rfl rfl (by decide +kernel) ⟨Nat.le_of_ble_eq_true rfl, Nat.le_of_ble_eq_true rfl⟩) (cy_w_at (by decide) (cy_rd (cy_us) rfl)) rfl rfl hl.1 rfl (Nat.le_of_ble_eq_true rfl) dX3_choose_7 ⟨Nat.le_of_ble_eq_true rfl, Nat.le_of_ble_eq_true rfl⟩ (k' := 0) (n' := 0) rfl rfl (fun H locs hW => ?_)
  refine lv_if_eq (tgt := 23) hx hb dX3_choose_10 (by decide) (fun c_10 => ?_) (fun c_10 => ?_)
  · skip
    refine lv_aload_n hx hb dX3_choose_23 rfl (lv_at hl 0 rfl) ?_
    refine lv_iconst (v := 1) hx hb dX3_choose_24 (by decide) ?_
    refine cy_callV (rm := rm_X3_no) (As := [.int 1]) (rest := []) (q0 := 0) (ci := 3) hC.1 hC.2.1 hC.2.2 hW (c_X3_no (x := 1)) (cwV 1 hts gX3_choose_X3_no rfl rfl rfl (by decide +kernel) ⟨Nat.le_of_ble_eq_true rfl, Nat.le_of_ble_eq_true rfl⟩) (cy_w_at (by decide) (cy_rd (cy_us) rfl)) rfl rfl hl.1 rfl (Nat.le_of_ble_eq_true rfl) dX3_choose_25 ⟨Nat.le_of_ble_eq_true rfl, Nat.le_of_ble_eq_true rfl⟩ (k' := 0) (n' := 0) rfl rfl (fun H locs hW => ?_)
    rw [show va_up (va_up S 0 (upd (S 0) 0 0)) 0 (upd ((va_up S 0 (upd (S 0) 0 0)) 0) 0 1) = (va_up S 0 (upd (upd (S 0) 0 0) 0 1)) from by rw [cy_us, cy_uu]] at hW
    refine cy_topv (congrArg Value.int (show 0 = (cq_Ch S x y ns no).2 from by simp only [cq_Ch, cq_th, cq_rs, cq_gi, c_10, eq_self, ↓reduceIte, not_true_eq_false, not_false_eq_true])) ?_
    have hW := cy_castS (show (va_up S 0 (upd (upd (S 0) 0 0) 0 1)) = (cq_Ch S x y ns no).1 from by simp only [cq_Ch, cq_th, cq_rs, cq_gi, c_10, eq_self, ↓reduceIte, not_true_eq_false, not_false_eq_true]) hW
    exact hE  _ _ _ _ _ _ (Nat.le_of_ble_eq_true rfl) (Nat.le_of_ble_eq_true rfl) hW dX3_choose_28
  · skip
    obtain ⟨i, hi, rfl⟩ := cq_in_t (by omega) c_10
    have cli : (nI i).toNatClampNeg = i := nI_clamp (by omega)
    have hl : lv_has ls 3 [(0, .ref (ad 0)), (1, .int (nI i)), (2, .int y)] := hl
    refine lv_iload_n hx hb dX3_choose_13 rfl (lv_at hl 2 rfl) ?_
    refine lv_iconst (v := 0) hx hb dX3_choose_14 (by decide) ?_
    refine lv_bipush (v := 59) hx hb dX3_choose_15 (by decide) ?_
    refine cy_callS (rm := rm_X3_isIn) (As := [.int y, .int 0, .int 59]) (rest := []) hC.1 hC.2.1 hC.2.2 hW (c_X3_isIn (x := y) (y := 0) (z := 59)) (va_cwS 3 hts gX3_choose_X3_isIn rfl rfl rfl (by decide +kernel) ⟨Nat.le_of_ble_eq_true rfl, Nat.le_of_ble_eq_true rfl⟩) rfl hl.1 rfl (Nat.le_of_ble_eq_true rfl) dX3_choose_17 ⟨Nat.le_of_ble_eq_true rfl, Nat.le_of_ble_eq_true rfl⟩ (k' := 0) (n' := 0) rfl rfl (fun H locs hW => ?_)
    refine lv_if_ne (tgt := 29) hx hb dX3_choose_20 (by decide) (fun c_20 => ?_) (fun c_20 => ?_)
    · skip
      refine lv_aload_n hx hb dX3_choose_29 rfl (lv_at hl 0 rfl) ?_
      refine lv_iload_n hx hb dX3_choose_30 rfl (lv_at hl 1 rfl) ?_
      refine cy_callV (rm := rm_X3_find) (As := [.int (nI i)]) (rest := []) (q0 := 0) (ci := 3) hC.1 hC.2.1 hC.2.2 hW (c_X3_find (S := (va_up S 0 (upd (S 0) 0 0))) (j := i) (g := (S 4 i).toNatClampNeg) (by omega) (hgi _ (by assumption)).2.2 (hgi _ (by assumption)).2.1 hwd hns (by omega)) (cwV 1 hts gX3_choose_X3_find rfl rfl rfl (by decide +kernel) ⟨Nat.le_of_ble_eq_true rfl, Nat.le_of_ble_eq_true rfl⟩) (cy_w_at (by decide) (cy_rd (cy_us) rfl)) rfl rfl hl.1 rfl (Nat.le_of_ble_eq_true rfl) dX3_choose_31 ⟨Nat.le_of_ble_eq_true rfl, Nat.le_of_ble_eq_true rfl⟩ (k' := 0) (n' := 0) rfl rfl (fun H locs hW => ?_)
      refine lv_if_eq (tgt := 54) hx hb dX3_choose_34 (by decide) (fun c_34 => ?_) (fun c_34 => ?_)
      · skip
        refine lv_iconst (v := (-1)) hx hb dX3_choose_54 (by decide) ?_
        refine cy_topv (congrArg Value.int (show (-1) = (cq_Ch S (nI i) y ns no).2 from by simp only [cq_Ch, cq_th, cq_rs, cq_gi, c_10, c_20, c_34, cli, eq_self, ↓reduceIte, not_true_eq_false, not_false_eq_true])) ?_
        have hW := cy_castS (show (cq_sFd (va_up S 0 (upd (S 0) 0 0)) ns ((S 4 i).toNatClampNeg)) = (cq_Ch S (nI i) y ns no).1 from by simp only [cq_Ch, cq_th, cq_rs, cq_gi, c_10, c_20, c_34, cli, eq_self, ↓reduceIte, not_true_eq_false, not_false_eq_true]) hW
        exact hE  _ _ _ _ _ _ (Nat.le_of_ble_eq_true rfl) (Nat.le_of_ble_eq_true rfl) hW dX3_choose_55
      · skip
        refine lv_iload_n hx hb dX3_choose_37 rfl (lv_at hl 2 rfl) ?_
        refine lv_aload_n hx hb dX3_choose_38 rfl (lv_at hl 0 rfl) ?_
        refine cy_get hC (0) (by decide) hi3 hW (rfl) rfl 23 (by decide) (hts (.fieldLink RX3 101 "CaskYardModel" "chosen" "I") (by decide +kernel)) (fun _ h9 => h9) (v := .int (((cq_sFd (va_up S 0 (upd (S 0) 0 0)) ns ((S 4 i).toNatClampNeg)) 0) 23)) rfl dX3_choose_39 ?_
        refine lv_icmp_ge (tgt := 54) hx hb dX3_choose_42 (by decide) (fun c_42 => ?_) (fun c_42 => ?_)
        · skip
          refine lv_iconst (v := (-1)) hx hb dX3_choose_54 (by decide) ?_
          refine cy_topv (congrArg Value.int (show (-1) = (cq_Ch S (nI i) y ns no).2 from by simp only [cq_Ch, cq_th, cq_rs, cq_gi, c_10, c_20, c_34, c_42, cli, eq_self, ↓reduceIte, not_true_eq_false, not_false_eq_true])) ?_
          have hW := cy_castS (show (cq_sFd (va_up S 0 (upd (S 0) 0 0)) ns ((S 4 i).toNatClampNeg)) = (cq_Ch S (nI i) y ns no).1 from by simp only [cq_Ch, cq_th, cq_rs, cq_gi, c_10, c_20, c_34, c_42, cli, eq_self, ↓reduceIte, not_true_eq_false, not_false_eq_true]) hW
          exact hE  _ _ _ _ _ _ (Nat.le_of_ble_eq_true rfl) (Nat.le_of_ble_eq_true rfl) hW dX3_choose_55
        · skip
          obtain ⟨k, hk, ek⟩ := cq_ch_ix (S := S) (ns := ns) (g := (S 4 i).toNatClampNeg) h60 c_20 c_42
          subst ek
          have clk : (nI k).toNatClampNeg = k := nI_clamp (by omega)
          have hl : lv_has ls 3 [(0, .ref (ad 0)), (1, .int (nI i)), (2, .int (nI k))] := hl
          refine lv_aload_n hx hb dX3_choose_45 rfl (lv_at hl 0 rfl) ?_
          refine cy_get hC (0) (by decide) hi3 hW (rfl) rfl 24 (by decide) (hts (.fieldLink RX3 64 "CaskYardModel" "choice" "[I") (by decide +kernel)) (fun _ h9 => h9) (v := .ref (ad 17)) rfl dX3_choose_46 ?_
          refine lv_iload_n hx hb dX3_choose_49 rfl (lv_at hl 2 rfl) ?_
          refine cy_iald hC (17) (by decide) hW 0 (i := k) (rfl) rfl (by omega) (by decide) dX3_choose_50 ?_
          refine lv_goto (tgt := 55) hx hb dX3_choose_51 (by decide) ?_
          refine cy_topv (congrArg Value.int (show ((cq_sFd (va_up S 0 (upd (S 0) 0 0)) ns ((S 4 i).toNatClampNeg)) 17) k = (cq_Ch S (nI i) (nI k) ns no).2 from by simp only [cq_Ch, cq_th, cq_rs, cq_gi, c_10, c_20, c_34, c_42, cli, clk, eq_self, ↓reduceIte, not_true_eq_false, not_false_eq_true])) ?_
          have hW := cy_castS (show (cq_sFd (va_up S 0 (upd (S 0) 0 0)) ns ((S 4 i).toNatClampNeg)) = (cq_Ch S (nI i) (nI k) ns no).1 from by simp only [cq_Ch, cq_th, cq_rs, cq_gi, c_10, c_20, c_34, c_42, cli, clk, eq_self, ↓reduceIte, not_true_eq_false, not_false_eq_true]) hW
          exact hE  _ _ _ _ _ _ (Nat.le_of_ble_eq_true rfl) (Nat.le_of_ble_eq_true rfl) hW dX3_choose_55
    · skip
      refine lv_aload_n hx hb dX3_choose_23 rfl (lv_at hl 0 rfl) ?_
      refine lv_iconst (v := 1) hx hb dX3_choose_24 (by decide) ?_
      refine cy_callV (rm := rm_X3_no) (As := [.int 1]) (rest := []) (q0 := 0) (ci := 3) hC.1 hC.2.1 hC.2.2 hW (c_X3_no (x := 1)) (cwV 1 hts gX3_choose_X3_no rfl rfl rfl (by decide +kernel) ⟨Nat.le_of_ble_eq_true rfl, Nat.le_of_ble_eq_true rfl⟩) (cy_w_at (by decide) (cy_rd (cy_us) rfl)) rfl rfl hl.1 rfl (Nat.le_of_ble_eq_true rfl) dX3_choose_25 ⟨Nat.le_of_ble_eq_true rfl, Nat.le_of_ble_eq_true rfl⟩ (k' := 0) (n' := 0) rfl rfl (fun H locs hW => ?_)
      rw [show va_up (va_up S 0 (upd (S 0) 0 0)) 0 (upd ((va_up S 0 (upd (S 0) 0 0)) 0) 0 1) = (va_up S 0 (upd (upd (S 0) 0 0) 0 1)) from by rw [cy_us, cy_uu]] at hW
      refine cy_topv (congrArg Value.int (show 0 = (cq_Ch S (nI i) y ns no).2 from by simp only [cq_Ch, cq_th, cq_rs, cq_gi, c_10, c_20, cli, eq_self, ↓reduceIte, not_true_eq_false, not_false_eq_true])) ?_
      have hW := cy_castS (show (va_up S 0 (upd (upd (S 0) 0 0) 0 1)) = (cq_Ch S (nI i) y ns no).1 from by simp only [cq_Ch, cq_th, cq_rs, cq_gi, c_10, c_20, cli, eq_self, ↓reduceIte, not_true_eq_false, not_false_eq_true]) hW
      exact hE  _ _ _ _ _ _ (Nat.le_of_ble_eq_true rfl) (Nat.le_of_ble_eq_true rfl) hW dX3_choose_28
