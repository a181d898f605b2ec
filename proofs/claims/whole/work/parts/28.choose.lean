abbrev rm_X3_choose : Room := { frames := 2, cells := 0, slots := 0, locals := 46 }
set_option maxHeartbeats 4000000 in
set_option maxRecDepth 100000 in
theorem c_X3_choose {l : Launch} {D : va_G} {kI kJ kZ kC : ClassId} {ad : Nat → Nat} {S : Nat → Nat → Int32} {tl : va_W} {ns no : Nat} {x y : Int32} (hns : S 0 4 = nI ns) (h60 : ns ≤ 60) (hno : S 0 8 = nI no) (h6 : no ≤ 6) (hwd : ∀ i, i < ns → 1 ≤ (S 1 i).toNatClampNeg ∧ (S 1 i).toNatClampNeg ≤ 120 ∧ S 1 i = nI (S 1 i).toNatClampNeg) (hgi : ∀ j, j < no → 300 ≤ (S 4 j).toNatClampNeg ∧ (S 4 j).toNatClampNeg ≤ 1500 ∧ S 4 j = nI (S 4 j).toNatClampNeg) : cy_M l yX3_choose wsX3_choose rm_X3_choose D (cy_tys kI kJ kZ kC) [.ref (ad 0), .int x, .int y] (cy_Mw kI kZ ad S tl) (some (.int ((cq_Ch S x y ns no).2))) (cy_Mw kI kZ ad (cq_Ch S x y ns no).1 tl) := by
  refine cy_of (own := RX3) (cc := cX3_choose) (maxL := 3) (ret := (some .int)) (i := .ireturn) (by decide) rfl rfl (Nat.le_of_ble_eq_true rfl) (cy_endI rfl) ?_
  intro p e s m args below meth co Q A ls hC hE hW hl
  have hx := hC.1.1; have hb := hC.1.2.1; have hml := hC.1.2.2.1; have hown := hC.1.2.2.2.1; have hts := hC.1.2.2.2.2
  have hl : lv_has ls 3 [(0, .ref (ad 0)), (1, .int x), (2, .int y)] := hl
  have hi3 : ∀ w ∈ u_ws RX3 TX3 25, w ∈ wsX3_choose := by decide +kernel
  refine lv_aload_n hx hb dX3_choose_0 rfl (lv_at hl 0 rfl) ?_
  refine lv_iconst (v := 0) hx hb dX3_choose_1 (by decide) ?_
  refine cy_put hC (0) (by decide) hi3 tyX3 tyX3_ok nmX3 hW (rfl) rfl 0 (by decide) (hts (.fieldLink RX3 67 "CaskYardModel" "thrown" "I") (by decide +kernel)) (fun _ h9 => h9) rfl (ty := .int) (by decide +kernel) rfl rfl (Nat.le_of_ble_eq_true rfl) (upd (S 0) 0 0) cy_hM0 (S' := (va_up S 0 (upd (S 0) 0 0))) rfl dX3_choose_2 (fun H locs hW => ?_)
  refine lv_aload_n hx hb dX3_choose_5 rfl (lv_at hl 0 rfl) ?_
  refine lv_iload_n hx hb dX3_choose_6 rfl (lv_at hl 1 rfl) ?_
  refine cy_callV (rm := rm_X3_isSort) (As := [.int x]) (rest := []) (q0 := 0) (ci := 3) hC.1 hC.2.1 hC.2.2 hW (c_X3_isSort (x := x) (no := no) hno (by omega)) (cwV 1 hts gX3_choose_X3_isSort rfl rfl rfl (by decide +kernel) ⟨Nat.le_of_ble_eq_true rfl, Nat.le_of_ble_eq_true rfl⟩) (cy_w_at (by decide) (cy_rd (cy_us) rfl)) rfl rfl hl.1 rfl (Nat.le_of_ble_eq_true rfl) dX3_choose_7 ⟨Nat.le_of_ble_eq_true rfl, Nat.le_of_ble_eq_true rfl⟩ (k' := 0) (n' := 0) rfl rfl (fun H locs hW => ?_)
  refine lv_if_eq (tgt := 23) hx hb dX3_choose_10 (by decide) (fun c_10 => ?_) (fun c_10 => ?_)
  · skip
    refine lv_aload_n hx hb dX3_choose_23 rfl (lv_at hl 0 rfl) ?_
    refine lv_iconst (v := 1) hx hb dX3_choose_24 (by decide) ?_
    refine cy_callV (rm := rm_X3_no) (As := [.int 1]) (rest := []) (q0 := 0) (ci := 3) hC.1 hC.2.1 hC.2.2 hW (c_X3_no (x := 1)) (cwV 1 hts gX3_choose_X3_no rfl rfl rfl (by decide +kernel) ⟨Nat.le_of_ble_eq_true rfl, Nat.le_of_ble_eq_true rfl⟩) (cy_w_at (by decide) (cy_rd (cy_us) rfl)) rfl rfl hl.1 rfl (Nat.le_of_ble_eq_true rfl) dX3_choose_25 ⟨Nat.le_of_ble_eq_true rfl, Nat.le_of_ble_eq_true rfl⟩ (k' := 0) (n' := 0) rfl rfl (fun H locs hW => ?_)
    rw [show va_up (va_up S 0 (upd (S 0) 0 0)) 0 (upd ((va_up S 0 (upd (S 0) 0 0)) 0) 0 1) = (va_up S 0 (upd (upd (S 0) 0 0) 0 1)) from by rw [cy_us, cy_uu]] at hW
    refine cy_topv (congrArg Value.int (show 0 = (cq_Ch S x y ns no).2 from by simp only [cq_Ch, cq_th, cq_rs, cq_gi, c_10, eq_self, ↓reduceIte, not_true_eq_false, not_false_eq_true])) ?_
    have hW := cy_castS (show (va_up S 0 (upd (upd (S 0) 0 0) 0 1)) = (cq_Ch S x y ns no).1 from by simp only [cq_Ch, cq_th, cq_rs, cq_gi, c_10, eq_self, ↓reduceIte, not_true_eq_false, not_false_eq_true]) hW
    exact hE  _ _ _ _ _ _ (Nat.le_of_ble_eq_true rfl) (Nat.le_of_ble_eq_true rfl) hW dX3_choose_28
  · skip
    obtain ⟨i, hi, rfl⟩ := cq_in_t (by omega) c_10
    have cli : (nI i).toNatClampNeg = i := nI_clamp (by omega)
    have hl : lv_has ls 3 [(0, .ref (ad 0)), (1, .int (nI i)), (2, .int y)] := hl
    refine lv_iload_n hx hb dX3_choose_13 rfl (lv_at hl 2 rfl) ?_
    refine lv_iconst (v := 0) hx hb dX3_choose_14 (by decide) ?_
    refine lv_bipush (v := 59) hx hb dX3_choose_15 (by decide) ?_
    refine cy_callS (rm := rm_X3_isIn) (As := [.int y, .int 0, .int 59]) (rest := []) hC.1 hC.2.1 hC.2.2 hW (c_X3_isIn (x := y) (y := 0) (z := 59)) (va_cwS 3 hts gX3_choose_X3_isIn rfl rfl rfl (by decide +kernel) ⟨Nat.le_of_ble_eq_true rfl, Nat.le_of_ble_eq_true rfl⟩) rfl hl.1 rfl (Nat.le_of_ble_eq_true rfl) dX3_choose_17 ⟨Nat.le_of_ble_eq_true rfl, Nat.le_of_ble_eq_true rfl⟩ (k' := 0) (n' := 0) rfl rfl (fun H locs hW => ?_)
    refine lv_if_ne (tgt := 29) hx hb dX3_choose_20 (by decide) (fun c_20 => ?_) (fun c_20 => ?_)
    · skip
      refine lv_aload_n hx hb dX3_choose_29 rfl (lv_at hl 0 rfl) ?_
      refine lv_iload_n hx hb dX3_choose_30 rfl (lv_at hl 1 rfl) ?_
      refine cy_callV (rm := rm_X3_find) (As := [.int (nI i)]) (rest := []) (q0 := 0) (ci := 3) hC.1 hC.2.1 hC.2.2 hW (c_X3_find (S := (va_up S 0 (upd (S 0) 0 0))) (j := i) (g := (S 4 i).toNatClampNeg) (by omega) (hgi _ (by assumption)).2.2 (hgi _ (by assumption)).2.1 hwd hns (by omega)) (cwV 1 hts gX3_choose_X3_find rfl rfl rfl (by decide +kernel) ⟨Nat.le_of_ble_eq_true rfl, Nat.le_of_ble_eq_true rfl⟩) (cy_w_at (by decide) (cy_rd (cy_us) rfl)) rfl rfl hl.1 rfl (Nat.le_of_ble_eq_true rfl) dX3_choose_31 ⟨Nat.le_of_ble_eq_true rfl, Nat.le_of_ble_eq_true rfl⟩ (k' := 0) (n' := 0) rfl rfl (fun H locs hW => ?_)
      refine lv_if_eq (tgt := 54) hx hb dX3_choose_34 (by decide) (fun c_34 => ?_) (fun c_34 => ?_)
      · skip
        refine lv_iconst (v := (-1)) hx hb dX3_choose_54 (by decide) ?_
        refine cy_topv (congrArg Value.int (show (-1) = (cq_Ch S (nI i) y ns no).2 from by simp only [cq_Ch, cq_th, cq_rs, cq_gi, c_10, c_20, c_34, cli, eq_self, ↓reduceIte, not_true_eq_false, not_false_eq_true])) ?_
        have hW := cy_castS (show (cq_sFd (va_up S 0 (upd (S 0) 0 0)) ns ((S 4 i).toNatClampNeg)) = (cq_Ch S (nI i) y ns no).1 from by simp only [cq_Ch, cq_th, cq_rs, cq_gi, c_10, c_20, c_34, cli, eq_self, ↓reduceIte, not_true_eq_false, not_false_eq_true]) hW
        exact hE  _ _ _ _ _ _ (Nat.le_of_ble_eq_true rfl) (Nat.le_of_ble_eq_true rfl) hW dX3_choose_55
      · skip
        refine lv_iload_n hx hb dX3_choose_37 rfl (lv_at hl 2 rfl) ?_
        refine lv_aload_n hx hb dX3_choose_38 rfl (lv_at hl 0 rfl) ?_
        refine cy_get hC (0) (by decide) hi3 hW (rfl) rfl 23 (by decide) (hts (.fieldLink RX3 101 "CaskYardModel" "chosen" "I") (by decide +kernel)) (fun _ h9 => h9) (v := .int (((cq_sFd (va_up S 0 (upd (S 0) 0 0)) ns ((S 4 i).toNatClampNeg)) 0) 23)) rfl dX3_choose_39 ?_
        refine lv_icmp_ge (tgt := 54) hx hb dX3_choose_42 (by decide) (fun c_42 => ?_) (fun c_42 => ?_)
        · skip
          refine lv_iconst (v := (-1)) hx hb dX3_choose_54 (by decide) ?_
          refine cy_topv (congrArg Value.int (show (-1) = (cq_Ch S (nI i) y ns no).2 from by simp only [cq_Ch, cq_th, cq_rs, cq_gi, c_10, c_20, c_34, c_42, cli, eq_self, ↓reduceIte, not_true_eq_false, not_false_eq_true])) ?_
          have hW := cy_castS (show (cq_sFd (va_up S 0 (upd (S 0) 0 0)) ns ((S 4 i).toNatClampNeg)) = (cq_Ch S (nI i) y ns no).1 from by simp only [cq_Ch, cq_th, cq_rs, cq_gi, c_10, c_20, c_34, c_42, cli, eq_self, ↓reduceIte, not_true_eq_false, not_false_eq_true]) hW
          exact hE  _ _ _ _ _ _ (Nat.le_of_ble_eq_true rfl) (Nat.le_of_ble_eq_true rfl) hW dX3_choose_55
        · skip
          obtain ⟨k, hk, ek⟩ := cq_ch_ix (S := S) (ns := ns) (g := (S 4 i).toNatClampNeg) h60 c_20 c_42
          subst ek
          have clk : (nI k).toNatClampNeg = k := nI_clamp (by omega)
          have hl : lv_has ls 3 [(0, .ref (ad 0)), (1, .int (nI i)), (2, .int (nI k))] := hl
          refine lv_aload_n hx hb dX3_choose_45 rfl (lv_at hl 0 rfl) ?_
          refine cy_get hC (0) (by decide) hi3 hW (rfl) rfl 24 (by decide) (hts (.fieldLink RX3 64 "CaskYardModel" "choice" "[I") (by decide +kernel)) (fun _ h9 => h9) (v := .ref (ad 17)) rfl dX3_choose_46 ?_
          refine lv_iload_n hx hb dX3_choose_49 rfl (lv_at hl 2 rfl) ?_
          refine cy_iald hC (17) (by decide) hW 0 (i := k) (rfl) rfl (by omega) (by decide) dX3_choose_50 ?_
          refine lv_goto (tgt := 55) hx hb dX3_choose_51 (by decide) ?_
          refine cy_topv (congrArg Value.int (show ((cq_sFd (va_up S 0 (upd (S 0) 0 0)) ns ((S 4 i).toNatClampNeg)) 17) k = (cq_Ch S (nI i) (nI k) ns no).2 from by simp only [cq_Ch, cq_th, cq_rs, cq_gi, c_10, c_20, c_34, c_42, cli, clk, eq_self, ↓reduceIte, not_true_eq_false, not_false_eq_true])) ?_
          have hW := cy_castS (show (cq_sFd (va_up S 0 (upd (S 0) 0 0)) ns ((S 4 i).toNatClampNeg)) = (cq_Ch S (nI i) (nI k) ns no).1 from by simp only [cq_Ch, cq_th, cq_rs, cq_gi, c_10, c_20, c_34, c_42, cli, clk, eq_self, ↓reduceIte, not_true_eq_false, not_false_eq_true]) hW
          exact hE  _ _ _ _ _ _ (Nat.le_of_ble_eq_true rfl) (Nat.le_of_ble_eq_true rfl) hW dX3_choose_55
    · skip
      refine lv_aload_n hx hb dX3_choose_23 rfl (lv_at hl 0 rfl) ?_
      refine lv_iconst (v := 1) hx hb dX3_choose_24 (by decide) ?_
      refine cy_callV (rm := rm_X3_no) (As := [.int 1]) (rest := []) (q0 := 0) (ci := 3) hC.1 hC.2.1 hC.2.2 hW (c_X3_no (x := 1)) (cwV 1 hts gX3_choose_X3_no rfl rfl rfl (by decide +kernel) ⟨Nat.le_of_ble_eq_true rfl, Nat.le_of_ble_eq_true rfl⟩) (cy_w_at (by decide) (cy_rd (cy_us) rfl)) rfl rfl hl.1 rfl (Nat.le_of_ble_eq_true rfl) dX3_choose_25 ⟨Nat.le_of_ble_eq_true rfl, Nat.le_of_ble_eq_true rfl⟩ (k' := 0) (n' := 0) rfl rfl (fun H locs hW => ?_)
      rw [show va_up (va_up S 0 (upd (S 0) 0 0)) 0 (upd ((va_up S 0 (upd (S 0) 0 0)) 0) 0 1) = (va_up S 0 (upd (upd (S 0) 0 0) 0 1)) from by rw [cy_us, cy_uu]] at hW
      refine cy_topv (congrArg Value.int (show 0 = (cq_Ch S (nI i) y ns no).2 from by simp only [cq_Ch, cq_th, cq_rs, cq_gi, c_10, c_20, cli, eq_self, ↓reduceIte, not_true_eq_false, not_false_eq_true])) ?_
      have hW := cy_castS (show (va_up S 0 (upd (upd (S 0) 0 0) 0 1)) = (cq_Ch S (nI i) y ns no).1 from by simp only [cq_Ch, cq_th, cq_rs, cq_gi, c_10, c_20, cli, eq_self, ↓reduceIte, not_true_eq_false, not_false_eq_true]) hW
      exact hE  _ _ _ _ _ _ (Nat.le_of_ble_eq_true rfl) (Nat.le_of_ble_eq_true rfl) hW dX3_choose_28
abbrev rm_X3_raise : Room := { frames := 2, cells := 0, slots := 0, locals := 46 }
set_option maxHeartbeats 4000000 in
set_option maxRecDepth 100000 in
theorem c_X3_raise {l : Launch} {D : va_G} {kI kJ kZ kC : ClassId} {ad : Nat → Nat} {S : Nat → Nat → Int32} {tl : va_W} {ns no nc : Nat} {x : Int32} (hns : S 0 4 = nI ns) (h60 : ns ≤ 60) (hno : S 0 8 = nI no) (h6 : no ≤ 6) (hnc : S 0 12 = nI nc) (h12 : nc ≤ 12) (hwd : ∀ i, i < ns → 1 ≤ (S 1 i).toNatClampNeg ∧ (S 1 i).toNatClampNeg ≤ 120 ∧ S 1 i = nI (S 1 i).toNatClampNeg) (hgi : ∀ j, j < no → 300 ≤ (S 4 j).toNatClampNeg ∧ (S 4 j).toNatClampNeg ≤ 1500 ∧ S 4 j = nI (S 4 j).toNatClampNeg) (hq : cq_ok S) : cy_M l yX3_raise wsX3_raise rm_X3_raise D (cy_tys kI kJ kZ kC) [.ref (ad 0), .int x] (cy_Mw kI kZ ad S tl) (some (.int ((cq_Ra S x ns no nc).2))) (cy_Mw kI kZ ad (cq_Ra S x ns no nc).1 tl) := by
  refine cy_of (own := RX3) (cc := cX3_raise) (maxL := 4) (ret := (some .int)) (i := .ireturn) (by decide) rfl rfl (Nat.le_of_ble_eq_true rfl) (cy_endI rfl) ?_
  intro p e s m args below meth co Q A ls hC hE hW hl
  have hx := hC.1.1; have hb := hC.1.2.1; have hml := hC.1.2.2.1; have hown := hC.1.2.2.2.1; have hts := hC.1.2.2.2.2
  have hl : lv_has ls 4 [(0, .ref (ad 0)), (1, .int x)] := hl
  have hi3 : ∀ w ∈ u_ws RX3 TX3 25, w ∈ wsX3_raise := by decide +kernel
  refine lv_aload_n hx hb dX3_raise_0 rfl (lv_at hl 0 rfl) ?_
  refine lv_iconst (v := 0) hx hb dX3_raise_1 (by decide) ?_
  refine cy_put hC (0) (by decide) hi3 tyX3 tyX3_ok nmX3 hW (rfl) rfl 0 (by decide) (hts (.fieldLink RX3 67 "CaskYardModel" "thrown" "I") (by decide +kernel)) (fun _ h9 => h9) rfl (ty := .int) (by decide +kernel) rfl rfl (Nat.le_of_ble_eq_true rfl) (upd (S 0) 0 0) cy_hM0 (S' := (va_up S 0 (upd (S 0) 0 0))) rfl dX3_raise_2 (fun H locs hW => ?_)
  refine lv_aload_n hx hb dX3_raise_5 rfl (lv_at hl 0 rfl) ?_
  refine lv_iload_n hx hb dX3_raise_6 rfl (lv_at hl 1 rfl) ?_
  refine cy_callV (rm := rm_X3_isSort) (As := [.int x]) (rest := []) (q0 := 0) (ci := 3) hC.1 hC.2.1 hC.2.2 hW (c_X3_isSort (x := x) (no := no) hno (by omega)) (cwV 1 hts gX3_raise_X3_isSort rfl rfl rfl (by decide +kernel) ⟨Nat.le_of_ble_eq_true rfl, Nat.le_of_ble_eq_true rfl⟩) (cy_w_at (by decide) (cy_rd (cy_us) rfl)) rfl rfl hl.1 rfl (Nat.le_of_ble_eq_true rfl) dX3_raise_7 ⟨Nat.le_of_ble_eq_true rfl, Nat.le_of_ble_eq_true rfl⟩ (k' := 0) (n' := 0) rfl rfl (fun H locs hW => ?_)
  refine lv_if_ne (tgt := 19) hx hb dX3_raise_10 (by decide) (fun c_10 => ?_) (fun c_10 => ?_)
  · skip
    obtain ⟨i, hi, rfl⟩ := cq_in_t (by omega) c_10
    have cli : (nI i).toNatClampNeg = i := nI_clamp (by omega)
    have hl : lv_has ls 4 [(0, .ref (ad 0)), (1, .int (nI i))] := hl
    refine lv_aload_n hx hb dX3_raise_19 rfl (lv_at hl 0 rfl) ?_
    refine cy_get hC (0) (by decide) hi3 hW (cy_rd (cy_us) rfl) rfl 12 (by decide) (hts (.fieldLink RX3 110 "CaskYardModel" "casks" "I") (by decide +kernel)) (fun _ h9 => h9) (v := .int ((S 0) 12)) rfl dX3_raise_20 ?_
    refine cy_top (y := nI nc) hnc ?_
    refine lv_bipush (v := 12) hx hb dX3_raise_23 (by decide) ?_
    refine lv_icmp_eq (tgt := 36) hx hb dX3_raise_25 (by decide) (fun c_25 => ?_) (fun c_25 => ?_)
    · skip
      have q_25 := cy_eq (a := nc) (b := 12) (by omega) (by omega) c_25
      refine lv_aload_n hx hb dX3_raise_36 rfl (lv_at hl 0 rfl) ?_
      refine lv_iconst (v := 2) hx hb dX3_raise_37 (by decide) ?_
      refine cy_callV (rm := rm_X3_no) (As := [.int 2]) (rest := []) (q0 := 0) (ci := 3) hC.1 hC.2.1 hC.2.2 hW (c_X3_no (x := 2)) (cwV 1 hts gX3_raise_X3_no rfl rfl rfl (by decide +kernel) ⟨Nat.le_of_ble_eq_true rfl, Nat.le_of_ble_eq_true rfl⟩) (cy_w_at (by decide) (cy_rd (cy_us) rfl)) rfl rfl hl.1 rfl (Nat.le_of_ble_eq_true rfl) dX3_raise_38 ⟨Nat.le_of_ble_eq_true rfl, Nat.le_of_ble_eq_true rfl⟩ (k' := 0) (n' := 0) rfl rfl (fun H locs hW => ?_)
      rw [show va_up (va_up S 0 (upd (S 0) 0 0)) 0 (upd ((va_up S 0 (upd (S 0) 0 0)) 0) 0 2) = (va_up S 0 (upd (upd (S 0) 0 0) 0 2)) from by rw [cy_us, cy_uu]] at hW
      refine cy_topv (congrArg Value.int (show 0 = (cq_Ra S (nI i) ns no nc).2 from by simp only [cq_Ra, cq_th, cq_rs, cq_gi, cq_rc, cq_rb, c_10, c_25, cli, eq_self, ↓reduceIte, not_true_eq_false, not_false_eq_true])) ?_
      have hW := cy_castS (show (va_up S 0 (upd (upd (S 0) 0 0) 0 2)) = (cq_Ra S (nI i) ns no nc).1 from by simp only [cq_Ra, cq_th, cq_rs, cq_gi, cq_rc, cq_rb, c_10, c_25, cli, eq_self, ↓reduceIte, not_true_eq_false, not_false_eq_true]) hW
      exact hE  _ _ _ _ _ _ (Nat.le_of_ble_eq_true rfl) (Nat.le_of_ble_eq_true rfl) hW dX3_raise_41
    · skip
      have q_25 := cy_ne (a := nc) (b := 12) (by omega) (by omega) c_25
      have hcl : nc < 12 := by have := q_25; omega
      refine lv_aload_n hx hb dX3_raise_28 rfl (lv_at hl 0 rfl) ?_
      refine lv_iload_n hx hb dX3_raise_29 rfl (lv_at hl 1 rfl) ?_
      refine cy_callV (rm := rm_X3_find) (As := [.int (nI i)]) (rest := []) (q0 := 0) (ci := 3) hC.1 hC.2.1 hC.2.2 hW (c_X3_find (S := (va_up S 0 (upd (S 0) 0 0))) (j := i) (g := (S 4 i).toNatClampNeg) (by omega) (hgi _ (by assumption)).2.2 (hgi _ (by assumption)).2.1 hwd hns (by omega)) (cwV 1 hts gX3_raise_X3_find rfl rfl rfl (by decide +kernel) ⟨Nat.le_of_ble_eq_true rfl, Nat.le_of_ble_eq_true rfl⟩) (cy_w_at (by decide) (cy_rd (cy_us) rfl)) rfl rfl hl.1 rfl (Nat.le_of_ble_eq_true rfl) dX3_raise_30 ⟨Nat.le_of_ble_eq_true rfl, Nat.le_of_ble_eq_true rfl⟩ (k' := 0) (n' := 0) rfl rfl (fun H locs hW => ?_)
      refine lv_if_ne (tgt := 42) hx hb dX3_raise_33 (by decide) (fun c_33 => ?_) (fun c_33 => ?_)
      · skip
        have hmle := cq_chs_le (S := cq_rs S) (ns := ns) (g := (S 4 i).toNatClampNeg)
        refine lv_aload_n hx hb dX3_raise_42 rfl (lv_at hl 0 rfl) ?_
        refine cy_get hC (0) (by decide) hi3 hW (rfl) rfl 12 (by decide) (hts (.fieldLink RX3 110 "CaskYardModel" "casks" "I") (by decide +kernel)) (fun _ h9 => h9) (v := .int (((cq_sFd (va_up S 0 (upd (S 0) 0 0)) ns ((S 4 i).toNatClampNeg)) 0) 12)) rfl dX3_raise_43 ?_
        refine cy_top (y := nI nc) (by rw [cq_sFd_0 (by decide)]; exact hnc) ?_
        refine lv_istore_n (lv' := [(2, .int (nI nc)), (0, .ref (ad 0)), (1, .int (nI i))]) hx hb dX3_raise_46 rfl hl (by decide) rfl (fun ls hl => ?_)
        refine lv_aload_n hx hb dX3_raise_47 rfl (lv_at hl 1 rfl) ?_
        refine cy_get hC (0) (by decide) hi3 hW (rfl) rfl 13 (by decide) (hts (.fieldLink RX3 32 "CaskYardModel" "sort" "[I") (by decide +kernel)) (fun _ h9 => h9) (v := .ref (ad 7)) rfl dX3_raise_48 ?_
        refine lv_iload_n hx hb dX3_raise_51 rfl (lv_at hl 0 rfl) ?_
        refine lv_iload_n hx hb dX3_raise_52 rfl (lv_at hl 2 rfl) ?_
        refine cy_iast hC (7) (by decide) hW 0 (i := nc) (rfl) rfl (by omega) (by decide) (upd ((cq_sFd (va_up S 0 (upd (S 0) 0 0)) ns ((S 4 i).toNatClampNeg)) 7) nc (nI i)) rfl (S' := (va_up (cq_sFd (va_up S 0 (upd (S 0) 0 0)) ns ((S 4 i).toNatClampNeg)) 7 (upd ((cq_sFd (va_up S 0 (upd (S 0) 0 0)) ns ((S 4 i).toNatClampNeg)) 7) nc (nI i)))) rfl dX3_raise_53 (fun H locs hW => ?_)
        refine lv_aload_n hx hb dX3_raise_54 rfl (lv_at hl 1 rfl) ?_
        refine cy_get hC (0) (by decide) hi3 hW (cy_rd (cy_un (by omega)) rfl) rfl 14 (by decide) (hts (.fieldLink RX3 35 "CaskYardModel" "isSound" "[Z") (by decide +kernel)) (fun _ h9 => h9) (v := .ref (ad 8)) rfl dX3_raise_55 ?_
        refine lv_iload_n hx hb dX3_raise_58 rfl (lv_at hl 0 rfl) ?_
        refine lv_iconst (v := 1) hx hb dX3_raise_59 (by decide) ?_
        refine cy_zast hC (8) (by decide) hW 2 (i := nc) (x' := 1) (cy_rd (cy_un (by omega)) rfl) rfl (by omega) (by decide) rfl (upd ((cq_sFd (va_up S 0 (upd (S 0) 0 0)) ns ((S 4 i).toNatClampNeg)) 8) nc 1) rfl (S' := (va_up (va_up (cq_sFd (va_up S 0 (upd (S 0) 0 0)) ns ((S 4 i).toNatClampNeg)) 7 (upd ((cq_sFd (va_up S 0 (upd (S 0) 0 0)) ns ((S 4 i).toNatClampNeg)) 7) nc (nI i))) 8 (upd ((cq_sFd (va_up S 0 (upd (S 0) 0 0)) ns ((S 4 i).toNatClampNeg)) 8) nc 1))) rfl dX3_raise_60 (fun H locs hW => ?_)
        refine lv_aload_n hx hb dX3_raise_61 rfl (lv_at hl 1 rfl) ?_
        refine cy_get hC (0) (by decide) hi3 hW (cy_rd ((cy_un (by omega)).trans (cy_un (by omega))) rfl) rfl 15 (by decide) (hts (.fieldLink RX3 39 "CaskYardModel" "flaws" "[I") (by decide +kernel)) (fun _ h9 => h9) (v := .ref (ad 9)) rfl dX3_raise_62 ?_
        refine lv_iload_n hx hb dX3_raise_65 rfl (lv_at hl 0 rfl) ?_
        refine lv_iconst (v := 0) hx hb dX3_raise_66 (by decide) ?_
        refine cy_iast hC (9) (by decide) hW 0 (i := nc) (cy_rd ((cy_un (by omega)).trans (cy_un (by omega))) rfl) rfl (by omega) (by decide) (upd ((cq_sFd (va_up S 0 (upd (S 0) 0 0)) ns ((S 4 i).toNatClampNeg)) 9) nc 0) rfl (S' := (va_up (va_up (va_up (cq_sFd (va_up S 0 (upd (S 0) 0 0)) ns ((S 4 i).toNatClampNeg)) 7 (upd ((cq_sFd (va_up S 0 (upd (S 0) 0 0)) ns ((S 4 i).toNatClampNeg)) 7) nc (nI i))) 8 (upd ((cq_sFd (va_up S 0 (upd (S 0) 0 0)) ns ((S 4 i).toNatClampNeg)) 8) nc 1)) 9 (upd ((cq_sFd (va_up S 0 (upd (S 0) 0 0)) ns ((S 4 i).toNatClampNeg)) 9) nc 0))) rfl dX3_raise_67 (fun H locs hW => ?_)
        refine lv_iconst (v := 0) hx hb dX3_raise_68 (by decide) ?_
        refine lv_istore_n (lv' := [(3, .int 0), (2, .int (nI nc)), (0, .ref (ad 0)), (1, .int (nI i))]) hx hb dX3_raise_69 rfl hl (by decide) rfl (fun ls hl => ?_)
        have L_70 : ∀ (fu : Nat) (k : Nat), (cq_chs (cq_rs S) ns (S 4 i).toNatClampNeg).2.1 - k < fu → (k ≤ (cq_chs (cq_rs S) ns (S 4 i).toNatClampNeg).2.1) → ∀ (H : Heap) (locs : List Loc), cy_W D A s.heap (cy_Mw kI kZ ad (cq_r2 (cq_ra S ns (S 4 i).toNatClampNeg (nI i) nc) (cq_chs (cq_rs S) ns (S 4 i).toNatClampNeg).1 nc k) tl) H locs → ∀ (ls : Array Slot), lv_has ls 4 [(3, .int (nI k)), (2, .int (nI nc)), (0, .ref (ad 0)), (1, .int (nI i))] → W p l e rm_X3_raise s m args below meth co H locs 0 0 Q (F0 m 70 ls []) := by
          intro fu
          induction fu with
          | zero => intro k hn; exact absurd hn (Nat.not_lt_zero _)
          | succ fu ih_70 =>
            intro k hn_70 hk H locs hW ls hl
            refine lv_iload_n hx hb dX3_raise_70 rfl (lv_at hl 0 rfl) ?_
            refine lv_aload_n hx hb dX3_raise_71 rfl (lv_at hl 2 rfl) ?_
            refine cy_get hC (0) (by decide) hi3 hW (rfl) rfl 23 (by decide) (hts (.fieldLink RX3 101 "CaskYardModel" "chosen" "I") (by decide +kernel)) (fun _ h9 => h9) (v := .int (((cq_r2 (cq_ra S ns (S 4 i).toNatClampNeg (nI i) nc) (cq_chs (cq_rs S) ns (S 4 i).toNatClampNeg).1 nc k) 0) 23)) rfl dX3_raise_72 ?_
            refine cy_top (y := nI ((cq_chs (cq_rs S) ns (S 4 i).toNatClampNeg).2.1)) (by rw [cq_r2_n (by decide) (by decide)]; exact cq_ra_23 c_33) ?_
            refine lv_icmp_ge (tgt := 126) hx hb dX3_raise_75 (by decide) (fun c_75 => ?_) (fun c_75 => ?_)
            · skip
              have q_75 := cy_le (a := ((cq_chs (cq_rs S) ns (S 4 i).toNatClampNeg).2.1)) (b := k) (by omega) (by omega) c_75
              obtain rfl : k = (cq_chs (cq_rs S) ns (S 4 i).toNatClampNeg).2.1 := by omega
              refine lv_iconst (v := 0) hx hb dX3_raise_126 (by decide) ?_
              refine lv_istore_n (lv' := [(3, .int 0), (2, .int (nI nc)), (0, .ref (ad 0)), (1, .int (nI i))]) hx hb dX3_raise_127 rfl hl (by decide) rfl (fun ls hl => ?_)
              have L_128 : ∀ (fu : Nat) (k : Nat), 8 - k < fu → (k ≤ 8) → ∀ (H : Heap) (locs : List Loc), cy_W D A s.heap (cy_Mw kI kZ ad (cq_r3 (cq_r2 (cq_ra S ns (S 4 i).toNatClampNeg (nI i) nc) (cq_chs (cq_rs S) ns (S 4 i).toNatClampNeg).1 nc (cq_chs (cq_rs S) ns (S 4 i).toNatClampNeg).2.1) nc (S 6 i).toNatClampNeg k) tl) H locs → ∀ (ls : Array Slot), lv_has ls 4 [(3, .int (nI k)), (2, .int (nI nc)), (0, .ref (ad 0)), (1, .int (nI i))] → W p l e rm_X3_raise s m args below meth co H locs 0 0 Q (F0 m 128 ls []) := by
                intro fu
                induction fu with
                | zero => intro k hn; exact absurd hn (Nat.not_lt_zero _)
                | succ fu ih_128 =>
                  intro k hn_128 hk H locs hW ls hl
                  have hhb := (hq.2 i (by omega)).1
                  refine lv_iload_n hx hb dX3_raise_128 rfl (lv_at hl 0 rfl) ?_
                  refine lv_bipush (v := 8) hx hb dX3_raise_129 (by decide) ?_
                  refine lv_icmp_ge (tgt := 166) hx hb dX3_raise_131 (by decide) (fun c_131 => ?_) (fun c_131 => ?_)
                  · skip
                    have q_131 := cy_le (a := 8) (b := k) (by omega) (by omega) c_131
                    obtain rfl : k = 8 := by omega
                    refine lv_aload_n hx hb dX3_raise_166 rfl (lv_at hl 2 rfl) ?_
                    refine cy_get hC (0) (by decide) hi3 hW (rfl) rfl 17 (by decide) (hts (.fieldLink RX3 45 "CaskYardModel" "swelling" "[I") (by decide +kernel)) (fun _ h9 => h9) (v := .ref (ad 11)) rfl dX3_raise_167 ?_
                    refine lv_iload_n hx hb dX3_raise_170 rfl (lv_at hl 1 rfl) ?_
                    refine lv_iconst (v := 0) hx hb dX3_raise_171 (by decide) ?_
                    refine cy_iast hC (11) (by decide) hW 0 (i := nc) (rfl) rfl (by omega) (by decide) (upd ((cq_r3 (cq_r2 (cq_ra S ns (S 4 i).toNatClampNeg (nI i) nc) (cq_chs (cq_rs S) ns (S 4 i).toNatClampNeg).1 nc (cq_chs (cq_rs S) ns (S 4 i).toNatClampNeg).2.1) nc (S 6 i).toNatClampNeg 8) 11) nc 0) rfl (S' := (va_up (cq_r3 (cq_r2 (cq_ra S ns (S 4 i).toNatClampNeg (nI i) nc) (cq_chs (cq_rs S) ns (S 4 i).toNatClampNeg).1 nc (cq_chs (cq_rs S) ns (S 4 i).toNatClampNeg).2.1) nc (S 6 i).toNatClampNeg 8) 11 (upd ((cq_r3 (cq_r2 (cq_ra S ns (S 4 i).toNatClampNeg (nI i) nc) (cq_chs (cq_rs S) ns (S 4 i).toNatClampNeg).1 nc (cq_chs (cq_rs S) ns (S 4 i).toNatClampNeg).2.1) nc (S 6 i).toNatClampNeg 8) 11) nc 0))) rfl dX3_raise_172 (fun H locs hW => ?_)
                    refine lv_aload_n hx hb dX3_raise_173 rfl (lv_at hl 2 rfl) ?_
                    refine cy_get hC (0) (by decide) hi3 hW (cy_rd (cy_un (by omega)) rfl) rfl 18 (by decide) (hts (.fieldLink RX3 48 "CaskYardModel" "fillings" "[I") (by decide +kernel)) (fun _ h9 => h9) (v := .ref (ad 12)) rfl dX3_raise_174 ?_
                    refine lv_iload_n hx hb dX3_raise_177 rfl (lv_at hl 1 rfl) ?_
                    refine lv_iconst (v := 0) hx hb dX3_raise_178 (by decide) ?_
                    refine cy_iast hC (12) (by decide) hW 0 (i := nc) (cy_rd (cy_un (by omega)) rfl) rfl (by omega) (by decide) (upd ((cq_r3 (cq_r2 (cq_ra S ns (S 4 i).toNatClampNeg (nI i) nc) (cq_chs (cq_rs S) ns (S 4 i).toNatClampNeg).1 nc (cq_chs (cq_rs S) ns (S 4 i).toNatClampNeg).2.1) nc (S 6 i).toNatClampNeg 8) 12) nc 0) rfl (S' := (va_up (va_up (cq_r3 (cq_r2 (cq_ra S ns (S 4 i).toNatClampNeg (nI i) nc) (cq_chs (cq_rs S) ns (S 4 i).toNatClampNeg).1 nc (cq_chs (cq_rs S) ns (S 4 i).toNatClampNeg).2.1) nc (S 6 i).toNatClampNeg 8) 11 (upd ((cq_r3 (cq_r2 (cq_ra S ns (S 4 i).toNatClampNeg (nI i) nc) (cq_chs (cq_rs S) ns (S 4 i).toNatClampNeg).1 nc (cq_chs (cq_rs S) ns (S 4 i).toNatClampNeg).2.1) nc (S 6 i).toNatClampNeg 8) 11) nc 0)) 12 (upd ((cq_r3 (cq_r2 (cq_ra S ns (S 4 i).toNatClampNeg (nI i) nc) (cq_chs (cq_rs S) ns (S 4 i).toNatClampNeg).1 nc (cq_chs (cq_rs S) ns (S 4 i).toNatClampNeg).2.1) nc (S 6 i).toNatClampNeg 8) 12) nc 0))) rfl dX3_raise_179 (fun H locs hW => ?_)
                    refine lv_aload_n hx hb dX3_raise_180 rfl (lv_at hl 2 rfl) ?_
                    refine cy_get hC (0) (by decide) hi3 hW (cy_rd ((cy_un (by omega)).trans (cy_un (by omega))) rfl) rfl 19 (by decide) (hts (.fieldLink RX3 51 "CaskYardModel" "air" "[I") (by decide +kernel)) (fun _ h9 => h9) (v := .ref (ad 13)) rfl dX3_raise_181 ?_
                    refine lv_iload_n hx hb dX3_raise_184 rfl (lv_at hl 1 rfl) ?_
                    refine lv_iconst (v := 0) hx hb dX3_raise_185 (by decide) ?_
                    refine cy_iast hC (13) (by decide) hW 0 (i := nc) (cy_rd ((cy_un (by omega)).trans (cy_un (by omega))) rfl) rfl (by omega) (by decide) (upd ((cq_r3 (cq_r2 (cq_ra S ns (S 4 i).toNatClampNeg (nI i) nc) (cq_chs (cq_rs S) ns (S 4 i).toNatClampNeg).1 nc (cq_chs (cq_rs S) ns (S 4 i).toNatClampNeg).2.1) nc (S 6 i).toNatClampNeg 8) 13) nc 0) rfl (S' := (va_up (va_up (va_up (cq_r3 (cq_r2 (cq_ra S ns (S 4 i).toNatClampNeg (nI i) nc) (cq_chs (cq_rs S) ns (S 4 i).toNatClampNeg).1 nc (cq_chs (cq_rs S) ns (S 4 i).toNatClampNeg).2.1) nc (S 6 i).toNatClampNeg 8) 11 (upd ((cq_r3 (cq_r2 (cq_ra S ns (S 4 i).toNatClampNeg (nI i) nc) (cq_chs (cq_rs S) ns (S 4 i).toNatClampNeg).1 nc (cq_chs (cq_rs S) ns (S 4 i).toNatClampNeg).2.1) nc (S 6 i).toNatClampNeg 8) 11) nc 0)) 12 (upd ((cq_r3 (cq_r2 (cq_ra S ns (S 4 i).toNatClampNeg (nI i) nc) (cq_chs (cq_rs S) ns (S 4 i).toNatClampNeg).1 nc (cq_chs (cq_rs S) ns (S 4 i).toNatClampNeg).2.1) nc (S 6 i).toNatClampNeg 8) 12) nc 0)) 13 (upd ((cq_r3 (cq_r2 (cq_ra S ns (S 4 i).toNatClampNeg (nI i) nc) (cq_chs (cq_rs S) ns (S 4 i).toNatClampNeg).1 nc (cq_chs (cq_rs S) ns (S 4 i).toNatClampNeg).2.1) nc (S 6 i).toNatClampNeg 8) 13) nc 0))) rfl dX3_raise_186 (fun H locs hW => ?_)
                    refine lv_aload_n hx hb dX3_raise_187 rfl (lv_at hl 2 rfl) ?_
                    refine cy_get hC (0) (by decide) hi3 hW (cy_rd ((cy_un (by omega)).trans ((cy_un (by omega)).trans (cy_un (by omega)))) rfl) rfl 21 (by decide) (hts (.fieldLink RX3 57 "CaskYardModel" "grains" "[I") (by decide +kernel)) (fun _ h9 => h9) (v := .ref (ad 15)) rfl dX3_raise_188 ?_
                    refine lv_iload_n hx hb dX3_raise_191 rfl (lv_at hl 1 rfl) ?_
                    refine lv_iconst (v := 0) hx hb dX3_raise_192 (by decide) ?_
                    refine cy_iast hC (15) (by decide) hW 0 (i := nc) (cy_rd ((cy_un (by omega)).trans ((cy_un (by omega)).trans (cy_un (by omega)))) rfl) rfl (by omega) (by decide) (upd ((cq_r3 (cq_r2 (cq_ra S ns (S 4 i).toNatClampNeg (nI i) nc) (cq_chs (cq_rs S) ns (S 4 i).toNatClampNeg).1 nc (cq_chs (cq_rs S) ns (S 4 i).toNatClampNeg).2.1) nc (S 6 i).toNatClampNeg 8) 15) nc 0) rfl (S' := (va_up (va_up (va_up (va_up (cq_r3 (cq_r2 (cq_ra S ns (S 4 i).toNatClampNeg (nI i) nc) (cq_chs (cq_rs S) ns (S 4 i).toNatClampNeg).1 nc (cq_chs (cq_rs S) ns (S 4 i).toNatClampNeg).2.1) nc (S 6 i).toNatClampNeg 8) 11 (upd ((cq_r3 (cq_r2 (cq_ra S ns (S 4 i).toNatClampNeg (nI i) nc) (cq_chs (cq_rs S) ns (S 4 i).toNatClampNeg).1 nc (cq_chs (cq_rs S) ns (S 4 i).toNatClampNeg).2.1) nc (S 6 i).toNatClampNeg 8) 11) nc 0)) 12 (upd ((cq_r3 (cq_r2 (cq_ra S ns (S 4 i).toNatClampNeg (nI i) nc) (cq_chs (cq_rs S) ns (S 4 i).toNatClampNeg).1 nc (cq_chs (cq_rs S) ns (S 4 i).toNatClampNeg).2.1) nc (S 6 i).toNatClampNeg 8) 12) nc 0)) 13 (upd ((cq_r3 (cq_r2 (cq_ra S ns (S 4 i).toNatClampNeg (nI i) nc) (cq_chs (cq_rs S) ns (S 4 i).toNatClampNeg).1 nc (cq_chs (cq_rs S) ns (S 4 i).toNatClampNeg).2.1) nc (S 6 i).toNatClampNeg 8) 13) nc 0)) 15 (upd ((cq_r3 (cq_r2 (cq_ra S ns (S 4 i).toNatClampNeg (nI i) nc) (cq_chs (cq_rs S) ns (S 4 i).toNatClampNeg).1 nc (cq_chs (cq_rs S) ns (S 4 i).toNatClampNeg).2.1) nc (S 6 i).toNatClampNeg 8) 15) nc 0))) rfl dX3_raise_193 (fun H locs hW => ?_)
                    refine lv_aload_n hx hb dX3_raise_194 rfl (lv_at hl 2 rfl) ?_
                    refine lv_dup hx hb dX3_raise_195 rfl ?_
                    refine cy_get hC (0) (by decide) hi3 hW (cy_rd ((cy_un (by omega)).trans ((cy_un (by omega)).trans ((cy_un (by omega)).trans (cy_un (by omega))))) rfl) rfl 12 (by decide) (hts (.fieldLink RX3 110 "CaskYardModel" "casks" "I") (by decide +kernel)) (fun _ h9 => h9) (v := .int (((cq_r3 (cq_r2 (cq_ra S ns (S 4 i).toNatClampNeg (nI i) nc) (cq_chs (cq_rs S) ns (S 4 i).toNatClampNeg).1 nc (cq_chs (cq_rs S) ns (S 4 i).toNatClampNeg).2.1) nc (S 6 i).toNatClampNeg 8) 0) 12)) rfl dX3_raise_196 ?_
                    refine cy_top (y := nI nc) (by rw [cq_r3_n (by decide), cq_r2_n (by decide) (by decide)]; exact (cq_ra_0 (by decide) (by decide)).trans hnc) ?_
                    refine lv_iconst (v := 1) hx hb dX3_raise_199 (by decide) ?_
                    refine lv_iadd hx hb dX3_raise_200 ?_
                    refine cy_top (nI_add nc 1) ?_
                    refine cy_put hC (0) (by decide) hi3 tyX3 tyX3_ok nmX3 hW (cy_rd ((cy_un (by omega)).trans ((cy_un (by omega)).trans ((cy_un (by omega)).trans (cy_un (by omega))))) rfl) rfl 12 (by decide) (hts (.fieldLink RX3 110 "CaskYardModel" "casks" "I") (by decide +kernel)) (fun _ h9 => h9) rfl (ty := .int) (by decide +kernel) rfl rfl (Nat.le_of_ble_eq_true rfl) (upd ((cq_r3 (cq_r2 (cq_ra S ns (S 4 i).toNatClampNeg (nI i) nc) (cq_chs (cq_rs S) ns (S 4 i).toNatClampNeg).1 nc (cq_chs (cq_rs S) ns (S 4 i).toNatClampNeg).2.1) nc (S 6 i).toNatClampNeg 8) 0) 12 (nI (nc + 1))) cy_hM12 (S' := (va_up (va_up (va_up (va_up (va_up (cq_r3 (cq_r2 (cq_ra S ns (S 4 i).toNatClampNeg (nI i) nc) (cq_chs (cq_rs S) ns (S 4 i).toNatClampNeg).1 nc (cq_chs (cq_rs S) ns (S 4 i).toNatClampNeg).2.1) nc (S 6 i).toNatClampNeg 8) 11 (upd ((cq_r3 (cq_r2 (cq_ra S ns (S 4 i).toNatClampNeg (nI i) nc) (cq_chs (cq_rs S) ns (S 4 i).toNatClampNeg).1 nc (cq_chs (cq_rs S) ns (S 4 i).toNatClampNeg).2.1) nc (S 6 i).toNatClampNeg 8) 11) nc 0)) 12 (upd ((cq_r3 (cq_r2 (cq_ra S ns (S 4 i).toNatClampNeg (nI i) nc) (cq_chs (cq_rs S) ns (S 4 i).toNatClampNeg).1 nc (cq_chs (cq_rs S) ns (S 4 i).toNatClampNeg).2.1) nc (S 6 i).toNatClampNeg 8) 12) nc 0)) 13 (upd ((cq_r3 (cq_r2 (cq_ra S ns (S 4 i).toNatClampNeg (nI i) nc) (cq_chs (cq_rs S) ns (S 4 i).toNatClampNeg).1 nc (cq_chs (cq_rs S) ns (S 4 i).toNatClampNeg).2.1) nc (S 6 i).toNatClampNeg 8) 13) nc 0)) 15 (upd ((cq_r3 (cq_r2 (cq_ra S ns (S 4 i).toNatClampNeg (nI i) nc) (cq_chs (cq_rs S) ns (S 4 i).toNatClampNeg).1 nc (cq_chs (cq_rs S) ns (S 4 i).toNatClampNeg).2.1) nc (S 6 i).toNatClampNeg 8) 15) nc 0)) 0 (upd ((cq_r3 (cq_r2 (cq_ra S ns (S 4 i).toNatClampNeg (nI i) nc) (cq_chs (cq_rs S) ns (S 4 i).toNatClampNeg).1 nc (cq_chs (cq_rs S) ns (S 4 i).toNatClampNeg).2.1) nc (S 6 i).toNatClampNeg 8) 0) 12 (nI (nc + 1))))) rfl dX3_raise_201 (fun H locs hW => ?_)
                    refine lv_iload_n hx hb dX3_raise_204 rfl (lv_at hl 1 rfl) ?_
                    refine cy_topv (congrArg Value.int (show nI nc = (cq_Ra S (nI i) ns no nc).2 from by simp only [cq_Ra, cq_th, cq_rs, cq_gi, cq_rc, cq_rb, c_10, c_25, c_33, c_131, cli, eq_self, ↓reduceIte, not_true_eq_false, not_false_eq_true])) ?_
                    have hW := cy_castS (show (va_up (va_up (va_up (va_up (va_up (cq_r3 (cq_r2 (cq_ra S ns (S 4 i).toNatClampNeg (nI i) nc) (cq_chs (cq_rs S) ns (S 4 i).toNatClampNeg).1 nc (cq_chs (cq_rs S) ns (S 4 i).toNatClampNeg).2.1) nc (S 6 i).toNatClampNeg 8) 11 (upd ((cq_r3 (cq_r2 (cq_ra S ns (S 4 i).toNatClampNeg (nI i) nc) (cq_chs (cq_rs S) ns (S 4 i).toNatClampNeg).1 nc (cq_chs (cq_rs S) ns (S 4 i).toNatClampNeg).2.1) nc (S 6 i).toNatClampNeg 8) 11) nc 0)) 12 (upd ((cq_r3 (cq_r2 (cq_ra S ns (S 4 i).toNatClampNeg (nI i) nc) (cq_chs (cq_rs S) ns (S 4 i).toNatClampNeg).1 nc (cq_chs (cq_rs S) ns (S 4 i).toNatClampNeg).2.1) nc (S 6 i).toNatClampNeg 8) 12) nc 0)) 13 (upd ((cq_r3 (cq_r2 (cq_ra S ns (S 4 i).toNatClampNeg (nI i) nc) (cq_chs (cq_rs S) ns (S 4 i).toNatClampNeg).1 nc (cq_chs (cq_rs S) ns (S 4 i).toNatClampNeg).2.1) nc (S 6 i).toNatClampNeg 8) 13) nc 0)) 15 (upd ((cq_r3 (cq_r2 (cq_ra S ns (S 4 i).toNatClampNeg (nI i) nc) (cq_chs (cq_rs S) ns (S 4 i).toNatClampNeg).1 nc (cq_chs (cq_rs S) ns (S 4 i).toNatClampNeg).2.1) nc (S 6 i).toNatClampNeg 8) 15) nc 0)) 0 (upd ((cq_r3 (cq_r2 (cq_ra S ns (S 4 i).toNatClampNeg (nI i) nc) (cq_chs (cq_rs S) ns (S 4 i).toNatClampNeg).1 nc (cq_chs (cq_rs S) ns (S 4 i).toNatClampNeg).2.1) nc (S 6 i).toNatClampNeg 8) 0) 12 (nI (nc + 1)))) = (cq_Ra S (nI i) ns no nc).1 from by simp only [cq_Ra, cq_th, cq_rs, cq_gi, cq_rc, cq_rb, c_10, c_25, c_33, c_131, cli, eq_self, ↓reduceIte, not_true_eq_false, not_false_eq_true]) hW
                    exact hE  _ _ _ _ _ _ (Nat.le_of_ble_eq_true rfl) (Nat.le_of_ble_eq_true rfl) hW dX3_raise_205
                  · skip
                    have q_131 := cy_nle (a := 8) (b := k) (by omega) (by omega) c_131
                    refine lv_aload_n hx hb dX3_raise_134 rfl (lv_at hl 2 rfl) ?_
                    refine cy_get hC (0) (by decide) hi3 hW (rfl) rfl 16 (by decide) (hts (.fieldLink RX3 42 "CaskYardModel" "tension" "[I") (by decide +kernel)) (fun _ h9 => h9) (v := .ref (ad 10)) rfl dX3_raise_135 ?_
                    refine lv_bipush (v := 8) hx hb dX3_raise_138 (by decide) ?_
                    refine lv_iload_n hx hb dX3_raise_140 rfl (lv_at hl 1 rfl) ?_
                    refine lv_imul hx hb dX3_raise_141 ?_
                    refine cy_top (pk_mul 8 nc) ?_
                    refine lv_iload_n hx hb dX3_raise_142 rfl (lv_at hl 0 rfl) ?_
                    refine lv_iadd hx hb dX3_raise_143 ?_
                    refine cy_top (nI_add (8 * nc) k) ?_
                    refine lv_iload_n hx hb dX3_raise_144 rfl (lv_at hl 0 rfl) ?_
                    refine lv_aload_n hx hb dX3_raise_145 rfl (lv_at hl 2 rfl) ?_
                    refine cy_get hC (0) (by decide) hi3 hW (rfl) rfl 11 (by decide) (hts (.fieldLink RX3 29 "CaskYardModel" "hoops" "[I") (by decide +kernel)) (fun _ h9 => h9) (v := .ref (ad 6)) rfl dX3_raise_146 ?_
                    refine lv_iload_n hx hb dX3_raise_149 rfl (lv_at hl 3 rfl) ?_
                    refine cy_iald hC (6) (by decide) hW 0 (i := i) (rfl) rfl (by omega) (by decide) dX3_raise_150 ?_
                    refine cy_top (y := nI ((S 6 i).toNatClampNeg)) (by rw [cq_r3_n (by decide), cq_r2_n (by decide) (by decide), cq_ra_n (by decide) (by decide) (by decide) (by decide) (by decide) (by decide)]; exact (hq.2 i (by omega)).2) ?_
                    refine lv_icmp_ge (tgt := 158) hx hb dX3_raise_151 (by decide) (fun c_151 => ?_) (fun c_151 => ?_)
                    · skip
                      have q_151 := cy_le (a := ((S 6 i).toNatClampNeg)) (b := k) (by omega) (by omega) c_151
                      refine lv_iconst (v := 0) hx hb dX3_raise_158 (by decide) ?_
                      refine cy_iast hC (10) (by decide) hW 0 (i := ((8 * nc) + k)) (rfl) rfl (by omega) (by decide) (upd ((cq_r3 (cq_r2 (cq_ra S ns (S 4 i).toNatClampNeg (nI i) nc) (cq_chs (cq_rs S) ns (S 4 i).toNatClampNeg).1 nc (cq_chs (cq_rs S) ns (S 4 i).toNatClampNeg).2.1) nc (S 6 i).toNatClampNeg k) 10) ((8 * nc) + k) 0) rfl (S' := (va_up (cq_r3 (cq_r2 (cq_ra S ns (S 4 i).toNatClampNeg (nI i) nc) (cq_chs (cq_rs S) ns (S 4 i).toNatClampNeg).1 nc (cq_chs (cq_rs S) ns (S 4 i).toNatClampNeg).2.1) nc (S 6 i).toNatClampNeg k) 10 (upd ((cq_r3 (cq_r2 (cq_ra S ns (S 4 i).toNatClampNeg (nI i) nc) (cq_chs (cq_rs S) ns (S 4 i).toNatClampNeg).1 nc (cq_chs (cq_rs S) ns (S 4 i).toNatClampNeg).2.1) nc (S 6 i).toNatClampNeg k) 10) ((8 * nc) + k) 0))) rfl dX3_raise_159 (fun H locs hW => ?_)
                      refine lv_iinc (v := nI (k + 1)) (lv' := [(3, .int (nI (k + 1))), (2, .int (nI nc)), (0, .ref (ad 0)), (1, .int (nI i))]) hx hb dX3_raise_160 hl (k := 0) rfl (nI_1 k) (by decide) rfl (fun ls hl => ?_)
                      refine lv_goto (tgt := 128) hx hb dX3_raise_163 (by decide) ?_
                      have hW := cy_castS (show (va_up (cq_r3 (cq_r2 (cq_ra S ns (S 4 i).toNatClampNeg (nI i) nc) (cq_chs (cq_rs S) ns (S 4 i).toNatClampNeg).1 nc (cq_chs (cq_rs S) ns (S 4 i).toNatClampNeg).2.1) nc (S 6 i).toNatClampNeg k) 10 (upd ((cq_r3 (cq_r2 (cq_ra S ns (S 4 i).toNatClampNeg (nI i) nc) (cq_chs (cq_rs S) ns (S 4 i).toNatClampNeg).1 nc (cq_chs (cq_rs S) ns (S 4 i).toNatClampNeg).2.1) nc (S 6 i).toNatClampNeg k) 10) ((8 * nc) + k) 0)) = (cq_r3 (cq_r2 (cq_ra S ns (S 4 i).toNatClampNeg (nI i) nc) (cq_chs (cq_rs S) ns (S 4 i).toNatClampNeg).1 nc (cq_chs (cq_rs S) ns (S 4 i).toNatClampNeg).2.1) nc (S 6 i).toNatClampNeg (k + 1)) from by simp only [cq_r3, c_151, ↓reduceIte]) hW
                      exact ih_128 (k + 1) (by omega) (by omega) _ _ hW _ (lv_sub hl [0, 1, 2, 3] rfl)
                    · skip
                      have q_151 := cy_nle (a := ((S 6 i).toNatClampNeg)) (b := k) (by omega) (by omega) c_151
                      refine lv_iconst (v := 3) hx hb dX3_raise_154 (by decide) ?_
                      refine lv_goto (tgt := 159) hx hb dX3_raise_155 (by decide) ?_
                      refine cy_iast hC (10) (by decide) hW 0 (i := ((8 * nc) + k)) (rfl) rfl (by omega) (by decide) (upd ((cq_r3 (cq_r2 (cq_ra S ns (S 4 i).toNatClampNeg (nI i) nc) (cq_chs (cq_rs S) ns (S 4 i).toNatClampNeg).1 nc (cq_chs (cq_rs S) ns (S 4 i).toNatClampNeg).2.1) nc (S 6 i).toNatClampNeg k) 10) ((8 * nc) + k) 3) rfl (S' := (va_up (cq_r3 (cq_r2 (cq_ra S ns (S 4 i).toNatClampNeg (nI i) nc) (cq_chs (cq_rs S) ns (S 4 i).toNatClampNeg).1 nc (cq_chs (cq_rs S) ns (S 4 i).toNatClampNeg).2.1) nc (S 6 i).toNatClampNeg k) 10 (upd ((cq_r3 (cq_r2 (cq_ra S ns (S 4 i).toNatClampNeg (nI i) nc) (cq_chs (cq_rs S) ns (S 4 i).toNatClampNeg).1 nc (cq_chs (cq_rs S) ns (S 4 i).toNatClampNeg).2.1) nc (S 6 i).toNatClampNeg k) 10) ((8 * nc) + k) 3))) rfl dX3_raise_159 (fun H locs hW => ?_)
                      refine lv_iinc (v := nI (k + 1)) (lv' := [(3, .int (nI (k + 1))), (2, .int (nI nc)), (0, .ref (ad 0)), (1, .int (nI i))]) hx hb dX3_raise_160 hl (k := 0) rfl (nI_1 k) (by decide) rfl (fun ls hl => ?_)
                      refine lv_goto (tgt := 128) hx hb dX3_raise_163 (by decide) ?_
                      have hW := cy_castS (show (va_up (cq_r3 (cq_r2 (cq_ra S ns (S 4 i).toNatClampNeg (nI i) nc) (cq_chs (cq_rs S) ns (S 4 i).toNatClampNeg).1 nc (cq_chs (cq_rs S) ns (S 4 i).toNatClampNeg).2.1) nc (S 6 i).toNatClampNeg k) 10 (upd ((cq_r3 (cq_r2 (cq_ra S ns (S 4 i).toNatClampNeg (nI i) nc) (cq_chs (cq_rs S) ns (S 4 i).toNatClampNeg).1 nc (cq_chs (cq_rs S) ns (S 4 i).toNatClampNeg).2.1) nc (S 6 i).toNatClampNeg k) 10) ((8 * nc) + k) 3)) = (cq_r3 (cq_r2 (cq_ra S ns (S 4 i).toNatClampNeg (nI i) nc) (cq_chs (cq_rs S) ns (S 4 i).toNatClampNeg).1 nc (cq_chs (cq_rs S) ns (S 4 i).toNatClampNeg).2.1) nc (S 6 i).toNatClampNeg (k + 1)) from by simp only [cq_r3, c_151, ↓reduceIte]) hW
                      exact ih_128 (k + 1) (by omega) (by omega) _ _ hW _ (lv_sub hl [0, 1, 2, 3] rfl)
              exact L_128 ((8 - 0) + 1) 0 (Nat.lt_succ_self _) (by omega) _ _ hW _ (lv_sub hl [0, 1, 2, 3] rfl)
            · skip
              have q_75 := cy_nle (a := ((cq_chs (cq_rs S) ns (S 4 i).toNatClampNeg).2.1)) (b := k) (by omega) (by omega) c_75
              have hmb := cq_chs_nat (S := cq_rs S) (g := (S 4 i).toNatClampNeg) h60 q_75
              refine lv_aload_n hx hb dX3_raise_78 rfl (lv_at hl 2 rfl) ?_
              refine cy_get hC (0) (by decide) hi3 hW (rfl) rfl 7 (by decide) (hts (.fieldLink RX3 20 "CaskYardModel" "where" "[I") (by decide +kernel)) (fun _ h9 => h9) (v := .ref (ad 3)) rfl dX3_raise_79 ?_
              refine lv_aload_n hx hb dX3_raise_82 rfl (lv_at hl 2 rfl) ?_
              refine cy_get hC (0) (by decide) hi3 hW (rfl) rfl 24 (by decide) (hts (.fieldLink RX3 64 "CaskYardModel" "choice" "[I") (by decide +kernel)) (fun _ h9 => h9) (v := .ref (ad 17)) rfl dX3_raise_83 ?_
              refine lv_iload_n hx hb dX3_raise_86 rfl (lv_at hl 0 rfl) ?_
              refine cy_iald hC (17) (by decide) hW 0 (i := k) (rfl) rfl (by omega) (by decide) dX3_raise_87 ?_
              refine cy_top (y := nI (((cq_chs (cq_rs S) ns (S 4 i).toNatClampNeg).1 k).toNatClampNeg)) (by rw [cq_r2_n (by decide) (by decide), cq_ra_17 c_33]; exact hmb.2) ?_
              refine lv_iload_n hx hb dX3_raise_88 rfl (lv_at hl 1 rfl) ?_
              refine cy_iast hC (3) (by decide) hW 0 (i := (((cq_chs (cq_rs S) ns (S 4 i).toNatClampNeg).1 k).toNatClampNeg)) (rfl) rfl (by omega) (by decide) (upd ((cq_r2 (cq_ra S ns (S 4 i).toNatClampNeg (nI i) nc) (cq_chs (cq_rs S) ns (S 4 i).toNatClampNeg).1 nc k) 3) (((cq_chs (cq_rs S) ns (S 4 i).toNatClampNeg).1 k).toNatClampNeg) (nI nc)) rfl (S' := (va_up (cq_r2 (cq_ra S ns (S 4 i).toNatClampNeg (nI i) nc) (cq_chs (cq_rs S) ns (S 4 i).toNatClampNeg).1 nc k) 3 (upd ((cq_r2 (cq_ra S ns (S 4 i).toNatClampNeg (nI i) nc) (cq_chs (cq_rs S) ns (S 4 i).toNatClampNeg).1 nc k) 3) (((cq_chs (cq_rs S) ns (S 4 i).toNatClampNeg).1 k).toNatClampNeg) (nI nc)))) rfl dX3_raise_89 (fun H locs hW => ?_)
              refine lv_aload_n hx hb dX3_raise_90 rfl (lv_at hl 2 rfl) ?_
              refine cy_get hC (0) (by decide) hi3 hW (cy_rd (cy_un (by omega)) rfl) rfl 15 (by decide) (hts (.fieldLink RX3 39 "CaskYardModel" "flaws" "[I") (by decide +kernel)) (fun _ h9 => h9) (v := .ref (ad 9)) rfl dX3_raise_91 ?_
              refine lv_iload_n hx hb dX3_raise_94 rfl (lv_at hl 1 rfl) ?_
              refine lv_dup2_11 hx hb dX3_raise_95 rfl rfl ?_
              refine cy_iald hC (9) (by decide) hW 0 (i := nc) (cy_rd (cy_un (by omega)) rfl) rfl (by omega) (by decide) dX3_raise_96 ?_
              refine lv_aload_n hx hb dX3_raise_97 rfl (lv_at hl 2 rfl) ?_
              refine cy_get hC (0) (by decide) hi3 hW (cy_rd (cy_un (by omega)) rfl) rfl 6 (by decide) (hts (.fieldLink RX3 17 "CaskYardModel" "dryness" "[I") (by decide +kernel)) (fun _ h9 => h9) (v := .ref (ad 2)) rfl dX3_raise_98 ?_
              refine lv_aload_n hx hb dX3_raise_101 rfl (lv_at hl 2 rfl) ?_
              refine cy_get hC (0) (by decide) hi3 hW (cy_rd (cy_un (by omega)) rfl) rfl 24 (by decide) (hts (.fieldLink RX3 64 "CaskYardModel" "choice" "[I") (by decide +kernel)) (fun _ h9 => h9) (v := .ref (ad 17)) rfl dX3_raise_102 ?_
              refine lv_iload_n hx hb dX3_raise_105 rfl (lv_at hl 0 rfl) ?_
              refine cy_iald hC (17) (by decide) hW 0 (i := k) (cy_rd (cy_un (by omega)) rfl) rfl (by omega) (by decide) dX3_raise_106 ?_
              refine cy_top (y := nI (((cq_chs (cq_rs S) ns (S 4 i).toNatClampNeg).1 k).toNatClampNeg)) (by rw [cq_r2_n (by decide) (by decide), cq_ra_17 c_33]; exact hmb.2) ?_
              refine cy_iald hC (2) (by decide) hW 0 (i := (((cq_chs (cq_rs S) ns (S 4 i).toNatClampNeg).1 k).toNatClampNeg)) (cy_rd (cy_un (by omega)) rfl) rfl (by omega) (by decide) dX3_raise_107 ?_
              refine lv_bipush (v := 70) hx hb dX3_raise_108 (by decide) ?_
              refine lv_icmp_ge (tgt := 117) hx hb dX3_raise_110 (by decide) (fun c_110 => ?_) (fun c_110 => ?_)
              · skip
                refine lv_iconst (v := 0) hx hb dX3_raise_117 (by decide) ?_
                refine lv_iadd hx hb dX3_raise_118 ?_
                refine cy_iast hC (9) (by decide) hW 0 (i := nc) (cy_rd (cy_un (by omega)) rfl) rfl (by omega) (by decide) (upd ((cq_r2 (cq_ra S ns (S 4 i).toNatClampNeg (nI i) nc) (cq_chs (cq_rs S) ns (S 4 i).toNatClampNeg).1 nc k) 9) nc ((((cq_r2 (cq_ra S ns (S 4 i).toNatClampNeg (nI i) nc) (cq_chs (cq_rs S) ns (S 4 i).toNatClampNeg).1 nc k) 9) nc) + 0)) rfl (S' := (va_up (va_up (cq_r2 (cq_ra S ns (S 4 i).toNatClampNeg (nI i) nc) (cq_chs (cq_rs S) ns (S 4 i).toNatClampNeg).1 nc k) 3 (upd ((cq_r2 (cq_ra S ns (S 4 i).toNatClampNeg (nI i) nc) (cq_chs (cq_rs S) ns (S 4 i).toNatClampNeg).1 nc k) 3) (((cq_chs (cq_rs S) ns (S 4 i).toNatClampNeg).1 k).toNatClampNeg) (nI nc))) 9 (upd ((cq_r2 (cq_ra S ns (S 4 i).toNatClampNeg (nI i) nc) (cq_chs (cq_rs S) ns (S 4 i).toNatClampNeg).1 nc k) 9) nc ((((cq_r2 (cq_ra S ns (S 4 i).toNatClampNeg (nI i) nc) (cq_chs (cq_rs S) ns (S 4 i).toNatClampNeg).1 nc k) 9) nc) + 0)))) rfl dX3_raise_119 (fun H locs hW => ?_)
                refine lv_iinc (v := nI (k + 1)) (lv' := [(3, .int (nI (k + 1))), (2, .int (nI nc)), (0, .ref (ad 0)), (1, .int (nI i))]) hx hb dX3_raise_120 hl (k := 0) rfl (nI_1 k) (by decide) rfl (fun ls hl => ?_)
                refine lv_goto (tgt := 70) hx hb dX3_raise_123 (by decide) ?_
                have hW := cy_castS (show (va_up (va_up (cq_r2 (cq_ra S ns (S 4 i).toNatClampNeg (nI i) nc) (cq_chs (cq_rs S) ns (S 4 i).toNatClampNeg).1 nc k) 3 (upd ((cq_r2 (cq_ra S ns (S 4 i).toNatClampNeg (nI i) nc) (cq_chs (cq_rs S) ns (S 4 i).toNatClampNeg).1 nc k) 3) (((cq_chs (cq_rs S) ns (S 4 i).toNatClampNeg).1 k).toNatClampNeg) (nI nc))) 9 (upd ((cq_r2 (cq_ra S ns (S 4 i).toNatClampNeg (nI i) nc) (cq_chs (cq_rs S) ns (S 4 i).toNatClampNeg).1 nc k) 9) nc ((((cq_r2 (cq_ra S ns (S 4 i).toNatClampNeg (nI i) nc) (cq_chs (cq_rs S) ns (S 4 i).toNatClampNeg).1 nc k) 9) nc) + 0))) = (cq_r2 (cq_ra S ns (S 4 i).toNatClampNeg (nI i) nc) (cq_chs (cq_rs S) ns (S 4 i).toNatClampNeg).1 nc (k + 1)) from by simp only [cq_r2, c_110, ↓reduceIte]) hW
                exact ih_70 (k + 1) (by omega) (by omega) _ _ hW _ (lv_sub hl [0, 1, 2, 3] rfl)
              · skip
                refine lv_iconst (v := 1) hx hb dX3_raise_113 (by decide) ?_
                refine lv_goto (tgt := 118) hx hb dX3_raise_114 (by decide) ?_
                refine lv_iadd hx hb dX3_raise_118 ?_
                refine cy_iast hC (9) (by decide) hW 0 (i := nc) (cy_rd (cy_un (by omega)) rfl) rfl (by omega) (by decide) (upd ((cq_r2 (cq_ra S ns (S 4 i).toNatClampNeg (nI i) nc) (cq_chs (cq_rs S) ns (S 4 i).toNatClampNeg).1 nc k) 9) nc ((((cq_r2 (cq_ra S ns (S 4 i).toNatClampNeg (nI i) nc) (cq_chs (cq_rs S) ns (S 4 i).toNatClampNeg).1 nc k) 9) nc) + 1)) rfl (S' := (va_up (va_up (cq_r2 (cq_ra S ns (S 4 i).toNatClampNeg (nI i) nc) (cq_chs (cq_rs S) ns (S 4 i).toNatClampNeg).1 nc k) 3 (upd ((cq_r2 (cq_ra S ns (S 4 i).toNatClampNeg (nI i) nc) (cq_chs (cq_rs S) ns (S 4 i).toNatClampNeg).1 nc k) 3) (((cq_chs (cq_rs S) ns (S 4 i).toNatClampNeg).1 k).toNatClampNeg) (nI nc))) 9 (upd ((cq_r2 (cq_ra S ns (S 4 i).toNatClampNeg (nI i) nc) (cq_chs (cq_rs S) ns (S 4 i).toNatClampNeg).1 nc k) 9) nc ((((cq_r2 (cq_ra S ns (S 4 i).toNatClampNeg (nI i) nc) (cq_chs (cq_rs S) ns (S 4 i).toNatClampNeg).1 nc k) 9) nc) + 1)))) rfl dX3_raise_119 (fun H locs hW => ?_)
                refine lv_iinc (v := nI (k + 1)) (lv' := [(3, .int (nI (k + 1))), (2, .int (nI nc)), (0, .ref (ad 0)), (1, .int (nI i))]) hx hb dX3_raise_120 hl (k := 0) rfl (nI_1 k) (by decide) rfl (fun ls hl => ?_)
                refine lv_goto (tgt := 70) hx hb dX3_raise_123 (by decide) ?_
                have hW := cy_castS (show (va_up (va_up (cq_r2 (cq_ra S ns (S 4 i).toNatClampNeg (nI i) nc) (cq_chs (cq_rs S) ns (S 4 i).toNatClampNeg).1 nc k) 3 (upd ((cq_r2 (cq_ra S ns (S 4 i).toNatClampNeg (nI i) nc) (cq_chs (cq_rs S) ns (S 4 i).toNatClampNeg).1 nc k) 3) (((cq_chs (cq_rs S) ns (S 4 i).toNatClampNeg).1 k).toNatClampNeg) (nI nc))) 9 (upd ((cq_r2 (cq_ra S ns (S 4 i).toNatClampNeg (nI i) nc) (cq_chs (cq_rs S) ns (S 4 i).toNatClampNeg).1 nc k) 9) nc ((((cq_r2 (cq_ra S ns (S 4 i).toNatClampNeg (nI i) nc) (cq_chs (cq_rs S) ns (S 4 i).toNatClampNeg).1 nc k) 9) nc) + 1))) = (cq_r2 (cq_ra S ns (S 4 i).toNatClampNeg (nI i) nc) (cq_chs (cq_rs S) ns (S 4 i).toNatClampNeg).1 nc (k + 1)) from by simp only [cq_r2, c_110, ↓reduceIte]) hW
                exact ih_70 (k + 1) (by omega) (by omega) _ _ hW _ (lv_sub hl [0, 1, 2, 3] rfl)
        exact L_70 (((cq_chs (cq_rs S) ns (S 4 i).toNatClampNeg).2.1 - 0) + 1) 0 (Nat.lt_succ_self _) (by omega) _ _ hW _ (lv_sub hl [0, 1, 2, 3] rfl)
      · skip
        refine lv_aload_n hx hb dX3_raise_36 rfl (lv_at hl 0 rfl) ?_
        refine lv_iconst (v := 2) hx hb dX3_raise_37 (by decide) ?_
        refine cy_callV (rm := rm_X3_no) (As := [.int 2]) (rest := []) (q0 := 0) (ci := 3) hC.1 hC.2.1 hC.2.2 hW (c_X3_no (x := 2)) (cwV 1 hts gX3_raise_X3_no rfl rfl rfl (by decide +kernel) ⟨Nat.le_of_ble_eq_true rfl, Nat.le_of_ble_eq_true rfl⟩) (cy_w_at (by decide) (rfl)) rfl rfl hl.1 rfl (Nat.le_of_ble_eq_true rfl) dX3_raise_38 ⟨Nat.le_of_ble_eq_true rfl, Nat.le_of_ble_eq_true rfl⟩ (k' := 0) (n' := 0) rfl rfl (fun H locs hW => ?_)
        rw [show va_up (cq_sFd (va_up S 0 (upd (S 0) 0 0)) ns ((S 4 i).toNatClampNeg)) 0 (upd ((cq_sFd (va_up S 0 (upd (S 0) 0 0)) ns ((S 4 i).toNatClampNeg)) 0) 0 2) = (va_up (cq_sFd (va_up S 0 (upd (S 0) 0 0)) ns ((S 4 i).toNatClampNeg)) 0 (upd ((cq_sFd (va_up S 0 (upd (S 0) 0 0)) ns ((S 4 i).toNatClampNeg)) 0) 0 2)) from rfl] at hW
        refine cy_topv (congrArg Value.int (show 0 = (cq_Ra S (nI i) ns no nc).2 from by simp only [cq_Ra, cq_th, cq_rs, cq_gi, cq_rc, cq_rb, c_10, c_25, c_33, cli, eq_self, ↓reduceIte, not_true_eq_false, not_false_eq_true])) ?_
        have hW := cy_castS (show (va_up (cq_sFd (va_up S 0 (upd (S 0) 0 0)) ns ((S 4 i).toNatClampNeg)) 0 (upd ((cq_sFd (va_up S 0 (upd (S 0) 0 0)) ns ((S 4 i).toNatClampNeg)) 0) 0 2)) = (cq_Ra S (nI i) ns no nc).1 from by simp only [cq_Ra, cq_th, cq_rs, cq_gi, cq_rc, cq_rb, c_10, c_25, c_33, cli, eq_self, ↓reduceIte, not_true_eq_false, not_false_eq_true]) hW
        exact hE  _ _ _ _ _ _ (Nat.le_of_ble_eq_true rfl) (Nat.le_of_ble_eq_true rfl) hW dX3_raise_41
  · skip
    refine lv_aload_n hx hb dX3_raise_13 rfl (lv_at hl 0 rfl) ?_
    refine lv_iconst (v := 1) hx hb dX3_raise_14 (by decide) ?_
    refine cy_callV (rm := rm_X3_no) (As := [.int 1]) (rest := []) (q0 := 0) (ci := 3) hC.1 hC.2.1 hC.2.2 hW (c_X3_no (x := 1)) (cwV 1 hts gX3_raise_X3_no rfl rfl rfl (by decide +kernel) ⟨Nat.le_of_ble_eq_true rfl, Nat.le_of_ble_eq_true rfl⟩) (cy_w_at (by decide) (cy_rd (cy_us) rfl)) rfl rfl hl.1 rfl (Nat.le_of_ble_eq_true rfl) dX3_raise_15 ⟨Nat.le_of_ble_eq_true rfl, Nat.le_of_ble_eq_true rfl⟩ (k' := 0) (n' := 0) rfl rfl (fun H locs hW => ?_)
    rw [show va_up (va_up S 0 (upd (S 0) 0 0)) 0 (upd ((va_up S 0 (upd (S 0) 0 0)) 0) 0 1) = (va_up S 0 (upd (upd (S 0) 0 0) 0 1)) from by rw [cy_us, cy_uu]] at hW
    refine cy_topv (congrArg Value.int (show 0 = (cq_Ra S x ns no nc).2 from by simp only [cq_Ra, cq_th, cq_rs, cq_gi, cq_rc, cq_rb, c_10, eq_self, ↓reduceIte, not_true_eq_false, not_false_eq_true])) ?_
    have hW := cy_castS (show (va_up S 0 (upd (upd (S 0) 0 0) 0 1)) = (cq_Ra S x ns no nc).1 from by simp only [cq_Ra, cq_th, cq_rs, cq_gi, cq_rc, cq_rb, c_10, eq_self, ↓reduceIte, not_true_eq_false, not_false_eq_true]) hW
    exact hE  _ _ _ _ _ _ (Nat.le_of_ble_eq_true rfl) (Nat.le_of_ble_eq_true rfl) hW dX3_raise_18
