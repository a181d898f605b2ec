abbrev rm_X2_raise : Room := { frames := 6, cells := 1, slots := 6, locals := 90 }
set_option maxHeartbeats 4000000 in
set_option maxRecDepth 100000 in
theorem c_X2_raise {l : Launch} {D : va_G} {kI kJ kZ kC : ClassId} {ad : Nat → Nat} {S : Nat → Nat → Int32} {tl : va_W} {Z : Nat → Int64} {x : Int32} {ns : Nat} (hns : S 0 3 = nI ns) (h60 : ns ≤ 60) {no : Nat} (hno : S 0 7 = nI no) (h6 : no ≤ 6) {nc : Nat} (hnc : S 0 9 = nI nc) (h12 : nc ≤ 12) (hwd : ∀ i, i < ns → 1 ≤ (S 1 i).toNatClampNeg ∧ (S 1 i).toNatClampNeg ≤ 120 ∧ S 1 i = nI (S 1 i).toNatClampNeg) (hgi : ∀ j, j < no → 300 ≤ (S 4 j).toNatClampNeg ∧ (S 4 j).toNatClampNeg ≤ 1500 ∧ S 4 j = nI (S 4 j).toNatClampNeg) (hho : ∀ j, j < no → (S 6 j).toNatClampNeg ≤ 8 ∧ S 6 j = nI (S 6 j).toNatClampNeg) : cy_X l yX2_raise wsX2_raise rm_X2_raise D (cy_tys kI kJ kZ kC) [.ref (ad 0), .int x] (cy_Y kI kJ kC ad S Z tl) (cy_tRa S Z x ns no nc) (some (.int (nI nc))) (cy_Y kI kJ kC ad (cy_sRa S Z x ns no nc) (cy_zRa S Z x ns no nc) tl) := by
  intro hl0
  refine cy_ofX (cc := cX2_raise) (maxL := 5) (ret := (some .int)) (i := .ireturn) (by decide) rfl rfl (Nat.le_of_ble_eq_true rfl) (by decide) (fun _ => (cy_endI rfl)) ?_ hl0
  intro p e s m args below meth co Q A ls hC hTh hE hT hW hl
  have hx := hC.1.1; have hb := hC.1.2.1; have hml := hC.1.2.2.1; have hown := hC.1.2.2.2.1; have hts := hC.1.2.2.2.2
  have hl : lv_has ls 5 [(0, .ref (ad 0)), (1, .int x)] := hl
  have hi1 : ∀ w ∈ u_ws RX1 TX1 11, w ∈ wsX2_raise := by decide +kernel
  have hi2 : ∀ w ∈ u_ws RX2 TX2 17, w ∈ wsX2_raise := by decide +kernel
  have hkIS : Cond.classLink RX2 69 cy_IS ∈ wsX2_raise := by decide +kernel
  have hiIS : Cond.initialized cy_IS ∈ wsX2_raise := by decide +kernel
  have hgIS : ∀ w ∈ (vx_atS RX2 73 cy_IS cy_nm).filter goodWord, w ∈ wsX2_raise := by decide +kernel
  have hkIB : Cond.classLink RX2 78 cy_IB ∈ wsX2_raise := by decide +kernel
  have hiIB : Cond.initialized cy_IB ∈ wsX2_raise := by decide +kernel
  have hgIB : ∀ w ∈ (vx_atS RX2 82 cy_IB cy_nm).filter goodWord, w ∈ wsX2_raise := by decide +kernel
  refine lv_aload_n hx hb dX2_raise_0 rfl (lv_at hl 0 rfl) ?_
  refine lv_iload_n hx hb dX2_raise_1 rfl (lv_at hl 1 rfl) ?_
  refine cy_callV (rm := rm_X2_isSort) (As := [.int x]) (rest := []) (q0 := 0) (ci := 2) hC.1 hC.2.1 hC.2.2 hW (c_X2_isSort (x := x)) (cwV 1 hts gX2_raise_X2_isSort rfl rfl rfl (by decide +kernel) ⟨Nat.le_of_ble_eq_true rfl, Nat.le_of_ble_eq_true rfl⟩) (cy_w_at (by decide) (rfl)) rfl rfl hl.1 rfl (Nat.le_of_ble_eq_true rfl) dX2_raise_2 ⟨Nat.le_of_ble_eq_true rfl, Nat.le_of_ble_eq_true rfl⟩ (k' := 0) (n' := 0) rfl rfl (fun H locs hW => ?_)
  refine cy_topv (show _ = Value.int (cy_rIs x (nI no)) from (congrArg (fun z => Value.int (cy_rIs x z)) hno)) ?_
  refine lv_if_ne (tgt := 18) hx hb dX2_raise_5 (by decide) (fun c_5 => ?_) (fun c_5 => ?_)
  · skip
    obtain ⟨i, hi, rfl⟩ := cy_rIs_t (by omega) c_5
    have cli : (nI i).toNatClampNeg = i := nI_clamp (by omega)
    have hl : lv_has ls 5 [(0, .ref (ad 0)), (1, .int (nI i))] := hl
    refine lv_aload_n hx hb dX2_raise_18 rfl (lv_at hl 0 rfl) ?_
    refine cy_get hC (0) (by decide) hi2 hW (rfl) rfl 9 (by decide) (hts (.fieldLink RX2 114 "CaskYard" "caskCount" "I") (by decide +kernel)) (fun _ h9 => h9) (v := .int (S 0 9)) rfl dX2_raise_19 ?_
    refine cy_top (y := nI nc) hnc ?_
    refine lv_bipush (v := 12) hx hb dX2_raise_22 (by decide) ?_
    refine lv_icmp_lt (tgt := 37) hx hb dX2_raise_24 (by decide) (fun c_24 => ?_) (fun c_24 => ?_)
    · skip
      have q_24 := cy_lt (a := nc) (b := 12) (by omega) (by omega) c_24
      refine lv_aload_n hx hb dX2_raise_37 rfl (lv_at hl 0 rfl) ?_
      refine lv_aload_n hx hb dX2_raise_38 rfl (lv_at hl 0 rfl) ?_
      refine cy_get hC (0) (by decide) hi2 hW (rfl) rfl 4 (by decide) (hts (.fieldLink RX2 19 "CaskYard" "girths" "[I") (by decide +kernel)) (fun _ h9 => h9) (v := .ref (ad 4)) rfl dX2_raise_39 ?_
      refine lv_iload_n hx hb dX2_raise_42 rfl (lv_at hl 1 rfl) ?_
      refine cy_iald hC (4) (by decide) hW 0 (i := i) (rfl) rfl (by omega) (by decide) dX2_raise_43 ?_
      refine cy_top (y := nI ((S 4 i).toNatClampNeg)) ((hgi i hi).2.2) ?_
      refine cy_callV (rm := rm_X2_findSet) (As := [.int (nI ((S 4 i).toNatClampNeg))]) (rest := []) (q0 := 0) (ci := 2) hC.1 hC.2.1 hC.2.2 hW (c_X2_findSet (g := ((S 4 i).toNatClampNeg)) (hgi _ (by assumption)).2.1 (hgi _ (by assumption)).1 (ns := ns) hwd hns (by omega)) (cwV 1 hts gX2_raise_X2_findSet rfl rfl rfl (by decide +kernel) ⟨Nat.le_of_ble_eq_true rfl, Nat.le_of_ble_eq_true rfl⟩) (cy_w_at (by decide) (rfl)) rfl rfl hl.1 rfl (Nat.le_of_ble_eq_true rfl) dX2_raise_44 ⟨Nat.le_of_ble_eq_true rfl, Nat.le_of_ble_eq_true rfl⟩ (k' := 0) (n' := 0) rfl rfl (fun H locs hW => ?_)
      refine lv_lstore_n (lv' := [(2, .long (cy_rFs S Z ns ((S 4 i).toNatClampNeg))), (0, .ref (ad 0)), (1, .int (nI i))]) hx hb dX2_raise_47 rfl hl (by decide) rfl (fun ls hl => ?_)
      refine lv_lload_n hx hb dX2_raise_48 rfl (lv_at hl 0 rfl) ?_
      refine lv_ldc2 (v := (-1)) hx hb hown (hts (.constantLong RX2 108 (-1)) (by decide +kernel)) dX2_raise_49 ?_
      refine W.lcmp hx hb dX2_raise_52 ?_
      refine lv_if_ne (tgt := 66) hx hb dX2_raise_53 (by decide) (fun c_53 => ?_) (fun c_53 => ?_)
      · skip
        refine lv_aload_n hx hb dX2_raise_66 rfl (lv_at hl 1 rfl) ?_
        refine cy_get hC (0) (by decide) hi2 hW (cy_rd (cy_un (by omega)) rfl) rfl 8 (by decide) (hts (.fieldLink RX2 30 "CaskYard" "casks" "[LCaskYard$Cask;") (by decide +kernel)) (fun _ h9 => h9) (v := .ref (ad 7)) rfl dX2_raise_67 ?_
        refine lv_aload_n hx hb dX2_raise_70 rfl (lv_at hl 1 rfl) ?_
        refine cy_get hC (0) (by decide) hi2 hW (cy_rd (cy_un (by omega)) rfl) rfl 9 (by decide) (hts (.fieldLink RX2 114 "CaskYard" "caskCount" "I") (by decide +kernel)) (fun _ h9 => h9) (v := .int (S 0 9)) rfl dX2_raise_71 ?_
        refine cy_top (y := nI nc) hnc ?_
        refine cy_aald hC (7) (by decide) hW 3 (i := nc) (a := ad (3 * nc + 11)) (cy_rd (cy_un (by omega)) rfl) rfl (by omega) (by decide) rfl dX2_raise_74 ?_
        refine lv_astore (lv' := [(4, .ref (ad (3 * nc + 11))), (2, .long (cy_rFs S Z ns ((S 4 i).toNatClampNeg))), (0, .ref (ad 0)), (1, .int (nI i))]) hx hb dX2_raise_75 hl (by decide) rfl (fun ls hl => ?_)
        refine lv_aload hx hb dX2_raise_77 (lv_at hl 0 rfl) ?_
        refine lv_iload_n hx hb dX2_raise_79 rfl (lv_at hl 3 rfl) ?_
        refine cy_put hC (3 * nc + 11) (by omega) hi1 tyX1 tyX1_ok nmX1 hW (cy_rd (cy_un (by omega)) cy_eY_o) rfl 0 (by decide) (hts (.fieldLink RX2 121 "CaskYard$Cask" "sort" "I") (by decide +kernel)) (fun _ h9 => h9) rfl (ty := .int) (by decide +kernel) rfl rfl (Nat.le_of_ble_eq_true rfl) (upd (S (3 * nc + 11)) 0 (nI i)) cy_hC0 (S' := (va_up (va_up S 9 ((cy_fz S Z ns ((S 4 i).toNatClampNeg)).1)) (3 * nc + 11) (upd (S (3 * nc + 11)) 0 (nI i)))) rfl dX2_raise_80 (fun H locs hW => ?_)
        refine lv_aload hx hb dX2_raise_83 (lv_at hl 0 rfl) ?_
        refine lv_aload_n hx hb dX2_raise_85 rfl (lv_at hl 2 rfl) ?_
        refine cy_get hC (0) (by decide) hi2 hW (cy_rd ((cy_un (by omega)).trans (cy_un (by omega))) rfl) rfl 5 (by decide) (hts (.fieldLink RX2 22 "CaskYard" "rooms" "[I") (by decide +kernel)) (fun _ h9 => h9) (v := .ref (ad 5)) rfl dX2_raise_86 ?_
        refine lv_iload_n hx hb dX2_raise_89 rfl (lv_at hl 3 rfl) ?_
        refine cy_iald hC (5) (by decide) hW 0 (i := i) (cy_rd ((cy_un (by omega)).trans (cy_un (by omega))) rfl) rfl (by omega) (by decide) dX2_raise_90 ?_
        refine cy_put hC (3 * nc + 11) (by omega) hi1 tyX1 tyX1_ok nmX1 hW (cy_rd (cy_us) cy_eY_o) rfl 1 (by decide) (hts (.fieldLink RX2 124 "CaskYard$Cask" "room" "I") (by decide +kernel)) (fun _ h9 => h9) rfl (ty := .int) (by decide +kernel) rfl rfl (Nat.le_of_ble_eq_true rfl) (upd (upd (S (3 * nc + 11)) 0 (nI i)) 1 (S 5 i)) cy_hC1 (S' := (va_up (va_up S 9 ((cy_fz S Z ns ((S 4 i).toNatClampNeg)).1)) (3 * nc + 11) (upd (upd (S (3 * nc + 11)) 0 (nI i)) 1 (S 5 i)))) cy_uu dX2_raise_91 (fun H locs hW => ?_)
        refine lv_aload hx hb dX2_raise_94 (lv_at hl 0 rfl) ?_
        refine lv_iconst (v := 1) hx hb dX2_raise_96 (by decide) ?_
        refine cy_put hC (3 * nc + 11) (by omega) hi1 tyX1 tyX1_ok nmX1 hW (cy_rd (cy_us) cy_eY_o) rfl 2 (by decide) (hts (.fieldLink RX2 127 "CaskYard$Cask" "sound" "Z") (by decide +kernel)) (fun _ h9 => h9) rfl (ty := .boolean) (by decide +kernel) rfl rfl (Nat.le_of_ble_eq_true rfl) (upd (upd (upd (S (3 * nc + 11)) 0 (nI i)) 1 (S 5 i)) 2 1) cy_hC2 (S' := (va_up (va_up S 9 ((cy_fz S Z ns ((S 4 i).toNatClampNeg)).1)) (3 * nc + 11) (upd (upd (upd (S (3 * nc + 11)) 0 (nI i)) 1 (S 5 i)) 2 1))) cy_uu dX2_raise_97 (fun H locs hW => ?_)
        refine lv_aload hx hb dX2_raise_100 (lv_at hl 0 rfl) ?_
        refine lv_aload_n hx hb dX2_raise_102 rfl (lv_at hl 2 rfl) ?_
        refine cy_get hC (0) (by decide) hi2 hW (cy_rd ((cy_un (by omega)).trans (cy_un (by omega))) rfl) rfl 6 (by decide) (hts (.fieldLink RX2 25 "CaskYard" "hoopNumbers" "[I") (by decide +kernel)) (fun _ h9 => h9) (v := .ref (ad 6)) rfl dX2_raise_103 ?_
        refine lv_iload_n hx hb dX2_raise_106 rfl (lv_at hl 3 rfl) ?_
        refine cy_iald hC (6) (by decide) hW 0 (i := i) (cy_rd ((cy_un (by omega)).trans (cy_un (by omega))) rfl) rfl (by omega) (by decide) dX2_raise_107 ?_
        refine cy_top (y := nI ((S 6 i).toNatClampNeg)) ((hho i hi).2) ?_
        refine cy_callV (rm := rm_X1_putOnHoops) (As := [.int (nI ((S 6 i).toNatClampNeg))]) (rest := []) (q0 := 3 * nc + 11) (ci := 1) hC.1 hC.2.1 hC.2.2 hW (c_X1_putOnHoops (k := ((S 6 i).toNatClampNeg)) (hho _ hi).1 (c := nc) (by omega)) (cwV 1 hts gX2_raise_X1_putOnHoops rfl rfl rfl (by decide +kernel) ⟨Nat.le_of_ble_eq_true rfl, Nat.le_of_ble_eq_true rfl⟩) (cy_w_at (by omega) (cy_rd (cy_us) cy_eY_o)) rfl rfl hl.1 rfl (Nat.le_of_ble_eq_true rfl) dX2_raise_108 ⟨Nat.le_of_ble_eq_true rfl, Nat.le_of_ble_eq_true rfl⟩ (k' := 0) (n' := 0) rfl rfl (fun H locs hW => ?_)
        rw [show (cy_po (va_up (va_up (va_up S 9 ((cy_fz S Z ns ((S 4 i).toNatClampNeg)).1)) (3 * nc + 11) (upd (upd (upd (S (3 * nc + 11)) 0 (nI i)) 1 (S 5 i)) 2 1)) (3 * nc + 11) (upd ((va_up (va_up S 9 ((cy_fz S Z ns ((S 4 i).toNatClampNeg)).1)) (3 * nc + 11) (upd (upd (upd (S (3 * nc + 11)) 0 (nI i)) 1 (S 5 i)) 2 1)) (3 * nc + 11)) 4 (nI ((S 6 i).toNatClampNeg)))) nc ((S 6 i).toNatClampNeg)) = (cy_rB S Z (nI i) ns nc) from (by simp only [cy_rB, cy_rA, cy_gi, cli])] at hW
        refine lv_aload hx hb dX2_raise_111 (lv_at hl 0 rfl) ?_
        refine lv_aload_n hx hb dX2_raise_113 rfl (lv_at hl 2 rfl) ?_
        refine lv_lload_n hx hb dX2_raise_114 rfl (lv_at hl 1 rfl) ?_
        refine lv_aload_n hx hb dX2_raise_115 rfl (lv_at hl 2 rfl) ?_
        refine cy_get hC (0) (by decide) hi2 hW (rfl) rfl 9 (by decide) (hts (.fieldLink RX2 114 "CaskYard" "caskCount" "I") (by decide +kernel)) (fun _ h9 => h9) (v := .int (((cy_rB S Z (nI i) ns nc) 0) 9)) rfl dX2_raise_116 ?_
        refine cy_top (y := nI nc) (by rw [cy_rB_0 (by decide)]; exact hnc) ?_
        refine cy_callV (rm := rm_X2_putStavesIn) (As := [.long (cy_rFs S Z ns ((S 4 i).toNatClampNeg)), .int (nI nc)]) (rest := [.ref (ad (3 * nc + 11))]) (q0 := 0) (ci := 2) hC.1 hC.2.1 hC.2.2 hW (c_X2_putStavesIn (z := (cy_rFs S Z ns ((S 4 i).toNatClampNeg))) (x := (nI nc)) (ns := ns) (by rw [cy_rB_0 (by decide)]; exact hns) (by omega)) (cwV 2 hts gX2_raise_X2_putStavesIn rfl rfl rfl (by decide +kernel) ⟨Nat.le_of_ble_eq_true rfl, Nat.le_of_ble_eq_true rfl⟩) (cy_w_at (by decide) (rfl)) rfl rfl hl.1 rfl (Nat.le_of_ble_eq_true rfl) dX2_raise_119 ⟨Nat.le_of_ble_eq_true rfl, Nat.le_of_ble_eq_true rfl⟩ (k' := 0) (n' := 0) rfl rfl (fun H locs hW => ?_)
        refine cy_put hC (3 * nc + 11) (by omega) hi1 tyX1 tyX1_ok nmX1 hW (cy_eY_o) rfl 3 (by decide) (hts (.fieldLink RX2 138 "CaskYard$Cask" "flaws" "I") (by decide +kernel)) (fun _ h9 => h9) rfl (ty := .int) (by decide +kernel) rfl rfl (Nat.le_of_ble_eq_true rfl) (upd ((cy_ps (cy_rB S Z (nI i) ns nc) (cy_rFs S Z ns ((S 4 i).toNatClampNeg)) (nI nc) ns).1 (3 * nc + 11)) 3 ((cy_ps (cy_rB S Z (nI i) ns nc) (cy_rFs S Z ns ((S 4 i).toNatClampNeg)) (nI nc) ns).2)) cy_hC3 (S' := (va_up (cy_ps (cy_rB S Z (nI i) ns nc) (cy_rFs S Z ns ((S 4 i).toNatClampNeg)) (nI nc) ns).1 (3 * nc + 11) (upd ((cy_ps (cy_rB S Z (nI i) ns nc) (cy_rFs S Z ns ((S 4 i).toNatClampNeg)) (nI nc) ns).1 (3 * nc + 11)) 3 ((cy_ps (cy_rB S Z (nI i) ns nc) (cy_rFs S Z ns ((S 4 i).toNatClampNeg)) (nI nc) ns).2)))) rfl dX2_raise_122 (fun H locs hW => ?_)
        refine lv_aload_n hx hb dX2_raise_125 rfl (lv_at hl 2 rfl) ?_
        refine lv_dup hx hb dX2_raise_126 rfl ?_
        refine cy_get hC (0) (by decide) hi2 hW (cy_rd (cy_un (by omega)) rfl) rfl 9 (by decide) (hts (.fieldLink RX2 114 "CaskYard" "caskCount" "I") (by decide +kernel)) (fun _ h9 => h9) (v := .int (((cy_ps (cy_rB S Z (nI i) ns nc) (cy_rFs S Z ns ((S 4 i).toNatClampNeg)) (nI nc) ns).1 0) 9)) rfl dX2_raise_127 ?_
        refine cy_top (y := nI nc) (by rw [cy_ps_n (by decide), cy_rB_0 (by decide)]; exact hnc) ?_
        refine lv_iconst (v := 1) hx hb dX2_raise_130 (by decide) ?_
        refine lv_iadd hx hb dX2_raise_131 ?_
        refine cy_top (nI_add nc 1) ?_
        refine cy_put hC (0) (by decide) hi2 tyX2 tyX2_ok nmX2 hW (cy_rd (cy_un (by omega)) rfl) rfl 9 (by decide) (hts (.fieldLink RX2 114 "CaskYard" "caskCount" "I") (by decide +kernel)) (fun _ h9 => h9) rfl (ty := .int) (by decide +kernel) rfl rfl (Nat.le_of_ble_eq_true rfl) (upd ((cy_ps (cy_rB S Z (nI i) ns nc) (cy_rFs S Z ns ((S 4 i).toNatClampNeg)) (nI nc) ns).1 0) 9 (nI (nc + 1))) cy_hY9 (S' := (va_up (va_up (cy_ps (cy_rB S Z (nI i) ns nc) (cy_rFs S Z ns ((S 4 i).toNatClampNeg)) (nI nc) ns).1 (3 * nc + 11) (upd ((cy_ps (cy_rB S Z (nI i) ns nc) (cy_rFs S Z ns ((S 4 i).toNatClampNeg)) (nI nc) ns).1 (3 * nc + 11)) 3 ((cy_ps (cy_rB S Z (nI i) ns nc) (cy_rFs S Z ns ((S 4 i).toNatClampNeg)) (nI nc) ns).2))) 0 (upd ((cy_ps (cy_rB S Z (nI i) ns nc) (cy_rFs S Z ns ((S 4 i).toNatClampNeg)) (nI nc) ns).1 0) 9 (nI (nc + 1))))) rfl dX2_raise_132 (fun H locs hW => ?_)
        refine lv_aload_n hx hb dX2_raise_135 rfl (lv_at hl 2 rfl) ?_
        refine cy_get hC (0) (by decide) hi2 hW (cy_rd (cy_us) rfl) rfl 9 (by decide) (hts (.fieldLink RX2 114 "CaskYard" "caskCount" "I") (by decide +kernel)) (fun _ h9 => h9) (v := .int (nI (nc + 1))) rfl dX2_raise_136 ?_
        refine lv_iconst (v := 1) hx hb dX2_raise_139 (by decide) ?_
        refine lv_isub hx hb dX2_raise_140 ?_
        refine cy_topv (congrArg Value.int (show (nI (nc + 1)) - 1 = nI nc from by rw [nI_pred])) ?_
        have hW := cy_castS (show (va_up (va_up (cy_ps (cy_rB S Z (nI i) ns nc) (cy_rFs S Z ns ((S 4 i).toNatClampNeg)) (nI nc) ns).1 (3 * nc + 11) (upd ((cy_ps (cy_rB S Z (nI i) ns nc) (cy_rFs S Z ns ((S 4 i).toNatClampNeg)) (nI nc) ns).1 (3 * nc + 11)) 3 ((cy_ps (cy_rB S Z (nI i) ns nc) (cy_rFs S Z ns ((S 4 i).toNatClampNeg)) (nI nc) ns).2))) 0 (upd ((cy_ps (cy_rB S Z (nI i) ns nc) (cy_rFs S Z ns ((S 4 i).toNatClampNeg)) (nI nc) ns).1 0) 9 (nI (nc + 1)))) = (cy_sRa S Z (nI i) ns no nc) from by simp only [cy_sRa, cy_zRa, cy_nRa, cy_rP, cy_gi, c_5, c_24, c_53, cli, eq_self, ↓reduceIte]) hW
        have hW := cy_castZ (show (cy_fz S Z ns ((S 4 i).toNatClampNeg)).2 = (cy_zRa S Z (nI i) ns no nc) from by simp only [cy_sRa, cy_zRa, cy_nRa, cy_rP, cy_gi, c_5, c_24, c_53, cli, eq_self, ↓reduceIte]) hW
        exact hE (show cy_tRa S Z (nI i) ns no nc = none from by simp only [cy_tRa, cy_gi, c_5, c_24, c_53, cli, eq_self, ↓reduceIte]) _ _ _ _ _ _ (Nat.le_of_ble_eq_true rfl) (Nat.le_of_ble_eq_true rfl) hW dX2_raise_141
      · skip
        have hW := cy_castS (show (va_up S 9 ((cy_fz S Z ns ((S 4 i).toNatClampNeg)).1)) = (cy_sRa S Z (nI i) ns no nc) from by simp only [cy_sRa, cy_zRa, cy_nRa, cy_rP, cy_gi, c_5, c_24, c_53, cli, eq_self, ↓reduceIte]) hW
        have hW := cy_castZ (show (cy_fz S Z ns ((S 4 i).toNatClampNeg)).2 = (cy_zRa S Z (nI i) ns no nc) from by simp only [cy_sRa, cy_zRa, cy_nRa, cy_rP, cy_gi, c_5, c_24, c_53, cli, eq_self, ↓reduceIte]) hW
        exact hT _ _ _ _ 56 _ [] 69 73 119 cy_IS "no set of staves makes it" cy_ok_IS (show cy_tRa S Z (nI i) ns no nc = some cy_IS from by simp only [cy_tRa, cy_gi, c_5, c_24, c_53, cli, eq_self, ↓reduceIte]) (Nat.le_of_ble_eq_true rfl) (Nat.le_of_ble_eq_true rfl) (Nat.le_of_ble_eq_true rfl) hW (hl.1.trans hml.symm) (by decide +kernel) hkIS hiIS hgIS dX2_raise_56 dX2_raise_59 (Or.inl ⟨dX2_raise_60, dX2_raise_62, dX2_raise_65⟩)
    · skip
      have q_24 := cy_nlt (a := nc) (b := 12) (by omega) (by omega) c_24
      have hW := cy_castS (show S = (cy_sRa S Z (nI i) ns no nc) from by simp only [cy_sRa, cy_zRa, cy_nRa, cy_rP, cy_gi, c_5, c_24, cli, eq_self, ↓reduceIte]) hW
      have hW := cy_castZ (show Z = (cy_zRa S Z (nI i) ns no nc) from by simp only [cy_sRa, cy_zRa, cy_nRa, cy_rP, cy_gi, c_5, c_24, cli, eq_self, ↓reduceIte]) hW
      exact hT _ _ _ _ 27 _ [] 69 73 117 cy_IS "there are 12 casks" cy_ok_IS (show cy_tRa S Z (nI i) ns no nc = some cy_IS from by simp only [cy_tRa, cy_gi, c_5, c_24, cli, eq_self, ↓reduceIte]) (Nat.le_of_ble_eq_true rfl) (Nat.le_of_ble_eq_true rfl) (Nat.le_of_ble_eq_true rfl) hW (hl.1.trans hml.symm) (by decide +kernel) hkIS hiIS hgIS dX2_raise_27 dX2_raise_30 (Or.inl ⟨dX2_raise_31, dX2_raise_33, dX2_raise_36⟩)
  · skip
    have hW := cy_castS (show S = (cy_sRa S Z x ns no nc) from by simp only [cy_sRa, cy_zRa, cy_nRa, cy_rP, cy_gi, c_5, eq_self, ↓reduceIte]) hW
    have hW := cy_castZ (show Z = (cy_zRa S Z x ns no nc) from by simp only [cy_sRa, cy_zRa, cy_nRa, cy_rP, cy_gi, c_5, eq_self, ↓reduceIte]) hW
    exact hT _ _ _ _ 8 _ [] 78 82 100 cy_IB "no such sort" cy_ok_IB (show cy_tRa S Z x ns no nc = some cy_IB from by simp only [cy_tRa, cy_gi, c_5, eq_self, ↓reduceIte]) (Nat.le_of_ble_eq_true rfl) (Nat.le_of_ble_eq_true rfl) (Nat.le_of_ble_eq_true rfl) hW (hl.1.trans hml.symm) (by decide +kernel) hkIB hiIB hgIB dX2_raise_8 dX2_raise_11 (Or.inl ⟨dX2_raise_12, dX2_raise_14, dX2_raise_17⟩)
