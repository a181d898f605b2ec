abbrev rm_X3_foresee : Room := { frames := 4, cells := 3, slots := 16, locals := 92 }
set_option maxHeartbeats 4000000 in
set_option maxRecDepth 100000 in
theorem c_X3_foresee {l : Launch} {D : va_G} {kI kJ kZ kC : ClassId} {ad : Nat → Nat} {S : Nat → Nat → Int32} {tl : va_W} {x y z : Int32} {nc : Nat} (hnc : S 0 12 = nI nc) (h12 : nc ≤ 12) (hq : cq_ok S) : cy_M l yX3_foresee wsX3_foresee rm_X3_foresee D (cy_tys kI kJ kZ kC) [.ref (ad 0), .int x, .int y, .int z] (cy_Mw kI kZ ad S tl) (some (.int ((cq_Fo S x y z nc).2))) (cy_Mw kI kZ ad (cq_Fo S x y z nc).1 tl) := by
  refine cy_of (own := RX3) (cc := cX3_foresee) (maxL := 8) (ret := (some .int)) (i := .ireturn) (by decide) rfl rfl (Nat.le_of_ble_eq_true rfl) (cy_endI rfl) ?_
  intro p e s m args below meth co Q A ls hC hE hW hl
  have hx := hC.1.1; have hb := hC.1.2.1; have hml := hC.1.2.2.1; have hown := hC.1.2.2.2.1; have hts := hC.1.2.2.2.2
  have hl : lv_has ls 8 [(0, .ref (ad 0)), (1, .int x), (2, .int y), (3, .int z)] := hl
  have hi3 : ∀ w ∈ u_ws RX3 TX3 25, w ∈ wsX3_foresee := by decide +kernel
  refine lv_aload_n hx hb dX3_foresee_0 rfl (lv_at hl 0 rfl) ?_
  refine lv_iconst (v := 0) hx hb dX3_foresee_1 (by decide) ?_
  refine cy_put hC (0) (by decide) hi3 tyX3 tyX3_ok nmX3 hW (rfl) rfl 0 (by decide) (hts (.fieldLink RX3 67 "CaskYardModel" "thrown" "I") (by decide +kernel)) (fun _ h9 => h9) rfl (ty := .int) (by decide +kernel) rfl rfl (Nat.le_of_ble_eq_true rfl) (upd (S 0) 0 0) cy_hM0 (S' := (va_up S 0 (upd (S 0) 0 0))) rfl dX3_foresee_2 (fun H locs hW => ?_)
  refine lv_aload_n hx hb dX3_foresee_5 rfl (lv_at hl 0 rfl) ?_
  refine lv_iload_n hx hb dX3_foresee_6 rfl (lv_at hl 1 rfl) ?_
  refine cy_callV (rm := rm_X3_isCask) (As := [.int x]) (rest := []) (q0 := 0) (ci := 3) hC.1 hC.2.1 hC.2.2 hW (c_X3_isCask (x := x) (nc := nc) hnc (by omega)) (cwV 1 hts gX3_foresee_X3_isCask rfl rfl rfl (by decide +kernel) ⟨Nat.le_of_ble_eq_true rfl, Nat.le_of_ble_eq_true rfl⟩) (cy_w_at (by decide) (cy_rd (cy_us) rfl)) rfl rfl hl.1 rfl (Nat.le_of_ble_eq_true rfl) dX3_foresee_7 ⟨Nat.le_of_ble_eq_true rfl, Nat.le_of_ble_eq_true rfl⟩ (k' := 0) (n' := 0) rfl rfl (fun H locs hW => ?_)
  refine lv_if_eq (tgt := 22) hx hb dX3_foresee_10 (by decide) (fun c_10 => ?_) (fun c_10 => ?_)
  · skip
    refine lv_aload_n hx hb dX3_foresee_22 rfl (lv_at hl 0 rfl) ?_
    refine lv_iconst (v := 1) hx hb dX3_foresee_23 (by decide) ?_
    refine cy_callV (rm := rm_X3_no) (As := [.int 1]) (rest := []) (q0 := 0) (ci := 3) hC.1 hC.2.1 hC.2.2 hW (c_X3_no (x := 1)) (cwV 1 hts gX3_foresee_X3_no rfl rfl rfl (by decide +kernel) ⟨Nat.le_of_ble_eq_true rfl, Nat.le_of_ble_eq_true rfl⟩) (cy_w_at (by decide) (cy_rd (cy_us) rfl)) rfl rfl hl.1 rfl (Nat.le_of_ble_eq_true rfl) dX3_foresee_24 ⟨Nat.le_of_ble_eq_true rfl, Nat.le_of_ble_eq_true rfl⟩ (k' := 0) (n' := 0) rfl rfl (fun H locs hW => ?_)
    rw [show va_up (va_up S 0 (upd (S 0) 0 0)) 0 (upd ((va_up S 0 (upd (S 0) 0 0)) 0) 0 1) = (va_up S 0 (upd (upd (S 0) 0 0) 0 1)) from by rw [cy_us, cy_uu]] at hW
    refine cy_topv (congrArg Value.int (show 0 = (cq_Fo S x y z nc).2 from by simp only [cq_Fo, cq_th, cq_rs, cq_nFo, c_10, eq_self, ↓reduceIte, not_true_eq_false, not_false_eq_true])) ?_
    have hW := cy_castS (show (va_up S 0 (upd (upd (S 0) 0 0) 0 1)) = (cq_Fo S x y z nc).1 from by simp only [cq_Fo, cq_th, cq_rs, cq_nFo, c_10, eq_self, ↓reduceIte, not_true_eq_false, not_false_eq_true]) hW
    exact hE  _ _ _ _ _ _ (Nat.le_of_ble_eq_true rfl) (Nat.le_of_ble_eq_true rfl) hW dX3_foresee_27
  · skip
    obtain ⟨c, hc, rfl⟩ := cq_in_t (by omega) c_10
    have clc : (nI c).toNatClampNeg = c := nI_clamp (by omega)
    have hl : lv_has ls 8 [(0, .ref (ad 0)), (1, .int (nI c)), (2, .int y), (3, .int z)] := hl
    refine lv_iload_n hx hb dX3_foresee_13 rfl (lv_at hl 3 rfl) ?_
    refine lv_iconst (v := 0) hx hb dX3_foresee_14 (by decide) ?_
    refine lv_iconst (v := 3) hx hb dX3_foresee_15 (by decide) ?_
    refine cy_callS (rm := rm_X3_isIn) (As := [.int z, .int 0, .int 3]) (rest := []) hC.1 hC.2.1 hC.2.2 hW (c_X3_isIn (x := z) (y := 0) (z := 3)) (va_cwS 3 hts gX3_foresee_X3_isIn rfl rfl rfl (by decide +kernel) ⟨Nat.le_of_ble_eq_true rfl, Nat.le_of_ble_eq_true rfl⟩) rfl hl.1 rfl (Nat.le_of_ble_eq_true rfl) dX3_foresee_16 ⟨Nat.le_of_ble_eq_true rfl, Nat.le_of_ble_eq_true rfl⟩ (k' := 0) (n' := 0) rfl rfl (fun H locs hW => ?_)
    refine lv_if_ne (tgt := 28) hx hb dX3_foresee_19 (by decide) (fun c_19 => ?_) (fun c_19 => ?_)
    · skip
      refine lv_iload_n hx hb dX3_foresee_28 rfl (lv_at hl 2 rfl) ?_
      refine lv_iconst (v := 1) hx hb dX3_foresee_29 (by decide) ?_
      refine lv_bipush (v := 60) hx hb dX3_foresee_30 (by decide) ?_
      refine cy_callS (rm := rm_X3_isIn) (As := [.int y, .int 1, .int 60]) (rest := []) hC.1 hC.2.1 hC.2.2 hW (c_X3_isIn (x := y) (y := 1) (z := 60)) (va_cwS 3 hts gX3_foresee_X3_isIn rfl rfl rfl (by decide +kernel) ⟨Nat.le_of_ble_eq_true rfl, Nat.le_of_ble_eq_true rfl⟩) rfl hl.1 rfl (Nat.le_of_ble_eq_true rfl) dX3_foresee_32 ⟨Nat.le_of_ble_eq_true rfl, Nat.le_of_ble_eq_true rfl⟩ (k' := 0) (n' := 0) rfl rfl (fun H locs hW => ?_)
      refine lv_if_ne (tgt := 44) hx hb dX3_foresee_35 (by decide) (fun c_35 => ?_) (fun c_35 => ?_)
      · skip
        obtain ⟨k, hk, rfl⟩ := cq_in_l1 (n := 60) (by decide) c_35
        have clk : (nI k).toNatClampNeg = k := nI_clamp (by omega)
        have hl : lv_has ls 8 [(0, .ref (ad 0)), (1, .int (nI c)), (2, .int (nI k)), (3, .int z)] := hl
        refine lv_aload_n hx hb dX3_foresee_44 rfl (lv_at hl 0 rfl) ?_
        refine cy_get hC (0) (by decide) hi3 hW (cy_rd (cy_us) rfl) rfl 1 (by decide) (hts (.fieldLink RX3 151 "CaskYardModel" "month" "I") (by decide +kernel)) (fun _ h9 => h9) (v := .int ((S 0) 1)) rfl dX3_foresee_45 ?_
        refine lv_iload_n hx hb dX3_foresee_48 rfl (lv_at hl 2 rfl) ?_
        refine lv_iadd hx hb dX3_foresee_49 ?_
        refine lv_sipush (v := 1200) hx hb dX3_foresee_50 (by decide) ?_
        refine lv_icmp_le (tgt := 62) hx hb dX3_foresee_53 (by decide) (fun c_53 => ?_) (fun c_53 => ?_)
        · skip
          refine lv_aload_n hx hb dX3_foresee_62 rfl (lv_at hl 0 rfl) ?_
          refine cy_get hC (0) (by decide) hi3 hW (cy_rd (cy_us) rfl) rfl 14 (by decide) (hts (.fieldLink RX3 35 "CaskYardModel" "isSound" "[Z") (by decide +kernel)) (fun _ h9 => h9) (v := .ref (ad 8)) rfl dX3_foresee_63 ?_
          refine lv_iload_n hx hb dX3_foresee_66 rfl (lv_at hl 1 rfl) ?_
          refine cy_zald hC (8) (by decide) hW 2 (i := c) (cy_rd (cy_un (by omega)) rfl) rfl (by omega) (by decide) dX3_foresee_67 ?_
          refine lv_if_ne (tgt := 73) hx hb dX3_foresee_68 (by decide) (fun c_68 => ?_) (fun c_68 => ?_)
          · skip
            refine lv_iconst (v := 3) hx hb dX3_foresee_73 (by decide) ?_
            refine cy_newI hC hW rfl (hts (.arrayClass .int) (by decide +kernel)) (N := 3) (by decide) (Nat.le_of_ble_eq_true rfl) (Nat.le_of_ble_eq_true rfl) (k' := 1) (n' := 3) rfl rfl dX3_foresee_74 (fun q74 H hW => ?_)
            refine lv_dup hx hb dX3_foresee_76 rfl ?_
            refine lv_iconst (v := 0) hx hb dX3_foresee_77 (by decide) ?_
            refine lv_aload_n hx hb dX3_foresee_78 rfl (lv_at hl 0 rfl) ?_
            refine cy_get hC (0) (by decide) hi3 hW (cy_rd (cy_us) rfl) rfl 17 (by decide) (hts (.fieldLink RX3 45 "CaskYardModel" "swelling" "[I") (by decide +kernel)) (fun _ h9 => h9) (v := .ref (ad 11)) rfl dX3_foresee_79 ?_
            refine lv_iload_n hx hb dX3_foresee_82 rfl (lv_at hl 1 rfl) ?_
            refine cy_iald hC (11) (by decide) hW 0 (i := c) (cy_rd (cy_un (by omega)) rfl) rfl (by omega) (by decide) dX3_foresee_83 ?_
            refine cy_tiast (tl' := ((q74, .inl (kI, 3, .inl (upd (fun _ => 0) 0 (S 11 c)))) :: tl)) hC 0 q74 hW 0 (i := 0) rfl rfl (by omega) (by decide) rfl dX3_foresee_84 (fun H locs hW => ?_)
            refine lv_dup hx hb dX3_foresee_85 rfl ?_
            refine lv_iconst (v := 1) hx hb dX3_foresee_86 (by decide) ?_
            refine lv_aload_n hx hb dX3_foresee_87 rfl (lv_at hl 0 rfl) ?_
            refine cy_get hC (0) (by decide) hi3 hW (cy_rd (cy_us) rfl) rfl 19 (by decide) (hts (.fieldLink RX3 51 "CaskYardModel" "air" "[I") (by decide +kernel)) (fun _ h9 => h9) (v := .ref (ad 13)) rfl dX3_foresee_88 ?_
            refine lv_iload_n hx hb dX3_foresee_91 rfl (lv_at hl 1 rfl) ?_
            refine cy_iald hC (13) (by decide) hW 0 (i := c) (cy_rd (cy_un (by omega)) rfl) rfl (by omega) (by decide) dX3_foresee_92 ?_
            refine cy_tiast (tl' := ((q74, .inl (kI, 3, .inl (upd (upd (fun _ => 0) 0 (S 11 c)) 1 (S 13 c)))) :: tl)) hC 0 q74 hW 0 (i := 1) rfl rfl (by omega) (by decide) rfl dX3_foresee_93 (fun H locs hW => ?_)
            refine lv_dup hx hb dX3_foresee_94 rfl ?_
            refine lv_iconst (v := 2) hx hb dX3_foresee_95 (by decide) ?_
            refine lv_aload_n hx hb dX3_foresee_96 rfl (lv_at hl 0 rfl) ?_
            refine cy_get hC (0) (by decide) hi3 hW (cy_rd (cy_us) rfl) rfl 21 (by decide) (hts (.fieldLink RX3 57 "CaskYardModel" "grains" "[I") (by decide +kernel)) (fun _ h9 => h9) (v := .ref (ad 15)) rfl dX3_foresee_97 ?_
            refine lv_iload_n hx hb dX3_foresee_100 rfl (lv_at hl 1 rfl) ?_
            refine cy_iald hC (15) (by decide) hW 0 (i := c) (cy_rd (cy_un (by omega)) rfl) rfl (by omega) (by decide) dX3_foresee_101 ?_
            refine cy_tiast (tl' := ((q74, .inl (kI, 3, .inl (upd (upd (upd (fun _ => 0) 0 (S 11 c)) 1 (S 13 c)) 2 (S 15 c)))) :: tl)) hC 0 q74 hW 0 (i := 2) rfl rfl (by omega) (by decide) rfl dX3_foresee_102 (fun H locs hW => ?_)
            refine lv_astore (lv' := [(4, .ref q74), (0, .ref (ad 0)), (1, .int (nI c)), (2, .int (nI k)), (3, .int z)]) hx hb dX3_foresee_103 hl (by decide) rfl (fun ls hl => ?_)
            refine lv_iconst (v := 5) hx hb dX3_foresee_105 (by decide) ?_
            refine cy_newI hC hW rfl (hts (.arrayClass .int) (by decide +kernel)) (N := 5) (by decide) (Nat.le_of_ble_eq_true rfl) (Nat.le_of_ble_eq_true rfl) (k' := 2) (n' := 8) rfl rfl dX3_foresee_106 (fun q106 H hW => ?_)
            refine lv_astore (lv' := [(5, .ref q106), (4, .ref q74), (0, .ref (ad 0)), (1, .int (nI c)), (2, .int (nI k)), (3, .int z)]) hx hb dX3_foresee_108 hl (by decide) rfl (fun ls hl => ?_)
            refine lv_bipush (v := 8) hx hb dX3_foresee_110 (by decide) ?_
            refine cy_newI hC hW rfl (hts (.arrayClass .int) (by decide +kernel)) (N := 8) (by decide) (Nat.le_of_ble_eq_true rfl) (Nat.le_of_ble_eq_true rfl) (k' := 3) (n' := 16) rfl rfl dX3_foresee_112 (fun q112 H hW => ?_)
            refine lv_astore (lv' := [(6, .ref q112), (5, .ref q106), (4, .ref q74), (0, .ref (ad 0)), (1, .int (nI c)), (2, .int (nI k)), (3, .int z)]) hx hb dX3_foresee_114 hl (by decide) rfl (fun ls hl => ?_)
            refine lv_aload_n hx hb dX3_foresee_116 rfl (lv_at hl 3 rfl) ?_
            refine cy_get hC (0) (by decide) hi3 hW (cy_rd (cy_us) rfl) rfl 20 (by decide) (hts (.fieldLink RX3 54 "CaskYardModel" "holds" "[I") (by decide +kernel)) (fun _ h9 => h9) (v := .ref (ad 14)) rfl dX3_foresee_117 ?_
            refine lv_iconst (v := 5) hx hb dX3_foresee_120 (by decide) ?_
            refine lv_iload_n hx hb dX3_foresee_121 rfl (lv_at hl 4 rfl) ?_
            refine lv_imul hx hb dX3_foresee_122 ?_
            refine cy_top (pk_mul 5 c) ?_
            refine lv_aload hx hb dX3_foresee_123 (lv_at hl 1 rfl) ?_
            refine lv_iconst (v := 0) hx hb dX3_foresee_125 (by decide) ?_
            refine lv_iconst (v := 5) hx hb dX3_foresee_126 (by decide) ?_
            refine cy_copy hC (hml.trans hl.1.symm) (hts (.methodLink RX3 163 arraycopyName) (by decide +kernel)) (hts (.native arraycopyName) (by decide +kernel)) (hts (.static arraycopyName) (by decide +kernel)) (hts (.initialized "java/lang/System") (by decide +kernel)) hW (14) (18 + 1) (sp := (5 * c)) (dp := 0) (k := 5) rfl (cy_w_at (by decide) (cy_rd (cy_un (by omega)) rfl)) (cy_w_tl (i := 1) rfl) (by omega) (by omega) (by decide) (by decide) (cy_w_tlset (tl' := ((q112, .inl (kI, 8, .inl (fun _ => 0))) :: ((q106, .inl (kI, 5, .inl (va_cpy (S 14) (fun _ => 0) (5 * c) 0 5))) :: ((q74, .inl (kI, 3, .inl (upd (upd (upd (fun _ => 0) 0 (S 11 c)) 1 (S 13 c)) 2 (S 15 c)))) :: tl)))) rfl) (Nat.le_of_ble_eq_true rfl) (Nat.le_of_ble_eq_true rfl) dX3_foresee_127 (fun H locs hW => ?_)
            refine lv_aload_n hx hb dX3_foresee_130 rfl (lv_at hl 3 rfl) ?_
            refine cy_get hC (0) (by decide) hi3 hW (cy_rd (cy_us) rfl) rfl 16 (by decide) (hts (.fieldLink RX3 42 "CaskYardModel" "tension" "[I") (by decide +kernel)) (fun _ h9 => h9) (v := .ref (ad 10)) rfl dX3_foresee_131 ?_
            refine lv_bipush (v := 8) hx hb dX3_foresee_134 (by decide) ?_
            refine lv_iload_n hx hb dX3_foresee_136 rfl (lv_at hl 4 rfl) ?_
            refine lv_imul hx hb dX3_foresee_137 ?_
            refine cy_top (pk_mul 8 c) ?_
            refine lv_aload hx hb dX3_foresee_138 (lv_at hl 0 rfl) ?_
            refine lv_iconst (v := 0) hx hb dX3_foresee_140 (by decide) ?_
            refine lv_bipush (v := 8) hx hb dX3_foresee_141 (by decide) ?_
            refine cy_copy hC (hml.trans hl.1.symm) (hts (.methodLink RX3 163 arraycopyName) (by decide +kernel)) (hts (.native arraycopyName) (by decide +kernel)) (hts (.static arraycopyName) (by decide +kernel)) (hts (.initialized "java/lang/System") (by decide +kernel)) hW (10) (18 + 0) (sp := (8 * c)) (dp := 0) (k := 8) rfl (cy_w_at (by decide) (cy_rd (cy_un (by omega)) rfl)) (cy_w_tl (i := 0) rfl) (by omega) (by omega) (by decide) (by decide) (cy_w_tlset (tl' := ((q112, .inl (kI, 8, .inl (va_cpy (S 10) (fun _ => 0) (8 * c) 0 8))) :: ((q106, .inl (kI, 5, .inl (va_cpy (S 14) (fun _ => 0) (5 * c) 0 5))) :: ((q74, .inl (kI, 3, .inl (upd (upd (upd (fun _ => 0) 0 (S 11 c)) 1 (S 13 c)) 2 (S 15 c)))) :: tl)))) rfl) (Nat.le_of_ble_eq_true rfl) (Nat.le_of_ble_eq_true rfl) dX3_foresee_143 (fun H locs hW => ?_)
            refine lv_iconst (v := 1) hx hb dX3_foresee_146 (by decide) ?_
            refine lv_istore (lv' := [(7, .int 1), (6, .ref q112), (5, .ref q106), (4, .ref q74), (0, .ref (ad 0)), (1, .int (nI c)), (2, .int (nI k)), (3, .int z)]) hx hb dX3_foresee_147 hl (by decide) rfl (fun ls hl => ?_)
            have L_149 : ∀ (fu : Nat) (i : Nat), k - i < fu → (i ≤ k) → ∀ (H : Heap) (locs : List Loc), cy_W D A s.heap (cy_Mw kI kZ ad (cq_fl S c i) ((q112, .inl (kI, 8, .inl (va_cpy (S 10) (fun _ => 0) (8 * c) 0 8))) :: ((q106, .inl (kI, 5, .inl (va_cpy (S 14) (fun _ => 0) (5 * c) 0 5))) :: ((q74, .inl (kI, 3, .inl (upd (upd (upd (fun _ => 0) 0 (S 11 c)) 1 (S 13 c)) 2 (S 15 c)))) :: tl)))) H locs → ∀ (ls : Array Slot), lv_has ls 8 [(7, .int (nI (i + 1))), (0, .ref (ad 0)), (1, .int (nI c)), (2, .int (nI k)), (3, .int z), (4, .ref q74), (5, .ref q106), (6, .ref q112)] → W p l e rm_X3_foresee s m args below meth co H locs 3 16 Q (F0 m 149 ls []) := by
              intro fu
              induction fu with
              | zero => intro i hn; exact absurd hn (Nat.not_lt_zero _)
              | succ fu ih_149 =>
                intro i hn_149 hi H locs hW ls hl
                have hqF : cq_ok (cq_fl S c i) := cq_fl_ok hq
                refine lv_iload hx hb dX3_foresee_149 (lv_at hl 0 rfl) ?_
                refine lv_iload_n hx hb dX3_foresee_151 rfl (lv_at hl 3 rfl) ?_
                refine lv_icmp_gt (tgt := 174) hx hb dX3_foresee_152 (by decide) (fun c_152 => ?_) (fun c_152 => ?_)
                · skip
                  have q_152 := cy_lt (a := k) (b := (i + 1)) (by omega) (by omega) c_152
                  obtain rfl : k = i := by omega
                  refine lv_aload_n hx hb dX3_foresee_174 rfl (lv_at hl 1 rfl) ?_
                  refine lv_iload_n hx hb dX3_foresee_175 rfl (lv_at hl 2 rfl) ?_
                  refine lv_iload_n hx hb dX3_foresee_176 rfl (lv_at hl 4 rfl) ?_
                  refine cy_callV (rm := rm_X3_foreseen) (As := [.int (nI c), .int z]) (rest := []) (q0 := 0) (ci := 3) hC.1 hC.2.1 hC.2.2 hW (c_X3_foreseen (c := c) (x := z) (by omega) hqF) (cwV 2 hts gX3_foresee_X3_foreseen rfl rfl rfl (by decide +kernel) ⟨Nat.le_of_ble_eq_true rfl, Nat.le_of_ble_eq_true rfl⟩) (cy_w_at (by decide) (rfl)) rfl rfl hl.1 rfl (Nat.le_of_ble_eq_true rfl) dX3_foresee_177 ⟨Nat.le_of_ble_eq_true rfl, Nat.le_of_ble_eq_true rfl⟩ (k' := 3) (n' := 16) rfl rfl (fun H locs hW => ?_)
                  refine lv_istore (lv' := [(7, .int (cq_fn (cq_fl S c k) c z)), (0, .ref (ad 0)), (1, .int (nI c)), (2, .int (nI k)), (3, .int z), (4, .ref q74), (5, .ref q106), (6, .ref q112)]) hx hb dX3_foresee_180 hl (by decide) rfl (fun ls hl => ?_)
                  refine lv_aload_n hx hb dX3_foresee_182 rfl (lv_at hl 1 rfl) ?_
                  refine cy_get hC (0) (by decide) hi3 hW (rfl) rfl 17 (by decide) (hts (.fieldLink RX3 45 "CaskYardModel" "swelling" "[I") (by decide +kernel)) (fun _ h9 => h9) (v := .ref (ad 11)) rfl dX3_foresee_183 ?_
                  refine lv_iload_n hx hb dX3_foresee_186 rfl (lv_at hl 2 rfl) ?_
                  refine lv_aload hx hb dX3_foresee_187 (lv_at hl 5 rfl) ?_
                  refine lv_iconst (v := 0) hx hb dX3_foresee_189 (by decide) ?_
                  refine cy_tiald hC 2 q74 hW 0 (i := 0) rfl rfl (by omega) (by decide) dX3_foresee_190 ?_
                  refine cy_iast hC (11) (by decide) hW 0 (i := c) (rfl) rfl (by omega) (by decide) (upd ((cq_fl S c k) 11) c (S 11 c)) rfl (S' := (va_up (cq_fl S c k) 11 (upd ((cq_fl S c k) 11) c (S 11 c)))) rfl dX3_foresee_191 (fun H locs hW => ?_)
                  refine lv_aload_n hx hb dX3_foresee_192 rfl (lv_at hl 1 rfl) ?_
                  refine cy_get hC (0) (by decide) hi3 hW (cy_rd (cy_un (by omega)) rfl) rfl 19 (by decide) (hts (.fieldLink RX3 51 "CaskYardModel" "air" "[I") (by decide +kernel)) (fun _ h9 => h9) (v := .ref (ad 13)) rfl dX3_foresee_193 ?_
                  refine lv_iload_n hx hb dX3_foresee_196 rfl (lv_at hl 2 rfl) ?_
                  refine lv_aload hx hb dX3_foresee_197 (lv_at hl 5 rfl) ?_
                  refine lv_iconst (v := 1) hx hb dX3_foresee_199 (by decide) ?_
                  refine cy_tiald hC 2 q74 hW 0 (i := 1) rfl rfl (by omega) (by decide) dX3_foresee_200 ?_
                  refine cy_iast hC (13) (by decide) hW 0 (i := c) (cy_rd (cy_un (by omega)) rfl) rfl (by omega) (by decide) (upd ((cq_fl S c k) 13) c (S 13 c)) rfl (S' := (va_up (va_up (cq_fl S c k) 11 (upd ((cq_fl S c k) 11) c (S 11 c))) 13 (upd ((cq_fl S c k) 13) c (S 13 c)))) rfl dX3_foresee_201 (fun H locs hW => ?_)
                  refine lv_aload_n hx hb dX3_foresee_202 rfl (lv_at hl 1 rfl) ?_
                  refine cy_get hC (0) (by decide) hi3 hW (cy_rd ((cy_un (by omega)).trans (cy_un (by omega))) rfl) rfl 21 (by decide) (hts (.fieldLink RX3 57 "CaskYardModel" "grains" "[I") (by decide +kernel)) (fun _ h9 => h9) (v := .ref (ad 15)) rfl dX3_foresee_203 ?_
                  refine lv_iload_n hx hb dX3_foresee_206 rfl (lv_at hl 2 rfl) ?_
                  refine lv_aload hx hb dX3_foresee_207 (lv_at hl 5 rfl) ?_
                  refine lv_iconst (v := 2) hx hb dX3_foresee_209 (by decide) ?_
                  refine cy_tiald hC 2 q74 hW 0 (i := 2) rfl rfl (by omega) (by decide) dX3_foresee_210 ?_
                  refine cy_iast hC (15) (by decide) hW 0 (i := c) (cy_rd ((cy_un (by omega)).trans (cy_un (by omega))) rfl) rfl (by omega) (by decide) (upd ((cq_fl S c k) 15) c (S 15 c)) rfl (S' := (va_up (va_up (va_up (cq_fl S c k) 11 (upd ((cq_fl S c k) 11) c (S 11 c))) 13 (upd ((cq_fl S c k) 13) c (S 13 c))) 15 (upd ((cq_fl S c k) 15) c (S 15 c)))) rfl dX3_foresee_211 (fun H locs hW => ?_)
                  refine lv_aload hx hb dX3_foresee_212 (lv_at hl 6 rfl) ?_
                  refine lv_iconst (v := 0) hx hb dX3_foresee_214 (by decide) ?_
                  refine lv_aload_n hx hb dX3_foresee_215 rfl (lv_at hl 1 rfl) ?_
                  refine cy_get hC (0) (by decide) hi3 hW (cy_rd ((cy_un (by omega)).trans ((cy_un (by omega)).trans (cy_un (by omega)))) rfl) rfl 20 (by decide) (hts (.fieldLink RX3 54 "CaskYardModel" "holds" "[I") (by decide +kernel)) (fun _ h9 => h9) (v := .ref (ad 14)) rfl dX3_foresee_216 ?_
                  refine lv_iconst (v := 5) hx hb dX3_foresee_219 (by decide) ?_
                  refine lv_iload_n hx hb dX3_foresee_220 rfl (lv_at hl 2 rfl) ?_
                  refine lv_imul hx hb dX3_foresee_221 ?_
                  refine cy_top (pk_mul 5 c) ?_
                  refine lv_iconst (v := 5) hx hb dX3_foresee_222 (by decide) ?_
                  refine cy_copy hC (hml.trans hl.1.symm) (hts (.methodLink RX3 163 arraycopyName) (by decide +kernel)) (hts (.native arraycopyName) (by decide +kernel)) (hts (.static arraycopyName) (by decide +kernel)) (hts (.initialized "java/lang/System") (by decide +kernel)) hW (18 + 1) (14) (sp := 0) (dp := (5 * c)) (k := 5) rfl (cy_w_tl (i := 1) rfl) (cy_w_at (by decide) (cy_rd ((cy_un (by omega)).trans ((cy_un (by omega)).trans (cy_un (by omega)))) rfl)) (by omega) (by omega) (by decide) (by decide) ((cy_w_set (by decide) (f := va_cpy (va_cpy (S 14) (fun _ => 0) (5 * c) 0 5) ((cq_fl S c k) 14) 0 (5 * c) 5) rfl).trans (congrArg (fun z => cy_w _ ad _ z ((q112, .inl (kI, 8, .inl (va_cpy (S 10) (fun _ => 0) (8 * c) 0 8))) :: ((q106, .inl (kI, 5, .inl (va_cpy (S 14) (fun _ => 0) (5 * c) 0 5))) :: ((q74, .inl (kI, 3, .inl (upd (upd (upd (fun _ => 0) 0 (S 11 c)) 1 (S 13 c)) 2 (S 15 c)))) :: tl)))) (show _ = (va_up (va_up (va_up (va_up (cq_fl S c k) 11 (upd ((cq_fl S c k) 11) c (S 11 c))) 13 (upd ((cq_fl S c k) 13) c (S 13 c))) 15 (upd ((cq_fl S c k) 15) c (S 15 c))) 14 (va_cpy (va_cpy (S 14) (fun _ => 0) (5 * c) 0 5) ((cq_fl S c k) 14) 0 (5 * c) 5)) from rfl))) (Nat.le_of_ble_eq_true rfl) (Nat.le_of_ble_eq_true rfl) dX3_foresee_223 (fun H locs hW => ?_)
                  refine lv_aload hx hb dX3_foresee_226 (lv_at hl 7 rfl) ?_
                  refine lv_iconst (v := 0) hx hb dX3_foresee_228 (by decide) ?_
                  refine lv_aload_n hx hb dX3_foresee_229 rfl (lv_at hl 1 rfl) ?_
                  refine cy_get hC (0) (by decide) hi3 hW (cy_rd ((cy_un (by omega)).trans ((cy_un (by omega)).trans ((cy_un (by omega)).trans (cy_un (by omega))))) rfl) rfl 16 (by decide) (hts (.fieldLink RX3 42 "CaskYardModel" "tension" "[I") (by decide +kernel)) (fun _ h9 => h9) (v := .ref (ad 10)) rfl dX3_foresee_230 ?_
                  refine lv_bipush (v := 8) hx hb dX3_foresee_233 (by decide) ?_
                  refine lv_iload_n hx hb dX3_foresee_235 rfl (lv_at hl 2 rfl) ?_
                  refine lv_imul hx hb dX3_foresee_236 ?_
                  refine cy_top (pk_mul 8 c) ?_
                  refine lv_bipush (v := 8) hx hb dX3_foresee_237 (by decide) ?_
                  refine cy_copy hC (hml.trans hl.1.symm) (hts (.methodLink RX3 163 arraycopyName) (by decide +kernel)) (hts (.native arraycopyName) (by decide +kernel)) (hts (.static arraycopyName) (by decide +kernel)) (hts (.initialized "java/lang/System") (by decide +kernel)) hW (18 + 0) (10) (sp := 0) (dp := (8 * c)) (k := 8) rfl (cy_w_tl (i := 0) rfl) (cy_w_at (by decide) (cy_rd ((cy_un (by omega)).trans ((cy_un (by omega)).trans ((cy_un (by omega)).trans (cy_un (by omega))))) rfl)) (by omega) (by omega) (by decide) (by decide) ((cy_w_set (by decide) (f := va_cpy (va_cpy (S 10) (fun _ => 0) (8 * c) 0 8) ((cq_fl S c k) 10) 0 (8 * c) 8) rfl).trans (congrArg (fun z => cy_w _ ad _ z ((q112, .inl (kI, 8, .inl (va_cpy (S 10) (fun _ => 0) (8 * c) 0 8))) :: ((q106, .inl (kI, 5, .inl (va_cpy (S 14) (fun _ => 0) (5 * c) 0 5))) :: ((q74, .inl (kI, 3, .inl (upd (upd (upd (fun _ => 0) 0 (S 11 c)) 1 (S 13 c)) 2 (S 15 c)))) :: tl)))) (show _ = (va_up (va_up (va_up (va_up (va_up (cq_fl S c k) 11 (upd ((cq_fl S c k) 11) c (S 11 c))) 13 (upd ((cq_fl S c k) 13) c (S 13 c))) 15 (upd ((cq_fl S c k) 15) c (S 15 c))) 14 (va_cpy (va_cpy (S 14) (fun _ => 0) (5 * c) 0 5) ((cq_fl S c k) 14) 0 (5 * c) 5)) 10 (va_cpy (va_cpy (S 10) (fun _ => 0) (8 * c) 0 8) ((cq_fl S c k) 10) 0 (8 * c) 8)) from rfl))) (Nat.le_of_ble_eq_true rfl) (Nat.le_of_ble_eq_true rfl) dX3_foresee_239 (fun H locs hW => ?_)
                  refine lv_iload hx hb dX3_foresee_242 (lv_at hl 0 rfl) ?_
                  have hW := cy_drop hW
                  have hW := cy_drop hW
                  have hW := cy_drop hW
                  refine cy_topv (congrArg Value.int (show cq_fn (cq_fl S c k) c z = (cq_Fo S (nI c) (nI k) z nc).2 from by simp only [cq_Fo, cq_th, cq_rs, cq_nFo, c_10, c_19, c_35, c_53, c_68, c_152, clc, clk, eq_self, ↓reduceIte, not_true_eq_false, not_false_eq_true])) ?_
                  have hW := cy_castS (show (va_up (va_up (va_up (va_up (va_up (cq_fl S c k) 11 (upd ((cq_fl S c k) 11) c (S 11 c))) 13 (upd ((cq_fl S c k) 13) c (S 13 c))) 15 (upd ((cq_fl S c k) 15) c (S 15 c))) 14 (va_cpy (va_cpy (S 14) (fun _ => 0) (5 * c) 0 5) ((cq_fl S c k) 14) 0 (5 * c) 5)) 10 (va_cpy (va_cpy (S 10) (fun _ => 0) (8 * c) 0 8) ((cq_fl S c k) 10) 0 (8 * c) 8)) = (cq_Fo S (nI c) (nI k) z nc).1 from by simp only [cq_Fo, cq_th, cq_rs, cq_nFo, c_10, c_19, c_35, c_53, c_68, c_152, clc, clk, eq_self, ↓reduceIte, not_true_eq_false, not_false_eq_true]) hW
                  exact hE  _ _ _ _ _ _ (Nat.le_of_ble_eq_true rfl) (Nat.le_of_ble_eq_true rfl) hW dX3_foresee_244
                · skip
                  have q_152 := cy_nlt (a := k) (b := (i + 1)) (by omega) (by omega) c_152
                  refine lv_aload_n hx hb dX3_foresee_155 rfl (lv_at hl 1 rfl) ?_
                  refine lv_iload_n hx hb dX3_foresee_156 rfl (lv_at hl 2 rfl) ?_
                  refine lv_aload_n hx hb dX3_foresee_157 rfl (lv_at hl 1 rfl) ?_
                  refine cy_get hC (0) (by decide) hi3 hW (rfl) rfl 1 (by decide) (hts (.fieldLink RX3 151 "CaskYardModel" "month" "I") (by decide +kernel)) (fun _ h9 => h9) (v := .int (((cq_fl S c i) 0) 1)) rfl dX3_foresee_158 ?_
                  refine cy_top (y := S 0 1) cq_fl_1 ?_
                  refine lv_iload hx hb dX3_foresee_161 (lv_at hl 0 rfl) ?_
                  refine lv_iadd hx hb dX3_foresee_163 ?_
                  refine cy_callV (rm := rm_X3_pass) (As := [.int (nI c), .int ((S 0 1) + (nI (i + 1)))]) (rest := []) (q0 := 0) (ci := 3) hC.1 hC.2.1 hC.2.2 hW (c_X3_pass (c := c) (x := ((S 0 1) + (nI (i + 1)))) (by omega) hqF) (cwV 2 hts gX3_foresee_X3_pass rfl rfl rfl (by decide +kernel) ⟨Nat.le_of_ble_eq_true rfl, Nat.le_of_ble_eq_true rfl⟩) (cy_w_at (by decide) (rfl)) rfl rfl hl.1 rfl (Nat.le_of_ble_eq_true rfl) dX3_foresee_164 ⟨Nat.le_of_ble_eq_true rfl, Nat.le_of_ble_eq_true rfl⟩ (k' := 3) (n' := 16) rfl rfl (fun H locs hW => ?_)
                  refine lv_pop hx hb dX3_foresee_167 rfl ?_
                  refine lv_iinc (v := nI (i + 1 + 1)) (lv' := [(7, .int (nI (i + 1 + 1))), (0, .ref (ad 0)), (1, .int (nI c)), (2, .int (nI k)), (3, .int z), (4, .ref q74), (5, .ref q106), (6, .ref q112)]) hx hb dX3_foresee_168 hl (k := 0) rfl (nI_1 (i + 1)) (by decide) rfl (fun ls hl => ?_)
                  refine lv_goto (tgt := 149) hx hb dX3_foresee_171 (by decide) ?_
                  exact ih_149 (i + 1) (by omega) (by omega) _ _ hW _ (lv_sub hl [0, 1, 2, 3, 4, 5, 6, 7] rfl)
            exact L_149 ((k - 0) + 1) 0 (Nat.lt_succ_self _) (by omega) _ _ hW _ (lv_sub hl [0, 4, 5, 6, 7, 3, 2, 1] rfl)
          · skip
            refine lv_iconst (v := 0) hx hb dX3_foresee_71 (by decide) ?_
            refine cy_topv (congrArg Value.int (show 0 = (cq_Fo S (nI c) (nI k) z nc).2 from by simp only [cq_Fo, cq_th, cq_rs, cq_nFo, c_10, c_19, c_35, c_53, c_68, clc, clk, eq_self, ↓reduceIte, not_true_eq_false, not_false_eq_true])) ?_
            have hW := cy_castS (show (va_up S 0 (upd (S 0) 0 0)) = (cq_Fo S (nI c) (nI k) z nc).1 from by simp only [cq_Fo, cq_th, cq_rs, cq_nFo, c_10, c_19, c_35, c_53, c_68, clc, clk, eq_self, ↓reduceIte, not_true_eq_false, not_false_eq_true]) hW
            exact hE  _ _ _ _ _ _ (Nat.le_of_ble_eq_true rfl) (Nat.le_of_ble_eq_true rfl) hW dX3_foresee_72
        · skip
          refine lv_aload_n hx hb dX3_foresee_56 rfl (lv_at hl 0 rfl) ?_
          refine lv_iconst (v := 3) hx hb dX3_foresee_57 (by decide) ?_
          refine cy_callV (rm := rm_X3_no) (As := [.int 3]) (rest := []) (q0 := 0) (ci := 3) hC.1 hC.2.1 hC.2.2 hW (c_X3_no (x := 3)) (cwV 1 hts gX3_foresee_X3_no rfl rfl rfl (by decide +kernel) ⟨Nat.le_of_ble_eq_true rfl, Nat.le_of_ble_eq_true rfl⟩) (cy_w_at (by decide) (cy_rd (cy_us) rfl)) rfl rfl hl.1 rfl (Nat.le_of_ble_eq_true rfl) dX3_foresee_58 ⟨Nat.le_of_ble_eq_true rfl, Nat.le_of_ble_eq_true rfl⟩ (k' := 0) (n' := 0) rfl rfl (fun H locs hW => ?_)
          rw [show va_up (va_up S 0 (upd (S 0) 0 0)) 0 (upd ((va_up S 0 (upd (S 0) 0 0)) 0) 0 3) = (va_up S 0 (upd (upd (S 0) 0 0) 0 3)) from by rw [cy_us, cy_uu]] at hW
          refine cy_topv (congrArg Value.int (show 0 = (cq_Fo S (nI c) (nI k) z nc).2 from by simp only [cq_Fo, cq_th, cq_rs, cq_nFo, c_10, c_19, c_35, c_53, clc, clk, eq_self, ↓reduceIte, not_true_eq_false, not_false_eq_true])) ?_
          have hW := cy_castS (show (va_up S 0 (upd (upd (S 0) 0 0) 0 3)) = (cq_Fo S (nI c) (nI k) z nc).1 from by simp only [cq_Fo, cq_th, cq_rs, cq_nFo, c_10, c_19, c_35, c_53, clc, clk, eq_self, ↓reduceIte, not_true_eq_false, not_false_eq_true]) hW
          exact hE  _ _ _ _ _ _ (Nat.le_of_ble_eq_true rfl) (Nat.le_of_ble_eq_true rfl) hW dX3_foresee_61
      · skip
        refine lv_aload_n hx hb dX3_foresee_38 rfl (lv_at hl 0 rfl) ?_
        refine lv_iconst (v := 2) hx hb dX3_foresee_39 (by decide) ?_
        refine cy_callV (rm := rm_X3_no) (As := [.int 2]) (rest := []) (q0 := 0) (ci := 3) hC.1 hC.2.1 hC.2.2 hW (c_X3_no (x := 2)) (cwV 1 hts gX3_foresee_X3_no rfl rfl rfl (by decide +kernel) ⟨Nat.le_of_ble_eq_true rfl, Nat.le_of_ble_eq_true rfl⟩) (cy_w_at (by decide) (cy_rd (cy_us) rfl)) rfl rfl hl.1 rfl (Nat.le_of_ble_eq_true rfl) dX3_foresee_40 ⟨Nat.le_of_ble_eq_true rfl, Nat.le_of_ble_eq_true rfl⟩ (k' := 0) (n' := 0) rfl rfl (fun H locs hW => ?_)
        rw [show va_up (va_up S 0 (upd (S 0) 0 0)) 0 (upd ((va_up S 0 (upd (S 0) 0 0)) 0) 0 2) = (va_up S 0 (upd (upd (S 0) 0 0) 0 2)) from by rw [cy_us, cy_uu]] at hW
        refine cy_topv (congrArg Value.int (show 0 = (cq_Fo S (nI c) y z nc).2 from by simp only [cq_Fo, cq_th, cq_rs, cq_nFo, c_10, c_19, c_35, clc, eq_self, ↓reduceIte, not_true_eq_false, not_false_eq_true])) ?_
        have hW := cy_castS (show (va_up S 0 (upd (upd (S 0) 0 0) 0 2)) = (cq_Fo S (nI c) y z nc).1 from by simp only [cq_Fo, cq_th, cq_rs, cq_nFo, c_10, c_19, c_35, clc, eq_self, ↓reduceIte, not_true_eq_false, not_false_eq_true]) hW
        exact hE  _ _ _ _ _ _ (Nat.le_of_ble_eq_true rfl) (Nat.le_of_ble_eq_true rfl) hW dX3_foresee_43
    · skip
      refine lv_aload_n hx hb dX3_foresee_22 rfl (lv_at hl 0 rfl) ?_
      refine lv_iconst (v := 1) hx hb dX3_foresee_23 (by decide) ?_
      refine cy_callV (rm := rm_X3_no) (As := [.int 1]) (rest := []) (q0 := 0) (ci := 3) hC.1 hC.2.1 hC.2.2 hW (c_X3_no (x := 1)) (cwV 1 hts gX3_foresee_X3_no rfl rfl rfl (by decide +kernel) ⟨Nat.le_of_ble_eq_true rfl, Nat.le_of_ble_eq_true rfl⟩) (cy_w_at (by decide) (cy_rd (cy_us) rfl)) rfl rfl hl.1 rfl (Nat.le_of_ble_eq_true rfl) dX3_foresee_24 ⟨Nat.le_of_ble_eq_true rfl, Nat.le_of_ble_eq_true rfl⟩ (k' := 0) (n' := 0) rfl rfl (fun H locs hW => ?_)
      rw [show va_up (va_up S 0 (upd (S 0) 0 0)) 0 (upd ((va_up S 0 (upd (S 0) 0 0)) 0) 0 1) = (va_up S 0 (upd (upd (S 0) 0 0) 0 1)) from by rw [cy_us, cy_uu]] at hW
      refine cy_topv (congrArg Value.int (show 0 = (cq_Fo S (nI c) y z nc).2 from by simp only [cq_Fo, cq_th, cq_rs, cq_nFo, c_10, c_19, clc, eq_self, ↓reduceIte, not_true_eq_false, not_false_eq_true])) ?_
      have hW := cy_castS (show (va_up S 0 (upd (upd (S 0) 0 0) 0 1)) = (cq_Fo S (nI c) y z nc).1 from by simp only [cq_Fo, cq_th, cq_rs, cq_nFo, c_10, c_19, clc, eq_self, ↓reduceIte, not_true_eq_false, not_false_eq_true]) hW
      exact hE  _ _ _ _ _ _ (Nat.le_of_ble_eq_true rfl) (Nat.le_of_ble_eq_true rfl) hW dX3_foresee_27
abbrev rm_X3_blend : Room := { frames := 2, cells := 1, slots := 4, locals := 44 }
set_option maxHeartbeats 4000000 in
set_option maxRecDepth 100000 in
theorem c_X3_blend {l : Launch} {D : va_G} {kI kJ kZ kC : ClassId} {ad : Nat → Nat} {S : Nat → Nat → Int32} {tl : va_W} {x y : Int32} {nc : Nat} (hnc : S 0 12 = nI nc) (h12 : nc ≤ 12) : cy_M l yX3_blend wsX3_blend rm_X3_blend D (cy_tys kI kJ kZ kC) [.ref (ad 0), .int x, .int y] (cy_Mw kI kZ ad S tl) (some (.int ((cq_Bl S x y nc).2))) (cy_Mw kI kZ ad (cq_Bl S x y nc).1 tl) := by
  refine cy_of (own := RX3) (cc := cX3_blend) (maxL := 13) (ret := (some .int)) (i := .ireturn) (by decide) rfl rfl (Nat.le_of_ble_eq_true rfl) (cy_endI rfl) ?_
  intro p e s m args below meth co Q A ls hC hE hW hl
  have hx := hC.1.1; have hb := hC.1.2.1; have hml := hC.1.2.2.1; have hown := hC.1.2.2.2.1; have hts := hC.1.2.2.2.2
  have hl : lv_has ls 13 [(0, .ref (ad 0)), (1, .int x), (2, .int y)] := hl
  have hi3 : ∀ w ∈ u_ws RX3 TX3 25, w ∈ wsX3_blend := by decide +kernel
  refine lv_aload_n hx hb dX3_blend_0 rfl (lv_at hl 0 rfl) ?_
  refine lv_iconst (v := 0) hx hb dX3_blend_1 (by decide) ?_
  refine cy_put hC (0) (by decide) hi3 tyX3 tyX3_ok nmX3 hW (rfl) rfl 0 (by decide) (hts (.fieldLink RX3 67 "CaskYardModel" "thrown" "I") (by decide +kernel)) (fun _ h9 => h9) rfl (ty := .int) (by decide +kernel) rfl rfl (Nat.le_of_ble_eq_true rfl) (upd (S 0) 0 0) cy_hM0 (S' := (va_up S 0 (upd (S 0) 0 0))) rfl dX3_blend_2 (fun H locs hW => ?_)
  refine lv_iload_n hx hb dX3_blend_5 rfl (lv_at hl 1 rfl) ?_
  refine lv_iconst (v := 0) hx hb dX3_blend_6 (by decide) ?_
  refine lv_ldc (v := 1000000) hx hb hown (hts (.constant RX3 174 1000000) (by decide +kernel)) dX3_blend_7 ?_
  refine cy_callS (rm := rm_X3_isIn) (As := [.int x, .int 0, .int 1000000]) (rest := []) hC.1 hC.2.1 hC.2.2 hW (c_X3_isIn (x := x) (y := 0) (z := 1000000)) (va_cwS 3 hts gX3_blend_X3_isIn rfl rfl rfl (by decide +kernel) ⟨Nat.le_of_ble_eq_true rfl, Nat.le_of_ble_eq_true rfl⟩) rfl hl.1 rfl (Nat.le_of_ble_eq_true rfl) dX3_blend_9 ⟨Nat.le_of_ble_eq_true rfl, Nat.le_of_ble_eq_true rfl⟩ (k' := 0) (n' := 0) rfl rfl (fun H locs hW => ?_)
  refine lv_if_ne (tgt := 21) hx hb dX3_blend_12 (by decide) (fun c_12 => ?_) (fun c_12 => ?_)
  · skip
    refine lv_iload_n hx hb dX3_blend_21 rfl (lv_at hl 2 rfl) ?_
    refine lv_iconst (v := 0) hx hb dX3_blend_22 (by decide) ?_
    refine lv_iconst (v := 3) hx hb dX3_blend_23 (by decide) ?_
    refine cy_callS (rm := rm_X3_isIn) (As := [.int y, .int 0, .int 3]) (rest := []) hC.1 hC.2.1 hC.2.2 hW (c_X3_isIn (x := y) (y := 0) (z := 3)) (va_cwS 3 hts gX3_blend_X3_isIn rfl rfl rfl (by decide +kernel) ⟨Nat.le_of_ble_eq_true rfl, Nat.le_of_ble_eq_true rfl⟩) rfl hl.1 rfl (Nat.le_of_ble_eq_true rfl) dX3_blend_24 ⟨Nat.le_of_ble_eq_true rfl, Nat.le_of_ble_eq_true rfl⟩ (k' := 0) (n' := 0) rfl rfl (fun H locs hW => ?_)
    refine lv_if_ne (tgt := 36) hx hb dX3_blend_27 (by decide) (fun c_27 => ?_) (fun c_27 => ?_)
    · skip
      obtain ⟨k, hk, rfl⟩ := cq_in_l (n := 3) (by decide) c_27
      have clk : (nI k).toNatClampNeg = k := nI_clamp (by omega)
      have hl : lv_has ls 13 [(0, .ref (ad 0)), (1, .int x), (2, .int (nI k))] := hl
      refine lv_iconst (v := 4) hx hb dX3_blend_36 (by decide) ?_
      refine cy_newI hC hW rfl (hts (.arrayClass .int) (by decide +kernel)) (N := 4) (by decide) (Nat.le_of_ble_eq_true rfl) (Nat.le_of_ble_eq_true rfl) (k' := 1) (n' := 4) rfl rfl dX3_blend_37 (fun q37 H hW => ?_)
      refine lv_dup hx hb dX3_blend_39 rfl ?_
      refine lv_iconst (v := 0) hx hb dX3_blend_40 (by decide) ?_
      refine lv_iconst (v := (-1)) hx hb dX3_blend_41 (by decide) ?_
      refine cy_tiast (tl' := ((q37, .inl (kI, 4, .inl (upd (fun _ => 0) 0 (-1)))) :: tl)) hC 0 q37 hW 0 (i := 0) rfl rfl (by omega) (by decide) rfl dX3_blend_42 (fun H locs hW => ?_)
      refine lv_dup hx hb dX3_blend_43 rfl ?_
      refine lv_iconst (v := 1) hx hb dX3_blend_44 (by decide) ?_
      refine lv_iconst (v := (-1)) hx hb dX3_blend_45 (by decide) ?_
      refine cy_tiast (tl' := ((q37, .inl (kI, 4, .inl (upd (upd (fun _ => 0) 0 (-1)) 1 (-1)))) :: tl)) hC 0 q37 hW 0 (i := 1) rfl rfl (by omega) (by decide) rfl dX3_blend_46 (fun H locs hW => ?_)
      refine lv_dup hx hb dX3_blend_47 rfl ?_
      refine lv_iconst (v := 2) hx hb dX3_blend_48 (by decide) ?_
      refine lv_iconst (v := (-1)) hx hb dX3_blend_49 (by decide) ?_
      refine cy_tiast (tl' := ((q37, .inl (kI, 4, .inl (upd (upd (upd (fun _ => 0) 0 (-1)) 1 (-1)) 2 (-1)))) :: tl)) hC 0 q37 hW 0 (i := 2) rfl rfl (by omega) (by decide) rfl dX3_blend_50 (fun H locs hW => ?_)
      refine lv_dup hx hb dX3_blend_51 rfl ?_
      refine lv_iconst (v := 3) hx hb dX3_blend_52 (by decide) ?_
      refine lv_iconst (v := (-1)) hx hb dX3_blend_53 (by decide) ?_
      refine cy_tiast (tl' := ((q37, .inl (kI, 4, .inl (upd (upd (upd (upd (fun _ => 0) 0 (-1)) 1 (-1)) 2 (-1)) 3 (-1)))) :: tl)) hC 0 q37 hW 0 (i := 3) rfl rfl (by omega) (by decide) rfl dX3_blend_54 (fun H locs hW => ?_)
      refine lv_astore_n (lv' := [(3, .ref q37), (0, .ref (ad 0)), (1, .int x), (2, .int (nI k))]) hx hb dX3_blend_55 rfl hl (by decide) rfl (fun ls hl => ?_)
      refine lv_ldc2 (v := (-1)) hx hb hown (hts (.constantLong RX3 175 (-1)) (by decide +kernel)) dX3_blend_56 ?_
      refine lv_lstore (lv' := [(4, .long (-1)), (3, .ref q37), (0, .ref (ad 0)), (1, .int x), (2, .int (nI k))]) hx hb dX3_blend_59 hl (by decide) rfl (fun ls hl => ?_)
      refine lv_iconst (v := 0) hx hb dX3_blend_61 (by decide) ?_
      refine lv_istore (lv' := [(6, .int 0), (4, .long (-1)), (3, .ref q37), (0, .ref (ad 0)), (1, .int x), (2, .int (nI k))]) hx hb dX3_blend_62 hl (by decide) rfl (fun ls hl => ?_)
      have L_64 : ∀ (fu : Nat) (a : Nat), nc - a < fu → (a ≤ nc) → ∀ (H : Heap) (locs : List Loc), cy_W D A s.heap (cy_Mw kI kZ ad (va_up S 0 (upd (S 0) 0 0)) ((q37, .inl (kI, 4, .inl ((cq_bA S x nc a).2))) :: tl)) H locs → ∀ (ls : Array Slot), lv_has ls 13 [(4, .long ((cq_bA S x nc a).1)), (6, .int (nI a)), (0, .ref (ad 0)), (1, .int x), (2, .int (nI k)), (3, .ref q37)] → W p l e rm_X3_blend s m args below meth co H locs 1 4 Q (F0 m 64 ls []) := by
        intro fu
        induction fu with
        | zero => intro a hn; exact absurd hn (Nat.not_lt_zero _)
        | succ fu ih_64 =>
          intro a hn_64 ha H locs hW ls hl
          refine lv_iload hx hb dX3_blend_64 (lv_at hl 1 rfl) ?_
          refine lv_aload_n hx hb dX3_blend_66 rfl (lv_at hl 2 rfl) ?_
          refine cy_get hC (0) (by decide) hi3 hW (cy_rd (cy_us) rfl) rfl 12 (by decide) (hts (.fieldLink RX3 110 "CaskYardModel" "casks" "I") (by decide +kernel)) (fun _ h9 => h9) (v := .int ((S 0) 12)) rfl dX3_blend_67 ?_
          refine cy_top (y := nI nc) hnc ?_
          refine lv_icmp_ge (tgt := 217) hx hb dX3_blend_70 (by decide) (fun c_70 => ?_) (fun c_70 => ?_)
          · skip
            have q_70 := cy_le (a := nc) (b := a) (by omega) (by omega) c_70
            obtain rfl : nc = a := by omega
            refine lv_aload_n hx hb dX3_blend_217 rfl (lv_at hl 5 rfl) ?_
            refine lv_iload_n hx hb dX3_blend_218 rfl (lv_at hl 4 rfl) ?_
            refine cy_tiald hC 0 q37 hW 0 (i := k) rfl rfl (by omega) (by decide) dX3_blend_219 ?_
            have hW := cy_drop hW
            refine cy_topv (congrArg Value.int (show ((cq_bA S x nc nc).2) k = (cq_Bl S x (nI k) nc).2 from by simp only [cq_Bl, cq_th, cq_rs, c_12, c_27, c_70, clk, eq_self, ↓reduceIte, not_true_eq_false, not_false_eq_true])) ?_
            have hW := cy_castS (show (va_up S 0 (upd (S 0) 0 0)) = (cq_Bl S x (nI k) nc).1 from by simp only [cq_Bl, cq_th, cq_rs, c_12, c_27, c_70, clk, eq_self, ↓reduceIte, not_true_eq_false, not_false_eq_true]) hW
            exact hE  _ _ _ _ _ _ (Nat.le_of_ble_eq_true rfl) (Nat.le_of_ble_eq_true rfl) hW dX3_blend_220
          · skip
            have q_70 := cy_nle (a := nc) (b := a) (by omega) (by omega) c_70
            refine lv_iload hx hb dX3_blend_73 (lv_at hl 1 rfl) ?_
            refine lv_iconst (v := 1) hx hb dX3_blend_75 (by decide) ?_
            refine lv_iadd hx hb dX3_blend_76 ?_
            refine cy_top (nI_add a 1) ?_
            refine lv_istore (lv' := [(7, .int (nI (a + 1))), (4, .long ((cq_bA S x nc a).1)), (6, .int (nI a)), (0, .ref (ad 0)), (1, .int x), (2, .int (nI k)), (3, .ref q37)]) hx hb dX3_blend_77 hl (by decide) rfl (fun ls hl => ?_)
            have L_79 : ∀ (fu : Nat) (j : Nat), nc - (a + 1 + j) < fu → (a + 1 + j ≤ nc) → ∀ (H : Heap) (locs : List Loc), cy_W D A s.heap (cy_Mw kI kZ ad (va_up S 0 (upd (S 0) 0 0)) ((q37, .inl (kI, 4, .inl ((cq_bB S x a (cq_bA S x nc a) j).2))) :: tl)) H locs → ∀ (ls : Array Slot), lv_has ls 13 [(4, .long ((cq_bB S x a (cq_bA S x nc a) j).1)), (7, .int (nI (a + 1 + j))), (6, .int (nI a)), (0, .ref (ad 0)), (1, .int x), (2, .int (nI k)), (3, .ref q37)] → W p l e rm_X3_blend s m args below meth co H locs 1 4 Q (F0 m 79 ls []) := by
              intro fu
              induction fu with
              | zero => intro j hn; exact absurd hn (Nat.not_lt_zero _)
              | succ fu ih_79 =>
                intro j hn_79 hj H locs hW ls hl
                refine lv_iload hx hb dX3_blend_79 (lv_at hl 1 rfl) ?_
                refine lv_aload_n hx hb dX3_blend_81 rfl (lv_at hl 3 rfl) ?_
                refine cy_get hC (0) (by decide) hi3 hW (cy_rd (cy_us) rfl) rfl 12 (by decide) (hts (.fieldLink RX3 110 "CaskYardModel" "casks" "I") (by decide +kernel)) (fun _ h9 => h9) (v := .int ((S 0) 12)) rfl dX3_blend_82 ?_
                refine cy_top (y := nI nc) hnc ?_
                refine lv_icmp_ge (tgt := 211) hx hb dX3_blend_85 (by decide) (fun c_85 => ?_) (fun c_85 => ?_)
                · skip
                  have q_85 := cy_le (a := nc) (b := (a + 1 + j)) (by omega) (by omega) c_85
                  obtain rfl : j = nc - (a + 1) := by omega
                  refine lv_iinc (v := nI (a + 1)) (lv' := [(6, .int (nI (a + 1))), (4, .long ((cq_bB S x a (cq_bA S x nc a) (nc - (a + 1))).1)), (7, .int (nI (a + 1 + (nc - (a + 1))))), (0, .ref (ad 0)), (1, .int x), (2, .int (nI k)), (3, .ref q37)]) hx hb dX3_blend_211 hl (k := 2) rfl (nI_1 a) (by decide) rfl (fun ls hl => ?_)
                  refine lv_goto (tgt := 64) hx hb dX3_blend_214 (by decide) ?_
                  exact ih_64 (a + 1) (by omega) (by omega) _ _ hW _ (lv_sub hl [1, 0, 3, 4, 5, 6] rfl)
                · skip
                  have q_85 := cy_nle (a := nc) (b := (a + 1 + j)) (by omega) (by omega) c_85
                  refine lv_iconst (v := 1) hx hb dX3_blend_88 (by decide) ?_
                  refine lv_istore (lv' := [(8, .int 1), (4, .long ((cq_bB S x a (cq_bA S x nc a) j).1)), (7, .int (nI (a + 1 + j))), (6, .int (nI a)), (0, .ref (ad 0)), (1, .int x), (2, .int (nI k)), (3, .ref q37)]) hx hb dX3_blend_89 hl (by decide) rfl (fun ls hl => ?_)
                  have L_91 : ∀ (fu : Nat) (t : Nat), 9 - t < fu → (t ≤ 9) → (t = 0 ∨ (¬ cq_cb S a = 0 ∧ ¬ cq_cb S (a + 1 + j) = 0)) → ∀ (H : Heap) (locs : List Loc), cy_W D A s.heap (cy_Mw kI kZ ad (va_up S 0 (upd (S 0) 0 0)) ((q37, .inl (kI, 4, .inl ((cq_bi S x a (a + 1 + j) (cq_bB S x a (cq_bA S x nc a) j) t).2))) :: tl)) H locs → ∀ (ls : Array Slot), lv_has ls 13 [(4, .long ((cq_bi S x a (a + 1 + j) (cq_bB S x a (cq_bA S x nc a) j) t).1)), (8, .int (nI (t + 1))), (7, .int (nI (a + 1 + j))), (6, .int (nI a)), (0, .ref (ad 0)), (1, .int x), (2, .int (nI k)), (3, .ref q37)] → W p l e rm_X3_blend s m args below meth co H locs 1 4 Q (F0 m 91 ls []) := by
                    intro fu
                    induction fu with
                    | zero => intro t hn; exact absurd hn (Nat.not_lt_zero _)
                    | succ fu ih_91 =>
                      intro t hn_91 ht hB H locs hW ls hl
                      refine lv_iload hx hb dX3_blend_91 (lv_at hl 1 rfl) ?_
                      refine lv_bipush (v := 10) hx hb dX3_blend_93 (by decide) ?_
                      refine lv_icmp_ge (tgt := 205) hx hb dX3_blend_95 (by decide) (fun c_95 => ?_) (fun c_95 => ?_)
                      · skip
                        have q_95 := cy_le (a := 10) (b := (t + 1)) (by omega) (by omega) c_95
                        have hcb := hB.resolve_left (by omega)
                        obtain rfl : t = 9 := by omega
                        refine lv_iinc (v := nI (a + 1 + j + 1)) (lv' := [(7, .int (nI (a + 1 + j + 1))), (4, .long ((cq_bi S x a (a + 1 + j) (cq_bB S x a (cq_bA S x nc a) j) 9).1)), (8, .int (nI (9 + 1))), (6, .int (nI a)), (0, .ref (ad 0)), (1, .int x), (2, .int (nI k)), (3, .ref q37)]) hx hb dX3_blend_205 hl (k := 2) rfl (nI_1 (a + 1 + j)) (by decide) rfl (fun ls hl => ?_)
                        refine lv_goto (tgt := 79) hx hb dX3_blend_208 (by decide) ?_
                        rw [show (cq_bi S x a (a + 1 + j) (cq_bB S x a (cq_bA S x nc a) j) 9).1 = (cq_bB S x a (cq_bA S x nc a) (j + 1)).1 from by first | (simp only [cq_bB, cq_bN, hcb.1, hcb.2, clk, ↓reduceIte]; done) | (simp only [cq_bB, cq_bN, hcb.1, hcb.2, clk, ↓reduceIte]; rfl)] at hl
                        have hW := cy_castF (show ((cq_bi S x a (a + 1 + j) (cq_bB S x a (cq_bA S x nc a) j) 9).2) = ((cq_bB S x a (cq_bA S x nc a) (j + 1)).2) from by first | (simp only [cq_bB, cq_bN, hcb.1, hcb.2, clk, ↓reduceIte]; done) | (simp only [cq_bB, cq_bN, hcb.1, hcb.2, clk, ↓reduceIte]; rfl)) hW
                        exact ih_79 (j + 1) (by omega) (by omega) _ _ hW _ (lv_sub hl [1, 0, 3, 4, 5, 6, 7] rfl)
                      · skip
                        have q_95 := cy_nle (a := 10) (b := (t + 1)) (by omega) (by omega) c_95
                        refine lv_aload_n hx hb dX3_blend_98 rfl (lv_at hl 4 rfl) ?_
                        refine lv_iload hx hb dX3_blend_99 (lv_at hl 3 rfl) ?_
                        refine cy_callV (rm := rm_X3_canBlend) (As := [.int (nI a)]) (rest := []) (q0 := 0) (ci := 3) hC.1 hC.2.1 hC.2.2 hW (c_X3_canBlend (c := a) (by omega)) (cwV 1 hts gX3_blend_X3_canBlend rfl rfl rfl (by decide +kernel) ⟨Nat.le_of_ble_eq_true rfl, Nat.le_of_ble_eq_true rfl⟩) (cy_w_at (by decide) (cy_rd (cy_us) rfl)) rfl rfl hl.1 rfl (Nat.le_of_ble_eq_true rfl) dX3_blend_101 ⟨Nat.le_of_ble_eq_true rfl, Nat.le_of_ble_eq_true rfl⟩ (k' := 1) (n' := 4) rfl rfl (fun H locs hW => ?_)
                        refine cy_topv (show _ = Value.int (cq_cb S a) from rfl) ?_
                        refine lv_if_eq (tgt := 205) hx hb dX3_blend_104 (by decide) (fun c_104 => ?_) (fun c_104 => ?_)
                        · skip
                          obtain rfl : t = 0 := hB.resolve_right (fun h => absurd c_104 h.1)
                          refine lv_iinc (v := nI (a + 1 + j + 1)) (lv' := [(7, .int (nI (a + 1 + j + 1))), (4, .long ((cq_bi S x a (a + 1 + j) (cq_bB S x a (cq_bA S x nc a) j) 0).1)), (8, .int (nI (0 + 1))), (6, .int (nI a)), (0, .ref (ad 0)), (1, .int x), (2, .int (nI k)), (3, .ref q37)]) hx hb dX3_blend_205 hl (k := 2) rfl (nI_1 (a + 1 + j)) (by decide) rfl (fun ls hl => ?_)
                          refine lv_goto (tgt := 79) hx hb dX3_blend_208 (by decide) ?_
                          rw [show (cq_bi S x a (a + 1 + j) (cq_bB S x a (cq_bA S x nc a) j) 0).1 = (cq_bB S x a (cq_bA S x nc a) (j + 1)).1 from by first | (simp only [cq_bB, cq_bN, c_104, clk, ↓reduceIte]; done) | (simp only [cq_bB, cq_bN, c_104, clk, ↓reduceIte]; rfl)] at hl
                          have hW := cy_castF (show ((cq_bi S x a (a + 1 + j) (cq_bB S x a (cq_bA S x nc a) j) 0).2) = ((cq_bB S x a (cq_bA S x nc a) (j + 1)).2) from by first | (simp only [cq_bB, cq_bN, c_104, clk, ↓reduceIte]; done) | (simp only [cq_bB, cq_bN, c_104, clk, ↓reduceIte]; rfl)) hW
                          exact ih_79 (j + 1) (by omega) (by omega) _ _ hW _ (lv_sub hl [1, 0, 3, 4, 5, 6, 7] rfl)
                        · skip
                          refine lv_aload_n hx hb dX3_blend_107 rfl (lv_at hl 4 rfl) ?_
                          refine lv_iload hx hb dX3_blend_108 (lv_at hl 2 rfl) ?_
                          refine cy_callV (rm := rm_X3_canBlend) (As := [.int (nI (a + 1 + j))]) (rest := []) (q0 := 0) (ci := 3) hC.1 hC.2.1 hC.2.2 hW (c_X3_canBlend (c := (a + 1 + j)) (by omega)) (cwV 1 hts gX3_blend_X3_canBlend rfl rfl rfl (by decide +kernel) ⟨Nat.le_of_ble_eq_true rfl, Nat.le_of_ble_eq_true rfl⟩) (cy_w_at (by decide) (cy_rd (cy_us) rfl)) rfl rfl hl.1 rfl (Nat.le_of_ble_eq_true rfl) dX3_blend_110 ⟨Nat.le_of_ble_eq_true rfl, Nat.le_of_ble_eq_true rfl⟩ (k' := 1) (n' := 4) rfl rfl (fun H locs hW => ?_)
                          refine cy_topv (show _ = Value.int (cq_cb S (a + 1 + j)) from rfl) ?_
                          refine lv_if_eq (tgt := 205) hx hb dX3_blend_113 (by decide) (fun c_113 => ?_) (fun c_113 => ?_)
                          · skip
                            obtain rfl : t = 0 := hB.resolve_right (fun h => absurd c_113 h.2)
                            refine lv_iinc (v := nI (a + 1 + j + 1)) (lv' := [(7, .int (nI (a + 1 + j + 1))), (4, .long ((cq_bi S x a (a + 1 + j) (cq_bB S x a (cq_bA S x nc a) j) 0).1)), (8, .int (nI (0 + 1))), (6, .int (nI a)), (0, .ref (ad 0)), (1, .int x), (2, .int (nI k)), (3, .ref q37)]) hx hb dX3_blend_205 hl (k := 2) rfl (nI_1 (a + 1 + j)) (by decide) rfl (fun ls hl => ?_)
                            refine lv_goto (tgt := 79) hx hb dX3_blend_208 (by decide) ?_
                            rw [show (cq_bi S x a (a + 1 + j) (cq_bB S x a (cq_bA S x nc a) j) 0).1 = (cq_bB S x a (cq_bA S x nc a) (j + 1)).1 from by first | (simp only [cq_bB, cq_bN, c_104, c_113, clk, ↓reduceIte]; done) | (simp only [cq_bB, cq_bN, c_104, c_113, clk, ↓reduceIte]; rfl)] at hl
                            have hW := cy_castF (show ((cq_bi S x a (a + 1 + j) (cq_bB S x a (cq_bA S x nc a) j) 0).2) = ((cq_bB S x a (cq_bA S x nc a) (j + 1)).2) from by first | (simp only [cq_bB, cq_bN, c_104, c_113, clk, ↓reduceIte]; done) | (simp only [cq_bB, cq_bN, c_104, c_113, clk, ↓reduceIte]; rfl)) hW
                            exact ih_79 (j + 1) (by omega) (by omega) _ _ hW _ (lv_sub hl [1, 0, 3, 4, 5, 6, 7] rfl)
                          · skip
                            refine lv_iload hx hb dX3_blend_116 (lv_at hl 1 rfl) ?_
                            refine lv_i2l hx hb dX3_blend_118 rfl ?_
                            refine lv_aload_n hx hb dX3_blend_119 rfl (lv_at hl 4 rfl) ?_
                            refine lv_iload hx hb dX3_blend_120 (lv_at hl 3 rfl) ?_
                            refine cy_callV (rm := rm_X3_tasteOf) (As := [.int (nI a)]) (rest := [.long ((nI (t + 1)).toInt64)]) (q0 := 0) (ci := 3) hC.1 hC.2.1 hC.2.2 hW (c_X3_tasteOf (c := a) (by omega) (cq_cb_al c_104)) (cwV 1 hts gX3_blend_X3_tasteOf rfl rfl rfl (by decide +kernel) ⟨Nat.le_of_ble_eq_true rfl, Nat.le_of_ble_eq_true rfl⟩) (cy_w_at (by decide) (cy_rd (cy_us) rfl)) rfl rfl hl.1 rfl (Nat.le_of_ble_eq_true rfl) dX3_blend_122 ⟨Nat.le_of_ble_eq_true rfl, Nat.le_of_ble_eq_true rfl⟩ (k' := 1) (n' := 4) rfl rfl (fun H locs hW => ?_)
                            refine cy_topv (show _ = Value.long (cq_to S a) from rfl) ?_
                            refine lv_lmul hx hb dX3_blend_125 ?_
                            refine lv_bipush (v := 10) hx hb dX3_blend_126 (by decide) ?_
                            refine lv_iload hx hb dX3_blend_128 (lv_at hl 1 rfl) ?_
                            refine lv_isub hx hb dX3_blend_130 ?_
                            refine lv_i2l hx hb dX3_blend_131 rfl ?_
                            refine lv_aload_n hx hb dX3_blend_132 rfl (lv_at hl 4 rfl) ?_
                            refine lv_iload hx hb dX3_blend_133 (lv_at hl 2 rfl) ?_
                            refine cy_callV (rm := rm_X3_tasteOf) (As := [.int (nI (a + 1 + j))]) (rest := [.long ((10 - (nI (t + 1))).toInt64), .long (((nI (t + 1)).toInt64) * (cq_to S a))]) (q0 := 0) (ci := 3) hC.1 hC.2.1 hC.2.2 hW (c_X3_tasteOf (c := (a + 1 + j)) (by omega) (cq_cb_al c_113)) (cwV 1 hts gX3_blend_X3_tasteOf rfl rfl rfl (by decide +kernel) ⟨Nat.le_of_ble_eq_true rfl, Nat.le_of_ble_eq_true rfl⟩) (cy_w_at (by decide) (cy_rd (cy_us) rfl)) rfl rfl hl.1 rfl (Nat.le_of_ble_eq_true rfl) dX3_blend_135 ⟨Nat.le_of_ble_eq_true rfl, Nat.le_of_ble_eq_true rfl⟩ (k' := 1) (n' := 4) rfl rfl (fun H locs hW => ?_)
                            refine cy_topv (show _ = Value.long (cq_to S (a + 1 + j)) from rfl) ?_
                            refine lv_lmul hx hb dX3_blend_138 ?_
                            refine lv_ladd hx hb dX3_blend_139 ?_
                            refine lv_ldc2 (v := 10) hx hb hown (hts (.constantLong RX3 184 10) (by decide +kernel)) dX3_blend_140 ?_
                            refine lv_ldiv hx hb dX3_blend_143 (by decide) ?_
                            refine lv_lstore (lv' := [(9, .long (((((nI (t + 1)).toInt64) * (cq_to S a)) + (((10 - (nI (t + 1))).toInt64) * (cq_to S (a + 1 + j)))) / 10)), (4, .long ((cq_bi S x a (a + 1 + j) (cq_bB S x a (cq_bA S x nc a) j) t).1)), (8, .int (nI (t + 1))), (7, .int (nI (a + 1 + j))), (6, .int (nI a)), (0, .ref (ad 0)), (1, .int x), (2, .int (nI k)), (3, .ref q37)]) hx hb dX3_blend_144 hl (by decide) rfl (fun ls hl => ?_)
                            refine lv_lload hx hb dX3_blend_146 (lv_at hl 0 rfl) ?_
                            refine lv_iload_n hx hb dX3_blend_148 rfl (lv_at hl 6 rfl) ?_
                            refine lv_i2l hx hb dX3_blend_149 rfl ?_
                            refine lv_lsub hx hb dX3_blend_150 ?_
                            refine va_mabs_long hx hb (hml.trans hl.1.symm) hown (hts (.methodLink RX3 186 Lib.MathLoose.abs_long.x) (by decide +kernel)) (hts (.static Lib.MathLoose.abs_long.x) (by decide +kernel)) (hts (.initialized "java/lang/Math") (by decide +kernel)) (hts (.code Lib.MathLoose.abs_long.x Lib.MathLoose.abs_long.code 2 (some .long)) (by decide +kernel)) (Nat.le_of_ble_eq_true rfl) (Nat.le_of_ble_eq_true rfl) (Nat.le_of_ble_eq_true rfl) (Nat.le_of_ble_eq_true rfl) dX3_blend_151 ?_
                            refine cy_topv (show _ = Value.long (cy_abL ((((((nI (t + 1)).toInt64) * (cq_to S a)) + (((10 - (nI (t + 1))).toInt64) * (cq_to S (a + 1 + j)))) / 10) - x.toInt64)) from rfl) ?_
                            refine lv_lstore (lv' := [(11, .long (cy_abL ((((((nI (t + 1)).toInt64) * (cq_to S a)) + (((10 - (nI (t + 1))).toInt64) * (cq_to S (a + 1 + j)))) / 10) - x.toInt64))), (9, .long (((((nI (t + 1)).toInt64) * (cq_to S a)) + (((10 - (nI (t + 1))).toInt64) * (cq_to S (a + 1 + j)))) / 10)), (4, .long ((cq_bi S x a (a + 1 + j) (cq_bB S x a (cq_bA S x nc a) j) t).1)), (8, .int (nI (t + 1))), (7, .int (nI (a + 1 + j))), (6, .int (nI a)), (0, .ref (ad 0)), (1, .int x), (2, .int (nI k)), (3, .ref q37)]) hx hb dX3_blend_154 hl (by decide) rfl (fun ls hl => ?_)
                            refine lv_lload hx hb dX3_blend_156 (lv_at hl 2 rfl) ?_
                            refine lv_lconst (v := 0) hx hb dX3_blend_158 rfl ?_
                            refine W.lcmp hx hb dX3_blend_159 ?_
                            refine lv_if_lt (tgt := 174) hx hb dX3_blend_160 (by decide) (fun c_160 => ?_) (fun c_160 => ?_)
                            · skip
                              refine lv_lload hx hb dX3_blend_174 (lv_at hl 0 rfl) ?_
                              refine lv_lstore (lv' := [(4, .long (cy_abL ((((((nI (t + 1)).toInt64) * (cq_to S a)) + (((10 - (nI (t + 1))).toInt64) * (cq_to S (a + 1 + j)))) / 10) - x.toInt64))), (11, .long (cy_abL ((((((nI (t + 1)).toInt64) * (cq_to S a)) + (((10 - (nI (t + 1))).toInt64) * (cq_to S (a + 1 + j)))) / 10) - x.toInt64))), (9, .long (((((nI (t + 1)).toInt64) * (cq_to S a)) + (((10 - (nI (t + 1))).toInt64) * (cq_to S (a + 1 + j)))) / 10)), (8, .int (nI (t + 1))), (7, .int (nI (a + 1 + j))), (6, .int (nI a)), (0, .ref (ad 0)), (1, .int x), (2, .int (nI k)), (3, .ref q37)]) hx hb dX3_blend_176 hl (by decide) rfl (fun ls hl => ?_)
                              refine lv_aload_n hx hb dX3_blend_178 rfl (lv_at hl 9 rfl) ?_
                              refine lv_iconst (v := 0) hx hb dX3_blend_179 (by decide) ?_
                              refine lv_iload hx hb dX3_blend_180 (lv_at hl 5 rfl) ?_
                              refine cy_tiast (tl' := ((q37, .inl (kI, 4, .inl (upd ((cq_bi S x a (a + 1 + j) (cq_bB S x a (cq_bA S x nc a) j) t).2) 0 (nI a)))) :: tl)) hC 0 q37 hW 0 (i := 0) rfl rfl (by omega) (by decide) rfl dX3_blend_182 (fun H locs hW => ?_)
                              refine lv_aload_n hx hb dX3_blend_183 rfl (lv_at hl 9 rfl) ?_
                              refine lv_iconst (v := 1) hx hb dX3_blend_184 (by decide) ?_
                              refine lv_iload hx hb dX3_blend_185 (lv_at hl 4 rfl) ?_
                              refine cy_tiast (tl' := ((q37, .inl (kI, 4, .inl (upd (upd ((cq_bi S x a (a + 1 + j) (cq_bB S x a (cq_bA S x nc a) j) t).2) 0 (nI a)) 1 (nI (a + 1 + j))))) :: tl)) hC 0 q37 hW 0 (i := 1) rfl rfl (by omega) (by decide) rfl dX3_blend_187 (fun H locs hW => ?_)
                              refine lv_aload_n hx hb dX3_blend_188 rfl (lv_at hl 9 rfl) ?_
                              refine lv_iconst (v := 2) hx hb dX3_blend_189 (by decide) ?_
                              refine lv_iload hx hb dX3_blend_190 (lv_at hl 3 rfl) ?_
                              refine cy_tiast (tl' := ((q37, .inl (kI, 4, .inl (upd (upd (upd ((cq_bi S x a (a + 1 + j) (cq_bB S x a (cq_bA S x nc a) j) t).2) 0 (nI a)) 1 (nI (a + 1 + j))) 2 (nI (t + 1))))) :: tl)) hC 0 q37 hW 0 (i := 2) rfl rfl (by omega) (by decide) rfl dX3_blend_192 (fun H locs hW => ?_)
                              refine lv_aload_n hx hb dX3_blend_193 rfl (lv_at hl 9 rfl) ?_
                              refine lv_iconst (v := 3) hx hb dX3_blend_194 (by decide) ?_
                              refine lv_lload hx hb dX3_blend_195 (lv_at hl 2 rfl) ?_
                              refine lv_l2i hx hb dX3_blend_197 rfl ?_
                              refine cy_tiast (tl' := ((q37, .inl (kI, 4, .inl (upd (upd (upd (upd ((cq_bi S x a (a + 1 + j) (cq_bB S x a (cq_bA S x nc a) j) t).2) 0 (nI a)) 1 (nI (a + 1 + j))) 2 (nI (t + 1))) 3 ((((((nI (t + 1)).toInt64) * (cq_to S a)) + (((10 - (nI (t + 1))).toInt64) * (cq_to S (a + 1 + j)))) / 10).toInt32)))) :: tl)) hC 0 q37 hW 0 (i := 3) rfl rfl (by omega) (by decide) rfl dX3_blend_198 (fun H locs hW => ?_)
                              refine lv_iinc (v := nI (t + 1 + 1)) (lv' := [(8, .int (nI (t + 1 + 1))), (4, .long (cy_abL ((((((nI (t + 1)).toInt64) * (cq_to S a)) + (((10 - (nI (t + 1))).toInt64) * (cq_to S (a + 1 + j)))) / 10) - x.toInt64))), (11, .long (cy_abL ((((((nI (t + 1)).toInt64) * (cq_to S a)) + (((10 - (nI (t + 1))).toInt64) * (cq_to S (a + 1 + j)))) / 10) - x.toInt64))), (9, .long (((((nI (t + 1)).toInt64) * (cq_to S a)) + (((10 - (nI (t + 1))).toInt64) * (cq_to S (a + 1 + j)))) / 10)), (7, .int (nI (a + 1 + j))), (6, .int (nI a)), (0, .ref (ad 0)), (1, .int x), (2, .int (nI k)), (3, .ref q37)]) hx hb dX3_blend_199 hl (k := 3) rfl (nI_1 (t + 1)) (by decide) rfl (fun ls hl => ?_)
                              refine lv_goto (tgt := 91) hx hb dX3_blend_202 (by decide) ?_
                              rw [show cy_abL ((((((nI (t + 1)).toInt64) * (cq_to S a)) + (((10 - (nI (t + 1))).toInt64) * (cq_to S (a + 1 + j)))) / 10) - x.toInt64) = (cq_bi S x a (a + 1 + j) (cq_bB S x a (cq_bA S x nc a) j) (t + 1)).1 from by simp only [cq_bi, cq_bu, cq_bt2, cq_bt1, c_95, c_104, c_113, c_160, clk, ↓reduceIte]] at hl
                              have hW := cy_castF (show (upd (upd (upd (upd ((cq_bi S x a (a + 1 + j) (cq_bB S x a (cq_bA S x nc a) j) t).2) 0 (nI a)) 1 (nI (a + 1 + j))) 2 (nI (t + 1))) 3 ((((((nI (t + 1)).toInt64) * (cq_to S a)) + (((10 - (nI (t + 1))).toInt64) * (cq_to S (a + 1 + j)))) / 10).toInt32)) = ((cq_bi S x a (a + 1 + j) (cq_bB S x a (cq_bA S x nc a) j) (t + 1)).2) from by simp only [cq_bi, cq_bu, cq_bt2, cq_bt1, c_95, c_104, c_113, c_160, clk, ↓reduceIte]) hW
                              exact ih_91 (t + 1) (by omega) (by omega) (Or.inr ⟨c_104, c_113⟩) _ _ hW _ (lv_sub hl [1, 0, 4, 5, 6, 7, 8, 9] rfl)
                            · skip
                              refine lv_lload hx hb dX3_blend_163 (lv_at hl 0 rfl) ?_
                              refine lv_lload hx hb dX3_blend_165 (lv_at hl 2 rfl) ?_
                              refine W.lcmp hx hb dX3_blend_167 ?_
                              refine lv_if_lt (tgt := 174) hx hb dX3_blend_168 (by decide) (fun c_168 => ?_) (fun c_168 => ?_)
                              · skip
                                refine lv_lload hx hb dX3_blend_174 (lv_at hl 0 rfl) ?_
                                refine lv_lstore (lv' := [(4, .long (cy_abL ((((((nI (t + 1)).toInt64) * (cq_to S a)) + (((10 - (nI (t + 1))).toInt64) * (cq_to S (a + 1 + j)))) / 10) - x.toInt64))), (11, .long (cy_abL ((((((nI (t + 1)).toInt64) * (cq_to S a)) + (((10 - (nI (t + 1))).toInt64) * (cq_to S (a + 1 + j)))) / 10) - x.toInt64))), (9, .long (((((nI (t + 1)).toInt64) * (cq_to S a)) + (((10 - (nI (t + 1))).toInt64) * (cq_to S (a + 1 + j)))) / 10)), (8, .int (nI (t + 1))), (7, .int (nI (a + 1 + j))), (6, .int (nI a)), (0, .ref (ad 0)), (1, .int x), (2, .int (nI k)), (3, .ref q37)]) hx hb dX3_blend_176 hl (by decide) rfl (fun ls hl => ?_)
                                refine lv_aload_n hx hb dX3_blend_178 rfl (lv_at hl 9 rfl) ?_
                                refine lv_iconst (v := 0) hx hb dX3_blend_179 (by decide) ?_
                                refine lv_iload hx hb dX3_blend_180 (lv_at hl 5 rfl) ?_
                                refine cy_tiast (tl' := ((q37, .inl (kI, 4, .inl (upd ((cq_bi S x a (a + 1 + j) (cq_bB S x a (cq_bA S x nc a) j) t).2) 0 (nI a)))) :: tl)) hC 0 q37 hW 0 (i := 0) rfl rfl (by omega) (by decide) rfl dX3_blend_182 (fun H locs hW => ?_)
                                refine lv_aload_n hx hb dX3_blend_183 rfl (lv_at hl 9 rfl) ?_
                                refine lv_iconst (v := 1) hx hb dX3_blend_184 (by decide) ?_
                                refine lv_iload hx hb dX3_blend_185 (lv_at hl 4 rfl) ?_
                                refine cy_tiast (tl' := ((q37, .inl (kI, 4, .inl (upd (upd ((cq_bi S x a (a + 1 + j) (cq_bB S x a (cq_bA S x nc a) j) t).2) 0 (nI a)) 1 (nI (a + 1 + j))))) :: tl)) hC 0 q37 hW 0 (i := 1) rfl rfl (by omega) (by decide) rfl dX3_blend_187 (fun H locs hW => ?_)
                                refine lv_aload_n hx hb dX3_blend_188 rfl (lv_at hl 9 rfl) ?_
                                refine lv_iconst (v := 2) hx hb dX3_blend_189 (by decide) ?_
                                refine lv_iload hx hb dX3_blend_190 (lv_at hl 3 rfl) ?_
                                refine cy_tiast (tl' := ((q37, .inl (kI, 4, .inl (upd (upd (upd ((cq_bi S x a (a + 1 + j) (cq_bB S x a (cq_bA S x nc a) j) t).2) 0 (nI a)) 1 (nI (a + 1 + j))) 2 (nI (t + 1))))) :: tl)) hC 0 q37 hW 0 (i := 2) rfl rfl (by omega) (by decide) rfl dX3_blend_192 (fun H locs hW => ?_)
                                refine lv_aload_n hx hb dX3_blend_193 rfl (lv_at hl 9 rfl) ?_
                                refine lv_iconst (v := 3) hx hb dX3_blend_194 (by decide) ?_
                                refine lv_lload hx hb dX3_blend_195 (lv_at hl 2 rfl) ?_
                                refine lv_l2i hx hb dX3_blend_197 rfl ?_
                                refine cy_tiast (tl' := ((q37, .inl (kI, 4, .inl (upd (upd (upd (upd ((cq_bi S x a (a + 1 + j) (cq_bB S x a (cq_bA S x nc a) j) t).2) 0 (nI a)) 1 (nI (a + 1 + j))) 2 (nI (t + 1))) 3 ((((((nI (t + 1)).toInt64) * (cq_to S a)) + (((10 - (nI (t + 1))).toInt64) * (cq_to S (a + 1 + j)))) / 10).toInt32)))) :: tl)) hC 0 q37 hW 0 (i := 3) rfl rfl (by omega) (by decide) rfl dX3_blend_198 (fun H locs hW => ?_)
                                refine lv_iinc (v := nI (t + 1 + 1)) (lv' := [(8, .int (nI (t + 1 + 1))), (4, .long (cy_abL ((((((nI (t + 1)).toInt64) * (cq_to S a)) + (((10 - (nI (t + 1))).toInt64) * (cq_to S (a + 1 + j)))) / 10) - x.toInt64))), (11, .long (cy_abL ((((((nI (t + 1)).toInt64) * (cq_to S a)) + (((10 - (nI (t + 1))).toInt64) * (cq_to S (a + 1 + j)))) / 10) - x.toInt64))), (9, .long (((((nI (t + 1)).toInt64) * (cq_to S a)) + (((10 - (nI (t + 1))).toInt64) * (cq_to S (a + 1 + j)))) / 10)), (7, .int (nI (a + 1 + j))), (6, .int (nI a)), (0, .ref (ad 0)), (1, .int x), (2, .int (nI k)), (3, .ref q37)]) hx hb dX3_blend_199 hl (k := 3) rfl (nI_1 (t + 1)) (by decide) rfl (fun ls hl => ?_)
                                refine lv_goto (tgt := 91) hx hb dX3_blend_202 (by decide) ?_
                                rw [show cy_abL ((((((nI (t + 1)).toInt64) * (cq_to S a)) + (((10 - (nI (t + 1))).toInt64) * (cq_to S (a + 1 + j)))) / 10) - x.toInt64) = (cq_bi S x a (a + 1 + j) (cq_bB S x a (cq_bA S x nc a) j) (t + 1)).1 from by simp only [cq_bi, cq_bu, cq_bt2, cq_bt1, c_95, c_104, c_113, c_160, c_168, clk, ↓reduceIte]] at hl
                                have hW := cy_castF (show (upd (upd (upd (upd ((cq_bi S x a (a + 1 + j) (cq_bB S x a (cq_bA S x nc a) j) t).2) 0 (nI a)) 1 (nI (a + 1 + j))) 2 (nI (t + 1))) 3 ((((((nI (t + 1)).toInt64) * (cq_to S a)) + (((10 - (nI (t + 1))).toInt64) * (cq_to S (a + 1 + j)))) / 10).toInt32)) = ((cq_bi S x a (a + 1 + j) (cq_bB S x a (cq_bA S x nc a) j) (t + 1)).2) from by simp only [cq_bi, cq_bu, cq_bt2, cq_bt1, c_95, c_104, c_113, c_160, c_168, clk, ↓reduceIte]) hW
                                exact ih_91 (t + 1) (by omega) (by omega) (Or.inr ⟨c_104, c_113⟩) _ _ hW _ (lv_sub hl [1, 0, 4, 5, 6, 7, 8, 9] rfl)
                              · skip
                                refine lv_goto (tgt := 199) hx hb dX3_blend_171 (by decide) ?_
                                refine lv_iinc (v := nI (t + 1 + 1)) (lv' := [(8, .int (nI (t + 1 + 1))), (11, .long (cy_abL ((((((nI (t + 1)).toInt64) * (cq_to S a)) + (((10 - (nI (t + 1))).toInt64) * (cq_to S (a + 1 + j)))) / 10) - x.toInt64))), (9, .long (((((nI (t + 1)).toInt64) * (cq_to S a)) + (((10 - (nI (t + 1))).toInt64) * (cq_to S (a + 1 + j)))) / 10)), (4, .long ((cq_bi S x a (a + 1 + j) (cq_bB S x a (cq_bA S x nc a) j) t).1)), (7, .int (nI (a + 1 + j))), (6, .int (nI a)), (0, .ref (ad 0)), (1, .int x), (2, .int (nI k)), (3, .ref q37)]) hx hb dX3_blend_199 hl (k := 3) rfl (nI_1 (t + 1)) (by decide) rfl (fun ls hl => ?_)
                                refine lv_goto (tgt := 91) hx hb dX3_blend_202 (by decide) ?_
                                rw [show (cq_bi S x a (a + 1 + j) (cq_bB S x a (cq_bA S x nc a) j) t).1 = (cq_bi S x a (a + 1 + j) (cq_bB S x a (cq_bA S x nc a) j) (t + 1)).1 from by simp only [cq_bi, cq_bu, cq_bt2, cq_bt1, c_95, c_104, c_113, c_160, c_168, clk, ↓reduceIte]] at hl
                                have hW := cy_castF (show ((cq_bi S x a (a + 1 + j) (cq_bB S x a (cq_bA S x nc a) j) t).2) = ((cq_bi S x a (a + 1 + j) (cq_bB S x a (cq_bA S x nc a) j) (t + 1)).2) from by simp only [cq_bi, cq_bu, cq_bt2, cq_bt1, c_95, c_104, c_113, c_160, c_168, clk, ↓reduceIte]) hW
                                exact ih_91 (t + 1) (by omega) (by omega) (Or.inr ⟨c_104, c_113⟩) _ _ hW _ (lv_sub hl [3, 0, 4, 5, 6, 7, 8, 9] rfl)
                  exact L_91 ((9 - 0) + 1) 0 (Nat.lt_succ_self _) (Nat.zero_le _) (Or.inl rfl) _ _ hW _ (lv_sub hl [1, 0, 2, 3, 4, 5, 6, 7] rfl)
            exact L_79 ((nc - (a + 1 + 0)) + 1) 0 (Nat.lt_succ_self _) (by omega) _ _ hW _ (lv_sub hl [1, 0, 2, 3, 4, 5, 6] rfl)
      exact L_64 ((nc - 0) + 1) 0 (Nat.lt_succ_self _) (by omega) _ _ hW _ (lv_sub hl [1, 0, 3, 4, 5, 2] rfl)
    · skip
      refine lv_aload_n hx hb dX3_blend_30 rfl (lv_at hl 0 rfl) ?_
      refine lv_iconst (v := 2) hx hb dX3_blend_31 (by decide) ?_
      refine cy_callV (rm := rm_X3_no) (As := [.int 2]) (rest := []) (q0 := 0) (ci := 3) hC.1 hC.2.1 hC.2.2 hW (c_X3_no (x := 2)) (cwV 1 hts gX3_blend_X3_no rfl rfl rfl (by decide +kernel) ⟨Nat.le_of_ble_eq_true rfl, Nat.le_of_ble_eq_true rfl⟩) (cy_w_at (by decide) (cy_rd (cy_us) rfl)) rfl rfl hl.1 rfl (Nat.le_of_ble_eq_true rfl) dX3_blend_32 ⟨Nat.le_of_ble_eq_true rfl, Nat.le_of_ble_eq_true rfl⟩ (k' := 0) (n' := 0) rfl rfl (fun H locs hW => ?_)
      rw [show va_up (va_up S 0 (upd (S 0) 0 0)) 0 (upd ((va_up S 0 (upd (S 0) 0 0)) 0) 0 2) = (va_up S 0 (upd (upd (S 0) 0 0) 0 2)) from by rw [cy_us, cy_uu]] at hW
      refine cy_topv (congrArg Value.int (show 0 = (cq_Bl S x y nc).2 from by simp only [cq_Bl, cq_th, cq_rs, c_12, c_27, eq_self, ↓reduceIte, not_true_eq_false, not_false_eq_true])) ?_
      have hW := cy_castS (show (va_up S 0 (upd (upd (S 0) 0 0) 0 2)) = (cq_Bl S x y nc).1 from by simp only [cq_Bl, cq_th, cq_rs, c_12, c_27, eq_self, ↓reduceIte, not_true_eq_false, not_false_eq_true]) hW
      exact hE  _ _ _ _ _ _ (Nat.le_of_ble_eq_true rfl) (Nat.le_of_ble_eq_true rfl) hW dX3_blend_35
  · skip
    refine lv_aload_n hx hb dX3_blend_15 rfl (lv_at hl 0 rfl) ?_
    refine lv_iconst (v := 1) hx hb dX3_blend_16 (by decide) ?_
    refine cy_callV (rm := rm_X3_no) (As := [.int 1]) (rest := []) (q0 := 0) (ci := 3) hC.1 hC.2.1 hC.2.2 hW (c_X3_no (x := 1)) (cwV 1 hts gX3_blend_X3_no rfl rfl rfl (by decide +kernel) ⟨Nat.le_of_ble_eq_true rfl, Nat.le_of_ble_eq_true rfl⟩) (cy_w_at (by decide) (cy_rd (cy_us) rfl)) rfl rfl hl.1 rfl (Nat.le_of_ble_eq_true rfl) dX3_blend_17 ⟨Nat.le_of_ble_eq_true rfl, Nat.le_of_ble_eq_true rfl⟩ (k' := 0) (n' := 0) rfl rfl (fun H locs hW => ?_)
    rw [show va_up (va_up S 0 (upd (S 0) 0 0)) 0 (upd ((va_up S 0 (upd (S 0) 0 0)) 0) 0 1) = (va_up S 0 (upd (upd (S 0) 0 0) 0 1)) from by rw [cy_us, cy_uu]] at hW
    refine cy_topv (congrArg Value.int (show 0 = (cq_Bl S x y nc).2 from by simp only [cq_Bl, cq_th, cq_rs, c_12, eq_self, ↓reduceIte, not_true_eq_false, not_false_eq_true])) ?_
    have hW := cy_castS (show (va_up S 0 (upd (upd (S 0) 0 0) 0 1)) = (cq_Bl S x y nc).1 from by simp only [cq_Bl, cq_th, cq_rs, c_12, eq_self, ↓reduceIte, not_true_eq_false, not_false_eq_true]) hW
    exact hE  _ _ _ _ _ _ (Nat.le_of_ble_eq_true rfl) (Nat.le_of_ble_eq_true rfl) hW dX3_blend_20
