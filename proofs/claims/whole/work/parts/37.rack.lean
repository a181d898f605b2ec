abbrev rm_X3_rack : Room := { frames := 2, cells := 1, slots := 5, locals := 44 }
set_option maxHeartbeats 4000000 in
set_option maxRecDepth 100000 in
theorem c_X3_rack {l : Launch} {D : va_G} {kI kJ kZ kC : ClassId} {ad : Nat → Nat} {S : Nat → Nat → Int32} {tl : va_W} {x y z : Int32} {nc : Nat} (hnc : S 0 12 = nI nc) (h12 : nc ≤ 12) (hhd : ∀ c, c < nc → cq_hH S c) (hq : cq_ok S) : cy_M l yX3_rack wsX3_rack rm_X3_rack D (cy_tys kI kJ kZ kC) [.ref (ad 0), .int x, .int y, .int z] (cy_Mw kI kZ ad S tl) (some (.int ((cq_Rk S x y z nc).2))) (cy_Mw kI kZ ad (cq_Rk S x y z nc).1 tl) := by
  refine cy_of (own := RX3) (cc := cX3_rack) (maxL := 10) (ret := (some .int)) (i := .ireturn) (by decide) rfl rfl (Nat.le_of_ble_eq_true rfl) (cy_endI rfl) ?_
  intro p e s m args below meth co Q A ls hC hE hW hl
  have hx := hC.1.1; have hb := hC.1.2.1; have hml := hC.1.2.2.1; have hown := hC.1.2.2.2.1; have hts := hC.1.2.2.2.2
  have hl : lv_has ls 10 [(0, .ref (ad 0)), (1, .int x), (2, .int y), (3, .int z)] := hl
  have hi3 : ∀ w ∈ u_ws RX3 TX3 25, w ∈ wsX3_rack := by decide +kernel
  refine lv_aload_n hx hb dX3_rack_0 rfl (lv_at hl 0 rfl) ?_
  refine lv_iconst (v := 0) hx hb dX3_rack_1 (by decide) ?_
  refine cy_put hC (0) (by decide) hi3 tyX3 tyX3_ok nmX3 hW (rfl) rfl 0 (by decide) (hts (.fieldLink RX3 67 "CaskYardModel" "thrown" "I") (by decide +kernel)) (fun _ h9 => h9) rfl (ty := .int) (by decide +kernel) rfl rfl (Nat.le_of_ble_eq_true rfl) (upd (S 0) 0 0) cy_hM0 (S' := (va_up S 0 (upd (S 0) 0 0))) rfl dX3_rack_2 (fun H locs hW => ?_)
  refine lv_aload_n hx hb dX3_rack_5 rfl (lv_at hl 0 rfl) ?_
  refine lv_iload_n hx hb dX3_rack_6 rfl (lv_at hl 1 rfl) ?_
  refine cy_callV (rm := rm_X3_isCask) (As := [.int x]) (rest := []) (q0 := 0) (ci := 3) hC.1 hC.2.1 hC.2.2 hW (c_X3_isCask (x := x) (nc := nc) hnc (by omega)) (cwV 1 hts gX3_rack_X3_isCask rfl rfl rfl (by decide +kernel) ⟨Nat.le_of_ble_eq_true rfl, Nat.le_of_ble_eq_true rfl⟩) (cy_w_at (by decide) (cy_rd (cy_us) rfl)) rfl rfl hl.1 rfl (Nat.le_of_ble_eq_true rfl) dX3_rack_7 ⟨Nat.le_of_ble_eq_true rfl, Nat.le_of_ble_eq_true rfl⟩ (k' := 0) (n' := 0) rfl rfl (fun H locs hW => ?_)
  refine lv_if_eq (tgt := 26) hx hb dX3_rack_10 (by decide) (fun c_10 => ?_) (fun c_10 => ?_)
  · skip
    refine lv_aload_n hx hb dX3_rack_26 rfl (lv_at hl 0 rfl) ?_
    refine lv_iconst (v := 1) hx hb dX3_rack_27 (by decide) ?_
    refine cy_callV (rm := rm_X3_no) (As := [.int 1]) (rest := []) (q0 := 0) (ci := 3) hC.1 hC.2.1 hC.2.2 hW (c_X3_no (x := 1)) (cwV 1 hts gX3_rack_X3_no rfl rfl rfl (by decide +kernel) ⟨Nat.le_of_ble_eq_true rfl, Nat.le_of_ble_eq_true rfl⟩) (cy_w_at (by decide) (cy_rd (cy_us) rfl)) rfl rfl hl.1 rfl (Nat.le_of_ble_eq_true rfl) dX3_rack_28 ⟨Nat.le_of_ble_eq_true rfl, Nat.le_of_ble_eq_true rfl⟩ (k' := 0) (n' := 0) rfl rfl (fun H locs hW => ?_)
    rw [show va_up (va_up S 0 (upd (S 0) 0 0)) 0 (upd ((va_up S 0 (upd (S 0) 0 0)) 0) 0 1) = (va_up S 0 (upd (upd (S 0) 0 0) 0 1)) from by rw [cy_us, cy_uu]] at hW
    refine cy_topv (congrArg Value.int (show 0 = (cq_Rk S x y z nc).2 from by first | (simp only [cq_Rk, cq_th, cq_rs, cq_nR1, cq_nR2, cq_ro, c_10, eq_self, ↓reduceIte, not_true_eq_false, not_false_eq_true]; done) | (simp only [cq_Rk, cq_th, cq_rs, cq_nR1, cq_nR2, cq_ro, c_10, eq_self, ↓reduceIte, not_true_eq_false, not_false_eq_true]; rfl))) ?_
    have hW := cy_castS (show (va_up S 0 (upd (upd (S 0) 0 0) 0 1)) = (cq_Rk S x y z nc).1 from by first | (simp only [cq_Rk, cq_th, cq_rs, cq_nR1, cq_nR2, cq_ro, c_10, eq_self, ↓reduceIte, not_true_eq_false, not_false_eq_true]; done) | (simp only [cq_Rk, cq_th, cq_rs, cq_nR1, cq_nR2, cq_ro, c_10, eq_self, ↓reduceIte, not_true_eq_false, not_false_eq_true]; rfl)) hW
    exact hE  _ _ _ _ _ _ (Nat.le_of_ble_eq_true rfl) (Nat.le_of_ble_eq_true rfl) hW dX3_rack_31
  · skip
    obtain ⟨c, hc, rfl⟩ := cq_in_t (by omega) c_10
    have clc : (nI c).toNatClampNeg = c := nI_clamp (by omega)
    have hl : lv_has ls 10 [(0, .ref (ad 0)), (1, .int (nI c)), (2, .int y), (3, .int z)] := hl
    refine lv_iload_n hx hb dX3_rack_13 rfl (lv_at hl 2 rfl) ?_
    refine lv_iconst (v := (-1)) hx hb dX3_rack_14 (by decide) ?_
    refine lv_icmp_eq (tgt := 32) hx hb dX3_rack_15 (by decide) (fun c_15 => ?_) (fun c_15 => ?_)
    · skip
      subst c_15
      have hl : lv_has ls 10 [(0, .ref (ad 0)), (1, .int (nI c)), (2, .int (-1)), (3, .int z)] := hl
      refine lv_iload_n hx hb dX3_rack_32 rfl (lv_at hl 1 rfl) ?_
      refine lv_iload_n hx hb dX3_rack_33 rfl (lv_at hl 2 rfl) ?_
      refine lv_icmp_eq (tgt := 47) hx hb dX3_rack_34 (by decide) (fun c_34 => ?_) (fun c_34 => ?_)
      · skip
        exact absurd c_34 (cy_nm1 (by omega))
      · skip
        refine lv_iload_n hx hb dX3_rack_37 rfl (lv_at hl 3 rfl) ?_
        refine lv_iconst (v := 1) hx hb dX3_rack_38 (by decide) ?_
        refine lv_ldc (v := 60000) hx hb hown (hts (.constant RX3 89 60000) (by decide +kernel)) dX3_rack_39 ?_
        refine cy_callS (rm := rm_X3_isIn) (As := [.int z, .int 1, .int 60000]) (rest := []) hC.1 hC.2.1 hC.2.2 hW (c_X3_isIn (x := z) (y := 1) (z := 60000)) (va_cwS 3 hts gX3_rack_X3_isIn rfl rfl rfl (by decide +kernel) ⟨Nat.le_of_ble_eq_true rfl, Nat.le_of_ble_eq_true rfl⟩) rfl hl.1 rfl (Nat.le_of_ble_eq_true rfl) dX3_rack_41 ⟨Nat.le_of_ble_eq_true rfl, Nat.le_of_ble_eq_true rfl⟩ (k' := 0) (n' := 0) rfl rfl (fun H locs hW => ?_)
        refine lv_if_ne (tgt := 53) hx hb dX3_rack_44 (by decide) (fun c_44 => ?_) (fun c_44 => ?_)
        · skip
          obtain ⟨u, hu, rfl⟩ := cq_in_l1 (n := 60000) (by decide) c_44
          have clu : (nI u).toNatClampNeg = u := nI_clamp (by omega)
          have hl : lv_has ls 10 [(0, .ref (ad 0)), (1, .int (nI c)), (2, .int (-1)), (3, .int (nI u))] := hl
          refine lv_aload_n hx hb dX3_rack_53 rfl (lv_at hl 0 rfl) ?_
          refine cy_get hC (0) (by decide) hi3 hW (cy_rd (cy_us) rfl) rfl 14 (by decide) (hts (.fieldLink RX3 35 "CaskYardModel" "isSound" "[Z") (by decide +kernel)) (fun _ h9 => h9) (v := .ref (ad 8)) rfl dX3_rack_54 ?_
          refine lv_iload_n hx hb dX3_rack_57 rfl (lv_at hl 1 rfl) ?_
          refine cy_zald hC (8) (by decide) hW 2 (i := c) (cy_rd (cy_un (by omega)) rfl) rfl (by omega) (by decide) dX3_rack_58 ?_
          refine lv_if_eq (tgt := 111) hx hb dX3_rack_59 (by decide) (fun c_59 => ?_) (fun c_59 => ?_)
          · skip
            refine lv_aload_n hx hb dX3_rack_111 rfl (lv_at hl 0 rfl) ?_
            refine lv_iconst (v := 3) hx hb dX3_rack_112 (by decide) ?_
            refine cy_callV (rm := rm_X3_no) (As := [.int 3]) (rest := []) (q0 := 0) (ci := 3) hC.1 hC.2.1 hC.2.2 hW (c_X3_no (x := 3)) (cwV 1 hts gX3_rack_X3_no rfl rfl rfl (by decide +kernel) ⟨Nat.le_of_ble_eq_true rfl, Nat.le_of_ble_eq_true rfl⟩) (cy_w_at (by decide) (cy_rd (cy_us) rfl)) rfl rfl hl.1 rfl (Nat.le_of_ble_eq_true rfl) dX3_rack_113 ⟨Nat.le_of_ble_eq_true rfl, Nat.le_of_ble_eq_true rfl⟩ (k' := 0) (n' := 0) rfl rfl (fun H locs hW => ?_)
            rw [show va_up (va_up S 0 (upd (S 0) 0 0)) 0 (upd ((va_up S 0 (upd (S 0) 0 0)) 0) 0 3) = (va_up S 0 (upd (upd (S 0) 0 0) 0 3)) from by rw [cy_us, cy_uu]] at hW
            refine cy_topv (congrArg Value.int (show 0 = (cq_Rk S (nI c) (-1) (nI u) nc).2 from by first | (simp only [cq_Rk, cq_th, cq_rs, cq_nR1, cq_nR2, cq_ro, c_10, c_34, c_44, c_59, clc, clu, eq_self, ↓reduceIte, not_true_eq_false, not_false_eq_true]; done) | (simp only [cq_Rk, cq_th, cq_rs, cq_nR1, cq_nR2, cq_ro, c_10, c_34, c_44, c_59, clc, clu, eq_self, ↓reduceIte, not_true_eq_false, not_false_eq_true]; rfl))) ?_
            have hW := cy_castS (show (va_up S 0 (upd (upd (S 0) 0 0) 0 3)) = (cq_Rk S (nI c) (-1) (nI u) nc).1 from by first | (simp only [cq_Rk, cq_th, cq_rs, cq_nR1, cq_nR2, cq_ro, c_10, c_34, c_44, c_59, clc, clu, eq_self, ↓reduceIte, not_true_eq_false, not_false_eq_true]; done) | (simp only [cq_Rk, cq_th, cq_rs, cq_nR1, cq_nR2, cq_ro, c_10, c_34, c_44, c_59, clc, clu, eq_self, ↓reduceIte, not_true_eq_false, not_false_eq_true]; rfl)) hW
            exact hE  _ _ _ _ _ _ (Nat.le_of_ble_eq_true rfl) (Nat.le_of_ble_eq_true rfl) hW dX3_rack_116
          · skip
            refine lv_iload_n hx hb dX3_rack_62 rfl (lv_at hl 2 rfl) ?_
            refine lv_iconst (v := (-1)) hx hb dX3_rack_63 (by decide) ?_
            refine lv_icmp_eq (tgt := 76) hx hb dX3_rack_64 (by decide) (fun c_64 => ?_) (fun c_64 => ?_)
            · skip
              refine lv_aload_n hx hb dX3_rack_76 rfl (lv_at hl 0 rfl) ?_
              refine lv_iload_n hx hb dX3_rack_77 rfl (lv_at hl 1 rfl) ?_
              refine cy_callV (rm := rm_X3_all) (As := [.int (nI c)]) (rest := []) (q0 := 0) (ci := 3) hC.1 hC.2.1 hC.2.2 hW (c_X3_all (c := c) (by omega)) (cwV 1 hts gX3_rack_X3_all rfl rfl rfl (by decide +kernel) ⟨Nat.le_of_ble_eq_true rfl, Nat.le_of_ble_eq_true rfl⟩) (cy_w_at (by decide) (cy_rd (cy_us) rfl)) rfl rfl hl.1 rfl (Nat.le_of_ble_eq_true rfl) dX3_rack_78 ⟨Nat.le_of_ble_eq_true rfl, Nat.le_of_ble_eq_true rfl⟩ (k' := 0) (n' := 0) rfl rfl (fun H locs hW => ?_)
              refine cy_topv (show _ = Value.int (cq_al S c) from rfl) ?_
              refine lv_iload_n hx hb dX3_rack_81 rfl (lv_at hl 3 rfl) ?_
              refine lv_icmp_lt (tgt := 111) hx hb dX3_rack_82 (by decide) (fun c_82 => ?_) (fun c_82 => ?_)
              · skip
                refine lv_aload_n hx hb dX3_rack_111 rfl (lv_at hl 0 rfl) ?_
                refine lv_iconst (v := 3) hx hb dX3_rack_112 (by decide) ?_
                refine cy_callV (rm := rm_X3_no) (As := [.int 3]) (rest := []) (q0 := 0) (ci := 3) hC.1 hC.2.1 hC.2.2 hW (c_X3_no (x := 3)) (cwV 1 hts gX3_rack_X3_no rfl rfl rfl (by decide +kernel) ⟨Nat.le_of_ble_eq_true rfl, Nat.le_of_ble_eq_true rfl⟩) (cy_w_at (by decide) (cy_rd (cy_us) rfl)) rfl rfl hl.1 rfl (Nat.le_of_ble_eq_true rfl) dX3_rack_113 ⟨Nat.le_of_ble_eq_true rfl, Nat.le_of_ble_eq_true rfl⟩ (k' := 0) (n' := 0) rfl rfl (fun H locs hW => ?_)
                rw [show va_up (va_up S 0 (upd (S 0) 0 0)) 0 (upd ((va_up S 0 (upd (S 0) 0 0)) 0) 0 3) = (va_up S 0 (upd (upd (S 0) 0 0) 0 3)) from by rw [cy_us, cy_uu]] at hW
                refine cy_topv (congrArg Value.int (show 0 = (cq_Rk S (nI c) (-1) (nI u) nc).2 from by first | (simp only [cq_Rk, cq_th, cq_rs, cq_nR1, cq_nR2, cq_ro, c_10, c_34, c_44, c_59, c_82, clc, clu, eq_self, ↓reduceIte, not_true_eq_false, not_false_eq_true]; done) | (simp only [cq_Rk, cq_th, cq_rs, cq_nR1, cq_nR2, cq_ro, c_10, c_34, c_44, c_59, c_82, clc, clu, eq_self, ↓reduceIte, not_true_eq_false, not_false_eq_true]; rfl))) ?_
                have hW := cy_castS (show (va_up S 0 (upd (upd (S 0) 0 0) 0 3)) = (cq_Rk S (nI c) (-1) (nI u) nc).1 from by first | (simp only [cq_Rk, cq_th, cq_rs, cq_nR1, cq_nR2, cq_ro, c_10, c_34, c_44, c_59, c_82, clc, clu, eq_self, ↓reduceIte, not_true_eq_false, not_false_eq_true]; done) | (simp only [cq_Rk, cq_th, cq_rs, cq_nR1, cq_nR2, cq_ro, c_10, c_34, c_44, c_59, c_82, clc, clu, eq_self, ↓reduceIte, not_true_eq_false, not_false_eq_true]; rfl)) hW
                exact hE  _ _ _ _ _ _ (Nat.le_of_ble_eq_true rfl) (Nat.le_of_ble_eq_true rfl) hW dX3_rack_116
              · skip
                refine lv_iload_n hx hb dX3_rack_85 rfl (lv_at hl 2 rfl) ?_
                refine lv_iconst (v := (-1)) hx hb dX3_rack_86 (by decide) ?_
                refine lv_icmp_eq (tgt := 117) hx hb dX3_rack_87 (by decide) (fun c_87 => ?_) (fun c_87 => ?_)
                · skip
                  have hH := hhd c (by omega)
                  have hal : ¬ cq_al S c = 0 := cy_al0 hu.1 hu.2 c_82
                  have huW := cq_al_le hH hu.2 c_82
                  have hS0 := cq_s0_I hH hu.1 hu.2 huW
                  refine lv_aload_n hx hb dX3_rack_117 rfl (lv_at hl 0 rfl) ?_
                  refine lv_iload_n hx hb dX3_rack_118 rfl (lv_at hl 1 rfl) ?_
                  refine cy_callV (rm := rm_X3_all) (As := [.int (nI c)]) (rest := []) (q0 := 0) (ci := 3) hC.1 hC.2.1 hC.2.2 hW (c_X3_all (c := c) (by omega)) (cwV 1 hts gX3_rack_X3_all rfl rfl rfl (by decide +kernel) ⟨Nat.le_of_ble_eq_true rfl, Nat.le_of_ble_eq_true rfl⟩) (cy_w_at (by decide) (cy_rd (cy_us) rfl)) rfl rfl hl.1 rfl (Nat.le_of_ble_eq_true rfl) dX3_rack_119 ⟨Nat.le_of_ble_eq_true rfl, Nat.le_of_ble_eq_true rfl⟩ (k' := 0) (n' := 0) rfl rfl (fun H locs hW => ?_)
                  refine cy_topv (show _ = Value.int (cq_al S c) from rfl) ?_
                  refine lv_i2l hx hb dX3_rack_122 rfl ?_
                  refine lv_lstore (lv' := [(4, .long ((cq_al S c).toInt64)), (0, .ref (ad 0)), (1, .int (nI c)), (2, .int (-1)), (3, .int (nI u))]) hx hb dX3_rack_123 hl (by decide) rfl (fun ls hl => ?_)
                  refine lv_iconst (v := 5) hx hb dX3_rack_125 (by decide) ?_
                  refine cy_newI hC hW rfl (hts (.arrayClass .int) (by decide +kernel)) (N := 5) (by decide) (Nat.le_of_ble_eq_true rfl) (Nat.le_of_ble_eq_true rfl) (k' := 1) (n' := 5) rfl rfl dX3_rack_126 (fun q126 H hW => ?_)
                  refine lv_astore (lv' := [(6, .ref q126), (4, .long ((cq_al S c).toInt64)), (0, .ref (ad 0)), (1, .int (nI c)), (2, .int (-1)), (3, .int (nI u))]) hx hb dX3_rack_128 hl (by decide) rfl (fun ls hl => ?_)
                  refine lv_iload_n hx hb dX3_rack_130 rfl (lv_at hl 5 rfl) ?_
                  refine lv_istore (lv' := [(7, .int (nI u)), (6, .ref q126), (4, .long ((cq_al S c).toInt64)), (0, .ref (ad 0)), (1, .int (nI c)), (2, .int (-1)), (3, .int (nI u))]) hx hb dX3_rack_131 hl (by decide) rfl (fun ls hl => ?_)
                  refine lv_iconst (v := 0) hx hb dX3_rack_133 (by decide) ?_
                  refine lv_istore (lv' := [(8, .int 0), (7, .int (nI u)), (6, .ref q126), (4, .long ((cq_al S c).toInt64)), (0, .ref (ad 0)), (1, .int (nI c)), (2, .int (-1)), (3, .int (nI u))]) hx hb dX3_rack_134 hl (by decide) rfl (fun ls hl => ?_)
                  have L_136 : ∀ (fu : Nat) (k : Nat), 5 - k < fu → (k ≤ 5) → ∀ (H : Heap) (locs : List Loc), cy_W D A s.heap (cy_Mw kI kZ ad (va_up S 0 (upd (S 0) 0 0)) ((q126, .inl (kI, 5, .inl ((cq_rf S c (nI u) k).1))) :: tl)) H locs → ∀ (ls : Array Slot), lv_has ls 10 [(4, .long ((cq_al S c).toInt64)), (7, .int ((cq_rf S c (nI u) k).2)), (8, .int (nI k)), (6, .ref q126), (0, .ref (ad 0)), (1, .int (nI c)), (3, .int (nI u)), (2, .int (-1))] → W p l e rm_X3_rack s m args below meth co H locs 1 5 Q (F0 m 136 ls []) := by
                    intro fu
                    induction fu with
                    | zero => intro k hn; exact absurd hn (Nat.not_lt_zero _)
                    | succ fu ih_136 =>
                      intro k hn_136 hk H locs hW ls hl
                      refine lv_iload hx hb dX3_rack_136 (lv_at hl 2 rfl) ?_
                      refine lv_iconst (v := 5) hx hb dX3_rack_138 (by decide) ?_
                      refine lv_icmp_ge (tgt := 182) hx hb dX3_rack_139 (by decide) (fun c_139 => ?_) (fun c_139 => ?_)
                      · skip
                        have q_139 := cy_le (a := 5) (b := k) (by omega) (by omega) c_139
                        obtain rfl : k = 5 := by omega
                        have L_182 : ∀ (fu : Nat) (r : Nat), (cq_rr S c u r).2 < fu → (r + (cq_rr S c u r).2 ≤ cq_L0 S c u) → ∀ (H : Heap) (locs : List Loc), cy_W D A s.heap (cy_Mw kI kZ ad (va_up S 0 (upd (S 0) 0 0)) ((q126, .inl (kI, 5, .inl ((cq_rr S c u r).1))) :: tl)) H locs → ∀ (ls : Array Slot), lv_has ls 10 [(4, .long ((cq_al S c).toInt64)), (7, .int (nI (cq_rr S c u r).2)), (6, .ref q126), (0, .ref (ad 0)), (1, .int (nI c)), (3, .int (nI u)), (2, .int (-1))] → W p l e rm_X3_rack s m args below meth co H locs 1 5 Q (F0 m 182 ls []) := by
                          intro fu
                          induction fu with
                          | zero => intro r hn; exact absurd hn (Nat.not_lt_zero _)
                          | succ fu ih_182 =>
                            intro r hn_182 hr H locs hW ls hl
                            have hI : cq_I S c u (cq_rr S c u r) := cq_rr_I hH hu.1 hu.2 huW
                            have hIb := cq_I_le hI
                            refine lv_iload hx hb dX3_rack_182 (lv_at hl 1 rfl) ?_
                            refine lv_if_le (tgt := 244) hx hb dX3_rack_184 (by decide) (fun c_184 => ?_) (fun c_184 => ?_)
                            · skip
                              have q_184 := cy_le (a := ((cq_rr S c u r).2)) (b := 0) (by omega) (by omega) c_184
                              have eF : cq_rr S c u r = cq_rF S c u := cq_rr_end hr q_184
                              rw [eF] at hW hl
                              refine lv_aload_n hx hb dX3_rack_244 rfl (lv_at hl 3 rfl) ?_
                              refine cy_get hC (0) (by decide) hi3 hW (cy_rd (cy_us) rfl) rfl 21 (by decide) (hts (.fieldLink RX3 57 "CaskYardModel" "grains" "[I") (by decide +kernel)) (fun _ h9 => h9) (v := .ref (ad 15)) rfl dX3_rack_245 ?_
                              refine lv_iload_n hx hb dX3_rack_248 rfl (lv_at hl 4 rfl) ?_
                              refine cy_iald hC (15) (by decide) hW 0 (i := c) (cy_rd (cy_un (by omega)) rfl) rfl (by omega) (by decide) dX3_rack_249 ?_
                              refine lv_i2l hx hb dX3_rack_250 rfl ?_
                              refine lv_iload_n hx hb dX3_rack_251 rfl (lv_at hl 5 rfl) ?_
                              refine lv_i2l hx hb dX3_rack_252 rfl ?_
                              refine lv_lmul hx hb dX3_rack_253 ?_
                              refine lv_lload hx hb dX3_rack_254 (lv_at hl 0 rfl) ?_
                              refine lv_ldiv hx hb dX3_rack_256 (cy_l0 hal) ?_
                              refine lv_l2i hx hb dX3_rack_257 rfl ?_
                              refine lv_istore (lv' := [(8, .int (((((S 15 c).toInt64) * ((nI u).toInt64)) / ((cq_al S c).toInt64)).toInt32)), (4, .long ((cq_al S c).toInt64)), (7, .int (nI (cq_rF S c u).2)), (6, .ref q126), (0, .ref (ad 0)), (1, .int (nI c)), (3, .int (nI u)), (2, .int (-1))]) hx hb dX3_rack_258 hl (by decide) rfl (fun ls hl => ?_)
                              refine lv_iload_n hx hb dX3_rack_260 rfl (lv_at hl 7 rfl) ?_
                              refine lv_iconst (v := (-1)) hx hb dX3_rack_261 (by decide) ?_
                              refine lv_icmp_eq (tgt := 270) hx hb dX3_rack_262 (by decide) (fun c_262 => ?_) (fun c_262 => ?_)
                              · skip
                                refine lv_iconst (v := 0) hx hb dX3_rack_270 (by decide) ?_
                                refine lv_istore (lv' := [(9, .int 0), (8, .int (((((S 15 c).toInt64) * ((nI u).toInt64)) / ((cq_al S c).toInt64)).toInt32)), (4, .long ((cq_al S c).toInt64)), (7, .int (nI (cq_rF S c u).2)), (6, .ref q126), (0, .ref (ad 0)), (1, .int (nI c)), (3, .int (nI u)), (2, .int (-1))]) hx hb dX3_rack_271 hl (by decide) rfl (fun ls hl => ?_)
                                have L_273 : ∀ (fu : Nat) (k : Nat), 5 - k < fu → (k ≤ 5) → ∀ (H : Heap) (locs : List Loc), cy_W D A s.heap (cy_Mw kI kZ ad (cq_mv (cq_rs S) c (cq_rF S c u).1 k) ((q126, .inl (kI, 5, .inl ((cq_rF S c u).1))) :: tl)) H locs → ∀ (ls : Array Slot), lv_has ls 10 [(8, .int (cq_ro S c u)), (9, .int (nI k)), (6, .ref q126), (0, .ref (ad 0)), (1, .int (nI c)), (2, .int (-1)), (3, .int (nI u))] → W p l e rm_X3_rack s m args below meth co H locs 1 5 Q (F0 m 273 ls []) := by
                                  intro fu
                                  induction fu with
                                  | zero => intro k hn; exact absurd hn (Nat.not_lt_zero _)
                                  | succ fu ih_273 =>
                                    intro k hn_273 hk H locs hW ls hl
                                    refine lv_iload hx hb dX3_rack_273 (lv_at hl 1 rfl) ?_
                                    refine lv_iconst (v := 5) hx hb dX3_rack_275 (by decide) ?_
                                    refine lv_icmp_ge (tgt := 328) hx hb dX3_rack_276 (by decide) (fun c_276 => ?_) (fun c_276 => ?_)
                                    · skip
                                      have q_276 := cy_le (a := 5) (b := k) (by omega) (by omega) c_276
                                      obtain rfl : k = 5 := by omega
                                      refine lv_aload_n hx hb dX3_rack_328 rfl (lv_at hl 3 rfl) ?_
                                      refine cy_get hC (0) (by decide) hi3 hW (rfl) rfl 21 (by decide) (hts (.fieldLink RX3 57 "CaskYardModel" "grains" "[I") (by decide +kernel)) (fun _ h9 => h9) (v := .ref (ad 15)) rfl dX3_rack_329 ?_
                                      refine lv_iload_n hx hb dX3_rack_332 rfl (lv_at hl 4 rfl) ?_
                                      refine lv_dup2_11 hx hb dX3_rack_333 rfl rfl ?_
                                      refine cy_iald hC (15) (by decide) hW 0 (i := c) (rfl) rfl (by omega) (by decide) dX3_rack_334 ?_
                                      refine lv_iload hx hb dX3_rack_335 (lv_at hl 0 rfl) ?_
                                      refine lv_isub hx hb dX3_rack_337 ?_
                                      refine cy_iast hC (15) (by decide) hW 0 (i := c) (rfl) rfl (by omega) (by decide) (upd ((cq_mv (cq_rs S) c (cq_rF S c u).1 5) 15) c ((((cq_mv (cq_rs S) c (cq_rF S c u).1 5) 15) c) - (cq_ro S c u))) rfl (S' := (va_up (cq_mv (cq_rs S) c (cq_rF S c u).1 5) 15 (upd ((cq_mv (cq_rs S) c (cq_rF S c u).1 5) 15) c ((((cq_mv (cq_rs S) c (cq_rF S c u).1 5) 15) c) - (cq_ro S c u))))) rfl dX3_rack_338 (fun H locs hW => ?_)
                                      refine lv_iload_n hx hb dX3_rack_339 rfl (lv_at hl 5 rfl) ?_
                                      refine lv_iconst (v := (-1)) hx hb dX3_rack_340 (by decide) ?_
                                      refine lv_icmp_eq (tgt := 355) hx hb dX3_rack_341 (by decide) (fun c_341 => ?_) (fun c_341 => ?_)
                                      · skip
                                        refine lv_aload_n hx hb dX3_rack_355 rfl (lv_at hl 3 rfl) ?_
                                        refine lv_iload_n hx hb dX3_rack_356 rfl (lv_at hl 4 rfl) ?_
                                        refine cy_callV (rm := rm_X3_all) (As := [.int (nI c)]) (rest := []) (q0 := 0) (ci := 3) hC.1 hC.2.1 hC.2.2 hW (c_X3_all (c := c) (by omega)) (cwV 1 hts gX3_rack_X3_all rfl rfl rfl (by decide +kernel) ⟨Nat.le_of_ble_eq_true rfl, Nat.le_of_ble_eq_true rfl⟩) (cy_w_at (by decide) (cy_rd (cy_un (by omega)) rfl)) rfl rfl hl.1 rfl (Nat.le_of_ble_eq_true rfl) dX3_rack_357 ⟨Nat.le_of_ble_eq_true rfl, Nat.le_of_ble_eq_true rfl⟩ (k' := 1) (n' := 5) rfl rfl (fun H locs hW => ?_)
                                        refine cy_topv (show _ = Value.int (cq_al (cq_mv (cq_rs S) c (cq_rF S c u).1 5) c) from rfl) ?_
                                        have hW := cy_drop hW
                                        refine cy_topv (congrArg Value.int (show cq_al (cq_mv (cq_rs S) c (cq_rF S c u).1 5) c = (cq_Rk S (nI c) (-1) (nI u) nc).2 from by first | (simp only [cq_Rk, cq_th, cq_rs, cq_nR1, cq_nR2, cq_ro, c_10, c_34, c_44, c_59, c_82, c_139, c_184, c_276, clc, clu, eq_self, ↓reduceIte, not_true_eq_false, not_false_eq_true]; done) | (simp only [cq_Rk, cq_th, cq_rs, cq_nR1, cq_nR2, cq_ro, c_10, c_34, c_44, c_59, c_82, c_139, c_184, c_276, clc, clu, eq_self, ↓reduceIte, not_true_eq_false, not_false_eq_true]; rfl))) ?_
                                        have hW := cy_castS (show (va_up (cq_mv (cq_rs S) c (cq_rF S c u).1 5) 15 (upd ((cq_mv (cq_rs S) c (cq_rF S c u).1 5) 15) c ((((cq_mv (cq_rs S) c (cq_rF S c u).1 5) 15) c) - (cq_ro S c u)))) = (cq_Rk S (nI c) (-1) (nI u) nc).1 from by first | (simp only [cq_Rk, cq_th, cq_rs, cq_nR1, cq_nR2, cq_ro, c_10, c_34, c_44, c_59, c_82, c_139, c_184, c_276, clc, clu, eq_self, ↓reduceIte, not_true_eq_false, not_false_eq_true]; done) | (simp only [cq_Rk, cq_th, cq_rs, cq_nR1, cq_nR2, cq_ro, c_10, c_34, c_44, c_59, c_82, c_139, c_184, c_276, clc, clu, eq_self, ↓reduceIte, not_true_eq_false, not_false_eq_true]; rfl)) hW
                                        exact hE  _ _ _ _ _ _ (Nat.le_of_ble_eq_true rfl) (Nat.le_of_ble_eq_true rfl) hW dX3_rack_360
                                      · exact absurd c_341 (by decide)
                                    · skip
                                      have q_276 := cy_nle (a := 5) (b := k) (by omega) (by omega) c_276
                                      refine lv_aload_n hx hb dX3_rack_279 rfl (lv_at hl 3 rfl) ?_
                                      refine cy_get hC (0) (by decide) hi3 hW (rfl) rfl 20 (by decide) (hts (.fieldLink RX3 54 "CaskYardModel" "holds" "[I") (by decide +kernel)) (fun _ h9 => h9) (v := .ref (ad 14)) rfl dX3_rack_280 ?_
                                      refine lv_iconst (v := 5) hx hb dX3_rack_283 (by decide) ?_
                                      refine lv_iload_n hx hb dX3_rack_284 rfl (lv_at hl 4 rfl) ?_
                                      refine lv_imul hx hb dX3_rack_285 ?_
                                      refine cy_top (pk_mul 5 c) ?_
                                      refine lv_iload hx hb dX3_rack_286 (lv_at hl 1 rfl) ?_
                                      refine lv_iadd hx hb dX3_rack_288 ?_
                                      refine cy_top (nI_add (5 * c) k) ?_
                                      refine lv_dup2_11 hx hb dX3_rack_289 rfl rfl ?_
                                      refine cy_iald hC (14) (by decide) hW 0 (i := ((5 * c) + k)) (rfl) rfl (by omega) (by decide) dX3_rack_290 ?_
                                      refine lv_aload hx hb dX3_rack_291 (lv_at hl 2 rfl) ?_
                                      refine lv_iload hx hb dX3_rack_293 (lv_at hl 1 rfl) ?_
                                      refine cy_tiald hC 0 q126 hW 0 (i := k) rfl rfl (by omega) (by decide) dX3_rack_295 ?_
                                      refine lv_isub hx hb dX3_rack_296 ?_
                                      refine cy_iast hC (14) (by decide) hW 0 (i := ((5 * c) + k)) (rfl) rfl (by omega) (by decide) (upd ((cq_mv (cq_rs S) c (cq_rF S c u).1 k) 14) ((5 * c) + k) ((((cq_mv (cq_rs S) c (cq_rF S c u).1 k) 14) ((5 * c) + k)) - (((cq_rF S c u).1) k))) rfl (S' := (va_up (cq_mv (cq_rs S) c (cq_rF S c u).1 k) 14 (upd ((cq_mv (cq_rs S) c (cq_rF S c u).1 k) 14) ((5 * c) + k) ((((cq_mv (cq_rs S) c (cq_rF S c u).1 k) 14) ((5 * c) + k)) - (((cq_rF S c u).1) k))))) rfl dX3_rack_297 (fun H locs hW => ?_)
                                      refine lv_iload_n hx hb dX3_rack_298 rfl (lv_at hl 5 rfl) ?_
                                      refine lv_iconst (v := (-1)) hx hb dX3_rack_299 (by decide) ?_
                                      refine lv_icmp_eq (tgt := 322) hx hb dX3_rack_300 (by decide) (fun c_300 => ?_) (fun c_300 => ?_)
                                      · skip
                                        refine lv_iinc (v := nI (k + 1)) (lv' := [(9, .int (nI (k + 1))), (8, .int (cq_ro S c u)), (6, .ref q126), (0, .ref (ad 0)), (1, .int (nI c)), (2, .int (-1)), (3, .int (nI u))]) hx hb dX3_rack_322 hl (k := 1) rfl (nI_1 k) (by decide) rfl (fun ls hl => ?_)
                                        refine lv_goto (tgt := 273) hx hb dX3_rack_325 (by decide) ?_
                                        exact ih_273 (k + 1) (by omega) (by omega) _ _ hW _ (lv_sub hl [1, 0, 2, 3, 4, 5, 6] rfl)
                                      · exact absurd c_300 (by decide)
                                exact L_273 ((5 - 0) + 1) 0 (Nat.lt_succ_self _) (by omega) _ _ hW _ (lv_sub hl [1, 0, 4, 5, 6, 8, 7] rfl)
                              · exact absurd c_262 (by decide)
                            · skip
                              have q_184 := cy_nle (a := ((cq_rr S c u r).2)) (b := 0) (by omega) (by omega) c_184
                              refine lv_iconst (v := 0) hx hb dX3_rack_187 (by decide) ?_
                              refine lv_istore (lv' := [(8, .int 0), (4, .long ((cq_al S c).toInt64)), (7, .int (nI (cq_rr S c u r).2)), (6, .ref q126), (0, .ref (ad 0)), (1, .int (nI c)), (3, .int (nI u)), (2, .int (-1))]) hx hb dX3_rack_188 hl (by decide) rfl (fun ls hl => ?_)
                              have L_190 : ∀ (fu : Nat) (k : Nat), 5 - k < fu → (k ≤ 5) → ∀ (H : Heap) (locs : List Loc), cy_W D A s.heap (cy_Mw kI kZ ad (va_up S 0 (upd (S 0) 0 0)) ((q126, .inl (kI, 5, .inl ((cq_rd S c (cq_rr S c u r) k).1))) :: tl)) H locs → ∀ (ls : Array Slot), lv_has ls 10 [(4, .long ((cq_al S c).toInt64)), (7, .int (nI (cq_rd S c (cq_rr S c u r) k).2)), (8, .int (nI k)), (6, .ref q126), (0, .ref (ad 0)), (1, .int (nI c)), (3, .int (nI u)), (2, .int (-1))] → W p l e rm_X3_rack s m args below meth co H locs 1 5 Q (F0 m 190 ls []) := by
                                intro fu
                                induction fu with
                                | zero => intro k hn; exact absurd hn (Nat.not_lt_zero _)
                                | succ fu ih_190 =>
                                  intro k hn_190 hk H locs hW ls hl
                                  have hIb2 := cq_I_le (cq_rd_I hH hI hk)
                                  refine lv_iload hx hb dX3_rack_190 (lv_at hl 2 rfl) ?_
                                  refine lv_iconst (v := 5) hx hb dX3_rack_192 (by decide) ?_
                                  refine lv_icmp_ge (tgt := 241) hx hb dX3_rack_193 (by decide) (fun c_193 => ?_) (fun c_193 => ?_)
                                  · skip
                                    have q_193 := cy_le (a := 5) (b := k) (by omega) (by omega) c_193
                                    obtain rfl : k = 5 := by omega
                                    refine lv_goto (tgt := 182) hx hb dX3_rack_241 (by decide) ?_
                                    have qlt : (cq_rr S c u (r + 1)).2 < (cq_rr S c u r).2 := cq_rd_lt hH huW hI (by omega)
                                    exact ih_182 (r + 1) (by omega) (by omega) _ _ hW _ (lv_sub hl [0, 1, 3, 4, 5, 6, 7] rfl)
                                  · skip
                                    have q_193 := cy_nle (a := 5) (b := k) (by omega) (by omega) c_193
                                    refine lv_iload hx hb dX3_rack_196 (lv_at hl 1 rfl) ?_
                                    refine lv_if_le (tgt := 241) hx hb dX3_rack_198 (by decide) (fun c_198 => ?_) (fun c_198 => ?_)
                                    · skip
                                      have q_198 := cy_le (a := ((cq_rd S c (cq_rr S c u r) k).2)) (b := 0) (by omega) (by omega) c_198
                                      have e5 : (cq_rd S c (cq_rr S c u r) k) = (cq_rr S c u (r + 1)) := by have q := cq_rd_stop (Nat.le_zero.mp q_198) (5 - k); rw [show k + (5 - k) = 5 by omega] at q; exact q.symm
                                      rw [e5] at hW hl
                                      refine lv_goto (tgt := 182) hx hb dX3_rack_241 (by decide) ?_
                                      have qlt : (cq_rr S c u (r + 1)).2 < (cq_rr S c u r).2 := cq_rd_lt hH huW hI (by omega)
                                      exact ih_182 (r + 1) (by omega) (by omega) _ _ hW _ (lv_sub hl [0, 1, 3, 4, 5, 6, 7] rfl)
                                    · skip
                                      have q_198 := cy_nle (a := ((cq_rd S c (cq_rr S c u r) k).2)) (b := 0) (by omega) (by omega) c_198
                                      have z198 : ¬ (cq_rd S c (cq_rr S c u r) k).2 = 0 := by omega
                                      refine lv_aload_n hx hb dX3_rack_201 rfl (lv_at hl 4 rfl) ?_
                                      refine cy_get hC (0) (by decide) hi3 hW (cy_rd (cy_us) rfl) rfl 20 (by decide) (hts (.fieldLink RX3 54 "CaskYardModel" "holds" "[I") (by decide +kernel)) (fun _ h9 => h9) (v := .ref (ad 14)) rfl dX3_rack_202 ?_
                                      refine lv_iconst (v := 5) hx hb dX3_rack_205 (by decide) ?_
                                      refine lv_iload_n hx hb dX3_rack_206 rfl (lv_at hl 5 rfl) ?_
                                      refine lv_imul hx hb dX3_rack_207 ?_
                                      refine cy_top (pk_mul 5 c) ?_
                                      refine lv_iload hx hb dX3_rack_208 (lv_at hl 2 rfl) ?_
                                      refine lv_iadd hx hb dX3_rack_210 ?_
                                      refine cy_top (nI_add (5 * c) k) ?_
                                      refine cy_iald hC (14) (by decide) hW 0 (i := ((5 * c) + k)) (cy_rd (cy_un (by omega)) rfl) rfl (by omega) (by decide) dX3_rack_211 ?_
                                      refine lv_aload hx hb dX3_rack_212 (lv_at hl 3 rfl) ?_
                                      refine lv_iload hx hb dX3_rack_214 (lv_at hl 2 rfl) ?_
                                      refine cy_tiald hC 0 q126 hW 0 (i := k) rfl rfl (by omega) (by decide) dX3_rack_216 ?_
                                      refine lv_icmp_ne (tgt := 223) hx hb dX3_rack_217 (by decide) (fun c_217 => ?_) (fun c_217 => ?_)
                                      · skip
                                        refine lv_aload hx hb dX3_rack_223 (lv_at hl 3 rfl) ?_
                                        refine lv_iload hx hb dX3_rack_225 (lv_at hl 2 rfl) ?_
                                        refine lv_dup2_11 hx hb dX3_rack_227 rfl rfl ?_
                                        refine cy_tiald hC 0 q126 hW 0 (i := k) rfl rfl (by omega) (by decide) dX3_rack_228 ?_
                                        refine lv_iconst (v := 1) hx hb dX3_rack_229 (by decide) ?_
                                        refine lv_iadd hx hb dX3_rack_230 ?_
                                        refine cy_tiast (tl' := ((q126, .inl (kI, 5, .inl (upd ((cq_rd S c (cq_rr S c u r) k).1) k ((((cq_rd S c (cq_rr S c u r) k).1) k) + 1)))) :: tl)) hC 0 q126 hW 0 (i := k) rfl rfl (by omega) (by decide) rfl dX3_rack_231 (fun H locs hW => ?_)
                                        refine lv_iinc (v := nI ((cq_rd S c (cq_rr S c u r) k).2 - 1)) (lv' := [(7, .int (nI ((cq_rd S c (cq_rr S c u r) k).2 - 1))), (4, .long ((cq_al S c).toInt64)), (8, .int (nI k)), (6, .ref q126), (0, .ref (ad 0)), (1, .int (nI c)), (3, .int (nI u)), (2, .int (-1))]) hx hb dX3_rack_232 hl (k := 1) rfl (cy_dec (by omega)) (by decide) rfl (fun ls hl => ?_)
                                        refine lv_iinc (v := nI (k + 1)) (lv' := [(8, .int (nI (k + 1))), (7, .int (nI ((cq_rd S c (cq_rr S c u r) k).2 - 1))), (4, .long ((cq_al S c).toInt64)), (6, .ref q126), (0, .ref (ad 0)), (1, .int (nI c)), (3, .int (nI u)), (2, .int (-1))]) hx hb dX3_rack_235 hl (k := 2) rfl (nI_1 k) (by decide) rfl (fun ls hl => ?_)
                                        refine lv_goto (tgt := 190) hx hb dX3_rack_238 (by decide) ?_
                                        rw [show nI ((cq_rd S c (cq_rr S c u r) k).2 - 1) = nI (cq_rd S c (cq_rr S c u r) (k + 1)).2 from by simp only [cq_rd, z198, c_217, clc, clu, ↓reduceIte, not_true_eq_false, not_false_eq_true]] at hl
                                        have hW := cy_castF (show (upd ((cq_rd S c (cq_rr S c u r) k).1) k ((((cq_rd S c (cq_rr S c u r) k).1) k) + 1)) = ((cq_rd S c (cq_rr S c u r) (k + 1)).1) from by simp only [cq_rd, z198, c_217, clc, clu, ↓reduceIte, not_true_eq_false, not_false_eq_true]) hW
                                        exact ih_190 (k + 1) (by omega) (by omega) _ _ hW _ (lv_sub hl [2, 1, 0, 3, 4, 5, 6, 7] rfl)
                                      · skip
                                        refine lv_goto (tgt := 235) hx hb dX3_rack_220 (by decide) ?_
                                        refine lv_iinc (v := nI (k + 1)) (lv' := [(8, .int (nI (k + 1))), (4, .long ((cq_al S c).toInt64)), (7, .int (nI (cq_rd S c (cq_rr S c u r) k).2)), (6, .ref q126), (0, .ref (ad 0)), (1, .int (nI c)), (3, .int (nI u)), (2, .int (-1))]) hx hb dX3_rack_235 hl (k := 2) rfl (nI_1 k) (by decide) rfl (fun ls hl => ?_)
                                        refine lv_goto (tgt := 190) hx hb dX3_rack_238 (by decide) ?_
                                        rw [show nI (cq_rd S c (cq_rr S c u r) k).2 = nI (cq_rd S c (cq_rr S c u r) (k + 1)).2 from by simp only [cq_rd, z198, c_217, clc, clu, ↓reduceIte, not_true_eq_false, not_false_eq_true]] at hl
                                        have hW := cy_castF (show ((cq_rd S c (cq_rr S c u r) k).1) = ((cq_rd S c (cq_rr S c u r) (k + 1)).1) from by simp only [cq_rd, z198, c_217, clc, clu, ↓reduceIte, not_true_eq_false, not_false_eq_true]) hW
                                        exact ih_190 (k + 1) (by omega) (by omega) _ _ hW _ (lv_sub hl [1, 2, 0, 3, 4, 5, 6, 7] rfl)
                              have hW := cy_castF (show ((cq_rr S c u r).1) = ((cq_rd S c (cq_rr S c u r) 0).1) from rfl) hW
                              exact L_190 ((5 - 0) + 1) 0 (Nat.lt_succ_self _) (by omega) _ _ hW _ (lv_sub hl [1, 2, 0, 3, 4, 5, 6, 7] rfl)
                        rw [show (cq_rf S c (nI u) 5).2 = nI (cq_rr S c u 0).2 from hS0.1] at hl
                        have hW := cy_castF (show ((cq_rf S c (nI u) 5).1) = ((cq_rr S c u 0).1) from rfl) hW
                        exact L_182 (((cq_rr S c u 0).2) + 1) 0 (Nat.lt_succ_self _) (Nat.le_of_eq (Nat.zero_add _)) _ _ hW _ (lv_sub hl [0, 1, 3, 4, 5, 6, 7] rfl)
                      · skip
                        have q_139 := cy_nle (a := 5) (b := k) (by omega) (by omega) c_139
                        refine lv_aload hx hb dX3_rack_142 (lv_at hl 3 rfl) ?_
                        refine lv_iload hx hb dX3_rack_144 (lv_at hl 2 rfl) ?_
                        refine lv_aload_n hx hb dX3_rack_146 rfl (lv_at hl 4 rfl) ?_
                        refine cy_get hC (0) (by decide) hi3 hW (cy_rd (cy_us) rfl) rfl 20 (by decide) (hts (.fieldLink RX3 54 "CaskYardModel" "holds" "[I") (by decide +kernel)) (fun _ h9 => h9) (v := .ref (ad 14)) rfl dX3_rack_147 ?_
                        refine lv_iconst (v := 5) hx hb dX3_rack_150 (by decide) ?_
                        refine lv_iload_n hx hb dX3_rack_151 rfl (lv_at hl 5 rfl) ?_
                        refine lv_imul hx hb dX3_rack_152 ?_
                        refine cy_top (pk_mul 5 c) ?_
                        refine lv_iload hx hb dX3_rack_153 (lv_at hl 2 rfl) ?_
                        refine lv_iadd hx hb dX3_rack_155 ?_
                        refine cy_top (nI_add (5 * c) k) ?_
                        refine cy_iald hC (14) (by decide) hW 0 (i := ((5 * c) + k)) (cy_rd (cy_un (by omega)) rfl) rfl (by omega) (by decide) dX3_rack_156 ?_
                        refine lv_i2l hx hb dX3_rack_157 rfl ?_
                        refine lv_iload_n hx hb dX3_rack_158 rfl (lv_at hl 6 rfl) ?_
                        refine lv_i2l hx hb dX3_rack_159 rfl ?_
                        refine lv_lmul hx hb dX3_rack_160 ?_
                        refine lv_lload hx hb dX3_rack_161 (lv_at hl 0 rfl) ?_
                        refine lv_ldiv hx hb dX3_rack_163 (cy_l0 hal) ?_
                        refine lv_l2i hx hb dX3_rack_164 rfl ?_
                        refine cy_tiast (tl' := ((q126, .inl (kI, 5, .inl (upd ((cq_rf S c (nI u) k).1) k (((((S 14 ((5 * c) + k)).toInt64) * ((nI u).toInt64)) / ((cq_al S c).toInt64)).toInt32)))) :: tl)) hC 0 q126 hW 0 (i := k) rfl rfl (by omega) (by decide) rfl dX3_rack_165 (fun H locs hW => ?_)
                        refine lv_iload hx hb dX3_rack_166 (lv_at hl 1 rfl) ?_
                        refine lv_aload hx hb dX3_rack_168 (lv_at hl 3 rfl) ?_
                        refine lv_iload hx hb dX3_rack_170 (lv_at hl 2 rfl) ?_
                        refine cy_tiald hC 0 q126 hW 0 (i := k) rfl rfl (by omega) (by decide) dX3_rack_172 ?_
                        refine cy_top (y := (((((S 14 ((5 * c) + k)).toInt64) * ((nI u).toInt64)) / ((cq_al S c).toInt64)).toInt32)) pk_us ?_
                        refine lv_isub hx hb dX3_rack_173 ?_
                        refine lv_istore (lv' := [(7, .int (((cq_rf S c (nI u) k).2) - (((((S 14 ((5 * c) + k)).toInt64) * ((nI u).toInt64)) / ((cq_al S c).toInt64)).toInt32))), (4, .long ((cq_al S c).toInt64)), (8, .int (nI k)), (6, .ref q126), (0, .ref (ad 0)), (1, .int (nI c)), (3, .int (nI u)), (2, .int (-1))]) hx hb dX3_rack_174 hl (by decide) rfl (fun ls hl => ?_)
                        refine lv_iinc (v := nI (k + 1)) (lv' := [(8, .int (nI (k + 1))), (7, .int (((cq_rf S c (nI u) k).2) - (((((S 14 ((5 * c) + k)).toInt64) * ((nI u).toInt64)) / ((cq_al S c).toInt64)).toInt32))), (4, .long ((cq_al S c).toInt64)), (6, .ref q126), (0, .ref (ad 0)), (1, .int (nI c)), (3, .int (nI u)), (2, .int (-1))]) hx hb dX3_rack_176 hl (k := 2) rfl (nI_1 k) (by decide) rfl (fun ls hl => ?_)
                        refine lv_goto (tgt := 136) hx hb dX3_rack_179 (by decide) ?_
                        exact ih_136 (k + 1) (by omega) (by omega) _ _ hW _ (lv_sub hl [2, 1, 0, 3, 4, 5, 6, 7] rfl)
                  exact L_136 ((5 - 0) + 1) 0 (Nat.lt_succ_self _) (by omega) _ _ hW _ (lv_sub hl [3, 1, 0, 2, 4, 5, 7, 6] rfl)
                · exact absurd c_87 (by decide)
            · exact absurd c_64 (by decide)
        · skip
          refine lv_aload_n hx hb dX3_rack_47 rfl (lv_at hl 0 rfl) ?_
          refine lv_iconst (v := 2) hx hb dX3_rack_48 (by decide) ?_
          refine cy_callV (rm := rm_X3_no) (As := [.int 2]) (rest := []) (q0 := 0) (ci := 3) hC.1 hC.2.1 hC.2.2 hW (c_X3_no (x := 2)) (cwV 1 hts gX3_rack_X3_no rfl rfl rfl (by decide +kernel) ⟨Nat.le_of_ble_eq_true rfl, Nat.le_of_ble_eq_true rfl⟩) (cy_w_at (by decide) (cy_rd (cy_us) rfl)) rfl rfl hl.1 rfl (Nat.le_of_ble_eq_true rfl) dX3_rack_49 ⟨Nat.le_of_ble_eq_true rfl, Nat.le_of_ble_eq_true rfl⟩ (k' := 0) (n' := 0) rfl rfl (fun H locs hW => ?_)
          rw [show va_up (va_up S 0 (upd (S 0) 0 0)) 0 (upd ((va_up S 0 (upd (S 0) 0 0)) 0) 0 2) = (va_up S 0 (upd (upd (S 0) 0 0) 0 2)) from by rw [cy_us, cy_uu]] at hW
          refine cy_topv (congrArg Value.int (show 0 = (cq_Rk S (nI c) (-1) z nc).2 from by first | (simp only [cq_Rk, cq_th, cq_rs, cq_nR1, cq_nR2, cq_ro, c_10, c_34, c_44, clc, eq_self, ↓reduceIte, not_true_eq_false, not_false_eq_true]; done) | (simp only [cq_Rk, cq_th, cq_rs, cq_nR1, cq_nR2, cq_ro, c_10, c_34, c_44, clc, eq_self, ↓reduceIte, not_true_eq_false, not_false_eq_true]; rfl))) ?_
          have hW := cy_castS (show (va_up S 0 (upd (upd (S 0) 0 0) 0 2)) = (cq_Rk S (nI c) (-1) z nc).1 from by first | (simp only [cq_Rk, cq_th, cq_rs, cq_nR1, cq_nR2, cq_ro, c_10, c_34, c_44, clc, eq_self, ↓reduceIte, not_true_eq_false, not_false_eq_true]; done) | (simp only [cq_Rk, cq_th, cq_rs, cq_nR1, cq_nR2, cq_ro, c_10, c_34, c_44, clc, eq_self, ↓reduceIte, not_true_eq_false, not_false_eq_true]; rfl)) hW
          exact hE  _ _ _ _ _ _ (Nat.le_of_ble_eq_true rfl) (Nat.le_of_ble_eq_true rfl) hW dX3_rack_52
    · skip
      refine lv_aload_n hx hb dX3_rack_18 rfl (lv_at hl 0 rfl) ?_
      refine lv_iload_n hx hb dX3_rack_19 rfl (lv_at hl 2 rfl) ?_
      refine cy_callV (rm := rm_X3_isCask) (As := [.int y]) (rest := []) (q0 := 0) (ci := 3) hC.1 hC.2.1 hC.2.2 hW (c_X3_isCask (x := y) (nc := nc) hnc (by omega)) (cwV 1 hts gX3_rack_X3_isCask rfl rfl rfl (by decide +kernel) ⟨Nat.le_of_ble_eq_true rfl, Nat.le_of_ble_eq_true rfl⟩) (cy_w_at (by decide) (cy_rd (cy_us) rfl)) rfl rfl hl.1 rfl (Nat.le_of_ble_eq_true rfl) dX3_rack_20 ⟨Nat.le_of_ble_eq_true rfl, Nat.le_of_ble_eq_true rfl⟩ (k' := 0) (n' := 0) rfl rfl (fun H locs hW => ?_)
      refine lv_if_ne (tgt := 32) hx hb dX3_rack_23 (by decide) (fun c_23 => ?_) (fun c_23 => ?_)
      · skip
        obtain ⟨d, hd, rfl⟩ := cq_in_t (by omega) c_23
        have cld : (nI d).toNatClampNeg = d := nI_clamp (by omega)
        have hl : lv_has ls 10 [(0, .ref (ad 0)), (1, .int (nI c)), (2, .int (nI d)), (3, .int z)] := hl
        refine lv_iload_n hx hb dX3_rack_32 rfl (lv_at hl 1 rfl) ?_
        refine lv_iload_n hx hb dX3_rack_33 rfl (lv_at hl 2 rfl) ?_
        refine lv_icmp_eq (tgt := 47) hx hb dX3_rack_34 (by decide) (fun c_34 => ?_) (fun c_34 => ?_)
        · skip
          have q_34 := cy_eq (a := c) (b := d) (by omega) (by omega) c_34
          refine lv_aload_n hx hb dX3_rack_47 rfl (lv_at hl 0 rfl) ?_
          refine lv_iconst (v := 2) hx hb dX3_rack_48 (by decide) ?_
          refine cy_callV (rm := rm_X3_no) (As := [.int 2]) (rest := []) (q0 := 0) (ci := 3) hC.1 hC.2.1 hC.2.2 hW (c_X3_no (x := 2)) (cwV 1 hts gX3_rack_X3_no rfl rfl rfl (by decide +kernel) ⟨Nat.le_of_ble_eq_true rfl, Nat.le_of_ble_eq_true rfl⟩) (cy_w_at (by decide) (cy_rd (cy_us) rfl)) rfl rfl hl.1 rfl (Nat.le_of_ble_eq_true rfl) dX3_rack_49 ⟨Nat.le_of_ble_eq_true rfl, Nat.le_of_ble_eq_true rfl⟩ (k' := 0) (n' := 0) rfl rfl (fun H locs hW => ?_)
          rw [show va_up (va_up S 0 (upd (S 0) 0 0)) 0 (upd ((va_up S 0 (upd (S 0) 0 0)) 0) 0 2) = (va_up S 0 (upd (upd (S 0) 0 0) 0 2)) from by rw [cy_us, cy_uu]] at hW
          refine cy_topv (congrArg Value.int (show 0 = (cq_Rk S (nI c) (nI d) z nc).2 from by first | (simp only [cq_Rk, cq_th, cq_rs, cq_nR1, cq_nR2, cq_ro, c_10, c_15, c_23, c_34, clc, cld, eq_self, ↓reduceIte, not_true_eq_false, not_false_eq_true]; done) | (simp only [cq_Rk, cq_th, cq_rs, cq_nR1, cq_nR2, cq_ro, c_10, c_15, c_23, c_34, clc, cld, eq_self, ↓reduceIte, not_true_eq_false, not_false_eq_true]; rfl))) ?_
          have hW := cy_castS (show (va_up S 0 (upd (upd (S 0) 0 0) 0 2)) = (cq_Rk S (nI c) (nI d) z nc).1 from by first | (simp only [cq_Rk, cq_th, cq_rs, cq_nR1, cq_nR2, cq_ro, c_10, c_15, c_23, c_34, clc, cld, eq_self, ↓reduceIte, not_true_eq_false, not_false_eq_true]; done) | (simp only [cq_Rk, cq_th, cq_rs, cq_nR1, cq_nR2, cq_ro, c_10, c_15, c_23, c_34, clc, cld, eq_self, ↓reduceIte, not_true_eq_false, not_false_eq_true]; rfl)) hW
          exact hE  _ _ _ _ _ _ (Nat.le_of_ble_eq_true rfl) (Nat.le_of_ble_eq_true rfl) hW dX3_rack_52
        · skip
          have q_34 := cy_ne (a := c) (b := d) (by omega) (by omega) c_34
          refine lv_iload_n hx hb dX3_rack_37 rfl (lv_at hl 3 rfl) ?_
          refine lv_iconst (v := 1) hx hb dX3_rack_38 (by decide) ?_
          refine lv_ldc (v := 60000) hx hb hown (hts (.constant RX3 89 60000) (by decide +kernel)) dX3_rack_39 ?_
          refine cy_callS (rm := rm_X3_isIn) (As := [.int z, .int 1, .int 60000]) (rest := []) hC.1 hC.2.1 hC.2.2 hW (c_X3_isIn (x := z) (y := 1) (z := 60000)) (va_cwS 3 hts gX3_rack_X3_isIn rfl rfl rfl (by decide +kernel) ⟨Nat.le_of_ble_eq_true rfl, Nat.le_of_ble_eq_true rfl⟩) rfl hl.1 rfl (Nat.le_of_ble_eq_true rfl) dX3_rack_41 ⟨Nat.le_of_ble_eq_true rfl, Nat.le_of_ble_eq_true rfl⟩ (k' := 0) (n' := 0) rfl rfl (fun H locs hW => ?_)
          refine lv_if_ne (tgt := 53) hx hb dX3_rack_44 (by decide) (fun c_44 => ?_) (fun c_44 => ?_)
          · skip
            obtain ⟨u, hu, rfl⟩ := cq_in_l1 (n := 60000) (by decide) c_44
            have clu : (nI u).toNatClampNeg = u := nI_clamp (by omega)
            have hl : lv_has ls 10 [(0, .ref (ad 0)), (1, .int (nI c)), (2, .int (nI d)), (3, .int (nI u))] := hl
            refine lv_aload_n hx hb dX3_rack_53 rfl (lv_at hl 0 rfl) ?_
            refine cy_get hC (0) (by decide) hi3 hW (cy_rd (cy_us) rfl) rfl 14 (by decide) (hts (.fieldLink RX3 35 "CaskYardModel" "isSound" "[Z") (by decide +kernel)) (fun _ h9 => h9) (v := .ref (ad 8)) rfl dX3_rack_54 ?_
            refine lv_iload_n hx hb dX3_rack_57 rfl (lv_at hl 1 rfl) ?_
            refine cy_zald hC (8) (by decide) hW 2 (i := c) (cy_rd (cy_un (by omega)) rfl) rfl (by omega) (by decide) dX3_rack_58 ?_
            refine lv_if_eq (tgt := 111) hx hb dX3_rack_59 (by decide) (fun c_59 => ?_) (fun c_59 => ?_)
            · skip
              refine lv_aload_n hx hb dX3_rack_111 rfl (lv_at hl 0 rfl) ?_
              refine lv_iconst (v := 3) hx hb dX3_rack_112 (by decide) ?_
              refine cy_callV (rm := rm_X3_no) (As := [.int 3]) (rest := []) (q0 := 0) (ci := 3) hC.1 hC.2.1 hC.2.2 hW (c_X3_no (x := 3)) (cwV 1 hts gX3_rack_X3_no rfl rfl rfl (by decide +kernel) ⟨Nat.le_of_ble_eq_true rfl, Nat.le_of_ble_eq_true rfl⟩) (cy_w_at (by decide) (cy_rd (cy_us) rfl)) rfl rfl hl.1 rfl (Nat.le_of_ble_eq_true rfl) dX3_rack_113 ⟨Nat.le_of_ble_eq_true rfl, Nat.le_of_ble_eq_true rfl⟩ (k' := 0) (n' := 0) rfl rfl (fun H locs hW => ?_)
              rw [show va_up (va_up S 0 (upd (S 0) 0 0)) 0 (upd ((va_up S 0 (upd (S 0) 0 0)) 0) 0 3) = (va_up S 0 (upd (upd (S 0) 0 0) 0 3)) from by rw [cy_us, cy_uu]] at hW
              refine cy_topv (congrArg Value.int (show 0 = (cq_Rk S (nI c) (nI d) (nI u) nc).2 from by first | (simp only [cq_Rk, cq_th, cq_rs, cq_nR1, cq_nR2, cq_ro, c_10, c_15, c_23, c_34, c_44, c_59, clc, cld, clu, eq_self, ↓reduceIte, not_true_eq_false, not_false_eq_true]; done) | (simp only [cq_Rk, cq_th, cq_rs, cq_nR1, cq_nR2, cq_ro, c_10, c_15, c_23, c_34, c_44, c_59, clc, cld, clu, eq_self, ↓reduceIte, not_true_eq_false, not_false_eq_true]; rfl))) ?_
              have hW := cy_castS (show (va_up S 0 (upd (upd (S 0) 0 0) 0 3)) = (cq_Rk S (nI c) (nI d) (nI u) nc).1 from by first | (simp only [cq_Rk, cq_th, cq_rs, cq_nR1, cq_nR2, cq_ro, c_10, c_15, c_23, c_34, c_44, c_59, clc, cld, clu, eq_self, ↓reduceIte, not_true_eq_false, not_false_eq_true]; done) | (simp only [cq_Rk, cq_th, cq_rs, cq_nR1, cq_nR2, cq_ro, c_10, c_15, c_23, c_34, c_44, c_59, clc, cld, clu, eq_self, ↓reduceIte, not_true_eq_false, not_false_eq_true]; rfl)) hW
              exact hE  _ _ _ _ _ _ (Nat.le_of_ble_eq_true rfl) (Nat.le_of_ble_eq_true rfl) hW dX3_rack_116
            · skip
              refine lv_iload_n hx hb dX3_rack_62 rfl (lv_at hl 2 rfl) ?_
              refine lv_iconst (v := (-1)) hx hb dX3_rack_63 (by decide) ?_
              refine lv_icmp_eq (tgt := 76) hx hb dX3_rack_64 (by decide) (fun c_64 => ?_) (fun c_64 => ?_)
              · skip
                exact absurd c_64 c_15
              · skip
                refine lv_aload_n hx hb dX3_rack_67 rfl (lv_at hl 0 rfl) ?_
                refine cy_get hC (0) (by decide) hi3 hW (cy_rd (cy_us) rfl) rfl 14 (by decide) (hts (.fieldLink RX3 35 "CaskYardModel" "isSound" "[Z") (by decide +kernel)) (fun _ h9 => h9) (v := .ref (ad 8)) rfl dX3_rack_68 ?_
                refine lv_iload_n hx hb dX3_rack_71 rfl (lv_at hl 2 rfl) ?_
                refine cy_zald hC (8) (by decide) hW 2 (i := d) (cy_rd (cy_un (by omega)) rfl) rfl (by omega) (by decide) dX3_rack_72 ?_
                refine lv_if_eq (tgt := 111) hx hb dX3_rack_73 (by decide) (fun c_73 => ?_) (fun c_73 => ?_)
                · skip
                  refine lv_aload_n hx hb dX3_rack_111 rfl (lv_at hl 0 rfl) ?_
                  refine lv_iconst (v := 3) hx hb dX3_rack_112 (by decide) ?_
                  refine cy_callV (rm := rm_X3_no) (As := [.int 3]) (rest := []) (q0 := 0) (ci := 3) hC.1 hC.2.1 hC.2.2 hW (c_X3_no (x := 3)) (cwV 1 hts gX3_rack_X3_no rfl rfl rfl (by decide +kernel) ⟨Nat.le_of_ble_eq_true rfl, Nat.le_of_ble_eq_true rfl⟩) (cy_w_at (by decide) (cy_rd (cy_us) rfl)) rfl rfl hl.1 rfl (Nat.le_of_ble_eq_true rfl) dX3_rack_113 ⟨Nat.le_of_ble_eq_true rfl, Nat.le_of_ble_eq_true rfl⟩ (k' := 0) (n' := 0) rfl rfl (fun H locs hW => ?_)
                  rw [show va_up (va_up S 0 (upd (S 0) 0 0)) 0 (upd ((va_up S 0 (upd (S 0) 0 0)) 0) 0 3) = (va_up S 0 (upd (upd (S 0) 0 0) 0 3)) from by rw [cy_us, cy_uu]] at hW
                  refine cy_topv (congrArg Value.int (show 0 = (cq_Rk S (nI c) (nI d) (nI u) nc).2 from by first | (simp only [cq_Rk, cq_th, cq_rs, cq_nR1, cq_nR2, cq_ro, c_10, c_15, c_23, c_34, c_44, c_59, c_64, c_73, clc, cld, clu, eq_self, ↓reduceIte, not_true_eq_false, not_false_eq_true]; done) | (simp only [cq_Rk, cq_th, cq_rs, cq_nR1, cq_nR2, cq_ro, c_10, c_15, c_23, c_34, c_44, c_59, c_64, c_73, clc, cld, clu, eq_self, ↓reduceIte, not_true_eq_false, not_false_eq_true]; rfl))) ?_
                  have hW := cy_castS (show (va_up S 0 (upd (upd (S 0) 0 0) 0 3)) = (cq_Rk S (nI c) (nI d) (nI u) nc).1 from by first | (simp only [cq_Rk, cq_th, cq_rs, cq_nR1, cq_nR2, cq_ro, c_10, c_15, c_23, c_34, c_44, c_59, c_64, c_73, clc, cld, clu, eq_self, ↓reduceIte, not_true_eq_false, not_false_eq_true]; done) | (simp only [cq_Rk, cq_th, cq_rs, cq_nR1, cq_nR2, cq_ro, c_10, c_15, c_23, c_34, c_44, c_59, c_64, c_73, clc, cld, clu, eq_self, ↓reduceIte, not_true_eq_false, not_false_eq_true]; rfl)) hW
                  exact hE  _ _ _ _ _ _ (Nat.le_of_ble_eq_true rfl) (Nat.le_of_ble_eq_true rfl) hW dX3_rack_116
                · skip
                  refine lv_aload_n hx hb dX3_rack_76 rfl (lv_at hl 0 rfl) ?_
                  refine lv_iload_n hx hb dX3_rack_77 rfl (lv_at hl 1 rfl) ?_
                  refine cy_callV (rm := rm_X3_all) (As := [.int (nI c)]) (rest := []) (q0 := 0) (ci := 3) hC.1 hC.2.1 hC.2.2 hW (c_X3_all (c := c) (by omega)) (cwV 1 hts gX3_rack_X3_all rfl rfl rfl (by decide +kernel) ⟨Nat.le_of_ble_eq_true rfl, Nat.le_of_ble_eq_true rfl⟩) (cy_w_at (by decide) (cy_rd (cy_us) rfl)) rfl rfl hl.1 rfl (Nat.le_of_ble_eq_true rfl) dX3_rack_78 ⟨Nat.le_of_ble_eq_true rfl, Nat.le_of_ble_eq_true rfl⟩ (k' := 0) (n' := 0) rfl rfl (fun H locs hW => ?_)
                  refine cy_topv (show _ = Value.int (cq_al S c) from rfl) ?_
                  refine lv_iload_n hx hb dX3_rack_81 rfl (lv_at hl 3 rfl) ?_
                  refine lv_icmp_lt (tgt := 111) hx hb dX3_rack_82 (by decide) (fun c_82 => ?_) (fun c_82 => ?_)
                  · skip
                    refine lv_aload_n hx hb dX3_rack_111 rfl (lv_at hl 0 rfl) ?_
                    refine lv_iconst (v := 3) hx hb dX3_rack_112 (by decide) ?_
                    refine cy_callV (rm := rm_X3_no) (As := [.int 3]) (rest := []) (q0 := 0) (ci := 3) hC.1 hC.2.1 hC.2.2 hW (c_X3_no (x := 3)) (cwV 1 hts gX3_rack_X3_no rfl rfl rfl (by decide +kernel) ⟨Nat.le_of_ble_eq_true rfl, Nat.le_of_ble_eq_true rfl⟩) (cy_w_at (by decide) (cy_rd (cy_us) rfl)) rfl rfl hl.1 rfl (Nat.le_of_ble_eq_true rfl) dX3_rack_113 ⟨Nat.le_of_ble_eq_true rfl, Nat.le_of_ble_eq_true rfl⟩ (k' := 0) (n' := 0) rfl rfl (fun H locs hW => ?_)
                    rw [show va_up (va_up S 0 (upd (S 0) 0 0)) 0 (upd ((va_up S 0 (upd (S 0) 0 0)) 0) 0 3) = (va_up S 0 (upd (upd (S 0) 0 0) 0 3)) from by rw [cy_us, cy_uu]] at hW
                    refine cy_topv (congrArg Value.int (show 0 = (cq_Rk S (nI c) (nI d) (nI u) nc).2 from by first | (simp only [cq_Rk, cq_th, cq_rs, cq_nR1, cq_nR2, cq_ro, c_10, c_15, c_23, c_34, c_44, c_59, c_64, c_73, c_82, clc, cld, clu, eq_self, ↓reduceIte, not_true_eq_false, not_false_eq_true]; done) | (simp only [cq_Rk, cq_th, cq_rs, cq_nR1, cq_nR2, cq_ro, c_10, c_15, c_23, c_34, c_44, c_59, c_64, c_73, c_82, clc, cld, clu, eq_self, ↓reduceIte, not_true_eq_false, not_false_eq_true]; rfl))) ?_
                    have hW := cy_castS (show (va_up S 0 (upd (upd (S 0) 0 0) 0 3)) = (cq_Rk S (nI c) (nI d) (nI u) nc).1 from by first | (simp only [cq_Rk, cq_th, cq_rs, cq_nR1, cq_nR2, cq_ro, c_10, c_15, c_23, c_34, c_44, c_59, c_64, c_73, c_82, clc, cld, clu, eq_self, ↓reduceIte, not_true_eq_false, not_false_eq_true]; done) | (simp only [cq_Rk, cq_th, cq_rs, cq_nR1, cq_nR2, cq_ro, c_10, c_15, c_23, c_34, c_44, c_59, c_64, c_73, c_82, clc, cld, clu, eq_self, ↓reduceIte, not_true_eq_false, not_false_eq_true]; rfl)) hW
                    exact hE  _ _ _ _ _ _ (Nat.le_of_ble_eq_true rfl) (Nat.le_of_ble_eq_true rfl) hW dX3_rack_116
                  · skip
                    refine lv_iload_n hx hb dX3_rack_85 rfl (lv_at hl 2 rfl) ?_
                    refine lv_iconst (v := (-1)) hx hb dX3_rack_86 (by decide) ?_
                    refine lv_icmp_eq (tgt := 117) hx hb dX3_rack_87 (by decide) (fun c_87 => ?_) (fun c_87 => ?_)
                    · skip
                      exact absurd c_87 c_15
                    · skip
                      refine lv_aload_n hx hb dX3_rack_90 rfl (lv_at hl 0 rfl) ?_
                      refine lv_iload_n hx hb dX3_rack_91 rfl (lv_at hl 2 rfl) ?_
                      refine cy_callV (rm := rm_X3_all) (As := [.int (nI d)]) (rest := []) (q0 := 0) (ci := 3) hC.1 hC.2.1 hC.2.2 hW (c_X3_all (c := d) (by omega)) (cwV 1 hts gX3_rack_X3_all rfl rfl rfl (by decide +kernel) ⟨Nat.le_of_ble_eq_true rfl, Nat.le_of_ble_eq_true rfl⟩) (cy_w_at (by decide) (cy_rd (cy_us) rfl)) rfl rfl hl.1 rfl (Nat.le_of_ble_eq_true rfl) dX3_rack_92 ⟨Nat.le_of_ble_eq_true rfl, Nat.le_of_ble_eq_true rfl⟩ (k' := 0) (n' := 0) rfl rfl (fun H locs hW => ?_)
                      refine cy_topv (show _ = Value.int (cq_al S d) from rfl) ?_
                      refine lv_iload_n hx hb dX3_rack_95 rfl (lv_at hl 3 rfl) ?_
                      refine lv_iadd hx hb dX3_rack_96 ?_
                      refine lv_aload_n hx hb dX3_rack_97 rfl (lv_at hl 0 rfl) ?_
                      refine cy_get hC (0) (by decide) hi3 hW (cy_rd (cy_us) rfl) rfl 10 (by decide) (hts (.fieldLink RX3 26 "CaskYardModel" "room" "[I") (by decide +kernel)) (fun _ h9 => h9) (v := .ref (ad 5)) rfl dX3_rack_98 ?_
                      refine lv_aload_n hx hb dX3_rack_101 rfl (lv_at hl 0 rfl) ?_
                      refine cy_get hC (0) (by decide) hi3 hW (cy_rd (cy_us) rfl) rfl 13 (by decide) (hts (.fieldLink RX3 32 "CaskYardModel" "sort" "[I") (by decide +kernel)) (fun _ h9 => h9) (v := .ref (ad 7)) rfl dX3_rack_102 ?_
                      refine lv_iload_n hx hb dX3_rack_105 rfl (lv_at hl 2 rfl) ?_
                      refine cy_iald hC (7) (by decide) hW 0 (i := d) (cy_rd (cy_un (by omega)) rfl) rfl (by omega) (by decide) dX3_rack_106 ?_
                      refine cy_top (y := nI (cq_so S d)) ((hq.1 d (Nat.lt_of_lt_of_le hd h12)).2) ?_
                      refine cy_iald hC (5) (by decide) hW 0 (i := (cq_so S d)) (cy_rd (cy_un (by omega)) rfl) rfl (hq.1 d (Nat.lt_of_lt_of_le hd h12)).1 (by decide) dX3_rack_107 ?_
                      refine lv_icmp_le (tgt := 117) hx hb dX3_rack_108 (by decide) (fun c_108 => ?_) (fun c_108 => ?_)
                      · skip
                        have hH := hhd c (by omega)
                        have hal : ¬ cq_al S c = 0 := cy_al0 hu.1 hu.2 c_82
                        have huW := cq_al_le hH hu.2 c_82
                        have hS0 := cq_s0_I hH hu.1 hu.2 huW
                        refine lv_aload_n hx hb dX3_rack_117 rfl (lv_at hl 0 rfl) ?_
                        refine lv_iload_n hx hb dX3_rack_118 rfl (lv_at hl 1 rfl) ?_
                        refine cy_callV (rm := rm_X3_all) (As := [.int (nI c)]) (rest := []) (q0 := 0) (ci := 3) hC.1 hC.2.1 hC.2.2 hW (c_X3_all (c := c) (by omega)) (cwV 1 hts gX3_rack_X3_all rfl rfl rfl (by decide +kernel) ⟨Nat.le_of_ble_eq_true rfl, Nat.le_of_ble_eq_true rfl⟩) (cy_w_at (by decide) (cy_rd (cy_us) rfl)) rfl rfl hl.1 rfl (Nat.le_of_ble_eq_true rfl) dX3_rack_119 ⟨Nat.le_of_ble_eq_true rfl, Nat.le_of_ble_eq_true rfl⟩ (k' := 0) (n' := 0) rfl rfl (fun H locs hW => ?_)
                        refine cy_topv (show _ = Value.int (cq_al S c) from rfl) ?_
                        refine lv_i2l hx hb dX3_rack_122 rfl ?_
                        refine lv_lstore (lv' := [(4, .long ((cq_al S c).toInt64)), (0, .ref (ad 0)), (1, .int (nI c)), (2, .int (nI d)), (3, .int (nI u))]) hx hb dX3_rack_123 hl (by decide) rfl (fun ls hl => ?_)
                        refine lv_iconst (v := 5) hx hb dX3_rack_125 (by decide) ?_
                        refine cy_newI hC hW rfl (hts (.arrayClass .int) (by decide +kernel)) (N := 5) (by decide) (Nat.le_of_ble_eq_true rfl) (Nat.le_of_ble_eq_true rfl) (k' := 1) (n' := 5) rfl rfl dX3_rack_126 (fun q126 H hW => ?_)
                        refine lv_astore (lv' := [(6, .ref q126), (4, .long ((cq_al S c).toInt64)), (0, .ref (ad 0)), (1, .int (nI c)), (2, .int (nI d)), (3, .int (nI u))]) hx hb dX3_rack_128 hl (by decide) rfl (fun ls hl => ?_)
                        refine lv_iload_n hx hb dX3_rack_130 rfl (lv_at hl 5 rfl) ?_
                        refine lv_istore (lv' := [(7, .int (nI u)), (6, .ref q126), (4, .long ((cq_al S c).toInt64)), (0, .ref (ad 0)), (1, .int (nI c)), (2, .int (nI d)), (3, .int (nI u))]) hx hb dX3_rack_131 hl (by decide) rfl (fun ls hl => ?_)
                        refine lv_iconst (v := 0) hx hb dX3_rack_133 (by decide) ?_
                        refine lv_istore (lv' := [(8, .int 0), (7, .int (nI u)), (6, .ref q126), (4, .long ((cq_al S c).toInt64)), (0, .ref (ad 0)), (1, .int (nI c)), (2, .int (nI d)), (3, .int (nI u))]) hx hb dX3_rack_134 hl (by decide) rfl (fun ls hl => ?_)
                        have L_136 : ∀ (fu : Nat) (k : Nat), 5 - k < fu → (k ≤ 5) → ∀ (H : Heap) (locs : List Loc), cy_W D A s.heap (cy_Mw kI kZ ad (va_up S 0 (upd (S 0) 0 0)) ((q126, .inl (kI, 5, .inl ((cq_rf S c (nI u) k).1))) :: tl)) H locs → ∀ (ls : Array Slot), lv_has ls 10 [(4, .long ((cq_al S c).toInt64)), (7, .int ((cq_rf S c (nI u) k).2)), (8, .int (nI k)), (6, .ref q126), (0, .ref (ad 0)), (1, .int (nI c)), (3, .int (nI u)), (2, .int (nI d))] → W p l e rm_X3_rack s m args below meth co H locs 1 5 Q (F0 m 136 ls []) := by
                          intro fu
                          induction fu with
                          | zero => intro k hn; exact absurd hn (Nat.not_lt_zero _)
                          | succ fu ih_136 =>
                            intro k hn_136 hk H locs hW ls hl
                            refine lv_iload hx hb dX3_rack_136 (lv_at hl 2 rfl) ?_
                            refine lv_iconst (v := 5) hx hb dX3_rack_138 (by decide) ?_
                            refine lv_icmp_ge (tgt := 182) hx hb dX3_rack_139 (by decide) (fun c_139 => ?_) (fun c_139 => ?_)
                            · skip
                              have q_139 := cy_le (a := 5) (b := k) (by omega) (by omega) c_139
                              obtain rfl : k = 5 := by omega
                              have L_182 : ∀ (fu : Nat) (r : Nat), (cq_rr S c u r).2 < fu → (r + (cq_rr S c u r).2 ≤ cq_L0 S c u) → ∀ (H : Heap) (locs : List Loc), cy_W D A s.heap (cy_Mw kI kZ ad (va_up S 0 (upd (S 0) 0 0)) ((q126, .inl (kI, 5, .inl ((cq_rr S c u r).1))) :: tl)) H locs → ∀ (ls : Array Slot), lv_has ls 10 [(4, .long ((cq_al S c).toInt64)), (7, .int (nI (cq_rr S c u r).2)), (6, .ref q126), (0, .ref (ad 0)), (1, .int (nI c)), (3, .int (nI u)), (2, .int (nI d))] → W p l e rm_X3_rack s m args below meth co H locs 1 5 Q (F0 m 182 ls []) := by
                                intro fu
                                induction fu with
                                | zero => intro r hn; exact absurd hn (Nat.not_lt_zero _)
                                | succ fu ih_182 =>
                                  intro r hn_182 hr H locs hW ls hl
                                  have hI : cq_I S c u (cq_rr S c u r) := cq_rr_I hH hu.1 hu.2 huW
                                  have hIb := cq_I_le hI
                                  refine lv_iload hx hb dX3_rack_182 (lv_at hl 1 rfl) ?_
                                  refine lv_if_le (tgt := 244) hx hb dX3_rack_184 (by decide) (fun c_184 => ?_) (fun c_184 => ?_)
                                  · skip
                                    have q_184 := cy_le (a := ((cq_rr S c u r).2)) (b := 0) (by omega) (by omega) c_184
                                    have eF : cq_rr S c u r = cq_rF S c u := cq_rr_end hr q_184
                                    rw [eF] at hW hl
                                    refine lv_aload_n hx hb dX3_rack_244 rfl (lv_at hl 3 rfl) ?_
                                    refine cy_get hC (0) (by decide) hi3 hW (cy_rd (cy_us) rfl) rfl 21 (by decide) (hts (.fieldLink RX3 57 "CaskYardModel" "grains" "[I") (by decide +kernel)) (fun _ h9 => h9) (v := .ref (ad 15)) rfl dX3_rack_245 ?_
                                    refine lv_iload_n hx hb dX3_rack_248 rfl (lv_at hl 4 rfl) ?_
                                    refine cy_iald hC (15) (by decide) hW 0 (i := c) (cy_rd (cy_un (by omega)) rfl) rfl (by omega) (by decide) dX3_rack_249 ?_
                                    refine lv_i2l hx hb dX3_rack_250 rfl ?_
                                    refine lv_iload_n hx hb dX3_rack_251 rfl (lv_at hl 5 rfl) ?_
                                    refine lv_i2l hx hb dX3_rack_252 rfl ?_
                                    refine lv_lmul hx hb dX3_rack_253 ?_
                                    refine lv_lload hx hb dX3_rack_254 (lv_at hl 0 rfl) ?_
                                    refine lv_ldiv hx hb dX3_rack_256 (cy_l0 hal) ?_
                                    refine lv_l2i hx hb dX3_rack_257 rfl ?_
                                    refine lv_istore (lv' := [(8, .int (((((S 15 c).toInt64) * ((nI u).toInt64)) / ((cq_al S c).toInt64)).toInt32)), (4, .long ((cq_al S c).toInt64)), (7, .int (nI (cq_rF S c u).2)), (6, .ref q126), (0, .ref (ad 0)), (1, .int (nI c)), (3, .int (nI u)), (2, .int (nI d))]) hx hb dX3_rack_258 hl (by decide) rfl (fun ls hl => ?_)
                                    refine lv_iload_n hx hb dX3_rack_260 rfl (lv_at hl 7 rfl) ?_
                                    refine lv_iconst (v := (-1)) hx hb dX3_rack_261 (by decide) ?_
                                    refine lv_icmp_eq (tgt := 270) hx hb dX3_rack_262 (by decide) (fun c_262 => ?_) (fun c_262 => ?_)
                                    · skip
                                      exact absurd c_262 c_15
                                    · skip
                                      refine lv_aload_n hx hb dX3_rack_265 rfl (lv_at hl 4 rfl) ?_
                                      refine lv_iload_n hx hb dX3_rack_266 rfl (lv_at hl 7 rfl) ?_
                                      refine cy_callV (rm := rm_X3_beginFilling) (As := [.int (nI d)]) (rest := []) (q0 := 0) (ci := 3) hC.1 hC.2.1 hC.2.2 hW (c_X3_beginFilling (c := d) (by omega)) (cwV 1 hts gX3_rack_X3_beginFilling rfl rfl rfl (by decide +kernel) ⟨Nat.le_of_ble_eq_true rfl, Nat.le_of_ble_eq_true rfl⟩) (cy_w_at (by decide) (cy_rd (cy_us) rfl)) rfl rfl hl.1 rfl (Nat.le_of_ble_eq_true rfl) dX3_rack_267 ⟨Nat.le_of_ble_eq_true rfl, Nat.le_of_ble_eq_true rfl⟩ (k' := 1) (n' := 5) rfl rfl (fun H locs hW => ?_)
                                      refine lv_iconst (v := 0) hx hb dX3_rack_270 (by decide) ?_
                                      refine lv_istore (lv' := [(9, .int 0), (8, .int (((((S 15 c).toInt64) * ((nI u).toInt64)) / ((cq_al S c).toInt64)).toInt32)), (4, .long ((cq_al S c).toInt64)), (7, .int (nI (cq_rF S c u).2)), (6, .ref q126), (0, .ref (ad 0)), (1, .int (nI c)), (3, .int (nI u)), (2, .int (nI d))]) hx hb dX3_rack_271 hl (by decide) rfl (fun ls hl => ?_)
                                      have L_273 : ∀ (fu : Nat) (k : Nat), 5 - k < fu → (k ≤ 5) → ∀ (H : Heap) (locs : List Loc), cy_W D A s.heap (cy_Mw kI kZ ad (cq_mw (cq_bf (cq_rs S) d) c d (cq_rF S c u).1 k) ((q126, .inl (kI, 5, .inl ((cq_rF S c u).1))) :: tl)) H locs → ∀ (ls : Array Slot), lv_has ls 10 [(8, .int (cq_ro S c u)), (9, .int (nI k)), (6, .ref q126), (0, .ref (ad 0)), (1, .int (nI c)), (2, .int (nI d)), (3, .int (nI u))] → W p l e rm_X3_rack s m args below meth co H locs 1 5 Q (F0 m 273 ls []) := by
                                        intro fu
                                        induction fu with
                                        | zero => intro k hn; exact absurd hn (Nat.not_lt_zero _)
                                        | succ fu ih_273 =>
                                          intro k hn_273 hk H locs hW ls hl
                                          refine lv_iload hx hb dX3_rack_273 (lv_at hl 1 rfl) ?_
                                          refine lv_iconst (v := 5) hx hb dX3_rack_275 (by decide) ?_
                                          refine lv_icmp_ge (tgt := 328) hx hb dX3_rack_276 (by decide) (fun c_276 => ?_) (fun c_276 => ?_)
                                          · skip
                                            have q_276 := cy_le (a := 5) (b := k) (by omega) (by omega) c_276
                                            obtain rfl : k = 5 := by omega
                                            refine lv_aload_n hx hb dX3_rack_328 rfl (lv_at hl 3 rfl) ?_
                                            refine cy_get hC (0) (by decide) hi3 hW (rfl) rfl 21 (by decide) (hts (.fieldLink RX3 57 "CaskYardModel" "grains" "[I") (by decide +kernel)) (fun _ h9 => h9) (v := .ref (ad 15)) rfl dX3_rack_329 ?_
                                            refine lv_iload_n hx hb dX3_rack_332 rfl (lv_at hl 4 rfl) ?_
                                            refine lv_dup2_11 hx hb dX3_rack_333 rfl rfl ?_
                                            refine cy_iald hC (15) (by decide) hW 0 (i := c) (rfl) rfl (by omega) (by decide) dX3_rack_334 ?_
                                            refine lv_iload hx hb dX3_rack_335 (lv_at hl 0 rfl) ?_
                                            refine lv_isub hx hb dX3_rack_337 ?_
                                            refine cy_iast hC (15) (by decide) hW 0 (i := c) (rfl) rfl (by omega) (by decide) (upd ((cq_mw (cq_bf (cq_rs S) d) c d (cq_rF S c u).1 5) 15) c ((((cq_mw (cq_bf (cq_rs S) d) c d (cq_rF S c u).1 5) 15) c) - (cq_ro S c u))) rfl (S' := (va_up (cq_mw (cq_bf (cq_rs S) d) c d (cq_rF S c u).1 5) 15 (upd ((cq_mw (cq_bf (cq_rs S) d) c d (cq_rF S c u).1 5) 15) c ((((cq_mw (cq_bf (cq_rs S) d) c d (cq_rF S c u).1 5) 15) c) - (cq_ro S c u))))) rfl dX3_rack_338 (fun H locs hW => ?_)
                                            refine lv_iload_n hx hb dX3_rack_339 rfl (lv_at hl 5 rfl) ?_
                                            refine lv_iconst (v := (-1)) hx hb dX3_rack_340 (by decide) ?_
                                            refine lv_icmp_eq (tgt := 355) hx hb dX3_rack_341 (by decide) (fun c_341 => ?_) (fun c_341 => ?_)
                                            · skip
                                              exact absurd c_341 c_15
                                            · skip
                                              refine lv_aload_n hx hb dX3_rack_344 rfl (lv_at hl 3 rfl) ?_
                                              refine cy_get hC (0) (by decide) hi3 hW (cy_rd (cy_un (by omega)) rfl) rfl 21 (by decide) (hts (.fieldLink RX3 57 "CaskYardModel" "grains" "[I") (by decide +kernel)) (fun _ h9 => h9) (v := .ref (ad 15)) rfl dX3_rack_345 ?_
                                              refine lv_iload_n hx hb dX3_rack_348 rfl (lv_at hl 5 rfl) ?_
                                              refine lv_dup2_11 hx hb dX3_rack_349 rfl rfl ?_
                                              refine cy_iald hC (15) (by decide) hW 0 (i := d) (cy_rd (cy_us) rfl) rfl (by omega) (by decide) dX3_rack_350 ?_
                                              refine lv_iload hx hb dX3_rack_351 (lv_at hl 0 rfl) ?_
                                              refine lv_iadd hx hb dX3_rack_353 ?_
                                              refine cy_iast hC (15) (by decide) hW 0 (i := d) (cy_rd (cy_us) rfl) rfl (by omega) (by decide) (upd (upd ((cq_mw (cq_bf (cq_rs S) d) c d (cq_rF S c u).1 5) 15) c ((((cq_mw (cq_bf (cq_rs S) d) c d (cq_rF S c u).1 5) 15) c) - (cq_ro S c u))) d (((upd ((cq_mw (cq_bf (cq_rs S) d) c d (cq_rF S c u).1 5) 15) c ((((cq_mw (cq_bf (cq_rs S) d) c d (cq_rF S c u).1 5) 15) c) - (cq_ro S c u))) d) + (cq_ro S c u))) rfl (S' := (va_up (cq_mw (cq_bf (cq_rs S) d) c d (cq_rF S c u).1 5) 15 (upd (upd ((cq_mw (cq_bf (cq_rs S) d) c d (cq_rF S c u).1 5) 15) c ((((cq_mw (cq_bf (cq_rs S) d) c d (cq_rF S c u).1 5) 15) c) - (cq_ro S c u))) d (((upd ((cq_mw (cq_bf (cq_rs S) d) c d (cq_rF S c u).1 5) 15) c ((((cq_mw (cq_bf (cq_rs S) d) c d (cq_rF S c u).1 5) 15) c) - (cq_ro S c u))) d) + (cq_ro S c u))))) cy_uu dX3_rack_354 (fun H locs hW => ?_)
                                              refine lv_aload_n hx hb dX3_rack_355 rfl (lv_at hl 3 rfl) ?_
                                              refine lv_iload_n hx hb dX3_rack_356 rfl (lv_at hl 4 rfl) ?_
                                              refine cy_callV (rm := rm_X3_all) (As := [.int (nI c)]) (rest := []) (q0 := 0) (ci := 3) hC.1 hC.2.1 hC.2.2 hW (c_X3_all (c := c) (by omega)) (cwV 1 hts gX3_rack_X3_all rfl rfl rfl (by decide +kernel) ⟨Nat.le_of_ble_eq_true rfl, Nat.le_of_ble_eq_true rfl⟩) (cy_w_at (by decide) (cy_rd (cy_un (by omega)) rfl)) rfl rfl hl.1 rfl (Nat.le_of_ble_eq_true rfl) dX3_rack_357 ⟨Nat.le_of_ble_eq_true rfl, Nat.le_of_ble_eq_true rfl⟩ (k' := 1) (n' := 5) rfl rfl (fun H locs hW => ?_)
                                              refine cy_topv (show _ = Value.int (cq_al (cq_mw (cq_bf (cq_rs S) d) c d (cq_rF S c u).1 5) c) from rfl) ?_
                                              have hW := cy_drop hW
                                              refine cy_topv (congrArg Value.int (show cq_al (cq_mw (cq_bf (cq_rs S) d) c d (cq_rF S c u).1 5) c = (cq_Rk S (nI c) (nI d) (nI u) nc).2 from by first | (simp only [cq_Rk, cq_th, cq_rs, cq_nR1, cq_nR2, cq_ro, c_10, c_15, c_23, c_34, c_44, c_59, c_64, c_73, c_82, c_87, c_108, c_139, c_184, c_262, c_276, c_341, clc, cld, clu, eq_self, ↓reduceIte, not_true_eq_false, not_false_eq_true]; done) | (simp only [cq_Rk, cq_th, cq_rs, cq_nR1, cq_nR2, cq_ro, c_10, c_15, c_23, c_34, c_44, c_59, c_64, c_73, c_82, c_87, c_108, c_139, c_184, c_262, c_276, c_341, clc, cld, clu, eq_self, ↓reduceIte, not_true_eq_false, not_false_eq_true]; rfl))) ?_
                                              have hW := cy_castS (show (va_up (cq_mw (cq_bf (cq_rs S) d) c d (cq_rF S c u).1 5) 15 (upd (upd ((cq_mw (cq_bf (cq_rs S) d) c d (cq_rF S c u).1 5) 15) c ((((cq_mw (cq_bf (cq_rs S) d) c d (cq_rF S c u).1 5) 15) c) - (cq_ro S c u))) d (((upd ((cq_mw (cq_bf (cq_rs S) d) c d (cq_rF S c u).1 5) 15) c ((((cq_mw (cq_bf (cq_rs S) d) c d (cq_rF S c u).1 5) 15) c) - (cq_ro S c u))) d) + (cq_ro S c u)))) = (cq_Rk S (nI c) (nI d) (nI u) nc).1 from by first | (simp only [cq_Rk, cq_th, cq_rs, cq_nR1, cq_nR2, cq_ro, c_10, c_15, c_23, c_34, c_44, c_59, c_64, c_73, c_82, c_87, c_108, c_139, c_184, c_262, c_276, c_341, clc, cld, clu, eq_self, ↓reduceIte, not_true_eq_false, not_false_eq_true]; done) | (simp only [cq_Rk, cq_th, cq_rs, cq_nR1, cq_nR2, cq_ro, c_10, c_15, c_23, c_34, c_44, c_59, c_64, c_73, c_82, c_87, c_108, c_139, c_184, c_262, c_276, c_341, clc, cld, clu, eq_self, ↓reduceIte, not_true_eq_false, not_false_eq_true]; rfl)) hW
                                              exact hE  _ _ _ _ _ _ (Nat.le_of_ble_eq_true rfl) (Nat.le_of_ble_eq_true rfl) hW dX3_rack_360
                                          · skip
                                            have q_276 := cy_nle (a := 5) (b := k) (by omega) (by omega) c_276
                                            refine lv_aload_n hx hb dX3_rack_279 rfl (lv_at hl 3 rfl) ?_
                                            refine cy_get hC (0) (by decide) hi3 hW (rfl) rfl 20 (by decide) (hts (.fieldLink RX3 54 "CaskYardModel" "holds" "[I") (by decide +kernel)) (fun _ h9 => h9) (v := .ref (ad 14)) rfl dX3_rack_280 ?_
                                            refine lv_iconst (v := 5) hx hb dX3_rack_283 (by decide) ?_
                                            refine lv_iload_n hx hb dX3_rack_284 rfl (lv_at hl 4 rfl) ?_
                                            refine lv_imul hx hb dX3_rack_285 ?_
                                            refine cy_top (pk_mul 5 c) ?_
                                            refine lv_iload hx hb dX3_rack_286 (lv_at hl 1 rfl) ?_
                                            refine lv_iadd hx hb dX3_rack_288 ?_
                                            refine cy_top (nI_add (5 * c) k) ?_
                                            refine lv_dup2_11 hx hb dX3_rack_289 rfl rfl ?_
                                            refine cy_iald hC (14) (by decide) hW 0 (i := ((5 * c) + k)) (rfl) rfl (by omega) (by decide) dX3_rack_290 ?_
                                            refine lv_aload hx hb dX3_rack_291 (lv_at hl 2 rfl) ?_
                                            refine lv_iload hx hb dX3_rack_293 (lv_at hl 1 rfl) ?_
                                            refine cy_tiald hC 0 q126 hW 0 (i := k) rfl rfl (by omega) (by decide) dX3_rack_295 ?_
                                            refine lv_isub hx hb dX3_rack_296 ?_
                                            refine cy_iast hC (14) (by decide) hW 0 (i := ((5 * c) + k)) (rfl) rfl (by omega) (by decide) (upd ((cq_mw (cq_bf (cq_rs S) d) c d (cq_rF S c u).1 k) 14) ((5 * c) + k) ((((cq_mw (cq_bf (cq_rs S) d) c d (cq_rF S c u).1 k) 14) ((5 * c) + k)) - (((cq_rF S c u).1) k))) rfl (S' := (va_up (cq_mw (cq_bf (cq_rs S) d) c d (cq_rF S c u).1 k) 14 (upd ((cq_mw (cq_bf (cq_rs S) d) c d (cq_rF S c u).1 k) 14) ((5 * c) + k) ((((cq_mw (cq_bf (cq_rs S) d) c d (cq_rF S c u).1 k) 14) ((5 * c) + k)) - (((cq_rF S c u).1) k))))) rfl dX3_rack_297 (fun H locs hW => ?_)
                                            refine lv_iload_n hx hb dX3_rack_298 rfl (lv_at hl 5 rfl) ?_
                                            refine lv_iconst (v := (-1)) hx hb dX3_rack_299 (by decide) ?_
                                            refine lv_icmp_eq (tgt := 322) hx hb dX3_rack_300 (by decide) (fun c_300 => ?_) (fun c_300 => ?_)
                                            · skip
                                              exact absurd c_300 c_15
                                            · skip
                                              refine lv_aload_n hx hb dX3_rack_303 rfl (lv_at hl 3 rfl) ?_
                                              refine cy_get hC (0) (by decide) hi3 hW (cy_rd (cy_un (by omega)) rfl) rfl 20 (by decide) (hts (.fieldLink RX3 54 "CaskYardModel" "holds" "[I") (by decide +kernel)) (fun _ h9 => h9) (v := .ref (ad 14)) rfl dX3_rack_304 ?_
                                              refine lv_iconst (v := 5) hx hb dX3_rack_307 (by decide) ?_
                                              refine lv_iload_n hx hb dX3_rack_308 rfl (lv_at hl 5 rfl) ?_
                                              refine lv_imul hx hb dX3_rack_309 ?_
                                              refine cy_top (pk_mul 5 d) ?_
                                              refine lv_iload hx hb dX3_rack_310 (lv_at hl 1 rfl) ?_
                                              refine lv_iadd hx hb dX3_rack_312 ?_
                                              refine cy_top (nI_add (5 * d) k) ?_
                                              refine lv_dup2_11 hx hb dX3_rack_313 rfl rfl ?_
                                              refine cy_iald hC (14) (by decide) hW 0 (i := ((5 * d) + k)) (cy_rd (cy_us) rfl) rfl (by omega) (by decide) dX3_rack_314 ?_
                                              refine lv_aload hx hb dX3_rack_315 (lv_at hl 2 rfl) ?_
                                              refine lv_iload hx hb dX3_rack_317 (lv_at hl 1 rfl) ?_
                                              refine cy_tiald hC 0 q126 hW 0 (i := k) rfl rfl (by omega) (by decide) dX3_rack_319 ?_
                                              refine lv_iadd hx hb dX3_rack_320 ?_
                                              refine cy_iast hC (14) (by decide) hW 0 (i := ((5 * d) + k)) (cy_rd (cy_us) rfl) rfl (by omega) (by decide) (upd (upd ((cq_mw (cq_bf (cq_rs S) d) c d (cq_rF S c u).1 k) 14) ((5 * c) + k) ((((cq_mw (cq_bf (cq_rs S) d) c d (cq_rF S c u).1 k) 14) ((5 * c) + k)) - (((cq_rF S c u).1) k))) ((5 * d) + k) (((upd ((cq_mw (cq_bf (cq_rs S) d) c d (cq_rF S c u).1 k) 14) ((5 * c) + k) ((((cq_mw (cq_bf (cq_rs S) d) c d (cq_rF S c u).1 k) 14) ((5 * c) + k)) - (((cq_rF S c u).1) k))) ((5 * d) + k)) + (((cq_rF S c u).1) k))) rfl (S' := (va_up (cq_mw (cq_bf (cq_rs S) d) c d (cq_rF S c u).1 k) 14 (upd (upd ((cq_mw (cq_bf (cq_rs S) d) c d (cq_rF S c u).1 k) 14) ((5 * c) + k) ((((cq_mw (cq_bf (cq_rs S) d) c d (cq_rF S c u).1 k) 14) ((5 * c) + k)) - (((cq_rF S c u).1) k))) ((5 * d) + k) (((upd ((cq_mw (cq_bf (cq_rs S) d) c d (cq_rF S c u).1 k) 14) ((5 * c) + k) ((((cq_mw (cq_bf (cq_rs S) d) c d (cq_rF S c u).1 k) 14) ((5 * c) + k)) - (((cq_rF S c u).1) k))) ((5 * d) + k)) + (((cq_rF S c u).1) k))))) cy_uu dX3_rack_321 (fun H locs hW => ?_)
                                              refine lv_iinc (v := nI (k + 1)) (lv' := [(9, .int (nI (k + 1))), (8, .int (cq_ro S c u)), (6, .ref q126), (0, .ref (ad 0)), (1, .int (nI c)), (2, .int (nI d)), (3, .int (nI u))]) hx hb dX3_rack_322 hl (k := 1) rfl (nI_1 k) (by decide) rfl (fun ls hl => ?_)
                                              refine lv_goto (tgt := 273) hx hb dX3_rack_325 (by decide) ?_
                                              exact ih_273 (k + 1) (by omega) (by omega) _ _ hW _ (lv_sub hl [1, 0, 2, 3, 4, 5, 6] rfl)
                                      exact L_273 ((5 - 0) + 1) 0 (Nat.lt_succ_self _) (by omega) _ _ hW _ (lv_sub hl [1, 0, 4, 5, 6, 8, 7] rfl)
                                  · skip
                                    have q_184 := cy_nle (a := ((cq_rr S c u r).2)) (b := 0) (by omega) (by omega) c_184
                                    refine lv_iconst (v := 0) hx hb dX3_rack_187 (by decide) ?_
                                    refine lv_istore (lv' := [(8, .int 0), (4, .long ((cq_al S c).toInt64)), (7, .int (nI (cq_rr S c u r).2)), (6, .ref q126), (0, .ref (ad 0)), (1, .int (nI c)), (3, .int (nI u)), (2, .int (nI d))]) hx hb dX3_rack_188 hl (by decide) rfl (fun ls hl => ?_)
                                    have L_190 : ∀ (fu : Nat) (k : Nat), 5 - k < fu → (k ≤ 5) → ∀ (H : Heap) (locs : List Loc), cy_W D A s.heap (cy_Mw kI kZ ad (va_up S 0 (upd (S 0) 0 0)) ((q126, .inl (kI, 5, .inl ((cq_rd S c (cq_rr S c u r) k).1))) :: tl)) H locs → ∀ (ls : Array Slot), lv_has ls 10 [(4, .long ((cq_al S c).toInt64)), (7, .int (nI (cq_rd S c (cq_rr S c u r) k).2)), (8, .int (nI k)), (6, .ref q126), (0, .ref (ad 0)), (1, .int (nI c)), (3, .int (nI u)), (2, .int (nI d))] → W p l e rm_X3_rack s m args below meth co H locs 1 5 Q (F0 m 190 ls []) := by
                                      intro fu
                                      induction fu with
                                      | zero => intro k hn; exact absurd hn (Nat.not_lt_zero _)
                                      | succ fu ih_190 =>
                                        intro k hn_190 hk H locs hW ls hl
                                        have hIb2 := cq_I_le (cq_rd_I hH hI hk)
                                        refine lv_iload hx hb dX3_rack_190 (lv_at hl 2 rfl) ?_
                                        refine lv_iconst (v := 5) hx hb dX3_rack_192 (by decide) ?_
                                        refine lv_icmp_ge (tgt := 241) hx hb dX3_rack_193 (by decide) (fun c_193 => ?_) (fun c_193 => ?_)
                                        · skip
                                          have q_193 := cy_le (a := 5) (b := k) (by omega) (by omega) c_193
                                          obtain rfl : k = 5 := by omega
                                          refine lv_goto (tgt := 182) hx hb dX3_rack_241 (by decide) ?_
                                          have qlt : (cq_rr S c u (r + 1)).2 < (cq_rr S c u r).2 := cq_rd_lt hH huW hI (by omega)
                                          exact ih_182 (r + 1) (by omega) (by omega) _ _ hW _ (lv_sub hl [0, 1, 3, 4, 5, 6, 7] rfl)
                                        · skip
                                          have q_193 := cy_nle (a := 5) (b := k) (by omega) (by omega) c_193
                                          refine lv_iload hx hb dX3_rack_196 (lv_at hl 1 rfl) ?_
                                          refine lv_if_le (tgt := 241) hx hb dX3_rack_198 (by decide) (fun c_198 => ?_) (fun c_198 => ?_)
                                          · skip
                                            have q_198 := cy_le (a := ((cq_rd S c (cq_rr S c u r) k).2)) (b := 0) (by omega) (by omega) c_198
                                            have e5 : (cq_rd S c (cq_rr S c u r) k) = (cq_rr S c u (r + 1)) := by have q := cq_rd_stop (Nat.le_zero.mp q_198) (5 - k); rw [show k + (5 - k) = 5 by omega] at q; exact q.symm
                                            rw [e5] at hW hl
                                            refine lv_goto (tgt := 182) hx hb dX3_rack_241 (by decide) ?_
                                            have qlt : (cq_rr S c u (r + 1)).2 < (cq_rr S c u r).2 := cq_rd_lt hH huW hI (by omega)
                                            exact ih_182 (r + 1) (by omega) (by omega) _ _ hW _ (lv_sub hl [0, 1, 3, 4, 5, 6, 7] rfl)
                                          · skip
                                            have q_198 := cy_nle (a := ((cq_rd S c (cq_rr S c u r) k).2)) (b := 0) (by omega) (by omega) c_198
                                            have z198 : ¬ (cq_rd S c (cq_rr S c u r) k).2 = 0 := by omega
                                            refine lv_aload_n hx hb dX3_rack_201 rfl (lv_at hl 4 rfl) ?_
                                            refine cy_get hC (0) (by decide) hi3 hW (cy_rd (cy_us) rfl) rfl 20 (by decide) (hts (.fieldLink RX3 54 "CaskYardModel" "holds" "[I") (by decide +kernel)) (fun _ h9 => h9) (v := .ref (ad 14)) rfl dX3_rack_202 ?_
                                            refine lv_iconst (v := 5) hx hb dX3_rack_205 (by decide) ?_
                                            refine lv_iload_n hx hb dX3_rack_206 rfl (lv_at hl 5 rfl) ?_
                                            refine lv_imul hx hb dX3_rack_207 ?_
                                            refine cy_top (pk_mul 5 c) ?_
                                            refine lv_iload hx hb dX3_rack_208 (lv_at hl 2 rfl) ?_
                                            refine lv_iadd hx hb dX3_rack_210 ?_
                                            refine cy_top (nI_add (5 * c) k) ?_
                                            refine cy_iald hC (14) (by decide) hW 0 (i := ((5 * c) + k)) (cy_rd (cy_un (by omega)) rfl) rfl (by omega) (by decide) dX3_rack_211 ?_
                                            refine lv_aload hx hb dX3_rack_212 (lv_at hl 3 rfl) ?_
                                            refine lv_iload hx hb dX3_rack_214 (lv_at hl 2 rfl) ?_
                                            refine cy_tiald hC 0 q126 hW 0 (i := k) rfl rfl (by omega) (by decide) dX3_rack_216 ?_
                                            refine lv_icmp_ne (tgt := 223) hx hb dX3_rack_217 (by decide) (fun c_217 => ?_) (fun c_217 => ?_)
                                            · skip
                                              refine lv_aload hx hb dX3_rack_223 (lv_at hl 3 rfl) ?_
                                              refine lv_iload hx hb dX3_rack_225 (lv_at hl 2 rfl) ?_
                                              refine lv_dup2_11 hx hb dX3_rack_227 rfl rfl ?_
                                              refine cy_tiald hC 0 q126 hW 0 (i := k) rfl rfl (by omega) (by decide) dX3_rack_228 ?_
                                              refine lv_iconst (v := 1) hx hb dX3_rack_229 (by decide) ?_
                                              refine lv_iadd hx hb dX3_rack_230 ?_
                                              refine cy_tiast (tl' := ((q126, .inl (kI, 5, .inl (upd ((cq_rd S c (cq_rr S c u r) k).1) k ((((cq_rd S c (cq_rr S c u r) k).1) k) + 1)))) :: tl)) hC 0 q126 hW 0 (i := k) rfl rfl (by omega) (by decide) rfl dX3_rack_231 (fun H locs hW => ?_)
                                              refine lv_iinc (v := nI ((cq_rd S c (cq_rr S c u r) k).2 - 1)) (lv' := [(7, .int (nI ((cq_rd S c (cq_rr S c u r) k).2 - 1))), (4, .long ((cq_al S c).toInt64)), (8, .int (nI k)), (6, .ref q126), (0, .ref (ad 0)), (1, .int (nI c)), (3, .int (nI u)), (2, .int (nI d))]) hx hb dX3_rack_232 hl (k := 1) rfl (cy_dec (by omega)) (by decide) rfl (fun ls hl => ?_)
                                              refine lv_iinc (v := nI (k + 1)) (lv' := [(8, .int (nI (k + 1))), (7, .int (nI ((cq_rd S c (cq_rr S c u r) k).2 - 1))), (4, .long ((cq_al S c).toInt64)), (6, .ref q126), (0, .ref (ad 0)), (1, .int (nI c)), (3, .int (nI u)), (2, .int (nI d))]) hx hb dX3_rack_235 hl (k := 2) rfl (nI_1 k) (by decide) rfl (fun ls hl => ?_)
                                              refine lv_goto (tgt := 190) hx hb dX3_rack_238 (by decide) ?_
                                              rw [show nI ((cq_rd S c (cq_rr S c u r) k).2 - 1) = nI (cq_rd S c (cq_rr S c u r) (k + 1)).2 from by simp only [cq_rd, z198, c_217, clc, cld, clu, ↓reduceIte, not_true_eq_false, not_false_eq_true]] at hl
                                              have hW := cy_castF (show (upd ((cq_rd S c (cq_rr S c u r) k).1) k ((((cq_rd S c (cq_rr S c u r) k).1) k) + 1)) = ((cq_rd S c (cq_rr S c u r) (k + 1)).1) from by simp only [cq_rd, z198, c_217, clc, cld, clu, ↓reduceIte, not_true_eq_false, not_false_eq_true]) hW
                                              exact ih_190 (k + 1) (by omega) (by omega) _ _ hW _ (lv_sub hl [2, 1, 0, 3, 4, 5, 6, 7] rfl)
                                            · skip
                                              refine lv_goto (tgt := 235) hx hb dX3_rack_220 (by decide) ?_
                                              refine lv_iinc (v := nI (k + 1)) (lv' := [(8, .int (nI (k + 1))), (4, .long ((cq_al S c).toInt64)), (7, .int (nI (cq_rd S c (cq_rr S c u r) k).2)), (6, .ref q126), (0, .ref (ad 0)), (1, .int (nI c)), (3, .int (nI u)), (2, .int (nI d))]) hx hb dX3_rack_235 hl (k := 2) rfl (nI_1 k) (by decide) rfl (fun ls hl => ?_)
                                              refine lv_goto (tgt := 190) hx hb dX3_rack_238 (by decide) ?_
                                              rw [show nI (cq_rd S c (cq_rr S c u r) k).2 = nI (cq_rd S c (cq_rr S c u r) (k + 1)).2 from by simp only [cq_rd, z198, c_217, clc, cld, clu, ↓reduceIte, not_true_eq_false, not_false_eq_true]] at hl
                                              have hW := cy_castF (show ((cq_rd S c (cq_rr S c u r) k).1) = ((cq_rd S c (cq_rr S c u r) (k + 1)).1) from by simp only [cq_rd, z198, c_217, clc, cld, clu, ↓reduceIte, not_true_eq_false, not_false_eq_true]) hW
                                              exact ih_190 (k + 1) (by omega) (by omega) _ _ hW _ (lv_sub hl [1, 2, 0, 3, 4, 5, 6, 7] rfl)
                                    have hW := cy_castF (show ((cq_rr S c u r).1) = ((cq_rd S c (cq_rr S c u r) 0).1) from rfl) hW
                                    exact L_190 ((5 - 0) + 1) 0 (Nat.lt_succ_self _) (by omega) _ _ hW _ (lv_sub hl [1, 2, 0, 3, 4, 5, 6, 7] rfl)
                              rw [show (cq_rf S c (nI u) 5).2 = nI (cq_rr S c u 0).2 from hS0.1] at hl
                              have hW := cy_castF (show ((cq_rf S c (nI u) 5).1) = ((cq_rr S c u 0).1) from rfl) hW
                              exact L_182 (((cq_rr S c u 0).2) + 1) 0 (Nat.lt_succ_self _) (Nat.le_of_eq (Nat.zero_add _)) _ _ hW _ (lv_sub hl [0, 1, 3, 4, 5, 6, 7] rfl)
                            · skip
                              have q_139 := cy_nle (a := 5) (b := k) (by omega) (by omega) c_139
                              refine lv_aload hx hb dX3_rack_142 (lv_at hl 3 rfl) ?_
                              refine lv_iload hx hb dX3_rack_144 (lv_at hl 2 rfl) ?_
                              refine lv_aload_n hx hb dX3_rack_146 rfl (lv_at hl 4 rfl) ?_
                              refine cy_get hC (0) (by decide) hi3 hW (cy_rd (cy_us) rfl) rfl 20 (by decide) (hts (.fieldLink RX3 54 "CaskYardModel" "holds" "[I") (by decide +kernel)) (fun _ h9 => h9) (v := .ref (ad 14)) rfl dX3_rack_147 ?_
                              refine lv_iconst (v := 5) hx hb dX3_rack_150 (by decide) ?_
                              refine lv_iload_n hx hb dX3_rack_151 rfl (lv_at hl 5 rfl) ?_
                              refine lv_imul hx hb dX3_rack_152 ?_
                              refine cy_top (pk_mul 5 c) ?_
                              refine lv_iload hx hb dX3_rack_153 (lv_at hl 2 rfl) ?_
                              refine lv_iadd hx hb dX3_rack_155 ?_
                              refine cy_top (nI_add (5 * c) k) ?_
                              refine cy_iald hC (14) (by decide) hW 0 (i := ((5 * c) + k)) (cy_rd (cy_un (by omega)) rfl) rfl (by omega) (by decide) dX3_rack_156 ?_
                              refine lv_i2l hx hb dX3_rack_157 rfl ?_
                              refine lv_iload_n hx hb dX3_rack_158 rfl (lv_at hl 6 rfl) ?_
                              refine lv_i2l hx hb dX3_rack_159 rfl ?_
                              refine lv_lmul hx hb dX3_rack_160 ?_
                              refine lv_lload hx hb dX3_rack_161 (lv_at hl 0 rfl) ?_
                              refine lv_ldiv hx hb dX3_rack_163 (cy_l0 hal) ?_
                              refine lv_l2i hx hb dX3_rack_164 rfl ?_
                              refine cy_tiast (tl' := ((q126, .inl (kI, 5, .inl (upd ((cq_rf S c (nI u) k).1) k (((((S 14 ((5 * c) + k)).toInt64) * ((nI u).toInt64)) / ((cq_al S c).toInt64)).toInt32)))) :: tl)) hC 0 q126 hW 0 (i := k) rfl rfl (by omega) (by decide) rfl dX3_rack_165 (fun H locs hW => ?_)
                              refine lv_iload hx hb dX3_rack_166 (lv_at hl 1 rfl) ?_
                              refine lv_aload hx hb dX3_rack_168 (lv_at hl 3 rfl) ?_
                              refine lv_iload hx hb dX3_rack_170 (lv_at hl 2 rfl) ?_
                              refine cy_tiald hC 0 q126 hW 0 (i := k) rfl rfl (by omega) (by decide) dX3_rack_172 ?_
                              refine cy_top (y := (((((S 14 ((5 * c) + k)).toInt64) * ((nI u).toInt64)) / ((cq_al S c).toInt64)).toInt32)) pk_us ?_
                              refine lv_isub hx hb dX3_rack_173 ?_
                              refine lv_istore (lv' := [(7, .int (((cq_rf S c (nI u) k).2) - (((((S 14 ((5 * c) + k)).toInt64) * ((nI u).toInt64)) / ((cq_al S c).toInt64)).toInt32))), (4, .long ((cq_al S c).toInt64)), (8, .int (nI k)), (6, .ref q126), (0, .ref (ad 0)), (1, .int (nI c)), (3, .int (nI u)), (2, .int (nI d))]) hx hb dX3_rack_174 hl (by decide) rfl (fun ls hl => ?_)
                              refine lv_iinc (v := nI (k + 1)) (lv' := [(8, .int (nI (k + 1))), (7, .int (((cq_rf S c (nI u) k).2) - (((((S 14 ((5 * c) + k)).toInt64) * ((nI u).toInt64)) / ((cq_al S c).toInt64)).toInt32))), (4, .long ((cq_al S c).toInt64)), (6, .ref q126), (0, .ref (ad 0)), (1, .int (nI c)), (3, .int (nI u)), (2, .int (nI d))]) hx hb dX3_rack_176 hl (k := 2) rfl (nI_1 k) (by decide) rfl (fun ls hl => ?_)
                              refine lv_goto (tgt := 136) hx hb dX3_rack_179 (by decide) ?_
                              exact ih_136 (k + 1) (by omega) (by omega) _ _ hW _ (lv_sub hl [2, 1, 0, 3, 4, 5, 6, 7] rfl)
                        exact L_136 ((5 - 0) + 1) 0 (Nat.lt_succ_self _) (by omega) _ _ hW _ (lv_sub hl [3, 1, 0, 2, 4, 5, 7, 6] rfl)
                      · skip
                        refine lv_aload_n hx hb dX3_rack_111 rfl (lv_at hl 0 rfl) ?_
                        refine lv_iconst (v := 3) hx hb dX3_rack_112 (by decide) ?_
                        refine cy_callV (rm := rm_X3_no) (As := [.int 3]) (rest := []) (q0 := 0) (ci := 3) hC.1 hC.2.1 hC.2.2 hW (c_X3_no (x := 3)) (cwV 1 hts gX3_rack_X3_no rfl rfl rfl (by decide +kernel) ⟨Nat.le_of_ble_eq_true rfl, Nat.le_of_ble_eq_true rfl⟩) (cy_w_at (by decide) (cy_rd (cy_us) rfl)) rfl rfl hl.1 rfl (Nat.le_of_ble_eq_true rfl) dX3_rack_113 ⟨Nat.le_of_ble_eq_true rfl, Nat.le_of_ble_eq_true rfl⟩ (k' := 0) (n' := 0) rfl rfl (fun H locs hW => ?_)
                        rw [show va_up (va_up S 0 (upd (S 0) 0 0)) 0 (upd ((va_up S 0 (upd (S 0) 0 0)) 0) 0 3) = (va_up S 0 (upd (upd (S 0) 0 0) 0 3)) from by rw [cy_us, cy_uu]] at hW
                        refine cy_topv (congrArg Value.int (show 0 = (cq_Rk S (nI c) (nI d) (nI u) nc).2 from by first | (simp only [cq_Rk, cq_th, cq_rs, cq_nR1, cq_nR2, cq_ro, c_10, c_15, c_23, c_34, c_44, c_59, c_64, c_73, c_82, c_87, c_108, clc, cld, clu, eq_self, ↓reduceIte, not_true_eq_false, not_false_eq_true]; done) | (simp only [cq_Rk, cq_th, cq_rs, cq_nR1, cq_nR2, cq_ro, c_10, c_15, c_23, c_34, c_44, c_59, c_64, c_73, c_82, c_87, c_108, clc, cld, clu, eq_self, ↓reduceIte, not_true_eq_false, not_false_eq_true]; rfl))) ?_
                        have hW := cy_castS (show (va_up S 0 (upd (upd (S 0) 0 0) 0 3)) = (cq_Rk S (nI c) (nI d) (nI u) nc).1 from by first | (simp only [cq_Rk, cq_th, cq_rs, cq_nR1, cq_nR2, cq_ro, c_10, c_15, c_23, c_34, c_44, c_59, c_64, c_73, c_82, c_87, c_108, clc, cld, clu, eq_self, ↓reduceIte, not_true_eq_false, not_false_eq_true]; done) | (simp only [cq_Rk, cq_th, cq_rs, cq_nR1, cq_nR2, cq_ro, c_10, c_15, c_23, c_34, c_44, c_59, c_64, c_73, c_82, c_87, c_108, clc, cld, clu, eq_self, ↓reduceIte, not_true_eq_false, not_false_eq_true]; rfl)) hW
                        exact hE  _ _ _ _ _ _ (Nat.le_of_ble_eq_true rfl) (Nat.le_of_ble_eq_true rfl) hW dX3_rack_116
          · skip
            refine lv_aload_n hx hb dX3_rack_47 rfl (lv_at hl 0 rfl) ?_
            refine lv_iconst (v := 2) hx hb dX3_rack_48 (by decide) ?_
            refine cy_callV (rm := rm_X3_no) (As := [.int 2]) (rest := []) (q0 := 0) (ci := 3) hC.1 hC.2.1 hC.2.2 hW (c_X3_no (x := 2)) (cwV 1 hts gX3_rack_X3_no rfl rfl rfl (by decide +kernel) ⟨Nat.le_of_ble_eq_true rfl, Nat.le_of_ble_eq_true rfl⟩) (cy_w_at (by decide) (cy_rd (cy_us) rfl)) rfl rfl hl.1 rfl (Nat.le_of_ble_eq_true rfl) dX3_rack_49 ⟨Nat.le_of_ble_eq_true rfl, Nat.le_of_ble_eq_true rfl⟩ (k' := 0) (n' := 0) rfl rfl (fun H locs hW => ?_)
            rw [show va_up (va_up S 0 (upd (S 0) 0 0)) 0 (upd ((va_up S 0 (upd (S 0) 0 0)) 0) 0 2) = (va_up S 0 (upd (upd (S 0) 0 0) 0 2)) from by rw [cy_us, cy_uu]] at hW
            refine cy_topv (congrArg Value.int (show 0 = (cq_Rk S (nI c) (nI d) z nc).2 from by first | (simp only [cq_Rk, cq_th, cq_rs, cq_nR1, cq_nR2, cq_ro, c_10, c_15, c_23, c_34, c_44, clc, cld, eq_self, ↓reduceIte, not_true_eq_false, not_false_eq_true]; done) | (simp only [cq_Rk, cq_th, cq_rs, cq_nR1, cq_nR2, cq_ro, c_10, c_15, c_23, c_34, c_44, clc, cld, eq_self, ↓reduceIte, not_true_eq_false, not_false_eq_true]; rfl))) ?_
            have hW := cy_castS (show (va_up S 0 (upd (upd (S 0) 0 0) 0 2)) = (cq_Rk S (nI c) (nI d) z nc).1 from by first | (simp only [cq_Rk, cq_th, cq_rs, cq_nR1, cq_nR2, cq_ro, c_10, c_15, c_23, c_34, c_44, clc, cld, eq_self, ↓reduceIte, not_true_eq_false, not_false_eq_true]; done) | (simp only [cq_Rk, cq_th, cq_rs, cq_nR1, cq_nR2, cq_ro, c_10, c_15, c_23, c_34, c_44, clc, cld, eq_self, ↓reduceIte, not_true_eq_false, not_false_eq_true]; rfl)) hW
            exact hE  _ _ _ _ _ _ (Nat.le_of_ble_eq_true rfl) (Nat.le_of_ble_eq_true rfl) hW dX3_rack_52
      · skip
        refine lv_aload_n hx hb dX3_rack_26 rfl (lv_at hl 0 rfl) ?_
        refine lv_iconst (v := 1) hx hb dX3_rack_27 (by decide) ?_
        refine cy_callV (rm := rm_X3_no) (As := [.int 1]) (rest := []) (q0 := 0) (ci := 3) hC.1 hC.2.1 hC.2.2 hW (c_X3_no (x := 1)) (cwV 1 hts gX3_rack_X3_no rfl rfl rfl (by decide +kernel) ⟨Nat.le_of_ble_eq_true rfl, Nat.le_of_ble_eq_true rfl⟩) (cy_w_at (by decide) (cy_rd (cy_us) rfl)) rfl rfl hl.1 rfl (Nat.le_of_ble_eq_true rfl) dX3_rack_28 ⟨Nat.le_of_ble_eq_true rfl, Nat.le_of_ble_eq_true rfl⟩ (k' := 0) (n' := 0) rfl rfl (fun H locs hW => ?_)
        rw [show va_up (va_up S 0 (upd (S 0) 0 0)) 0 (upd ((va_up S 0 (upd (S 0) 0 0)) 0) 0 1) = (va_up S 0 (upd (upd (S 0) 0 0) 0 1)) from by rw [cy_us, cy_uu]] at hW
        refine cy_topv (congrArg Value.int (show 0 = (cq_Rk S (nI c) y z nc).2 from by first | (simp only [cq_Rk, cq_th, cq_rs, cq_nR1, cq_nR2, cq_ro, c_10, c_15, c_23, clc, eq_self, ↓reduceIte, not_true_eq_false, not_false_eq_true]; done) | (simp only [cq_Rk, cq_th, cq_rs, cq_nR1, cq_nR2, cq_ro, c_10, c_15, c_23, clc, eq_self, ↓reduceIte, not_true_eq_false, not_false_eq_true]; rfl))) ?_
        have hW := cy_castS (show (va_up S 0 (upd (upd (S 0) 0 0) 0 1)) = (cq_Rk S (nI c) y z nc).1 from by first | (simp only [cq_Rk, cq_th, cq_rs, cq_nR1, cq_nR2, cq_ro, c_10, c_15, c_23, clc, eq_self, ↓reduceIte, not_true_eq_false, not_false_eq_true]; done) | (simp only [cq_Rk, cq_th, cq_rs, cq_nR1, cq_nR2, cq_ro, c_10, c_15, c_23, clc, eq_self, ↓reduceIte, not_true_eq_false, not_false_eq_true]; rfl)) hW
        exact hE  _ _ _ _ _ _ (Nat.le_of_ble_eq_true rfl) (Nat.le_of_ble_eq_true rfl) hW dX3_rack_31
