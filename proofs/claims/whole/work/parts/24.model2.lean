abbrev rm_X3_pass : Room := { frames := 3, cells := 0, slots := 0, locals := 65 }
set_option maxHeartbeats 4000000 in
set_option maxRecDepth 100000 in
theorem c_X3_pass {l : Launch} {D : va_G} {kI kJ kZ kC : ClassId} {ad : Nat → Nat} {S : Nat → Nat → Int32} {tl : va_W} {c : Nat} {x : Int32} (hc : c < 12) (hq : cq_ok S) : cy_M l yX3_pass wsX3_pass rm_X3_pass D (cy_tys kI kJ kZ kC) [.ref (ad 0), .int (nI c), .int x] (cy_Mw kI kZ ad S tl) (some (.int ((cq_p3 S c).2))) (cy_Mw kI kZ ad (cq_pc S c x) tl) := by
  refine cy_of (own := RX3) (cc := cX3_pass) (maxL := 8) (ret := (some .int)) (i := .ireturn) (by decide) rfl rfl (Nat.le_of_ble_eq_true rfl) (cy_endI rfl) ?_
  intro p e s m args below meth co Q A ls hC hE hW hl
  have hx := hC.1.1; have hb := hC.1.2.1; have hml := hC.1.2.2.1; have hown := hC.1.2.2.2.1; have hts := hC.1.2.2.2.2
  have hl : lv_has ls 8 [(0, .ref (ad 0)), (1, .int (nI c)), (2, .int x)] := hl
  have hi3 : ∀ w ∈ u_ws RX3 TX3 25, w ∈ wsX3_pass := by decide +kernel
  have hle := cq_hn_le hq hc
  have hq2 : cq_ok (cq_p2 S c) := cq_ok_of (cq_p2_n (by decide) (by decide)) (cq_p2_n (by decide) (by decide)) hq
  refine lv_aload_n hx hb dX3_pass_0 rfl (lv_at hl 0 rfl) ?_
  refine lv_iload_n hx hb dX3_pass_1 rfl (lv_at hl 1 rfl) ?_
  refine cy_callV (rm := rm_X3_all) (As := [.int (nI c)]) (rest := []) (q0 := 0) (ci := 3) hC.1 hC.2.1 hC.2.2 hW (c_X3_all (c := c) (by omega)) (cwV 1 hts gX3_pass_X3_all rfl rfl rfl (by decide +kernel) ⟨Nat.le_of_ble_eq_true rfl, Nat.le_of_ble_eq_true rfl⟩) (cy_w_at (by decide) (rfl)) rfl rfl hl.1 rfl (Nat.le_of_ble_eq_true rfl) dX3_pass_2 ⟨Nat.le_of_ble_eq_true rfl, Nat.le_of_ble_eq_true rfl⟩ (k' := 0) (n' := 0) rfl rfl (fun H locs hW => ?_)
  refine lv_istore_n (lv' := [(3, .int (cq_al S c)), (0, .ref (ad 0)), (1, .int (nI c)), (2, .int x)]) hx hb dX3_pass_5 rfl hl (by decide) rfl (fun ls hl => ?_)
  refine lv_iload_n hx hb dX3_pass_6 rfl (lv_at hl 0 rfl) ?_
  refine lv_if_le (tgt := 37) hx hb dX3_pass_7 (by decide) (fun c_7 => ?_) (fun c_7 => ?_)
  · skip
    have L_37 : ∀ (H : Heap) (locs : List Loc), cy_W D A s.heap (cy_Mw kI kZ ad (cq_p1 S c) tl) H locs → ∀ (ls : Array Slot), lv_has ls 8 [(3, .int (cq_al S c)), (0, .ref (ad 0)), (1, .int (nI c)), (2, .int x)] → W p l e rm_X3_pass s m args below meth co H locs 0 0 Q (F0 m 37 ls []) := by
      intro   H locs hW ls hl
      refine lv_aload_n hx hb dX3_pass_37 rfl (lv_at hl 1 rfl) ?_
      refine cy_get hC (0) (by decide) hi3 hW (rfl) rfl 17 (by decide) (hts (.fieldLink RX3 45 "CaskYardModel" "swelling" "[I") (by decide +kernel)) (fun _ h9 => h9) (v := .ref (ad 11)) rfl dX3_pass_38 ?_
      refine lv_iload_n hx hb dX3_pass_41 rfl (lv_at hl 2 rfl) ?_
      refine lv_iconst (v := 2) hx hb dX3_pass_42 (by decide) ?_
      refine lv_iload_n hx hb dX3_pass_43 rfl (lv_at hl 0 rfl) ?_
      refine lv_imul hx hb dX3_pass_44 ?_
      refine lv_aload_n hx hb dX3_pass_45 rfl (lv_at hl 1 rfl) ?_
      refine cy_get hC (0) (by decide) hi3 hW (rfl) rfl 10 (by decide) (hts (.fieldLink RX3 26 "CaskYardModel" "room" "[I") (by decide +kernel)) (fun _ h9 => h9) (v := .ref (ad 5)) rfl dX3_pass_46 ?_
      refine lv_aload_n hx hb dX3_pass_49 rfl (lv_at hl 1 rfl) ?_
      refine cy_get hC (0) (by decide) hi3 hW (rfl) rfl 13 (by decide) (hts (.fieldLink RX3 32 "CaskYardModel" "sort" "[I") (by decide +kernel)) (fun _ h9 => h9) (v := .ref (ad 7)) rfl dX3_pass_50 ?_
      refine lv_iload_n hx hb dX3_pass_53 rfl (lv_at hl 2 rfl) ?_
      refine cy_iald hC (7) (by decide) hW 0 (i := c) (rfl) rfl (by omega) (by decide) dX3_pass_54 ?_
      refine cy_top (y := nI (cq_so S c)) (by rw [cq_p1_n (by decide)]; exact (hq.1 c hc).2) ?_
      refine cy_iald hC (5) (by decide) hW 0 (i := (cq_so S c)) (rfl) rfl (hq.1 c hc).1 (by decide) dX3_pass_55 ?_
      refine lv_icmp_lt (tgt := 75) hx hb dX3_pass_56 (by decide) (fun c_56 => ?_) (fun c_56 => ?_)
      · skip
        refine lv_iconst (v := 0) hx hb dX3_pass_75 (by decide) ?_
        refine lv_aload_n hx hb dX3_pass_76 rfl (lv_at hl 1 rfl) ?_
        refine cy_get hC (0) (by decide) hi3 hW (rfl) rfl 17 (by decide) (hts (.fieldLink RX3 45 "CaskYardModel" "swelling" "[I") (by decide +kernel)) (fun _ h9 => h9) (v := .ref (ad 11)) rfl dX3_pass_77 ?_
        refine lv_iload_n hx hb dX3_pass_80 rfl (lv_at hl 2 rfl) ?_
        refine cy_iald hC (11) (by decide) hW 0 (i := c) (rfl) rfl (by omega) (by decide) dX3_pass_81 ?_
        refine lv_iconst (v := 3) hx hb dX3_pass_82 (by decide) ?_
        refine lv_isub hx hb dX3_pass_83 ?_
        refine va_mmax hx hb (hml.trans hl.1.symm) hown (hts (.methodLink RX3 128 Lib.Math.max.name) (by decide +kernel)) (hts (.static Lib.Math.max.name) (by decide +kernel)) (hts (.initialized "java/lang/Math") (by decide +kernel)) (hts (.code Lib.Math.max.name Lib.Math.max.code 2 (some .int)) (by decide +kernel)) (Nat.le_of_ble_eq_true rfl) (Nat.le_of_ble_eq_true rfl) (Nat.le_of_ble_eq_true rfl) (Nat.le_of_ble_eq_true rfl) dX3_pass_84 ?_
        refine cy_topv (show _ = Value.int (cy_mx 0 ((((cq_p1 S c) 11) c) - 3)) from rfl) ?_
        refine cy_iast hC (11) (by decide) hW 0 (i := c) (rfl) rfl (by omega) (by decide) (upd ((cq_p1 S c) 11) c (cy_mx 0 ((((cq_p1 S c) 11) c) - 3))) rfl (S' := (va_up (cq_p1 S c) 11 (upd ((cq_p1 S c) 11) c (cy_mx 0 ((((cq_p1 S c) 11) c) - 3))))) rfl dX3_pass_87 (fun H locs hW => ?_)
        have L_88 : ∀ (H : Heap) (locs : List Loc), cy_W D A s.heap (cy_Mw kI kZ ad (cq_p2 S c) tl) H locs → ∀ (ls : Array Slot), lv_has ls 8 [(0, .ref (ad 0)), (1, .int (nI c)), (2, .int x)] → W p l e rm_X3_pass s m args below meth co H locs 0 0 Q (F0 m 88 ls []) := by
          intro   H locs hW ls hl
          refine lv_aload_n hx hb dX3_pass_88 rfl (lv_at hl 0 rfl) ?_
          refine lv_iload_n hx hb dX3_pass_89 rfl (lv_at hl 1 rfl) ?_
          refine cy_callV (rm := rm_X3_leak) (As := [.int (nI c)]) (rest := []) (q0 := 0) (ci := 3) hC.1 hC.2.1 hC.2.2 hW (c_X3_leak (c := c) (by omega) hq2) (cwV 1 hts gX3_pass_X3_leak rfl rfl rfl (by decide +kernel) ⟨Nat.le_of_ble_eq_true rfl, Nat.le_of_ble_eq_true rfl⟩) (cy_w_at (by decide) (rfl)) rfl rfl hl.1 rfl (Nat.le_of_ble_eq_true rfl) dX3_pass_90 ⟨Nat.le_of_ble_eq_true rfl, Nat.le_of_ble_eq_true rfl⟩ (k' := 0) (n' := 0) rfl rfl (fun H locs hW => ?_)
          refine lv_iconst (v := 3) hx hb dX3_pass_93 (by decide) ?_
          refine lv_iadd hx hb dX3_pass_94 ?_
          refine lv_aload_n hx hb dX3_pass_95 rfl (lv_at hl 0 rfl) ?_
          refine cy_get hC (0) (by decide) hi3 hW (rfl) rfl 2 (by decide) (hts (.fieldLink RX3 7 "CaskYardModel" "warmth" "I") (by decide +kernel)) (fun _ h9 => h9) (v := .int (((cq_p2 S c) 0) 2)) rfl dX3_pass_96 ?_
          refine lv_iadd hx hb dX3_pass_99 ?_
          refine lv_istore (lv' := [(4, .int (((cq_lk (cq_p2 S c) c) + 3) + ((cq_p2 S c) 0 2))), (0, .ref (ad 0)), (1, .int (nI c)), (2, .int x)]) hx hb dX3_pass_100 hl (by decide) rfl (fun ls hl => ?_)
          refine lv_iconst (v := 0) hx hb dX3_pass_102 (by decide) ?_
          refine lv_istore (lv' := [(5, .int 0), (4, .int (((cq_lk (cq_p2 S c) c) + 3) + ((cq_p2 S c) 0 2))), (0, .ref (ad 0)), (1, .int (nI c)), (2, .int x)]) hx hb dX3_pass_103 hl (by decide) rfl (fun ls hl => ?_)
          refine lv_iconst (v := 5) hx hb dX3_pass_105 (by decide) ?_
          refine lv_iload_n hx hb dX3_pass_106 rfl (lv_at hl 3 rfl) ?_
          refine lv_imul hx hb dX3_pass_107 ?_
          refine cy_top (pk_mul 5 c) ?_
          refine lv_istore (lv' := [(6, .int (nI (5 * c))), (5, .int 0), (4, .int (((cq_lk (cq_p2 S c) c) + 3) + ((cq_p2 S c) 0 2))), (0, .ref (ad 0)), (1, .int (nI c)), (2, .int x)]) hx hb dX3_pass_108 hl (by decide) rfl (fun ls hl => ?_)
          have L_110 : ∀ (fu : Nat) (i : Nat), 5 - i < fu → (i ≤ 5) → ∀ (H : Heap) (locs : List Loc), cy_W D A s.heap (cy_Mw kI kZ ad (cq_lo (cq_p2 S c) c (cq_by S c) i).1 tl) H locs → ∀ (ls : Array Slot), lv_has ls 8 [(4, .int (cq_by S c)), (5, .int ((cq_lo (cq_p2 S c) c (cq_by S c) i).2)), (6, .int (nI (5 * c + i))), (0, .ref (ad 0)), (1, .int (nI c)), (2, .int x)] → W p l e rm_X3_pass s m args below meth co H locs 0 0 Q (F0 m 110 ls []) := by
            intro fu
            induction fu with
            | zero => intro i hn; exact absurd hn (Nat.not_lt_zero _)
            | succ fu ih_110 =>
              intro i hn_110 hi H locs hW ls hl
              refine lv_iload hx hb dX3_pass_110 (lv_at hl 2 rfl) ?_
              refine lv_iconst (v := 5) hx hb dX3_pass_112 (by decide) ?_
              refine lv_iload_n hx hb dX3_pass_113 rfl (lv_at hl 4 rfl) ?_
              refine lv_imul hx hb dX3_pass_114 ?_
              refine cy_top (pk_mul 5 c) ?_
              refine lv_iconst (v := 5) hx hb dX3_pass_115 (by decide) ?_
              refine lv_iadd hx hb dX3_pass_116 ?_
              refine cy_top (nI_add (5 * c) 5) ?_
              refine lv_icmp_ge (tgt := 193) hx hb dX3_pass_117 (by decide) (fun c_117 => ?_) (fun c_117 => ?_)
              · skip
                have q_117 := cy_le (a := ((5 * c) + 5)) (b := (5 * c + i)) (by omega) (by omega) c_117
                obtain rfl : i = 5 := by omega
                have L_193 : ∀ (H : Heap) (locs : List Loc), cy_W D A s.heap (cy_Mw kI kZ ad (cq_p3 S c).1 tl) H locs → ∀ (ls : Array Slot), lv_has ls 8 [(5, .int ((cq_p3 S c).2)), (0, .ref (ad 0)), (1, .int (nI c)), (2, .int x)] → W p l e rm_X3_pass s m args below meth co H locs 0 0 Q (F0 m 193 ls []) := by
                  intro   H locs hW ls hl
                  refine lv_aload_n hx hb dX3_pass_193 rfl (lv_at hl 1 rfl) ?_
                  refine lv_iload_n hx hb dX3_pass_194 rfl (lv_at hl 2 rfl) ?_
                  refine cy_callV (rm := rm_X3_all) (As := [.int (nI c)]) (rest := []) (q0 := 0) (ci := 3) hC.1 hC.2.1 hC.2.2 hW (c_X3_all (c := c) (by omega)) (cwV 1 hts gX3_pass_X3_all rfl rfl rfl (by decide +kernel) ⟨Nat.le_of_ble_eq_true rfl, Nat.le_of_ble_eq_true rfl⟩) (cy_w_at (by decide) (rfl)) rfl rfl hl.1 rfl (Nat.le_of_ble_eq_true rfl) dX3_pass_195 ⟨Nat.le_of_ble_eq_true rfl, Nat.le_of_ble_eq_true rfl⟩ (k' := 0) (n' := 0) rfl rfl (fun H locs hW => ?_)
                  refine lv_istore (lv' := [(6, .int (cq_al ((cq_p3 S c).1) c)), (5, .int ((cq_p3 S c).2)), (0, .ref (ad 0)), (1, .int (nI c)), (2, .int x)]) hx hb dX3_pass_198 hl (by decide) rfl (fun ls hl => ?_)
                  refine lv_aload_n hx hb dX3_pass_200 rfl (lv_at hl 2 rfl) ?_
                  refine cy_get hC (0) (by decide) hi3 hW (rfl) rfl 19 (by decide) (hts (.fieldLink RX3 51 "CaskYardModel" "air" "[I") (by decide +kernel)) (fun _ h9 => h9) (v := .ref (ad 13)) rfl dX3_pass_201 ?_
                  refine lv_iload_n hx hb dX3_pass_204 rfl (lv_at hl 3 rfl) ?_
                  refine lv_iload hx hb dX3_pass_205 (lv_at hl 0 rfl) ?_
                  refine lv_if_le (tgt := 241) hx hb dX3_pass_207 (by decide) (fun c_207 => ?_) (fun c_207 => ?_)
                  · skip
                    refine lv_iconst (v := 0) hx hb dX3_pass_241 (by decide) ?_
                    refine cy_iast hC (13) (by decide) hW 0 (i := c) (rfl) rfl (by omega) (by decide) (upd ((cq_p3 S c).1 13) c 0) rfl (S' := (va_up (cq_p3 S c).1 13 (upd ((cq_p3 S c).1 13) c 0))) rfl dX3_pass_242 (fun H locs hW => ?_)
                    have L_243 : ∀ (H : Heap) (locs : List Loc), cy_W D A s.heap (cy_Mw kI kZ ad (cq_p4 S c) tl) H locs → ∀ (ls : Array Slot), lv_has ls 8 [(6, .int (cq_lf S c)), (5, .int ((cq_p3 S c).2)), (0, .ref (ad 0)), (1, .int (nI c)), (2, .int x)] → W p l e rm_X3_pass s m args below meth co H locs 0 0 Q (F0 m 243 ls []) := by
                      intro   H locs hW ls hl
                      refine lv_aload_n hx hb dX3_pass_243 rfl (lv_at hl 2 rfl) ?_
                      refine cy_get hC (0) (by decide) hi3 hW (rfl) rfl 19 (by decide) (hts (.fieldLink RX3 51 "CaskYardModel" "air" "[I") (by decide +kernel)) (fun _ h9 => h9) (v := .ref (ad 13)) rfl dX3_pass_244 ?_
                      refine lv_iload_n hx hb dX3_pass_247 rfl (lv_at hl 3 rfl) ?_
                      refine cy_iald hC (13) (by decide) hW 0 (i := c) (rfl) rfl (by omega) (by decide) dX3_pass_248 ?_
                      refine lv_bipush (v := 6) hx hb dX3_pass_249 (by decide) ?_
                      refine lv_icmp_ne (tgt := 299) hx hb dX3_pass_251 (by decide) (fun c_251 => ?_) (fun c_251 => ?_)
                      · skip
                        have L_299 : ∀ (H : Heap) (locs : List Loc), cy_W D A s.heap (cy_Mw kI kZ ad (cq_p5 S c) tl) H locs → ∀ (ls : Array Slot), lv_has ls 8 [(5, .int ((cq_p3 S c).2)), (0, .ref (ad 0)), (1, .int (nI c)), (2, .int x)] → W p l e rm_X3_pass s m args below meth co H locs 0 0 Q (F0 m 299 ls []) := by
                          intro   H locs hW ls hl
                          refine lv_iconst (v := 0) hx hb dX3_pass_299 (by decide) ?_
                          refine lv_istore (lv' := [(7, .int 0), (5, .int ((cq_p3 S c).2)), (0, .ref (ad 0)), (1, .int (nI c)), (2, .int x)]) hx hb dX3_pass_300 hl (by decide) rfl (fun ls hl => ?_)
                          have L_302 : ∀ (fu : Nat) (i : Nat), cq_hn S c - i < fu → (i ≤ cq_hn S c) → (i = 0 ∨ x - x / 12 * 12 = 0) → ∀ (H : Heap) (locs : List Loc), cy_W D A s.heap (cy_Mw kI kZ ad (cq_ln (cq_p5 S c) c i) tl) H locs → ∀ (ls : Array Slot), lv_has ls 8 [(7, .int (nI i)), (5, .int ((cq_p3 S c).2)), (0, .ref (ad 0)), (1, .int (nI c)), (2, .int x)] → W p l e rm_X3_pass s m args below meth co H locs 0 0 Q (F0 m 302 ls []) := by
                            intro fu
                            induction fu with
                            | zero => intro i hn; exact absurd hn (Nat.not_lt_zero _)
                            | succ fu ih_302 =>
                              intro i hn_302 hi he H locs hW ls hl
                              have hq5 : cq_ok (cq_ln (cq_p5 S c) c i) := cq_ok_of (by rw [cq_ln_n (by decide), cq_p5_n (by decide) (by decide) (by decide) (by decide)]) (by rw [cq_ln_n (by decide), cq_p5_n (by decide) (by decide) (by decide) (by decide)]) hq
                              refine lv_iload hx hb dX3_pass_302 (lv_at hl 0 rfl) ?_
                              refine lv_aload_n hx hb dX3_pass_304 rfl (lv_at hl 2 rfl) ?_
                              refine lv_iload_n hx hb dX3_pass_305 rfl (lv_at hl 3 rfl) ?_
                              refine cy_callV (rm := rm_X3_hoopsOf) (As := [.int (nI c)]) (rest := [.int (nI i)]) (q0 := 0) (ci := 3) hC.1 hC.2.1 hC.2.2 hW (c_X3_hoopsOf (c := c) (by omega) hq5) (cwV 1 hts gX3_pass_X3_hoopsOf rfl rfl rfl (by decide +kernel) ⟨Nat.le_of_ble_eq_true rfl, Nat.le_of_ble_eq_true rfl⟩) (cy_w_at (by decide) (rfl)) rfl rfl hl.1 rfl (Nat.le_of_ble_eq_true rfl) dX3_pass_306 ⟨Nat.le_of_ble_eq_true rfl, Nat.le_of_ble_eq_true rfl⟩ (k' := 0) (n' := 0) rfl rfl (fun H locs hW => ?_)
                              refine cy_topv (show _ = Value.int (nI (cq_hn S c)) from (congrArg (fun z => Value.int (nI z)) (cq_hn_c (by rw [cq_ln_n (by decide), cq_p5_n (by decide) (by decide) (by decide) (by decide)]) (by rw [cq_ln_n (by decide), cq_p5_n (by decide) (by decide) (by decide) (by decide)]) (by rw [cq_ln_n (by decide), cq_p5_n (by decide) (by decide) (by decide) (by decide)])))) ?_
                              refine lv_icmp_ge (tgt := 355) hx hb dX3_pass_309 (by decide) (fun c_309 => ?_) (fun c_309 => ?_)
                              · skip
                                have q_309 := cy_le (a := (cq_hn S c)) (b := i) (by omega) (by omega) c_309
                                have hW := cy_castS (cq_pc_e he q_309 hi) hW
                                refine lv_iload hx hb dX3_pass_355 (lv_at hl 1 rfl) ?_
                                exact hE  _ _ _ _ _ _ (Nat.le_of_ble_eq_true rfl) (Nat.le_of_ble_eq_true rfl) hW dX3_pass_357
                              · skip
                                have q_309 := cy_nle (a := (cq_hn S c)) (b := i) (by omega) (by omega) c_309
                                refine lv_iload_n hx hb dX3_pass_312 rfl (lv_at hl 4 rfl) ?_
                                refine lv_bipush (v := 12) hx hb dX3_pass_313 (by decide) ?_
                                refine lv_irem hx hb dX3_pass_315 (by decide) ?_
                                refine lv_if_ne (tgt := 355) hx hb dX3_pass_316 (by decide) (fun c_316 => ?_) (fun c_316 => ?_)
                                · skip
                                  have hW := cy_castS (show cq_ln (cq_p5 S c) c i = cq_pc S c x from by unfold cq_pc; rw [if_neg c_316, he.resolve_right c_316]; rfl) hW
                                  refine lv_iload hx hb dX3_pass_355 (lv_at hl 1 rfl) ?_
                                  exact hE  _ _ _ _ _ _ (Nat.le_of_ble_eq_true rfl) (Nat.le_of_ble_eq_true rfl) hW dX3_pass_357
                                · skip
                                  refine lv_aload_n hx hb dX3_pass_319 rfl (lv_at hl 2 rfl) ?_
                                  refine cy_get hC (0) (by decide) hi3 hW (rfl) rfl 16 (by decide) (hts (.fieldLink RX3 42 "CaskYardModel" "tension" "[I") (by decide +kernel)) (fun _ h9 => h9) (v := .ref (ad 10)) rfl dX3_pass_320 ?_
                                  refine lv_bipush (v := 8) hx hb dX3_pass_323 (by decide) ?_
                                  refine lv_iload_n hx hb dX3_pass_325 rfl (lv_at hl 3 rfl) ?_
                                  refine lv_imul hx hb dX3_pass_326 ?_
                                  refine cy_top (pk_mul 8 c) ?_
                                  refine lv_iload hx hb dX3_pass_327 (lv_at hl 0 rfl) ?_
                                  refine lv_iadd hx hb dX3_pass_329 ?_
                                  refine cy_top (nI_add (8 * c) i) ?_
                                  refine lv_iconst (v := 0) hx hb dX3_pass_330 (by decide) ?_
                                  refine lv_aload_n hx hb dX3_pass_331 rfl (lv_at hl 2 rfl) ?_
                                  refine cy_get hC (0) (by decide) hi3 hW (rfl) rfl 16 (by decide) (hts (.fieldLink RX3 42 "CaskYardModel" "tension" "[I") (by decide +kernel)) (fun _ h9 => h9) (v := .ref (ad 10)) rfl dX3_pass_332 ?_
                                  refine lv_bipush (v := 8) hx hb dX3_pass_335 (by decide) ?_
                                  refine lv_iload_n hx hb dX3_pass_337 rfl (lv_at hl 3 rfl) ?_
                                  refine lv_imul hx hb dX3_pass_338 ?_
                                  refine cy_top (pk_mul 8 c) ?_
                                  refine lv_iload hx hb dX3_pass_339 (lv_at hl 0 rfl) ?_
                                  refine lv_iadd hx hb dX3_pass_341 ?_
                                  refine cy_top (nI_add (8 * c) i) ?_
                                  refine cy_iald hC (10) (by decide) hW 0 (i := ((8 * c) + i)) (rfl) rfl (by omega) (by decide) dX3_pass_342 ?_
                                  refine lv_iconst (v := 1) hx hb dX3_pass_343 (by decide) ?_
                                  refine lv_isub hx hb dX3_pass_344 ?_
                                  refine va_mmax hx hb (hml.trans hl.1.symm) hown (hts (.methodLink RX3 128 Lib.Math.max.name) (by decide +kernel)) (hts (.static Lib.Math.max.name) (by decide +kernel)) (hts (.initialized "java/lang/Math") (by decide +kernel)) (hts (.code Lib.Math.max.name Lib.Math.max.code 2 (some .int)) (by decide +kernel)) (Nat.le_of_ble_eq_true rfl) (Nat.le_of_ble_eq_true rfl) (Nat.le_of_ble_eq_true rfl) (Nat.le_of_ble_eq_true rfl) dX3_pass_345 ?_
                                  refine cy_topv (show _ = Value.int (cy_mx 0 ((((cq_ln (cq_p5 S c) c i) 10) ((8 * c) + i)) - 1)) from rfl) ?_
                                  refine cy_iast hC (10) (by decide) hW 0 (i := ((8 * c) + i)) (rfl) rfl (by omega) (by decide) (upd ((cq_ln (cq_p5 S c) c i) 10) ((8 * c) + i) (cy_mx 0 ((((cq_ln (cq_p5 S c) c i) 10) ((8 * c) + i)) - 1))) rfl (S' := (va_up (cq_ln (cq_p5 S c) c i) 10 (upd ((cq_ln (cq_p5 S c) c i) 10) ((8 * c) + i) (cy_mx 0 ((((cq_ln (cq_p5 S c) c i) 10) ((8 * c) + i)) - 1))))) rfl dX3_pass_348 (fun H locs hW => ?_)
                                  refine lv_iinc (v := nI (i + 1)) (lv' := [(7, .int (nI (i + 1))), (5, .int ((cq_p3 S c).2)), (0, .ref (ad 0)), (1, .int (nI c)), (2, .int x)]) hx hb dX3_pass_349 hl (k := 0) rfl (nI_1 i) (by decide) rfl (fun ls hl => ?_)
                                  refine lv_goto (tgt := 302) hx hb dX3_pass_352 (by decide) ?_
                                  exact ih_302 (i + 1) (by omega) (by omega) (Or.inr c_316) _ _ hW _ (lv_sub hl [0, 1, 2, 3, 4] rfl)
                          exact L_302 ((cq_hn S c - 0) + 1) 0 (Nat.lt_succ_self _) (Nat.zero_le _) (Or.inl rfl) _ _ hW _ (lv_sub hl [0, 1, 2, 3, 4] rfl)
                        have hW := cy_castS (show (cq_p4 S c) = (cq_p5 S c) from by simp only [cq_p5, c_251, ↓reduceIte]) hW
                        exact L_299   _ _ hW _ (lv_sub hl [1, 2, 3, 4] rfl)
                      · skip
                        refine lv_iconst (v := 0) hx hb dX3_pass_254 (by decide) ?_
                        refine lv_istore (lv' := [(7, .int 0), (6, .int (cq_lf S c)), (5, .int ((cq_p3 S c).2)), (0, .ref (ad 0)), (1, .int (nI c)), (2, .int x)]) hx hb dX3_pass_255 hl (by decide) rfl (fun ls hl => ?_)
                        have L_257 : ∀ (fu : Nat) (k : Nat), 5 - k < fu → (k ≤ 5) → ∀ (H : Heap) (locs : List Loc), cy_W D A s.heap (cy_Mw kI kZ ad (cq_vi (cq_p4 S c) c (cq_lf S c) k) tl) H locs → ∀ (ls : Array Slot), lv_has ls 8 [(7, .int (nI k)), (6, .int (cq_lf S c)), (5, .int ((cq_p3 S c).2)), (0, .ref (ad 0)), (1, .int (nI c)), (2, .int x)] → W p l e rm_X3_pass s m args below meth co H locs 0 0 Q (F0 m 257 ls []) := by
                          intro fu
                          induction fu with
                          | zero => intro k hn; exact absurd hn (Nat.not_lt_zero _)
                          | succ fu ih_257 =>
                            intro k hn_257 hk H locs hW ls hl
                            refine lv_iload hx hb dX3_pass_257 (lv_at hl 0 rfl) ?_
                            refine lv_iconst (v := 5) hx hb dX3_pass_259 (by decide) ?_
                            refine lv_icmp_ge (tgt := 292) hx hb dX3_pass_260 (by decide) (fun c_260 => ?_) (fun c_260 => ?_)
                            · skip
                              have q_260 := cy_le (a := 5) (b := k) (by omega) (by omega) c_260
                              obtain rfl : k = 5 := by omega
                              refine lv_aload_n hx hb dX3_pass_292 rfl (lv_at hl 3 rfl) ?_
                              refine cy_get hC (0) (by decide) hi3 hW (rfl) rfl 19 (by decide) (hts (.fieldLink RX3 51 "CaskYardModel" "air" "[I") (by decide +kernel)) (fun _ h9 => h9) (v := .ref (ad 13)) rfl dX3_pass_293 ?_
                              refine lv_iload_n hx hb dX3_pass_296 rfl (lv_at hl 4 rfl) ?_
                              refine lv_iconst (v := 0) hx hb dX3_pass_297 (by decide) ?_
                              refine cy_iast hC (13) (by decide) hW 0 (i := c) (rfl) rfl (by omega) (by decide) (upd ((cq_vi (cq_p4 S c) c (cq_lf S c) 5) 13) c 0) rfl (S' := (va_up (cq_vi (cq_p4 S c) c (cq_lf S c) 5) 13 (upd ((cq_vi (cq_p4 S c) c (cq_lf S c) 5) 13) c 0))) rfl dX3_pass_298 (fun H locs hW => ?_)
                              have L_299 : ∀ (H : Heap) (locs : List Loc), cy_W D A s.heap (cy_Mw kI kZ ad (cq_p5 S c) tl) H locs → ∀ (ls : Array Slot), lv_has ls 8 [(5, .int ((cq_p3 S c).2)), (0, .ref (ad 0)), (1, .int (nI c)), (2, .int x)] → W p l e rm_X3_pass s m args below meth co H locs 0 0 Q (F0 m 299 ls []) := by
                                intro   H locs hW ls hl
                                refine lv_iconst (v := 0) hx hb dX3_pass_299 (by decide) ?_
                                refine lv_istore (lv' := [(7, .int 0), (5, .int ((cq_p3 S c).2)), (0, .ref (ad 0)), (1, .int (nI c)), (2, .int x)]) hx hb dX3_pass_300 hl (by decide) rfl (fun ls hl => ?_)
                                have L_302 : ∀ (fu : Nat) (i : Nat), cq_hn S c - i < fu → (i ≤ cq_hn S c) → (i = 0 ∨ x - x / 12 * 12 = 0) → ∀ (H : Heap) (locs : List Loc), cy_W D A s.heap (cy_Mw kI kZ ad (cq_ln (cq_p5 S c) c i) tl) H locs → ∀ (ls : Array Slot), lv_has ls 8 [(7, .int (nI i)), (5, .int ((cq_p3 S c).2)), (0, .ref (ad 0)), (1, .int (nI c)), (2, .int x)] → W p l e rm_X3_pass s m args below meth co H locs 0 0 Q (F0 m 302 ls []) := by
                                  intro fu
                                  induction fu with
                                  | zero => intro i hn; exact absurd hn (Nat.not_lt_zero _)
                                  | succ fu ih_302 =>
                                    intro i hn_302 hi he H locs hW ls hl
                                    have hq5 : cq_ok (cq_ln (cq_p5 S c) c i) := cq_ok_of (by rw [cq_ln_n (by decide), cq_p5_n (by decide) (by decide) (by decide) (by decide)]) (by rw [cq_ln_n (by decide), cq_p5_n (by decide) (by decide) (by decide) (by decide)]) hq
                                    refine lv_iload hx hb dX3_pass_302 (lv_at hl 0 rfl) ?_
                                    refine lv_aload_n hx hb dX3_pass_304 rfl (lv_at hl 2 rfl) ?_
                                    refine lv_iload_n hx hb dX3_pass_305 rfl (lv_at hl 3 rfl) ?_
                                    refine cy_callV (rm := rm_X3_hoopsOf) (As := [.int (nI c)]) (rest := [.int (nI i)]) (q0 := 0) (ci := 3) hC.1 hC.2.1 hC.2.2 hW (c_X3_hoopsOf (c := c) (by omega) hq5) (cwV 1 hts gX3_pass_X3_hoopsOf rfl rfl rfl (by decide +kernel) ⟨Nat.le_of_ble_eq_true rfl, Nat.le_of_ble_eq_true rfl⟩) (cy_w_at (by decide) (rfl)) rfl rfl hl.1 rfl (Nat.le_of_ble_eq_true rfl) dX3_pass_306 ⟨Nat.le_of_ble_eq_true rfl, Nat.le_of_ble_eq_true rfl⟩ (k' := 0) (n' := 0) rfl rfl (fun H locs hW => ?_)
                                    refine cy_topv (show _ = Value.int (nI (cq_hn S c)) from (congrArg (fun z => Value.int (nI z)) (cq_hn_c (by rw [cq_ln_n (by decide), cq_p5_n (by decide) (by decide) (by decide) (by decide)]) (by rw [cq_ln_n (by decide), cq_p5_n (by decide) (by decide) (by decide) (by decide)]) (by rw [cq_ln_n (by decide), cq_p5_n (by decide) (by decide) (by decide) (by decide)])))) ?_
                                    refine lv_icmp_ge (tgt := 355) hx hb dX3_pass_309 (by decide) (fun c_309 => ?_) (fun c_309 => ?_)
                                    · skip
                                      have q_309 := cy_le (a := (cq_hn S c)) (b := i) (by omega) (by omega) c_309
                                      have hW := cy_castS (cq_pc_e he q_309 hi) hW
                                      refine lv_iload hx hb dX3_pass_355 (lv_at hl 1 rfl) ?_
                                      exact hE  _ _ _ _ _ _ (Nat.le_of_ble_eq_true rfl) (Nat.le_of_ble_eq_true rfl) hW dX3_pass_357
                                    · skip
                                      have q_309 := cy_nle (a := (cq_hn S c)) (b := i) (by omega) (by omega) c_309
                                      refine lv_iload_n hx hb dX3_pass_312 rfl (lv_at hl 4 rfl) ?_
                                      refine lv_bipush (v := 12) hx hb dX3_pass_313 (by decide) ?_
                                      refine lv_irem hx hb dX3_pass_315 (by decide) ?_
                                      refine lv_if_ne (tgt := 355) hx hb dX3_pass_316 (by decide) (fun c_316 => ?_) (fun c_316 => ?_)
                                      · skip
                                        have hW := cy_castS (show cq_ln (cq_p5 S c) c i = cq_pc S c x from by unfold cq_pc; rw [if_neg c_316, he.resolve_right c_316]; rfl) hW
                                        refine lv_iload hx hb dX3_pass_355 (lv_at hl 1 rfl) ?_
                                        exact hE  _ _ _ _ _ _ (Nat.le_of_ble_eq_true rfl) (Nat.le_of_ble_eq_true rfl) hW dX3_pass_357
                                      · skip
                                        refine lv_aload_n hx hb dX3_pass_319 rfl (lv_at hl 2 rfl) ?_
                                        refine cy_get hC (0) (by decide) hi3 hW (rfl) rfl 16 (by decide) (hts (.fieldLink RX3 42 "CaskYardModel" "tension" "[I") (by decide +kernel)) (fun _ h9 => h9) (v := .ref (ad 10)) rfl dX3_pass_320 ?_
                                        refine lv_bipush (v := 8) hx hb dX3_pass_323 (by decide) ?_
                                        refine lv_iload_n hx hb dX3_pass_325 rfl (lv_at hl 3 rfl) ?_
                                        refine lv_imul hx hb dX3_pass_326 ?_
                                        refine cy_top (pk_mul 8 c) ?_
                                        refine lv_iload hx hb dX3_pass_327 (lv_at hl 0 rfl) ?_
                                        refine lv_iadd hx hb dX3_pass_329 ?_
                                        refine cy_top (nI_add (8 * c) i) ?_
                                        refine lv_iconst (v := 0) hx hb dX3_pass_330 (by decide) ?_
                                        refine lv_aload_n hx hb dX3_pass_331 rfl (lv_at hl 2 rfl) ?_
                                        refine cy_get hC (0) (by decide) hi3 hW (rfl) rfl 16 (by decide) (hts (.fieldLink RX3 42 "CaskYardModel" "tension" "[I") (by decide +kernel)) (fun _ h9 => h9) (v := .ref (ad 10)) rfl dX3_pass_332 ?_
                                        refine lv_bipush (v := 8) hx hb dX3_pass_335 (by decide) ?_
                                        refine lv_iload_n hx hb dX3_pass_337 rfl (lv_at hl 3 rfl) ?_
                                        refine lv_imul hx hb dX3_pass_338 ?_
                                        refine cy_top (pk_mul 8 c) ?_
                                        refine lv_iload hx hb dX3_pass_339 (lv_at hl 0 rfl) ?_
                                        refine lv_iadd hx hb dX3_pass_341 ?_
                                        refine cy_top (nI_add (8 * c) i) ?_
                                        refine cy_iald hC (10) (by decide) hW 0 (i := ((8 * c) + i)) (rfl) rfl (by omega) (by decide) dX3_pass_342 ?_
                                        refine lv_iconst (v := 1) hx hb dX3_pass_343 (by decide) ?_
                                        refine lv_isub hx hb dX3_pass_344 ?_
                                        refine va_mmax hx hb (hml.trans hl.1.symm) hown (hts (.methodLink RX3 128 Lib.Math.max.name) (by decide +kernel)) (hts (.static Lib.Math.max.name) (by decide +kernel)) (hts (.initialized "java/lang/Math") (by decide +kernel)) (hts (.code Lib.Math.max.name Lib.Math.max.code 2 (some .int)) (by decide +kernel)) (Nat.le_of_ble_eq_true rfl) (Nat.le_of_ble_eq_true rfl) (Nat.le_of_ble_eq_true rfl) (Nat.le_of_ble_eq_true rfl) dX3_pass_345 ?_
                                        refine cy_topv (show _ = Value.int (cy_mx 0 ((((cq_ln (cq_p5 S c) c i) 10) ((8 * c) + i)) - 1)) from rfl) ?_
                                        refine cy_iast hC (10) (by decide) hW 0 (i := ((8 * c) + i)) (rfl) rfl (by omega) (by decide) (upd ((cq_ln (cq_p5 S c) c i) 10) ((8 * c) + i) (cy_mx 0 ((((cq_ln (cq_p5 S c) c i) 10) ((8 * c) + i)) - 1))) rfl (S' := (va_up (cq_ln (cq_p5 S c) c i) 10 (upd ((cq_ln (cq_p5 S c) c i) 10) ((8 * c) + i) (cy_mx 0 ((((cq_ln (cq_p5 S c) c i) 10) ((8 * c) + i)) - 1))))) rfl dX3_pass_348 (fun H locs hW => ?_)
                                        refine lv_iinc (v := nI (i + 1)) (lv' := [(7, .int (nI (i + 1))), (5, .int ((cq_p3 S c).2)), (0, .ref (ad 0)), (1, .int (nI c)), (2, .int x)]) hx hb dX3_pass_349 hl (k := 0) rfl (nI_1 i) (by decide) rfl (fun ls hl => ?_)
                                        refine lv_goto (tgt := 302) hx hb dX3_pass_352 (by decide) ?_
                                        exact ih_302 (i + 1) (by omega) (by omega) (Or.inr c_316) _ _ hW _ (lv_sub hl [0, 1, 2, 3, 4] rfl)
                                exact L_302 ((cq_hn S c - 0) + 1) 0 (Nat.lt_succ_self _) (Nat.zero_le _) (Or.inl rfl) _ _ hW _ (lv_sub hl [0, 1, 2, 3, 4] rfl)
                              have hW := cy_castS (show (va_up (cq_vi (cq_p4 S c) c (cq_lf S c) 5) 13 (upd ((cq_vi (cq_p4 S c) c (cq_lf S c) 5) 13) c 0)) = (cq_p5 S c) from by simp only [cq_p5, c_251, c_260, ↓reduceIte]) hW
                              exact L_299   _ _ hW _ (lv_sub hl [2, 3, 4, 5] rfl)
                            · skip
                              have q_260 := cy_nle (a := 5) (b := k) (by omega) (by omega) c_260
                              refine lv_aload_n hx hb dX3_pass_263 rfl (lv_at hl 3 rfl) ?_
                              refine cy_get hC (0) (by decide) hi3 hW (rfl) rfl 20 (by decide) (hts (.fieldLink RX3 54 "CaskYardModel" "holds" "[I") (by decide +kernel)) (fun _ h9 => h9) (v := .ref (ad 14)) rfl dX3_pass_264 ?_
                              refine lv_iconst (v := 5) hx hb dX3_pass_267 (by decide) ?_
                              refine lv_iload_n hx hb dX3_pass_268 rfl (lv_at hl 4 rfl) ?_
                              refine lv_imul hx hb dX3_pass_269 ?_
                              refine cy_top (pk_mul 5 c) ?_
                              refine lv_iload hx hb dX3_pass_270 (lv_at hl 0 rfl) ?_
                              refine lv_iadd hx hb dX3_pass_272 ?_
                              refine cy_top (nI_add (5 * c) k) ?_
                              refine lv_iload hx hb dX3_pass_273 (lv_at hl 0 rfl) ?_
                              refine lv_iconst (v := 4) hx hb dX3_pass_275 (by decide) ?_
                              refine lv_icmp_ne (tgt := 284) hx hb dX3_pass_276 (by decide) (fun c_276 => ?_) (fun c_276 => ?_)
                              · skip
                                have q_276 := cy_ne (a := k) (b := 4) (by omega) (by omega) c_276
                                refine lv_iconst (v := 0) hx hb dX3_pass_284 (by decide) ?_
                                refine cy_iast hC (14) (by decide) hW 0 (i := ((5 * c) + k)) (rfl) rfl (by omega) (by decide) (upd ((cq_vi (cq_p4 S c) c (cq_lf S c) k) 14) ((5 * c) + k) 0) rfl (S' := (va_up (cq_vi (cq_p4 S c) c (cq_lf S c) k) 14 (upd ((cq_vi (cq_p4 S c) c (cq_lf S c) k) 14) ((5 * c) + k) 0))) rfl dX3_pass_285 (fun H locs hW => ?_)
                                refine lv_iinc (v := nI (k + 1)) (lv' := [(7, .int (nI (k + 1))), (6, .int (cq_lf S c)), (5, .int ((cq_p3 S c).2)), (0, .ref (ad 0)), (1, .int (nI c)), (2, .int x)]) hx hb dX3_pass_286 hl (k := 0) rfl (nI_1 k) (by decide) rfl (fun ls hl => ?_)
                                refine lv_goto (tgt := 257) hx hb dX3_pass_289 (by decide) ?_
                                have hW := cy_castS (show (va_up (cq_vi (cq_p4 S c) c (cq_lf S c) k) 14 (upd ((cq_vi (cq_p4 S c) c (cq_lf S c) k) 14) ((5 * c) + k) 0)) = (cq_vi (cq_p4 S c) c (cq_lf S c) (k + 1)) from by simp only [cq_vi, c_251, c_260, c_276, ↓reduceIte]) hW
                                exact ih_257 (k + 1) (by omega) (by omega) _ _ hW _ (lv_sub hl [0, 1, 2, 3, 4, 5] rfl)
                              · skip
                                have q_276 := cy_eq (a := k) (b := 4) (by omega) (by omega) c_276
                                refine lv_iload hx hb dX3_pass_279 (lv_at hl 1 rfl) ?_
                                refine lv_goto (tgt := 285) hx hb dX3_pass_281 (by decide) ?_
                                refine cy_iast hC (14) (by decide) hW 0 (i := ((5 * c) + k)) (rfl) rfl (by omega) (by decide) (upd ((cq_vi (cq_p4 S c) c (cq_lf S c) k) 14) ((5 * c) + k) (cq_lf S c)) rfl (S' := (va_up (cq_vi (cq_p4 S c) c (cq_lf S c) k) 14 (upd ((cq_vi (cq_p4 S c) c (cq_lf S c) k) 14) ((5 * c) + k) (cq_lf S c)))) rfl dX3_pass_285 (fun H locs hW => ?_)
                                refine lv_iinc (v := nI (k + 1)) (lv' := [(7, .int (nI (k + 1))), (6, .int (cq_lf S c)), (5, .int ((cq_p3 S c).2)), (0, .ref (ad 0)), (1, .int (nI c)), (2, .int x)]) hx hb dX3_pass_286 hl (k := 0) rfl (nI_1 k) (by decide) rfl (fun ls hl => ?_)
                                refine lv_goto (tgt := 257) hx hb dX3_pass_289 (by decide) ?_
                                have hW := cy_castS (show (va_up (cq_vi (cq_p4 S c) c (cq_lf S c) k) 14 (upd ((cq_vi (cq_p4 S c) c (cq_lf S c) k) 14) ((5 * c) + k) (cq_lf S c))) = (cq_vi (cq_p4 S c) c (cq_lf S c) (k + 1)) from by simp only [cq_vi, c_251, c_260, c_276, ↓reduceIte]) hW
                                exact ih_257 (k + 1) (by omega) (by omega) _ _ hW _ (lv_sub hl [0, 1, 2, 3, 4, 5] rfl)
                        exact L_257 ((5 - 0) + 1) 0 (Nat.lt_succ_self _) (by omega) _ _ hW _ (lv_sub hl [0, 1, 2, 3, 4, 5] rfl)
                    have hW := cy_castS (show (va_up (cq_p3 S c).1 13 (upd ((cq_p3 S c).1 13) c 0)) = (cq_p4 S c) from by simp only [cq_p4, cq_lf, c_207, ↓reduceIte]) hW
                    exact L_243   _ _ hW _ (lv_sub hl [0, 1, 2, 3, 4] rfl)
                  · skip
                    refine lv_iconst (v := 5) hx hb dX3_pass_210 (by decide) ?_
                    refine lv_iload hx hb dX3_pass_211 (lv_at hl 0 rfl) ?_
                    refine lv_imul hx hb dX3_pass_213 ?_
                    refine lv_iconst (v := 4) hx hb dX3_pass_214 (by decide) ?_
                    refine lv_aload_n hx hb dX3_pass_215 rfl (lv_at hl 2 rfl) ?_
                    refine cy_get hC (0) (by decide) hi3 hW (rfl) rfl 10 (by decide) (hts (.fieldLink RX3 26 "CaskYardModel" "room" "[I") (by decide +kernel)) (fun _ h9 => h9) (v := .ref (ad 5)) rfl dX3_pass_216 ?_
                    refine lv_aload_n hx hb dX3_pass_219 rfl (lv_at hl 2 rfl) ?_
                    refine cy_get hC (0) (by decide) hi3 hW (rfl) rfl 13 (by decide) (hts (.fieldLink RX3 32 "CaskYardModel" "sort" "[I") (by decide +kernel)) (fun _ h9 => h9) (v := .ref (ad 7)) rfl dX3_pass_220 ?_
                    refine lv_iload_n hx hb dX3_pass_223 rfl (lv_at hl 3 rfl) ?_
                    refine cy_iald hC (7) (by decide) hW 0 (i := c) (rfl) rfl (by omega) (by decide) dX3_pass_224 ?_
                    refine cy_top (y := nI (cq_so S c)) (by rw [cq_p3_n (by decide) (by decide) (by decide)]; exact (hq.1 c hc).2) ?_
                    refine cy_iald hC (5) (by decide) hW 0 (i := (cq_so S c)) (rfl) rfl (hq.1 c hc).1 (by decide) dX3_pass_225 ?_
                    refine lv_imul hx hb dX3_pass_226 ?_
                    refine lv_icmp_ge (tgt := 241) hx hb dX3_pass_227 (by decide) (fun c_227 => ?_) (fun c_227 => ?_)
                    · skip
                      refine lv_iconst (v := 0) hx hb dX3_pass_241 (by decide) ?_
                      refine cy_iast hC (13) (by decide) hW 0 (i := c) (rfl) rfl (by omega) (by decide) (upd ((cq_p3 S c).1 13) c 0) rfl (S' := (va_up (cq_p3 S c).1 13 (upd ((cq_p3 S c).1 13) c 0))) rfl dX3_pass_242 (fun H locs hW => ?_)
                      have L_243 : ∀ (H : Heap) (locs : List Loc), cy_W D A s.heap (cy_Mw kI kZ ad (cq_p4 S c) tl) H locs → ∀ (ls : Array Slot), lv_has ls 8 [(6, .int (cq_lf S c)), (5, .int ((cq_p3 S c).2)), (0, .ref (ad 0)), (1, .int (nI c)), (2, .int x)] → W p l e rm_X3_pass s m args below meth co H locs 0 0 Q (F0 m 243 ls []) := by
                        intro   H locs hW ls hl
                        refine lv_aload_n hx hb dX3_pass_243 rfl (lv_at hl 2 rfl) ?_
                        refine cy_get hC (0) (by decide) hi3 hW (rfl) rfl 19 (by decide) (hts (.fieldLink RX3 51 "CaskYardModel" "air" "[I") (by decide +kernel)) (fun _ h9 => h9) (v := .ref (ad 13)) rfl dX3_pass_244 ?_
                        refine lv_iload_n hx hb dX3_pass_247 rfl (lv_at hl 3 rfl) ?_
                        refine cy_iald hC (13) (by decide) hW 0 (i := c) (rfl) rfl (by omega) (by decide) dX3_pass_248 ?_
                        refine lv_bipush (v := 6) hx hb dX3_pass_249 (by decide) ?_
                        refine lv_icmp_ne (tgt := 299) hx hb dX3_pass_251 (by decide) (fun c_251 => ?_) (fun c_251 => ?_)
                        · skip
                          have L_299 : ∀ (H : Heap) (locs : List Loc), cy_W D A s.heap (cy_Mw kI kZ ad (cq_p5 S c) tl) H locs → ∀ (ls : Array Slot), lv_has ls 8 [(5, .int ((cq_p3 S c).2)), (0, .ref (ad 0)), (1, .int (nI c)), (2, .int x)] → W p l e rm_X3_pass s m args below meth co H locs 0 0 Q (F0 m 299 ls []) := by
                            intro   H locs hW ls hl
                            refine lv_iconst (v := 0) hx hb dX3_pass_299 (by decide) ?_
                            refine lv_istore (lv' := [(7, .int 0), (5, .int ((cq_p3 S c).2)), (0, .ref (ad 0)), (1, .int (nI c)), (2, .int x)]) hx hb dX3_pass_300 hl (by decide) rfl (fun ls hl => ?_)
                            have L_302 : ∀ (fu : Nat) (i : Nat), cq_hn S c - i < fu → (i ≤ cq_hn S c) → (i = 0 ∨ x - x / 12 * 12 = 0) → ∀ (H : Heap) (locs : List Loc), cy_W D A s.heap (cy_Mw kI kZ ad (cq_ln (cq_p5 S c) c i) tl) H locs → ∀ (ls : Array Slot), lv_has ls 8 [(7, .int (nI i)), (5, .int ((cq_p3 S c).2)), (0, .ref (ad 0)), (1, .int (nI c)), (2, .int x)] → W p l e rm_X3_pass s m args below meth co H locs 0 0 Q (F0 m 302 ls []) := by
                              intro fu
                              induction fu with
                              | zero => intro i hn; exact absurd hn (Nat.not_lt_zero _)
                              | succ fu ih_302 =>
                                intro i hn_302 hi he H locs hW ls hl
                                have hq5 : cq_ok (cq_ln (cq_p5 S c) c i) := cq_ok_of (by rw [cq_ln_n (by decide), cq_p5_n (by decide) (by decide) (by decide) (by decide)]) (by rw [cq_ln_n (by decide), cq_p5_n (by decide) (by decide) (by decide) (by decide)]) hq
                                refine lv_iload hx hb dX3_pass_302 (lv_at hl 0 rfl) ?_
                                refine lv_aload_n hx hb dX3_pass_304 rfl (lv_at hl 2 rfl) ?_
                                refine lv_iload_n hx hb dX3_pass_305 rfl (lv_at hl 3 rfl) ?_
                                refine cy_callV (rm := rm_X3_hoopsOf) (As := [.int (nI c)]) (rest := [.int (nI i)]) (q0 := 0) (ci := 3) hC.1 hC.2.1 hC.2.2 hW (c_X3_hoopsOf (c := c) (by omega) hq5) (cwV 1 hts gX3_pass_X3_hoopsOf rfl rfl rfl (by decide +kernel) ⟨Nat.le_of_ble_eq_true rfl, Nat.le_of_ble_eq_true rfl⟩) (cy_w_at (by decide) (rfl)) rfl rfl hl.1 rfl (Nat.le_of_ble_eq_true rfl) dX3_pass_306 ⟨Nat.le_of_ble_eq_true rfl, Nat.le_of_ble_eq_true rfl⟩ (k' := 0) (n' := 0) rfl rfl (fun H locs hW => ?_)
                                refine cy_topv (show _ = Value.int (nI (cq_hn S c)) from (congrArg (fun z => Value.int (nI z)) (cq_hn_c (by rw [cq_ln_n (by decide), cq_p5_n (by decide) (by decide) (by decide) (by decide)]) (by rw [cq_ln_n (by decide), cq_p5_n (by decide) (by decide) (by decide) (by decide)]) (by rw [cq_ln_n (by decide), cq_p5_n (by decide) (by decide) (by decide) (by decide)])))) ?_
                                refine lv_icmp_ge (tgt := 355) hx hb dX3_pass_309 (by decide) (fun c_309 => ?_) (fun c_309 => ?_)
                                · skip
                                  have q_309 := cy_le (a := (cq_hn S c)) (b := i) (by omega) (by omega) c_309
                                  have hW := cy_castS (cq_pc_e he q_309 hi) hW
                                  refine lv_iload hx hb dX3_pass_355 (lv_at hl 1 rfl) ?_
                                  exact hE  _ _ _ _ _ _ (Nat.le_of_ble_eq_true rfl) (Nat.le_of_ble_eq_true rfl) hW dX3_pass_357
                                · skip
                                  have q_309 := cy_nle (a := (cq_hn S c)) (b := i) (by omega) (by omega) c_309
                                  refine lv_iload_n hx hb dX3_pass_312 rfl (lv_at hl 4 rfl) ?_
                                  refine lv_bipush (v := 12) hx hb dX3_pass_313 (by decide) ?_
                                  refine lv_irem hx hb dX3_pass_315 (by decide) ?_
                                  refine lv_if_ne (tgt := 355) hx hb dX3_pass_316 (by decide) (fun c_316 => ?_) (fun c_316 => ?_)
                                  · skip
                                    have hW := cy_castS (show cq_ln (cq_p5 S c) c i = cq_pc S c x from by unfold cq_pc; rw [if_neg c_316, he.resolve_right c_316]; rfl) hW
                                    refine lv_iload hx hb dX3_pass_355 (lv_at hl 1 rfl) ?_
                                    exact hE  _ _ _ _ _ _ (Nat.le_of_ble_eq_true rfl) (Nat.le_of_ble_eq_true rfl) hW dX3_pass_357
                                  · skip
                                    refine lv_aload_n hx hb dX3_pass_319 rfl (lv_at hl 2 rfl) ?_
                                    refine cy_get hC (0) (by decide) hi3 hW (rfl) rfl 16 (by decide) (hts (.fieldLink RX3 42 "CaskYardModel" "tension" "[I") (by decide +kernel)) (fun _ h9 => h9) (v := .ref (ad 10)) rfl dX3_pass_320 ?_
                                    refine lv_bipush (v := 8) hx hb dX3_pass_323 (by decide) ?_
                                    refine lv_iload_n hx hb dX3_pass_325 rfl (lv_at hl 3 rfl) ?_
                                    refine lv_imul hx hb dX3_pass_326 ?_
                                    refine cy_top (pk_mul 8 c) ?_
                                    refine lv_iload hx hb dX3_pass_327 (lv_at hl 0 rfl) ?_
                                    refine lv_iadd hx hb dX3_pass_329 ?_
                                    refine cy_top (nI_add (8 * c) i) ?_
                                    refine lv_iconst (v := 0) hx hb dX3_pass_330 (by decide) ?_
                                    refine lv_aload_n hx hb dX3_pass_331 rfl (lv_at hl 2 rfl) ?_
                                    refine cy_get hC (0) (by decide) hi3 hW (rfl) rfl 16 (by decide) (hts (.fieldLink RX3 42 "CaskYardModel" "tension" "[I") (by decide +kernel)) (fun _ h9 => h9) (v := .ref (ad 10)) rfl dX3_pass_332 ?_
                                    refine lv_bipush (v := 8) hx hb dX3_pass_335 (by decide) ?_
                                    refine lv_iload_n hx hb dX3_pass_337 rfl (lv_at hl 3 rfl) ?_
                                    refine lv_imul hx hb dX3_pass_338 ?_
                                    refine cy_top (pk_mul 8 c) ?_
                                    refine lv_iload hx hb dX3_pass_339 (lv_at hl 0 rfl) ?_
                                    refine lv_iadd hx hb dX3_pass_341 ?_
                                    refine cy_top (nI_add (8 * c) i) ?_
                                    refine cy_iald hC (10) (by decide) hW 0 (i := ((8 * c) + i)) (rfl) rfl (by omega) (by decide) dX3_pass_342 ?_
                                    refine lv_iconst (v := 1) hx hb dX3_pass_343 (by decide) ?_
                                    refine lv_isub hx hb dX3_pass_344 ?_
                                    refine va_mmax hx hb (hml.trans hl.1.symm) hown (hts (.methodLink RX3 128 Lib.Math.max.name) (by decide +kernel)) (hts (.static Lib.Math.max.name) (by decide +kernel)) (hts (.initialized "java/lang/Math") (by decide +kernel)) (hts (.code Lib.Math.max.name Lib.Math.max.code 2 (some .int)) (by decide +kernel)) (Nat.le_of_ble_eq_true rfl) (Nat.le_of_ble_eq_true rfl) (Nat.le_of_ble_eq_true rfl) (Nat.le_of_ble_eq_true rfl) dX3_pass_345 ?_
                                    refine cy_topv (show _ = Value.int (cy_mx 0 ((((cq_ln (cq_p5 S c) c i) 10) ((8 * c) + i)) - 1)) from rfl) ?_
                                    refine cy_iast hC (10) (by decide) hW 0 (i := ((8 * c) + i)) (rfl) rfl (by omega) (by decide) (upd ((cq_ln (cq_p5 S c) c i) 10) ((8 * c) + i) (cy_mx 0 ((((cq_ln (cq_p5 S c) c i) 10) ((8 * c) + i)) - 1))) rfl (S' := (va_up (cq_ln (cq_p5 S c) c i) 10 (upd ((cq_ln (cq_p5 S c) c i) 10) ((8 * c) + i) (cy_mx 0 ((((cq_ln (cq_p5 S c) c i) 10) ((8 * c) + i)) - 1))))) rfl dX3_pass_348 (fun H locs hW => ?_)
                                    refine lv_iinc (v := nI (i + 1)) (lv' := [(7, .int (nI (i + 1))), (5, .int ((cq_p3 S c).2)), (0, .ref (ad 0)), (1, .int (nI c)), (2, .int x)]) hx hb dX3_pass_349 hl (k := 0) rfl (nI_1 i) (by decide) rfl (fun ls hl => ?_)
                                    refine lv_goto (tgt := 302) hx hb dX3_pass_352 (by decide) ?_
                                    exact ih_302 (i + 1) (by omega) (by omega) (Or.inr c_316) _ _ hW _ (lv_sub hl [0, 1, 2, 3, 4] rfl)
                            exact L_302 ((cq_hn S c - 0) + 1) 0 (Nat.lt_succ_self _) (Nat.zero_le _) (Or.inl rfl) _ _ hW _ (lv_sub hl [0, 1, 2, 3, 4] rfl)
                          have hW := cy_castS (show (cq_p4 S c) = (cq_p5 S c) from by simp only [cq_p5, c_251, ↓reduceIte]) hW
                          exact L_299   _ _ hW _ (lv_sub hl [1, 2, 3, 4] rfl)
                        · skip
                          refine lv_iconst (v := 0) hx hb dX3_pass_254 (by decide) ?_
                          refine lv_istore (lv' := [(7, .int 0), (6, .int (cq_lf S c)), (5, .int ((cq_p3 S c).2)), (0, .ref (ad 0)), (1, .int (nI c)), (2, .int x)]) hx hb dX3_pass_255 hl (by decide) rfl (fun ls hl => ?_)
                          have L_257 : ∀ (fu : Nat) (k : Nat), 5 - k < fu → (k ≤ 5) → ∀ (H : Heap) (locs : List Loc), cy_W D A s.heap (cy_Mw kI kZ ad (cq_vi (cq_p4 S c) c (cq_lf S c) k) tl) H locs → ∀ (ls : Array Slot), lv_has ls 8 [(7, .int (nI k)), (6, .int (cq_lf S c)), (5, .int ((cq_p3 S c).2)), (0, .ref (ad 0)), (1, .int (nI c)), (2, .int x)] → W p l e rm_X3_pass s m args below meth co H locs 0 0 Q (F0 m 257 ls []) := by
                            intro fu
                            induction fu with
                            | zero => intro k hn; exact absurd hn (Nat.not_lt_zero _)
                            | succ fu ih_257 =>
                              intro k hn_257 hk H locs hW ls hl
                              refine lv_iload hx hb dX3_pass_257 (lv_at hl 0 rfl) ?_
                              refine lv_iconst (v := 5) hx hb dX3_pass_259 (by decide) ?_
                              refine lv_icmp_ge (tgt := 292) hx hb dX3_pass_260 (by decide) (fun c_260 => ?_) (fun c_260 => ?_)
                              · skip
                                have q_260 := cy_le (a := 5) (b := k) (by omega) (by omega) c_260
                                obtain rfl : k = 5 := by omega
                                refine lv_aload_n hx hb dX3_pass_292 rfl (lv_at hl 3 rfl) ?_
                                refine cy_get hC (0) (by decide) hi3 hW (rfl) rfl 19 (by decide) (hts (.fieldLink RX3 51 "CaskYardModel" "air" "[I") (by decide +kernel)) (fun _ h9 => h9) (v := .ref (ad 13)) rfl dX3_pass_293 ?_
                                refine lv_iload_n hx hb dX3_pass_296 rfl (lv_at hl 4 rfl) ?_
                                refine lv_iconst (v := 0) hx hb dX3_pass_297 (by decide) ?_
                                refine cy_iast hC (13) (by decide) hW 0 (i := c) (rfl) rfl (by omega) (by decide) (upd ((cq_vi (cq_p4 S c) c (cq_lf S c) 5) 13) c 0) rfl (S' := (va_up (cq_vi (cq_p4 S c) c (cq_lf S c) 5) 13 (upd ((cq_vi (cq_p4 S c) c (cq_lf S c) 5) 13) c 0))) rfl dX3_pass_298 (fun H locs hW => ?_)
                                have L_299 : ∀ (H : Heap) (locs : List Loc), cy_W D A s.heap (cy_Mw kI kZ ad (cq_p5 S c) tl) H locs → ∀ (ls : Array Slot), lv_has ls 8 [(5, .int ((cq_p3 S c).2)), (0, .ref (ad 0)), (1, .int (nI c)), (2, .int x)] → W p l e rm_X3_pass s m args below meth co H locs 0 0 Q (F0 m 299 ls []) := by
                                  intro   H locs hW ls hl
                                  refine lv_iconst (v := 0) hx hb dX3_pass_299 (by decide) ?_
                                  refine lv_istore (lv' := [(7, .int 0), (5, .int ((cq_p3 S c).2)), (0, .ref (ad 0)), (1, .int (nI c)), (2, .int x)]) hx hb dX3_pass_300 hl (by decide) rfl (fun ls hl => ?_)
                                  have L_302 : ∀ (fu : Nat) (i : Nat), cq_hn S c - i < fu → (i ≤ cq_hn S c) → (i = 0 ∨ x - x / 12 * 12 = 0) → ∀ (H : Heap) (locs : List Loc), cy_W D A s.heap (cy_Mw kI kZ ad (cq_ln (cq_p5 S c) c i) tl) H locs → ∀ (ls : Array Slot), lv_has ls 8 [(7, .int (nI i)), (5, .int ((cq_p3 S c).2)), (0, .ref (ad 0)), (1, .int (nI c)), (2, .int x)] → W p l e rm_X3_pass s m args below meth co H locs 0 0 Q (F0 m 302 ls []) := by
                                    intro fu
                                    induction fu with
                                    | zero => intro i hn; exact absurd hn (Nat.not_lt_zero _)
                                    | succ fu ih_302 =>
                                      intro i hn_302 hi he H locs hW ls hl
                                      have hq5 : cq_ok (cq_ln (cq_p5 S c) c i) := cq_ok_of (by rw [cq_ln_n (by decide), cq_p5_n (by decide) (by decide) (by decide) (by decide)]) (by rw [cq_ln_n (by decide), cq_p5_n (by decide) (by decide) (by decide) (by decide)]) hq
                                      refine lv_iload hx hb dX3_pass_302 (lv_at hl 0 rfl) ?_
                                      refine lv_aload_n hx hb dX3_pass_304 rfl (lv_at hl 2 rfl) ?_
                                      refine lv_iload_n hx hb dX3_pass_305 rfl (lv_at hl 3 rfl) ?_
                                      refine cy_callV (rm := rm_X3_hoopsOf) (As := [.int (nI c)]) (rest := [.int (nI i)]) (q0 := 0) (ci := 3) hC.1 hC.2.1 hC.2.2 hW (c_X3_hoopsOf (c := c) (by omega) hq5) (cwV 1 hts gX3_pass_X3_hoopsOf rfl rfl rfl (by decide +kernel) ⟨Nat.le_of_ble_eq_true rfl, Nat.le_of_ble_eq_true rfl⟩) (cy_w_at (by decide) (rfl)) rfl rfl hl.1 rfl (Nat.le_of_ble_eq_true rfl) dX3_pass_306 ⟨Nat.le_of_ble_eq_true rfl, Nat.le_of_ble_eq_true rfl⟩ (k' := 0) (n' := 0) rfl rfl (fun H locs hW => ?_)
                                      refine cy_topv (show _ = Value.int (nI (cq_hn S c)) from (congrArg (fun z => Value.int (nI z)) (cq_hn_c (by rw [cq_ln_n (by decide), cq_p5_n (by decide) (by decide) (by decide) (by decide)]) (by rw [cq_ln_n (by decide), cq_p5_n (by decide) (by decide) (by decide) (by decide)]) (by rw [cq_ln_n (by decide), cq_p5_n (by decide) (by decide) (by decide) (by decide)])))) ?_
                                      refine lv_icmp_ge (tgt := 355) hx hb dX3_pass_309 (by decide) (fun c_309 => ?_) (fun c_309 => ?_)
                                      · skip
                                        have q_309 := cy_le (a := (cq_hn S c)) (b := i) (by omega) (by omega) c_309
                                        have hW := cy_castS (cq_pc_e he q_309 hi) hW
                                        refine lv_iload hx hb dX3_pass_355 (lv_at hl 1 rfl) ?_
                                        exact hE  _ _ _ _ _ _ (Nat.le_of_ble_eq_true rfl) (Nat.le_of_ble_eq_true rfl) hW dX3_pass_357
                                      · skip
                                        have q_309 := cy_nle (a := (cq_hn S c)) (b := i) (by omega) (by omega) c_309
                                        refine lv_iload_n hx hb dX3_pass_312 rfl (lv_at hl 4 rfl) ?_
                                        refine lv_bipush (v := 12) hx hb dX3_pass_313 (by decide) ?_
                                        refine lv_irem hx hb dX3_pass_315 (by decide) ?_
                                        refine lv_if_ne (tgt := 355) hx hb dX3_pass_316 (by decide) (fun c_316 => ?_) (fun c_316 => ?_)
                                        · skip
                                          have hW := cy_castS (show cq_ln (cq_p5 S c) c i = cq_pc S c x from by unfold cq_pc; rw [if_neg c_316, he.resolve_right c_316]; rfl) hW
                                          refine lv_iload hx hb dX3_pass_355 (lv_at hl 1 rfl) ?_
                                          exact hE  _ _ _ _ _ _ (Nat.le_of_ble_eq_true rfl) (Nat.le_of_ble_eq_true rfl) hW dX3_pass_357
                                        · skip
                                          refine lv_aload_n hx hb dX3_pass_319 rfl (lv_at hl 2 rfl) ?_
                                          refine cy_get hC (0) (by decide) hi3 hW (rfl) rfl 16 (by decide) (hts (.fieldLink RX3 42 "CaskYardModel" "tension" "[I") (by decide +kernel)) (fun _ h9 => h9) (v := .ref (ad 10)) rfl dX3_pass_320 ?_
                                          refine lv_bipush (v := 8) hx hb dX3_pass_323 (by decide) ?_
                                          refine lv_iload_n hx hb dX3_pass_325 rfl (lv_at hl 3 rfl) ?_
                                          refine lv_imul hx hb dX3_pass_326 ?_
                                          refine cy_top (pk_mul 8 c) ?_
                                          refine lv_iload hx hb dX3_pass_327 (lv_at hl 0 rfl) ?_
                                          refine lv_iadd hx hb dX3_pass_329 ?_
                                          refine cy_top (nI_add (8 * c) i) ?_
                                          refine lv_iconst (v := 0) hx hb dX3_pass_330 (by decide) ?_
                                          refine lv_aload_n hx hb dX3_pass_331 rfl (lv_at hl 2 rfl) ?_
                                          refine cy_get hC (0) (by decide) hi3 hW (rfl) rfl 16 (by decide) (hts (.fieldLink RX3 42 "CaskYardModel" "tension" "[I") (by decide +kernel)) (fun _ h9 => h9) (v := .ref (ad 10)) rfl dX3_pass_332 ?_
                                          refine lv_bipush (v := 8) hx hb dX3_pass_335 (by decide) ?_
                                          refine lv_iload_n hx hb dX3_pass_337 rfl (lv_at hl 3 rfl) ?_
                                          refine lv_imul hx hb dX3_pass_338 ?_
                                          refine cy_top (pk_mul 8 c) ?_
                                          refine lv_iload hx hb dX3_pass_339 (lv_at hl 0 rfl) ?_
                                          refine lv_iadd hx hb dX3_pass_341 ?_
                                          refine cy_top (nI_add (8 * c) i) ?_
                                          refine cy_iald hC (10) (by decide) hW 0 (i := ((8 * c) + i)) (rfl) rfl (by omega) (by decide) dX3_pass_342 ?_
                                          refine lv_iconst (v := 1) hx hb dX3_pass_343 (by decide) ?_
                                          refine lv_isub hx hb dX3_pass_344 ?_
                                          refine va_mmax hx hb (hml.trans hl.1.symm) hown (hts (.methodLink RX3 128 Lib.Math.max.name) (by decide +kernel)) (hts (.static Lib.Math.max.name) (by decide +kernel)) (hts (.initialized "java/lang/Math") (by decide +kernel)) (hts (.code Lib.Math.max.name Lib.Math.max.code 2 (some .int)) (by decide +kernel)) (Nat.le_of_ble_eq_true rfl) (Nat.le_of_ble_eq_true rfl) (Nat.le_of_ble_eq_true rfl) (Nat.le_of_ble_eq_true rfl) dX3_pass_345 ?_
                                          refine cy_topv (show _ = Value.int (cy_mx 0 ((((cq_ln (cq_p5 S c) c i) 10) ((8 * c) + i)) - 1)) from rfl) ?_
                                          refine cy_iast hC (10) (by decide) hW 0 (i := ((8 * c) + i)) (rfl) rfl (by omega) (by decide) (upd ((cq_ln (cq_p5 S c) c i) 10) ((8 * c) + i) (cy_mx 0 ((((cq_ln (cq_p5 S c) c i) 10) ((8 * c) + i)) - 1))) rfl (S' := (va_up (cq_ln (cq_p5 S c) c i) 10 (upd ((cq_ln (cq_p5 S c) c i) 10) ((8 * c) + i) (cy_mx 0 ((((cq_ln (cq_p5 S c) c i) 10) ((8 * c) + i)) - 1))))) rfl dX3_pass_348 (fun H locs hW => ?_)
                                          refine lv_iinc (v := nI (i + 1)) (lv' := [(7, .int (nI (i + 1))), (5, .int ((cq_p3 S c).2)), (0, .ref (ad 0)), (1, .int (nI c)), (2, .int x)]) hx hb dX3_pass_349 hl (k := 0) rfl (nI_1 i) (by decide) rfl (fun ls hl => ?_)
                                          refine lv_goto (tgt := 302) hx hb dX3_pass_352 (by decide) ?_
                                          exact ih_302 (i + 1) (by omega) (by omega) (Or.inr c_316) _ _ hW _ (lv_sub hl [0, 1, 2, 3, 4] rfl)
                                  exact L_302 ((cq_hn S c - 0) + 1) 0 (Nat.lt_succ_self _) (Nat.zero_le _) (Or.inl rfl) _ _ hW _ (lv_sub hl [0, 1, 2, 3, 4] rfl)
                                have hW := cy_castS (show (va_up (cq_vi (cq_p4 S c) c (cq_lf S c) 5) 13 (upd ((cq_vi (cq_p4 S c) c (cq_lf S c) 5) 13) c 0)) = (cq_p5 S c) from by simp only [cq_p5, c_251, c_260, ↓reduceIte]) hW
                                exact L_299   _ _ hW _ (lv_sub hl [2, 3, 4, 5] rfl)
                              · skip
                                have q_260 := cy_nle (a := 5) (b := k) (by omega) (by omega) c_260
                                refine lv_aload_n hx hb dX3_pass_263 rfl (lv_at hl 3 rfl) ?_
                                refine cy_get hC (0) (by decide) hi3 hW (rfl) rfl 20 (by decide) (hts (.fieldLink RX3 54 "CaskYardModel" "holds" "[I") (by decide +kernel)) (fun _ h9 => h9) (v := .ref (ad 14)) rfl dX3_pass_264 ?_
                                refine lv_iconst (v := 5) hx hb dX3_pass_267 (by decide) ?_
                                refine lv_iload_n hx hb dX3_pass_268 rfl (lv_at hl 4 rfl) ?_
                                refine lv_imul hx hb dX3_pass_269 ?_
                                refine cy_top (pk_mul 5 c) ?_
                                refine lv_iload hx hb dX3_pass_270 (lv_at hl 0 rfl) ?_
                                refine lv_iadd hx hb dX3_pass_272 ?_
                                refine cy_top (nI_add (5 * c) k) ?_
                                refine lv_iload hx hb dX3_pass_273 (lv_at hl 0 rfl) ?_
                                refine lv_iconst (v := 4) hx hb dX3_pass_275 (by decide) ?_
                                refine lv_icmp_ne (tgt := 284) hx hb dX3_pass_276 (by decide) (fun c_276 => ?_) (fun c_276 => ?_)
                                · skip
                                  have q_276 := cy_ne (a := k) (b := 4) (by omega) (by omega) c_276
                                  refine lv_iconst (v := 0) hx hb dX3_pass_284 (by decide) ?_
                                  refine cy_iast hC (14) (by decide) hW 0 (i := ((5 * c) + k)) (rfl) rfl (by omega) (by decide) (upd ((cq_vi (cq_p4 S c) c (cq_lf S c) k) 14) ((5 * c) + k) 0) rfl (S' := (va_up (cq_vi (cq_p4 S c) c (cq_lf S c) k) 14 (upd ((cq_vi (cq_p4 S c) c (cq_lf S c) k) 14) ((5 * c) + k) 0))) rfl dX3_pass_285 (fun H locs hW => ?_)
                                  refine lv_iinc (v := nI (k + 1)) (lv' := [(7, .int (nI (k + 1))), (6, .int (cq_lf S c)), (5, .int ((cq_p3 S c).2)), (0, .ref (ad 0)), (1, .int (nI c)), (2, .int x)]) hx hb dX3_pass_286 hl (k := 0) rfl (nI_1 k) (by decide) rfl (fun ls hl => ?_)
                                  refine lv_goto (tgt := 257) hx hb dX3_pass_289 (by decide) ?_
                                  have hW := cy_castS (show (va_up (cq_vi (cq_p4 S c) c (cq_lf S c) k) 14 (upd ((cq_vi (cq_p4 S c) c (cq_lf S c) k) 14) ((5 * c) + k) 0)) = (cq_vi (cq_p4 S c) c (cq_lf S c) (k + 1)) from by simp only [cq_vi, c_251, c_260, c_276, ↓reduceIte]) hW
                                  exact ih_257 (k + 1) (by omega) (by omega) _ _ hW _ (lv_sub hl [0, 1, 2, 3, 4, 5] rfl)
                                · skip
                                  have q_276 := cy_eq (a := k) (b := 4) (by omega) (by omega) c_276
                                  refine lv_iload hx hb dX3_pass_279 (lv_at hl 1 rfl) ?_
                                  refine lv_goto (tgt := 285) hx hb dX3_pass_281 (by decide) ?_
                                  refine cy_iast hC (14) (by decide) hW 0 (i := ((5 * c) + k)) (rfl) rfl (by omega) (by decide) (upd ((cq_vi (cq_p4 S c) c (cq_lf S c) k) 14) ((5 * c) + k) (cq_lf S c)) rfl (S' := (va_up (cq_vi (cq_p4 S c) c (cq_lf S c) k) 14 (upd ((cq_vi (cq_p4 S c) c (cq_lf S c) k) 14) ((5 * c) + k) (cq_lf S c)))) rfl dX3_pass_285 (fun H locs hW => ?_)
                                  refine lv_iinc (v := nI (k + 1)) (lv' := [(7, .int (nI (k + 1))), (6, .int (cq_lf S c)), (5, .int ((cq_p3 S c).2)), (0, .ref (ad 0)), (1, .int (nI c)), (2, .int x)]) hx hb dX3_pass_286 hl (k := 0) rfl (nI_1 k) (by decide) rfl (fun ls hl => ?_)
                                  refine lv_goto (tgt := 257) hx hb dX3_pass_289 (by decide) ?_
                                  have hW := cy_castS (show (va_up (cq_vi (cq_p4 S c) c (cq_lf S c) k) 14 (upd ((cq_vi (cq_p4 S c) c (cq_lf S c) k) 14) ((5 * c) + k) (cq_lf S c))) = (cq_vi (cq_p4 S c) c (cq_lf S c) (k + 1)) from by simp only [cq_vi, c_251, c_260, c_276, ↓reduceIte]) hW
                                  exact ih_257 (k + 1) (by omega) (by omega) _ _ hW _ (lv_sub hl [0, 1, 2, 3, 4, 5] rfl)
                          exact L_257 ((5 - 0) + 1) 0 (Nat.lt_succ_self _) (by omega) _ _ hW _ (lv_sub hl [0, 1, 2, 3, 4, 5] rfl)
                      have hW := cy_castS (show (va_up (cq_p3 S c).1 13 (upd ((cq_p3 S c).1 13) c 0)) = (cq_p4 S c) from by simp only [cq_p4, cq_lf, c_207, c_227, ↓reduceIte]) hW
                      exact L_243   _ _ hW _ (lv_sub hl [0, 1, 2, 3, 4] rfl)
                    · skip
                      refine lv_aload_n hx hb dX3_pass_230 rfl (lv_at hl 2 rfl) ?_
                      refine cy_get hC (0) (by decide) hi3 hW (rfl) rfl 19 (by decide) (hts (.fieldLink RX3 51 "CaskYardModel" "air" "[I") (by decide +kernel)) (fun _ h9 => h9) (v := .ref (ad 13)) rfl dX3_pass_231 ?_
                      refine lv_iload_n hx hb dX3_pass_234 rfl (lv_at hl 3 rfl) ?_
                      refine cy_iald hC (13) (by decide) hW 0 (i := c) (rfl) rfl (by omega) (by decide) dX3_pass_235 ?_
                      refine lv_iconst (v := 1) hx hb dX3_pass_236 (by decide) ?_
                      refine lv_iadd hx hb dX3_pass_237 ?_
                      refine lv_goto (tgt := 242) hx hb dX3_pass_238 (by decide) ?_
                      refine cy_iast hC (13) (by decide) hW 0 (i := c) (rfl) rfl (by omega) (by decide) (upd ((cq_p3 S c).1 13) c ((((cq_p3 S c).1 13) c) + 1)) rfl (S' := (va_up (cq_p3 S c).1 13 (upd ((cq_p3 S c).1 13) c ((((cq_p3 S c).1 13) c) + 1)))) rfl dX3_pass_242 (fun H locs hW => ?_)
                      have L_243 : ∀ (H : Heap) (locs : List Loc), cy_W D A s.heap (cy_Mw kI kZ ad (cq_p4 S c) tl) H locs → ∀ (ls : Array Slot), lv_has ls 8 [(6, .int (cq_lf S c)), (5, .int ((cq_p3 S c).2)), (0, .ref (ad 0)), (1, .int (nI c)), (2, .int x)] → W p l e rm_X3_pass s m args below meth co H locs 0 0 Q (F0 m 243 ls []) := by
                        intro   H locs hW ls hl
                        refine lv_aload_n hx hb dX3_pass_243 rfl (lv_at hl 2 rfl) ?_
                        refine cy_get hC (0) (by decide) hi3 hW (rfl) rfl 19 (by decide) (hts (.fieldLink RX3 51 "CaskYardModel" "air" "[I") (by decide +kernel)) (fun _ h9 => h9) (v := .ref (ad 13)) rfl dX3_pass_244 ?_
                        refine lv_iload_n hx hb dX3_pass_247 rfl (lv_at hl 3 rfl) ?_
                        refine cy_iald hC (13) (by decide) hW 0 (i := c) (rfl) rfl (by omega) (by decide) dX3_pass_248 ?_
                        refine lv_bipush (v := 6) hx hb dX3_pass_249 (by decide) ?_
                        refine lv_icmp_ne (tgt := 299) hx hb dX3_pass_251 (by decide) (fun c_251 => ?_) (fun c_251 => ?_)
                        · skip
                          have L_299 : ∀ (H : Heap) (locs : List Loc), cy_W D A s.heap (cy_Mw kI kZ ad (cq_p5 S c) tl) H locs → ∀ (ls : Array Slot), lv_has ls 8 [(5, .int ((cq_p3 S c).2)), (0, .ref (ad 0)), (1, .int (nI c)), (2, .int x)] → W p l e rm_X3_pass s m args below meth co H locs 0 0 Q (F0 m 299 ls []) := by
                            intro   H locs hW ls hl
                            refine lv_iconst (v := 0) hx hb dX3_pass_299 (by decide) ?_
                            refine lv_istore (lv' := [(7, .int 0), (5, .int ((cq_p3 S c).2)), (0, .ref (ad 0)), (1, .int (nI c)), (2, .int x)]) hx hb dX3_pass_300 hl (by decide) rfl (fun ls hl => ?_)
                            have L_302 : ∀ (fu : Nat) (i : Nat), cq_hn S c - i < fu → (i ≤ cq_hn S c) → (i = 0 ∨ x - x / 12 * 12 = 0) → ∀ (H : Heap) (locs : List Loc), cy_W D A s.heap (cy_Mw kI kZ ad (cq_ln (cq_p5 S c) c i) tl) H locs → ∀ (ls : Array Slot), lv_has ls 8 [(7, .int (nI i)), (5, .int ((cq_p3 S c).2)), (0, .ref (ad 0)), (1, .int (nI c)), (2, .int x)] → W p l e rm_X3_pass s m args below meth co H locs 0 0 Q (F0 m 302 ls []) := by
                              intro fu
                              induction fu with
                              | zero => intro i hn; exact absurd hn (Nat.not_lt_zero _)
                              | succ fu ih_302 =>
                                intro i hn_302 hi he H locs hW ls hl
                                have hq5 : cq_ok (cq_ln (cq_p5 S c) c i) := cq_ok_of (by rw [cq_ln_n (by decide), cq_p5_n (by decide) (by decide) (by decide) (by decide)]) (by rw [cq_ln_n (by decide), cq_p5_n (by decide) (by decide) (by decide) (by decide)]) hq
                                refine lv_iload hx hb dX3_pass_302 (lv_at hl 0 rfl) ?_
                                refine lv_aload_n hx hb dX3_pass_304 rfl (lv_at hl 2 rfl) ?_
                                refine lv_iload_n hx hb dX3_pass_305 rfl (lv_at hl 3 rfl) ?_
                                refine cy_callV (rm := rm_X3_hoopsOf) (As := [.int (nI c)]) (rest := [.int (nI i)]) (q0 := 0) (ci := 3) hC.1 hC.2.1 hC.2.2 hW (c_X3_hoopsOf (c := c) (by omega) hq5) (cwV 1 hts gX3_pass_X3_hoopsOf rfl rfl rfl (by decide +kernel) ⟨Nat.le_of_ble_eq_true rfl, Nat.le_of_ble_eq_true rfl⟩) (cy_w_at (by decide) (rfl)) rfl rfl hl.1 rfl (Nat.le_of_ble_eq_true rfl) dX3_pass_306 ⟨Nat.le_of_ble_eq_true rfl, Nat.le_of_ble_eq_true rfl⟩ (k' := 0) (n' := 0) rfl rfl (fun H locs hW => ?_)
                                refine cy_topv (show _ = Value.int (nI (cq_hn S c)) from (congrArg (fun z => Value.int (nI z)) (cq_hn_c (by rw [cq_ln_n (by decide), cq_p5_n (by decide) (by decide) (by decide) (by decide)]) (by rw [cq_ln_n (by decide), cq_p5_n (by decide) (by decide) (by decide) (by decide)]) (by rw [cq_ln_n (by decide), cq_p5_n (by decide) (by decide) (by decide) (by decide)])))) ?_
                                refine lv_icmp_ge (tgt := 355) hx hb dX3_pass_309 (by decide) (fun c_309 => ?_) (fun c_309 => ?_)
                                · skip
                                  have q_309 := cy_le (a := (cq_hn S c)) (b := i) (by omega) (by omega) c_309
                                  have hW := cy_castS (cq_pc_e he q_309 hi) hW
                                  refine lv_iload hx hb dX3_pass_355 (lv_at hl 1 rfl) ?_
                                  exact hE  _ _ _ _ _ _ (Nat.le_of_ble_eq_true rfl) (Nat.le_of_ble_eq_true rfl) hW dX3_pass_357
                                · skip
                                  have q_309 := cy_nle (a := (cq_hn S c)) (b := i) (by omega) (by omega) c_309
                                  refine lv_iload_n hx hb dX3_pass_312 rfl (lv_at hl 4 rfl) ?_
                                  refine lv_bipush (v := 12) hx hb dX3_pass_313 (by decide) ?_
                                  refine lv_irem hx hb dX3_pass_315 (by decide) ?_
                                  refine lv_if_ne (tgt := 355) hx hb dX3_pass_316 (by decide) (fun c_316 => ?_) (fun c_316 => ?_)
                                  · skip
                                    have hW := cy_castS (show cq_ln (cq_p5 S c) c i = cq_pc S c x from by unfold cq_pc; rw [if_neg c_316, he.resolve_right c_316]; rfl) hW
                                    refine lv_iload hx hb dX3_pass_355 (lv_at hl 1 rfl) ?_
                                    exact hE  _ _ _ _ _ _ (Nat.le_of_ble_eq_true rfl) (Nat.le_of_ble_eq_true rfl) hW dX3_pass_357
                                  · skip
                                    refine lv_aload_n hx hb dX3_pass_319 rfl (lv_at hl 2 rfl) ?_
                                    refine cy_get hC (0) (by decide) hi3 hW (rfl) rfl 16 (by decide) (hts (.fieldLink RX3 42 "CaskYardModel" "tension" "[I") (by decide +kernel)) (fun _ h9 => h9) (v := .ref (ad 10)) rfl dX3_pass_320 ?_
                                    refine lv_bipush (v := 8) hx hb dX3_pass_323 (by decide) ?_
                                    refine lv_iload_n hx hb dX3_pass_325 rfl (lv_at hl 3 rfl) ?_
                                    refine lv_imul hx hb dX3_pass_326 ?_
                                    refine cy_top (pk_mul 8 c) ?_
                                    refine lv_iload hx hb dX3_pass_327 (lv_at hl 0 rfl) ?_
                                    refine lv_iadd hx hb dX3_pass_329 ?_
                                    refine cy_top (nI_add (8 * c) i) ?_
                                    refine lv_iconst (v := 0) hx hb dX3_pass_330 (by decide) ?_
                                    refine lv_aload_n hx hb dX3_pass_331 rfl (lv_at hl 2 rfl) ?_
                                    refine cy_get hC (0) (by decide) hi3 hW (rfl) rfl 16 (by decide) (hts (.fieldLink RX3 42 "CaskYardModel" "tension" "[I") (by decide +kernel)) (fun _ h9 => h9) (v := .ref (ad 10)) rfl dX3_pass_332 ?_
                                    refine lv_bipush (v := 8) hx hb dX3_pass_335 (by decide) ?_
                                    refine lv_iload_n hx hb dX3_pass_337 rfl (lv_at hl 3 rfl) ?_
                                    refine lv_imul hx hb dX3_pass_338 ?_
                                    refine cy_top (pk_mul 8 c) ?_
                                    refine lv_iload hx hb dX3_pass_339 (lv_at hl 0 rfl) ?_
                                    refine lv_iadd hx hb dX3_pass_341 ?_
                                    refine cy_top (nI_add (8 * c) i) ?_
                                    refine cy_iald hC (10) (by decide) hW 0 (i := ((8 * c) + i)) (rfl) rfl (by omega) (by decide) dX3_pass_342 ?_
                                    refine lv_iconst (v := 1) hx hb dX3_pass_343 (by decide) ?_
                                    refine lv_isub hx hb dX3_pass_344 ?_
                                    refine va_mmax hx hb (hml.trans hl.1.symm) hown (hts (.methodLink RX3 128 Lib.Math.max.name) (by decide +kernel)) (hts (.static Lib.Math.max.name) (by decide +kernel)) (hts (.initialized "java/lang/Math") (by decide +kernel)) (hts (.code Lib.Math.max.name Lib.Math.max.code 2 (some .int)) (by decide +kernel)) (Nat.le_of_ble_eq_true rfl) (Nat.le_of_ble_eq_true rfl) (Nat.le_of_ble_eq_true rfl) (Nat.le_of_ble_eq_true rfl) dX3_pass_345 ?_
                                    refine cy_topv (show _ = Value.int (cy_mx 0 ((((cq_ln (cq_p5 S c) c i) 10) ((8 * c) + i)) - 1)) from rfl) ?_
                                    refine cy_iast hC (10) (by decide) hW 0 (i := ((8 * c) + i)) (rfl) rfl (by omega) (by decide) (upd ((cq_ln (cq_p5 S c) c i) 10) ((8 * c) + i) (cy_mx 0 ((((cq_ln (cq_p5 S c) c i) 10) ((8 * c) + i)) - 1))) rfl (S' := (va_up (cq_ln (cq_p5 S c) c i) 10 (upd ((cq_ln (cq_p5 S c) c i) 10) ((8 * c) + i) (cy_mx 0 ((((cq_ln (cq_p5 S c) c i) 10) ((8 * c) + i)) - 1))))) rfl dX3_pass_348 (fun H locs hW => ?_)
                                    refine lv_iinc (v := nI (i + 1)) (lv' := [(7, .int (nI (i + 1))), (5, .int ((cq_p3 S c).2)), (0, .ref (ad 0)), (1, .int (nI c)), (2, .int x)]) hx hb dX3_pass_349 hl (k := 0) rfl (nI_1 i) (by decide) rfl (fun ls hl => ?_)
                                    refine lv_goto (tgt := 302) hx hb dX3_pass_352 (by decide) ?_
                                    exact ih_302 (i + 1) (by omega) (by omega) (Or.inr c_316) _ _ hW _ (lv_sub hl [0, 1, 2, 3, 4] rfl)
                            exact L_302 ((cq_hn S c - 0) + 1) 0 (Nat.lt_succ_self _) (Nat.zero_le _) (Or.inl rfl) _ _ hW _ (lv_sub hl [0, 1, 2, 3, 4] rfl)
                          have hW := cy_castS (show (cq_p4 S c) = (cq_p5 S c) from by simp only [cq_p5, c_251, ↓reduceIte]) hW
                          exact L_299   _ _ hW _ (lv_sub hl [1, 2, 3, 4] rfl)
                        · skip
                          refine lv_iconst (v := 0) hx hb dX3_pass_254 (by decide) ?_
                          refine lv_istore (lv' := [(7, .int 0), (6, .int (cq_lf S c)), (5, .int ((cq_p3 S c).2)), (0, .ref (ad 0)), (1, .int (nI c)), (2, .int x)]) hx hb dX3_pass_255 hl (by decide) rfl (fun ls hl => ?_)
                          have L_257 : ∀ (fu : Nat) (k : Nat), 5 - k < fu → (k ≤ 5) → ∀ (H : Heap) (locs : List Loc), cy_W D A s.heap (cy_Mw kI kZ ad (cq_vi (cq_p4 S c) c (cq_lf S c) k) tl) H locs → ∀ (ls : Array Slot), lv_has ls 8 [(7, .int (nI k)), (6, .int (cq_lf S c)), (5, .int ((cq_p3 S c).2)), (0, .ref (ad 0)), (1, .int (nI c)), (2, .int x)] → W p l e rm_X3_pass s m args below meth co H locs 0 0 Q (F0 m 257 ls []) := by
                            intro fu
                            induction fu with
                            | zero => intro k hn; exact absurd hn (Nat.not_lt_zero _)
                            | succ fu ih_257 =>
                              intro k hn_257 hk H locs hW ls hl
                              refine lv_iload hx hb dX3_pass_257 (lv_at hl 0 rfl) ?_
                              refine lv_iconst (v := 5) hx hb dX3_pass_259 (by decide) ?_
                              refine lv_icmp_ge (tgt := 292) hx hb dX3_pass_260 (by decide) (fun c_260 => ?_) (fun c_260 => ?_)
                              · skip
                                have q_260 := cy_le (a := 5) (b := k) (by omega) (by omega) c_260
                                obtain rfl : k = 5 := by omega
                                refine lv_aload_n hx hb dX3_pass_292 rfl (lv_at hl 3 rfl) ?_
                                refine cy_get hC (0) (by decide) hi3 hW (rfl) rfl 19 (by decide) (hts (.fieldLink RX3 51 "CaskYardModel" "air" "[I") (by decide +kernel)) (fun _ h9 => h9) (v := .ref (ad 13)) rfl dX3_pass_293 ?_
                                refine lv_iload_n hx hb dX3_pass_296 rfl (lv_at hl 4 rfl) ?_
                                refine lv_iconst (v := 0) hx hb dX3_pass_297 (by decide) ?_
                                refine cy_iast hC (13) (by decide) hW 0 (i := c) (rfl) rfl (by omega) (by decide) (upd ((cq_vi (cq_p4 S c) c (cq_lf S c) 5) 13) c 0) rfl (S' := (va_up (cq_vi (cq_p4 S c) c (cq_lf S c) 5) 13 (upd ((cq_vi (cq_p4 S c) c (cq_lf S c) 5) 13) c 0))) rfl dX3_pass_298 (fun H locs hW => ?_)
                                have L_299 : ∀ (H : Heap) (locs : List Loc), cy_W D A s.heap (cy_Mw kI kZ ad (cq_p5 S c) tl) H locs → ∀ (ls : Array Slot), lv_has ls 8 [(5, .int ((cq_p3 S c).2)), (0, .ref (ad 0)), (1, .int (nI c)), (2, .int x)] → W p l e rm_X3_pass s m args below meth co H locs 0 0 Q (F0 m 299 ls []) := by
                                  intro   H locs hW ls hl
                                  refine lv_iconst (v := 0) hx hb dX3_pass_299 (by decide) ?_
                                  refine lv_istore (lv' := [(7, .int 0), (5, .int ((cq_p3 S c).2)), (0, .ref (ad 0)), (1, .int (nI c)), (2, .int x)]) hx hb dX3_pass_300 hl (by decide) rfl (fun ls hl => ?_)
                                  have L_302 : ∀ (fu : Nat) (i : Nat), cq_hn S c - i < fu → (i ≤ cq_hn S c) → (i = 0 ∨ x - x / 12 * 12 = 0) → ∀ (H : Heap) (locs : List Loc), cy_W D A s.heap (cy_Mw kI kZ ad (cq_ln (cq_p5 S c) c i) tl) H locs → ∀ (ls : Array Slot), lv_has ls 8 [(7, .int (nI i)), (5, .int ((cq_p3 S c).2)), (0, .ref (ad 0)), (1, .int (nI c)), (2, .int x)] → W p l e rm_X3_pass s m args below meth co H locs 0 0 Q (F0 m 302 ls []) := by
                                    intro fu
                                    induction fu with
                                    | zero => intro i hn; exact absurd hn (Nat.not_lt_zero _)
                                    | succ fu ih_302 =>
                                      intro i hn_302 hi he H locs hW ls hl
                                      have hq5 : cq_ok (cq_ln (cq_p5 S c) c i) := cq_ok_of (by rw [cq_ln_n (by decide), cq_p5_n (by decide) (by decide) (by decide) (by decide)]) (by rw [cq_ln_n (by decide), cq_p5_n (by decide) (by decide) (by decide) (by decide)]) hq
                                      refine lv_iload hx hb dX3_pass_302 (lv_at hl 0 rfl) ?_
                                      refine lv_aload_n hx hb dX3_pass_304 rfl (lv_at hl 2 rfl) ?_
                                      refine lv_iload_n hx hb dX3_pass_305 rfl (lv_at hl 3 rfl) ?_
                                      refine cy_callV (rm := rm_X3_hoopsOf) (As := [.int (nI c)]) (rest := [.int (nI i)]) (q0 := 0) (ci := 3) hC.1 hC.2.1 hC.2.2 hW (c_X3_hoopsOf (c := c) (by omega) hq5) (cwV 1 hts gX3_pass_X3_hoopsOf rfl rfl rfl (by decide +kernel) ⟨Nat.le_of_ble_eq_true rfl, Nat.le_of_ble_eq_true rfl⟩) (cy_w_at (by decide) (rfl)) rfl rfl hl.1 rfl (Nat.le_of_ble_eq_true rfl) dX3_pass_306 ⟨Nat.le_of_ble_eq_true rfl, Nat.le_of_ble_eq_true rfl⟩ (k' := 0) (n' := 0) rfl rfl (fun H locs hW => ?_)
                                      refine cy_topv (show _ = Value.int (nI (cq_hn S c)) from (congrArg (fun z => Value.int (nI z)) (cq_hn_c (by rw [cq_ln_n (by decide), cq_p5_n (by decide) (by decide) (by decide) (by decide)]) (by rw [cq_ln_n (by decide), cq_p5_n (by decide) (by decide) (by decide) (by decide)]) (by rw [cq_ln_n (by decide), cq_p5_n (by decide) (by decide) (by decide) (by decide)])))) ?_
                                      refine lv_icmp_ge (tgt := 355) hx hb dX3_pass_309 (by decide) (fun c_309 => ?_) (fun c_309 => ?_)
                                      · skip
                                        have q_309 := cy_le (a := (cq_hn S c)) (b := i) (by omega) (by omega) c_309
                                        have hW := cy_castS (cq_pc_e he q_309 hi) hW
                                        refine lv_iload hx hb dX3_pass_355 (lv_at hl 1 rfl) ?_
                                        exact hE  _ _ _ _ _ _ (Nat.le_of_ble_eq_true rfl) (Nat.le_of_ble_eq_true rfl) hW dX3_pass_357
                                      · skip
                                        have q_309 := cy_nle (a := (cq_hn S c)) (b := i) (by omega) (by omega) c_309
                                        refine lv_iload_n hx hb dX3_pass_312 rfl (lv_at hl 4 rfl) ?_
                                        refine lv_bipush (v := 12) hx hb dX3_pass_313 (by decide) ?_
                                        refine lv_irem hx hb dX3_pass_315 (by decide) ?_
                                        refine lv_if_ne (tgt := 355) hx hb dX3_pass_316 (by decide) (fun c_316 => ?_) (fun c_316 => ?_)
                                        · skip
                                          have hW := cy_castS (show cq_ln (cq_p5 S c) c i = cq_pc S c x from by unfold cq_pc; rw [if_neg c_316, he.resolve_right c_316]; rfl) hW
                                          refine lv_iload hx hb dX3_pass_355 (lv_at hl 1 rfl) ?_
                                          exact hE  _ _ _ _ _ _ (Nat.le_of_ble_eq_true rfl) (Nat.le_of_ble_eq_true rfl) hW dX3_pass_357
                                        · skip
                                          refine lv_aload_n hx hb dX3_pass_319 rfl (lv_at hl 2 rfl) ?_
                                          refine cy_get hC (0) (by decide) hi3 hW (rfl) rfl 16 (by decide) (hts (.fieldLink RX3 42 "CaskYardModel" "tension" "[I") (by decide +kernel)) (fun _ h9 => h9) (v := .ref (ad 10)) rfl dX3_pass_320 ?_
                                          refine lv_bipush (v := 8) hx hb dX3_pass_323 (by decide) ?_
                                          refine lv_iload_n hx hb dX3_pass_325 rfl (lv_at hl 3 rfl) ?_
                                          refine lv_imul hx hb dX3_pass_326 ?_
                                          refine cy_top (pk_mul 8 c) ?_
                                          refine lv_iload hx hb dX3_pass_327 (lv_at hl 0 rfl) ?_
                                          refine lv_iadd hx hb dX3_pass_329 ?_
                                          refine cy_top (nI_add (8 * c) i) ?_
                                          refine lv_iconst (v := 0) hx hb dX3_pass_330 (by decide) ?_
                                          refine lv_aload_n hx hb dX3_pass_331 rfl (lv_at hl 2 rfl) ?_
                                          refine cy_get hC (0) (by decide) hi3 hW (rfl) rfl 16 (by decide) (hts (.fieldLink RX3 42 "CaskYardModel" "tension" "[I") (by decide +kernel)) (fun _ h9 => h9) (v := .ref (ad 10)) rfl dX3_pass_332 ?_
                                          refine lv_bipush (v := 8) hx hb dX3_pass_335 (by decide) ?_
                                          refine lv_iload_n hx hb dX3_pass_337 rfl (lv_at hl 3 rfl) ?_
                                          refine lv_imul hx hb dX3_pass_338 ?_
                                          refine cy_top (pk_mul 8 c) ?_
                                          refine lv_iload hx hb dX3_pass_339 (lv_at hl 0 rfl) ?_
                                          refine lv_iadd hx hb dX3_pass_341 ?_
                                          refine cy_top (nI_add (8 * c) i) ?_
                                          refine cy_iald hC (10) (by decide) hW 0 (i := ((8 * c) + i)) (rfl) rfl (by omega) (by decide) dX3_pass_342 ?_
                                          refine lv_iconst (v := 1) hx hb dX3_pass_343 (by decide) ?_
                                          refine lv_isub hx hb dX3_pass_344 ?_
                                          refine va_mmax hx hb (hml.trans hl.1.symm) hown (hts (.methodLink RX3 128 Lib.Math.max.name) (by decide +kernel)) (hts (.static Lib.Math.max.name) (by decide +kernel)) (hts (.initialized "java/lang/Math") (by decide +kernel)) (hts (.code Lib.Math.max.name Lib.Math.max.code 2 (some .int)) (by decide +kernel)) (Nat.le_of_ble_eq_true rfl) (Nat.le_of_ble_eq_true rfl) (Nat.le_of_ble_eq_true rfl) (Nat.le_of_ble_eq_true rfl) dX3_pass_345 ?_
                                          refine cy_topv (show _ = Value.int (cy_mx 0 ((((cq_ln (cq_p5 S c) c i) 10) ((8 * c) + i)) - 1)) from rfl) ?_
                                          refine cy_iast hC (10) (by decide) hW 0 (i := ((8 * c) + i)) (rfl) rfl (by omega) (by decide) (upd ((cq_ln (cq_p5 S c) c i) 10) ((8 * c) + i) (cy_mx 0 ((((cq_ln (cq_p5 S c) c i) 10) ((8 * c) + i)) - 1))) rfl (S' := (va_up (cq_ln (cq_p5 S c) c i) 10 (upd ((cq_ln (cq_p5 S c) c i) 10) ((8 * c) + i) (cy_mx 0 ((((cq_ln (cq_p5 S c) c i) 10) ((8 * c) + i)) - 1))))) rfl dX3_pass_348 (fun H locs hW => ?_)
                                          refine lv_iinc (v := nI (i + 1)) (lv' := [(7, .int (nI (i + 1))), (5, .int ((cq_p3 S c).2)), (0, .ref (ad 0)), (1, .int (nI c)), (2, .int x)]) hx hb dX3_pass_349 hl (k := 0) rfl (nI_1 i) (by decide) rfl (fun ls hl => ?_)
                                          refine lv_goto (tgt := 302) hx hb dX3_pass_352 (by decide) ?_
                                          exact ih_302 (i + 1) (by omega) (by omega) (Or.inr c_316) _ _ hW _ (lv_sub hl [0, 1, 2, 3, 4] rfl)
                                  exact L_302 ((cq_hn S c - 0) + 1) 0 (Nat.lt_succ_self _) (Nat.zero_le _) (Or.inl rfl) _ _ hW _ (lv_sub hl [0, 1, 2, 3, 4] rfl)
                                have hW := cy_castS (show (va_up (cq_vi (cq_p4 S c) c (cq_lf S c) 5) 13 (upd ((cq_vi (cq_p4 S c) c (cq_lf S c) 5) 13) c 0)) = (cq_p5 S c) from by simp only [cq_p5, c_251, c_260, ↓reduceIte]) hW
                                exact L_299   _ _ hW _ (lv_sub hl [2, 3, 4, 5] rfl)
                              · skip
                                have q_260 := cy_nle (a := 5) (b := k) (by omega) (by omega) c_260
                                refine lv_aload_n hx hb dX3_pass_263 rfl (lv_at hl 3 rfl) ?_
                                refine cy_get hC (0) (by decide) hi3 hW (rfl) rfl 20 (by decide) (hts (.fieldLink RX3 54 "CaskYardModel" "holds" "[I") (by decide +kernel)) (fun _ h9 => h9) (v := .ref (ad 14)) rfl dX3_pass_264 ?_
                                refine lv_iconst (v := 5) hx hb dX3_pass_267 (by decide) ?_
                                refine lv_iload_n hx hb dX3_pass_268 rfl (lv_at hl 4 rfl) ?_
                                refine lv_imul hx hb dX3_pass_269 ?_
                                refine cy_top (pk_mul 5 c) ?_
                                refine lv_iload hx hb dX3_pass_270 (lv_at hl 0 rfl) ?_
                                refine lv_iadd hx hb dX3_pass_272 ?_
                                refine cy_top (nI_add (5 * c) k) ?_
                                refine lv_iload hx hb dX3_pass_273 (lv_at hl 0 rfl) ?_
                                refine lv_iconst (v := 4) hx hb dX3_pass_275 (by decide) ?_
                                refine lv_icmp_ne (tgt := 284) hx hb dX3_pass_276 (by decide) (fun c_276 => ?_) (fun c_276 => ?_)
                                · skip
                                  have q_276 := cy_ne (a := k) (b := 4) (by omega) (by omega) c_276
                                  refine lv_iconst (v := 0) hx hb dX3_pass_284 (by decide) ?_
                                  refine cy_iast hC (14) (by decide) hW 0 (i := ((5 * c) + k)) (rfl) rfl (by omega) (by decide) (upd ((cq_vi (cq_p4 S c) c (cq_lf S c) k) 14) ((5 * c) + k) 0) rfl (S' := (va_up (cq_vi (cq_p4 S c) c (cq_lf S c) k) 14 (upd ((cq_vi (cq_p4 S c) c (cq_lf S c) k) 14) ((5 * c) + k) 0))) rfl dX3_pass_285 (fun H locs hW => ?_)
                                  refine lv_iinc (v := nI (k + 1)) (lv' := [(7, .int (nI (k + 1))), (6, .int (cq_lf S c)), (5, .int ((cq_p3 S c).2)), (0, .ref (ad 0)), (1, .int (nI c)), (2, .int x)]) hx hb dX3_pass_286 hl (k := 0) rfl (nI_1 k) (by decide) rfl (fun ls hl => ?_)
                                  refine lv_goto (tgt := 257) hx hb dX3_pass_289 (by decide) ?_
                                  have hW := cy_castS (show (va_up (cq_vi (cq_p4 S c) c (cq_lf S c) k) 14 (upd ((cq_vi (cq_p4 S c) c (cq_lf S c) k) 14) ((5 * c) + k) 0)) = (cq_vi (cq_p4 S c) c (cq_lf S c) (k + 1)) from by simp only [cq_vi, c_251, c_260, c_276, ↓reduceIte]) hW
                                  exact ih_257 (k + 1) (by omega) (by omega) _ _ hW _ (lv_sub hl [0, 1, 2, 3, 4, 5] rfl)
                                · skip
                                  have q_276 := cy_eq (a := k) (b := 4) (by omega) (by omega) c_276
                                  refine lv_iload hx hb dX3_pass_279 (lv_at hl 1 rfl) ?_
                                  refine lv_goto (tgt := 285) hx hb dX3_pass_281 (by decide) ?_
                                  refine cy_iast hC (14) (by decide) hW 0 (i := ((5 * c) + k)) (rfl) rfl (by omega) (by decide) (upd ((cq_vi (cq_p4 S c) c (cq_lf S c) k) 14) ((5 * c) + k) (cq_lf S c)) rfl (S' := (va_up (cq_vi (cq_p4 S c) c (cq_lf S c) k) 14 (upd ((cq_vi (cq_p4 S c) c (cq_lf S c) k) 14) ((5 * c) + k) (cq_lf S c)))) rfl dX3_pass_285 (fun H locs hW => ?_)
                                  refine lv_iinc (v := nI (k + 1)) (lv' := [(7, .int (nI (k + 1))), (6, .int (cq_lf S c)), (5, .int ((cq_p3 S c).2)), (0, .ref (ad 0)), (1, .int (nI c)), (2, .int x)]) hx hb dX3_pass_286 hl (k := 0) rfl (nI_1 k) (by decide) rfl (fun ls hl => ?_)
                                  refine lv_goto (tgt := 257) hx hb dX3_pass_289 (by decide) ?_
                                  have hW := cy_castS (show (va_up (cq_vi (cq_p4 S c) c (cq_lf S c) k) 14 (upd ((cq_vi (cq_p4 S c) c (cq_lf S c) k) 14) ((5 * c) + k) (cq_lf S c))) = (cq_vi (cq_p4 S c) c (cq_lf S c) (k + 1)) from by simp only [cq_vi, c_251, c_260, c_276, ↓reduceIte]) hW
                                  exact ih_257 (k + 1) (by omega) (by omega) _ _ hW _ (lv_sub hl [0, 1, 2, 3, 4, 5] rfl)
                          exact L_257 ((5 - 0) + 1) 0 (Nat.lt_succ_self _) (by omega) _ _ hW _ (lv_sub hl [0, 1, 2, 3, 4, 5] rfl)
                      have hW := cy_castS (show (va_up (cq_p3 S c).1 13 (upd ((cq_p3 S c).1 13) c ((((cq_p3 S c).1 13) c) + 1))) = (cq_p4 S c) from by simp only [cq_p4, cq_lf, c_207, c_227, ↓reduceIte]) hW
                      exact L_243   _ _ hW _ (lv_sub hl [0, 1, 2, 3, 4] rfl)
                exact L_193   _ _ hW _ (lv_sub hl [1, 3, 4, 5] rfl)
              · skip
                have q_117 := cy_nle (a := ((5 * c) + 5)) (b := (5 * c + i)) (by omega) (by omega) c_117
                refine lv_aload_n hx hb dX3_pass_120 rfl (lv_at hl 3 rfl) ?_
                refine cy_get hC (0) (by decide) hi3 hW (rfl) rfl 20 (by decide) (hts (.fieldLink RX3 54 "CaskYardModel" "holds" "[I") (by decide +kernel)) (fun _ h9 => h9) (v := .ref (ad 14)) rfl dX3_pass_121 ?_
                refine lv_iload hx hb dX3_pass_124 (lv_at hl 2 rfl) ?_
                refine cy_iald hC (14) (by decide) hW 0 (i := (5 * c + i)) (rfl) rfl (by omega) (by decide) dX3_pass_126 ?_
                refine lv_if_ne (tgt := 134) hx hb dX3_pass_127 (by decide) (fun c_127 => ?_) (fun c_127 => ?_)
                · skip
                  refine lv_aload_n hx hb dX3_pass_134 rfl (lv_at hl 3 rfl) ?_
                  refine cy_get hC (0) (by decide) hi3 hW (rfl) rfl 20 (by decide) (hts (.fieldLink RX3 54 "CaskYardModel" "holds" "[I") (by decide +kernel)) (fun _ h9 => h9) (v := .ref (ad 14)) rfl dX3_pass_135 ?_
                  refine lv_iload hx hb dX3_pass_138 (lv_at hl 2 rfl) ?_
                  refine cy_iald hC (14) (by decide) hW 0 (i := (5 * c + i)) (rfl) rfl (by omega) (by decide) dX3_pass_140 ?_
                  refine lv_i2l hx hb dX3_pass_141 rfl ?_
                  refine lv_lconst (v := 1) hx hb dX3_pass_142 rfl ?_
                  refine lv_aload_n hx hb dX3_pass_143 rfl (lv_at hl 3 rfl) ?_
                  refine cy_get hC (0) (by decide) hi3 hW (rfl) rfl 20 (by decide) (hts (.fieldLink RX3 54 "CaskYardModel" "holds" "[I") (by decide +kernel)) (fun _ h9 => h9) (v := .ref (ad 14)) rfl dX3_pass_144 ?_
                  refine lv_iload hx hb dX3_pass_147 (lv_at hl 2 rfl) ?_
                  refine cy_iald hC (14) (by decide) hW 0 (i := (5 * c + i)) (rfl) rfl (by omega) (by decide) dX3_pass_149 ?_
                  refine lv_i2l hx hb dX3_pass_150 rfl ?_
                  refine lv_iload hx hb dX3_pass_151 (lv_at hl 0 rfl) ?_
                  refine lv_i2l hx hb dX3_pass_153 rfl ?_
                  refine lv_lmul hx hb dX3_pass_154 ?_
                  refine lv_ldc2 (v := 1000) hx hb hown (hts (.constantLong RX3 144 1000) (by decide +kernel)) dX3_pass_155 ?_
                  refine lv_ldiv hx hb dX3_pass_158 (by decide) ?_
                  refine va_mmax_long hx hb (hml.trans hl.1.symm) hown (hts (.methodLink RX3 146 Lib.MathLoose.max_long.x) (by decide +kernel)) (hts (.static Lib.MathLoose.max_long.x) (by decide +kernel)) (hts (.initialized "java/lang/Math") (by decide +kernel)) (hts (.code Lib.MathLoose.max_long.x Lib.MathLoose.max_long.code 4 (some .long)) (by decide +kernel)) (Nat.le_of_ble_eq_true rfl) (Nat.le_of_ble_eq_true rfl) (Nat.le_of_ble_eq_true rfl) (Nat.le_of_ble_eq_true rfl) dX3_pass_159 ?_
                  refine cy_topv (show _ = Value.long (cy_mxL 1 ((((((cq_lo (cq_p2 S c) c (cq_by S c) i).1 14) (5 * c + i)).toInt64) * ((cq_by S c).toInt64)) / 1000)) from rfl) ?_
                  refine va_mmin_long hx hb (hml.trans hl.1.symm) hown (hts (.methodLink RX3 149 Lib.MathLoose.min_long.x) (by decide +kernel)) (hts (.static Lib.MathLoose.min_long.x) (by decide +kernel)) (hts (.initialized "java/lang/Math") (by decide +kernel)) (hts (.code Lib.MathLoose.min_long.x Lib.MathLoose.min_long.code 4 (some .long)) (by decide +kernel)) (Nat.le_of_ble_eq_true rfl) (Nat.le_of_ble_eq_true rfl) (Nat.le_of_ble_eq_true rfl) (Nat.le_of_ble_eq_true rfl) dX3_pass_162 ?_
                  refine cy_topv (show _ = Value.long (cy_mnL ((((cq_lo (cq_p2 S c) c (cq_by S c) i).1 14) (5 * c + i)).toInt64) (cy_mxL 1 ((((((cq_lo (cq_p2 S c) c (cq_by S c) i).1 14) (5 * c + i)).toInt64) * ((cq_by S c).toInt64)) / 1000))) from rfl) ?_
                  refine lv_l2i hx hb dX3_pass_165 rfl ?_
                  refine lv_istore (lv' := [(7, .int ((cy_mnL ((((cq_lo (cq_p2 S c) c (cq_by S c) i).1 14) (5 * c + i)).toInt64) (cy_mxL 1 ((((((cq_lo (cq_p2 S c) c (cq_by S c) i).1 14) (5 * c + i)).toInt64) * ((cq_by S c).toInt64)) / 1000))).toInt32)), (4, .int (cq_by S c)), (5, .int ((cq_lo (cq_p2 S c) c (cq_by S c) i).2)), (6, .int (nI (5 * c + i))), (0, .ref (ad 0)), (1, .int (nI c)), (2, .int x)]) hx hb dX3_pass_166 hl (by decide) rfl (fun ls hl => ?_)
                  refine lv_aload_n hx hb dX3_pass_168 rfl (lv_at hl 4 rfl) ?_
                  refine cy_get hC (0) (by decide) hi3 hW (rfl) rfl 20 (by decide) (hts (.fieldLink RX3 54 "CaskYardModel" "holds" "[I") (by decide +kernel)) (fun _ h9 => h9) (v := .ref (ad 14)) rfl dX3_pass_169 ?_
                  refine lv_iload hx hb dX3_pass_172 (lv_at hl 3 rfl) ?_
                  refine lv_dup2_11 hx hb dX3_pass_174 rfl rfl ?_
                  refine cy_iald hC (14) (by decide) hW 0 (i := (5 * c + i)) (rfl) rfl (by omega) (by decide) dX3_pass_175 ?_
                  refine lv_iload hx hb dX3_pass_176 (lv_at hl 0 rfl) ?_
                  refine lv_isub hx hb dX3_pass_178 ?_
                  refine cy_iast hC (14) (by decide) hW 0 (i := (5 * c + i)) (rfl) rfl (by omega) (by decide) (upd ((cq_lo (cq_p2 S c) c (cq_by S c) i).1 14) (5 * c + i) ((((cq_lo (cq_p2 S c) c (cq_by S c) i).1 14) (5 * c + i)) - ((cy_mnL ((((cq_lo (cq_p2 S c) c (cq_by S c) i).1 14) (5 * c + i)).toInt64) (cy_mxL 1 ((((((cq_lo (cq_p2 S c) c (cq_by S c) i).1 14) (5 * c + i)).toInt64) * ((cq_by S c).toInt64)) / 1000))).toInt32))) rfl (S' := (va_up (cq_lo (cq_p2 S c) c (cq_by S c) i).1 14 (upd ((cq_lo (cq_p2 S c) c (cq_by S c) i).1 14) (5 * c + i) ((((cq_lo (cq_p2 S c) c (cq_by S c) i).1 14) (5 * c + i)) - ((cy_mnL ((((cq_lo (cq_p2 S c) c (cq_by S c) i).1 14) (5 * c + i)).toInt64) (cy_mxL 1 ((((((cq_lo (cq_p2 S c) c (cq_by S c) i).1 14) (5 * c + i)).toInt64) * ((cq_by S c).toInt64)) / 1000))).toInt32))))) rfl dX3_pass_179 (fun H locs hW => ?_)
                  refine lv_iload hx hb dX3_pass_180 (lv_at hl 2 rfl) ?_
                  refine lv_iload hx hb dX3_pass_182 (lv_at hl 0 rfl) ?_
                  refine lv_iadd hx hb dX3_pass_184 ?_
                  refine lv_istore (lv' := [(5, .int (((cq_lo (cq_p2 S c) c (cq_by S c) i).2) + ((cy_mnL ((((cq_lo (cq_p2 S c) c (cq_by S c) i).1 14) (5 * c + i)).toInt64) (cy_mxL 1 ((((((cq_lo (cq_p2 S c) c (cq_by S c) i).1 14) (5 * c + i)).toInt64) * ((cq_by S c).toInt64)) / 1000))).toInt32))), (7, .int ((cy_mnL ((((cq_lo (cq_p2 S c) c (cq_by S c) i).1 14) (5 * c + i)).toInt64) (cy_mxL 1 ((((((cq_lo (cq_p2 S c) c (cq_by S c) i).1 14) (5 * c + i)).toInt64) * ((cq_by S c).toInt64)) / 1000))).toInt32)), (4, .int (cq_by S c)), (6, .int (nI (5 * c + i))), (0, .ref (ad 0)), (1, .int (nI c)), (2, .int x)]) hx hb dX3_pass_185 hl (by decide) rfl (fun ls hl => ?_)
                  refine lv_iinc (v := nI (5 * c + i + 1)) (lv' := [(6, .int (nI (5 * c + i + 1))), (5, .int (((cq_lo (cq_p2 S c) c (cq_by S c) i).2) + ((cy_mnL ((((cq_lo (cq_p2 S c) c (cq_by S c) i).1 14) (5 * c + i)).toInt64) (cy_mxL 1 ((((((cq_lo (cq_p2 S c) c (cq_by S c) i).1 14) (5 * c + i)).toInt64) * ((cq_by S c).toInt64)) / 1000))).toInt32))), (7, .int ((cy_mnL ((((cq_lo (cq_p2 S c) c (cq_by S c) i).1 14) (5 * c + i)).toInt64) (cy_mxL 1 ((((((cq_lo (cq_p2 S c) c (cq_by S c) i).1 14) (5 * c + i)).toInt64) * ((cq_by S c).toInt64)) / 1000))).toInt32)), (4, .int (cq_by S c)), (0, .ref (ad 0)), (1, .int (nI c)), (2, .int x)]) hx hb dX3_pass_187 hl (k := 3) rfl (nI_1 (5 * c + i)) (by decide) rfl (fun ls hl => ?_)
                  refine lv_goto (tgt := 110) hx hb dX3_pass_190 (by decide) ?_
                  rw [show ((cq_lo (cq_p2 S c) c (cq_by S c) i).2) + ((cy_mnL ((((cq_lo (cq_p2 S c) c (cq_by S c) i).1 14) (5 * c + i)).toInt64) (cy_mxL 1 ((((((cq_lo (cq_p2 S c) c (cq_by S c) i).1 14) (5 * c + i)).toInt64) * ((cq_by S c).toInt64)) / 1000))).toInt32) = (cq_lo (cq_p2 S c) c (cq_by S c) (i + 1)).2 from by simp only [cq_lo, cq_ow, cy_ls, c_117, c_127, ↓reduceIte]] at hl
                  have hW := cy_castS (show (va_up (cq_lo (cq_p2 S c) c (cq_by S c) i).1 14 (upd ((cq_lo (cq_p2 S c) c (cq_by S c) i).1 14) (5 * c + i) ((((cq_lo (cq_p2 S c) c (cq_by S c) i).1 14) (5 * c + i)) - ((cy_mnL ((((cq_lo (cq_p2 S c) c (cq_by S c) i).1 14) (5 * c + i)).toInt64) (cy_mxL 1 ((((((cq_lo (cq_p2 S c) c (cq_by S c) i).1 14) (5 * c + i)).toInt64) * ((cq_by S c).toInt64)) / 1000))).toInt32)))) = (cq_lo (cq_p2 S c) c (cq_by S c) (i + 1)).1 from by simp only [cq_lo, cq_ow, cy_ls, c_117, c_127, ↓reduceIte]) hW
                  exact ih_110 (i + 1) (by omega) (by omega) _ _ hW _ (lv_sub hl [3, 1, 0, 4, 5, 6] rfl)
                · skip
                  refine lv_iconst (v := 0) hx hb dX3_pass_130 (by decide) ?_
                  refine lv_goto (tgt := 166) hx hb dX3_pass_131 (by decide) ?_
                  refine lv_istore (lv' := [(7, .int 0), (4, .int (cq_by S c)), (5, .int ((cq_lo (cq_p2 S c) c (cq_by S c) i).2)), (6, .int (nI (5 * c + i))), (0, .ref (ad 0)), (1, .int (nI c)), (2, .int x)]) hx hb dX3_pass_166 hl (by decide) rfl (fun ls hl => ?_)
                  refine lv_aload_n hx hb dX3_pass_168 rfl (lv_at hl 4 rfl) ?_
                  refine cy_get hC (0) (by decide) hi3 hW (rfl) rfl 20 (by decide) (hts (.fieldLink RX3 54 "CaskYardModel" "holds" "[I") (by decide +kernel)) (fun _ h9 => h9) (v := .ref (ad 14)) rfl dX3_pass_169 ?_
                  refine lv_iload hx hb dX3_pass_172 (lv_at hl 3 rfl) ?_
                  refine lv_dup2_11 hx hb dX3_pass_174 rfl rfl ?_
                  refine cy_iald hC (14) (by decide) hW 0 (i := (5 * c + i)) (rfl) rfl (by omega) (by decide) dX3_pass_175 ?_
                  refine lv_iload hx hb dX3_pass_176 (lv_at hl 0 rfl) ?_
                  refine lv_isub hx hb dX3_pass_178 ?_
                  refine cy_iast hC (14) (by decide) hW 0 (i := (5 * c + i)) (rfl) rfl (by omega) (by decide) (upd ((cq_lo (cq_p2 S c) c (cq_by S c) i).1 14) (5 * c + i) ((((cq_lo (cq_p2 S c) c (cq_by S c) i).1 14) (5 * c + i)) - 0)) rfl (S' := (va_up (cq_lo (cq_p2 S c) c (cq_by S c) i).1 14 (upd ((cq_lo (cq_p2 S c) c (cq_by S c) i).1 14) (5 * c + i) ((((cq_lo (cq_p2 S c) c (cq_by S c) i).1 14) (5 * c + i)) - 0)))) rfl dX3_pass_179 (fun H locs hW => ?_)
                  refine lv_iload hx hb dX3_pass_180 (lv_at hl 2 rfl) ?_
                  refine lv_iload hx hb dX3_pass_182 (lv_at hl 0 rfl) ?_
                  refine lv_iadd hx hb dX3_pass_184 ?_
                  refine lv_istore (lv' := [(5, .int (((cq_lo (cq_p2 S c) c (cq_by S c) i).2) + 0)), (7, .int 0), (4, .int (cq_by S c)), (6, .int (nI (5 * c + i))), (0, .ref (ad 0)), (1, .int (nI c)), (2, .int x)]) hx hb dX3_pass_185 hl (by decide) rfl (fun ls hl => ?_)
                  refine lv_iinc (v := nI (5 * c + i + 1)) (lv' := [(6, .int (nI (5 * c + i + 1))), (5, .int (((cq_lo (cq_p2 S c) c (cq_by S c) i).2) + 0)), (7, .int 0), (4, .int (cq_by S c)), (0, .ref (ad 0)), (1, .int (nI c)), (2, .int x)]) hx hb dX3_pass_187 hl (k := 3) rfl (nI_1 (5 * c + i)) (by decide) rfl (fun ls hl => ?_)
                  refine lv_goto (tgt := 110) hx hb dX3_pass_190 (by decide) ?_
                  rw [show ((cq_lo (cq_p2 S c) c (cq_by S c) i).2) + 0 = (cq_lo (cq_p2 S c) c (cq_by S c) (i + 1)).2 from by simp only [cq_lo, cq_ow, cy_ls, c_117, c_127, ↓reduceIte]] at hl
                  have hW := cy_castS (show (va_up (cq_lo (cq_p2 S c) c (cq_by S c) i).1 14 (upd ((cq_lo (cq_p2 S c) c (cq_by S c) i).1 14) (5 * c + i) ((((cq_lo (cq_p2 S c) c (cq_by S c) i).1 14) (5 * c + i)) - 0))) = (cq_lo (cq_p2 S c) c (cq_by S c) (i + 1)).1 from by simp only [cq_lo, cq_ow, cy_ls, c_117, c_127, ↓reduceIte]) hW
                  exact ih_110 (i + 1) (by omega) (by omega) _ _ hW _ (lv_sub hl [3, 1, 0, 4, 5, 6] rfl)
          exact L_110 ((5 - 0) + 1) 0 (Nat.lt_succ_self _) (by omega) _ _ hW _ (lv_sub hl [2, 1, 0, 3, 4, 5] rfl)
        have hW := cy_castS (show (va_up (cq_p1 S c) 11 (upd ((cq_p1 S c) 11) c (cy_mx 0 ((((cq_p1 S c) 11) c) - 3)))) = (cq_p2 S c) from by simp only [cq_p2, c_56, ↓reduceIte]) hW
        exact L_88   _ _ hW _ (lv_sub hl [1, 2, 3] rfl)
      · skip
        refine lv_bipush (v := 20) hx hb dX3_pass_59 (by decide) ?_
        refine lv_aload_n hx hb dX3_pass_61 rfl (lv_at hl 1 rfl) ?_
        refine cy_get hC (0) (by decide) hi3 hW (rfl) rfl 17 (by decide) (hts (.fieldLink RX3 45 "CaskYardModel" "swelling" "[I") (by decide +kernel)) (fun _ h9 => h9) (v := .ref (ad 11)) rfl dX3_pass_62 ?_
        refine lv_iload_n hx hb dX3_pass_65 rfl (lv_at hl 2 rfl) ?_
        refine cy_iald hC (11) (by decide) hW 0 (i := c) (rfl) rfl (by omega) (by decide) dX3_pass_66 ?_
        refine lv_iconst (v := 5) hx hb dX3_pass_67 (by decide) ?_
        refine lv_iadd hx hb dX3_pass_68 ?_
        refine va_mmin hx hb (hml.trans hl.1.symm) hown (hts (.methodLink RX3 96 Lib.Math.min.name) (by decide +kernel)) (hts (.static Lib.Math.min.name) (by decide +kernel)) (hts (.initialized "java/lang/Math") (by decide +kernel)) (hts (.code Lib.Math.min.name Lib.Math.min.code 2 (some .int)) (by decide +kernel)) (Nat.le_of_ble_eq_true rfl) (Nat.le_of_ble_eq_true rfl) (Nat.le_of_ble_eq_true rfl) (Nat.le_of_ble_eq_true rfl) dX3_pass_69 ?_
        refine cy_topv (show _ = Value.int (cy_mn 20 ((((cq_p1 S c) 11) c) + 5)) from rfl) ?_
        refine lv_goto (tgt := 87) hx hb dX3_pass_72 (by decide) ?_
        refine cy_iast hC (11) (by decide) hW 0 (i := c) (rfl) rfl (by omega) (by decide) (upd ((cq_p1 S c) 11) c (cy_mn 20 ((((cq_p1 S c) 11) c) + 5))) rfl (S' := (va_up (cq_p1 S c) 11 (upd ((cq_p1 S c) 11) c (cy_mn 20 ((((cq_p1 S c) 11) c) + 5))))) rfl dX3_pass_87 (fun H locs hW => ?_)
        have L_88 : ∀ (H : Heap) (locs : List Loc), cy_W D A s.heap (cy_Mw kI kZ ad (cq_p2 S c) tl) H locs → ∀ (ls : Array Slot), lv_has ls 8 [(0, .ref (ad 0)), (1, .int (nI c)), (2, .int x)] → W p l e rm_X3_pass s m args below meth co H locs 0 0 Q (F0 m 88 ls []) := by
          intro   H locs hW ls hl
          refine lv_aload_n hx hb dX3_pass_88 rfl (lv_at hl 0 rfl) ?_
          refine lv_iload_n hx hb dX3_pass_89 rfl (lv_at hl 1 rfl) ?_
          refine cy_callV (rm := rm_X3_leak) (As := [.int (nI c)]) (rest := []) (q0 := 0) (ci := 3) hC.1 hC.2.1 hC.2.2 hW (c_X3_leak (c := c) (by omega) hq2) (cwV 1 hts gX3_pass_X3_leak rfl rfl rfl (by decide +kernel) ⟨Nat.le_of_ble_eq_true rfl, Nat.le_of_ble_eq_true rfl⟩) (cy_w_at (by decide) (rfl)) rfl rfl hl.1 rfl (Nat.le_of_ble_eq_true rfl) dX3_pass_90 ⟨Nat.le_of_ble_eq_true rfl, Nat.le_of_ble_eq_true rfl⟩ (k' := 0) (n' := 0) rfl rfl (fun H locs hW => ?_)
          refine lv_iconst (v := 3) hx hb dX3_pass_93 (by decide) ?_
          refine lv_iadd hx hb dX3_pass_94 ?_
          refine lv_aload_n hx hb dX3_pass_95 rfl (lv_at hl 0 rfl) ?_
          refine cy_get hC (0) (by decide) hi3 hW (rfl) rfl 2 (by decide) (hts (.fieldLink RX3 7 "CaskYardModel" "warmth" "I") (by decide +kernel)) (fun _ h9 => h9) (v := .int (((cq_p2 S c) 0) 2)) rfl dX3_pass_96 ?_
          refine lv_iadd hx hb dX3_pass_99 ?_
          refine lv_istore (lv' := [(4, .int (((cq_lk (cq_p2 S c) c) + 3) + ((cq_p2 S c) 0 2))), (0, .ref (ad 0)), (1, .int (nI c)), (2, .int x)]) hx hb dX3_pass_100 hl (by decide) rfl (fun ls hl => ?_)
          refine lv_iconst (v := 0) hx hb dX3_pass_102 (by decide) ?_
          refine lv_istore (lv' := [(5, .int 0), (4, .int (((cq_lk (cq_p2 S c) c) + 3) + ((cq_p2 S c) 0 2))), (0, .ref (ad 0)), (1, .int (nI c)), (2, .int x)]) hx hb dX3_pass_103 hl (by decide) rfl (fun ls hl => ?_)
          refine lv_iconst (v := 5) hx hb dX3_pass_105 (by decide) ?_
          refine lv_iload_n hx hb dX3_pass_106 rfl (lv_at hl 3 rfl) ?_
          refine lv_imul hx hb dX3_pass_107 ?_
          refine cy_top (pk_mul 5 c) ?_
          refine lv_istore (lv' := [(6, .int (nI (5 * c))), (5, .int 0), (4, .int (((cq_lk (cq_p2 S c) c) + 3) + ((cq_p2 S c) 0 2))), (0, .ref (ad 0)), (1, .int (nI c)), (2, .int x)]) hx hb dX3_pass_108 hl (by decide) rfl (fun ls hl => ?_)
          have L_110 : ∀ (fu : Nat) (i : Nat), 5 - i < fu → (i ≤ 5) → ∀ (H : Heap) (locs : List Loc), cy_W D A s.heap (cy_Mw kI kZ ad (cq_lo (cq_p2 S c) c (cq_by S c) i).1 tl) H locs → ∀ (ls : Array Slot), lv_has ls 8 [(4, .int (cq_by S c)), (5, .int ((cq_lo (cq_p2 S c) c (cq_by S c) i).2)), (6, .int (nI (5 * c + i))), (0, .ref (ad 0)), (1, .int (nI c)), (2, .int x)] → W p l e rm_X3_pass s m args below meth co H locs 0 0 Q (F0 m 110 ls []) := by
            intro fu
            induction fu with
            | zero => intro i hn; exact absurd hn (Nat.not_lt_zero _)
            | succ fu ih_110 =>
              intro i hn_110 hi H locs hW ls hl
              refine lv_iload hx hb dX3_pass_110 (lv_at hl 2 rfl) ?_
              refine lv_iconst (v := 5) hx hb dX3_pass_112 (by decide) ?_
              refine lv_iload_n hx hb dX3_pass_113 rfl (lv_at hl 4 rfl) ?_
              refine lv_imul hx hb dX3_pass_114 ?_
              refine cy_top (pk_mul 5 c) ?_
              refine lv_iconst (v := 5) hx hb dX3_pass_115 (by decide) ?_
              refine lv_iadd hx hb dX3_pass_116 ?_
              refine cy_top (nI_add (5 * c) 5) ?_
              refine lv_icmp_ge (tgt := 193) hx hb dX3_pass_117 (by decide) (fun c_117 => ?_) (fun c_117 => ?_)
              · skip
                have q_117 := cy_le (a := ((5 * c) + 5)) (b := (5 * c + i)) (by omega) (by omega) c_117
                obtain rfl : i = 5 := by omega
                have L_193 : ∀ (H : Heap) (locs : List Loc), cy_W D A s.heap (cy_Mw kI kZ ad (cq_p3 S c).1 tl) H locs → ∀ (ls : Array Slot), lv_has ls 8 [(5, .int ((cq_p3 S c).2)), (0, .ref (ad 0)), (1, .int (nI c)), (2, .int x)] → W p l e rm_X3_pass s m args below meth co H locs 0 0 Q (F0 m 193 ls []) := by
                  intro   H locs hW ls hl
                  refine lv_aload_n hx hb dX3_pass_193 rfl (lv_at hl 1 rfl) ?_
                  refine lv_iload_n hx hb dX3_pass_194 rfl (lv_at hl 2 rfl) ?_
                  refine cy_callV (rm := rm_X3_all) (As := [.int (nI c)]) (rest := []) (q0 := 0) (ci := 3) hC.1 hC.2.1 hC.2.2 hW (c_X3_all (c := c) (by omega)) (cwV 1 hts gX3_pass_X3_all rfl rfl rfl (by decide +kernel) ⟨Nat.le_of_ble_eq_true rfl, Nat.le_of_ble_eq_true rfl⟩) (cy_w_at (by decide) (rfl)) rfl rfl hl.1 rfl (Nat.le_of_ble_eq_true rfl) dX3_pass_195 ⟨Nat.le_of_ble_eq_true rfl, Nat.le_of_ble_eq_true rfl⟩ (k' := 0) (n' := 0) rfl rfl (fun H locs hW => ?_)
                  refine lv_istore (lv' := [(6, .int (cq_al ((cq_p3 S c).1) c)), (5, .int ((cq_p3 S c).2)), (0, .ref (ad 0)), (1, .int (nI c)), (2, .int x)]) hx hb dX3_pass_198 hl (by decide) rfl (fun ls hl => ?_)
                  refine lv_aload_n hx hb dX3_pass_200 rfl (lv_at hl 2 rfl) ?_
                  refine cy_get hC (0) (by decide) hi3 hW (rfl) rfl 19 (by decide) (hts (.fieldLink RX3 51 "CaskYardModel" "air" "[I") (by decide +kernel)) (fun _ h9 => h9) (v := .ref (ad 13)) rfl dX3_pass_201 ?_
                  refine lv_iload_n hx hb dX3_pass_204 rfl (lv_at hl 3 rfl) ?_
                  refine lv_iload hx hb dX3_pass_205 (lv_at hl 0 rfl) ?_
                  refine lv_if_le (tgt := 241) hx hb dX3_pass_207 (by decide) (fun c_207 => ?_) (fun c_207 => ?_)
                  · skip
                    refine lv_iconst (v := 0) hx hb dX3_pass_241 (by decide) ?_
                    refine cy_iast hC (13) (by decide) hW 0 (i := c) (rfl) rfl (by omega) (by decide) (upd ((cq_p3 S c).1 13) c 0) rfl (S' := (va_up (cq_p3 S c).1 13 (upd ((cq_p3 S c).1 13) c 0))) rfl dX3_pass_242 (fun H locs hW => ?_)
                    have L_243 : ∀ (H : Heap) (locs : List Loc), cy_W D A s.heap (cy_Mw kI kZ ad (cq_p4 S c) tl) H locs → ∀ (ls : Array Slot), lv_has ls 8 [(6, .int (cq_lf S c)), (5, .int ((cq_p3 S c).2)), (0, .ref (ad 0)), (1, .int (nI c)), (2, .int x)] → W p l e rm_X3_pass s m args below meth co H locs 0 0 Q (F0 m 243 ls []) := by
                      intro   H locs hW ls hl
                      refine lv_aload_n hx hb dX3_pass_243 rfl (lv_at hl 2 rfl) ?_
                      refine cy_get hC (0) (by decide) hi3 hW (rfl) rfl 19 (by decide) (hts (.fieldLink RX3 51 "CaskYardModel" "air" "[I") (by decide +kernel)) (fun _ h9 => h9) (v := .ref (ad 13)) rfl dX3_pass_244 ?_
                      refine lv_iload_n hx hb dX3_pass_247 rfl (lv_at hl 3 rfl) ?_
                      refine cy_iald hC (13) (by decide) hW 0 (i := c) (rfl) rfl (by omega) (by decide) dX3_pass_248 ?_
                      refine lv_bipush (v := 6) hx hb dX3_pass_249 (by decide) ?_
                      refine lv_icmp_ne (tgt := 299) hx hb dX3_pass_251 (by decide) (fun c_251 => ?_) (fun c_251 => ?_)
                      · skip
                        have L_299 : ∀ (H : Heap) (locs : List Loc), cy_W D A s.heap (cy_Mw kI kZ ad (cq_p5 S c) tl) H locs → ∀ (ls : Array Slot), lv_has ls 8 [(5, .int ((cq_p3 S c).2)), (0, .ref (ad 0)), (1, .int (nI c)), (2, .int x)] → W p l e rm_X3_pass s m args below meth co H locs 0 0 Q (F0 m 299 ls []) := by
                          intro   H locs hW ls hl
                          refine lv_iconst (v := 0) hx hb dX3_pass_299 (by decide) ?_
                          refine lv_istore (lv' := [(7, .int 0), (5, .int ((cq_p3 S c).2)), (0, .ref (ad 0)), (1, .int (nI c)), (2, .int x)]) hx hb dX3_pass_300 hl (by decide) rfl (fun ls hl => ?_)
                          have L_302 : ∀ (fu : Nat) (i : Nat), cq_hn S c - i < fu → (i ≤ cq_hn S c) → (i = 0 ∨ x - x / 12 * 12 = 0) → ∀ (H : Heap) (locs : List Loc), cy_W D A s.heap (cy_Mw kI kZ ad (cq_ln (cq_p5 S c) c i) tl) H locs → ∀ (ls : Array Slot), lv_has ls 8 [(7, .int (nI i)), (5, .int ((cq_p3 S c).2)), (0, .ref (ad 0)), (1, .int (nI c)), (2, .int x)] → W p l e rm_X3_pass s m args below meth co H locs 0 0 Q (F0 m 302 ls []) := by
                            intro fu
                            induction fu with
                            | zero => intro i hn; exact absurd hn (Nat.not_lt_zero _)
                            | succ fu ih_302 =>
                              intro i hn_302 hi he H locs hW ls hl
                              have hq5 : cq_ok (cq_ln (cq_p5 S c) c i) := cq_ok_of (by rw [cq_ln_n (by decide), cq_p5_n (by decide) (by decide) (by decide) (by decide)]) (by rw [cq_ln_n (by decide), cq_p5_n (by decide) (by decide) (by decide) (by decide)]) hq
                              refine lv_iload hx hb dX3_pass_302 (lv_at hl 0 rfl) ?_
                              refine lv_aload_n hx hb dX3_pass_304 rfl (lv_at hl 2 rfl) ?_
                              refine lv_iload_n hx hb dX3_pass_305 rfl (lv_at hl 3 rfl) ?_
                              refine cy_callV (rm := rm_X3_hoopsOf) (As := [.int (nI c)]) (rest := [.int (nI i)]) (q0 := 0) (ci := 3) hC.1 hC.2.1 hC.2.2 hW (c_X3_hoopsOf (c := c) (by omega) hq5) (cwV 1 hts gX3_pass_X3_hoopsOf rfl rfl rfl (by decide +kernel) ⟨Nat.le_of_ble_eq_true rfl, Nat.le_of_ble_eq_true rfl⟩) (cy_w_at (by decide) (rfl)) rfl rfl hl.1 rfl (Nat.le_of_ble_eq_true rfl) dX3_pass_306 ⟨Nat.le_of_ble_eq_true rfl, Nat.le_of_ble_eq_true rfl⟩ (k' := 0) (n' := 0) rfl rfl (fun H locs hW => ?_)
                              refine cy_topv (show _ = Value.int (nI (cq_hn S c)) from (congrArg (fun z => Value.int (nI z)) (cq_hn_c (by rw [cq_ln_n (by decide), cq_p5_n (by decide) (by decide) (by decide) (by decide)]) (by rw [cq_ln_n (by decide), cq_p5_n (by decide) (by decide) (by decide) (by decide)]) (by rw [cq_ln_n (by decide), cq_p5_n (by decide) (by decide) (by decide) (by decide)])))) ?_
                              refine lv_icmp_ge (tgt := 355) hx hb dX3_pass_309 (by decide) (fun c_309 => ?_) (fun c_309 => ?_)
                              · skip
                                have q_309 := cy_le (a := (cq_hn S c)) (b := i) (by omega) (by omega) c_309
                                have hW := cy_castS (cq_pc_e he q_309 hi) hW
                                refine lv_iload hx hb dX3_pass_355 (lv_at hl 1 rfl) ?_
                                exact hE  _ _ _ _ _ _ (Nat.le_of_ble_eq_true rfl) (Nat.le_of_ble_eq_true rfl) hW dX3_pass_357
                              · skip
                                have q_309 := cy_nle (a := (cq_hn S c)) (b := i) (by omega) (by omega) c_309
                                refine lv_iload_n hx hb dX3_pass_312 rfl (lv_at hl 4 rfl) ?_
                                refine lv_bipush (v := 12) hx hb dX3_pass_313 (by decide) ?_
                                refine lv_irem hx hb dX3_pass_315 (by decide) ?_
                                refine lv_if_ne (tgt := 355) hx hb dX3_pass_316 (by decide) (fun c_316 => ?_) (fun c_316 => ?_)
                                · skip
                                  have hW := cy_castS (show cq_ln (cq_p5 S c) c i = cq_pc S c x from by unfold cq_pc; rw [if_neg c_316, he.resolve_right c_316]; rfl) hW
                                  refine lv_iload hx hb dX3_pass_355 (lv_at hl 1 rfl) ?_
                                  exact hE  _ _ _ _ _ _ (Nat.le_of_ble_eq_true rfl) (Nat.le_of_ble_eq_true rfl) hW dX3_pass_357
                                · skip
                                  refine lv_aload_n hx hb dX3_pass_319 rfl (lv_at hl 2 rfl) ?_
                                  refine cy_get hC (0) (by decide) hi3 hW (rfl) rfl 16 (by decide) (hts (.fieldLink RX3 42 "CaskYardModel" "tension" "[I") (by decide +kernel)) (fun _ h9 => h9) (v := .ref (ad 10)) rfl dX3_pass_320 ?_
                                  refine lv_bipush (v := 8) hx hb dX3_pass_323 (by decide) ?_
                                  refine lv_iload_n hx hb dX3_pass_325 rfl (lv_at hl 3 rfl) ?_
                                  refine lv_imul hx hb dX3_pass_326 ?_
                                  refine cy_top (pk_mul 8 c) ?_
                                  refine lv_iload hx hb dX3_pass_327 (lv_at hl 0 rfl) ?_
                                  refine lv_iadd hx hb dX3_pass_329 ?_
                                  refine cy_top (nI_add (8 * c) i) ?_
                                  refine lv_iconst (v := 0) hx hb dX3_pass_330 (by decide) ?_
                                  refine lv_aload_n hx hb dX3_pass_331 rfl (lv_at hl 2 rfl) ?_
                                  refine cy_get hC (0) (by decide) hi3 hW (rfl) rfl 16 (by decide) (hts (.fieldLink RX3 42 "CaskYardModel" "tension" "[I") (by decide +kernel)) (fun _ h9 => h9) (v := .ref (ad 10)) rfl dX3_pass_332 ?_
                                  refine lv_bipush (v := 8) hx hb dX3_pass_335 (by decide) ?_
                                  refine lv_iload_n hx hb dX3_pass_337 rfl (lv_at hl 3 rfl) ?_
                                  refine lv_imul hx hb dX3_pass_338 ?_
                                  refine cy_top (pk_mul 8 c) ?_
                                  refine lv_iload hx hb dX3_pass_339 (lv_at hl 0 rfl) ?_
                                  refine lv_iadd hx hb dX3_pass_341 ?_
                                  refine cy_top (nI_add (8 * c) i) ?_
                                  refine cy_iald hC (10) (by decide) hW 0 (i := ((8 * c) + i)) (rfl) rfl (by omega) (by decide) dX3_pass_342 ?_
                                  refine lv_iconst (v := 1) hx hb dX3_pass_343 (by decide) ?_
                                  refine lv_isub hx hb dX3_pass_344 ?_
                                  refine va_mmax hx hb (hml.trans hl.1.symm) hown (hts (.methodLink RX3 128 Lib.Math.max.name) (by decide +kernel)) (hts (.static Lib.Math.max.name) (by decide +kernel)) (hts (.initialized "java/lang/Math") (by decide +kernel)) (hts (.code Lib.Math.max.name Lib.Math.max.code 2 (some .int)) (by decide +kernel)) (Nat.le_of_ble_eq_true rfl) (Nat.le_of_ble_eq_true rfl) (Nat.le_of_ble_eq_true rfl) (Nat.le_of_ble_eq_true rfl) dX3_pass_345 ?_
                                  refine cy_topv (show _ = Value.int (cy_mx 0 ((((cq_ln (cq_p5 S c) c i) 10) ((8 * c) + i)) - 1)) from rfl) ?_
                                  refine cy_iast hC (10) (by decide) hW 0 (i := ((8 * c) + i)) (rfl) rfl (by omega) (by decide) (upd ((cq_ln (cq_p5 S c) c i) 10) ((8 * c) + i) (cy_mx 0 ((((cq_ln (cq_p5 S c) c i) 10) ((8 * c) + i)) - 1))) rfl (S' := (va_up (cq_ln (cq_p5 S c) c i) 10 (upd ((cq_ln (cq_p5 S c) c i) 10) ((8 * c) + i) (cy_mx 0 ((((cq_ln (cq_p5 S c) c i) 10) ((8 * c) + i)) - 1))))) rfl dX3_pass_348 (fun H locs hW => ?_)
                                  refine lv_iinc (v := nI (i + 1)) (lv' := [(7, .int (nI (i + 1))), (5, .int ((cq_p3 S c).2)), (0, .ref (ad 0)), (1, .int (nI c)), (2, .int x)]) hx hb dX3_pass_349 hl (k := 0) rfl (nI_1 i) (by decide) rfl (fun ls hl => ?_)
                                  refine lv_goto (tgt := 302) hx hb dX3_pass_352 (by decide) ?_
                                  exact ih_302 (i + 1) (by omega) (by omega) (Or.inr c_316) _ _ hW _ (lv_sub hl [0, 1, 2, 3, 4] rfl)
                          exact L_302 ((cq_hn S c - 0) + 1) 0 (Nat.lt_succ_self _) (Nat.zero_le _) (Or.inl rfl) _ _ hW _ (lv_sub hl [0, 1, 2, 3, 4] rfl)
                        have hW := cy_castS (show (cq_p4 S c) = (cq_p5 S c) from by simp only [cq_p5, c_251, ↓reduceIte]) hW
                        exact L_299   _ _ hW _ (lv_sub hl [1, 2, 3, 4] rfl)
                      · skip
                        refine lv_iconst (v := 0) hx hb dX3_pass_254 (by decide) ?_
                        refine lv_istore (lv' := [(7, .int 0), (6, .int (cq_lf S c)), (5, .int ((cq_p3 S c).2)), (0, .ref (ad 0)), (1, .int (nI c)), (2, .int x)]) hx hb dX3_pass_255 hl (by decide) rfl (fun ls hl => ?_)
                        have L_257 : ∀ (fu : Nat) (k : Nat), 5 - k < fu → (k ≤ 5) → ∀ (H : Heap) (locs : List Loc), cy_W D A s.heap (cy_Mw kI kZ ad (cq_vi (cq_p4 S c) c (cq_lf S c) k) tl) H locs → ∀ (ls : Array Slot), lv_has ls 8 [(7, .int (nI k)), (6, .int (cq_lf S c)), (5, .int ((cq_p3 S c).2)), (0, .ref (ad 0)), (1, .int (nI c)), (2, .int x)] → W p l e rm_X3_pass s m args below meth co H locs 0 0 Q (F0 m 257 ls []) := by
                          intro fu
                          induction fu with
                          | zero => intro k hn; exact absurd hn (Nat.not_lt_zero _)
                          | succ fu ih_257 =>
                            intro k hn_257 hk H locs hW ls hl
                            refine lv_iload hx hb dX3_pass_257 (lv_at hl 0 rfl) ?_
                            refine lv_iconst (v := 5) hx hb dX3_pass_259 (by decide) ?_
                            refine lv_icmp_ge (tgt := 292) hx hb dX3_pass_260 (by decide) (fun c_260 => ?_) (fun c_260 => ?_)
                            · skip
                              have q_260 := cy_le (a := 5) (b := k) (by omega) (by omega) c_260
                              obtain rfl : k = 5 := by omega
                              refine lv_aload_n hx hb dX3_pass_292 rfl (lv_at hl 3 rfl) ?_
                              refine cy_get hC (0) (by decide) hi3 hW (rfl) rfl 19 (by decide) (hts (.fieldLink RX3 51 "CaskYardModel" "air" "[I") (by decide +kernel)) (fun _ h9 => h9) (v := .ref (ad 13)) rfl dX3_pass_293 ?_
                              refine lv_iload_n hx hb dX3_pass_296 rfl (lv_at hl 4 rfl) ?_
                              refine lv_iconst (v := 0) hx hb dX3_pass_297 (by decide) ?_
                              refine cy_iast hC (13) (by decide) hW 0 (i := c) (rfl) rfl (by omega) (by decide) (upd ((cq_vi (cq_p4 S c) c (cq_lf S c) 5) 13) c 0) rfl (S' := (va_up (cq_vi (cq_p4 S c) c (cq_lf S c) 5) 13 (upd ((cq_vi (cq_p4 S c) c (cq_lf S c) 5) 13) c 0))) rfl dX3_pass_298 (fun H locs hW => ?_)
                              have L_299 : ∀ (H : Heap) (locs : List Loc), cy_W D A s.heap (cy_Mw kI kZ ad (cq_p5 S c) tl) H locs → ∀ (ls : Array Slot), lv_has ls 8 [(5, .int ((cq_p3 S c).2)), (0, .ref (ad 0)), (1, .int (nI c)), (2, .int x)] → W p l e rm_X3_pass s m args below meth co H locs 0 0 Q (F0 m 299 ls []) := by
                                intro   H locs hW ls hl
                                refine lv_iconst (v := 0) hx hb dX3_pass_299 (by decide) ?_
                                refine lv_istore (lv' := [(7, .int 0), (5, .int ((cq_p3 S c).2)), (0, .ref (ad 0)), (1, .int (nI c)), (2, .int x)]) hx hb dX3_pass_300 hl (by decide) rfl (fun ls hl => ?_)
                                have L_302 : ∀ (fu : Nat) (i : Nat), cq_hn S c - i < fu → (i ≤ cq_hn S c) → (i = 0 ∨ x - x / 12 * 12 = 0) → ∀ (H : Heap) (locs : List Loc), cy_W D A s.heap (cy_Mw kI kZ ad (cq_ln (cq_p5 S c) c i) tl) H locs → ∀ (ls : Array Slot), lv_has ls 8 [(7, .int (nI i)), (5, .int ((cq_p3 S c).2)), (0, .ref (ad 0)), (1, .int (nI c)), (2, .int x)] → W p l e rm_X3_pass s m args below meth co H locs 0 0 Q (F0 m 302 ls []) := by
                                  intro fu
                                  induction fu with
                                  | zero => intro i hn; exact absurd hn (Nat.not_lt_zero _)
                                  | succ fu ih_302 =>
                                    intro i hn_302 hi he H locs hW ls hl
                                    have hq5 : cq_ok (cq_ln (cq_p5 S c) c i) := cq_ok_of (by rw [cq_ln_n (by decide), cq_p5_n (by decide) (by decide) (by decide) (by decide)]) (by rw [cq_ln_n (by decide), cq_p5_n (by decide) (by decide) (by decide) (by decide)]) hq
                                    refine lv_iload hx hb dX3_pass_302 (lv_at hl 0 rfl) ?_
                                    refine lv_aload_n hx hb dX3_pass_304 rfl (lv_at hl 2 rfl) ?_
                                    refine lv_iload_n hx hb dX3_pass_305 rfl (lv_at hl 3 rfl) ?_
                                    refine cy_callV (rm := rm_X3_hoopsOf) (As := [.int (nI c)]) (rest := [.int (nI i)]) (q0 := 0) (ci := 3) hC.1 hC.2.1 hC.2.2 hW (c_X3_hoopsOf (c := c) (by omega) hq5) (cwV 1 hts gX3_pass_X3_hoopsOf rfl rfl rfl (by decide +kernel) ⟨Nat.le_of_ble_eq_true rfl, Nat.le_of_ble_eq_true rfl⟩) (cy_w_at (by decide) (rfl)) rfl rfl hl.1 rfl (Nat.le_of_ble_eq_true rfl) dX3_pass_306 ⟨Nat.le_of_ble_eq_true rfl, Nat.le_of_ble_eq_true rfl⟩ (k' := 0) (n' := 0) rfl rfl (fun H locs hW => ?_)
                                    refine cy_topv (show _ = Value.int (nI (cq_hn S c)) from (congrArg (fun z => Value.int (nI z)) (cq_hn_c (by rw [cq_ln_n (by decide), cq_p5_n (by decide) (by decide) (by decide) (by decide)]) (by rw [cq_ln_n (by decide), cq_p5_n (by decide) (by decide) (by decide) (by decide)]) (by rw [cq_ln_n (by decide), cq_p5_n (by decide) (by decide) (by decide) (by decide)])))) ?_
                                    refine lv_icmp_ge (tgt := 355) hx hb dX3_pass_309 (by decide) (fun c_309 => ?_) (fun c_309 => ?_)
                                    · skip
                                      have q_309 := cy_le (a := (cq_hn S c)) (b := i) (by omega) (by omega) c_309
                                      have hW := cy_castS (cq_pc_e he q_309 hi) hW
                                      refine lv_iload hx hb dX3_pass_355 (lv_at hl 1 rfl) ?_
                                      exact hE  _ _ _ _ _ _ (Nat.le_of_ble_eq_true rfl) (Nat.le_of_ble_eq_true rfl) hW dX3_pass_357
                                    · skip
                                      have q_309 := cy_nle (a := (cq_hn S c)) (b := i) (by omega) (by omega) c_309
                                      refine lv_iload_n hx hb dX3_pass_312 rfl (lv_at hl 4 rfl) ?_
                                      refine lv_bipush (v := 12) hx hb dX3_pass_313 (by decide) ?_
                                      refine lv_irem hx hb dX3_pass_315 (by decide) ?_
                                      refine lv_if_ne (tgt := 355) hx hb dX3_pass_316 (by decide) (fun c_316 => ?_) (fun c_316 => ?_)
                                      · skip
                                        have hW := cy_castS (show cq_ln (cq_p5 S c) c i = cq_pc S c x from by unfold cq_pc; rw [if_neg c_316, he.resolve_right c_316]; rfl) hW
                                        refine lv_iload hx hb dX3_pass_355 (lv_at hl 1 rfl) ?_
                                        exact hE  _ _ _ _ _ _ (Nat.le_of_ble_eq_true rfl) (Nat.le_of_ble_eq_true rfl) hW dX3_pass_357
                                      · skip
                                        refine lv_aload_n hx hb dX3_pass_319 rfl (lv_at hl 2 rfl) ?_
                                        refine cy_get hC (0) (by decide) hi3 hW (rfl) rfl 16 (by decide) (hts (.fieldLink RX3 42 "CaskYardModel" "tension" "[I") (by decide +kernel)) (fun _ h9 => h9) (v := .ref (ad 10)) rfl dX3_pass_320 ?_
                                        refine lv_bipush (v := 8) hx hb dX3_pass_323 (by decide) ?_
                                        refine lv_iload_n hx hb dX3_pass_325 rfl (lv_at hl 3 rfl) ?_
                                        refine lv_imul hx hb dX3_pass_326 ?_
                                        refine cy_top (pk_mul 8 c) ?_
                                        refine lv_iload hx hb dX3_pass_327 (lv_at hl 0 rfl) ?_
                                        refine lv_iadd hx hb dX3_pass_329 ?_
                                        refine cy_top (nI_add (8 * c) i) ?_
                                        refine lv_iconst (v := 0) hx hb dX3_pass_330 (by decide) ?_
                                        refine lv_aload_n hx hb dX3_pass_331 rfl (lv_at hl 2 rfl) ?_
                                        refine cy_get hC (0) (by decide) hi3 hW (rfl) rfl 16 (by decide) (hts (.fieldLink RX3 42 "CaskYardModel" "tension" "[I") (by decide +kernel)) (fun _ h9 => h9) (v := .ref (ad 10)) rfl dX3_pass_332 ?_
                                        refine lv_bipush (v := 8) hx hb dX3_pass_335 (by decide) ?_
                                        refine lv_iload_n hx hb dX3_pass_337 rfl (lv_at hl 3 rfl) ?_
                                        refine lv_imul hx hb dX3_pass_338 ?_
                                        refine cy_top (pk_mul 8 c) ?_
                                        refine lv_iload hx hb dX3_pass_339 (lv_at hl 0 rfl) ?_
                                        refine lv_iadd hx hb dX3_pass_341 ?_
                                        refine cy_top (nI_add (8 * c) i) ?_
                                        refine cy_iald hC (10) (by decide) hW 0 (i := ((8 * c) + i)) (rfl) rfl (by omega) (by decide) dX3_pass_342 ?_
                                        refine lv_iconst (v := 1) hx hb dX3_pass_343 (by decide) ?_
                                        refine lv_isub hx hb dX3_pass_344 ?_
                                        refine va_mmax hx hb (hml.trans hl.1.symm) hown (hts (.methodLink RX3 128 Lib.Math.max.name) (by decide +kernel)) (hts (.static Lib.Math.max.name) (by decide +kernel)) (hts (.initialized "java/lang/Math") (by decide +kernel)) (hts (.code Lib.Math.max.name Lib.Math.max.code 2 (some .int)) (by decide +kernel)) (Nat.le_of_ble_eq_true rfl) (Nat.le_of_ble_eq_true rfl) (Nat.le_of_ble_eq_true rfl) (Nat.le_of_ble_eq_true rfl) dX3_pass_345 ?_
                                        refine cy_topv (show _ = Value.int (cy_mx 0 ((((cq_ln (cq_p5 S c) c i) 10) ((8 * c) + i)) - 1)) from rfl) ?_
                                        refine cy_iast hC (10) (by decide) hW 0 (i := ((8 * c) + i)) (rfl) rfl (by omega) (by decide) (upd ((cq_ln (cq_p5 S c) c i) 10) ((8 * c) + i) (cy_mx 0 ((((cq_ln (cq_p5 S c) c i) 10) ((8 * c) + i)) - 1))) rfl (S' := (va_up (cq_ln (cq_p5 S c) c i) 10 (upd ((cq_ln (cq_p5 S c) c i) 10) ((8 * c) + i) (cy_mx 0 ((((cq_ln (cq_p5 S c) c i) 10) ((8 * c) + i)) - 1))))) rfl dX3_pass_348 (fun H locs hW => ?_)
                                        refine lv_iinc (v := nI (i + 1)) (lv' := [(7, .int (nI (i + 1))), (5, .int ((cq_p3 S c).2)), (0, .ref (ad 0)), (1, .int (nI c)), (2, .int x)]) hx hb dX3_pass_349 hl (k := 0) rfl (nI_1 i) (by decide) rfl (fun ls hl => ?_)
                                        refine lv_goto (tgt := 302) hx hb dX3_pass_352 (by decide) ?_
                                        exact ih_302 (i + 1) (by omega) (by omega) (Or.inr c_316) _ _ hW _ (lv_sub hl [0, 1, 2, 3, 4] rfl)
                                exact L_302 ((cq_hn S c - 0) + 1) 0 (Nat.lt_succ_self _) (Nat.zero_le _) (Or.inl rfl) _ _ hW _ (lv_sub hl [0, 1, 2, 3, 4] rfl)
                              have hW := cy_castS (show (va_up (cq_vi (cq_p4 S c) c (cq_lf S c) 5) 13 (upd ((cq_vi (cq_p4 S c) c (cq_lf S c) 5) 13) c 0)) = (cq_p5 S c) from by simp only [cq_p5, c_251, c_260, ↓reduceIte]) hW
                              exact L_299   _ _ hW _ (lv_sub hl [2, 3, 4, 5] rfl)
                            · skip
                              have q_260 := cy_nle (a := 5) (b := k) (by omega) (by omega) c_260
                              refine lv_aload_n hx hb dX3_pass_263 rfl (lv_at hl 3 rfl) ?_
                              refine cy_get hC (0) (by decide) hi3 hW (rfl) rfl 20 (by decide) (hts (.fieldLink RX3 54 "CaskYardModel" "holds" "[I") (by decide +kernel)) (fun _ h9 => h9) (v := .ref (ad 14)) rfl dX3_pass_264 ?_
                              refine lv_iconst (v := 5) hx hb dX3_pass_267 (by decide) ?_
                              refine lv_iload_n hx hb dX3_pass_268 rfl (lv_at hl 4 rfl) ?_
                              refine lv_imul hx hb dX3_pass_269 ?_
                              refine cy_top (pk_mul 5 c) ?_
                              refine lv_iload hx hb dX3_pass_270 (lv_at hl 0 rfl) ?_
                              refine lv_iadd hx hb dX3_pass_272 ?_
                              refine cy_top (nI_add (5 * c) k) ?_
                              refine lv_iload hx hb dX3_pass_273 (lv_at hl 0 rfl) ?_
                              refine lv_iconst (v := 4) hx hb dX3_pass_275 (by decide) ?_
                              refine lv_icmp_ne (tgt := 284) hx hb dX3_pass_276 (by decide) (fun c_276 => ?_) (fun c_276 => ?_)
                              · skip
                                have q_276 := cy_ne (a := k) (b := 4) (by omega) (by omega) c_276
                                refine lv_iconst (v := 0) hx hb dX3_pass_284 (by decide) ?_
                                refine cy_iast hC (14) (by decide) hW 0 (i := ((5 * c) + k)) (rfl) rfl (by omega) (by decide) (upd ((cq_vi (cq_p4 S c) c (cq_lf S c) k) 14) ((5 * c) + k) 0) rfl (S' := (va_up (cq_vi (cq_p4 S c) c (cq_lf S c) k) 14 (upd ((cq_vi (cq_p4 S c) c (cq_lf S c) k) 14) ((5 * c) + k) 0))) rfl dX3_pass_285 (fun H locs hW => ?_)
                                refine lv_iinc (v := nI (k + 1)) (lv' := [(7, .int (nI (k + 1))), (6, .int (cq_lf S c)), (5, .int ((cq_p3 S c).2)), (0, .ref (ad 0)), (1, .int (nI c)), (2, .int x)]) hx hb dX3_pass_286 hl (k := 0) rfl (nI_1 k) (by decide) rfl (fun ls hl => ?_)
                                refine lv_goto (tgt := 257) hx hb dX3_pass_289 (by decide) ?_
                                have hW := cy_castS (show (va_up (cq_vi (cq_p4 S c) c (cq_lf S c) k) 14 (upd ((cq_vi (cq_p4 S c) c (cq_lf S c) k) 14) ((5 * c) + k) 0)) = (cq_vi (cq_p4 S c) c (cq_lf S c) (k + 1)) from by simp only [cq_vi, c_251, c_260, c_276, ↓reduceIte]) hW
                                exact ih_257 (k + 1) (by omega) (by omega) _ _ hW _ (lv_sub hl [0, 1, 2, 3, 4, 5] rfl)
                              · skip
                                have q_276 := cy_eq (a := k) (b := 4) (by omega) (by omega) c_276
                                refine lv_iload hx hb dX3_pass_279 (lv_at hl 1 rfl) ?_
                                refine lv_goto (tgt := 285) hx hb dX3_pass_281 (by decide) ?_
                                refine cy_iast hC (14) (by decide) hW 0 (i := ((5 * c) + k)) (rfl) rfl (by omega) (by decide) (upd ((cq_vi (cq_p4 S c) c (cq_lf S c) k) 14) ((5 * c) + k) (cq_lf S c)) rfl (S' := (va_up (cq_vi (cq_p4 S c) c (cq_lf S c) k) 14 (upd ((cq_vi (cq_p4 S c) c (cq_lf S c) k) 14) ((5 * c) + k) (cq_lf S c)))) rfl dX3_pass_285 (fun H locs hW => ?_)
                                refine lv_iinc (v := nI (k + 1)) (lv' := [(7, .int (nI (k + 1))), (6, .int (cq_lf S c)), (5, .int ((cq_p3 S c).2)), (0, .ref (ad 0)), (1, .int (nI c)), (2, .int x)]) hx hb dX3_pass_286 hl (k := 0) rfl (nI_1 k) (by decide) rfl (fun ls hl => ?_)
                                refine lv_goto (tgt := 257) hx hb dX3_pass_289 (by decide) ?_
                                have hW := cy_castS (show (va_up (cq_vi (cq_p4 S c) c (cq_lf S c) k) 14 (upd ((cq_vi (cq_p4 S c) c (cq_lf S c) k) 14) ((5 * c) + k) (cq_lf S c))) = (cq_vi (cq_p4 S c) c (cq_lf S c) (k + 1)) from by simp only [cq_vi, c_251, c_260, c_276, ↓reduceIte]) hW
                                exact ih_257 (k + 1) (by omega) (by omega) _ _ hW _ (lv_sub hl [0, 1, 2, 3, 4, 5] rfl)
                        exact L_257 ((5 - 0) + 1) 0 (Nat.lt_succ_self _) (by omega) _ _ hW _ (lv_sub hl [0, 1, 2, 3, 4, 5] rfl)
                    have hW := cy_castS (show (va_up (cq_p3 S c).1 13 (upd ((cq_p3 S c).1 13) c 0)) = (cq_p4 S c) from by simp only [cq_p4, cq_lf, c_207, ↓reduceIte]) hW
                    exact L_243   _ _ hW _ (lv_sub hl [0, 1, 2, 3, 4] rfl)
                  · skip
                    refine lv_iconst (v := 5) hx hb dX3_pass_210 (by decide) ?_
                    refine lv_iload hx hb dX3_pass_211 (lv_at hl 0 rfl) ?_
                    refine lv_imul hx hb dX3_pass_213 ?_
                    refine lv_iconst (v := 4) hx hb dX3_pass_214 (by decide) ?_
                    refine lv_aload_n hx hb dX3_pass_215 rfl (lv_at hl 2 rfl) ?_
                    refine cy_get hC (0) (by decide) hi3 hW (rfl) rfl 10 (by decide) (hts (.fieldLink RX3 26 "CaskYardModel" "room" "[I") (by decide +kernel)) (fun _ h9 => h9) (v := .ref (ad 5)) rfl dX3_pass_216 ?_
                    refine lv_aload_n hx hb dX3_pass_219 rfl (lv_at hl 2 rfl) ?_
                    refine cy_get hC (0) (by decide) hi3 hW (rfl) rfl 13 (by decide) (hts (.fieldLink RX3 32 "CaskYardModel" "sort" "[I") (by decide +kernel)) (fun _ h9 => h9) (v := .ref (ad 7)) rfl dX3_pass_220 ?_
                    refine lv_iload_n hx hb dX3_pass_223 rfl (lv_at hl 3 rfl) ?_
                    refine cy_iald hC (7) (by decide) hW 0 (i := c) (rfl) rfl (by omega) (by decide) dX3_pass_224 ?_
                    refine cy_top (y := nI (cq_so S c)) (by rw [cq_p3_n (by decide) (by decide) (by decide)]; exact (hq.1 c hc).2) ?_
                    refine cy_iald hC (5) (by decide) hW 0 (i := (cq_so S c)) (rfl) rfl (hq.1 c hc).1 (by decide) dX3_pass_225 ?_
                    refine lv_imul hx hb dX3_pass_226 ?_
                    refine lv_icmp_ge (tgt := 241) hx hb dX3_pass_227 (by decide) (fun c_227 => ?_) (fun c_227 => ?_)
                    · skip
                      refine lv_iconst (v := 0) hx hb dX3_pass_241 (by decide) ?_
                      refine cy_iast hC (13) (by decide) hW 0 (i := c) (rfl) rfl (by omega) (by decide) (upd ((cq_p3 S c).1 13) c 0) rfl (S' := (va_up (cq_p3 S c).1 13 (upd ((cq_p3 S c).1 13) c 0))) rfl dX3_pass_242 (fun H locs hW => ?_)
                      have L_243 : ∀ (H : Heap) (locs : List Loc), cy_W D A s.heap (cy_Mw kI kZ ad (cq_p4 S c) tl) H locs → ∀ (ls : Array Slot), lv_has ls 8 [(6, .int (cq_lf S c)), (5, .int ((cq_p3 S c).2)), (0, .ref (ad 0)), (1, .int (nI c)), (2, .int x)] → W p l e rm_X3_pass s m args below meth co H locs 0 0 Q (F0 m 243 ls []) := by
                        intro   H locs hW ls hl
                        refine lv_aload_n hx hb dX3_pass_243 rfl (lv_at hl 2 rfl) ?_
                        refine cy_get hC (0) (by decide) hi3 hW (rfl) rfl 19 (by decide) (hts (.fieldLink RX3 51 "CaskYardModel" "air" "[I") (by decide +kernel)) (fun _ h9 => h9) (v := .ref (ad 13)) rfl dX3_pass_244 ?_
                        refine lv_iload_n hx hb dX3_pass_247 rfl (lv_at hl 3 rfl) ?_
                        refine cy_iald hC (13) (by decide) hW 0 (i := c) (rfl) rfl (by omega) (by decide) dX3_pass_248 ?_
                        refine lv_bipush (v := 6) hx hb dX3_pass_249 (by decide) ?_
                        refine lv_icmp_ne (tgt := 299) hx hb dX3_pass_251 (by decide) (fun c_251 => ?_) (fun c_251 => ?_)
                        · skip
                          have L_299 : ∀ (H : Heap) (locs : List Loc), cy_W D A s.heap (cy_Mw kI kZ ad (cq_p5 S c) tl) H locs → ∀ (ls : Array Slot), lv_has ls 8 [(5, .int ((cq_p3 S c).2)), (0, .ref (ad 0)), (1, .int (nI c)), (2, .int x)] → W p l e rm_X3_pass s m args below meth co H locs 0 0 Q (F0 m 299 ls []) := by
                            intro   H locs hW ls hl
                            refine lv_iconst (v := 0) hx hb dX3_pass_299 (by decide) ?_
                            refine lv_istore (lv' := [(7, .int 0), (5, .int ((cq_p3 S c).2)), (0, .ref (ad 0)), (1, .int (nI c)), (2, .int x)]) hx hb dX3_pass_300 hl (by decide) rfl (fun ls hl => ?_)
                            have L_302 : ∀ (fu : Nat) (i : Nat), cq_hn S c - i < fu → (i ≤ cq_hn S c) → (i = 0 ∨ x - x / 12 * 12 = 0) → ∀ (H : Heap) (locs : List Loc), cy_W D A s.heap (cy_Mw kI kZ ad (cq_ln (cq_p5 S c) c i) tl) H locs → ∀ (ls : Array Slot), lv_has ls 8 [(7, .int (nI i)), (5, .int ((cq_p3 S c).2)), (0, .ref (ad 0)), (1, .int (nI c)), (2, .int x)] → W p l e rm_X3_pass s m args below meth co H locs 0 0 Q (F0 m 302 ls []) := by
                              intro fu
                              induction fu with
                              | zero => intro i hn; exact absurd hn (Nat.not_lt_zero _)
                              | succ fu ih_302 =>
                                intro i hn_302 hi he H locs hW ls hl
                                have hq5 : cq_ok (cq_ln (cq_p5 S c) c i) := cq_ok_of (by rw [cq_ln_n (by decide), cq_p5_n (by decide) (by decide) (by decide) (by decide)]) (by rw [cq_ln_n (by decide), cq_p5_n (by decide) (by decide) (by decide) (by decide)]) hq
                                refine lv_iload hx hb dX3_pass_302 (lv_at hl 0 rfl) ?_
                                refine lv_aload_n hx hb dX3_pass_304 rfl (lv_at hl 2 rfl) ?_
                                refine lv_iload_n hx hb dX3_pass_305 rfl (lv_at hl 3 rfl) ?_
                                refine cy_callV (rm := rm_X3_hoopsOf) (As := [.int (nI c)]) (rest := [.int (nI i)]) (q0 := 0) (ci := 3) hC.1 hC.2.1 hC.2.2 hW (c_X3_hoopsOf (c := c) (by omega) hq5) (cwV 1 hts gX3_pass_X3_hoopsOf rfl rfl rfl (by decide +kernel) ⟨Nat.le_of_ble_eq_true rfl, Nat.le_of_ble_eq_true rfl⟩) (cy_w_at (by decide) (rfl)) rfl rfl hl.1 rfl (Nat.le_of_ble_eq_true rfl) dX3_pass_306 ⟨Nat.le_of_ble_eq_true rfl, Nat.le_of_ble_eq_true rfl⟩ (k' := 0) (n' := 0) rfl rfl (fun H locs hW => ?_)
                                refine cy_topv (show _ = Value.int (nI (cq_hn S c)) from (congrArg (fun z => Value.int (nI z)) (cq_hn_c (by rw [cq_ln_n (by decide), cq_p5_n (by decide) (by decide) (by decide) (by decide)]) (by rw [cq_ln_n (by decide), cq_p5_n (by decide) (by decide) (by decide) (by decide)]) (by rw [cq_ln_n (by decide), cq_p5_n (by decide) (by decide) (by decide) (by decide)])))) ?_
                                refine lv_icmp_ge (tgt := 355) hx hb dX3_pass_309 (by decide) (fun c_309 => ?_) (fun c_309 => ?_)
                                · skip
                                  have q_309 := cy_le (a := (cq_hn S c)) (b := i) (by omega) (by omega) c_309
                                  have hW := cy_castS (cq_pc_e he q_309 hi) hW
                                  refine lv_iload hx hb dX3_pass_355 (lv_at hl 1 rfl) ?_
                                  exact hE  _ _ _ _ _ _ (Nat.le_of_ble_eq_true rfl) (Nat.le_of_ble_eq_true rfl) hW dX3_pass_357
                                · skip
                                  have q_309 := cy_nle (a := (cq_hn S c)) (b := i) (by omega) (by omega) c_309
                                  refine lv_iload_n hx hb dX3_pass_312 rfl (lv_at hl 4 rfl) ?_
                                  refine lv_bipush (v := 12) hx hb dX3_pass_313 (by decide) ?_
                                  refine lv_irem hx hb dX3_pass_315 (by decide) ?_
                                  refine lv_if_ne (tgt := 355) hx hb dX3_pass_316 (by decide) (fun c_316 => ?_) (fun c_316 => ?_)
                                  · skip
                                    have hW := cy_castS (show cq_ln (cq_p5 S c) c i = cq_pc S c x from by unfold cq_pc; rw [if_neg c_316, he.resolve_right c_316]; rfl) hW
                                    refine lv_iload hx hb dX3_pass_355 (lv_at hl 1 rfl) ?_
                                    exact hE  _ _ _ _ _ _ (Nat.le_of_ble_eq_true rfl) (Nat.le_of_ble_eq_true rfl) hW dX3_pass_357
                                  · skip
                                    refine lv_aload_n hx hb dX3_pass_319 rfl (lv_at hl 2 rfl) ?_
                                    refine cy_get hC (0) (by decide) hi3 hW (rfl) rfl 16 (by decide) (hts (.fieldLink RX3 42 "CaskYardModel" "tension" "[I") (by decide +kernel)) (fun _ h9 => h9) (v := .ref (ad 10)) rfl dX3_pass_320 ?_
                                    refine lv_bipush (v := 8) hx hb dX3_pass_323 (by decide) ?_
                                    refine lv_iload_n hx hb dX3_pass_325 rfl (lv_at hl 3 rfl) ?_
                                    refine lv_imul hx hb dX3_pass_326 ?_
                                    refine cy_top (pk_mul 8 c) ?_
                                    refine lv_iload hx hb dX3_pass_327 (lv_at hl 0 rfl) ?_
                                    refine lv_iadd hx hb dX3_pass_329 ?_
                                    refine cy_top (nI_add (8 * c) i) ?_
                                    refine lv_iconst (v := 0) hx hb dX3_pass_330 (by decide) ?_
                                    refine lv_aload_n hx hb dX3_pass_331 rfl (lv_at hl 2 rfl) ?_
                                    refine cy_get hC (0) (by decide) hi3 hW (rfl) rfl 16 (by decide) (hts (.fieldLink RX3 42 "CaskYardModel" "tension" "[I") (by decide +kernel)) (fun _ h9 => h9) (v := .ref (ad 10)) rfl dX3_pass_332 ?_
                                    refine lv_bipush (v := 8) hx hb dX3_pass_335 (by decide) ?_
                                    refine lv_iload_n hx hb dX3_pass_337 rfl (lv_at hl 3 rfl) ?_
                                    refine lv_imul hx hb dX3_pass_338 ?_
                                    refine cy_top (pk_mul 8 c) ?_
                                    refine lv_iload hx hb dX3_pass_339 (lv_at hl 0 rfl) ?_
                                    refine lv_iadd hx hb dX3_pass_341 ?_
                                    refine cy_top (nI_add (8 * c) i) ?_
                                    refine cy_iald hC (10) (by decide) hW 0 (i := ((8 * c) + i)) (rfl) rfl (by omega) (by decide) dX3_pass_342 ?_
                                    refine lv_iconst (v := 1) hx hb dX3_pass_343 (by decide) ?_
                                    refine lv_isub hx hb dX3_pass_344 ?_
                                    refine va_mmax hx hb (hml.trans hl.1.symm) hown (hts (.methodLink RX3 128 Lib.Math.max.name) (by decide +kernel)) (hts (.static Lib.Math.max.name) (by decide +kernel)) (hts (.initialized "java/lang/Math") (by decide +kernel)) (hts (.code Lib.Math.max.name Lib.Math.max.code 2 (some .int)) (by decide +kernel)) (Nat.le_of_ble_eq_true rfl) (Nat.le_of_ble_eq_true rfl) (Nat.le_of_ble_eq_true rfl) (Nat.le_of_ble_eq_true rfl) dX3_pass_345 ?_
                                    refine cy_topv (show _ = Value.int (cy_mx 0 ((((cq_ln (cq_p5 S c) c i) 10) ((8 * c) + i)) - 1)) from rfl) ?_
                                    refine cy_iast hC (10) (by decide) hW 0 (i := ((8 * c) + i)) (rfl) rfl (by omega) (by decide) (upd ((cq_ln (cq_p5 S c) c i) 10) ((8 * c) + i) (cy_mx 0 ((((cq_ln (cq_p5 S c) c i) 10) ((8 * c) + i)) - 1))) rfl (S' := (va_up (cq_ln (cq_p5 S c) c i) 10 (upd ((cq_ln (cq_p5 S c) c i) 10) ((8 * c) + i) (cy_mx 0 ((((cq_ln (cq_p5 S c) c i) 10) ((8 * c) + i)) - 1))))) rfl dX3_pass_348 (fun H locs hW => ?_)
                                    refine lv_iinc (v := nI (i + 1)) (lv' := [(7, .int (nI (i + 1))), (5, .int ((cq_p3 S c).2)), (0, .ref (ad 0)), (1, .int (nI c)), (2, .int x)]) hx hb dX3_pass_349 hl (k := 0) rfl (nI_1 i) (by decide) rfl (fun ls hl => ?_)
                                    refine lv_goto (tgt := 302) hx hb dX3_pass_352 (by decide) ?_
                                    exact ih_302 (i + 1) (by omega) (by omega) (Or.inr c_316) _ _ hW _ (lv_sub hl [0, 1, 2, 3, 4] rfl)
                            exact L_302 ((cq_hn S c - 0) + 1) 0 (Nat.lt_succ_self _) (Nat.zero_le _) (Or.inl rfl) _ _ hW _ (lv_sub hl [0, 1, 2, 3, 4] rfl)
                          have hW := cy_castS (show (cq_p4 S c) = (cq_p5 S c) from by simp only [cq_p5, c_251, ↓reduceIte]) hW
                          exact L_299   _ _ hW _ (lv_sub hl [1, 2, 3, 4] rfl)
                        · skip
                          refine lv_iconst (v := 0) hx hb dX3_pass_254 (by decide) ?_
                          refine lv_istore (lv' := [(7, .int 0), (6, .int (cq_lf S c)), (5, .int ((cq_p3 S c).2)), (0, .ref (ad 0)), (1, .int (nI c)), (2, .int x)]) hx hb dX3_pass_255 hl (by decide) rfl (fun ls hl => ?_)
                          have L_257 : ∀ (fu : Nat) (k : Nat), 5 - k < fu → (k ≤ 5) → ∀ (H : Heap) (locs : List Loc), cy_W D A s.heap (cy_Mw kI kZ ad (cq_vi (cq_p4 S c) c (cq_lf S c) k) tl) H locs → ∀ (ls : Array Slot), lv_has ls 8 [(7, .int (nI k)), (6, .int (cq_lf S c)), (5, .int ((cq_p3 S c).2)), (0, .ref (ad 0)), (1, .int (nI c)), (2, .int x)] → W p l e rm_X3_pass s m args below meth co H locs 0 0 Q (F0 m 257 ls []) := by
                            intro fu
                            induction fu with
                            | zero => intro k hn; exact absurd hn (Nat.not_lt_zero _)
                            | succ fu ih_257 =>
                              intro k hn_257 hk H locs hW ls hl
                              refine lv_iload hx hb dX3_pass_257 (lv_at hl 0 rfl) ?_
                              refine lv_iconst (v := 5) hx hb dX3_pass_259 (by decide) ?_
                              refine lv_icmp_ge (tgt := 292) hx hb dX3_pass_260 (by decide) (fun c_260 => ?_) (fun c_260 => ?_)
                              · skip
                                have q_260 := cy_le (a := 5) (b := k) (by omega) (by omega) c_260
                                obtain rfl : k = 5 := by omega
                                refine lv_aload_n hx hb dX3_pass_292 rfl (lv_at hl 3 rfl) ?_
                                refine cy_get hC (0) (by decide) hi3 hW (rfl) rfl 19 (by decide) (hts (.fieldLink RX3 51 "CaskYardModel" "air" "[I") (by decide +kernel)) (fun _ h9 => h9) (v := .ref (ad 13)) rfl dX3_pass_293 ?_
                                refine lv_iload_n hx hb dX3_pass_296 rfl (lv_at hl 4 rfl) ?_
                                refine lv_iconst (v := 0) hx hb dX3_pass_297 (by decide) ?_
                                refine cy_iast hC (13) (by decide) hW 0 (i := c) (rfl) rfl (by omega) (by decide) (upd ((cq_vi (cq_p4 S c) c (cq_lf S c) 5) 13) c 0) rfl (S' := (va_up (cq_vi (cq_p4 S c) c (cq_lf S c) 5) 13 (upd ((cq_vi (cq_p4 S c) c (cq_lf S c) 5) 13) c 0))) rfl dX3_pass_298 (fun H locs hW => ?_)
                                have L_299 : ∀ (H : Heap) (locs : List Loc), cy_W D A s.heap (cy_Mw kI kZ ad (cq_p5 S c) tl) H locs → ∀ (ls : Array Slot), lv_has ls 8 [(5, .int ((cq_p3 S c).2)), (0, .ref (ad 0)), (1, .int (nI c)), (2, .int x)] → W p l e rm_X3_pass s m args below meth co H locs 0 0 Q (F0 m 299 ls []) := by
                                  intro   H locs hW ls hl
                                  refine lv_iconst (v := 0) hx hb dX3_pass_299 (by decide) ?_
                                  refine lv_istore (lv' := [(7, .int 0), (5, .int ((cq_p3 S c).2)), (0, .ref (ad 0)), (1, .int (nI c)), (2, .int x)]) hx hb dX3_pass_300 hl (by decide) rfl (fun ls hl => ?_)
                                  have L_302 : ∀ (fu : Nat) (i : Nat), cq_hn S c - i < fu → (i ≤ cq_hn S c) → (i = 0 ∨ x - x / 12 * 12 = 0) → ∀ (H : Heap) (locs : List Loc), cy_W D A s.heap (cy_Mw kI kZ ad (cq_ln (cq_p5 S c) c i) tl) H locs → ∀ (ls : Array Slot), lv_has ls 8 [(7, .int (nI i)), (5, .int ((cq_p3 S c).2)), (0, .ref (ad 0)), (1, .int (nI c)), (2, .int x)] → W p l e rm_X3_pass s m args below meth co H locs 0 0 Q (F0 m 302 ls []) := by
                                    intro fu
                                    induction fu with
                                    | zero => intro i hn; exact absurd hn (Nat.not_lt_zero _)
                                    | succ fu ih_302 =>
                                      intro i hn_302 hi he H locs hW ls hl
                                      have hq5 : cq_ok (cq_ln (cq_p5 S c) c i) := cq_ok_of (by rw [cq_ln_n (by decide), cq_p5_n (by decide) (by decide) (by decide) (by decide)]) (by rw [cq_ln_n (by decide), cq_p5_n (by decide) (by decide) (by decide) (by decide)]) hq
                                      refine lv_iload hx hb dX3_pass_302 (lv_at hl 0 rfl) ?_
                                      refine lv_aload_n hx hb dX3_pass_304 rfl (lv_at hl 2 rfl) ?_
                                      refine lv_iload_n hx hb dX3_pass_305 rfl (lv_at hl 3 rfl) ?_
                                      refine cy_callV (rm := rm_X3_hoopsOf) (As := [.int (nI c)]) (rest := [.int (nI i)]) (q0 := 0) (ci := 3) hC.1 hC.2.1 hC.2.2 hW (c_X3_hoopsOf (c := c) (by omega) hq5) (cwV 1 hts gX3_pass_X3_hoopsOf rfl rfl rfl (by decide +kernel) ⟨Nat.le_of_ble_eq_true rfl, Nat.le_of_ble_eq_true rfl⟩) (cy_w_at (by decide) (rfl)) rfl rfl hl.1 rfl (Nat.le_of_ble_eq_true rfl) dX3_pass_306 ⟨Nat.le_of_ble_eq_true rfl, Nat.le_of_ble_eq_true rfl⟩ (k' := 0) (n' := 0) rfl rfl (fun H locs hW => ?_)
                                      refine cy_topv (show _ = Value.int (nI (cq_hn S c)) from (congrArg (fun z => Value.int (nI z)) (cq_hn_c (by rw [cq_ln_n (by decide), cq_p5_n (by decide) (by decide) (by decide) (by decide)]) (by rw [cq_ln_n (by decide), cq_p5_n (by decide) (by decide) (by decide) (by decide)]) (by rw [cq_ln_n (by decide), cq_p5_n (by decide) (by decide) (by decide) (by decide)])))) ?_
                                      refine lv_icmp_ge (tgt := 355) hx hb dX3_pass_309 (by decide) (fun c_309 => ?_) (fun c_309 => ?_)
                                      · skip
                                        have q_309 := cy_le (a := (cq_hn S c)) (b := i) (by omega) (by omega) c_309
                                        have hW := cy_castS (cq_pc_e he q_309 hi) hW
                                        refine lv_iload hx hb dX3_pass_355 (lv_at hl 1 rfl) ?_
                                        exact hE  _ _ _ _ _ _ (Nat.le_of_ble_eq_true rfl) (Nat.le_of_ble_eq_true rfl) hW dX3_pass_357
                                      · skip
                                        have q_309 := cy_nle (a := (cq_hn S c)) (b := i) (by omega) (by omega) c_309
                                        refine lv_iload_n hx hb dX3_pass_312 rfl (lv_at hl 4 rfl) ?_
                                        refine lv_bipush (v := 12) hx hb dX3_pass_313 (by decide) ?_
                                        refine lv_irem hx hb dX3_pass_315 (by decide) ?_
                                        refine lv_if_ne (tgt := 355) hx hb dX3_pass_316 (by decide) (fun c_316 => ?_) (fun c_316 => ?_)
                                        · skip
                                          have hW := cy_castS (show cq_ln (cq_p5 S c) c i = cq_pc S c x from by unfold cq_pc; rw [if_neg c_316, he.resolve_right c_316]; rfl) hW
                                          refine lv_iload hx hb dX3_pass_355 (lv_at hl 1 rfl) ?_
                                          exact hE  _ _ _ _ _ _ (Nat.le_of_ble_eq_true rfl) (Nat.le_of_ble_eq_true rfl) hW dX3_pass_357
                                        · skip
                                          refine lv_aload_n hx hb dX3_pass_319 rfl (lv_at hl 2 rfl) ?_
                                          refine cy_get hC (0) (by decide) hi3 hW (rfl) rfl 16 (by decide) (hts (.fieldLink RX3 42 "CaskYardModel" "tension" "[I") (by decide +kernel)) (fun _ h9 => h9) (v := .ref (ad 10)) rfl dX3_pass_320 ?_
                                          refine lv_bipush (v := 8) hx hb dX3_pass_323 (by decide) ?_
                                          refine lv_iload_n hx hb dX3_pass_325 rfl (lv_at hl 3 rfl) ?_
                                          refine lv_imul hx hb dX3_pass_326 ?_
                                          refine cy_top (pk_mul 8 c) ?_
                                          refine lv_iload hx hb dX3_pass_327 (lv_at hl 0 rfl) ?_
                                          refine lv_iadd hx hb dX3_pass_329 ?_
                                          refine cy_top (nI_add (8 * c) i) ?_
                                          refine lv_iconst (v := 0) hx hb dX3_pass_330 (by decide) ?_
                                          refine lv_aload_n hx hb dX3_pass_331 rfl (lv_at hl 2 rfl) ?_
                                          refine cy_get hC (0) (by decide) hi3 hW (rfl) rfl 16 (by decide) (hts (.fieldLink RX3 42 "CaskYardModel" "tension" "[I") (by decide +kernel)) (fun _ h9 => h9) (v := .ref (ad 10)) rfl dX3_pass_332 ?_
                                          refine lv_bipush (v := 8) hx hb dX3_pass_335 (by decide) ?_
                                          refine lv_iload_n hx hb dX3_pass_337 rfl (lv_at hl 3 rfl) ?_
                                          refine lv_imul hx hb dX3_pass_338 ?_
                                          refine cy_top (pk_mul 8 c) ?_
                                          refine lv_iload hx hb dX3_pass_339 (lv_at hl 0 rfl) ?_
                                          refine lv_iadd hx hb dX3_pass_341 ?_
                                          refine cy_top (nI_add (8 * c) i) ?_
                                          refine cy_iald hC (10) (by decide) hW 0 (i := ((8 * c) + i)) (rfl) rfl (by omega) (by decide) dX3_pass_342 ?_
                                          refine lv_iconst (v := 1) hx hb dX3_pass_343 (by decide) ?_
                                          refine lv_isub hx hb dX3_pass_344 ?_
                                          refine va_mmax hx hb (hml.trans hl.1.symm) hown (hts (.methodLink RX3 128 Lib.Math.max.name) (by decide +kernel)) (hts (.static Lib.Math.max.name) (by decide +kernel)) (hts (.initialized "java/lang/Math") (by decide +kernel)) (hts (.code Lib.Math.max.name Lib.Math.max.code 2 (some .int)) (by decide +kernel)) (Nat.le_of_ble_eq_true rfl) (Nat.le_of_ble_eq_true rfl) (Nat.le_of_ble_eq_true rfl) (Nat.le_of_ble_eq_true rfl) dX3_pass_345 ?_
                                          refine cy_topv (show _ = Value.int (cy_mx 0 ((((cq_ln (cq_p5 S c) c i) 10) ((8 * c) + i)) - 1)) from rfl) ?_
                                          refine cy_iast hC (10) (by decide) hW 0 (i := ((8 * c) + i)) (rfl) rfl (by omega) (by decide) (upd ((cq_ln (cq_p5 S c) c i) 10) ((8 * c) + i) (cy_mx 0 ((((cq_ln (cq_p5 S c) c i) 10) ((8 * c) + i)) - 1))) rfl (S' := (va_up (cq_ln (cq_p5 S c) c i) 10 (upd ((cq_ln (cq_p5 S c) c i) 10) ((8 * c) + i) (cy_mx 0 ((((cq_ln (cq_p5 S c) c i) 10) ((8 * c) + i)) - 1))))) rfl dX3_pass_348 (fun H locs hW => ?_)
                                          refine lv_iinc (v := nI (i + 1)) (lv' := [(7, .int (nI (i + 1))), (5, .int ((cq_p3 S c).2)), (0, .ref (ad 0)), (1, .int (nI c)), (2, .int x)]) hx hb dX3_pass_349 hl (k := 0) rfl (nI_1 i) (by decide) rfl (fun ls hl => ?_)
                                          refine lv_goto (tgt := 302) hx hb dX3_pass_352 (by decide) ?_
                                          exact ih_302 (i + 1) (by omega) (by omega) (Or.inr c_316) _ _ hW _ (lv_sub hl [0, 1, 2, 3, 4] rfl)
                                  exact L_302 ((cq_hn S c - 0) + 1) 0 (Nat.lt_succ_self _) (Nat.zero_le _) (Or.inl rfl) _ _ hW _ (lv_sub hl [0, 1, 2, 3, 4] rfl)
                                have hW := cy_castS (show (va_up (cq_vi (cq_p4 S c) c (cq_lf S c) 5) 13 (upd ((cq_vi (cq_p4 S c) c (cq_lf S c) 5) 13) c 0)) = (cq_p5 S c) from by simp only [cq_p5, c_251, c_260, ↓reduceIte]) hW
                                exact L_299   _ _ hW _ (lv_sub hl [2, 3, 4, 5] rfl)
                              · skip
                                have q_260 := cy_nle (a := 5) (b := k) (by omega) (by omega) c_260
                                refine lv_aload_n hx hb dX3_pass_263 rfl (lv_at hl 3 rfl) ?_
                                refine cy_get hC (0) (by decide) hi3 hW (rfl) rfl 20 (by decide) (hts (.fieldLink RX3 54 "CaskYardModel" "holds" "[I") (by decide +kernel)) (fun _ h9 => h9) (v := .ref (ad 14)) rfl dX3_pass_264 ?_
                                refine lv_iconst (v := 5) hx hb dX3_pass_267 (by decide) ?_
                                refine lv_iload_n hx hb dX3_pass_268 rfl (lv_at hl 4 rfl) ?_
                                refine lv_imul hx hb dX3_pass_269 ?_
                                refine cy_top (pk_mul 5 c) ?_
                                refine lv_iload hx hb dX3_pass_270 (lv_at hl 0 rfl) ?_
                                refine lv_iadd hx hb dX3_pass_272 ?_
                                refine cy_top (nI_add (5 * c) k) ?_
                                refine lv_iload hx hb dX3_pass_273 (lv_at hl 0 rfl) ?_
                                refine lv_iconst (v := 4) hx hb dX3_pass_275 (by decide) ?_
                                refine lv_icmp_ne (tgt := 284) hx hb dX3_pass_276 (by decide) (fun c_276 => ?_) (fun c_276 => ?_)
                                · skip
                                  have q_276 := cy_ne (a := k) (b := 4) (by omega) (by omega) c_276
                                  refine lv_iconst (v := 0) hx hb dX3_pass_284 (by decide) ?_
                                  refine cy_iast hC (14) (by decide) hW 0 (i := ((5 * c) + k)) (rfl) rfl (by omega) (by decide) (upd ((cq_vi (cq_p4 S c) c (cq_lf S c) k) 14) ((5 * c) + k) 0) rfl (S' := (va_up (cq_vi (cq_p4 S c) c (cq_lf S c) k) 14 (upd ((cq_vi (cq_p4 S c) c (cq_lf S c) k) 14) ((5 * c) + k) 0))) rfl dX3_pass_285 (fun H locs hW => ?_)
                                  refine lv_iinc (v := nI (k + 1)) (lv' := [(7, .int (nI (k + 1))), (6, .int (cq_lf S c)), (5, .int ((cq_p3 S c).2)), (0, .ref (ad 0)), (1, .int (nI c)), (2, .int x)]) hx hb dX3_pass_286 hl (k := 0) rfl (nI_1 k) (by decide) rfl (fun ls hl => ?_)
                                  refine lv_goto (tgt := 257) hx hb dX3_pass_289 (by decide) ?_
                                  have hW := cy_castS (show (va_up (cq_vi (cq_p4 S c) c (cq_lf S c) k) 14 (upd ((cq_vi (cq_p4 S c) c (cq_lf S c) k) 14) ((5 * c) + k) 0)) = (cq_vi (cq_p4 S c) c (cq_lf S c) (k + 1)) from by simp only [cq_vi, c_251, c_260, c_276, ↓reduceIte]) hW
                                  exact ih_257 (k + 1) (by omega) (by omega) _ _ hW _ (lv_sub hl [0, 1, 2, 3, 4, 5] rfl)
                                · skip
                                  have q_276 := cy_eq (a := k) (b := 4) (by omega) (by omega) c_276
                                  refine lv_iload hx hb dX3_pass_279 (lv_at hl 1 rfl) ?_
                                  refine lv_goto (tgt := 285) hx hb dX3_pass_281 (by decide) ?_
                                  refine cy_iast hC (14) (by decide) hW 0 (i := ((5 * c) + k)) (rfl) rfl (by omega) (by decide) (upd ((cq_vi (cq_p4 S c) c (cq_lf S c) k) 14) ((5 * c) + k) (cq_lf S c)) rfl (S' := (va_up (cq_vi (cq_p4 S c) c (cq_lf S c) k) 14 (upd ((cq_vi (cq_p4 S c) c (cq_lf S c) k) 14) ((5 * c) + k) (cq_lf S c)))) rfl dX3_pass_285 (fun H locs hW => ?_)
                                  refine lv_iinc (v := nI (k + 1)) (lv' := [(7, .int (nI (k + 1))), (6, .int (cq_lf S c)), (5, .int ((cq_p3 S c).2)), (0, .ref (ad 0)), (1, .int (nI c)), (2, .int x)]) hx hb dX3_pass_286 hl (k := 0) rfl (nI_1 k) (by decide) rfl (fun ls hl => ?_)
                                  refine lv_goto (tgt := 257) hx hb dX3_pass_289 (by decide) ?_
                                  have hW := cy_castS (show (va_up (cq_vi (cq_p4 S c) c (cq_lf S c) k) 14 (upd ((cq_vi (cq_p4 S c) c (cq_lf S c) k) 14) ((5 * c) + k) (cq_lf S c))) = (cq_vi (cq_p4 S c) c (cq_lf S c) (k + 1)) from by simp only [cq_vi, c_251, c_260, c_276, ↓reduceIte]) hW
                                  exact ih_257 (k + 1) (by omega) (by omega) _ _ hW _ (lv_sub hl [0, 1, 2, 3, 4, 5] rfl)
                          exact L_257 ((5 - 0) + 1) 0 (Nat.lt_succ_self _) (by omega) _ _ hW _ (lv_sub hl [0, 1, 2, 3, 4, 5] rfl)
                      have hW := cy_castS (show (va_up (cq_p3 S c).1 13 (upd ((cq_p3 S c).1 13) c 0)) = (cq_p4 S c) from by simp only [cq_p4, cq_lf, c_207, c_227, ↓reduceIte]) hW
                      exact L_243   _ _ hW _ (lv_sub hl [0, 1, 2, 3, 4] rfl)
                    · skip
                      refine lv_aload_n hx hb dX3_pass_230 rfl (lv_at hl 2 rfl) ?_
                      refine cy_get hC (0) (by decide) hi3 hW (rfl) rfl 19 (by decide) (hts (.fieldLink RX3 51 "CaskYardModel" "air" "[I") (by decide +kernel)) (fun _ h9 => h9) (v := .ref (ad 13)) rfl dX3_pass_231 ?_
                      refine lv_iload_n hx hb dX3_pass_234 rfl (lv_at hl 3 rfl) ?_
                      refine cy_iald hC (13) (by decide) hW 0 (i := c) (rfl) rfl (by omega) (by decide) dX3_pass_235 ?_
                      refine lv_iconst (v := 1) hx hb dX3_pass_236 (by decide) ?_
                      refine lv_iadd hx hb dX3_pass_237 ?_
                      refine lv_goto (tgt := 242) hx hb dX3_pass_238 (by decide) ?_
                      refine cy_iast hC (13) (by decide) hW 0 (i := c) (rfl) rfl (by omega) (by decide) (upd ((cq_p3 S c).1 13) c ((((cq_p3 S c).1 13) c) + 1)) rfl (S' := (va_up (cq_p3 S c).1 13 (upd ((cq_p3 S c).1 13) c ((((cq_p3 S c).1 13) c) + 1)))) rfl dX3_pass_242 (fun H locs hW => ?_)
                      have L_243 : ∀ (H : Heap) (locs : List Loc), cy_W D A s.heap (cy_Mw kI kZ ad (cq_p4 S c) tl) H locs → ∀ (ls : Array Slot), lv_has ls 8 [(6, .int (cq_lf S c)), (5, .int ((cq_p3 S c).2)), (0, .ref (ad 0)), (1, .int (nI c)), (2, .int x)] → W p l e rm_X3_pass s m args below meth co H locs 0 0 Q (F0 m 243 ls []) := by
                        intro   H locs hW ls hl
                        refine lv_aload_n hx hb dX3_pass_243 rfl (lv_at hl 2 rfl) ?_
                        refine cy_get hC (0) (by decide) hi3 hW (rfl) rfl 19 (by decide) (hts (.fieldLink RX3 51 "CaskYardModel" "air" "[I") (by decide +kernel)) (fun _ h9 => h9) (v := .ref (ad 13)) rfl dX3_pass_244 ?_
                        refine lv_iload_n hx hb dX3_pass_247 rfl (lv_at hl 3 rfl) ?_
                        refine cy_iald hC (13) (by decide) hW 0 (i := c) (rfl) rfl (by omega) (by decide) dX3_pass_248 ?_
                        refine lv_bipush (v := 6) hx hb dX3_pass_249 (by decide) ?_
                        refine lv_icmp_ne (tgt := 299) hx hb dX3_pass_251 (by decide) (fun c_251 => ?_) (fun c_251 => ?_)
                        · skip
                          have L_299 : ∀ (H : Heap) (locs : List Loc), cy_W D A s.heap (cy_Mw kI kZ ad (cq_p5 S c) tl) H locs → ∀ (ls : Array Slot), lv_has ls 8 [(5, .int ((cq_p3 S c).2)), (0, .ref (ad 0)), (1, .int (nI c)), (2, .int x)] → W p l e rm_X3_pass s m args below meth co H locs 0 0 Q (F0 m 299 ls []) := by
                            intro   H locs hW ls hl
                            refine lv_iconst (v := 0) hx hb dX3_pass_299 (by decide) ?_
                            refine lv_istore (lv' := [(7, .int 0), (5, .int ((cq_p3 S c).2)), (0, .ref (ad 0)), (1, .int (nI c)), (2, .int x)]) hx hb dX3_pass_300 hl (by decide) rfl (fun ls hl => ?_)
                            have L_302 : ∀ (fu : Nat) (i : Nat), cq_hn S c - i < fu → (i ≤ cq_hn S c) → (i = 0 ∨ x - x / 12 * 12 = 0) → ∀ (H : Heap) (locs : List Loc), cy_W D A s.heap (cy_Mw kI kZ ad (cq_ln (cq_p5 S c) c i) tl) H locs → ∀ (ls : Array Slot), lv_has ls 8 [(7, .int (nI i)), (5, .int ((cq_p3 S c).2)), (0, .ref (ad 0)), (1, .int (nI c)), (2, .int x)] → W p l e rm_X3_pass s m args below meth co H locs 0 0 Q (F0 m 302 ls []) := by
                              intro fu
                              induction fu with
                              | zero => intro i hn; exact absurd hn (Nat.not_lt_zero _)
                              | succ fu ih_302 =>
                                intro i hn_302 hi he H locs hW ls hl
                                have hq5 : cq_ok (cq_ln (cq_p5 S c) c i) := cq_ok_of (by rw [cq_ln_n (by decide), cq_p5_n (by decide) (by decide) (by decide) (by decide)]) (by rw [cq_ln_n (by decide), cq_p5_n (by decide) (by decide) (by decide) (by decide)]) hq
                                refine lv_iload hx hb dX3_pass_302 (lv_at hl 0 rfl) ?_
                                refine lv_aload_n hx hb dX3_pass_304 rfl (lv_at hl 2 rfl) ?_
                                refine lv_iload_n hx hb dX3_pass_305 rfl (lv_at hl 3 rfl) ?_
                                refine cy_callV (rm := rm_X3_hoopsOf) (As := [.int (nI c)]) (rest := [.int (nI i)]) (q0 := 0) (ci := 3) hC.1 hC.2.1 hC.2.2 hW (c_X3_hoopsOf (c := c) (by omega) hq5) (cwV 1 hts gX3_pass_X3_hoopsOf rfl rfl rfl (by decide +kernel) ⟨Nat.le_of_ble_eq_true rfl, Nat.le_of_ble_eq_true rfl⟩) (cy_w_at (by decide) (rfl)) rfl rfl hl.1 rfl (Nat.le_of_ble_eq_true rfl) dX3_pass_306 ⟨Nat.le_of_ble_eq_true rfl, Nat.le_of_ble_eq_true rfl⟩ (k' := 0) (n' := 0) rfl rfl (fun H locs hW => ?_)
                                refine cy_topv (show _ = Value.int (nI (cq_hn S c)) from (congrArg (fun z => Value.int (nI z)) (cq_hn_c (by rw [cq_ln_n (by decide), cq_p5_n (by decide) (by decide) (by decide) (by decide)]) (by rw [cq_ln_n (by decide), cq_p5_n (by decide) (by decide) (by decide) (by decide)]) (by rw [cq_ln_n (by decide), cq_p5_n (by decide) (by decide) (by decide) (by decide)])))) ?_
                                refine lv_icmp_ge (tgt := 355) hx hb dX3_pass_309 (by decide) (fun c_309 => ?_) (fun c_309 => ?_)
                                · skip
                                  have q_309 := cy_le (a := (cq_hn S c)) (b := i) (by omega) (by omega) c_309
                                  have hW := cy_castS (cq_pc_e he q_309 hi) hW
                                  refine lv_iload hx hb dX3_pass_355 (lv_at hl 1 rfl) ?_
                                  exact hE  _ _ _ _ _ _ (Nat.le_of_ble_eq_true rfl) (Nat.le_of_ble_eq_true rfl) hW dX3_pass_357
                                · skip
                                  have q_309 := cy_nle (a := (cq_hn S c)) (b := i) (by omega) (by omega) c_309
                                  refine lv_iload_n hx hb dX3_pass_312 rfl (lv_at hl 4 rfl) ?_
                                  refine lv_bipush (v := 12) hx hb dX3_pass_313 (by decide) ?_
                                  refine lv_irem hx hb dX3_pass_315 (by decide) ?_
                                  refine lv_if_ne (tgt := 355) hx hb dX3_pass_316 (by decide) (fun c_316 => ?_) (fun c_316 => ?_)
                                  · skip
                                    have hW := cy_castS (show cq_ln (cq_p5 S c) c i = cq_pc S c x from by unfold cq_pc; rw [if_neg c_316, he.resolve_right c_316]; rfl) hW
                                    refine lv_iload hx hb dX3_pass_355 (lv_at hl 1 rfl) ?_
                                    exact hE  _ _ _ _ _ _ (Nat.le_of_ble_eq_true rfl) (Nat.le_of_ble_eq_true rfl) hW dX3_pass_357
                                  · skip
                                    refine lv_aload_n hx hb dX3_pass_319 rfl (lv_at hl 2 rfl) ?_
                                    refine cy_get hC (0) (by decide) hi3 hW (rfl) rfl 16 (by decide) (hts (.fieldLink RX3 42 "CaskYardModel" "tension" "[I") (by decide +kernel)) (fun _ h9 => h9) (v := .ref (ad 10)) rfl dX3_pass_320 ?_
                                    refine lv_bipush (v := 8) hx hb dX3_pass_323 (by decide) ?_
                                    refine lv_iload_n hx hb dX3_pass_325 rfl (lv_at hl 3 rfl) ?_
                                    refine lv_imul hx hb dX3_pass_326 ?_
                                    refine cy_top (pk_mul 8 c) ?_
                                    refine lv_iload hx hb dX3_pass_327 (lv_at hl 0 rfl) ?_
                                    refine lv_iadd hx hb dX3_pass_329 ?_
                                    refine cy_top (nI_add (8 * c) i) ?_
                                    refine lv_iconst (v := 0) hx hb dX3_pass_330 (by decide) ?_
                                    refine lv_aload_n hx hb dX3_pass_331 rfl (lv_at hl 2 rfl) ?_
                                    refine cy_get hC (0) (by decide) hi3 hW (rfl) rfl 16 (by decide) (hts (.fieldLink RX3 42 "CaskYardModel" "tension" "[I") (by decide +kernel)) (fun _ h9 => h9) (v := .ref (ad 10)) rfl dX3_pass_332 ?_
                                    refine lv_bipush (v := 8) hx hb dX3_pass_335 (by decide) ?_
                                    refine lv_iload_n hx hb dX3_pass_337 rfl (lv_at hl 3 rfl) ?_
                                    refine lv_imul hx hb dX3_pass_338 ?_
                                    refine cy_top (pk_mul 8 c) ?_
                                    refine lv_iload hx hb dX3_pass_339 (lv_at hl 0 rfl) ?_
                                    refine lv_iadd hx hb dX3_pass_341 ?_
                                    refine cy_top (nI_add (8 * c) i) ?_
                                    refine cy_iald hC (10) (by decide) hW 0 (i := ((8 * c) + i)) (rfl) rfl (by omega) (by decide) dX3_pass_342 ?_
                                    refine lv_iconst (v := 1) hx hb dX3_pass_343 (by decide) ?_
                                    refine lv_isub hx hb dX3_pass_344 ?_
                                    refine va_mmax hx hb (hml.trans hl.1.symm) hown (hts (.methodLink RX3 128 Lib.Math.max.name) (by decide +kernel)) (hts (.static Lib.Math.max.name) (by decide +kernel)) (hts (.initialized "java/lang/Math") (by decide +kernel)) (hts (.code Lib.Math.max.name Lib.Math.max.code 2 (some .int)) (by decide +kernel)) (Nat.le_of_ble_eq_true rfl) (Nat.le_of_ble_eq_true rfl) (Nat.le_of_ble_eq_true rfl) (Nat.le_of_ble_eq_true rfl) dX3_pass_345 ?_
                                    refine cy_topv (show _ = Value.int (cy_mx 0 ((((cq_ln (cq_p5 S c) c i) 10) ((8 * c) + i)) - 1)) from rfl) ?_
                                    refine cy_iast hC (10) (by decide) hW 0 (i := ((8 * c) + i)) (rfl) rfl (by omega) (by decide) (upd ((cq_ln (cq_p5 S c) c i) 10) ((8 * c) + i) (cy_mx 0 ((((cq_ln (cq_p5 S c) c i) 10) ((8 * c) + i)) - 1))) rfl (S' := (va_up (cq_ln (cq_p5 S c) c i) 10 (upd ((cq_ln (cq_p5 S c) c i) 10) ((8 * c) + i) (cy_mx 0 ((((cq_ln (cq_p5 S c) c i) 10) ((8 * c) + i)) - 1))))) rfl dX3_pass_348 (fun H locs hW => ?_)
                                    refine lv_iinc (v := nI (i + 1)) (lv' := [(7, .int (nI (i + 1))), (5, .int ((cq_p3 S c).2)), (0, .ref (ad 0)), (1, .int (nI c)), (2, .int x)]) hx hb dX3_pass_349 hl (k := 0) rfl (nI_1 i) (by decide) rfl (fun ls hl => ?_)
                                    refine lv_goto (tgt := 302) hx hb dX3_pass_352 (by decide) ?_
                                    exact ih_302 (i + 1) (by omega) (by omega) (Or.inr c_316) _ _ hW _ (lv_sub hl [0, 1, 2, 3, 4] rfl)
                            exact L_302 ((cq_hn S c - 0) + 1) 0 (Nat.lt_succ_self _) (Nat.zero_le _) (Or.inl rfl) _ _ hW _ (lv_sub hl [0, 1, 2, 3, 4] rfl)
                          have hW := cy_castS (show (cq_p4 S c) = (cq_p5 S c) from by simp only [cq_p5, c_251, ↓reduceIte]) hW
                          exact L_299   _ _ hW _ (lv_sub hl [1, 2, 3, 4] rfl)
                        · skip
                          refine lv_iconst (v := 0) hx hb dX3_pass_254 (by decide) ?_
                          refine lv_istore (lv' := [(7, .int 0), (6, .int (cq_lf S c)), (5, .int ((cq_p3 S c).2)), (0, .ref (ad 0)), (1, .int (nI c)), (2, .int x)]) hx hb dX3_pass_255 hl (by decide) rfl (fun ls hl => ?_)
                          have L_257 : ∀ (fu : Nat) (k : Nat), 5 - k < fu → (k ≤ 5) → ∀ (H : Heap) (locs : List Loc), cy_W D A s.heap (cy_Mw kI kZ ad (cq_vi (cq_p4 S c) c (cq_lf S c) k) tl) H locs → ∀ (ls : Array Slot), lv_has ls 8 [(7, .int (nI k)), (6, .int (cq_lf S c)), (5, .int ((cq_p3 S c).2)), (0, .ref (ad 0)), (1, .int (nI c)), (2, .int x)] → W p l e rm_X3_pass s m args below meth co H locs 0 0 Q (F0 m 257 ls []) := by
                            intro fu
                            induction fu with
                            | zero => intro k hn; exact absurd hn (Nat.not_lt_zero _)
                            | succ fu ih_257 =>
                              intro k hn_257 hk H locs hW ls hl
                              refine lv_iload hx hb dX3_pass_257 (lv_at hl 0 rfl) ?_
                              refine lv_iconst (v := 5) hx hb dX3_pass_259 (by decide) ?_
                              refine lv_icmp_ge (tgt := 292) hx hb dX3_pass_260 (by decide) (fun c_260 => ?_) (fun c_260 => ?_)
                              · skip
                                have q_260 := cy_le (a := 5) (b := k) (by omega) (by omega) c_260
                                obtain rfl : k = 5 := by omega
                                refine lv_aload_n hx hb dX3_pass_292 rfl (lv_at hl 3 rfl) ?_
                                refine cy_get hC (0) (by decide) hi3 hW (rfl) rfl 19 (by decide) (hts (.fieldLink RX3 51 "CaskYardModel" "air" "[I") (by decide +kernel)) (fun _ h9 => h9) (v := .ref (ad 13)) rfl dX3_pass_293 ?_
                                refine lv_iload_n hx hb dX3_pass_296 rfl (lv_at hl 4 rfl) ?_
                                refine lv_iconst (v := 0) hx hb dX3_pass_297 (by decide) ?_
                                refine cy_iast hC (13) (by decide) hW 0 (i := c) (rfl) rfl (by omega) (by decide) (upd ((cq_vi (cq_p4 S c) c (cq_lf S c) 5) 13) c 0) rfl (S' := (va_up (cq_vi (cq_p4 S c) c (cq_lf S c) 5) 13 (upd ((cq_vi (cq_p4 S c) c (cq_lf S c) 5) 13) c 0))) rfl dX3_pass_298 (fun H locs hW => ?_)
                                have L_299 : ∀ (H : Heap) (locs : List Loc), cy_W D A s.heap (cy_Mw kI kZ ad (cq_p5 S c) tl) H locs → ∀ (ls : Array Slot), lv_has ls 8 [(5, .int ((cq_p3 S c).2)), (0, .ref (ad 0)), (1, .int (nI c)), (2, .int x)] → W p l e rm_X3_pass s m args below meth co H locs 0 0 Q (F0 m 299 ls []) := by
                                  intro   H locs hW ls hl
                                  refine lv_iconst (v := 0) hx hb dX3_pass_299 (by decide) ?_
                                  refine lv_istore (lv' := [(7, .int 0), (5, .int ((cq_p3 S c).2)), (0, .ref (ad 0)), (1, .int (nI c)), (2, .int x)]) hx hb dX3_pass_300 hl (by decide) rfl (fun ls hl => ?_)
                                  have L_302 : ∀ (fu : Nat) (i : Nat), cq_hn S c - i < fu → (i ≤ cq_hn S c) → (i = 0 ∨ x - x / 12 * 12 = 0) → ∀ (H : Heap) (locs : List Loc), cy_W D A s.heap (cy_Mw kI kZ ad (cq_ln (cq_p5 S c) c i) tl) H locs → ∀ (ls : Array Slot), lv_has ls 8 [(7, .int (nI i)), (5, .int ((cq_p3 S c).2)), (0, .ref (ad 0)), (1, .int (nI c)), (2, .int x)] → W p l e rm_X3_pass s m args below meth co H locs 0 0 Q (F0 m 302 ls []) := by
                                    intro fu
                                    induction fu with
                                    | zero => intro i hn; exact absurd hn (Nat.not_lt_zero _)
                                    | succ fu ih_302 =>
                                      intro i hn_302 hi he H locs hW ls hl
                                      have hq5 : cq_ok (cq_ln (cq_p5 S c) c i) := cq_ok_of (by rw [cq_ln_n (by decide), cq_p5_n (by decide) (by decide) (by decide) (by decide)]) (by rw [cq_ln_n (by decide), cq_p5_n (by decide) (by decide) (by decide) (by decide)]) hq
                                      refine lv_iload hx hb dX3_pass_302 (lv_at hl 0 rfl) ?_
                                      refine lv_aload_n hx hb dX3_pass_304 rfl (lv_at hl 2 rfl) ?_
                                      refine lv_iload_n hx hb dX3_pass_305 rfl (lv_at hl 3 rfl) ?_
                                      refine cy_callV (rm := rm_X3_hoopsOf) (As := [.int (nI c)]) (rest := [.int (nI i)]) (q0 := 0) (ci := 3) hC.1 hC.2.1 hC.2.2 hW (c_X3_hoopsOf (c := c) (by omega) hq5) (cwV 1 hts gX3_pass_X3_hoopsOf rfl rfl rfl (by decide +kernel) ⟨Nat.le_of_ble_eq_true rfl, Nat.le_of_ble_eq_true rfl⟩) (cy_w_at (by decide) (rfl)) rfl rfl hl.1 rfl (Nat.le_of_ble_eq_true rfl) dX3_pass_306 ⟨Nat.le_of_ble_eq_true rfl, Nat.le_of_ble_eq_true rfl⟩ (k' := 0) (n' := 0) rfl rfl (fun H locs hW => ?_)
                                      refine cy_topv (show _ = Value.int (nI (cq_hn S c)) from (congrArg (fun z => Value.int (nI z)) (cq_hn_c (by rw [cq_ln_n (by decide), cq_p5_n (by decide) (by decide) (by decide) (by decide)]) (by rw [cq_ln_n (by decide), cq_p5_n (by decide) (by decide) (by decide) (by decide)]) (by rw [cq_ln_n (by decide), cq_p5_n (by decide) (by decide) (by decide) (by decide)])))) ?_
                                      refine lv_icmp_ge (tgt := 355) hx hb dX3_pass_309 (by decide) (fun c_309 => ?_) (fun c_309 => ?_)
                                      · skip
                                        have q_309 := cy_le (a := (cq_hn S c)) (b := i) (by omega) (by omega) c_309
                                        have hW := cy_castS (cq_pc_e he q_309 hi) hW
                                        refine lv_iload hx hb dX3_pass_355 (lv_at hl 1 rfl) ?_
                                        exact hE  _ _ _ _ _ _ (Nat.le_of_ble_eq_true rfl) (Nat.le_of_ble_eq_true rfl) hW dX3_pass_357
                                      · skip
                                        have q_309 := cy_nle (a := (cq_hn S c)) (b := i) (by omega) (by omega) c_309
                                        refine lv_iload_n hx hb dX3_pass_312 rfl (lv_at hl 4 rfl) ?_
                                        refine lv_bipush (v := 12) hx hb dX3_pass_313 (by decide) ?_
                                        refine lv_irem hx hb dX3_pass_315 (by decide) ?_
                                        refine lv_if_ne (tgt := 355) hx hb dX3_pass_316 (by decide) (fun c_316 => ?_) (fun c_316 => ?_)
                                        · skip
                                          have hW := cy_castS (show cq_ln (cq_p5 S c) c i = cq_pc S c x from by unfold cq_pc; rw [if_neg c_316, he.resolve_right c_316]; rfl) hW
                                          refine lv_iload hx hb dX3_pass_355 (lv_at hl 1 rfl) ?_
                                          exact hE  _ _ _ _ _ _ (Nat.le_of_ble_eq_true rfl) (Nat.le_of_ble_eq_true rfl) hW dX3_pass_357
                                        · skip
                                          refine lv_aload_n hx hb dX3_pass_319 rfl (lv_at hl 2 rfl) ?_
                                          refine cy_get hC (0) (by decide) hi3 hW (rfl) rfl 16 (by decide) (hts (.fieldLink RX3 42 "CaskYardModel" "tension" "[I") (by decide +kernel)) (fun _ h9 => h9) (v := .ref (ad 10)) rfl dX3_pass_320 ?_
                                          refine lv_bipush (v := 8) hx hb dX3_pass_323 (by decide) ?_
                                          refine lv_iload_n hx hb dX3_pass_325 rfl (lv_at hl 3 rfl) ?_
                                          refine lv_imul hx hb dX3_pass_326 ?_
                                          refine cy_top (pk_mul 8 c) ?_
                                          refine lv_iload hx hb dX3_pass_327 (lv_at hl 0 rfl) ?_
                                          refine lv_iadd hx hb dX3_pass_329 ?_
                                          refine cy_top (nI_add (8 * c) i) ?_
                                          refine lv_iconst (v := 0) hx hb dX3_pass_330 (by decide) ?_
                                          refine lv_aload_n hx hb dX3_pass_331 rfl (lv_at hl 2 rfl) ?_
                                          refine cy_get hC (0) (by decide) hi3 hW (rfl) rfl 16 (by decide) (hts (.fieldLink RX3 42 "CaskYardModel" "tension" "[I") (by decide +kernel)) (fun _ h9 => h9) (v := .ref (ad 10)) rfl dX3_pass_332 ?_
                                          refine lv_bipush (v := 8) hx hb dX3_pass_335 (by decide) ?_
                                          refine lv_iload_n hx hb dX3_pass_337 rfl (lv_at hl 3 rfl) ?_
                                          refine lv_imul hx hb dX3_pass_338 ?_
                                          refine cy_top (pk_mul 8 c) ?_
                                          refine lv_iload hx hb dX3_pass_339 (lv_at hl 0 rfl) ?_
                                          refine lv_iadd hx hb dX3_pass_341 ?_
                                          refine cy_top (nI_add (8 * c) i) ?_
                                          refine cy_iald hC (10) (by decide) hW 0 (i := ((8 * c) + i)) (rfl) rfl (by omega) (by decide) dX3_pass_342 ?_
                                          refine lv_iconst (v := 1) hx hb dX3_pass_343 (by decide) ?_
                                          refine lv_isub hx hb dX3_pass_344 ?_
                                          refine va_mmax hx hb (hml.trans hl.1.symm) hown (hts (.methodLink RX3 128 Lib.Math.max.name) (by decide +kernel)) (hts (.static Lib.Math.max.name) (by decide +kernel)) (hts (.initialized "java/lang/Math") (by decide +kernel)) (hts (.code Lib.Math.max.name Lib.Math.max.code 2 (some .int)) (by decide +kernel)) (Nat.le_of_ble_eq_true rfl) (Nat.le_of_ble_eq_true rfl) (Nat.le_of_ble_eq_true rfl) (Nat.le_of_ble_eq_true rfl) dX3_pass_345 ?_
                                          refine cy_topv (show _ = Value.int (cy_mx 0 ((((cq_ln (cq_p5 S c) c i) 10) ((8 * c) + i)) - 1)) from rfl) ?_
                                          refine cy_iast hC (10) (by decide) hW 0 (i := ((8 * c) + i)) (rfl) rfl (by omega) (by decide) (upd ((cq_ln (cq_p5 S c) c i) 10) ((8 * c) + i) (cy_mx 0 ((((cq_ln (cq_p5 S c) c i) 10) ((8 * c) + i)) - 1))) rfl (S' := (va_up (cq_ln (cq_p5 S c) c i) 10 (upd ((cq_ln (cq_p5 S c) c i) 10) ((8 * c) + i) (cy_mx 0 ((((cq_ln (cq_p5 S c) c i) 10) ((8 * c) + i)) - 1))))) rfl dX3_pass_348 (fun H locs hW => ?_)
                                          refine lv_iinc (v := nI (i + 1)) (lv' := [(7, .int (nI (i + 1))), (5, .int ((cq_p3 S c).2)), (0, .ref (ad 0)), (1, .int (nI c)), (2, .int x)]) hx hb dX3_pass_349 hl (k := 0) rfl (nI_1 i) (by decide) rfl (fun ls hl => ?_)
                                          refine lv_goto (tgt := 302) hx hb dX3_pass_352 (by decide) ?_
                                          exact ih_302 (i + 1) (by omega) (by omega) (Or.inr c_316) _ _ hW _ (lv_sub hl [0, 1, 2, 3, 4] rfl)
                                  exact L_302 ((cq_hn S c - 0) + 1) 0 (Nat.lt_succ_self _) (Nat.zero_le _) (Or.inl rfl) _ _ hW _ (lv_sub hl [0, 1, 2, 3, 4] rfl)
                                have hW := cy_castS (show (va_up (cq_vi (cq_p4 S c) c (cq_lf S c) 5) 13 (upd ((cq_vi (cq_p4 S c) c (cq_lf S c) 5) 13) c 0)) = (cq_p5 S c) from by simp only [cq_p5, c_251, c_260, ↓reduceIte]) hW
                                exact L_299   _ _ hW _ (lv_sub hl [2, 3, 4, 5] rfl)
                              · skip
                                have q_260 := cy_nle (a := 5) (b := k) (by omega) (by omega) c_260
                                refine lv_aload_n hx hb dX3_pass_263 rfl (lv_at hl 3 rfl) ?_
                                refine cy_get hC (0) (by decide) hi3 hW (rfl) rfl 20 (by decide) (hts (.fieldLink RX3 54 "CaskYardModel" "holds" "[I") (by decide +kernel)) (fun _ h9 => h9) (v := .ref (ad 14)) rfl dX3_pass_264 ?_
                                refine lv_iconst (v := 5) hx hb dX3_pass_267 (by decide) ?_
                                refine lv_iload_n hx hb dX3_pass_268 rfl (lv_at hl 4 rfl) ?_
                                refine lv_imul hx hb dX3_pass_269 ?_
                                refine cy_top (pk_mul 5 c) ?_
                                refine lv_iload hx hb dX3_pass_270 (lv_at hl 0 rfl) ?_
                                refine lv_iadd hx hb dX3_pass_272 ?_
                                refine cy_top (nI_add (5 * c) k) ?_
                                refine lv_iload hx hb dX3_pass_273 (lv_at hl 0 rfl) ?_
                                refine lv_iconst (v := 4) hx hb dX3_pass_275 (by decide) ?_
                                refine lv_icmp_ne (tgt := 284) hx hb dX3_pass_276 (by decide) (fun c_276 => ?_) (fun c_276 => ?_)
                                · skip
                                  have q_276 := cy_ne (a := k) (b := 4) (by omega) (by omega) c_276
                                  refine lv_iconst (v := 0) hx hb dX3_pass_284 (by decide) ?_
                                  refine cy_iast hC (14) (by decide) hW 0 (i := ((5 * c) + k)) (rfl) rfl (by omega) (by decide) (upd ((cq_vi (cq_p4 S c) c (cq_lf S c) k) 14) ((5 * c) + k) 0) rfl (S' := (va_up (cq_vi (cq_p4 S c) c (cq_lf S c) k) 14 (upd ((cq_vi (cq_p4 S c) c (cq_lf S c) k) 14) ((5 * c) + k) 0))) rfl dX3_pass_285 (fun H locs hW => ?_)
                                  refine lv_iinc (v := nI (k + 1)) (lv' := [(7, .int (nI (k + 1))), (6, .int (cq_lf S c)), (5, .int ((cq_p3 S c).2)), (0, .ref (ad 0)), (1, .int (nI c)), (2, .int x)]) hx hb dX3_pass_286 hl (k := 0) rfl (nI_1 k) (by decide) rfl (fun ls hl => ?_)
                                  refine lv_goto (tgt := 257) hx hb dX3_pass_289 (by decide) ?_
                                  have hW := cy_castS (show (va_up (cq_vi (cq_p4 S c) c (cq_lf S c) k) 14 (upd ((cq_vi (cq_p4 S c) c (cq_lf S c) k) 14) ((5 * c) + k) 0)) = (cq_vi (cq_p4 S c) c (cq_lf S c) (k + 1)) from by simp only [cq_vi, c_251, c_260, c_276, ↓reduceIte]) hW
                                  exact ih_257 (k + 1) (by omega) (by omega) _ _ hW _ (lv_sub hl [0, 1, 2, 3, 4, 5] rfl)
                                · skip
                                  have q_276 := cy_eq (a := k) (b := 4) (by omega) (by omega) c_276
                                  refine lv_iload hx hb dX3_pass_279 (lv_at hl 1 rfl) ?_
                                  refine lv_goto (tgt := 285) hx hb dX3_pass_281 (by decide) ?_
                                  refine cy_iast hC (14) (by decide) hW 0 (i := ((5 * c) + k)) (rfl) rfl (by omega) (by decide) (upd ((cq_vi (cq_p4 S c) c (cq_lf S c) k) 14) ((5 * c) + k) (cq_lf S c)) rfl (S' := (va_up (cq_vi (cq_p4 S c) c (cq_lf S c) k) 14 (upd ((cq_vi (cq_p4 S c) c (cq_lf S c) k) 14) ((5 * c) + k) (cq_lf S c)))) rfl dX3_pass_285 (fun H locs hW => ?_)
                                  refine lv_iinc (v := nI (k + 1)) (lv' := [(7, .int (nI (k + 1))), (6, .int (cq_lf S c)), (5, .int ((cq_p3 S c).2)), (0, .ref (ad 0)), (1, .int (nI c)), (2, .int x)]) hx hb dX3_pass_286 hl (k := 0) rfl (nI_1 k) (by decide) rfl (fun ls hl => ?_)
                                  refine lv_goto (tgt := 257) hx hb dX3_pass_289 (by decide) ?_
                                  have hW := cy_castS (show (va_up (cq_vi (cq_p4 S c) c (cq_lf S c) k) 14 (upd ((cq_vi (cq_p4 S c) c (cq_lf S c) k) 14) ((5 * c) + k) (cq_lf S c))) = (cq_vi (cq_p4 S c) c (cq_lf S c) (k + 1)) from by simp only [cq_vi, c_251, c_260, c_276, ↓reduceIte]) hW
                                  exact ih_257 (k + 1) (by omega) (by omega) _ _ hW _ (lv_sub hl [0, 1, 2, 3, 4, 5] rfl)
                          exact L_257 ((5 - 0) + 1) 0 (Nat.lt_succ_self _) (by omega) _ _ hW _ (lv_sub hl [0, 1, 2, 3, 4, 5] rfl)
                      have hW := cy_castS (show (va_up (cq_p3 S c).1 13 (upd ((cq_p3 S c).1 13) c ((((cq_p3 S c).1 13) c) + 1))) = (cq_p4 S c) from by simp only [cq_p4, cq_lf, c_207, c_227, ↓reduceIte]) hW
                      exact L_243   _ _ hW _ (lv_sub hl [0, 1, 2, 3, 4] rfl)
                exact L_193   _ _ hW _ (lv_sub hl [1, 3, 4, 5] rfl)
              · skip
                have q_117 := cy_nle (a := ((5 * c) + 5)) (b := (5 * c + i)) (by omega) (by omega) c_117
                refine lv_aload_n hx hb dX3_pass_120 rfl (lv_at hl 3 rfl) ?_
                refine cy_get hC (0) (by decide) hi3 hW (rfl) rfl 20 (by decide) (hts (.fieldLink RX3 54 "CaskYardModel" "holds" "[I") (by decide +kernel)) (fun _ h9 => h9) (v := .ref (ad 14)) rfl dX3_pass_121 ?_
                refine lv_iload hx hb dX3_pass_124 (lv_at hl 2 rfl) ?_
                refine cy_iald hC (14) (by decide) hW 0 (i := (5 * c + i)) (rfl) rfl (by omega) (by decide) dX3_pass_126 ?_
                refine lv_if_ne (tgt := 134) hx hb dX3_pass_127 (by decide) (fun c_127 => ?_) (fun c_127 => ?_)
                · skip
                  refine lv_aload_n hx hb dX3_pass_134 rfl (lv_at hl 3 rfl) ?_
                  refine cy_get hC (0) (by decide) hi3 hW (rfl) rfl 20 (by decide) (hts (.fieldLink RX3 54 "CaskYardModel" "holds" "[I") (by decide +kernel)) (fun _ h9 => h9) (v := .ref (ad 14)) rfl dX3_pass_135 ?_
                  refine lv_iload hx hb dX3_pass_138 (lv_at hl 2 rfl) ?_
                  refine cy_iald hC (14) (by decide) hW 0 (i := (5 * c + i)) (rfl) rfl (by omega) (by decide) dX3_pass_140 ?_
                  refine lv_i2l hx hb dX3_pass_141 rfl ?_
                  refine lv_lconst (v := 1) hx hb dX3_pass_142 rfl ?_
                  refine lv_aload_n hx hb dX3_pass_143 rfl (lv_at hl 3 rfl) ?_
                  refine cy_get hC (0) (by decide) hi3 hW (rfl) rfl 20 (by decide) (hts (.fieldLink RX3 54 "CaskYardModel" "holds" "[I") (by decide +kernel)) (fun _ h9 => h9) (v := .ref (ad 14)) rfl dX3_pass_144 ?_
                  refine lv_iload hx hb dX3_pass_147 (lv_at hl 2 rfl) ?_
                  refine cy_iald hC (14) (by decide) hW 0 (i := (5 * c + i)) (rfl) rfl (by omega) (by decide) dX3_pass_149 ?_
                  refine lv_i2l hx hb dX3_pass_150 rfl ?_
                  refine lv_iload hx hb dX3_pass_151 (lv_at hl 0 rfl) ?_
                  refine lv_i2l hx hb dX3_pass_153 rfl ?_
                  refine lv_lmul hx hb dX3_pass_154 ?_
                  refine lv_ldc2 (v := 1000) hx hb hown (hts (.constantLong RX3 144 1000) (by decide +kernel)) dX3_pass_155 ?_
                  refine lv_ldiv hx hb dX3_pass_158 (by decide) ?_
                  refine va_mmax_long hx hb (hml.trans hl.1.symm) hown (hts (.methodLink RX3 146 Lib.MathLoose.max_long.x) (by decide +kernel)) (hts (.static Lib.MathLoose.max_long.x) (by decide +kernel)) (hts (.initialized "java/lang/Math") (by decide +kernel)) (hts (.code Lib.MathLoose.max_long.x Lib.MathLoose.max_long.code 4 (some .long)) (by decide +kernel)) (Nat.le_of_ble_eq_true rfl) (Nat.le_of_ble_eq_true rfl) (Nat.le_of_ble_eq_true rfl) (Nat.le_of_ble_eq_true rfl) dX3_pass_159 ?_
                  refine cy_topv (show _ = Value.long (cy_mxL 1 ((((((cq_lo (cq_p2 S c) c (cq_by S c) i).1 14) (5 * c + i)).toInt64) * ((cq_by S c).toInt64)) / 1000)) from rfl) ?_
                  refine va_mmin_long hx hb (hml.trans hl.1.symm) hown (hts (.methodLink RX3 149 Lib.MathLoose.min_long.x) (by decide +kernel)) (hts (.static Lib.MathLoose.min_long.x) (by decide +kernel)) (hts (.initialized "java/lang/Math") (by decide +kernel)) (hts (.code Lib.MathLoose.min_long.x Lib.MathLoose.min_long.code 4 (some .long)) (by decide +kernel)) (Nat.le_of_ble_eq_true rfl) (Nat.le_of_ble_eq_true rfl) (Nat.le_of_ble_eq_true rfl) (Nat.le_of_ble_eq_true rfl) dX3_pass_162 ?_
                  refine cy_topv (show _ = Value.long (cy_mnL ((((cq_lo (cq_p2 S c) c (cq_by S c) i).1 14) (5 * c + i)).toInt64) (cy_mxL 1 ((((((cq_lo (cq_p2 S c) c (cq_by S c) i).1 14) (5 * c + i)).toInt64) * ((cq_by S c).toInt64)) / 1000))) from rfl) ?_
                  refine lv_l2i hx hb dX3_pass_165 rfl ?_
                  refine lv_istore (lv' := [(7, .int ((cy_mnL ((((cq_lo (cq_p2 S c) c (cq_by S c) i).1 14) (5 * c + i)).toInt64) (cy_mxL 1 ((((((cq_lo (cq_p2 S c) c (cq_by S c) i).1 14) (5 * c + i)).toInt64) * ((cq_by S c).toInt64)) / 1000))).toInt32)), (4, .int (cq_by S c)), (5, .int ((cq_lo (cq_p2 S c) c (cq_by S c) i).2)), (6, .int (nI (5 * c + i))), (0, .ref (ad 0)), (1, .int (nI c)), (2, .int x)]) hx hb dX3_pass_166 hl (by decide) rfl (fun ls hl => ?_)
                  refine lv_aload_n hx hb dX3_pass_168 rfl (lv_at hl 4 rfl) ?_
                  refine cy_get hC (0) (by decide) hi3 hW (rfl) rfl 20 (by decide) (hts (.fieldLink RX3 54 "CaskYardModel" "holds" "[I") (by decide +kernel)) (fun _ h9 => h9) (v := .ref (ad 14)) rfl dX3_pass_169 ?_
                  refine lv_iload hx hb dX3_pass_172 (lv_at hl 3 rfl) ?_
                  refine lv_dup2_11 hx hb dX3_pass_174 rfl rfl ?_
                  refine cy_iald hC (14) (by decide) hW 0 (i := (5 * c + i)) (rfl) rfl (by omega) (by decide) dX3_pass_175 ?_
                  refine lv_iload hx hb dX3_pass_176 (lv_at hl 0 rfl) ?_
                  refine lv_isub hx hb dX3_pass_178 ?_
                  refine cy_iast hC (14) (by decide) hW 0 (i := (5 * c + i)) (rfl) rfl (by omega) (by decide) (upd ((cq_lo (cq_p2 S c) c (cq_by S c) i).1 14) (5 * c + i) ((((cq_lo (cq_p2 S c) c (cq_by S c) i).1 14) (5 * c + i)) - ((cy_mnL ((((cq_lo (cq_p2 S c) c (cq_by S c) i).1 14) (5 * c + i)).toInt64) (cy_mxL 1 ((((((cq_lo (cq_p2 S c) c (cq_by S c) i).1 14) (5 * c + i)).toInt64) * ((cq_by S c).toInt64)) / 1000))).toInt32))) rfl (S' := (va_up (cq_lo (cq_p2 S c) c (cq_by S c) i).1 14 (upd ((cq_lo (cq_p2 S c) c (cq_by S c) i).1 14) (5 * c + i) ((((cq_lo (cq_p2 S c) c (cq_by S c) i).1 14) (5 * c + i)) - ((cy_mnL ((((cq_lo (cq_p2 S c) c (cq_by S c) i).1 14) (5 * c + i)).toInt64) (cy_mxL 1 ((((((cq_lo (cq_p2 S c) c (cq_by S c) i).1 14) (5 * c + i)).toInt64) * ((cq_by S c).toInt64)) / 1000))).toInt32))))) rfl dX3_pass_179 (fun H locs hW => ?_)
                  refine lv_iload hx hb dX3_pass_180 (lv_at hl 2 rfl) ?_
                  refine lv_iload hx hb dX3_pass_182 (lv_at hl 0 rfl) ?_
                  refine lv_iadd hx hb dX3_pass_184 ?_
                  refine lv_istore (lv' := [(5, .int (((cq_lo (cq_p2 S c) c (cq_by S c) i).2) + ((cy_mnL ((((cq_lo (cq_p2 S c) c (cq_by S c) i).1 14) (5 * c + i)).toInt64) (cy_mxL 1 ((((((cq_lo (cq_p2 S c) c (cq_by S c) i).1 14) (5 * c + i)).toInt64) * ((cq_by S c).toInt64)) / 1000))).toInt32))), (7, .int ((cy_mnL ((((cq_lo (cq_p2 S c) c (cq_by S c) i).1 14) (5 * c + i)).toInt64) (cy_mxL 1 ((((((cq_lo (cq_p2 S c) c (cq_by S c) i).1 14) (5 * c + i)).toInt64) * ((cq_by S c).toInt64)) / 1000))).toInt32)), (4, .int (cq_by S c)), (6, .int (nI (5 * c + i))), (0, .ref (ad 0)), (1, .int (nI c)), (2, .int x)]) hx hb dX3_pass_185 hl (by decide) rfl (fun ls hl => ?_)
                  refine lv_iinc (v := nI (5 * c + i + 1)) (lv' := [(6, .int (nI (5 * c + i + 1))), (5, .int (((cq_lo (cq_p2 S c) c (cq_by S c) i).2) + ((cy_mnL ((((cq_lo (cq_p2 S c) c (cq_by S c) i).1 14) (5 * c + i)).toInt64) (cy_mxL 1 ((((((cq_lo (cq_p2 S c) c (cq_by S c) i).1 14) (5 * c + i)).toInt64) * ((cq_by S c).toInt64)) / 1000))).toInt32))), (7, .int ((cy_mnL ((((cq_lo (cq_p2 S c) c (cq_by S c) i).1 14) (5 * c + i)).toInt64) (cy_mxL 1 ((((((cq_lo (cq_p2 S c) c (cq_by S c) i).1 14) (5 * c + i)).toInt64) * ((cq_by S c).toInt64)) / 1000))).toInt32)), (4, .int (cq_by S c)), (0, .ref (ad 0)), (1, .int (nI c)), (2, .int x)]) hx hb dX3_pass_187 hl (k := 3) rfl (nI_1 (5 * c + i)) (by decide) rfl (fun ls hl => ?_)
                  refine lv_goto (tgt := 110) hx hb dX3_pass_190 (by decide) ?_
                  rw [show ((cq_lo (cq_p2 S c) c (cq_by S c) i).2) + ((cy_mnL ((((cq_lo (cq_p2 S c) c (cq_by S c) i).1 14) (5 * c + i)).toInt64) (cy_mxL 1 ((((((cq_lo (cq_p2 S c) c (cq_by S c) i).1 14) (5 * c + i)).toInt64) * ((cq_by S c).toInt64)) / 1000))).toInt32) = (cq_lo (cq_p2 S c) c (cq_by S c) (i + 1)).2 from by simp only [cq_lo, cq_ow, cy_ls, c_117, c_127, ↓reduceIte]] at hl
                  have hW := cy_castS (show (va_up (cq_lo (cq_p2 S c) c (cq_by S c) i).1 14 (upd ((cq_lo (cq_p2 S c) c (cq_by S c) i).1 14) (5 * c + i) ((((cq_lo (cq_p2 S c) c (cq_by S c) i).1 14) (5 * c + i)) - ((cy_mnL ((((cq_lo (cq_p2 S c) c (cq_by S c) i).1 14) (5 * c + i)).toInt64) (cy_mxL 1 ((((((cq_lo (cq_p2 S c) c (cq_by S c) i).1 14) (5 * c + i)).toInt64) * ((cq_by S c).toInt64)) / 1000))).toInt32)))) = (cq_lo (cq_p2 S c) c (cq_by S c) (i + 1)).1 from by simp only [cq_lo, cq_ow, cy_ls, c_117, c_127, ↓reduceIte]) hW
                  exact ih_110 (i + 1) (by omega) (by omega) _ _ hW _ (lv_sub hl [3, 1, 0, 4, 5, 6] rfl)
                · skip
                  refine lv_iconst (v := 0) hx hb dX3_pass_130 (by decide) ?_
                  refine lv_goto (tgt := 166) hx hb dX3_pass_131 (by decide) ?_
                  refine lv_istore (lv' := [(7, .int 0), (4, .int (cq_by S c)), (5, .int ((cq_lo (cq_p2 S c) c (cq_by S c) i).2)), (6, .int (nI (5 * c + i))), (0, .ref (ad 0)), (1, .int (nI c)), (2, .int x)]) hx hb dX3_pass_166 hl (by decide) rfl (fun ls hl => ?_)
                  refine lv_aload_n hx hb dX3_pass_168 rfl (lv_at hl 4 rfl) ?_
                  refine cy_get hC (0) (by decide) hi3 hW (rfl) rfl 20 (by decide) (hts (.fieldLink RX3 54 "CaskYardModel" "holds" "[I") (by decide +kernel)) (fun _ h9 => h9) (v := .ref (ad 14)) rfl dX3_pass_169 ?_
                  refine lv_iload hx hb dX3_pass_172 (lv_at hl 3 rfl) ?_
                  refine lv_dup2_11 hx hb dX3_pass_174 rfl rfl ?_
                  refine cy_iald hC (14) (by decide) hW 0 (i := (5 * c + i)) (rfl) rfl (by omega) (by decide) dX3_pass_175 ?_
                  refine lv_iload hx hb dX3_pass_176 (lv_at hl 0 rfl) ?_
                  refine lv_isub hx hb dX3_pass_178 ?_
                  refine cy_iast hC (14) (by decide) hW 0 (i := (5 * c + i)) (rfl) rfl (by omega) (by decide) (upd ((cq_lo (cq_p2 S c) c (cq_by S c) i).1 14) (5 * c + i) ((((cq_lo (cq_p2 S c) c (cq_by S c) i).1 14) (5 * c + i)) - 0)) rfl (S' := (va_up (cq_lo (cq_p2 S c) c (cq_by S c) i).1 14 (upd ((cq_lo (cq_p2 S c) c (cq_by S c) i).1 14) (5 * c + i) ((((cq_lo (cq_p2 S c) c (cq_by S c) i).1 14) (5 * c + i)) - 0)))) rfl dX3_pass_179 (fun H locs hW => ?_)
                  refine lv_iload hx hb dX3_pass_180 (lv_at hl 2 rfl) ?_
                  refine lv_iload hx hb dX3_pass_182 (lv_at hl 0 rfl) ?_
                  refine lv_iadd hx hb dX3_pass_184 ?_
                  refine lv_istore (lv' := [(5, .int (((cq_lo (cq_p2 S c) c (cq_by S c) i).2) + 0)), (7, .int 0), (4, .int (cq_by S c)), (6, .int (nI (5 * c + i))), (0, .ref (ad 0)), (1, .int (nI c)), (2, .int x)]) hx hb dX3_pass_185 hl (by decide) rfl (fun ls hl => ?_)
                  refine lv_iinc (v := nI (5 * c + i + 1)) (lv' := [(6, .int (nI (5 * c + i + 1))), (5, .int (((cq_lo (cq_p2 S c) c (cq_by S c) i).2) + 0)), (7, .int 0), (4, .int (cq_by S c)), (0, .ref (ad 0)), (1, .int (nI c)), (2, .int x)]) hx hb dX3_pass_187 hl (k := 3) rfl (nI_1 (5 * c + i)) (by decide) rfl (fun ls hl => ?_)
                  refine lv_goto (tgt := 110) hx hb dX3_pass_190 (by decide) ?_
                  rw [show ((cq_lo (cq_p2 S c) c (cq_by S c) i).2) + 0 = (cq_lo (cq_p2 S c) c (cq_by S c) (i + 1)).2 from by simp only [cq_lo, cq_ow, cy_ls, c_117, c_127, ↓reduceIte]] at hl
                  have hW := cy_castS (show (va_up (cq_lo (cq_p2 S c) c (cq_by S c) i).1 14 (upd ((cq_lo (cq_p2 S c) c (cq_by S c) i).1 14) (5 * c + i) ((((cq_lo (cq_p2 S c) c (cq_by S c) i).1 14) (5 * c + i)) - 0))) = (cq_lo (cq_p2 S c) c (cq_by S c) (i + 1)).1 from by simp only [cq_lo, cq_ow, cy_ls, c_117, c_127, ↓reduceIte]) hW
                  exact ih_110 (i + 1) (by omega) (by omega) _ _ hW _ (lv_sub hl [3, 1, 0, 4, 5, 6] rfl)
          exact L_110 ((5 - 0) + 1) 0 (Nat.lt_succ_self _) (by omega) _ _ hW _ (lv_sub hl [2, 1, 0, 3, 4, 5] rfl)
        have hW := cy_castS (show (va_up (cq_p1 S c) 11 (upd ((cq_p1 S c) 11) c (cy_mn 20 ((((cq_p1 S c) 11) c) + 5)))) = (cq_p2 S c) from by simp only [cq_p2, c_56, ↓reduceIte]) hW
        exact L_88   _ _ hW _ (lv_sub hl [1, 2, 3] rfl)
    have hW := cy_castS (show S = (cq_p1 S c) from by simp only [cq_p1, c_7, ↓reduceIte]) hW
    exact L_37   _ _ hW _ (lv_sub hl [0, 1, 2, 3] rfl)
  · skip
    refine lv_aload_n hx hb dX3_pass_10 rfl (lv_at hl 1 rfl) ?_
    refine cy_get hC (0) (by decide) hi3 hW (rfl) rfl 21 (by decide) (hts (.fieldLink RX3 57 "CaskYardModel" "grains" "[I") (by decide +kernel)) (fun _ h9 => h9) (v := .ref (ad 15)) rfl dX3_pass_11 ?_
    refine lv_iload_n hx hb dX3_pass_14 rfl (lv_at hl 2 rfl) ?_
    refine lv_dup2_11 hx hb dX3_pass_15 rfl rfl ?_
    refine cy_iald hC (15) (by decide) hW 0 (i := c) (rfl) rfl (by omega) (by decide) dX3_pass_16 ?_
    refine lv_iload_n hx hb dX3_pass_17 rfl (lv_at hl 0 rfl) ?_
    refine lv_bipush (v := 100) hx hb dX3_pass_18 (by decide) ?_
    refine lv_idiv hx hb dX3_pass_20 (by decide) ?_
    refine lv_iconst (v := 0) hx hb dX3_pass_21 (by decide) ?_
    refine lv_bipush (v := 8) hx hb dX3_pass_22 (by decide) ?_
    refine lv_aload_n hx hb dX3_pass_24 rfl (lv_at hl 1 rfl) ?_
    refine cy_get hC (0) (by decide) hi3 hW (rfl) rfl 18 (by decide) (hts (.fieldLink RX3 48 "CaskYardModel" "fillings" "[I") (by decide +kernel)) (fun _ h9 => h9) (v := .ref (ad 12)) rfl dX3_pass_25 ?_
    refine lv_iload_n hx hb dX3_pass_28 rfl (lv_at hl 2 rfl) ?_
    refine cy_iald hC (12) (by decide) hW 0 (i := c) (rfl) rfl (by omega) (by decide) dX3_pass_29 ?_
    refine lv_isub hx hb dX3_pass_30 ?_
    refine va_mmax hx hb (hml.trans hl.1.symm) hown (hts (.methodLink RX3 128 Lib.Math.max.name) (by decide +kernel)) (hts (.static Lib.Math.max.name) (by decide +kernel)) (hts (.initialized "java/lang/Math") (by decide +kernel)) (hts (.code Lib.Math.max.name Lib.Math.max.code 2 (some .int)) (by decide +kernel)) (Nat.le_of_ble_eq_true rfl) (Nat.le_of_ble_eq_true rfl) (Nat.le_of_ble_eq_true rfl) (Nat.le_of_ble_eq_true rfl) dX3_pass_31 ?_
    refine cy_topv (show _ = Value.int (cy_mx 0 (8 - (S 12 c))) from rfl) ?_
    refine lv_imul hx hb dX3_pass_34 ?_
    refine lv_iadd hx hb dX3_pass_35 ?_
    refine cy_iast hC (15) (by decide) hW 0 (i := c) (rfl) rfl (by omega) (by decide) (upd (S 15) c ((S 15 c) + (((cq_al S c) / 100) * (cy_mx 0 (8 - (S 12 c)))))) rfl (S' := (va_up S 15 (upd (S 15) c ((S 15 c) + (((cq_al S c) / 100) * (cy_mx 0 (8 - (S 12 c)))))))) rfl dX3_pass_36 (fun H locs hW => ?_)
    have L_37 : ∀ (H : Heap) (locs : List Loc), cy_W D A s.heap (cy_Mw kI kZ ad (cq_p1 S c) tl) H locs → ∀ (ls : Array Slot), lv_has ls 8 [(3, .int (cq_al S c)), (0, .ref (ad 0)), (1, .int (nI c)), (2, .int x)] → W p l e rm_X3_pass s m args below meth co H locs 0 0 Q (F0 m 37 ls []) := by
      intro   H locs hW ls hl
      refine lv_aload_n hx hb dX3_pass_37 rfl (lv_at hl 1 rfl) ?_
      refine cy_get hC (0) (by decide) hi3 hW (rfl) rfl 17 (by decide) (hts (.fieldLink RX3 45 "CaskYardModel" "swelling" "[I") (by decide +kernel)) (fun _ h9 => h9) (v := .ref (ad 11)) rfl dX3_pass_38 ?_
      refine lv_iload_n hx hb dX3_pass_41 rfl (lv_at hl 2 rfl) ?_
      refine lv_iconst (v := 2) hx hb dX3_pass_42 (by decide) ?_
      refine lv_iload_n hx hb dX3_pass_43 rfl (lv_at hl 0 rfl) ?_
      refine lv_imul hx hb dX3_pass_44 ?_
      refine lv_aload_n hx hb dX3_pass_45 rfl (lv_at hl 1 rfl) ?_
      refine cy_get hC (0) (by decide) hi3 hW (rfl) rfl 10 (by decide) (hts (.fieldLink RX3 26 "CaskYardModel" "room" "[I") (by decide +kernel)) (fun _ h9 => h9) (v := .ref (ad 5)) rfl dX3_pass_46 ?_
      refine lv_aload_n hx hb dX3_pass_49 rfl (lv_at hl 1 rfl) ?_
      refine cy_get hC (0) (by decide) hi3 hW (rfl) rfl 13 (by decide) (hts (.fieldLink RX3 32 "CaskYardModel" "sort" "[I") (by decide +kernel)) (fun _ h9 => h9) (v := .ref (ad 7)) rfl dX3_pass_50 ?_
      refine lv_iload_n hx hb dX3_pass_53 rfl (lv_at hl 2 rfl) ?_
      refine cy_iald hC (7) (by decide) hW 0 (i := c) (rfl) rfl (by omega) (by decide) dX3_pass_54 ?_
      refine cy_top (y := nI (cq_so S c)) (by rw [cq_p1_n (by decide)]; exact (hq.1 c hc).2) ?_
      refine cy_iald hC (5) (by decide) hW 0 (i := (cq_so S c)) (rfl) rfl (hq.1 c hc).1 (by decide) dX3_pass_55 ?_
      refine lv_icmp_lt (tgt := 75) hx hb dX3_pass_56 (by decide) (fun c_56 => ?_) (fun c_56 => ?_)
      · skip
        refine lv_iconst (v := 0) hx hb dX3_pass_75 (by decide) ?_
        refine lv_aload_n hx hb dX3_pass_76 rfl (lv_at hl 1 rfl) ?_
        refine cy_get hC (0) (by decide) hi3 hW (rfl) rfl 17 (by decide) (hts (.fieldLink RX3 45 "CaskYardModel" "swelling" "[I") (by decide +kernel)) (fun _ h9 => h9) (v := .ref (ad 11)) rfl dX3_pass_77 ?_
        refine lv_iload_n hx hb dX3_pass_80 rfl (lv_at hl 2 rfl) ?_
        refine cy_iald hC (11) (by decide) hW 0 (i := c) (rfl) rfl (by omega) (by decide) dX3_pass_81 ?_
        refine lv_iconst (v := 3) hx hb dX3_pass_82 (by decide) ?_
        refine lv_isub hx hb dX3_pass_83 ?_
        refine va_mmax hx hb (hml.trans hl.1.symm) hown (hts (.methodLink RX3 128 Lib.Math.max.name) (by decide +kernel)) (hts (.static Lib.Math.max.name) (by decide +kernel)) (hts (.initialized "java/lang/Math") (by decide +kernel)) (hts (.code Lib.Math.max.name Lib.Math.max.code 2 (some .int)) (by decide +kernel)) (Nat.le_of_ble_eq_true rfl) (Nat.le_of_ble_eq_true rfl) (Nat.le_of_ble_eq_true rfl) (Nat.le_of_ble_eq_true rfl) dX3_pass_84 ?_
        refine cy_topv (show _ = Value.int (cy_mx 0 ((((cq_p1 S c) 11) c) - 3)) from rfl) ?_
        refine cy_iast hC (11) (by decide) hW 0 (i := c) (rfl) rfl (by omega) (by decide) (upd ((cq_p1 S c) 11) c (cy_mx 0 ((((cq_p1 S c) 11) c) - 3))) rfl (S' := (va_up (cq_p1 S c) 11 (upd ((cq_p1 S c) 11) c (cy_mx 0 ((((cq_p1 S c) 11) c) - 3))))) rfl dX3_pass_87 (fun H locs hW => ?_)
        have L_88 : ∀ (H : Heap) (locs : List Loc), cy_W D A s.heap (cy_Mw kI kZ ad (cq_p2 S c) tl) H locs → ∀ (ls : Array Slot), lv_has ls 8 [(0, .ref (ad 0)), (1, .int (nI c)), (2, .int x)] → W p l e rm_X3_pass s m args below meth co H locs 0 0 Q (F0 m 88 ls []) := by
          intro   H locs hW ls hl
          refine lv_aload_n hx hb dX3_pass_88 rfl (lv_at hl 0 rfl) ?_
          refine lv_iload_n hx hb dX3_pass_89 rfl (lv_at hl 1 rfl) ?_
          refine cy_callV (rm := rm_X3_leak) (As := [.int (nI c)]) (rest := []) (q0 := 0) (ci := 3) hC.1 hC.2.1 hC.2.2 hW (c_X3_leak (c := c) (by omega) hq2) (cwV 1 hts gX3_pass_X3_leak rfl rfl rfl (by decide +kernel) ⟨Nat.le_of_ble_eq_true rfl, Nat.le_of_ble_eq_true rfl⟩) (cy_w_at (by decide) (rfl)) rfl rfl hl.1 rfl (Nat.le_of_ble_eq_true rfl) dX3_pass_90 ⟨Nat.le_of_ble_eq_true rfl, Nat.le_of_ble_eq_true rfl⟩ (k' := 0) (n' := 0) rfl rfl (fun H locs hW => ?_)
          refine lv_iconst (v := 3) hx hb dX3_pass_93 (by decide) ?_
          refine lv_iadd hx hb dX3_pass_94 ?_
          refine lv_aload_n hx hb dX3_pass_95 rfl (lv_at hl 0 rfl) ?_
          refine cy_get hC (0) (by decide) hi3 hW (rfl) rfl 2 (by decide) (hts (.fieldLink RX3 7 "CaskYardModel" "warmth" "I") (by decide +kernel)) (fun _ h9 => h9) (v := .int (((cq_p2 S c) 0) 2)) rfl dX3_pass_96 ?_
          refine lv_iadd hx hb dX3_pass_99 ?_
          refine lv_istore (lv' := [(4, .int (((cq_lk (cq_p2 S c) c) + 3) + ((cq_p2 S c) 0 2))), (0, .ref (ad 0)), (1, .int (nI c)), (2, .int x)]) hx hb dX3_pass_100 hl (by decide) rfl (fun ls hl => ?_)
          refine lv_iconst (v := 0) hx hb dX3_pass_102 (by decide) ?_
          refine lv_istore (lv' := [(5, .int 0), (4, .int (((cq_lk (cq_p2 S c) c) + 3) + ((cq_p2 S c) 0 2))), (0, .ref (ad 0)), (1, .int (nI c)), (2, .int x)]) hx hb dX3_pass_103 hl (by decide) rfl (fun ls hl => ?_)
          refine lv_iconst (v := 5) hx hb dX3_pass_105 (by decide) ?_
          refine lv_iload_n hx hb dX3_pass_106 rfl (lv_at hl 3 rfl) ?_
          refine lv_imul hx hb dX3_pass_107 ?_
          refine cy_top (pk_mul 5 c) ?_
          refine lv_istore (lv' := [(6, .int (nI (5 * c))), (5, .int 0), (4, .int (((cq_lk (cq_p2 S c) c) + 3) + ((cq_p2 S c) 0 2))), (0, .ref (ad 0)), (1, .int (nI c)), (2, .int x)]) hx hb dX3_pass_108 hl (by decide) rfl (fun ls hl => ?_)
          have L_110 : ∀ (fu : Nat) (i : Nat), 5 - i < fu → (i ≤ 5) → ∀ (H : Heap) (locs : List Loc), cy_W D A s.heap (cy_Mw kI kZ ad (cq_lo (cq_p2 S c) c (cq_by S c) i).1 tl) H locs → ∀ (ls : Array Slot), lv_has ls 8 [(4, .int (cq_by S c)), (5, .int ((cq_lo (cq_p2 S c) c (cq_by S c) i).2)), (6, .int (nI (5 * c + i))), (0, .ref (ad 0)), (1, .int (nI c)), (2, .int x)] → W p l e rm_X3_pass s m args below meth co H locs 0 0 Q (F0 m 110 ls []) := by
            intro fu
            induction fu with
            | zero => intro i hn; exact absurd hn (Nat.not_lt_zero _)
            | succ fu ih_110 =>
              intro i hn_110 hi H locs hW ls hl
              refine lv_iload hx hb dX3_pass_110 (lv_at hl 2 rfl) ?_
              refine lv_iconst (v := 5) hx hb dX3_pass_112 (by decide) ?_
              refine lv_iload_n hx hb dX3_pass_113 rfl (lv_at hl 4 rfl) ?_
              refine lv_imul hx hb dX3_pass_114 ?_
              refine cy_top (pk_mul 5 c) ?_
              refine lv_iconst (v := 5) hx hb dX3_pass_115 (by decide) ?_
              refine lv_iadd hx hb dX3_pass_116 ?_
              refine cy_top (nI_add (5 * c) 5) ?_
              refine lv_icmp_ge (tgt := 193) hx hb dX3_pass_117 (by decide) (fun c_117 => ?_) (fun c_117 => ?_)
              · skip
                have q_117 := cy_le (a := ((5 * c) + 5)) (b := (5 * c + i)) (by omega) (by omega) c_117
                obtain rfl : i = 5 := by omega
                have L_193 : ∀ (H : Heap) (locs : List Loc), cy_W D A s.heap (cy_Mw kI kZ ad (cq_p3 S c).1 tl) H locs → ∀ (ls : Array Slot), lv_has ls 8 [(5, .int ((cq_p3 S c).2)), (0, .ref (ad 0)), (1, .int (nI c)), (2, .int x)] → W p l e rm_X3_pass s m args below meth co H locs 0 0 Q (F0 m 193 ls []) := by
                  intro   H locs hW ls hl
                  refine lv_aload_n hx hb dX3_pass_193 rfl (lv_at hl 1 rfl) ?_
                  refine lv_iload_n hx hb dX3_pass_194 rfl (lv_at hl 2 rfl) ?_
                  refine cy_callV (rm := rm_X3_all) (As := [.int (nI c)]) (rest := []) (q0 := 0) (ci := 3) hC.1 hC.2.1 hC.2.2 hW (c_X3_all (c := c) (by omega)) (cwV 1 hts gX3_pass_X3_all rfl rfl rfl (by decide +kernel) ⟨Nat.le_of_ble_eq_true rfl, Nat.le_of_ble_eq_true rfl⟩) (cy_w_at (by decide) (rfl)) rfl rfl hl.1 rfl (Nat.le_of_ble_eq_true rfl) dX3_pass_195 ⟨Nat.le_of_ble_eq_true rfl, Nat.le_of_ble_eq_true rfl⟩ (k' := 0) (n' := 0) rfl rfl (fun H locs hW => ?_)
                  refine lv_istore (lv' := [(6, .int (cq_al ((cq_p3 S c).1) c)), (5, .int ((cq_p3 S c).2)), (0, .ref (ad 0)), (1, .int (nI c)), (2, .int x)]) hx hb dX3_pass_198 hl (by decide) rfl (fun ls hl => ?_)
                  refine lv_aload_n hx hb dX3_pass_200 rfl (lv_at hl 2 rfl) ?_
                  refine cy_get hC (0) (by decide) hi3 hW (rfl) rfl 19 (by decide) (hts (.fieldLink RX3 51 "CaskYardModel" "air" "[I") (by decide +kernel)) (fun _ h9 => h9) (v := .ref (ad 13)) rfl dX3_pass_201 ?_
                  refine lv_iload_n hx hb dX3_pass_204 rfl (lv_at hl 3 rfl) ?_
                  refine lv_iload hx hb dX3_pass_205 (lv_at hl 0 rfl) ?_
                  refine lv_if_le (tgt := 241) hx hb dX3_pass_207 (by decide) (fun c_207 => ?_) (fun c_207 => ?_)
                  · skip
                    refine lv_iconst (v := 0) hx hb dX3_pass_241 (by decide) ?_
                    refine cy_iast hC (13) (by decide) hW 0 (i := c) (rfl) rfl (by omega) (by decide) (upd ((cq_p3 S c).1 13) c 0) rfl (S' := (va_up (cq_p3 S c).1 13 (upd ((cq_p3 S c).1 13) c 0))) rfl dX3_pass_242 (fun H locs hW => ?_)
                    have L_243 : ∀ (H : Heap) (locs : List Loc), cy_W D A s.heap (cy_Mw kI kZ ad (cq_p4 S c) tl) H locs → ∀ (ls : Array Slot), lv_has ls 8 [(6, .int (cq_lf S c)), (5, .int ((cq_p3 S c).2)), (0, .ref (ad 0)), (1, .int (nI c)), (2, .int x)] → W p l e rm_X3_pass s m args below meth co H locs 0 0 Q (F0 m 243 ls []) := by
                      intro   H locs hW ls hl
                      refine lv_aload_n hx hb dX3_pass_243 rfl (lv_at hl 2 rfl) ?_
                      refine cy_get hC (0) (by decide) hi3 hW (rfl) rfl 19 (by decide) (hts (.fieldLink RX3 51 "CaskYardModel" "air" "[I") (by decide +kernel)) (fun _ h9 => h9) (v := .ref (ad 13)) rfl dX3_pass_244 ?_
                      refine lv_iload_n hx hb dX3_pass_247 rfl (lv_at hl 3 rfl) ?_
                      refine cy_iald hC (13) (by decide) hW 0 (i := c) (rfl) rfl (by omega) (by decide) dX3_pass_248 ?_
                      refine lv_bipush (v := 6) hx hb dX3_pass_249 (by decide) ?_
                      refine lv_icmp_ne (tgt := 299) hx hb dX3_pass_251 (by decide) (fun c_251 => ?_) (fun c_251 => ?_)
                      · skip
                        have L_299 : ∀ (H : Heap) (locs : List Loc), cy_W D A s.heap (cy_Mw kI kZ ad (cq_p5 S c) tl) H locs → ∀ (ls : Array Slot), lv_has ls 8 [(5, .int ((cq_p3 S c).2)), (0, .ref (ad 0)), (1, .int (nI c)), (2, .int x)] → W p l e rm_X3_pass s m args below meth co H locs 0 0 Q (F0 m 299 ls []) := by
                          intro   H locs hW ls hl
                          refine lv_iconst (v := 0) hx hb dX3_pass_299 (by decide) ?_
                          refine lv_istore (lv' := [(7, .int 0), (5, .int ((cq_p3 S c).2)), (0, .ref (ad 0)), (1, .int (nI c)), (2, .int x)]) hx hb dX3_pass_300 hl (by decide) rfl (fun ls hl => ?_)
                          have L_302 : ∀ (fu : Nat) (i : Nat), cq_hn S c - i < fu → (i ≤ cq_hn S c) → (i = 0 ∨ x - x / 12 * 12 = 0) → ∀ (H : Heap) (locs : List Loc), cy_W D A s.heap (cy_Mw kI kZ ad (cq_ln (cq_p5 S c) c i) tl) H locs → ∀ (ls : Array Slot), lv_has ls 8 [(7, .int (nI i)), (5, .int ((cq_p3 S c).2)), (0, .ref (ad 0)), (1, .int (nI c)), (2, .int x)] → W p l e rm_X3_pass s m args below meth co H locs 0 0 Q (F0 m 302 ls []) := by
                            intro fu
                            induction fu with
                            | zero => intro i hn; exact absurd hn (Nat.not_lt_zero _)
                            | succ fu ih_302 =>
                              intro i hn_302 hi he H locs hW ls hl
                              have hq5 : cq_ok (cq_ln (cq_p5 S c) c i) := cq_ok_of (by rw [cq_ln_n (by decide), cq_p5_n (by decide) (by decide) (by decide) (by decide)]) (by rw [cq_ln_n (by decide), cq_p5_n (by decide) (by decide) (by decide) (by decide)]) hq
                              refine lv_iload hx hb dX3_pass_302 (lv_at hl 0 rfl) ?_
                              refine lv_aload_n hx hb dX3_pass_304 rfl (lv_at hl 2 rfl) ?_
                              refine lv_iload_n hx hb dX3_pass_305 rfl (lv_at hl 3 rfl) ?_
                              refine cy_callV (rm := rm_X3_hoopsOf) (As := [.int (nI c)]) (rest := [.int (nI i)]) (q0 := 0) (ci := 3) hC.1 hC.2.1 hC.2.2 hW (c_X3_hoopsOf (c := c) (by omega) hq5) (cwV 1 hts gX3_pass_X3_hoopsOf rfl rfl rfl (by decide +kernel) ⟨Nat.le_of_ble_eq_true rfl, Nat.le_of_ble_eq_true rfl⟩) (cy_w_at (by decide) (rfl)) rfl rfl hl.1 rfl (Nat.le_of_ble_eq_true rfl) dX3_pass_306 ⟨Nat.le_of_ble_eq_true rfl, Nat.le_of_ble_eq_true rfl⟩ (k' := 0) (n' := 0) rfl rfl (fun H locs hW => ?_)
                              refine cy_topv (show _ = Value.int (nI (cq_hn S c)) from (congrArg (fun z => Value.int (nI z)) (cq_hn_c (by rw [cq_ln_n (by decide), cq_p5_n (by decide) (by decide) (by decide) (by decide)]) (by rw [cq_ln_n (by decide), cq_p5_n (by decide) (by decide) (by decide) (by decide)]) (by rw [cq_ln_n (by decide), cq_p5_n (by decide) (by decide) (by decide) (by decide)])))) ?_
                              refine lv_icmp_ge (tgt := 355) hx hb dX3_pass_309 (by decide) (fun c_309 => ?_) (fun c_309 => ?_)
                              · skip
                                have q_309 := cy_le (a := (cq_hn S c)) (b := i) (by omega) (by omega) c_309
                                have hW := cy_castS (cq_pc_e he q_309 hi) hW
                                refine lv_iload hx hb dX3_pass_355 (lv_at hl 1 rfl) ?_
                                exact hE  _ _ _ _ _ _ (Nat.le_of_ble_eq_true rfl) (Nat.le_of_ble_eq_true rfl) hW dX3_pass_357
                              · skip
                                have q_309 := cy_nle (a := (cq_hn S c)) (b := i) (by omega) (by omega) c_309
                                refine lv_iload_n hx hb dX3_pass_312 rfl (lv_at hl 4 rfl) ?_
                                refine lv_bipush (v := 12) hx hb dX3_pass_313 (by decide) ?_
                                refine lv_irem hx hb dX3_pass_315 (by decide) ?_
                                refine lv_if_ne (tgt := 355) hx hb dX3_pass_316 (by decide) (fun c_316 => ?_) (fun c_316 => ?_)
                                · skip
                                  have hW := cy_castS (show cq_ln (cq_p5 S c) c i = cq_pc S c x from by unfold cq_pc; rw [if_neg c_316, he.resolve_right c_316]; rfl) hW
                                  refine lv_iload hx hb dX3_pass_355 (lv_at hl 1 rfl) ?_
                                  exact hE  _ _ _ _ _ _ (Nat.le_of_ble_eq_true rfl) (Nat.le_of_ble_eq_true rfl) hW dX3_pass_357
                                · skip
                                  refine lv_aload_n hx hb dX3_pass_319 rfl (lv_at hl 2 rfl) ?_
                                  refine cy_get hC (0) (by decide) hi3 hW (rfl) rfl 16 (by decide) (hts (.fieldLink RX3 42 "CaskYardModel" "tension" "[I") (by decide +kernel)) (fun _ h9 => h9) (v := .ref (ad 10)) rfl dX3_pass_320 ?_
                                  refine lv_bipush (v := 8) hx hb dX3_pass_323 (by decide) ?_
                                  refine lv_iload_n hx hb dX3_pass_325 rfl (lv_at hl 3 rfl) ?_
                                  refine lv_imul hx hb dX3_pass_326 ?_
                                  refine cy_top (pk_mul 8 c) ?_
                                  refine lv_iload hx hb dX3_pass_327 (lv_at hl 0 rfl) ?_
                                  refine lv_iadd hx hb dX3_pass_329 ?_
                                  refine cy_top (nI_add (8 * c) i) ?_
                                  refine lv_iconst (v := 0) hx hb dX3_pass_330 (by decide) ?_
                                  refine lv_aload_n hx hb dX3_pass_331 rfl (lv_at hl 2 rfl) ?_
                                  refine cy_get hC (0) (by decide) hi3 hW (rfl) rfl 16 (by decide) (hts (.fieldLink RX3 42 "CaskYardModel" "tension" "[I") (by decide +kernel)) (fun _ h9 => h9) (v := .ref (ad 10)) rfl dX3_pass_332 ?_
                                  refine lv_bipush (v := 8) hx hb dX3_pass_335 (by decide) ?_
                                  refine lv_iload_n hx hb dX3_pass_337 rfl (lv_at hl 3 rfl) ?_
                                  refine lv_imul hx hb dX3_pass_338 ?_
                                  refine cy_top (pk_mul 8 c) ?_
                                  refine lv_iload hx hb dX3_pass_339 (lv_at hl 0 rfl) ?_
                                  refine lv_iadd hx hb dX3_pass_341 ?_
                                  refine cy_top (nI_add (8 * c) i) ?_
                                  refine cy_iald hC (10) (by decide) hW 0 (i := ((8 * c) + i)) (rfl) rfl (by omega) (by decide) dX3_pass_342 ?_
                                  refine lv_iconst (v := 1) hx hb dX3_pass_343 (by decide) ?_
                                  refine lv_isub hx hb dX3_pass_344 ?_
                                  refine va_mmax hx hb (hml.trans hl.1.symm) hown (hts (.methodLink RX3 128 Lib.Math.max.name) (by decide +kernel)) (hts (.static Lib.Math.max.name) (by decide +kernel)) (hts (.initialized "java/lang/Math") (by decide +kernel)) (hts (.code Lib.Math.max.name Lib.Math.max.code 2 (some .int)) (by decide +kernel)) (Nat.le_of_ble_eq_true rfl) (Nat.le_of_ble_eq_true rfl) (Nat.le_of_ble_eq_true rfl) (Nat.le_of_ble_eq_true rfl) dX3_pass_345 ?_
                                  refine cy_topv (show _ = Value.int (cy_mx 0 ((((cq_ln (cq_p5 S c) c i) 10) ((8 * c) + i)) - 1)) from rfl) ?_
                                  refine cy_iast hC (10) (by decide) hW 0 (i := ((8 * c) + i)) (rfl) rfl (by omega) (by decide) (upd ((cq_ln (cq_p5 S c) c i) 10) ((8 * c) + i) (cy_mx 0 ((((cq_ln (cq_p5 S c) c i) 10) ((8 * c) + i)) - 1))) rfl (S' := (va_up (cq_ln (cq_p5 S c) c i) 10 (upd ((cq_ln (cq_p5 S c) c i) 10) ((8 * c) + i) (cy_mx 0 ((((cq_ln (cq_p5 S c) c i) 10) ((8 * c) + i)) - 1))))) rfl dX3_pass_348 (fun H locs hW => ?_)
                                  refine lv_iinc (v := nI (i + 1)) (lv' := [(7, .int (nI (i + 1))), (5, .int ((cq_p3 S c).2)), (0, .ref (ad 0)), (1, .int (nI c)), (2, .int x)]) hx hb dX3_pass_349 hl (k := 0) rfl (nI_1 i) (by decide) rfl (fun ls hl => ?_)
                                  refine lv_goto (tgt := 302) hx hb dX3_pass_352 (by decide) ?_
                                  exact ih_302 (i + 1) (by omega) (by omega) (Or.inr c_316) _ _ hW _ (lv_sub hl [0, 1, 2, 3, 4] rfl)
                          exact L_302 ((cq_hn S c - 0) + 1) 0 (Nat.lt_succ_self _) (Nat.zero_le _) (Or.inl rfl) _ _ hW _ (lv_sub hl [0, 1, 2, 3, 4] rfl)
                        have hW := cy_castS (show (cq_p4 S c) = (cq_p5 S c) from by simp only [cq_p5, c_251, ↓reduceIte]) hW
                        exact L_299   _ _ hW _ (lv_sub hl [1, 2, 3, 4] rfl)
                      · skip
                        refine lv_iconst (v := 0) hx hb dX3_pass_254 (by decide) ?_
                        refine lv_istore (lv' := [(7, .int 0), (6, .int (cq_lf S c)), (5, .int ((cq_p3 S c).2)), (0, .ref (ad 0)), (1, .int (nI c)), (2, .int x)]) hx hb dX3_pass_255 hl (by decide) rfl (fun ls hl => ?_)
                        have L_257 : ∀ (fu : Nat) (k : Nat), 5 - k < fu → (k ≤ 5) → ∀ (H : Heap) (locs : List Loc), cy_W D A s.heap (cy_Mw kI kZ ad (cq_vi (cq_p4 S c) c (cq_lf S c) k) tl) H locs → ∀ (ls : Array Slot), lv_has ls 8 [(7, .int (nI k)), (6, .int (cq_lf S c)), (5, .int ((cq_p3 S c).2)), (0, .ref (ad 0)), (1, .int (nI c)), (2, .int x)] → W p l e rm_X3_pass s m args below meth co H locs 0 0 Q (F0 m 257 ls []) := by
                          intro fu
                          induction fu with
                          | zero => intro k hn; exact absurd hn (Nat.not_lt_zero _)
                          | succ fu ih_257 =>
                            intro k hn_257 hk H locs hW ls hl
                            refine lv_iload hx hb dX3_pass_257 (lv_at hl 0 rfl) ?_
                            refine lv_iconst (v := 5) hx hb dX3_pass_259 (by decide) ?_
                            refine lv_icmp_ge (tgt := 292) hx hb dX3_pass_260 (by decide) (fun c_260 => ?_) (fun c_260 => ?_)
                            · skip
                              have q_260 := cy_le (a := 5) (b := k) (by omega) (by omega) c_260
                              obtain rfl : k = 5 := by omega
                              refine lv_aload_n hx hb dX3_pass_292 rfl (lv_at hl 3 rfl) ?_
                              refine cy_get hC (0) (by decide) hi3 hW (rfl) rfl 19 (by decide) (hts (.fieldLink RX3 51 "CaskYardModel" "air" "[I") (by decide +kernel)) (fun _ h9 => h9) (v := .ref (ad 13)) rfl dX3_pass_293 ?_
                              refine lv_iload_n hx hb dX3_pass_296 rfl (lv_at hl 4 rfl) ?_
                              refine lv_iconst (v := 0) hx hb dX3_pass_297 (by decide) ?_
                              refine cy_iast hC (13) (by decide) hW 0 (i := c) (rfl) rfl (by omega) (by decide) (upd ((cq_vi (cq_p4 S c) c (cq_lf S c) 5) 13) c 0) rfl (S' := (va_up (cq_vi (cq_p4 S c) c (cq_lf S c) 5) 13 (upd ((cq_vi (cq_p4 S c) c (cq_lf S c) 5) 13) c 0))) rfl dX3_pass_298 (fun H locs hW => ?_)
                              have L_299 : ∀ (H : Heap) (locs : List Loc), cy_W D A s.heap (cy_Mw kI kZ ad (cq_p5 S c) tl) H locs → ∀ (ls : Array Slot), lv_has ls 8 [(5, .int ((cq_p3 S c).2)), (0, .ref (ad 0)), (1, .int (nI c)), (2, .int x)] → W p l e rm_X3_pass s m args below meth co H locs 0 0 Q (F0 m 299 ls []) := by
                                intro   H locs hW ls hl
                                refine lv_iconst (v := 0) hx hb dX3_pass_299 (by decide) ?_
                                refine lv_istore (lv' := [(7, .int 0), (5, .int ((cq_p3 S c).2)), (0, .ref (ad 0)), (1, .int (nI c)), (2, .int x)]) hx hb dX3_pass_300 hl (by decide) rfl (fun ls hl => ?_)
                                have L_302 : ∀ (fu : Nat) (i : Nat), cq_hn S c - i < fu → (i ≤ cq_hn S c) → (i = 0 ∨ x - x / 12 * 12 = 0) → ∀ (H : Heap) (locs : List Loc), cy_W D A s.heap (cy_Mw kI kZ ad (cq_ln (cq_p5 S c) c i) tl) H locs → ∀ (ls : Array Slot), lv_has ls 8 [(7, .int (nI i)), (5, .int ((cq_p3 S c).2)), (0, .ref (ad 0)), (1, .int (nI c)), (2, .int x)] → W p l e rm_X3_pass s m args below meth co H locs 0 0 Q (F0 m 302 ls []) := by
                                  intro fu
                                  induction fu with
                                  | zero => intro i hn; exact absurd hn (Nat.not_lt_zero _)
                                  | succ fu ih_302 =>
                                    intro i hn_302 hi he H locs hW ls hl
                                    have hq5 : cq_ok (cq_ln (cq_p5 S c) c i) := cq_ok_of (by rw [cq_ln_n (by decide), cq_p5_n (by decide) (by decide) (by decide) (by decide)]) (by rw [cq_ln_n (by decide), cq_p5_n (by decide) (by decide) (by decide) (by decide)]) hq
                                    refine lv_iload hx hb dX3_pass_302 (lv_at hl 0 rfl) ?_
                                    refine lv_aload_n hx hb dX3_pass_304 rfl (lv_at hl 2 rfl) ?_
                                    refine lv_iload_n hx hb dX3_pass_305 rfl (lv_at hl 3 rfl) ?_
                                    refine cy_callV (rm := rm_X3_hoopsOf) (As := [.int (nI c)]) (rest := [.int (nI i)]) (q0 := 0) (ci := 3) hC.1 hC.2.1 hC.2.2 hW (c_X3_hoopsOf (c := c) (by omega) hq5) (cwV 1 hts gX3_pass_X3_hoopsOf rfl rfl rfl (by decide +kernel) ⟨Nat.le_of_ble_eq_true rfl, Nat.le_of_ble_eq_true rfl⟩) (cy_w_at (by decide) (rfl)) rfl rfl hl.1 rfl (Nat.le_of_ble_eq_true rfl) dX3_pass_306 ⟨Nat.le_of_ble_eq_true rfl, Nat.le_of_ble_eq_true rfl⟩ (k' := 0) (n' := 0) rfl rfl (fun H locs hW => ?_)
                                    refine cy_topv (show _ = Value.int (nI (cq_hn S c)) from (congrArg (fun z => Value.int (nI z)) (cq_hn_c (by rw [cq_ln_n (by decide), cq_p5_n (by decide) (by decide) (by decide) (by decide)]) (by rw [cq_ln_n (by decide), cq_p5_n (by decide) (by decide) (by decide) (by decide)]) (by rw [cq_ln_n (by decide), cq_p5_n (by decide) (by decide) (by decide) (by decide)])))) ?_
                                    refine lv_icmp_ge (tgt := 355) hx hb dX3_pass_309 (by decide) (fun c_309 => ?_) (fun c_309 => ?_)
                                    · skip
                                      have q_309 := cy_le (a := (cq_hn S c)) (b := i) (by omega) (by omega) c_309
                                      have hW := cy_castS (cq_pc_e he q_309 hi) hW
                                      refine lv_iload hx hb dX3_pass_355 (lv_at hl 1 rfl) ?_
                                      exact hE  _ _ _ _ _ _ (Nat.le_of_ble_eq_true rfl) (Nat.le_of_ble_eq_true rfl) hW dX3_pass_357
                                    · skip
                                      have q_309 := cy_nle (a := (cq_hn S c)) (b := i) (by omega) (by omega) c_309
                                      refine lv_iload_n hx hb dX3_pass_312 rfl (lv_at hl 4 rfl) ?_
                                      refine lv_bipush (v := 12) hx hb dX3_pass_313 (by decide) ?_
                                      refine lv_irem hx hb dX3_pass_315 (by decide) ?_
                                      refine lv_if_ne (tgt := 355) hx hb dX3_pass_316 (by decide) (fun c_316 => ?_) (fun c_316 => ?_)
                                      · skip
                                        have hW := cy_castS (show cq_ln (cq_p5 S c) c i = cq_pc S c x from by unfold cq_pc; rw [if_neg c_316, he.resolve_right c_316]; rfl) hW
                                        refine lv_iload hx hb dX3_pass_355 (lv_at hl 1 rfl) ?_
                                        exact hE  _ _ _ _ _ _ (Nat.le_of_ble_eq_true rfl) (Nat.le_of_ble_eq_true rfl) hW dX3_pass_357
                                      · skip
                                        refine lv_aload_n hx hb dX3_pass_319 rfl (lv_at hl 2 rfl) ?_
                                        refine cy_get hC (0) (by decide) hi3 hW (rfl) rfl 16 (by decide) (hts (.fieldLink RX3 42 "CaskYardModel" "tension" "[I") (by decide +kernel)) (fun _ h9 => h9) (v := .ref (ad 10)) rfl dX3_pass_320 ?_
                                        refine lv_bipush (v := 8) hx hb dX3_pass_323 (by decide) ?_
                                        refine lv_iload_n hx hb dX3_pass_325 rfl (lv_at hl 3 rfl) ?_
                                        refine lv_imul hx hb dX3_pass_326 ?_
                                        refine cy_top (pk_mul 8 c) ?_
                                        refine lv_iload hx hb dX3_pass_327 (lv_at hl 0 rfl) ?_
                                        refine lv_iadd hx hb dX3_pass_329 ?_
                                        refine cy_top (nI_add (8 * c) i) ?_
                                        refine lv_iconst (v := 0) hx hb dX3_pass_330 (by decide) ?_
                                        refine lv_aload_n hx hb dX3_pass_331 rfl (lv_at hl 2 rfl) ?_
                                        refine cy_get hC (0) (by decide) hi3 hW (rfl) rfl 16 (by decide) (hts (.fieldLink RX3 42 "CaskYardModel" "tension" "[I") (by decide +kernel)) (fun _ h9 => h9) (v := .ref (ad 10)) rfl dX3_pass_332 ?_
                                        refine lv_bipush (v := 8) hx hb dX3_pass_335 (by decide) ?_
                                        refine lv_iload_n hx hb dX3_pass_337 rfl (lv_at hl 3 rfl) ?_
                                        refine lv_imul hx hb dX3_pass_338 ?_
                                        refine cy_top (pk_mul 8 c) ?_
                                        refine lv_iload hx hb dX3_pass_339 (lv_at hl 0 rfl) ?_
                                        refine lv_iadd hx hb dX3_pass_341 ?_
                                        refine cy_top (nI_add (8 * c) i) ?_
                                        refine cy_iald hC (10) (by decide) hW 0 (i := ((8 * c) + i)) (rfl) rfl (by omega) (by decide) dX3_pass_342 ?_
                                        refine lv_iconst (v := 1) hx hb dX3_pass_343 (by decide) ?_
                                        refine lv_isub hx hb dX3_pass_344 ?_
                                        refine va_mmax hx hb (hml.trans hl.1.symm) hown (hts (.methodLink RX3 128 Lib.Math.max.name) (by decide +kernel)) (hts (.static Lib.Math.max.name) (by decide +kernel)) (hts (.initialized "java/lang/Math") (by decide +kernel)) (hts (.code Lib.Math.max.name Lib.Math.max.code 2 (some .int)) (by decide +kernel)) (Nat.le_of_ble_eq_true rfl) (Nat.le_of_ble_eq_true rfl) (Nat.le_of_ble_eq_true rfl) (Nat.le_of_ble_eq_true rfl) dX3_pass_345 ?_
                                        refine cy_topv (show _ = Value.int (cy_mx 0 ((((cq_ln (cq_p5 S c) c i) 10) ((8 * c) + i)) - 1)) from rfl) ?_
                                        refine cy_iast hC (10) (by decide) hW 0 (i := ((8 * c) + i)) (rfl) rfl (by omega) (by decide) (upd ((cq_ln (cq_p5 S c) c i) 10) ((8 * c) + i) (cy_mx 0 ((((cq_ln (cq_p5 S c) c i) 10) ((8 * c) + i)) - 1))) rfl (S' := (va_up (cq_ln (cq_p5 S c) c i) 10 (upd ((cq_ln (cq_p5 S c) c i) 10) ((8 * c) + i) (cy_mx 0 ((((cq_ln (cq_p5 S c) c i) 10) ((8 * c) + i)) - 1))))) rfl dX3_pass_348 (fun H locs hW => ?_)
                                        refine lv_iinc (v := nI (i + 1)) (lv' := [(7, .int (nI (i + 1))), (5, .int ((cq_p3 S c).2)), (0, .ref (ad 0)), (1, .int (nI c)), (2, .int x)]) hx hb dX3_pass_349 hl (k := 0) rfl (nI_1 i) (by decide) rfl (fun ls hl => ?_)
                                        refine lv_goto (tgt := 302) hx hb dX3_pass_352 (by decide) ?_
                                        exact ih_302 (i + 1) (by omega) (by omega) (Or.inr c_316) _ _ hW _ (lv_sub hl [0, 1, 2, 3, 4] rfl)
                                exact L_302 ((cq_hn S c - 0) + 1) 0 (Nat.lt_succ_self _) (Nat.zero_le _) (Or.inl rfl) _ _ hW _ (lv_sub hl [0, 1, 2, 3, 4] rfl)
                              have hW := cy_castS (show (va_up (cq_vi (cq_p4 S c) c (cq_lf S c) 5) 13 (upd ((cq_vi (cq_p4 S c) c (cq_lf S c) 5) 13) c 0)) = (cq_p5 S c) from by simp only [cq_p5, c_251, c_260, ↓reduceIte]) hW
                              exact L_299   _ _ hW _ (lv_sub hl [2, 3, 4, 5] rfl)
                            · skip
                              have q_260 := cy_nle (a := 5) (b := k) (by omega) (by omega) c_260
                              refine lv_aload_n hx hb dX3_pass_263 rfl (lv_at hl 3 rfl) ?_
                              refine cy_get hC (0) (by decide) hi3 hW (rfl) rfl 20 (by decide) (hts (.fieldLink RX3 54 "CaskYardModel" "holds" "[I") (by decide +kernel)) (fun _ h9 => h9) (v := .ref (ad 14)) rfl dX3_pass_264 ?_
                              refine lv_iconst (v := 5) hx hb dX3_pass_267 (by decide) ?_
                              refine lv_iload_n hx hb dX3_pass_268 rfl (lv_at hl 4 rfl) ?_
                              refine lv_imul hx hb dX3_pass_269 ?_
                              refine cy_top (pk_mul 5 c) ?_
                              refine lv_iload hx hb dX3_pass_270 (lv_at hl 0 rfl) ?_
                              refine lv_iadd hx hb dX3_pass_272 ?_
                              refine cy_top (nI_add (5 * c) k) ?_
                              refine lv_iload hx hb dX3_pass_273 (lv_at hl 0 rfl) ?_
                              refine lv_iconst (v := 4) hx hb dX3_pass_275 (by decide) ?_
                              refine lv_icmp_ne (tgt := 284) hx hb dX3_pass_276 (by decide) (fun c_276 => ?_) (fun c_276 => ?_)
                              · skip
                                have q_276 := cy_ne (a := k) (b := 4) (by omega) (by omega) c_276
                                refine lv_iconst (v := 0) hx hb dX3_pass_284 (by decide) ?_
                                refine cy_iast hC (14) (by decide) hW 0 (i := ((5 * c) + k)) (rfl) rfl (by omega) (by decide) (upd ((cq_vi (cq_p4 S c) c (cq_lf S c) k) 14) ((5 * c) + k) 0) rfl (S' := (va_up (cq_vi (cq_p4 S c) c (cq_lf S c) k) 14 (upd ((cq_vi (cq_p4 S c) c (cq_lf S c) k) 14) ((5 * c) + k) 0))) rfl dX3_pass_285 (fun H locs hW => ?_)
                                refine lv_iinc (v := nI (k + 1)) (lv' := [(7, .int (nI (k + 1))), (6, .int (cq_lf S c)), (5, .int ((cq_p3 S c).2)), (0, .ref (ad 0)), (1, .int (nI c)), (2, .int x)]) hx hb dX3_pass_286 hl (k := 0) rfl (nI_1 k) (by decide) rfl (fun ls hl => ?_)
                                refine lv_goto (tgt := 257) hx hb dX3_pass_289 (by decide) ?_
                                have hW := cy_castS (show (va_up (cq_vi (cq_p4 S c) c (cq_lf S c) k) 14 (upd ((cq_vi (cq_p4 S c) c (cq_lf S c) k) 14) ((5 * c) + k) 0)) = (cq_vi (cq_p4 S c) c (cq_lf S c) (k + 1)) from by simp only [cq_vi, c_251, c_260, c_276, ↓reduceIte]) hW
                                exact ih_257 (k + 1) (by omega) (by omega) _ _ hW _ (lv_sub hl [0, 1, 2, 3, 4, 5] rfl)
                              · skip
                                have q_276 := cy_eq (a := k) (b := 4) (by omega) (by omega) c_276
                                refine lv_iload hx hb dX3_pass_279 (lv_at hl 1 rfl) ?_
                                refine lv_goto (tgt := 285) hx hb dX3_pass_281 (by decide) ?_
                                refine cy_iast hC (14) (by decide) hW 0 (i := ((5 * c) + k)) (rfl) rfl (by omega) (by decide) (upd ((cq_vi (cq_p4 S c) c (cq_lf S c) k) 14) ((5 * c) + k) (cq_lf S c)) rfl (S' := (va_up (cq_vi (cq_p4 S c) c (cq_lf S c) k) 14 (upd ((cq_vi (cq_p4 S c) c (cq_lf S c) k) 14) ((5 * c) + k) (cq_lf S c)))) rfl dX3_pass_285 (fun H locs hW => ?_)
                                refine lv_iinc (v := nI (k + 1)) (lv' := [(7, .int (nI (k + 1))), (6, .int (cq_lf S c)), (5, .int ((cq_p3 S c).2)), (0, .ref (ad 0)), (1, .int (nI c)), (2, .int x)]) hx hb dX3_pass_286 hl (k := 0) rfl (nI_1 k) (by decide) rfl (fun ls hl => ?_)
                                refine lv_goto (tgt := 257) hx hb dX3_pass_289 (by decide) ?_
                                have hW := cy_castS (show (va_up (cq_vi (cq_p4 S c) c (cq_lf S c) k) 14 (upd ((cq_vi (cq_p4 S c) c (cq_lf S c) k) 14) ((5 * c) + k) (cq_lf S c))) = (cq_vi (cq_p4 S c) c (cq_lf S c) (k + 1)) from by simp only [cq_vi, c_251, c_260, c_276, ↓reduceIte]) hW
                                exact ih_257 (k + 1) (by omega) (by omega) _ _ hW _ (lv_sub hl [0, 1, 2, 3, 4, 5] rfl)
                        exact L_257 ((5 - 0) + 1) 0 (Nat.lt_succ_self _) (by omega) _ _ hW _ (lv_sub hl [0, 1, 2, 3, 4, 5] rfl)
                    have hW := cy_castS (show (va_up (cq_p3 S c).1 13 (upd ((cq_p3 S c).1 13) c 0)) = (cq_p4 S c) from by simp only [cq_p4, cq_lf, c_207, ↓reduceIte]) hW
                    exact L_243   _ _ hW _ (lv_sub hl [0, 1, 2, 3, 4] rfl)
                  · skip
                    refine lv_iconst (v := 5) hx hb dX3_pass_210 (by decide) ?_
                    refine lv_iload hx hb dX3_pass_211 (lv_at hl 0 rfl) ?_
                    refine lv_imul hx hb dX3_pass_213 ?_
                    refine lv_iconst (v := 4) hx hb dX3_pass_214 (by decide) ?_
                    refine lv_aload_n hx hb dX3_pass_215 rfl (lv_at hl 2 rfl) ?_
                    refine cy_get hC (0) (by decide) hi3 hW (rfl) rfl 10 (by decide) (hts (.fieldLink RX3 26 "CaskYardModel" "room" "[I") (by decide +kernel)) (fun _ h9 => h9) (v := .ref (ad 5)) rfl dX3_pass_216 ?_
                    refine lv_aload_n hx hb dX3_pass_219 rfl (lv_at hl 2 rfl) ?_
                    refine cy_get hC (0) (by decide) hi3 hW (rfl) rfl 13 (by decide) (hts (.fieldLink RX3 32 "CaskYardModel" "sort" "[I") (by decide +kernel)) (fun _ h9 => h9) (v := .ref (ad 7)) rfl dX3_pass_220 ?_
                    refine lv_iload_n hx hb dX3_pass_223 rfl (lv_at hl 3 rfl) ?_
                    refine cy_iald hC (7) (by decide) hW 0 (i := c) (rfl) rfl (by omega) (by decide) dX3_pass_224 ?_
                    refine cy_top (y := nI (cq_so S c)) (by rw [cq_p3_n (by decide) (by decide) (by decide)]; exact (hq.1 c hc).2) ?_
                    refine cy_iald hC (5) (by decide) hW 0 (i := (cq_so S c)) (rfl) rfl (hq.1 c hc).1 (by decide) dX3_pass_225 ?_
                    refine lv_imul hx hb dX3_pass_226 ?_
                    refine lv_icmp_ge (tgt := 241) hx hb dX3_pass_227 (by decide) (fun c_227 => ?_) (fun c_227 => ?_)
                    · skip
                      refine lv_iconst (v := 0) hx hb dX3_pass_241 (by decide) ?_
                      refine cy_iast hC (13) (by decide) hW 0 (i := c) (rfl) rfl (by omega) (by decide) (upd ((cq_p3 S c).1 13) c 0) rfl (S' := (va_up (cq_p3 S c).1 13 (upd ((cq_p3 S c).1 13) c 0))) rfl dX3_pass_242 (fun H locs hW => ?_)
                      have L_243 : ∀ (H : Heap) (locs : List Loc), cy_W D A s.heap (cy_Mw kI kZ ad (cq_p4 S c) tl) H locs → ∀ (ls : Array Slot), lv_has ls 8 [(6, .int (cq_lf S c)), (5, .int ((cq_p3 S c).2)), (0, .ref (ad 0)), (1, .int (nI c)), (2, .int x)] → W p l e rm_X3_pass s m args below meth co H locs 0 0 Q (F0 m 243 ls []) := by
                        intro   H locs hW ls hl
                        refine lv_aload_n hx hb dX3_pass_243 rfl (lv_at hl 2 rfl) ?_
                        refine cy_get hC (0) (by decide) hi3 hW (rfl) rfl 19 (by decide) (hts (.fieldLink RX3 51 "CaskYardModel" "air" "[I") (by decide +kernel)) (fun _ h9 => h9) (v := .ref (ad 13)) rfl dX3_pass_244 ?_
                        refine lv_iload_n hx hb dX3_pass_247 rfl (lv_at hl 3 rfl) ?_
                        refine cy_iald hC (13) (by decide) hW 0 (i := c) (rfl) rfl (by omega) (by decide) dX3_pass_248 ?_
                        refine lv_bipush (v := 6) hx hb dX3_pass_249 (by decide) ?_
                        refine lv_icmp_ne (tgt := 299) hx hb dX3_pass_251 (by decide) (fun c_251 => ?_) (fun c_251 => ?_)
                        · skip
                          have L_299 : ∀ (H : Heap) (locs : List Loc), cy_W D A s.heap (cy_Mw kI kZ ad (cq_p5 S c) tl) H locs → ∀ (ls : Array Slot), lv_has ls 8 [(5, .int ((cq_p3 S c).2)), (0, .ref (ad 0)), (1, .int (nI c)), (2, .int x)] → W p l e rm_X3_pass s m args below meth co H locs 0 0 Q (F0 m 299 ls []) := by
                            intro   H locs hW ls hl
                            refine lv_iconst (v := 0) hx hb dX3_pass_299 (by decide) ?_
                            refine lv_istore (lv' := [(7, .int 0), (5, .int ((cq_p3 S c).2)), (0, .ref (ad 0)), (1, .int (nI c)), (2, .int x)]) hx hb dX3_pass_300 hl (by decide) rfl (fun ls hl => ?_)
                            have L_302 : ∀ (fu : Nat) (i : Nat), cq_hn S c - i < fu → (i ≤ cq_hn S c) → (i = 0 ∨ x - x / 12 * 12 = 0) → ∀ (H : Heap) (locs : List Loc), cy_W D A s.heap (cy_Mw kI kZ ad (cq_ln (cq_p5 S c) c i) tl) H locs → ∀ (ls : Array Slot), lv_has ls 8 [(7, .int (nI i)), (5, .int ((cq_p3 S c).2)), (0, .ref (ad 0)), (1, .int (nI c)), (2, .int x)] → W p l e rm_X3_pass s m args below meth co H locs 0 0 Q (F0 m 302 ls []) := by
                              intro fu
                              induction fu with
                              | zero => intro i hn; exact absurd hn (Nat.not_lt_zero _)
                              | succ fu ih_302 =>
                                intro i hn_302 hi he H locs hW ls hl
                                have hq5 : cq_ok (cq_ln (cq_p5 S c) c i) := cq_ok_of (by rw [cq_ln_n (by decide), cq_p5_n (by decide) (by decide) (by decide) (by decide)]) (by rw [cq_ln_n (by decide), cq_p5_n (by decide) (by decide) (by decide) (by decide)]) hq
                                refine lv_iload hx hb dX3_pass_302 (lv_at hl 0 rfl) ?_
                                refine lv_aload_n hx hb dX3_pass_304 rfl (lv_at hl 2 rfl) ?_
                                refine lv_iload_n hx hb dX3_pass_305 rfl (lv_at hl 3 rfl) ?_
                                refine cy_callV (rm := rm_X3_hoopsOf) (As := [.int (nI c)]) (rest := [.int (nI i)]) (q0 := 0) (ci := 3) hC.1 hC.2.1 hC.2.2 hW (c_X3_hoopsOf (c := c) (by omega) hq5) (cwV 1 hts gX3_pass_X3_hoopsOf rfl rfl rfl (by decide +kernel) ⟨Nat.le_of_ble_eq_true rfl, Nat.le_of_ble_eq_true rfl⟩) (cy_w_at (by decide) (rfl)) rfl rfl hl.1 rfl (Nat.le_of_ble_eq_true rfl) dX3_pass_306 ⟨Nat.le_of_ble_eq_true rfl, Nat.le_of_ble_eq_true rfl⟩ (k' := 0) (n' := 0) rfl rfl (fun H locs hW => ?_)
                                refine cy_topv (show _ = Value.int (nI (cq_hn S c)) from (congrArg (fun z => Value.int (nI z)) (cq_hn_c (by rw [cq_ln_n (by decide), cq_p5_n (by decide) (by decide) (by decide) (by decide)]) (by rw [cq_ln_n (by decide), cq_p5_n (by decide) (by decide) (by decide) (by decide)]) (by rw [cq_ln_n (by decide), cq_p5_n (by decide) (by decide) (by decide) (by decide)])))) ?_
                                refine lv_icmp_ge (tgt := 355) hx hb dX3_pass_309 (by decide) (fun c_309 => ?_) (fun c_309 => ?_)
                                · skip
                                  have q_309 := cy_le (a := (cq_hn S c)) (b := i) (by omega) (by omega) c_309
                                  have hW := cy_castS (cq_pc_e he q_309 hi) hW
                                  refine lv_iload hx hb dX3_pass_355 (lv_at hl 1 rfl) ?_
                                  exact hE  _ _ _ _ _ _ (Nat.le_of_ble_eq_true rfl) (Nat.le_of_ble_eq_true rfl) hW dX3_pass_357
                                · skip
                                  have q_309 := cy_nle (a := (cq_hn S c)) (b := i) (by omega) (by omega) c_309
                                  refine lv_iload_n hx hb dX3_pass_312 rfl (lv_at hl 4 rfl) ?_
                                  refine lv_bipush (v := 12) hx hb dX3_pass_313 (by decide) ?_
                                  refine lv_irem hx hb dX3_pass_315 (by decide) ?_
                                  refine lv_if_ne (tgt := 355) hx hb dX3_pass_316 (by decide) (fun c_316 => ?_) (fun c_316 => ?_)
                                  · skip
                                    have hW := cy_castS (show cq_ln (cq_p5 S c) c i = cq_pc S c x from by unfold cq_pc; rw [if_neg c_316, he.resolve_right c_316]; rfl) hW
                                    refine lv_iload hx hb dX3_pass_355 (lv_at hl 1 rfl) ?_
                                    exact hE  _ _ _ _ _ _ (Nat.le_of_ble_eq_true rfl) (Nat.le_of_ble_eq_true rfl) hW dX3_pass_357
                                  · skip
                                    refine lv_aload_n hx hb dX3_pass_319 rfl (lv_at hl 2 rfl) ?_
                                    refine cy_get hC (0) (by decide) hi3 hW (rfl) rfl 16 (by decide) (hts (.fieldLink RX3 42 "CaskYardModel" "tension" "[I") (by decide +kernel)) (fun _ h9 => h9) (v := .ref (ad 10)) rfl dX3_pass_320 ?_
                                    refine lv_bipush (v := 8) hx hb dX3_pass_323 (by decide) ?_
                                    refine lv_iload_n hx hb dX3_pass_325 rfl (lv_at hl 3 rfl) ?_
                                    refine lv_imul hx hb dX3_pass_326 ?_
                                    refine cy_top (pk_mul 8 c) ?_
                                    refine lv_iload hx hb dX3_pass_327 (lv_at hl 0 rfl) ?_
                                    refine lv_iadd hx hb dX3_pass_329 ?_
                                    refine cy_top (nI_add (8 * c) i) ?_
                                    refine lv_iconst (v := 0) hx hb dX3_pass_330 (by decide) ?_
                                    refine lv_aload_n hx hb dX3_pass_331 rfl (lv_at hl 2 rfl) ?_
                                    refine cy_get hC (0) (by decide) hi3 hW (rfl) rfl 16 (by decide) (hts (.fieldLink RX3 42 "CaskYardModel" "tension" "[I") (by decide +kernel)) (fun _ h9 => h9) (v := .ref (ad 10)) rfl dX3_pass_332 ?_
                                    refine lv_bipush (v := 8) hx hb dX3_pass_335 (by decide) ?_
                                    refine lv_iload_n hx hb dX3_pass_337 rfl (lv_at hl 3 rfl) ?_
                                    refine lv_imul hx hb dX3_pass_338 ?_
                                    refine cy_top (pk_mul 8 c) ?_
                                    refine lv_iload hx hb dX3_pass_339 (lv_at hl 0 rfl) ?_
                                    refine lv_iadd hx hb dX3_pass_341 ?_
                                    refine cy_top (nI_add (8 * c) i) ?_
                                    refine cy_iald hC (10) (by decide) hW 0 (i := ((8 * c) + i)) (rfl) rfl (by omega) (by decide) dX3_pass_342 ?_
                                    refine lv_iconst (v := 1) hx hb dX3_pass_343 (by decide) ?_
                                    refine lv_isub hx hb dX3_pass_344 ?_
                                    refine va_mmax hx hb (hml.trans hl.1.symm) hown (hts (.methodLink RX3 128 Lib.Math.max.name) (by decide +kernel)) (hts (.static Lib.Math.max.name) (by decide +kernel)) (hts (.initialized "java/lang/Math") (by decide +kernel)) (hts (.code Lib.Math.max.name Lib.Math.max.code 2 (some .int)) (by decide +kernel)) (Nat.le_of_ble_eq_true rfl) (Nat.le_of_ble_eq_true rfl) (Nat.le_of_ble_eq_true rfl) (Nat.le_of_ble_eq_true rfl) dX3_pass_345 ?_
                                    refine cy_topv (show _ = Value.int (cy_mx 0 ((((cq_ln (cq_p5 S c) c i) 10) ((8 * c) + i)) - 1)) from rfl) ?_
                                    refine cy_iast hC (10) (by decide) hW 0 (i := ((8 * c) + i)) (rfl) rfl (by omega) (by decide) (upd ((cq_ln (cq_p5 S c) c i) 10) ((8 * c) + i) (cy_mx 0 ((((cq_ln (cq_p5 S c) c i) 10) ((8 * c) + i)) - 1))) rfl (S' := (va_up (cq_ln (cq_p5 S c) c i) 10 (upd ((cq_ln (cq_p5 S c) c i) 10) ((8 * c) + i) (cy_mx 0 ((((cq_ln (cq_p5 S c) c i) 10) ((8 * c) + i)) - 1))))) rfl dX3_pass_348 (fun H locs hW => ?_)
                                    refine lv_iinc (v := nI (i + 1)) (lv' := [(7, .int (nI (i + 1))), (5, .int ((cq_p3 S c).2)), (0, .ref (ad 0)), (1, .int (nI c)), (2, .int x)]) hx hb dX3_pass_349 hl (k := 0) rfl (nI_1 i) (by decide) rfl (fun ls hl => ?_)
                                    refine lv_goto (tgt := 302) hx hb dX3_pass_352 (by decide) ?_
                                    exact ih_302 (i + 1) (by omega) (by omega) (Or.inr c_316) _ _ hW _ (lv_sub hl [0, 1, 2, 3, 4] rfl)
                            exact L_302 ((cq_hn S c - 0) + 1) 0 (Nat.lt_succ_self _) (Nat.zero_le _) (Or.inl rfl) _ _ hW _ (lv_sub hl [0, 1, 2, 3, 4] rfl)
                          have hW := cy_castS (show (cq_p4 S c) = (cq_p5 S c) from by simp only [cq_p5, c_251, ↓reduceIte]) hW
                          exact L_299   _ _ hW _ (lv_sub hl [1, 2, 3, 4] rfl)
                        · skip
                          refine lv_iconst (v := 0) hx hb dX3_pass_254 (by decide) ?_
                          refine lv_istore (lv' := [(7, .int 0), (6, .int (cq_lf S c)), (5, .int ((cq_p3 S c).2)), (0, .ref (ad 0)), (1, .int (nI c)), (2, .int x)]) hx hb dX3_pass_255 hl (by decide) rfl (fun ls hl => ?_)
                          have L_257 : ∀ (fu : Nat) (k : Nat), 5 - k < fu → (k ≤ 5) → ∀ (H : Heap) (locs : List Loc), cy_W D A s.heap (cy_Mw kI kZ ad (cq_vi (cq_p4 S c) c (cq_lf S c) k) tl) H locs → ∀ (ls : Array Slot), lv_has ls 8 [(7, .int (nI k)), (6, .int (cq_lf S c)), (5, .int ((cq_p3 S c).2)), (0, .ref (ad 0)), (1, .int (nI c)), (2, .int x)] → W p l e rm_X3_pass s m args below meth co H locs 0 0 Q (F0 m 257 ls []) := by
                            intro fu
                            induction fu with
                            | zero => intro k hn; exact absurd hn (Nat.not_lt_zero _)
                            | succ fu ih_257 =>
                              intro k hn_257 hk H locs hW ls hl
                              refine lv_iload hx hb dX3_pass_257 (lv_at hl 0 rfl) ?_
                              refine lv_iconst (v := 5) hx hb dX3_pass_259 (by decide) ?_
                              refine lv_icmp_ge (tgt := 292) hx hb dX3_pass_260 (by decide) (fun c_260 => ?_) (fun c_260 => ?_)
                              · skip
                                have q_260 := cy_le (a := 5) (b := k) (by omega) (by omega) c_260
                                obtain rfl : k = 5 := by omega
                                refine lv_aload_n hx hb dX3_pass_292 rfl (lv_at hl 3 rfl) ?_
                                refine cy_get hC (0) (by decide) hi3 hW (rfl) rfl 19 (by decide) (hts (.fieldLink RX3 51 "CaskYardModel" "air" "[I") (by decide +kernel)) (fun _ h9 => h9) (v := .ref (ad 13)) rfl dX3_pass_293 ?_
                                refine lv_iload_n hx hb dX3_pass_296 rfl (lv_at hl 4 rfl) ?_
                                refine lv_iconst (v := 0) hx hb dX3_pass_297 (by decide) ?_
                                refine cy_iast hC (13) (by decide) hW 0 (i := c) (rfl) rfl (by omega) (by decide) (upd ((cq_vi (cq_p4 S c) c (cq_lf S c) 5) 13) c 0) rfl (S' := (va_up (cq_vi (cq_p4 S c) c (cq_lf S c) 5) 13 (upd ((cq_vi (cq_p4 S c) c (cq_lf S c) 5) 13) c 0))) rfl dX3_pass_298 (fun H locs hW => ?_)
                                have L_299 : ∀ (H : Heap) (locs : List Loc), cy_W D A s.heap (cy_Mw kI kZ ad (cq_p5 S c) tl) H locs → ∀ (ls : Array Slot), lv_has ls 8 [(5, .int ((cq_p3 S c).2)), (0, .ref (ad 0)), (1, .int (nI c)), (2, .int x)] → W p l e rm_X3_pass s m args below meth co H locs 0 0 Q (F0 m 299 ls []) := by
                                  intro   H locs hW ls hl
                                  refine lv_iconst (v := 0) hx hb dX3_pass_299 (by decide) ?_
                                  refine lv_istore (lv' := [(7, .int 0), (5, .int ((cq_p3 S c).2)), (0, .ref (ad 0)), (1, .int (nI c)), (2, .int x)]) hx hb dX3_pass_300 hl (by decide) rfl (fun ls hl => ?_)
                                  have L_302 : ∀ (fu : Nat) (i : Nat), cq_hn S c - i < fu → (i ≤ cq_hn S c) → (i = 0 ∨ x - x / 12 * 12 = 0) → ∀ (H : Heap) (locs : List Loc), cy_W D A s.heap (cy_Mw kI kZ ad (cq_ln (cq_p5 S c) c i) tl) H locs → ∀ (ls : Array Slot), lv_has ls 8 [(7, .int (nI i)), (5, .int ((cq_p3 S c).2)), (0, .ref (ad 0)), (1, .int (nI c)), (2, .int x)] → W p l e rm_X3_pass s m args below meth co H locs 0 0 Q (F0 m 302 ls []) := by
                                    intro fu
                                    induction fu with
                                    | zero => intro i hn; exact absurd hn (Nat.not_lt_zero _)
                                    | succ fu ih_302 =>
                                      intro i hn_302 hi he H locs hW ls hl
                                      have hq5 : cq_ok (cq_ln (cq_p5 S c) c i) := cq_ok_of (by rw [cq_ln_n (by decide), cq_p5_n (by decide) (by decide) (by decide) (by decide)]) (by rw [cq_ln_n (by decide), cq_p5_n (by decide) (by decide) (by decide) (by decide)]) hq
                                      refine lv_iload hx hb dX3_pass_302 (lv_at hl 0 rfl) ?_
                                      refine lv_aload_n hx hb dX3_pass_304 rfl (lv_at hl 2 rfl) ?_
                                      refine lv_iload_n hx hb dX3_pass_305 rfl (lv_at hl 3 rfl) ?_
                                      refine cy_callV (rm := rm_X3_hoopsOf) (As := [.int (nI c)]) (rest := [.int (nI i)]) (q0 := 0) (ci := 3) hC.1 hC.2.1 hC.2.2 hW (c_X3_hoopsOf (c := c) (by omega) hq5) (cwV 1 hts gX3_pass_X3_hoopsOf rfl rfl rfl (by decide +kernel) ⟨Nat.le_of_ble_eq_true rfl, Nat.le_of_ble_eq_true rfl⟩) (cy_w_at (by decide) (rfl)) rfl rfl hl.1 rfl (Nat.le_of_ble_eq_true rfl) dX3_pass_306 ⟨Nat.le_of_ble_eq_true rfl, Nat.le_of_ble_eq_true rfl⟩ (k' := 0) (n' := 0) rfl rfl (fun H locs hW => ?_)
                                      refine cy_topv (show _ = Value.int (nI (cq_hn S c)) from (congrArg (fun z => Value.int (nI z)) (cq_hn_c (by rw [cq_ln_n (by decide), cq_p5_n (by decide) (by decide) (by decide) (by decide)]) (by rw [cq_ln_n (by decide), cq_p5_n (by decide) (by decide) (by decide) (by decide)]) (by rw [cq_ln_n (by decide), cq_p5_n (by decide) (by decide) (by decide) (by decide)])))) ?_
                                      refine lv_icmp_ge (tgt := 355) hx hb dX3_pass_309 (by decide) (fun c_309 => ?_) (fun c_309 => ?_)
                                      · skip
                                        have q_309 := cy_le (a := (cq_hn S c)) (b := i) (by omega) (by omega) c_309
                                        have hW := cy_castS (cq_pc_e he q_309 hi) hW
                                        refine lv_iload hx hb dX3_pass_355 (lv_at hl 1 rfl) ?_
                                        exact hE  _ _ _ _ _ _ (Nat.le_of_ble_eq_true rfl) (Nat.le_of_ble_eq_true rfl) hW dX3_pass_357
                                      · skip
                                        have q_309 := cy_nle (a := (cq_hn S c)) (b := i) (by omega) (by omega) c_309
                                        refine lv_iload_n hx hb dX3_pass_312 rfl (lv_at hl 4 rfl) ?_
                                        refine lv_bipush (v := 12) hx hb dX3_pass_313 (by decide) ?_
                                        refine lv_irem hx hb dX3_pass_315 (by decide) ?_
                                        refine lv_if_ne (tgt := 355) hx hb dX3_pass_316 (by decide) (fun c_316 => ?_) (fun c_316 => ?_)
                                        · skip
                                          have hW := cy_castS (show cq_ln (cq_p5 S c) c i = cq_pc S c x from by unfold cq_pc; rw [if_neg c_316, he.resolve_right c_316]; rfl) hW
                                          refine lv_iload hx hb dX3_pass_355 (lv_at hl 1 rfl) ?_
                                          exact hE  _ _ _ _ _ _ (Nat.le_of_ble_eq_true rfl) (Nat.le_of_ble_eq_true rfl) hW dX3_pass_357
                                        · skip
                                          refine lv_aload_n hx hb dX3_pass_319 rfl (lv_at hl 2 rfl) ?_
                                          refine cy_get hC (0) (by decide) hi3 hW (rfl) rfl 16 (by decide) (hts (.fieldLink RX3 42 "CaskYardModel" "tension" "[I") (by decide +kernel)) (fun _ h9 => h9) (v := .ref (ad 10)) rfl dX3_pass_320 ?_
                                          refine lv_bipush (v := 8) hx hb dX3_pass_323 (by decide) ?_
                                          refine lv_iload_n hx hb dX3_pass_325 rfl (lv_at hl 3 rfl) ?_
                                          refine lv_imul hx hb dX3_pass_326 ?_
                                          refine cy_top (pk_mul 8 c) ?_
                                          refine lv_iload hx hb dX3_pass_327 (lv_at hl 0 rfl) ?_
                                          refine lv_iadd hx hb dX3_pass_329 ?_
                                          refine cy_top (nI_add (8 * c) i) ?_
                                          refine lv_iconst (v := 0) hx hb dX3_pass_330 (by decide) ?_
                                          refine lv_aload_n hx hb dX3_pass_331 rfl (lv_at hl 2 rfl) ?_
                                          refine cy_get hC (0) (by decide) hi3 hW (rfl) rfl 16 (by decide) (hts (.fieldLink RX3 42 "CaskYardModel" "tension" "[I") (by decide +kernel)) (fun _ h9 => h9) (v := .ref (ad 10)) rfl dX3_pass_332 ?_
                                          refine lv_bipush (v := 8) hx hb dX3_pass_335 (by decide) ?_
                                          refine lv_iload_n hx hb dX3_pass_337 rfl (lv_at hl 3 rfl) ?_
                                          refine lv_imul hx hb dX3_pass_338 ?_
                                          refine cy_top (pk_mul 8 c) ?_
                                          refine lv_iload hx hb dX3_pass_339 (lv_at hl 0 rfl) ?_
                                          refine lv_iadd hx hb dX3_pass_341 ?_
                                          refine cy_top (nI_add (8 * c) i) ?_
                                          refine cy_iald hC (10) (by decide) hW 0 (i := ((8 * c) + i)) (rfl) rfl (by omega) (by decide) dX3_pass_342 ?_
                                          refine lv_iconst (v := 1) hx hb dX3_pass_343 (by decide) ?_
                                          refine lv_isub hx hb dX3_pass_344 ?_
                                          refine va_mmax hx hb (hml.trans hl.1.symm) hown (hts (.methodLink RX3 128 Lib.Math.max.name) (by decide +kernel)) (hts (.static Lib.Math.max.name) (by decide +kernel)) (hts (.initialized "java/lang/Math") (by decide +kernel)) (hts (.code Lib.Math.max.name Lib.Math.max.code 2 (some .int)) (by decide +kernel)) (Nat.le_of_ble_eq_true rfl) (Nat.le_of_ble_eq_true rfl) (Nat.le_of_ble_eq_true rfl) (Nat.le_of_ble_eq_true rfl) dX3_pass_345 ?_
                                          refine cy_topv (show _ = Value.int (cy_mx 0 ((((cq_ln (cq_p5 S c) c i) 10) ((8 * c) + i)) - 1)) from rfl) ?_
                                          refine cy_iast hC (10) (by decide) hW 0 (i := ((8 * c) + i)) (rfl) rfl (by omega) (by decide) (upd ((cq_ln (cq_p5 S c) c i) 10) ((8 * c) + i) (cy_mx 0 ((((cq_ln (cq_p5 S c) c i) 10) ((8 * c) + i)) - 1))) rfl (S' := (va_up (cq_ln (cq_p5 S c) c i) 10 (upd ((cq_ln (cq_p5 S c) c i) 10) ((8 * c) + i) (cy_mx 0 ((((cq_ln (cq_p5 S c) c i) 10) ((8 * c) + i)) - 1))))) rfl dX3_pass_348 (fun H locs hW => ?_)
                                          refine lv_iinc (v := nI (i + 1)) (lv' := [(7, .int (nI (i + 1))), (5, .int ((cq_p3 S c).2)), (0, .ref (ad 0)), (1, .int (nI c)), (2, .int x)]) hx hb dX3_pass_349 hl (k := 0) rfl (nI_1 i) (by decide) rfl (fun ls hl => ?_)
                                          refine lv_goto (tgt := 302) hx hb dX3_pass_352 (by decide) ?_
                                          exact ih_302 (i + 1) (by omega) (by omega) (Or.inr c_316) _ _ hW _ (lv_sub hl [0, 1, 2, 3, 4] rfl)
                                  exact L_302 ((cq_hn S c - 0) + 1) 0 (Nat.lt_succ_self _) (Nat.zero_le _) (Or.inl rfl) _ _ hW _ (lv_sub hl [0, 1, 2, 3, 4] rfl)
                                have hW := cy_castS (show (va_up (cq_vi (cq_p4 S c) c (cq_lf S c) 5) 13 (upd ((cq_vi (cq_p4 S c) c (cq_lf S c) 5) 13) c 0)) = (cq_p5 S c) from by simp only [cq_p5, c_251, c_260, ↓reduceIte]) hW
                                exact L_299   _ _ hW _ (lv_sub hl [2, 3, 4, 5] rfl)
                              · skip
                                have q_260 := cy_nle (a := 5) (b := k) (by omega) (by omega) c_260
                                refine lv_aload_n hx hb dX3_pass_263 rfl (lv_at hl 3 rfl) ?_
                                refine cy_get hC (0) (by decide) hi3 hW (rfl) rfl 20 (by decide) (hts (.fieldLink RX3 54 "CaskYardModel" "holds" "[I") (by decide +kernel)) (fun _ h9 => h9) (v := .ref (ad 14)) rfl dX3_pass_264 ?_
                                refine lv_iconst (v := 5) hx hb dX3_pass_267 (by decide) ?_
                                refine lv_iload_n hx hb dX3_pass_268 rfl (lv_at hl 4 rfl) ?_
                                refine lv_imul hx hb dX3_pass_269 ?_
                                refine cy_top (pk_mul 5 c) ?_
                                refine lv_iload hx hb dX3_pass_270 (lv_at hl 0 rfl) ?_
                                refine lv_iadd hx hb dX3_pass_272 ?_
                                refine cy_top (nI_add (5 * c) k) ?_
                                refine lv_iload hx hb dX3_pass_273 (lv_at hl 0 rfl) ?_
                                refine lv_iconst (v := 4) hx hb dX3_pass_275 (by decide) ?_
                                refine lv_icmp_ne (tgt := 284) hx hb dX3_pass_276 (by decide) (fun c_276 => ?_) (fun c_276 => ?_)
                                · skip
                                  have q_276 := cy_ne (a := k) (b := 4) (by omega) (by omega) c_276
                                  refine lv_iconst (v := 0) hx hb dX3_pass_284 (by decide) ?_
                                  refine cy_iast hC (14) (by decide) hW 0 (i := ((5 * c) + k)) (rfl) rfl (by omega) (by decide) (upd ((cq_vi (cq_p4 S c) c (cq_lf S c) k) 14) ((5 * c) + k) 0) rfl (S' := (va_up (cq_vi (cq_p4 S c) c (cq_lf S c) k) 14 (upd ((cq_vi (cq_p4 S c) c (cq_lf S c) k) 14) ((5 * c) + k) 0))) rfl dX3_pass_285 (fun H locs hW => ?_)
                                  refine lv_iinc (v := nI (k + 1)) (lv' := [(7, .int (nI (k + 1))), (6, .int (cq_lf S c)), (5, .int ((cq_p3 S c).2)), (0, .ref (ad 0)), (1, .int (nI c)), (2, .int x)]) hx hb dX3_pass_286 hl (k := 0) rfl (nI_1 k) (by decide) rfl (fun ls hl => ?_)
                                  refine lv_goto (tgt := 257) hx hb dX3_pass_289 (by decide) ?_
                                  have hW := cy_castS (show (va_up (cq_vi (cq_p4 S c) c (cq_lf S c) k) 14 (upd ((cq_vi (cq_p4 S c) c (cq_lf S c) k) 14) ((5 * c) + k) 0)) = (cq_vi (cq_p4 S c) c (cq_lf S c) (k + 1)) from by simp only [cq_vi, c_251, c_260, c_276, ↓reduceIte]) hW
                                  exact ih_257 (k + 1) (by omega) (by omega) _ _ hW _ (lv_sub hl [0, 1, 2, 3, 4, 5] rfl)
                                · skip
                                  have q_276 := cy_eq (a := k) (b := 4) (by omega) (by omega) c_276
                                  refine lv_iload hx hb dX3_pass_279 (lv_at hl 1 rfl) ?_
                                  refine lv_goto (tgt := 285) hx hb dX3_pass_281 (by decide) ?_
                                  refine cy_iast hC (14) (by decide) hW 0 (i := ((5 * c) + k)) (rfl) rfl (by omega) (by decide) (upd ((cq_vi (cq_p4 S c) c (cq_lf S c) k) 14) ((5 * c) + k) (cq_lf S c)) rfl (S' := (va_up (cq_vi (cq_p4 S c) c (cq_lf S c) k) 14 (upd ((cq_vi (cq_p4 S c) c (cq_lf S c) k) 14) ((5 * c) + k) (cq_lf S c)))) rfl dX3_pass_285 (fun H locs hW => ?_)
                                  refine lv_iinc (v := nI (k + 1)) (lv' := [(7, .int (nI (k + 1))), (6, .int (cq_lf S c)), (5, .int ((cq_p3 S c).2)), (0, .ref (ad 0)), (1, .int (nI c)), (2, .int x)]) hx hb dX3_pass_286 hl (k := 0) rfl (nI_1 k) (by decide) rfl (fun ls hl => ?_)
                                  refine lv_goto (tgt := 257) hx hb dX3_pass_289 (by decide) ?_
                                  have hW := cy_castS (show (va_up (cq_vi (cq_p4 S c) c (cq_lf S c) k) 14 (upd ((cq_vi (cq_p4 S c) c (cq_lf S c) k) 14) ((5 * c) + k) (cq_lf S c))) = (cq_vi (cq_p4 S c) c (cq_lf S c) (k + 1)) from by simp only [cq_vi, c_251, c_260, c_276, ↓reduceIte]) hW
                                  exact ih_257 (k + 1) (by omega) (by omega) _ _ hW _ (lv_sub hl [0, 1, 2, 3, 4, 5] rfl)
                          exact L_257 ((5 - 0) + 1) 0 (Nat.lt_succ_self _) (by omega) _ _ hW _ (lv_sub hl [0, 1, 2, 3, 4, 5] rfl)
                      have hW := cy_castS (show (va_up (cq_p3 S c).1 13 (upd ((cq_p3 S c).1 13) c 0)) = (cq_p4 S c) from by simp only [cq_p4, cq_lf, c_207, c_227, ↓reduceIte]) hW
                      exact L_243   _ _ hW _ (lv_sub hl [0, 1, 2, 3, 4] rfl)
                    · skip
                      refine lv_aload_n hx hb dX3_pass_230 rfl (lv_at hl 2 rfl) ?_
                      refine cy_get hC (0) (by decide) hi3 hW (rfl) rfl 19 (by decide) (hts (.fieldLink RX3 51 "CaskYardModel" "air" "[I") (by decide +kernel)) (fun _ h9 => h9) (v := .ref (ad 13)) rfl dX3_pass_231 ?_
                      refine lv_iload_n hx hb dX3_pass_234 rfl (lv_at hl 3 rfl) ?_
                      refine cy_iald hC (13) (by decide) hW 0 (i := c) (rfl) rfl (by omega) (by decide) dX3_pass_235 ?_
                      refine lv_iconst (v := 1) hx hb dX3_pass_236 (by decide) ?_
                      refine lv_iadd hx hb dX3_pass_237 ?_
                      refine lv_goto (tgt := 242) hx hb dX3_pass_238 (by decide) ?_
                      refine cy_iast hC (13) (by decide) hW 0 (i := c) (rfl) rfl (by omega) (by decide) (upd ((cq_p3 S c).1 13) c ((((cq_p3 S c).1 13) c) + 1)) rfl (S' := (va_up (cq_p3 S c).1 13 (upd ((cq_p3 S c).1 13) c ((((cq_p3 S c).1 13) c) + 1)))) rfl dX3_pass_242 (fun H locs hW => ?_)
                      have L_243 : ∀ (H : Heap) (locs : List Loc), cy_W D A s.heap (cy_Mw kI kZ ad (cq_p4 S c) tl) H locs → ∀ (ls : Array Slot), lv_has ls 8 [(6, .int (cq_lf S c)), (5, .int ((cq_p3 S c).2)), (0, .ref (ad 0)), (1, .int (nI c)), (2, .int x)] → W p l e rm_X3_pass s m args below meth co H locs 0 0 Q (F0 m 243 ls []) := by
                        intro   H locs hW ls hl
                        refine lv_aload_n hx hb dX3_pass_243 rfl (lv_at hl 2 rfl) ?_
                        refine cy_get hC (0) (by decide) hi3 hW (rfl) rfl 19 (by decide) (hts (.fieldLink RX3 51 "CaskYardModel" "air" "[I") (by decide +kernel)) (fun _ h9 => h9) (v := .ref (ad 13)) rfl dX3_pass_244 ?_
                        refine lv_iload_n hx hb dX3_pass_247 rfl (lv_at hl 3 rfl) ?_
                        refine cy_iald hC (13) (by decide) hW 0 (i := c) (rfl) rfl (by omega) (by decide) dX3_pass_248 ?_
                        refine lv_bipush (v := 6) hx hb dX3_pass_249 (by decide) ?_
                        refine lv_icmp_ne (tgt := 299) hx hb dX3_pass_251 (by decide) (fun c_251 => ?_) (fun c_251 => ?_)
                        · skip
                          have L_299 : ∀ (H : Heap) (locs : List Loc), cy_W D A s.heap (cy_Mw kI kZ ad (cq_p5 S c) tl) H locs → ∀ (ls : Array Slot), lv_has ls 8 [(5, .int ((cq_p3 S c).2)), (0, .ref (ad 0)), (1, .int (nI c)), (2, .int x)] → W p l e rm_X3_pass s m args below meth co H locs 0 0 Q (F0 m 299 ls []) := by
                            intro   H locs hW ls hl
                            refine lv_iconst (v := 0) hx hb dX3_pass_299 (by decide) ?_
                            refine lv_istore (lv' := [(7, .int 0), (5, .int ((cq_p3 S c).2)), (0, .ref (ad 0)), (1, .int (nI c)), (2, .int x)]) hx hb dX3_pass_300 hl (by decide) rfl (fun ls hl => ?_)
                            have L_302 : ∀ (fu : Nat) (i : Nat), cq_hn S c - i < fu → (i ≤ cq_hn S c) → (i = 0 ∨ x - x / 12 * 12 = 0) → ∀ (H : Heap) (locs : List Loc), cy_W D A s.heap (cy_Mw kI kZ ad (cq_ln (cq_p5 S c) c i) tl) H locs → ∀ (ls : Array Slot), lv_has ls 8 [(7, .int (nI i)), (5, .int ((cq_p3 S c).2)), (0, .ref (ad 0)), (1, .int (nI c)), (2, .int x)] → W p l e rm_X3_pass s m args below meth co H locs 0 0 Q (F0 m 302 ls []) := by
                              intro fu
                              induction fu with
                              | zero => intro i hn; exact absurd hn (Nat.not_lt_zero _)
                              | succ fu ih_302 =>
                                intro i hn_302 hi he H locs hW ls hl
                                have hq5 : cq_ok (cq_ln (cq_p5 S c) c i) := cq_ok_of (by rw [cq_ln_n (by decide), cq_p5_n (by decide) (by decide) (by decide) (by decide)]) (by rw [cq_ln_n (by decide), cq_p5_n (by decide) (by decide) (by decide) (by decide)]) hq
                                refine lv_iload hx hb dX3_pass_302 (lv_at hl 0 rfl) ?_
                                refine lv_aload_n hx hb dX3_pass_304 rfl (lv_at hl 2 rfl) ?_
                                refine lv_iload_n hx hb dX3_pass_305 rfl (lv_at hl 3 rfl) ?_
                                refine cy_callV (rm := rm_X3_hoopsOf) (As := [.int (nI c)]) (rest := [.int (nI i)]) (q0 := 0) (ci := 3) hC.1 hC.2.1 hC.2.2 hW (c_X3_hoopsOf (c := c) (by omega) hq5) (cwV 1 hts gX3_pass_X3_hoopsOf rfl rfl rfl (by decide +kernel) ⟨Nat.le_of_ble_eq_true rfl, Nat.le_of_ble_eq_true rfl⟩) (cy_w_at (by decide) (rfl)) rfl rfl hl.1 rfl (Nat.le_of_ble_eq_true rfl) dX3_pass_306 ⟨Nat.le_of_ble_eq_true rfl, Nat.le_of_ble_eq_true rfl⟩ (k' := 0) (n' := 0) rfl rfl (fun H locs hW => ?_)
                                refine cy_topv (show _ = Value.int (nI (cq_hn S c)) from (congrArg (fun z => Value.int (nI z)) (cq_hn_c (by rw [cq_ln_n (by decide), cq_p5_n (by decide) (by decide) (by decide) (by decide)]) (by rw [cq_ln_n (by decide), cq_p5_n (by decide) (by decide) (by decide) (by decide)]) (by rw [cq_ln_n (by decide), cq_p5_n (by decide) (by decide) (by decide) (by decide)])))) ?_
                                refine lv_icmp_ge (tgt := 355) hx hb dX3_pass_309 (by decide) (fun c_309 => ?_) (fun c_309 => ?_)
                                · skip
                                  have q_309 := cy_le (a := (cq_hn S c)) (b := i) (by omega) (by omega) c_309
                                  have hW := cy_castS (cq_pc_e he q_309 hi) hW
                                  refine lv_iload hx hb dX3_pass_355 (lv_at hl 1 rfl) ?_
                                  exact hE  _ _ _ _ _ _ (Nat.le_of_ble_eq_true rfl) (Nat.le_of_ble_eq_true rfl) hW dX3_pass_357
                                · skip
                                  have q_309 := cy_nle (a := (cq_hn S c)) (b := i) (by omega) (by omega) c_309
                                  refine lv_iload_n hx hb dX3_pass_312 rfl (lv_at hl 4 rfl) ?_
                                  refine lv_bipush (v := 12) hx hb dX3_pass_313 (by decide) ?_
                                  refine lv_irem hx hb dX3_pass_315 (by decide) ?_
                                  refine lv_if_ne (tgt := 355) hx hb dX3_pass_316 (by decide) (fun c_316 => ?_) (fun c_316 => ?_)
                                  · skip
                                    have hW := cy_castS (show cq_ln (cq_p5 S c) c i = cq_pc S c x from by unfold cq_pc; rw [if_neg c_316, he.resolve_right c_316]; rfl) hW
                                    refine lv_iload hx hb dX3_pass_355 (lv_at hl 1 rfl) ?_
                                    exact hE  _ _ _ _ _ _ (Nat.le_of_ble_eq_true rfl) (Nat.le_of_ble_eq_true rfl) hW dX3_pass_357
                                  · skip
                                    refine lv_aload_n hx hb dX3_pass_319 rfl (lv_at hl 2 rfl) ?_
                                    refine cy_get hC (0) (by decide) hi3 hW (rfl) rfl 16 (by decide) (hts (.fieldLink RX3 42 "CaskYardModel" "tension" "[I") (by decide +kernel)) (fun _ h9 => h9) (v := .ref (ad 10)) rfl dX3_pass_320 ?_
                                    refine lv_bipush (v := 8) hx hb dX3_pass_323 (by decide) ?_
                                    refine lv_iload_n hx hb dX3_pass_325 rfl (lv_at hl 3 rfl) ?_
                                    refine lv_imul hx hb dX3_pass_326 ?_
                                    refine cy_top (pk_mul 8 c) ?_
                                    refine lv_iload hx hb dX3_pass_327 (lv_at hl 0 rfl) ?_
                                    refine lv_iadd hx hb dX3_pass_329 ?_
                                    refine cy_top (nI_add (8 * c) i) ?_
                                    refine lv_iconst (v := 0) hx hb dX3_pass_330 (by decide) ?_
                                    refine lv_aload_n hx hb dX3_pass_331 rfl (lv_at hl 2 rfl) ?_
                                    refine cy_get hC (0) (by decide) hi3 hW (rfl) rfl 16 (by decide) (hts (.fieldLink RX3 42 "CaskYardModel" "tension" "[I") (by decide +kernel)) (fun _ h9 => h9) (v := .ref (ad 10)) rfl dX3_pass_332 ?_
                                    refine lv_bipush (v := 8) hx hb dX3_pass_335 (by decide) ?_
                                    refine lv_iload_n hx hb dX3_pass_337 rfl (lv_at hl 3 rfl) ?_
                                    refine lv_imul hx hb dX3_pass_338 ?_
                                    refine cy_top (pk_mul 8 c) ?_
                                    refine lv_iload hx hb dX3_pass_339 (lv_at hl 0 rfl) ?_
                                    refine lv_iadd hx hb dX3_pass_341 ?_
                                    refine cy_top (nI_add (8 * c) i) ?_
                                    refine cy_iald hC (10) (by decide) hW 0 (i := ((8 * c) + i)) (rfl) rfl (by omega) (by decide) dX3_pass_342 ?_
                                    refine lv_iconst (v := 1) hx hb dX3_pass_343 (by decide) ?_
                                    refine lv_isub hx hb dX3_pass_344 ?_
                                    refine va_mmax hx hb (hml.trans hl.1.symm) hown (hts (.methodLink RX3 128 Lib.Math.max.name) (by decide +kernel)) (hts (.static Lib.Math.max.name) (by decide +kernel)) (hts (.initialized "java/lang/Math") (by decide +kernel)) (hts (.code Lib.Math.max.name Lib.Math.max.code 2 (some .int)) (by decide +kernel)) (Nat.le_of_ble_eq_true rfl) (Nat.le_of_ble_eq_true rfl) (Nat.le_of_ble_eq_true rfl) (Nat.le_of_ble_eq_true rfl) dX3_pass_345 ?_
                                    refine cy_topv (show _ = Value.int (cy_mx 0 ((((cq_ln (cq_p5 S c) c i) 10) ((8 * c) + i)) - 1)) from rfl) ?_
                                    refine cy_iast hC (10) (by decide) hW 0 (i := ((8 * c) + i)) (rfl) rfl (by omega) (by decide) (upd ((cq_ln (cq_p5 S c) c i) 10) ((8 * c) + i) (cy_mx 0 ((((cq_ln (cq_p5 S c) c i) 10) ((8 * c) + i)) - 1))) rfl (S' := (va_up (cq_ln (cq_p5 S c) c i) 10 (upd ((cq_ln (cq_p5 S c) c i) 10) ((8 * c) + i) (cy_mx 0 ((((cq_ln (cq_p5 S c) c i) 10) ((8 * c) + i)) - 1))))) rfl dX3_pass_348 (fun H locs hW => ?_)
                                    refine lv_iinc (v := nI (i + 1)) (lv' := [(7, .int (nI (i + 1))), (5, .int ((cq_p3 S c).2)), (0, .ref (ad 0)), (1, .int (nI c)), (2, .int x)]) hx hb dX3_pass_349 hl (k := 0) rfl (nI_1 i) (by decide) rfl (fun ls hl => ?_)
                                    refine lv_goto (tgt := 302) hx hb dX3_pass_352 (by decide) ?_
                                    exact ih_302 (i + 1) (by omega) (by omega) (Or.inr c_316) _ _ hW _ (lv_sub hl [0, 1, 2, 3, 4] rfl)
                            exact L_302 ((cq_hn S c - 0) + 1) 0 (Nat.lt_succ_self _) (Nat.zero_le _) (Or.inl rfl) _ _ hW _ (lv_sub hl [0, 1, 2, 3, 4] rfl)
                          have hW := cy_castS (show (cq_p4 S c) = (cq_p5 S c) from by simp only [cq_p5, c_251, ↓reduceIte]) hW
                          exact L_299   _ _ hW _ (lv_sub hl [1, 2, 3, 4] rfl)
                        · skip
                          refine lv_iconst (v := 0) hx hb dX3_pass_254 (by decide) ?_
                          refine lv_istore (lv' := [(7, .int 0), (6, .int (cq_lf S c)), (5, .int ((cq_p3 S c).2)), (0, .ref (ad 0)), (1, .int (nI c)), (2, .int x)]) hx hb dX3_pass_255 hl (by decide) rfl (fun ls hl => ?_)
                          have L_257 : ∀ (fu : Nat) (k : Nat), 5 - k < fu → (k ≤ 5) → ∀ (H : Heap) (locs : List Loc), cy_W D A s.heap (cy_Mw kI kZ ad (cq_vi (cq_p4 S c) c (cq_lf S c) k) tl) H locs → ∀ (ls : Array Slot), lv_has ls 8 [(7, .int (nI k)), (6, .int (cq_lf S c)), (5, .int ((cq_p3 S c).2)), (0, .ref (ad 0)), (1, .int (nI c)), (2, .int x)] → W p l e rm_X3_pass s m args below meth co H locs 0 0 Q (F0 m 257 ls []) := by
                            intro fu
                            induction fu with
                            | zero => intro k hn; exact absurd hn (Nat.not_lt_zero _)
                            | succ fu ih_257 =>
                              intro k hn_257 hk H locs hW ls hl
                              refine lv_iload hx hb dX3_pass_257 (lv_at hl 0 rfl) ?_
                              refine lv_iconst (v := 5) hx hb dX3_pass_259 (by decide) ?_
                              refine lv_icmp_ge (tgt := 292) hx hb dX3_pass_260 (by decide) (fun c_260 => ?_) (fun c_260 => ?_)
                              · skip
                                have q_260 := cy_le (a := 5) (b := k) (by omega) (by omega) c_260
                                obtain rfl : k = 5 := by omega
                                refine lv_aload_n hx hb dX3_pass_292 rfl (lv_at hl 3 rfl) ?_
                                refine cy_get hC (0) (by decide) hi3 hW (rfl) rfl 19 (by decide) (hts (.fieldLink RX3 51 "CaskYardModel" "air" "[I") (by decide +kernel)) (fun _ h9 => h9) (v := .ref (ad 13)) rfl dX3_pass_293 ?_
                                refine lv_iload_n hx hb dX3_pass_296 rfl (lv_at hl 4 rfl) ?_
                                refine lv_iconst (v := 0) hx hb dX3_pass_297 (by decide) ?_
                                refine cy_iast hC (13) (by decide) hW 0 (i := c) (rfl) rfl (by omega) (by decide) (upd ((cq_vi (cq_p4 S c) c (cq_lf S c) 5) 13) c 0) rfl (S' := (va_up (cq_vi (cq_p4 S c) c (cq_lf S c) 5) 13 (upd ((cq_vi (cq_p4 S c) c (cq_lf S c) 5) 13) c 0))) rfl dX3_pass_298 (fun H locs hW => ?_)
                                have L_299 : ∀ (H : Heap) (locs : List Loc), cy_W D A s.heap (cy_Mw kI kZ ad (cq_p5 S c) tl) H locs → ∀ (ls : Array Slot), lv_has ls 8 [(5, .int ((cq_p3 S c).2)), (0, .ref (ad 0)), (1, .int (nI c)), (2, .int x)] → W p l e rm_X3_pass s m args below meth co H locs 0 0 Q (F0 m 299 ls []) := by
                                  intro   H locs hW ls hl
                                  refine lv_iconst (v := 0) hx hb dX3_pass_299 (by decide) ?_
                                  refine lv_istore (lv' := [(7, .int 0), (5, .int ((cq_p3 S c).2)), (0, .ref (ad 0)), (1, .int (nI c)), (2, .int x)]) hx hb dX3_pass_300 hl (by decide) rfl (fun ls hl => ?_)
                                  have L_302 : ∀ (fu : Nat) (i : Nat), cq_hn S c - i < fu → (i ≤ cq_hn S c) → (i = 0 ∨ x - x / 12 * 12 = 0) → ∀ (H : Heap) (locs : List Loc), cy_W D A s.heap (cy_Mw kI kZ ad (cq_ln (cq_p5 S c) c i) tl) H locs → ∀ (ls : Array Slot), lv_has ls 8 [(7, .int (nI i)), (5, .int ((cq_p3 S c).2)), (0, .ref (ad 0)), (1, .int (nI c)), (2, .int x)] → W p l e rm_X3_pass s m args below meth co H locs 0 0 Q (F0 m 302 ls []) := by
                                    intro fu
                                    induction fu with
                                    | zero => intro i hn; exact absurd hn (Nat.not_lt_zero _)
                                    | succ fu ih_302 =>
                                      intro i hn_302 hi he H locs hW ls hl
                                      have hq5 : cq_ok (cq_ln (cq_p5 S c) c i) := cq_ok_of (by rw [cq_ln_n (by decide), cq_p5_n (by decide) (by decide) (by decide) (by decide)]) (by rw [cq_ln_n (by decide), cq_p5_n (by decide) (by decide) (by decide) (by decide)]) hq
                                      refine lv_iload hx hb dX3_pass_302 (lv_at hl 0 rfl) ?_
                                      refine lv_aload_n hx hb dX3_pass_304 rfl (lv_at hl 2 rfl) ?_
                                      refine lv_iload_n hx hb dX3_pass_305 rfl (lv_at hl 3 rfl) ?_
                                      refine cy_callV (rm := rm_X3_hoopsOf) (As := [.int (nI c)]) (rest := [.int (nI i)]) (q0 := 0) (ci := 3) hC.1 hC.2.1 hC.2.2 hW (c_X3_hoopsOf (c := c) (by omega) hq5) (cwV 1 hts gX3_pass_X3_hoopsOf rfl rfl rfl (by decide +kernel) ⟨Nat.le_of_ble_eq_true rfl, Nat.le_of_ble_eq_true rfl⟩) (cy_w_at (by decide) (rfl)) rfl rfl hl.1 rfl (Nat.le_of_ble_eq_true rfl) dX3_pass_306 ⟨Nat.le_of_ble_eq_true rfl, Nat.le_of_ble_eq_true rfl⟩ (k' := 0) (n' := 0) rfl rfl (fun H locs hW => ?_)
                                      refine cy_topv (show _ = Value.int (nI (cq_hn S c)) from (congrArg (fun z => Value.int (nI z)) (cq_hn_c (by rw [cq_ln_n (by decide), cq_p5_n (by decide) (by decide) (by decide) (by decide)]) (by rw [cq_ln_n (by decide), cq_p5_n (by decide) (by decide) (by decide) (by decide)]) (by rw [cq_ln_n (by decide), cq_p5_n (by decide) (by decide) (by decide) (by decide)])))) ?_
                                      refine lv_icmp_ge (tgt := 355) hx hb dX3_pass_309 (by decide) (fun c_309 => ?_) (fun c_309 => ?_)
                                      · skip
                                        have q_309 := cy_le (a := (cq_hn S c)) (b := i) (by omega) (by omega) c_309
                                        have hW := cy_castS (cq_pc_e he q_309 hi) hW
                                        refine lv_iload hx hb dX3_pass_355 (lv_at hl 1 rfl) ?_
                                        exact hE  _ _ _ _ _ _ (Nat.le_of_ble_eq_true rfl) (Nat.le_of_ble_eq_true rfl) hW dX3_pass_357
                                      · skip
                                        have q_309 := cy_nle (a := (cq_hn S c)) (b := i) (by omega) (by omega) c_309
                                        refine lv_iload_n hx hb dX3_pass_312 rfl (lv_at hl 4 rfl) ?_
                                        refine lv_bipush (v := 12) hx hb dX3_pass_313 (by decide) ?_
                                        refine lv_irem hx hb dX3_pass_315 (by decide) ?_
                                        refine lv_if_ne (tgt := 355) hx hb dX3_pass_316 (by decide) (fun c_316 => ?_) (fun c_316 => ?_)
                                        · skip
                                          have hW := cy_castS (show cq_ln (cq_p5 S c) c i = cq_pc S c x from by unfold cq_pc; rw [if_neg c_316, he.resolve_right c_316]; rfl) hW
                                          refine lv_iload hx hb dX3_pass_355 (lv_at hl 1 rfl) ?_
                                          exact hE  _ _ _ _ _ _ (Nat.le_of_ble_eq_true rfl) (Nat.le_of_ble_eq_true rfl) hW dX3_pass_357
                                        · skip
                                          refine lv_aload_n hx hb dX3_pass_319 rfl (lv_at hl 2 rfl) ?_
                                          refine cy_get hC (0) (by decide) hi3 hW (rfl) rfl 16 (by decide) (hts (.fieldLink RX3 42 "CaskYardModel" "tension" "[I") (by decide +kernel)) (fun _ h9 => h9) (v := .ref (ad 10)) rfl dX3_pass_320 ?_
                                          refine lv_bipush (v := 8) hx hb dX3_pass_323 (by decide) ?_
                                          refine lv_iload_n hx hb dX3_pass_325 rfl (lv_at hl 3 rfl) ?_
                                          refine lv_imul hx hb dX3_pass_326 ?_
                                          refine cy_top (pk_mul 8 c) ?_
                                          refine lv_iload hx hb dX3_pass_327 (lv_at hl 0 rfl) ?_
                                          refine lv_iadd hx hb dX3_pass_329 ?_
                                          refine cy_top (nI_add (8 * c) i) ?_
                                          refine lv_iconst (v := 0) hx hb dX3_pass_330 (by decide) ?_
                                          refine lv_aload_n hx hb dX3_pass_331 rfl (lv_at hl 2 rfl) ?_
                                          refine cy_get hC (0) (by decide) hi3 hW (rfl) rfl 16 (by decide) (hts (.fieldLink RX3 42 "CaskYardModel" "tension" "[I") (by decide +kernel)) (fun _ h9 => h9) (v := .ref (ad 10)) rfl dX3_pass_332 ?_
                                          refine lv_bipush (v := 8) hx hb dX3_pass_335 (by decide) ?_
                                          refine lv_iload_n hx hb dX3_pass_337 rfl (lv_at hl 3 rfl) ?_
                                          refine lv_imul hx hb dX3_pass_338 ?_
                                          refine cy_top (pk_mul 8 c) ?_
                                          refine lv_iload hx hb dX3_pass_339 (lv_at hl 0 rfl) ?_
                                          refine lv_iadd hx hb dX3_pass_341 ?_
                                          refine cy_top (nI_add (8 * c) i) ?_
                                          refine cy_iald hC (10) (by decide) hW 0 (i := ((8 * c) + i)) (rfl) rfl (by omega) (by decide) dX3_pass_342 ?_
                                          refine lv_iconst (v := 1) hx hb dX3_pass_343 (by decide) ?_
                                          refine lv_isub hx hb dX3_pass_344 ?_
                                          refine va_mmax hx hb (hml.trans hl.1.symm) hown (hts (.methodLink RX3 128 Lib.Math.max.name) (by decide +kernel)) (hts (.static Lib.Math.max.name) (by decide +kernel)) (hts (.initialized "java/lang/Math") (by decide +kernel)) (hts (.code Lib.Math.max.name Lib.Math.max.code 2 (some .int)) (by decide +kernel)) (Nat.le_of_ble_eq_true rfl) (Nat.le_of_ble_eq_true rfl) (Nat.le_of_ble_eq_true rfl) (Nat.le_of_ble_eq_true rfl) dX3_pass_345 ?_
                                          refine cy_topv (show _ = Value.int (cy_mx 0 ((((cq_ln (cq_p5 S c) c i) 10) ((8 * c) + i)) - 1)) from rfl) ?_
                                          refine cy_iast hC (10) (by decide) hW 0 (i := ((8 * c) + i)) (rfl) rfl (by omega) (by decide) (upd ((cq_ln (cq_p5 S c) c i) 10) ((8 * c) + i) (cy_mx 0 ((((cq_ln (cq_p5 S c) c i) 10) ((8 * c) + i)) - 1))) rfl (S' := (va_up (cq_ln (cq_p5 S c) c i) 10 (upd ((cq_ln (cq_p5 S c) c i) 10) ((8 * c) + i) (cy_mx 0 ((((cq_ln (cq_p5 S c) c i) 10) ((8 * c) + i)) - 1))))) rfl dX3_pass_348 (fun H locs hW => ?_)
                                          refine lv_iinc (v := nI (i + 1)) (lv' := [(7, .int (nI (i + 1))), (5, .int ((cq_p3 S c).2)), (0, .ref (ad 0)), (1, .int (nI c)), (2, .int x)]) hx hb dX3_pass_349 hl (k := 0) rfl (nI_1 i) (by decide) rfl (fun ls hl => ?_)
                                          refine lv_goto (tgt := 302) hx hb dX3_pass_352 (by decide) ?_
                                          exact ih_302 (i + 1) (by omega) (by omega) (Or.inr c_316) _ _ hW _ (lv_sub hl [0, 1, 2, 3, 4] rfl)
                                  exact L_302 ((cq_hn S c - 0) + 1) 0 (Nat.lt_succ_self _) (Nat.zero_le _) (Or.inl rfl) _ _ hW _ (lv_sub hl [0, 1, 2, 3, 4] rfl)
                                have hW := cy_castS (show (va_up (cq_vi (cq_p4 S c) c (cq_lf S c) 5) 13 (upd ((cq_vi (cq_p4 S c) c (cq_lf S c) 5) 13) c 0)) = (cq_p5 S c) from by simp only [cq_p5, c_251, c_260, ↓reduceIte]) hW
                                exact L_299   _ _ hW _ (lv_sub hl [2, 3, 4, 5] rfl)
                              · skip
                                have q_260 := cy_nle (a := 5) (b := k) (by omega) (by omega) c_260
                                refine lv_aload_n hx hb dX3_pass_263 rfl (lv_at hl 3 rfl) ?_
                                refine cy_get hC (0) (by decide) hi3 hW (rfl) rfl 20 (by decide) (hts (.fieldLink RX3 54 "CaskYardModel" "holds" "[I") (by decide +kernel)) (fun _ h9 => h9) (v := .ref (ad 14)) rfl dX3_pass_264 ?_
                                refine lv_iconst (v := 5) hx hb dX3_pass_267 (by decide) ?_
                                refine lv_iload_n hx hb dX3_pass_268 rfl (lv_at hl 4 rfl) ?_
                                refine lv_imul hx hb dX3_pass_269 ?_
                                refine cy_top (pk_mul 5 c) ?_
                                refine lv_iload hx hb dX3_pass_270 (lv_at hl 0 rfl) ?_
                                refine lv_iadd hx hb dX3_pass_272 ?_
                                refine cy_top (nI_add (5 * c) k) ?_
                                refine lv_iload hx hb dX3_pass_273 (lv_at hl 0 rfl) ?_
                                refine lv_iconst (v := 4) hx hb dX3_pass_275 (by decide) ?_
                                refine lv_icmp_ne (tgt := 284) hx hb dX3_pass_276 (by decide) (fun c_276 => ?_) (fun c_276 => ?_)
                                · skip
                                  have q_276 := cy_ne (a := k) (b := 4) (by omega) (by omega) c_276
                                  refine lv_iconst (v := 0) hx hb dX3_pass_284 (by decide) ?_
                                  refine cy_iast hC (14) (by decide) hW 0 (i := ((5 * c) + k)) (rfl) rfl (by omega) (by decide) (upd ((cq_vi (cq_p4 S c) c (cq_lf S c) k) 14) ((5 * c) + k) 0) rfl (S' := (va_up (cq_vi (cq_p4 S c) c (cq_lf S c) k) 14 (upd ((cq_vi (cq_p4 S c) c (cq_lf S c) k) 14) ((5 * c) + k) 0))) rfl dX3_pass_285 (fun H locs hW => ?_)
                                  refine lv_iinc (v := nI (k + 1)) (lv' := [(7, .int (nI (k + 1))), (6, .int (cq_lf S c)), (5, .int ((cq_p3 S c).2)), (0, .ref (ad 0)), (1, .int (nI c)), (2, .int x)]) hx hb dX3_pass_286 hl (k := 0) rfl (nI_1 k) (by decide) rfl (fun ls hl => ?_)
                                  refine lv_goto (tgt := 257) hx hb dX3_pass_289 (by decide) ?_
                                  have hW := cy_castS (show (va_up (cq_vi (cq_p4 S c) c (cq_lf S c) k) 14 (upd ((cq_vi (cq_p4 S c) c (cq_lf S c) k) 14) ((5 * c) + k) 0)) = (cq_vi (cq_p4 S c) c (cq_lf S c) (k + 1)) from by simp only [cq_vi, c_251, c_260, c_276, ↓reduceIte]) hW
                                  exact ih_257 (k + 1) (by omega) (by omega) _ _ hW _ (lv_sub hl [0, 1, 2, 3, 4, 5] rfl)
                                · skip
                                  have q_276 := cy_eq (a := k) (b := 4) (by omega) (by omega) c_276
                                  refine lv_iload hx hb dX3_pass_279 (lv_at hl 1 rfl) ?_
                                  refine lv_goto (tgt := 285) hx hb dX3_pass_281 (by decide) ?_
                                  refine cy_iast hC (14) (by decide) hW 0 (i := ((5 * c) + k)) (rfl) rfl (by omega) (by decide) (upd ((cq_vi (cq_p4 S c) c (cq_lf S c) k) 14) ((5 * c) + k) (cq_lf S c)) rfl (S' := (va_up (cq_vi (cq_p4 S c) c (cq_lf S c) k) 14 (upd ((cq_vi (cq_p4 S c) c (cq_lf S c) k) 14) ((5 * c) + k) (cq_lf S c)))) rfl dX3_pass_285 (fun H locs hW => ?_)
                                  refine lv_iinc (v := nI (k + 1)) (lv' := [(7, .int (nI (k + 1))), (6, .int (cq_lf S c)), (5, .int ((cq_p3 S c).2)), (0, .ref (ad 0)), (1, .int (nI c)), (2, .int x)]) hx hb dX3_pass_286 hl (k := 0) rfl (nI_1 k) (by decide) rfl (fun ls hl => ?_)
                                  refine lv_goto (tgt := 257) hx hb dX3_pass_289 (by decide) ?_
                                  have hW := cy_castS (show (va_up (cq_vi (cq_p4 S c) c (cq_lf S c) k) 14 (upd ((cq_vi (cq_p4 S c) c (cq_lf S c) k) 14) ((5 * c) + k) (cq_lf S c))) = (cq_vi (cq_p4 S c) c (cq_lf S c) (k + 1)) from by simp only [cq_vi, c_251, c_260, c_276, ↓reduceIte]) hW
                                  exact ih_257 (k + 1) (by omega) (by omega) _ _ hW _ (lv_sub hl [0, 1, 2, 3, 4, 5] rfl)
                          exact L_257 ((5 - 0) + 1) 0 (Nat.lt_succ_self _) (by omega) _ _ hW _ (lv_sub hl [0, 1, 2, 3, 4, 5] rfl)
                      have hW := cy_castS (show (va_up (cq_p3 S c).1 13 (upd ((cq_p3 S c).1 13) c ((((cq_p3 S c).1 13) c) + 1))) = (cq_p4 S c) from by simp only [cq_p4, cq_lf, c_207, c_227, ↓reduceIte]) hW
                      exact L_243   _ _ hW _ (lv_sub hl [0, 1, 2, 3, 4] rfl)
                exact L_193   _ _ hW _ (lv_sub hl [1, 3, 4, 5] rfl)
              · skip
                have q_117 := cy_nle (a := ((5 * c) + 5)) (b := (5 * c + i)) (by omega) (by omega) c_117
                refine lv_aload_n hx hb dX3_pass_120 rfl (lv_at hl 3 rfl) ?_
                refine cy_get hC (0) (by decide) hi3 hW (rfl) rfl 20 (by decide) (hts (.fieldLink RX3 54 "CaskYardModel" "holds" "[I") (by decide +kernel)) (fun _ h9 => h9) (v := .ref (ad 14)) rfl dX3_pass_121 ?_
                refine lv_iload hx hb dX3_pass_124 (lv_at hl 2 rfl) ?_
                refine cy_iald hC (14) (by decide) hW 0 (i := (5 * c + i)) (rfl) rfl (by omega) (by decide) dX3_pass_126 ?_
                refine lv_if_ne (tgt := 134) hx hb dX3_pass_127 (by decide) (fun c_127 => ?_) (fun c_127 => ?_)
                · skip
                  refine lv_aload_n hx hb dX3_pass_134 rfl (lv_at hl 3 rfl) ?_
                  refine cy_get hC (0) (by decide) hi3 hW (rfl) rfl 20 (by decide) (hts (.fieldLink RX3 54 "CaskYardModel" "holds" "[I") (by decide +kernel)) (fun _ h9 => h9) (v := .ref (ad 14)) rfl dX3_pass_135 ?_
                  refine lv_iload hx hb dX3_pass_138 (lv_at hl 2 rfl) ?_
                  refine cy_iald hC (14) (by decide) hW 0 (i := (5 * c + i)) (rfl) rfl (by omega) (by decide) dX3_pass_140 ?_
                  refine lv_i2l hx hb dX3_pass_141 rfl ?_
                  refine lv_lconst (v := 1) hx hb dX3_pass_142 rfl ?_
                  refine lv_aload_n hx hb dX3_pass_143 rfl (lv_at hl 3 rfl) ?_
                  refine cy_get hC (0) (by decide) hi3 hW (rfl) rfl 20 (by decide) (hts (.fieldLink RX3 54 "CaskYardModel" "holds" "[I") (by decide +kernel)) (fun _ h9 => h9) (v := .ref (ad 14)) rfl dX3_pass_144 ?_
                  refine lv_iload hx hb dX3_pass_147 (lv_at hl 2 rfl) ?_
                  refine cy_iald hC (14) (by decide) hW 0 (i := (5 * c + i)) (rfl) rfl (by omega) (by decide) dX3_pass_149 ?_
                  refine lv_i2l hx hb dX3_pass_150 rfl ?_
                  refine lv_iload hx hb dX3_pass_151 (lv_at hl 0 rfl) ?_
                  refine lv_i2l hx hb dX3_pass_153 rfl ?_
                  refine lv_lmul hx hb dX3_pass_154 ?_
                  refine lv_ldc2 (v := 1000) hx hb hown (hts (.constantLong RX3 144 1000) (by decide +kernel)) dX3_pass_155 ?_
                  refine lv_ldiv hx hb dX3_pass_158 (by decide) ?_
                  refine va_mmax_long hx hb (hml.trans hl.1.symm) hown (hts (.methodLink RX3 146 Lib.MathLoose.max_long.x) (by decide +kernel)) (hts (.static Lib.MathLoose.max_long.x) (by decide +kernel)) (hts (.initialized "java/lang/Math") (by decide +kernel)) (hts (.code Lib.MathLoose.max_long.x Lib.MathLoose.max_long.code 4 (some .long)) (by decide +kernel)) (Nat.le_of_ble_eq_true rfl) (Nat.le_of_ble_eq_true rfl) (Nat.le_of_ble_eq_true rfl) (Nat.le_of_ble_eq_true rfl) dX3_pass_159 ?_
                  refine cy_topv (show _ = Value.long (cy_mxL 1 ((((((cq_lo (cq_p2 S c) c (cq_by S c) i).1 14) (5 * c + i)).toInt64) * ((cq_by S c).toInt64)) / 1000)) from rfl) ?_
                  refine va_mmin_long hx hb (hml.trans hl.1.symm) hown (hts (.methodLink RX3 149 Lib.MathLoose.min_long.x) (by decide +kernel)) (hts (.static Lib.MathLoose.min_long.x) (by decide +kernel)) (hts (.initialized "java/lang/Math") (by decide +kernel)) (hts (.code Lib.MathLoose.min_long.x Lib.MathLoose.min_long.code 4 (some .long)) (by decide +kernel)) (Nat.le_of_ble_eq_true rfl) (Nat.le_of_ble_eq_true rfl) (Nat.le_of_ble_eq_true rfl) (Nat.le_of_ble_eq_true rfl) dX3_pass_162 ?_
                  refine cy_topv (show _ = Value.long (cy_mnL ((((cq_lo (cq_p2 S c) c (cq_by S c) i).1 14) (5 * c + i)).toInt64) (cy_mxL 1 ((((((cq_lo (cq_p2 S c) c (cq_by S c) i).1 14) (5 * c + i)).toInt64) * ((cq_by S c).toInt64)) / 1000))) from rfl) ?_
                  refine lv_l2i hx hb dX3_pass_165 rfl ?_
                  refine lv_istore (lv' := [(7, .int ((cy_mnL ((((cq_lo (cq_p2 S c) c (cq_by S c) i).1 14) (5 * c + i)).toInt64) (cy_mxL 1 ((((((cq_lo (cq_p2 S c) c (cq_by S c) i).1 14) (5 * c + i)).toInt64) * ((cq_by S c).toInt64)) / 1000))).toInt32)), (4, .int (cq_by S c)), (5, .int ((cq_lo (cq_p2 S c) c (cq_by S c) i).2)), (6, .int (nI (5 * c + i))), (0, .ref (ad 0)), (1, .int (nI c)), (2, .int x)]) hx hb dX3_pass_166 hl (by decide) rfl (fun ls hl => ?_)
                  refine lv_aload_n hx hb dX3_pass_168 rfl (lv_at hl 4 rfl) ?_
                  refine cy_get hC (0) (by decide) hi3 hW (rfl) rfl 20 (by decide) (hts (.fieldLink RX3 54 "CaskYardModel" "holds" "[I") (by decide +kernel)) (fun _ h9 => h9) (v := .ref (ad 14)) rfl dX3_pass_169 ?_
                  refine lv_iload hx hb dX3_pass_172 (lv_at hl 3 rfl) ?_
                  refine lv_dup2_11 hx hb dX3_pass_174 rfl rfl ?_
                  refine cy_iald hC (14) (by decide) hW 0 (i := (5 * c + i)) (rfl) rfl (by omega) (by decide) dX3_pass_175 ?_
                  refine lv_iload hx hb dX3_pass_176 (lv_at hl 0 rfl) ?_
                  refine lv_isub hx hb dX3_pass_178 ?_
                  refine cy_iast hC (14) (by decide) hW 0 (i := (5 * c + i)) (rfl) rfl (by omega) (by decide) (upd ((cq_lo (cq_p2 S c) c (cq_by S c) i).1 14) (5 * c + i) ((((cq_lo (cq_p2 S c) c (cq_by S c) i).1 14) (5 * c + i)) - ((cy_mnL ((((cq_lo (cq_p2 S c) c (cq_by S c) i).1 14) (5 * c + i)).toInt64) (cy_mxL 1 ((((((cq_lo (cq_p2 S c) c (cq_by S c) i).1 14) (5 * c + i)).toInt64) * ((cq_by S c).toInt64)) / 1000))).toInt32))) rfl (S' := (va_up (cq_lo (cq_p2 S c) c (cq_by S c) i).1 14 (upd ((cq_lo (cq_p2 S c) c (cq_by S c) i).1 14) (5 * c + i) ((((cq_lo (cq_p2 S c) c (cq_by S c) i).1 14) (5 * c + i)) - ((cy_mnL ((((cq_lo (cq_p2 S c) c (cq_by S c) i).1 14) (5 * c + i)).toInt64) (cy_mxL 1 ((((((cq_lo (cq_p2 S c) c (cq_by S c) i).1 14) (5 * c + i)).toInt64) * ((cq_by S c).toInt64)) / 1000))).toInt32))))) rfl dX3_pass_179 (fun H locs hW => ?_)
                  refine lv_iload hx hb dX3_pass_180 (lv_at hl 2 rfl) ?_
                  refine lv_iload hx hb dX3_pass_182 (lv_at hl 0 rfl) ?_
                  refine lv_iadd hx hb dX3_pass_184 ?_
                  refine lv_istore (lv' := [(5, .int (((cq_lo (cq_p2 S c) c (cq_by S c) i).2) + ((cy_mnL ((((cq_lo (cq_p2 S c) c (cq_by S c) i).1 14) (5 * c + i)).toInt64) (cy_mxL 1 ((((((cq_lo (cq_p2 S c) c (cq_by S c) i).1 14) (5 * c + i)).toInt64) * ((cq_by S c).toInt64)) / 1000))).toInt32))), (7, .int ((cy_mnL ((((cq_lo (cq_p2 S c) c (cq_by S c) i).1 14) (5 * c + i)).toInt64) (cy_mxL 1 ((((((cq_lo (cq_p2 S c) c (cq_by S c) i).1 14) (5 * c + i)).toInt64) * ((cq_by S c).toInt64)) / 1000))).toInt32)), (4, .int (cq_by S c)), (6, .int (nI (5 * c + i))), (0, .ref (ad 0)), (1, .int (nI c)), (2, .int x)]) hx hb dX3_pass_185 hl (by decide) rfl (fun ls hl => ?_)
                  refine lv_iinc (v := nI (5 * c + i + 1)) (lv' := [(6, .int (nI (5 * c + i + 1))), (5, .int (((cq_lo (cq_p2 S c) c (cq_by S c) i).2) + ((cy_mnL ((((cq_lo (cq_p2 S c) c (cq_by S c) i).1 14) (5 * c + i)).toInt64) (cy_mxL 1 ((((((cq_lo (cq_p2 S c) c (cq_by S c) i).1 14) (5 * c + i)).toInt64) * ((cq_by S c).toInt64)) / 1000))).toInt32))), (7, .int ((cy_mnL ((((cq_lo (cq_p2 S c) c (cq_by S c) i).1 14) (5 * c + i)).toInt64) (cy_mxL 1 ((((((cq_lo (cq_p2 S c) c (cq_by S c) i).1 14) (5 * c + i)).toInt64) * ((cq_by S c).toInt64)) / 1000))).toInt32)), (4, .int (cq_by S c)), (0, .ref (ad 0)), (1, .int (nI c)), (2, .int x)]) hx hb dX3_pass_187 hl (k := 3) rfl (nI_1 (5 * c + i)) (by decide) rfl (fun ls hl => ?_)
                  refine lv_goto (tgt := 110) hx hb dX3_pass_190 (by decide) ?_
                  rw [show ((cq_lo (cq_p2 S c) c (cq_by S c) i).2) + ((cy_mnL ((((cq_lo (cq_p2 S c) c (cq_by S c) i).1 14) (5 * c + i)).toInt64) (cy_mxL 1 ((((((cq_lo (cq_p2 S c) c (cq_by S c) i).1 14) (5 * c + i)).toInt64) * ((cq_by S c).toInt64)) / 1000))).toInt32) = (cq_lo (cq_p2 S c) c (cq_by S c) (i + 1)).2 from by simp only [cq_lo, cq_ow, cy_ls, c_117, c_127, ↓reduceIte]] at hl
                  have hW := cy_castS (show (va_up (cq_lo (cq_p2 S c) c (cq_by S c) i).1 14 (upd ((cq_lo (cq_p2 S c) c (cq_by S c) i).1 14) (5 * c + i) ((((cq_lo (cq_p2 S c) c (cq_by S c) i).1 14) (5 * c + i)) - ((cy_mnL ((((cq_lo (cq_p2 S c) c (cq_by S c) i).1 14) (5 * c + i)).toInt64) (cy_mxL 1 ((((((cq_lo (cq_p2 S c) c (cq_by S c) i).1 14) (5 * c + i)).toInt64) * ((cq_by S c).toInt64)) / 1000))).toInt32)))) = (cq_lo (cq_p2 S c) c (cq_by S c) (i + 1)).1 from by simp only [cq_lo, cq_ow, cy_ls, c_117, c_127, ↓reduceIte]) hW
                  exact ih_110 (i + 1) (by omega) (by omega) _ _ hW _ (lv_sub hl [3, 1, 0, 4, 5, 6] rfl)
                · skip
                  refine lv_iconst (v := 0) hx hb dX3_pass_130 (by decide) ?_
                  refine lv_goto (tgt := 166) hx hb dX3_pass_131 (by decide) ?_
                  refine lv_istore (lv' := [(7, .int 0), (4, .int (cq_by S c)), (5, .int ((cq_lo (cq_p2 S c) c (cq_by S c) i).2)), (6, .int (nI (5 * c + i))), (0, .ref (ad 0)), (1, .int (nI c)), (2, .int x)]) hx hb dX3_pass_166 hl (by decide) rfl (fun ls hl => ?_)
                  refine lv_aload_n hx hb dX3_pass_168 rfl (lv_at hl 4 rfl) ?_
                  refine cy_get hC (0) (by decide) hi3 hW (rfl) rfl 20 (by decide) (hts (.fieldLink RX3 54 "CaskYardModel" "holds" "[I") (by decide +kernel)) (fun _ h9 => h9) (v := .ref (ad 14)) rfl dX3_pass_169 ?_
                  refine lv_iload hx hb dX3_pass_172 (lv_at hl 3 rfl) ?_
                  refine lv_dup2_11 hx hb dX3_pass_174 rfl rfl ?_
                  refine cy_iald hC (14) (by decide) hW 0 (i := (5 * c + i)) (rfl) rfl (by omega) (by decide) dX3_pass_175 ?_
                  refine lv_iload hx hb dX3_pass_176 (lv_at hl 0 rfl) ?_
                  refine lv_isub hx hb dX3_pass_178 ?_
                  refine cy_iast hC (14) (by decide) hW 0 (i := (5 * c + i)) (rfl) rfl (by omega) (by decide) (upd ((cq_lo (cq_p2 S c) c (cq_by S c) i).1 14) (5 * c + i) ((((cq_lo (cq_p2 S c) c (cq_by S c) i).1 14) (5 * c + i)) - 0)) rfl (S' := (va_up (cq_lo (cq_p2 S c) c (cq_by S c) i).1 14 (upd ((cq_lo (cq_p2 S c) c (cq_by S c) i).1 14) (5 * c + i) ((((cq_lo (cq_p2 S c) c (cq_by S c) i).1 14) (5 * c + i)) - 0)))) rfl dX3_pass_179 (fun H locs hW => ?_)
                  refine lv_iload hx hb dX3_pass_180 (lv_at hl 2 rfl) ?_
                  refine lv_iload hx hb dX3_pass_182 (lv_at hl 0 rfl) ?_
                  refine lv_iadd hx hb dX3_pass_184 ?_
                  refine lv_istore (lv' := [(5, .int (((cq_lo (cq_p2 S c) c (cq_by S c) i).2) + 0)), (7, .int 0), (4, .int (cq_by S c)), (6, .int (nI (5 * c + i))), (0, .ref (ad 0)), (1, .int (nI c)), (2, .int x)]) hx hb dX3_pass_185 hl (by decide) rfl (fun ls hl => ?_)
                  refine lv_iinc (v := nI (5 * c + i + 1)) (lv' := [(6, .int (nI (5 * c + i + 1))), (5, .int (((cq_lo (cq_p2 S c) c (cq_by S c) i).2) + 0)), (7, .int 0), (4, .int (cq_by S c)), (0, .ref (ad 0)), (1, .int (nI c)), (2, .int x)]) hx hb dX3_pass_187 hl (k := 3) rfl (nI_1 (5 * c + i)) (by decide) rfl (fun ls hl => ?_)
                  refine lv_goto (tgt := 110) hx hb dX3_pass_190 (by decide) ?_
                  rw [show ((cq_lo (cq_p2 S c) c (cq_by S c) i).2) + 0 = (cq_lo (cq_p2 S c) c (cq_by S c) (i + 1)).2 from by simp only [cq_lo, cq_ow, cy_ls, c_117, c_127, ↓reduceIte]] at hl
                  have hW := cy_castS (show (va_up (cq_lo (cq_p2 S c) c (cq_by S c) i).1 14 (upd ((cq_lo (cq_p2 S c) c (cq_by S c) i).1 14) (5 * c + i) ((((cq_lo (cq_p2 S c) c (cq_by S c) i).1 14) (5 * c + i)) - 0))) = (cq_lo (cq_p2 S c) c (cq_by S c) (i + 1)).1 from by simp only [cq_lo, cq_ow, cy_ls, c_117, c_127, ↓reduceIte]) hW
                  exact ih_110 (i + 1) (by omega) (by omega) _ _ hW _ (lv_sub hl [3, 1, 0, 4, 5, 6] rfl)
          exact L_110 ((5 - 0) + 1) 0 (Nat.lt_succ_self _) (by omega) _ _ hW _ (lv_sub hl [2, 1, 0, 3, 4, 5] rfl)
        have hW := cy_castS (show (va_up (cq_p1 S c) 11 (upd ((cq_p1 S c) 11) c (cy_mx 0 ((((cq_p1 S c) 11) c) - 3)))) = (cq_p2 S c) from by simp only [cq_p2, c_56, ↓reduceIte]) hW
        exact L_88   _ _ hW _ (lv_sub hl [1, 2, 3] rfl)
      · skip
        refine lv_bipush (v := 20) hx hb dX3_pass_59 (by decide) ?_
        refine lv_aload_n hx hb dX3_pass_61 rfl (lv_at hl 1 rfl) ?_
        refine cy_get hC (0) (by decide) hi3 hW (rfl) rfl 17 (by decide) (hts (.fieldLink RX3 45 "CaskYardModel" "swelling" "[I") (by decide +kernel)) (fun _ h9 => h9) (v := .ref (ad 11)) rfl dX3_pass_62 ?_
        refine lv_iload_n hx hb dX3_pass_65 rfl (lv_at hl 2 rfl) ?_
        refine cy_iald hC (11) (by decide) hW 0 (i := c) (rfl) rfl (by omega) (by decide) dX3_pass_66 ?_
        refine lv_iconst (v := 5) hx hb dX3_pass_67 (by decide) ?_
        refine lv_iadd hx hb dX3_pass_68 ?_
        refine va_mmin hx hb (hml.trans hl.1.symm) hown (hts (.methodLink RX3 96 Lib.Math.min.name) (by decide +kernel)) (hts (.static Lib.Math.min.name) (by decide +kernel)) (hts (.initialized "java/lang/Math") (by decide +kernel)) (hts (.code Lib.Math.min.name Lib.Math.min.code 2 (some .int)) (by decide +kernel)) (Nat.le_of_ble_eq_true rfl) (Nat.le_of_ble_eq_true rfl) (Nat.le_of_ble_eq_true rfl) (Nat.le_of_ble_eq_true rfl) dX3_pass_69 ?_
        refine cy_topv (show _ = Value.int (cy_mn 20 ((((cq_p1 S c) 11) c) + 5)) from rfl) ?_
        refine lv_goto (tgt := 87) hx hb dX3_pass_72 (by decide) ?_
        refine cy_iast hC (11) (by decide) hW 0 (i := c) (rfl) rfl (by omega) (by decide) (upd ((cq_p1 S c) 11) c (cy_mn 20 ((((cq_p1 S c) 11) c) + 5))) rfl (S' := (va_up (cq_p1 S c) 11 (upd ((cq_p1 S c) 11) c (cy_mn 20 ((((cq_p1 S c) 11) c) + 5))))) rfl dX3_pass_87 (fun H locs hW => ?_)
        have L_88 : ∀ (H : Heap) (locs : List Loc), cy_W D A s.heap (cy_Mw kI kZ ad (cq_p2 S c) tl) H locs → ∀ (ls : Array Slot), lv_has ls 8 [(0, .ref (ad 0)), (1, .int (nI c)), (2, .int x)] → W p l e rm_X3_pass s m args below meth co H locs 0 0 Q (F0 m 88 ls []) := by
          intro   H locs hW ls hl
          refine lv_aload_n hx hb dX3_pass_88 rfl (lv_at hl 0 rfl) ?_
          refine lv_iload_n hx hb dX3_pass_89 rfl (lv_at hl 1 rfl) ?_
          refine cy_callV (rm := rm_X3_leak) (As := [.int (nI c)]) (rest := []) (q0 := 0) (ci := 3) hC.1 hC.2.1 hC.2.2 hW (c_X3_leak (c := c) (by omega) hq2) (cwV 1 hts gX3_pass_X3_leak rfl rfl rfl (by decide +kernel) ⟨Nat.le_of_ble_eq_true rfl, Nat.le_of_ble_eq_true rfl⟩) (cy_w_at (by decide) (rfl)) rfl rfl hl.1 rfl (Nat.le_of_ble_eq_true rfl) dX3_pass_90 ⟨Nat.le_of_ble_eq_true rfl, Nat.le_of_ble_eq_true rfl⟩ (k' := 0) (n' := 0) rfl rfl (fun H locs hW => ?_)
          refine lv_iconst (v := 3) hx hb dX3_pass_93 (by decide) ?_
          refine lv_iadd hx hb dX3_pass_94 ?_
          refine lv_aload_n hx hb dX3_pass_95 rfl (lv_at hl 0 rfl) ?_
          refine cy_get hC (0) (by decide) hi3 hW (rfl) rfl 2 (by decide) (hts (.fieldLink RX3 7 "CaskYardModel" "warmth" "I") (by decide +kernel)) (fun _ h9 => h9) (v := .int (((cq_p2 S c) 0) 2)) rfl dX3_pass_96 ?_
          refine lv_iadd hx hb dX3_pass_99 ?_
          refine lv_istore (lv' := [(4, .int (((cq_lk (cq_p2 S c) c) + 3) + ((cq_p2 S c) 0 2))), (0, .ref (ad 0)), (1, .int (nI c)), (2, .int x)]) hx hb dX3_pass_100 hl (by decide) rfl (fun ls hl => ?_)
          refine lv_iconst (v := 0) hx hb dX3_pass_102 (by decide) ?_
          refine lv_istore (lv' := [(5, .int 0), (4, .int (((cq_lk (cq_p2 S c) c) + 3) + ((cq_p2 S c) 0 2))), (0, .ref (ad 0)), (1, .int (nI c)), (2, .int x)]) hx hb dX3_pass_103 hl (by decide) rfl (fun ls hl => ?_)
          refine lv_iconst (v := 5) hx hb dX3_pass_105 (by decide) ?_
          refine lv_iload_n hx hb dX3_pass_106 rfl (lv_at hl 3 rfl) ?_
          refine lv_imul hx hb dX3_pass_107 ?_
          refine cy_top (pk_mul 5 c) ?_
          refine lv_istore (lv' := [(6, .int (nI (5 * c))), (5, .int 0), (4, .int (((cq_lk (cq_p2 S c) c) + 3) + ((cq_p2 S c) 0 2))), (0, .ref (ad 0)), (1, .int (nI c)), (2, .int x)]) hx hb dX3_pass_108 hl (by decide) rfl (fun ls hl => ?_)
          have L_110 : ∀ (fu : Nat) (i : Nat), 5 - i < fu → (i ≤ 5) → ∀ (H : Heap) (locs : List Loc), cy_W D A s.heap (cy_Mw kI kZ ad (cq_lo (cq_p2 S c) c (cq_by S c) i).1 tl) H locs → ∀ (ls : Array Slot), lv_has ls 8 [(4, .int (cq_by S c)), (5, .int ((cq_lo (cq_p2 S c) c (cq_by S c) i).2)), (6, .int (nI (5 * c + i))), (0, .ref (ad 0)), (1, .int (nI c)), (2, .int x)] → W p l e rm_X3_pass s m args below meth co H locs 0 0 Q (F0 m 110 ls []) := by
            intro fu
            induction fu with
            | zero => intro i hn; exact absurd hn (Nat.not_lt_zero _)
            | succ fu ih_110 =>
              intro i hn_110 hi H locs hW ls hl
              refine lv_iload hx hb dX3_pass_110 (lv_at hl 2 rfl) ?_
              refine lv_iconst (v := 5) hx hb dX3_pass_112 (by decide) ?_
              refine lv_iload_n hx hb dX3_pass_113 rfl (lv_at hl 4 rfl) ?_
              refine lv_imul hx hb dX3_pass_114 ?_
              refine cy_top (pk_mul 5 c) ?_
              refine lv_iconst (v := 5) hx hb dX3_pass_115 (by decide) ?_
              refine lv_iadd hx hb dX3_pass_116 ?_
              refine cy_top (nI_add (5 * c) 5) ?_
              refine lv_icmp_ge (tgt := 193) hx hb dX3_pass_117 (by decide) (fun c_117 => ?_) (fun c_117 => ?_)
              · skip
                have q_117 := cy_le (a := ((5 * c) + 5)) (b := (5 * c + i)) (by omega) (by omega) c_117
                obtain rfl : i = 5 := by omega
                have L_193 : ∀ (H : Heap) (locs : List Loc), cy_W D A s.heap (cy_Mw kI kZ ad (cq_p3 S c).1 tl) H locs → ∀ (ls : Array Slot), lv_has ls 8 [(5, .int ((cq_p3 S c).2)), (0, .ref (ad 0)), (1, .int (nI c)), (2, .int x)] → W p l e rm_X3_pass s m args below meth co H locs 0 0 Q (F0 m 193 ls []) := by
                  intro   H locs hW ls hl
                  refine lv_aload_n hx hb dX3_pass_193 rfl (lv_at hl 1 rfl) ?_
                  refine lv_iload_n hx hb dX3_pass_194 rfl (lv_at hl 2 rfl) ?_
                  refine cy_callV (rm := rm_X3_all) (As := [.int (nI c)]) (rest := []) (q0 := 0) (ci := 3) hC.1 hC.2.1 hC.2.2 hW (c_X3_all (c := c) (by omega)) (cwV 1 hts gX3_pass_X3_all rfl rfl rfl (by decide +kernel) ⟨Nat.le_of_ble_eq_true rfl, Nat.le_of_ble_eq_true rfl⟩) (cy_w_at (by decide) (rfl)) rfl rfl hl.1 rfl (Nat.le_of_ble_eq_true rfl) dX3_pass_195 ⟨Nat.le_of_ble_eq_true rfl, Nat.le_of_ble_eq_true rfl⟩ (k' := 0) (n' := 0) rfl rfl (fun H locs hW => ?_)
                  refine lv_istore (lv' := [(6, .int (cq_al ((cq_p3 S c).1) c)), (5, .int ((cq_p3 S c).2)), (0, .ref (ad 0)), (1, .int (nI c)), (2, .int x)]) hx hb dX3_pass_198 hl (by decide) rfl (fun ls hl => ?_)
                  refine lv_aload_n hx hb dX3_pass_200 rfl (lv_at hl 2 rfl) ?_
                  refine cy_get hC (0) (by decide) hi3 hW (rfl) rfl 19 (by decide) (hts (.fieldLink RX3 51 "CaskYardModel" "air" "[I") (by decide +kernel)) (fun _ h9 => h9) (v := .ref (ad 13)) rfl dX3_pass_201 ?_
                  refine lv_iload_n hx hb dX3_pass_204 rfl (lv_at hl 3 rfl) ?_
                  refine lv_iload hx hb dX3_pass_205 (lv_at hl 0 rfl) ?_
                  refine lv_if_le (tgt := 241) hx hb dX3_pass_207 (by decide) (fun c_207 => ?_) (fun c_207 => ?_)
                  · skip
                    refine lv_iconst (v := 0) hx hb dX3_pass_241 (by decide) ?_
                    refine cy_iast hC (13) (by decide) hW 0 (i := c) (rfl) rfl (by omega) (by decide) (upd ((cq_p3 S c).1 13) c 0) rfl (S' := (va_up (cq_p3 S c).1 13 (upd ((cq_p3 S c).1 13) c 0))) rfl dX3_pass_242 (fun H locs hW => ?_)
                    have L_243 : ∀ (H : Heap) (locs : List Loc), cy_W D A s.heap (cy_Mw kI kZ ad (cq_p4 S c) tl) H locs → ∀ (ls : Array Slot), lv_has ls 8 [(6, .int (cq_lf S c)), (5, .int ((cq_p3 S c).2)), (0, .ref (ad 0)), (1, .int (nI c)), (2, .int x)] → W p l e rm_X3_pass s m args below meth co H locs 0 0 Q (F0 m 243 ls []) := by
                      intro   H locs hW ls hl
                      refine lv_aload_n hx hb dX3_pass_243 rfl (lv_at hl 2 rfl) ?_
                      refine cy_get hC (0) (by decide) hi3 hW (rfl) rfl 19 (by decide) (hts (.fieldLink RX3 51 "CaskYardModel" "air" "[I") (by decide +kernel)) (fun _ h9 => h9) (v := .ref (ad 13)) rfl dX3_pass_244 ?_
                      refine lv_iload_n hx hb dX3_pass_247 rfl (lv_at hl 3 rfl) ?_
                      refine cy_iald hC (13) (by decide) hW 0 (i := c) (rfl) rfl (by omega) (by decide) dX3_pass_248 ?_
                      refine lv_bipush (v := 6) hx hb dX3_pass_249 (by decide) ?_
                      refine lv_icmp_ne (tgt := 299) hx hb dX3_pass_251 (by decide) (fun c_251 => ?_) (fun c_251 => ?_)
                      · skip
                        have L_299 : ∀ (H : Heap) (locs : List Loc), cy_W D A s.heap (cy_Mw kI kZ ad (cq_p5 S c) tl) H locs → ∀ (ls : Array Slot), lv_has ls 8 [(5, .int ((cq_p3 S c).2)), (0, .ref (ad 0)), (1, .int (nI c)), (2, .int x)] → W p l e rm_X3_pass s m args below meth co H locs 0 0 Q (F0 m 299 ls []) := by
                          intro   H locs hW ls hl
                          refine lv_iconst (v := 0) hx hb dX3_pass_299 (by decide) ?_
                          refine lv_istore (lv' := [(7, .int 0), (5, .int ((cq_p3 S c).2)), (0, .ref (ad 0)), (1, .int (nI c)), (2, .int x)]) hx hb dX3_pass_300 hl (by decide) rfl (fun ls hl => ?_)
                          have L_302 : ∀ (fu : Nat) (i : Nat), cq_hn S c - i < fu → (i ≤ cq_hn S c) → (i = 0 ∨ x - x / 12 * 12 = 0) → ∀ (H : Heap) (locs : List Loc), cy_W D A s.heap (cy_Mw kI kZ ad (cq_ln (cq_p5 S c) c i) tl) H locs → ∀ (ls : Array Slot), lv_has ls 8 [(7, .int (nI i)), (5, .int ((cq_p3 S c).2)), (0, .ref (ad 0)), (1, .int (nI c)), (2, .int x)] → W p l e rm_X3_pass s m args below meth co H locs 0 0 Q (F0 m 302 ls []) := by
                            intro fu
                            induction fu with
                            | zero => intro i hn; exact absurd hn (Nat.not_lt_zero _)
                            | succ fu ih_302 =>
                              intro i hn_302 hi he H locs hW ls hl
                              have hq5 : cq_ok (cq_ln (cq_p5 S c) c i) := cq_ok_of (by rw [cq_ln_n (by decide), cq_p5_n (by decide) (by decide) (by decide) (by decide)]) (by rw [cq_ln_n (by decide), cq_p5_n (by decide) (by decide) (by decide) (by decide)]) hq
                              refine lv_iload hx hb dX3_pass_302 (lv_at hl 0 rfl) ?_
                              refine lv_aload_n hx hb dX3_pass_304 rfl (lv_at hl 2 rfl) ?_
                              refine lv_iload_n hx hb dX3_pass_305 rfl (lv_at hl 3 rfl) ?_
                              refine cy_callV (rm := rm_X3_hoopsOf) (As := [.int (nI c)]) (rest := [.int (nI i)]) (q0 := 0) (ci := 3) hC.1 hC.2.1 hC.2.2 hW (c_X3_hoopsOf (c := c) (by omega) hq5) (cwV 1 hts gX3_pass_X3_hoopsOf rfl rfl rfl (by decide +kernel) ⟨Nat.le_of_ble_eq_true rfl, Nat.le_of_ble_eq_true rfl⟩) (cy_w_at (by decide) (rfl)) rfl rfl hl.1 rfl (Nat.le_of_ble_eq_true rfl) dX3_pass_306 ⟨Nat.le_of_ble_eq_true rfl, Nat.le_of_ble_eq_true rfl⟩ (k' := 0) (n' := 0) rfl rfl (fun H locs hW => ?_)
                              refine cy_topv (show _ = Value.int (nI (cq_hn S c)) from (congrArg (fun z => Value.int (nI z)) (cq_hn_c (by rw [cq_ln_n (by decide), cq_p5_n (by decide) (by decide) (by decide) (by decide)]) (by rw [cq_ln_n (by decide), cq_p5_n (by decide) (by decide) (by decide) (by decide)]) (by rw [cq_ln_n (by decide), cq_p5_n (by decide) (by decide) (by decide) (by decide)])))) ?_
                              refine lv_icmp_ge (tgt := 355) hx hb dX3_pass_309 (by decide) (fun c_309 => ?_) (fun c_309 => ?_)
                              · skip
                                have q_309 := cy_le (a := (cq_hn S c)) (b := i) (by omega) (by omega) c_309
                                have hW := cy_castS (cq_pc_e he q_309 hi) hW
                                refine lv_iload hx hb dX3_pass_355 (lv_at hl 1 rfl) ?_
                                exact hE  _ _ _ _ _ _ (Nat.le_of_ble_eq_true rfl) (Nat.le_of_ble_eq_true rfl) hW dX3_pass_357
                              · skip
                                have q_309 := cy_nle (a := (cq_hn S c)) (b := i) (by omega) (by omega) c_309
                                refine lv_iload_n hx hb dX3_pass_312 rfl (lv_at hl 4 rfl) ?_
                                refine lv_bipush (v := 12) hx hb dX3_pass_313 (by decide) ?_
                                refine lv_irem hx hb dX3_pass_315 (by decide) ?_
                                refine lv_if_ne (tgt := 355) hx hb dX3_pass_316 (by decide) (fun c_316 => ?_) (fun c_316 => ?_)
                                · skip
                                  have hW := cy_castS (show cq_ln (cq_p5 S c) c i = cq_pc S c x from by unfold cq_pc; rw [if_neg c_316, he.resolve_right c_316]; rfl) hW
                                  refine lv_iload hx hb dX3_pass_355 (lv_at hl 1 rfl) ?_
                                  exact hE  _ _ _ _ _ _ (Nat.le_of_ble_eq_true rfl) (Nat.le_of_ble_eq_true rfl) hW dX3_pass_357
                                · skip
                                  refine lv_aload_n hx hb dX3_pass_319 rfl (lv_at hl 2 rfl) ?_
                                  refine cy_get hC (0) (by decide) hi3 hW (rfl) rfl 16 (by decide) (hts (.fieldLink RX3 42 "CaskYardModel" "tension" "[I") (by decide +kernel)) (fun _ h9 => h9) (v := .ref (ad 10)) rfl dX3_pass_320 ?_
                                  refine lv_bipush (v := 8) hx hb dX3_pass_323 (by decide) ?_
                                  refine lv_iload_n hx hb dX3_pass_325 rfl (lv_at hl 3 rfl) ?_
                                  refine lv_imul hx hb dX3_pass_326 ?_
                                  refine cy_top (pk_mul 8 c) ?_
                                  refine lv_iload hx hb dX3_pass_327 (lv_at hl 0 rfl) ?_
                                  refine lv_iadd hx hb dX3_pass_329 ?_
                                  refine cy_top (nI_add (8 * c) i) ?_
                                  refine lv_iconst (v := 0) hx hb dX3_pass_330 (by decide) ?_
                                  refine lv_aload_n hx hb dX3_pass_331 rfl (lv_at hl 2 rfl) ?_
                                  refine cy_get hC (0) (by decide) hi3 hW (rfl) rfl 16 (by decide) (hts (.fieldLink RX3 42 "CaskYardModel" "tension" "[I") (by decide +kernel)) (fun _ h9 => h9) (v := .ref (ad 10)) rfl dX3_pass_332 ?_
                                  refine lv_bipush (v := 8) hx hb dX3_pass_335 (by decide) ?_
                                  refine lv_iload_n hx hb dX3_pass_337 rfl (lv_at hl 3 rfl) ?_
                                  refine lv_imul hx hb dX3_pass_338 ?_
                                  refine cy_top (pk_mul 8 c) ?_
                                  refine lv_iload hx hb dX3_pass_339 (lv_at hl 0 rfl) ?_
                                  refine lv_iadd hx hb dX3_pass_341 ?_
                                  refine cy_top (nI_add (8 * c) i) ?_
                                  refine cy_iald hC (10) (by decide) hW 0 (i := ((8 * c) + i)) (rfl) rfl (by omega) (by decide) dX3_pass_342 ?_
                                  refine lv_iconst (v := 1) hx hb dX3_pass_343 (by decide) ?_
                                  refine lv_isub hx hb dX3_pass_344 ?_
                                  refine va_mmax hx hb (hml.trans hl.1.symm) hown (hts (.methodLink RX3 128 Lib.Math.max.name) (by decide +kernel)) (hts (.static Lib.Math.max.name) (by decide +kernel)) (hts (.initialized "java/lang/Math") (by decide +kernel)) (hts (.code Lib.Math.max.name Lib.Math.max.code 2 (some .int)) (by decide +kernel)) (Nat.le_of_ble_eq_true rfl) (Nat.le_of_ble_eq_true rfl) (Nat.le_of_ble_eq_true rfl) (Nat.le_of_ble_eq_true rfl) dX3_pass_345 ?_
                                  refine cy_topv (show _ = Value.int (cy_mx 0 ((((cq_ln (cq_p5 S c) c i) 10) ((8 * c) + i)) - 1)) from rfl) ?_
                                  refine cy_iast hC (10) (by decide) hW 0 (i := ((8 * c) + i)) (rfl) rfl (by omega) (by decide) (upd ((cq_ln (cq_p5 S c) c i) 10) ((8 * c) + i) (cy_mx 0 ((((cq_ln (cq_p5 S c) c i) 10) ((8 * c) + i)) - 1))) rfl (S' := (va_up (cq_ln (cq_p5 S c) c i) 10 (upd ((cq_ln (cq_p5 S c) c i) 10) ((8 * c) + i) (cy_mx 0 ((((cq_ln (cq_p5 S c) c i) 10) ((8 * c) + i)) - 1))))) rfl dX3_pass_348 (fun H locs hW => ?_)
                                  refine lv_iinc (v := nI (i + 1)) (lv' := [(7, .int (nI (i + 1))), (5, .int ((cq_p3 S c).2)), (0, .ref (ad 0)), (1, .int (nI c)), (2, .int x)]) hx hb dX3_pass_349 hl (k := 0) rfl (nI_1 i) (by decide) rfl (fun ls hl => ?_)
                                  refine lv_goto (tgt := 302) hx hb dX3_pass_352 (by decide) ?_
                                  exact ih_302 (i + 1) (by omega) (by omega) (Or.inr c_316) _ _ hW _ (lv_sub hl [0, 1, 2, 3, 4] rfl)
                          exact L_302 ((cq_hn S c - 0) + 1) 0 (Nat.lt_succ_self _) (Nat.zero_le _) (Or.inl rfl) _ _ hW _ (lv_sub hl [0, 1, 2, 3, 4] rfl)
                        have hW := cy_castS (show (cq_p4 S c) = (cq_p5 S c) from by simp only [cq_p5, c_251, ↓reduceIte]) hW
                        exact L_299   _ _ hW _ (lv_sub hl [1, 2, 3, 4] rfl)
                      · skip
                        refine lv_iconst (v := 0) hx hb dX3_pass_254 (by decide) ?_
                        refine lv_istore (lv' := [(7, .int 0), (6, .int (cq_lf S c)), (5, .int ((cq_p3 S c).2)), (0, .ref (ad 0)), (1, .int (nI c)), (2, .int x)]) hx hb dX3_pass_255 hl (by decide) rfl (fun ls hl => ?_)
                        have L_257 : ∀ (fu : Nat) (k : Nat), 5 - k < fu → (k ≤ 5) → ∀ (H : Heap) (locs : List Loc), cy_W D A s.heap (cy_Mw kI kZ ad (cq_vi (cq_p4 S c) c (cq_lf S c) k) tl) H locs → ∀ (ls : Array Slot), lv_has ls 8 [(7, .int (nI k)), (6, .int (cq_lf S c)), (5, .int ((cq_p3 S c).2)), (0, .ref (ad 0)), (1, .int (nI c)), (2, .int x)] → W p l e rm_X3_pass s m args below meth co H locs 0 0 Q (F0 m 257 ls []) := by
                          intro fu
                          induction fu with
                          | zero => intro k hn; exact absurd hn (Nat.not_lt_zero _)
                          | succ fu ih_257 =>
                            intro k hn_257 hk H locs hW ls hl
                            refine lv_iload hx hb dX3_pass_257 (lv_at hl 0 rfl) ?_
                            refine lv_iconst (v := 5) hx hb dX3_pass_259 (by decide) ?_
                            refine lv_icmp_ge (tgt := 292) hx hb dX3_pass_260 (by decide) (fun c_260 => ?_) (fun c_260 => ?_)
                            · skip
                              have q_260 := cy_le (a := 5) (b := k) (by omega) (by omega) c_260
                              obtain rfl : k = 5 := by omega
                              refine lv_aload_n hx hb dX3_pass_292 rfl (lv_at hl 3 rfl) ?_
                              refine cy_get hC (0) (by decide) hi3 hW (rfl) rfl 19 (by decide) (hts (.fieldLink RX3 51 "CaskYardModel" "air" "[I") (by decide +kernel)) (fun _ h9 => h9) (v := .ref (ad 13)) rfl dX3_pass_293 ?_
                              refine lv_iload_n hx hb dX3_pass_296 rfl (lv_at hl 4 rfl) ?_
                              refine lv_iconst (v := 0) hx hb dX3_pass_297 (by decide) ?_
                              refine cy_iast hC (13) (by decide) hW 0 (i := c) (rfl) rfl (by omega) (by decide) (upd ((cq_vi (cq_p4 S c) c (cq_lf S c) 5) 13) c 0) rfl (S' := (va_up (cq_vi (cq_p4 S c) c (cq_lf S c) 5) 13 (upd ((cq_vi (cq_p4 S c) c (cq_lf S c) 5) 13) c 0))) rfl dX3_pass_298 (fun H locs hW => ?_)
                              have L_299 : ∀ (H : Heap) (locs : List Loc), cy_W D A s.heap (cy_Mw kI kZ ad (cq_p5 S c) tl) H locs → ∀ (ls : Array Slot), lv_has ls 8 [(5, .int ((cq_p3 S c).2)), (0, .ref (ad 0)), (1, .int (nI c)), (2, .int x)] → W p l e rm_X3_pass s m args below meth co H locs 0 0 Q (F0 m 299 ls []) := by
                                intro   H locs hW ls hl
                                refine lv_iconst (v := 0) hx hb dX3_pass_299 (by decide) ?_
                                refine lv_istore (lv' := [(7, .int 0), (5, .int ((cq_p3 S c).2)), (0, .ref (ad 0)), (1, .int (nI c)), (2, .int x)]) hx hb dX3_pass_300 hl (by decide) rfl (fun ls hl => ?_)
                                have L_302 : ∀ (fu : Nat) (i : Nat), cq_hn S c - i < fu → (i ≤ cq_hn S c) → (i = 0 ∨ x - x / 12 * 12 = 0) → ∀ (H : Heap) (locs : List Loc), cy_W D A s.heap (cy_Mw kI kZ ad (cq_ln (cq_p5 S c) c i) tl) H locs → ∀ (ls : Array Slot), lv_has ls 8 [(7, .int (nI i)), (5, .int ((cq_p3 S c).2)), (0, .ref (ad 0)), (1, .int (nI c)), (2, .int x)] → W p l e rm_X3_pass s m args below meth co H locs 0 0 Q (F0 m 302 ls []) := by
                                  intro fu
                                  induction fu with
                                  | zero => intro i hn; exact absurd hn (Nat.not_lt_zero _)
                                  | succ fu ih_302 =>
                                    intro i hn_302 hi he H locs hW ls hl
                                    have hq5 : cq_ok (cq_ln (cq_p5 S c) c i) := cq_ok_of (by rw [cq_ln_n (by decide), cq_p5_n (by decide) (by decide) (by decide) (by decide)]) (by rw [cq_ln_n (by decide), cq_p5_n (by decide) (by decide) (by decide) (by decide)]) hq
                                    refine lv_iload hx hb dX3_pass_302 (lv_at hl 0 rfl) ?_
                                    refine lv_aload_n hx hb dX3_pass_304 rfl (lv_at hl 2 rfl) ?_
                                    refine lv_iload_n hx hb dX3_pass_305 rfl (lv_at hl 3 rfl) ?_
                                    refine cy_callV (rm := rm_X3_hoopsOf) (As := [.int (nI c)]) (rest := [.int (nI i)]) (q0 := 0) (ci := 3) hC.1 hC.2.1 hC.2.2 hW (c_X3_hoopsOf (c := c) (by omega) hq5) (cwV 1 hts gX3_pass_X3_hoopsOf rfl rfl rfl (by decide +kernel) ⟨Nat.le_of_ble_eq_true rfl, Nat.le_of_ble_eq_true rfl⟩) (cy_w_at (by decide) (rfl)) rfl rfl hl.1 rfl (Nat.le_of_ble_eq_true rfl) dX3_pass_306 ⟨Nat.le_of_ble_eq_true rfl, Nat.le_of_ble_eq_true rfl⟩ (k' := 0) (n' := 0) rfl rfl (fun H locs hW => ?_)
                                    refine cy_topv (show _ = Value.int (nI (cq_hn S c)) from (congrArg (fun z => Value.int (nI z)) (cq_hn_c (by rw [cq_ln_n (by decide), cq_p5_n (by decide) (by decide) (by decide) (by decide)]) (by rw [cq_ln_n (by decide), cq_p5_n (by decide) (by decide) (by decide) (by decide)]) (by rw [cq_ln_n (by decide), cq_p5_n (by decide) (by decide) (by decide) (by decide)])))) ?_
                                    refine lv_icmp_ge (tgt := 355) hx hb dX3_pass_309 (by decide) (fun c_309 => ?_) (fun c_309 => ?_)
                                    · skip
                                      have q_309 := cy_le (a := (cq_hn S c)) (b := i) (by omega) (by omega) c_309
                                      have hW := cy_castS (cq_pc_e he q_309 hi) hW
                                      refine lv_iload hx hb dX3_pass_355 (lv_at hl 1 rfl) ?_
                                      exact hE  _ _ _ _ _ _ (Nat.le_of_ble_eq_true rfl) (Nat.le_of_ble_eq_true rfl) hW dX3_pass_357
                                    · skip
                                      have q_309 := cy_nle (a := (cq_hn S c)) (b := i) (by omega) (by omega) c_309
                                      refine lv_iload_n hx hb dX3_pass_312 rfl (lv_at hl 4 rfl) ?_
                                      refine lv_bipush (v := 12) hx hb dX3_pass_313 (by decide) ?_
                                      refine lv_irem hx hb dX3_pass_315 (by decide) ?_
                                      refine lv_if_ne (tgt := 355) hx hb dX3_pass_316 (by decide) (fun c_316 => ?_) (fun c_316 => ?_)
                                      · skip
                                        have hW := cy_castS (show cq_ln (cq_p5 S c) c i = cq_pc S c x from by unfold cq_pc; rw [if_neg c_316, he.resolve_right c_316]; rfl) hW
                                        refine lv_iload hx hb dX3_pass_355 (lv_at hl 1 rfl) ?_
                                        exact hE  _ _ _ _ _ _ (Nat.le_of_ble_eq_true rfl) (Nat.le_of_ble_eq_true rfl) hW dX3_pass_357
                                      · skip
                                        refine lv_aload_n hx hb dX3_pass_319 rfl (lv_at hl 2 rfl) ?_
                                        refine cy_get hC (0) (by decide) hi3 hW (rfl) rfl 16 (by decide) (hts (.fieldLink RX3 42 "CaskYardModel" "tension" "[I") (by decide +kernel)) (fun _ h9 => h9) (v := .ref (ad 10)) rfl dX3_pass_320 ?_
                                        refine lv_bipush (v := 8) hx hb dX3_pass_323 (by decide) ?_
                                        refine lv_iload_n hx hb dX3_pass_325 rfl (lv_at hl 3 rfl) ?_
                                        refine lv_imul hx hb dX3_pass_326 ?_
                                        refine cy_top (pk_mul 8 c) ?_
                                        refine lv_iload hx hb dX3_pass_327 (lv_at hl 0 rfl) ?_
                                        refine lv_iadd hx hb dX3_pass_329 ?_
                                        refine cy_top (nI_add (8 * c) i) ?_
                                        refine lv_iconst (v := 0) hx hb dX3_pass_330 (by decide) ?_
                                        refine lv_aload_n hx hb dX3_pass_331 rfl (lv_at hl 2 rfl) ?_
                                        refine cy_get hC (0) (by decide) hi3 hW (rfl) rfl 16 (by decide) (hts (.fieldLink RX3 42 "CaskYardModel" "tension" "[I") (by decide +kernel)) (fun _ h9 => h9) (v := .ref (ad 10)) rfl dX3_pass_332 ?_
                                        refine lv_bipush (v := 8) hx hb dX3_pass_335 (by decide) ?_
                                        refine lv_iload_n hx hb dX3_pass_337 rfl (lv_at hl 3 rfl) ?_
                                        refine lv_imul hx hb dX3_pass_338 ?_
                                        refine cy_top (pk_mul 8 c) ?_
                                        refine lv_iload hx hb dX3_pass_339 (lv_at hl 0 rfl) ?_
                                        refine lv_iadd hx hb dX3_pass_341 ?_
                                        refine cy_top (nI_add (8 * c) i) ?_
                                        refine cy_iald hC (10) (by decide) hW 0 (i := ((8 * c) + i)) (rfl) rfl (by omega) (by decide) dX3_pass_342 ?_
                                        refine lv_iconst (v := 1) hx hb dX3_pass_343 (by decide) ?_
                                        refine lv_isub hx hb dX3_pass_344 ?_
                                        refine va_mmax hx hb (hml.trans hl.1.symm) hown (hts (.methodLink RX3 128 Lib.Math.max.name) (by decide +kernel)) (hts (.static Lib.Math.max.name) (by decide +kernel)) (hts (.initialized "java/lang/Math") (by decide +kernel)) (hts (.code Lib.Math.max.name Lib.Math.max.code 2 (some .int)) (by decide +kernel)) (Nat.le_of_ble_eq_true rfl) (Nat.le_of_ble_eq_true rfl) (Nat.le_of_ble_eq_true rfl) (Nat.le_of_ble_eq_true rfl) dX3_pass_345 ?_
                                        refine cy_topv (show _ = Value.int (cy_mx 0 ((((cq_ln (cq_p5 S c) c i) 10) ((8 * c) + i)) - 1)) from rfl) ?_
                                        refine cy_iast hC (10) (by decide) hW 0 (i := ((8 * c) + i)) (rfl) rfl (by omega) (by decide) (upd ((cq_ln (cq_p5 S c) c i) 10) ((8 * c) + i) (cy_mx 0 ((((cq_ln (cq_p5 S c) c i) 10) ((8 * c) + i)) - 1))) rfl (S' := (va_up (cq_ln (cq_p5 S c) c i) 10 (upd ((cq_ln (cq_p5 S c) c i) 10) ((8 * c) + i) (cy_mx 0 ((((cq_ln (cq_p5 S c) c i) 10) ((8 * c) + i)) - 1))))) rfl dX3_pass_348 (fun H locs hW => ?_)
                                        refine lv_iinc (v := nI (i + 1)) (lv' := [(7, .int (nI (i + 1))), (5, .int ((cq_p3 S c).2)), (0, .ref (ad 0)), (1, .int (nI c)), (2, .int x)]) hx hb dX3_pass_349 hl (k := 0) rfl (nI_1 i) (by decide) rfl (fun ls hl => ?_)
                                        refine lv_goto (tgt := 302) hx hb dX3_pass_352 (by decide) ?_
                                        exact ih_302 (i + 1) (by omega) (by omega) (Or.inr c_316) _ _ hW _ (lv_sub hl [0, 1, 2, 3, 4] rfl)
                                exact L_302 ((cq_hn S c - 0) + 1) 0 (Nat.lt_succ_self _) (Nat.zero_le _) (Or.inl rfl) _ _ hW _ (lv_sub hl [0, 1, 2, 3, 4] rfl)
                              have hW := cy_castS (show (va_up (cq_vi (cq_p4 S c) c (cq_lf S c) 5) 13 (upd ((cq_vi (cq_p4 S c) c (cq_lf S c) 5) 13) c 0)) = (cq_p5 S c) from by simp only [cq_p5, c_251, c_260, ↓reduceIte]) hW
                              exact L_299   _ _ hW _ (lv_sub hl [2, 3, 4, 5] rfl)
                            · skip
                              have q_260 := cy_nle (a := 5) (b := k) (by omega) (by omega) c_260
                              refine lv_aload_n hx hb dX3_pass_263 rfl (lv_at hl 3 rfl) ?_
                              refine cy_get hC (0) (by decide) hi3 hW (rfl) rfl 20 (by decide) (hts (.fieldLink RX3 54 "CaskYardModel" "holds" "[I") (by decide +kernel)) (fun _ h9 => h9) (v := .ref (ad 14)) rfl dX3_pass_264 ?_
                              refine lv_iconst (v := 5) hx hb dX3_pass_267 (by decide) ?_
                              refine lv_iload_n hx hb dX3_pass_268 rfl (lv_at hl 4 rfl) ?_
                              refine lv_imul hx hb dX3_pass_269 ?_
                              refine cy_top (pk_mul 5 c) ?_
                              refine lv_iload hx hb dX3_pass_270 (lv_at hl 0 rfl) ?_
                              refine lv_iadd hx hb dX3_pass_272 ?_
                              refine cy_top (nI_add (5 * c) k) ?_
                              refine lv_iload hx hb dX3_pass_273 (lv_at hl 0 rfl) ?_
                              refine lv_iconst (v := 4) hx hb dX3_pass_275 (by decide) ?_
                              refine lv_icmp_ne (tgt := 284) hx hb dX3_pass_276 (by decide) (fun c_276 => ?_) (fun c_276 => ?_)
                              · skip
                                have q_276 := cy_ne (a := k) (b := 4) (by omega) (by omega) c_276
                                refine lv_iconst (v := 0) hx hb dX3_pass_284 (by decide) ?_
                                refine cy_iast hC (14) (by decide) hW 0 (i := ((5 * c) + k)) (rfl) rfl (by omega) (by decide) (upd ((cq_vi (cq_p4 S c) c (cq_lf S c) k) 14) ((5 * c) + k) 0) rfl (S' := (va_up (cq_vi (cq_p4 S c) c (cq_lf S c) k) 14 (upd ((cq_vi (cq_p4 S c) c (cq_lf S c) k) 14) ((5 * c) + k) 0))) rfl dX3_pass_285 (fun H locs hW => ?_)
                                refine lv_iinc (v := nI (k + 1)) (lv' := [(7, .int (nI (k + 1))), (6, .int (cq_lf S c)), (5, .int ((cq_p3 S c).2)), (0, .ref (ad 0)), (1, .int (nI c)), (2, .int x)]) hx hb dX3_pass_286 hl (k := 0) rfl (nI_1 k) (by decide) rfl (fun ls hl => ?_)
                                refine lv_goto (tgt := 257) hx hb dX3_pass_289 (by decide) ?_
                                have hW := cy_castS (show (va_up (cq_vi (cq_p4 S c) c (cq_lf S c) k) 14 (upd ((cq_vi (cq_p4 S c) c (cq_lf S c) k) 14) ((5 * c) + k) 0)) = (cq_vi (cq_p4 S c) c (cq_lf S c) (k + 1)) from by simp only [cq_vi, c_251, c_260, c_276, ↓reduceIte]) hW
                                exact ih_257 (k + 1) (by omega) (by omega) _ _ hW _ (lv_sub hl [0, 1, 2, 3, 4, 5] rfl)
                              · skip
                                have q_276 := cy_eq (a := k) (b := 4) (by omega) (by omega) c_276
                                refine lv_iload hx hb dX3_pass_279 (lv_at hl 1 rfl) ?_
                                refine lv_goto (tgt := 285) hx hb dX3_pass_281 (by decide) ?_
                                refine cy_iast hC (14) (by decide) hW 0 (i := ((5 * c) + k)) (rfl) rfl (by omega) (by decide) (upd ((cq_vi (cq_p4 S c) c (cq_lf S c) k) 14) ((5 * c) + k) (cq_lf S c)) rfl (S' := (va_up (cq_vi (cq_p4 S c) c (cq_lf S c) k) 14 (upd ((cq_vi (cq_p4 S c) c (cq_lf S c) k) 14) ((5 * c) + k) (cq_lf S c)))) rfl dX3_pass_285 (fun H locs hW => ?_)
                                refine lv_iinc (v := nI (k + 1)) (lv' := [(7, .int (nI (k + 1))), (6, .int (cq_lf S c)), (5, .int ((cq_p3 S c).2)), (0, .ref (ad 0)), (1, .int (nI c)), (2, .int x)]) hx hb dX3_pass_286 hl (k := 0) rfl (nI_1 k) (by decide) rfl (fun ls hl => ?_)
                                refine lv_goto (tgt := 257) hx hb dX3_pass_289 (by decide) ?_
                                have hW := cy_castS (show (va_up (cq_vi (cq_p4 S c) c (cq_lf S c) k) 14 (upd ((cq_vi (cq_p4 S c) c (cq_lf S c) k) 14) ((5 * c) + k) (cq_lf S c))) = (cq_vi (cq_p4 S c) c (cq_lf S c) (k + 1)) from by simp only [cq_vi, c_251, c_260, c_276, ↓reduceIte]) hW
                                exact ih_257 (k + 1) (by omega) (by omega) _ _ hW _ (lv_sub hl [0, 1, 2, 3, 4, 5] rfl)
                        exact L_257 ((5 - 0) + 1) 0 (Nat.lt_succ_self _) (by omega) _ _ hW _ (lv_sub hl [0, 1, 2, 3, 4, 5] rfl)
                    have hW := cy_castS (show (va_up (cq_p3 S c).1 13 (upd ((cq_p3 S c).1 13) c 0)) = (cq_p4 S c) from by simp only [cq_p4, cq_lf, c_207, ↓reduceIte]) hW
                    exact L_243   _ _ hW _ (lv_sub hl [0, 1, 2, 3, 4] rfl)
                  · skip
                    refine lv_iconst (v := 5) hx hb dX3_pass_210 (by decide) ?_
                    refine lv_iload hx hb dX3_pass_211 (lv_at hl 0 rfl) ?_
                    refine lv_imul hx hb dX3_pass_213 ?_
                    refine lv_iconst (v := 4) hx hb dX3_pass_214 (by decide) ?_
                    refine lv_aload_n hx hb dX3_pass_215 rfl (lv_at hl 2 rfl) ?_
                    refine cy_get hC (0) (by decide) hi3 hW (rfl) rfl 10 (by decide) (hts (.fieldLink RX3 26 "CaskYardModel" "room" "[I") (by decide +kernel)) (fun _ h9 => h9) (v := .ref (ad 5)) rfl dX3_pass_216 ?_
                    refine lv_aload_n hx hb dX3_pass_219 rfl (lv_at hl 2 rfl) ?_
                    refine cy_get hC (0) (by decide) hi3 hW (rfl) rfl 13 (by decide) (hts (.fieldLink RX3 32 "CaskYardModel" "sort" "[I") (by decide +kernel)) (fun _ h9 => h9) (v := .ref (ad 7)) rfl dX3_pass_220 ?_
                    refine lv_iload_n hx hb dX3_pass_223 rfl (lv_at hl 3 rfl) ?_
                    refine cy_iald hC (7) (by decide) hW 0 (i := c) (rfl) rfl (by omega) (by decide) dX3_pass_224 ?_
                    refine cy_top (y := nI (cq_so S c)) (by rw [cq_p3_n (by decide) (by decide) (by decide)]; exact (hq.1 c hc).2) ?_
                    refine cy_iald hC (5) (by decide) hW 0 (i := (cq_so S c)) (rfl) rfl (hq.1 c hc).1 (by decide) dX3_pass_225 ?_
                    refine lv_imul hx hb dX3_pass_226 ?_
                    refine lv_icmp_ge (tgt := 241) hx hb dX3_pass_227 (by decide) (fun c_227 => ?_) (fun c_227 => ?_)
                    · skip
                      refine lv_iconst (v := 0) hx hb dX3_pass_241 (by decide) ?_
                      refine cy_iast hC (13) (by decide) hW 0 (i := c) (rfl) rfl (by omega) (by decide) (upd ((cq_p3 S c).1 13) c 0) rfl (S' := (va_up (cq_p3 S c).1 13 (upd ((cq_p3 S c).1 13) c 0))) rfl dX3_pass_242 (fun H locs hW => ?_)
                      have L_243 : ∀ (H : Heap) (locs : List Loc), cy_W D A s.heap (cy_Mw kI kZ ad (cq_p4 S c) tl) H locs → ∀ (ls : Array Slot), lv_has ls 8 [(6, .int (cq_lf S c)), (5, .int ((cq_p3 S c).2)), (0, .ref (ad 0)), (1, .int (nI c)), (2, .int x)] → W p l e rm_X3_pass s m args below meth co H locs 0 0 Q (F0 m 243 ls []) := by
                        intro   H locs hW ls hl
                        refine lv_aload_n hx hb dX3_pass_243 rfl (lv_at hl 2 rfl) ?_
                        refine cy_get hC (0) (by decide) hi3 hW (rfl) rfl 19 (by decide) (hts (.fieldLink RX3 51 "CaskYardModel" "air" "[I") (by decide +kernel)) (fun _ h9 => h9) (v := .ref (ad 13)) rfl dX3_pass_244 ?_
                        refine lv_iload_n hx hb dX3_pass_247 rfl (lv_at hl 3 rfl) ?_
                        refine cy_iald hC (13) (by decide) hW 0 (i := c) (rfl) rfl (by omega) (by decide) dX3_pass_248 ?_
                        refine lv_bipush (v := 6) hx hb dX3_pass_249 (by decide) ?_
                        refine lv_icmp_ne (tgt := 299) hx hb dX3_pass_251 (by decide) (fun c_251 => ?_) (fun c_251 => ?_)
                        · skip
                          have L_299 : ∀ (H : Heap) (locs : List Loc), cy_W D A s.heap (cy_Mw kI kZ ad (cq_p5 S c) tl) H locs → ∀ (ls : Array Slot), lv_has ls 8 [(5, .int ((cq_p3 S c).2)), (0, .ref (ad 0)), (1, .int (nI c)), (2, .int x)] → W p l e rm_X3_pass s m args below meth co H locs 0 0 Q (F0 m 299 ls []) := by
                            intro   H locs hW ls hl
                            refine lv_iconst (v := 0) hx hb dX3_pass_299 (by decide) ?_
                            refine lv_istore (lv' := [(7, .int 0), (5, .int ((cq_p3 S c).2)), (0, .ref (ad 0)), (1, .int (nI c)), (2, .int x)]) hx hb dX3_pass_300 hl (by decide) rfl (fun ls hl => ?_)
                            have L_302 : ∀ (fu : Nat) (i : Nat), cq_hn S c - i < fu → (i ≤ cq_hn S c) → (i = 0 ∨ x - x / 12 * 12 = 0) → ∀ (H : Heap) (locs : List Loc), cy_W D A s.heap (cy_Mw kI kZ ad (cq_ln (cq_p5 S c) c i) tl) H locs → ∀ (ls : Array Slot), lv_has ls 8 [(7, .int (nI i)), (5, .int ((cq_p3 S c).2)), (0, .ref (ad 0)), (1, .int (nI c)), (2, .int x)] → W p l e rm_X3_pass s m args below meth co H locs 0 0 Q (F0 m 302 ls []) := by
                              intro fu
                              induction fu with
                              | zero => intro i hn; exact absurd hn (Nat.not_lt_zero _)
                              | succ fu ih_302 =>
                                intro i hn_302 hi he H locs hW ls hl
                                have hq5 : cq_ok (cq_ln (cq_p5 S c) c i) := cq_ok_of (by rw [cq_ln_n (by decide), cq_p5_n (by decide) (by decide) (by decide) (by decide)]) (by rw [cq_ln_n (by decide), cq_p5_n (by decide) (by decide) (by decide) (by decide)]) hq
                                refine lv_iload hx hb dX3_pass_302 (lv_at hl 0 rfl) ?_
                                refine lv_aload_n hx hb dX3_pass_304 rfl (lv_at hl 2 rfl) ?_
                                refine lv_iload_n hx hb dX3_pass_305 rfl (lv_at hl 3 rfl) ?_
                                refine cy_callV (rm := rm_X3_hoopsOf) (As := [.int (nI c)]) (rest := [.int (nI i)]) (q0 := 0) (ci := 3) hC.1 hC.2.1 hC.2.2 hW (c_X3_hoopsOf (c := c) (by omega) hq5) (cwV 1 hts gX3_pass_X3_hoopsOf rfl rfl rfl (by decide +kernel) ⟨Nat.le_of_ble_eq_true rfl, Nat.le_of_ble_eq_true rfl⟩) (cy_w_at (by decide) (rfl)) rfl rfl hl.1 rfl (Nat.le_of_ble_eq_true rfl) dX3_pass_306 ⟨Nat.le_of_ble_eq_true rfl, Nat.le_of_ble_eq_true rfl⟩ (k' := 0) (n' := 0) rfl rfl (fun H locs hW => ?_)
                                refine cy_topv (show _ = Value.int (nI (cq_hn S c)) from (congrArg (fun z => Value.int (nI z)) (cq_hn_c (by rw [cq_ln_n (by decide), cq_p5_n (by decide) (by decide) (by decide) (by decide)]) (by rw [cq_ln_n (by decide), cq_p5_n (by decide) (by decide) (by decide) (by decide)]) (by rw [cq_ln_n (by decide), cq_p5_n (by decide) (by decide) (by decide) (by decide)])))) ?_
                                refine lv_icmp_ge (tgt := 355) hx hb dX3_pass_309 (by decide) (fun c_309 => ?_) (fun c_309 => ?_)
                                · skip
                                  have q_309 := cy_le (a := (cq_hn S c)) (b := i) (by omega) (by omega) c_309
                                  have hW := cy_castS (cq_pc_e he q_309 hi) hW
                                  refine lv_iload hx hb dX3_pass_355 (lv_at hl 1 rfl) ?_
                                  exact hE  _ _ _ _ _ _ (Nat.le_of_ble_eq_true rfl) (Nat.le_of_ble_eq_true rfl) hW dX3_pass_357
                                · skip
                                  have q_309 := cy_nle (a := (cq_hn S c)) (b := i) (by omega) (by omega) c_309
                                  refine lv_iload_n hx hb dX3_pass_312 rfl (lv_at hl 4 rfl) ?_
                                  refine lv_bipush (v := 12) hx hb dX3_pass_313 (by decide) ?_
                                  refine lv_irem hx hb dX3_pass_315 (by decide) ?_
                                  refine lv_if_ne (tgt := 355) hx hb dX3_pass_316 (by decide) (fun c_316 => ?_) (fun c_316 => ?_)
                                  · skip
                                    have hW := cy_castS (show cq_ln (cq_p5 S c) c i = cq_pc S c x from by unfold cq_pc; rw [if_neg c_316, he.resolve_right c_316]; rfl) hW
                                    refine lv_iload hx hb dX3_pass_355 (lv_at hl 1 rfl) ?_
                                    exact hE  _ _ _ _ _ _ (Nat.le_of_ble_eq_true rfl) (Nat.le_of_ble_eq_true rfl) hW dX3_pass_357
                                  · skip
                                    refine lv_aload_n hx hb dX3_pass_319 rfl (lv_at hl 2 rfl) ?_
                                    refine cy_get hC (0) (by decide) hi3 hW (rfl) rfl 16 (by decide) (hts (.fieldLink RX3 42 "CaskYardModel" "tension" "[I") (by decide +kernel)) (fun _ h9 => h9) (v := .ref (ad 10)) rfl dX3_pass_320 ?_
                                    refine lv_bipush (v := 8) hx hb dX3_pass_323 (by decide) ?_
                                    refine lv_iload_n hx hb dX3_pass_325 rfl (lv_at hl 3 rfl) ?_
                                    refine lv_imul hx hb dX3_pass_326 ?_
                                    refine cy_top (pk_mul 8 c) ?_
                                    refine lv_iload hx hb dX3_pass_327 (lv_at hl 0 rfl) ?_
                                    refine lv_iadd hx hb dX3_pass_329 ?_
                                    refine cy_top (nI_add (8 * c) i) ?_
                                    refine lv_iconst (v := 0) hx hb dX3_pass_330 (by decide) ?_
                                    refine lv_aload_n hx hb dX3_pass_331 rfl (lv_at hl 2 rfl) ?_
                                    refine cy_get hC (0) (by decide) hi3 hW (rfl) rfl 16 (by decide) (hts (.fieldLink RX3 42 "CaskYardModel" "tension" "[I") (by decide +kernel)) (fun _ h9 => h9) (v := .ref (ad 10)) rfl dX3_pass_332 ?_
                                    refine lv_bipush (v := 8) hx hb dX3_pass_335 (by decide) ?_
                                    refine lv_iload_n hx hb dX3_pass_337 rfl (lv_at hl 3 rfl) ?_
                                    refine lv_imul hx hb dX3_pass_338 ?_
                                    refine cy_top (pk_mul 8 c) ?_
                                    refine lv_iload hx hb dX3_pass_339 (lv_at hl 0 rfl) ?_
                                    refine lv_iadd hx hb dX3_pass_341 ?_
                                    refine cy_top (nI_add (8 * c) i) ?_
                                    refine cy_iald hC (10) (by decide) hW 0 (i := ((8 * c) + i)) (rfl) rfl (by omega) (by decide) dX3_pass_342 ?_
                                    refine lv_iconst (v := 1) hx hb dX3_pass_343 (by decide) ?_
                                    refine lv_isub hx hb dX3_pass_344 ?_
                                    refine va_mmax hx hb (hml.trans hl.1.symm) hown (hts (.methodLink RX3 128 Lib.Math.max.name) (by decide +kernel)) (hts (.static Lib.Math.max.name) (by decide +kernel)) (hts (.initialized "java/lang/Math") (by decide +kernel)) (hts (.code Lib.Math.max.name Lib.Math.max.code 2 (some .int)) (by decide +kernel)) (Nat.le_of_ble_eq_true rfl) (Nat.le_of_ble_eq_true rfl) (Nat.le_of_ble_eq_true rfl) (Nat.le_of_ble_eq_true rfl) dX3_pass_345 ?_
                                    refine cy_topv (show _ = Value.int (cy_mx 0 ((((cq_ln (cq_p5 S c) c i) 10) ((8 * c) + i)) - 1)) from rfl) ?_
                                    refine cy_iast hC (10) (by decide) hW 0 (i := ((8 * c) + i)) (rfl) rfl (by omega) (by decide) (upd ((cq_ln (cq_p5 S c) c i) 10) ((8 * c) + i) (cy_mx 0 ((((cq_ln (cq_p5 S c) c i) 10) ((8 * c) + i)) - 1))) rfl (S' := (va_up (cq_ln (cq_p5 S c) c i) 10 (upd ((cq_ln (cq_p5 S c) c i) 10) ((8 * c) + i) (cy_mx 0 ((((cq_ln (cq_p5 S c) c i) 10) ((8 * c) + i)) - 1))))) rfl dX3_pass_348 (fun H locs hW => ?_)
                                    refine lv_iinc (v := nI (i + 1)) (lv' := [(7, .int (nI (i + 1))), (5, .int ((cq_p3 S c).2)), (0, .ref (ad 0)), (1, .int (nI c)), (2, .int x)]) hx hb dX3_pass_349 hl (k := 0) rfl (nI_1 i) (by decide) rfl (fun ls hl => ?_)
                                    refine lv_goto (tgt := 302) hx hb dX3_pass_352 (by decide) ?_
                                    exact ih_302 (i + 1) (by omega) (by omega) (Or.inr c_316) _ _ hW _ (lv_sub hl [0, 1, 2, 3, 4] rfl)
                            exact L_302 ((cq_hn S c - 0) + 1) 0 (Nat.lt_succ_self _) (Nat.zero_le _) (Or.inl rfl) _ _ hW _ (lv_sub hl [0, 1, 2, 3, 4] rfl)
                          have hW := cy_castS (show (cq_p4 S c) = (cq_p5 S c) from by simp only [cq_p5, c_251, ↓reduceIte]) hW
                          exact L_299   _ _ hW _ (lv_sub hl [1, 2, 3, 4] rfl)
                        · skip
                          refine lv_iconst (v := 0) hx hb dX3_pass_254 (by decide) ?_
                          refine lv_istore (lv' := [(7, .int 0), (6, .int (cq_lf S c)), (5, .int ((cq_p3 S c).2)), (0, .ref (ad 0)), (1, .int (nI c)), (2, .int x)]) hx hb dX3_pass_255 hl (by decide) rfl (fun ls hl => ?_)
                          have L_257 : ∀ (fu : Nat) (k : Nat), 5 - k < fu → (k ≤ 5) → ∀ (H : Heap) (locs : List Loc), cy_W D A s.heap (cy_Mw kI kZ ad (cq_vi (cq_p4 S c) c (cq_lf S c) k) tl) H locs → ∀ (ls : Array Slot), lv_has ls 8 [(7, .int (nI k)), (6, .int (cq_lf S c)), (5, .int ((cq_p3 S c).2)), (0, .ref (ad 0)), (1, .int (nI c)), (2, .int x)] → W p l e rm_X3_pass s m args below meth co H locs 0 0 Q (F0 m 257 ls []) := by
                            intro fu
                            induction fu with
                            | zero => intro k hn; exact absurd hn (Nat.not_lt_zero _)
                            | succ fu ih_257 =>
                              intro k hn_257 hk H locs hW ls hl
                              refine lv_iload hx hb dX3_pass_257 (lv_at hl 0 rfl) ?_
                              refine lv_iconst (v := 5) hx hb dX3_pass_259 (by decide) ?_
                              refine lv_icmp_ge (tgt := 292) hx hb dX3_pass_260 (by decide) (fun c_260 => ?_) (fun c_260 => ?_)
                              · skip
                                have q_260 := cy_le (a := 5) (b := k) (by omega) (by omega) c_260
                                obtain rfl : k = 5 := by omega
                                refine lv_aload_n hx hb dX3_pass_292 rfl (lv_at hl 3 rfl) ?_
                                refine cy_get hC (0) (by decide) hi3 hW (rfl) rfl 19 (by decide) (hts (.fieldLink RX3 51 "CaskYardModel" "air" "[I") (by decide +kernel)) (fun _ h9 => h9) (v := .ref (ad 13)) rfl dX3_pass_293 ?_
                                refine lv_iload_n hx hb dX3_pass_296 rfl (lv_at hl 4 rfl) ?_
                                refine lv_iconst (v := 0) hx hb dX3_pass_297 (by decide) ?_
                                refine cy_iast hC (13) (by decide) hW 0 (i := c) (rfl) rfl (by omega) (by decide) (upd ((cq_vi (cq_p4 S c) c (cq_lf S c) 5) 13) c 0) rfl (S' := (va_up (cq_vi (cq_p4 S c) c (cq_lf S c) 5) 13 (upd ((cq_vi (cq_p4 S c) c (cq_lf S c) 5) 13) c 0))) rfl dX3_pass_298 (fun H locs hW => ?_)
                                have L_299 : ∀ (H : Heap) (locs : List Loc), cy_W D A s.heap (cy_Mw kI kZ ad (cq_p5 S c) tl) H locs → ∀ (ls : Array Slot), lv_has ls 8 [(5, .int ((cq_p3 S c).2)), (0, .ref (ad 0)), (1, .int (nI c)), (2, .int x)] → W p l e rm_X3_pass s m args below meth co H locs 0 0 Q (F0 m 299 ls []) := by
                                  intro   H locs hW ls hl
                                  refine lv_iconst (v := 0) hx hb dX3_pass_299 (by decide) ?_
                                  refine lv_istore (lv' := [(7, .int 0), (5, .int ((cq_p3 S c).2)), (0, .ref (ad 0)), (1, .int (nI c)), (2, .int x)]) hx hb dX3_pass_300 hl (by decide) rfl (fun ls hl => ?_)
                                  have L_302 : ∀ (fu : Nat) (i : Nat), cq_hn S c - i < fu → (i ≤ cq_hn S c) → (i = 0 ∨ x - x / 12 * 12 = 0) → ∀ (H : Heap) (locs : List Loc), cy_W D A s.heap (cy_Mw kI kZ ad (cq_ln (cq_p5 S c) c i) tl) H locs → ∀ (ls : Array Slot), lv_has ls 8 [(7, .int (nI i)), (5, .int ((cq_p3 S c).2)), (0, .ref (ad 0)), (1, .int (nI c)), (2, .int x)] → W p l e rm_X3_pass s m args below meth co H locs 0 0 Q (F0 m 302 ls []) := by
                                    intro fu
                                    induction fu with
                                    | zero => intro i hn; exact absurd hn (Nat.not_lt_zero _)
                                    | succ fu ih_302 =>
                                      intro i hn_302 hi he H locs hW ls hl
                                      have hq5 : cq_ok (cq_ln (cq_p5 S c) c i) := cq_ok_of (by rw [cq_ln_n (by decide), cq_p5_n (by decide) (by decide) (by decide) (by decide)]) (by rw [cq_ln_n (by decide), cq_p5_n (by decide) (by decide) (by decide) (by decide)]) hq
                                      refine lv_iload hx hb dX3_pass_302 (lv_at hl 0 rfl) ?_
                                      refine lv_aload_n hx hb dX3_pass_304 rfl (lv_at hl 2 rfl) ?_
                                      refine lv_iload_n hx hb dX3_pass_305 rfl (lv_at hl 3 rfl) ?_
                                      refine cy_callV (rm := rm_X3_hoopsOf) (As := [.int (nI c)]) (rest := [.int (nI i)]) (q0 := 0) (ci := 3) hC.1 hC.2.1 hC.2.2 hW (c_X3_hoopsOf (c := c) (by omega) hq5) (cwV 1 hts gX3_pass_X3_hoopsOf rfl rfl rfl (by decide +kernel) ⟨Nat.le_of_ble_eq_true rfl, Nat.le_of_ble_eq_true rfl⟩) (cy_w_at (by decide) (rfl)) rfl rfl hl.1 rfl (Nat.le_of_ble_eq_true rfl) dX3_pass_306 ⟨Nat.le_of_ble_eq_true rfl, Nat.le_of_ble_eq_true rfl⟩ (k' := 0) (n' := 0) rfl rfl (fun H locs hW => ?_)
                                      refine cy_topv (show _ = Value.int (nI (cq_hn S c)) from (congrArg (fun z => Value.int (nI z)) (cq_hn_c (by rw [cq_ln_n (by decide), cq_p5_n (by decide) (by decide) (by decide) (by decide)]) (by rw [cq_ln_n (by decide), cq_p5_n (by decide) (by decide) (by decide) (by decide)]) (by rw [cq_ln_n (by decide), cq_p5_n (by decide) (by decide) (by decide) (by decide)])))) ?_
                                      refine lv_icmp_ge (tgt := 355) hx hb dX3_pass_309 (by decide) (fun c_309 => ?_) (fun c_309 => ?_)
                                      · skip
                                        have q_309 := cy_le (a := (cq_hn S c)) (b := i) (by omega) (by omega) c_309
                                        have hW := cy_castS (cq_pc_e he q_309 hi) hW
                                        refine lv_iload hx hb dX3_pass_355 (lv_at hl 1 rfl) ?_
                                        exact hE  _ _ _ _ _ _ (Nat.le_of_ble_eq_true rfl) (Nat.le_of_ble_eq_true rfl) hW dX3_pass_357
                                      · skip
                                        have q_309 := cy_nle (a := (cq_hn S c)) (b := i) (by omega) (by omega) c_309
                                        refine lv_iload_n hx hb dX3_pass_312 rfl (lv_at hl 4 rfl) ?_
                                        refine lv_bipush (v := 12) hx hb dX3_pass_313 (by decide) ?_
                                        refine lv_irem hx hb dX3_pass_315 (by decide) ?_
                                        refine lv_if_ne (tgt := 355) hx hb dX3_pass_316 (by decide) (fun c_316 => ?_) (fun c_316 => ?_)
                                        · skip
                                          have hW := cy_castS (show cq_ln (cq_p5 S c) c i = cq_pc S c x from by unfold cq_pc; rw [if_neg c_316, he.resolve_right c_316]; rfl) hW
                                          refine lv_iload hx hb dX3_pass_355 (lv_at hl 1 rfl) ?_
                                          exact hE  _ _ _ _ _ _ (Nat.le_of_ble_eq_true rfl) (Nat.le_of_ble_eq_true rfl) hW dX3_pass_357
                                        · skip
                                          refine lv_aload_n hx hb dX3_pass_319 rfl (lv_at hl 2 rfl) ?_
                                          refine cy_get hC (0) (by decide) hi3 hW (rfl) rfl 16 (by decide) (hts (.fieldLink RX3 42 "CaskYardModel" "tension" "[I") (by decide +kernel)) (fun _ h9 => h9) (v := .ref (ad 10)) rfl dX3_pass_320 ?_
                                          refine lv_bipush (v := 8) hx hb dX3_pass_323 (by decide) ?_
                                          refine lv_iload_n hx hb dX3_pass_325 rfl (lv_at hl 3 rfl) ?_
                                          refine lv_imul hx hb dX3_pass_326 ?_
                                          refine cy_top (pk_mul 8 c) ?_
                                          refine lv_iload hx hb dX3_pass_327 (lv_at hl 0 rfl) ?_
                                          refine lv_iadd hx hb dX3_pass_329 ?_
                                          refine cy_top (nI_add (8 * c) i) ?_
                                          refine lv_iconst (v := 0) hx hb dX3_pass_330 (by decide) ?_
                                          refine lv_aload_n hx hb dX3_pass_331 rfl (lv_at hl 2 rfl) ?_
                                          refine cy_get hC (0) (by decide) hi3 hW (rfl) rfl 16 (by decide) (hts (.fieldLink RX3 42 "CaskYardModel" "tension" "[I") (by decide +kernel)) (fun _ h9 => h9) (v := .ref (ad 10)) rfl dX3_pass_332 ?_
                                          refine lv_bipush (v := 8) hx hb dX3_pass_335 (by decide) ?_
                                          refine lv_iload_n hx hb dX3_pass_337 rfl (lv_at hl 3 rfl) ?_
                                          refine lv_imul hx hb dX3_pass_338 ?_
                                          refine cy_top (pk_mul 8 c) ?_
                                          refine lv_iload hx hb dX3_pass_339 (lv_at hl 0 rfl) ?_
                                          refine lv_iadd hx hb dX3_pass_341 ?_
                                          refine cy_top (nI_add (8 * c) i) ?_
                                          refine cy_iald hC (10) (by decide) hW 0 (i := ((8 * c) + i)) (rfl) rfl (by omega) (by decide) dX3_pass_342 ?_
                                          refine lv_iconst (v := 1) hx hb dX3_pass_343 (by decide) ?_
                                          refine lv_isub hx hb dX3_pass_344 ?_
                                          refine va_mmax hx hb (hml.trans hl.1.symm) hown (hts (.methodLink RX3 128 Lib.Math.max.name) (by decide +kernel)) (hts (.static Lib.Math.max.name) (by decide +kernel)) (hts (.initialized "java/lang/Math") (by decide +kernel)) (hts (.code Lib.Math.max.name Lib.Math.max.code 2 (some .int)) (by decide +kernel)) (Nat.le_of_ble_eq_true rfl) (Nat.le_of_ble_eq_true rfl) (Nat.le_of_ble_eq_true rfl) (Nat.le_of_ble_eq_true rfl) dX3_pass_345 ?_
                                          refine cy_topv (show _ = Value.int (cy_mx 0 ((((cq_ln (cq_p5 S c) c i) 10) ((8 * c) + i)) - 1)) from rfl) ?_
                                          refine cy_iast hC (10) (by decide) hW 0 (i := ((8 * c) + i)) (rfl) rfl (by omega) (by decide) (upd ((cq_ln (cq_p5 S c) c i) 10) ((8 * c) + i) (cy_mx 0 ((((cq_ln (cq_p5 S c) c i) 10) ((8 * c) + i)) - 1))) rfl (S' := (va_up (cq_ln (cq_p5 S c) c i) 10 (upd ((cq_ln (cq_p5 S c) c i) 10) ((8 * c) + i) (cy_mx 0 ((((cq_ln (cq_p5 S c) c i) 10) ((8 * c) + i)) - 1))))) rfl dX3_pass_348 (fun H locs hW => ?_)
                                          refine lv_iinc (v := nI (i + 1)) (lv' := [(7, .int (nI (i + 1))), (5, .int ((cq_p3 S c).2)), (0, .ref (ad 0)), (1, .int (nI c)), (2, .int x)]) hx hb dX3_pass_349 hl (k := 0) rfl (nI_1 i) (by decide) rfl (fun ls hl => ?_)
                                          refine lv_goto (tgt := 302) hx hb dX3_pass_352 (by decide) ?_
                                          exact ih_302 (i + 1) (by omega) (by omega) (Or.inr c_316) _ _ hW _ (lv_sub hl [0, 1, 2, 3, 4] rfl)
                                  exact L_302 ((cq_hn S c - 0) + 1) 0 (Nat.lt_succ_self _) (Nat.zero_le _) (Or.inl rfl) _ _ hW _ (lv_sub hl [0, 1, 2, 3, 4] rfl)
                                have hW := cy_castS (show (va_up (cq_vi (cq_p4 S c) c (cq_lf S c) 5) 13 (upd ((cq_vi (cq_p4 S c) c (cq_lf S c) 5) 13) c 0)) = (cq_p5 S c) from by simp only [cq_p5, c_251, c_260, ↓reduceIte]) hW
                                exact L_299   _ _ hW _ (lv_sub hl [2, 3, 4, 5] rfl)
                              · skip
                                have q_260 := cy_nle (a := 5) (b := k) (by omega) (by omega) c_260
                                refine lv_aload_n hx hb dX3_pass_263 rfl (lv_at hl 3 rfl) ?_
                                refine cy_get hC (0) (by decide) hi3 hW (rfl) rfl 20 (by decide) (hts (.fieldLink RX3 54 "CaskYardModel" "holds" "[I") (by decide +kernel)) (fun _ h9 => h9) (v := .ref (ad 14)) rfl dX3_pass_264 ?_
                                refine lv_iconst (v := 5) hx hb dX3_pass_267 (by decide) ?_
                                refine lv_iload_n hx hb dX3_pass_268 rfl (lv_at hl 4 rfl) ?_
                                refine lv_imul hx hb dX3_pass_269 ?_
                                refine cy_top (pk_mul 5 c) ?_
                                refine lv_iload hx hb dX3_pass_270 (lv_at hl 0 rfl) ?_
                                refine lv_iadd hx hb dX3_pass_272 ?_
                                refine cy_top (nI_add (5 * c) k) ?_
                                refine lv_iload hx hb dX3_pass_273 (lv_at hl 0 rfl) ?_
                                refine lv_iconst (v := 4) hx hb dX3_pass_275 (by decide) ?_
                                refine lv_icmp_ne (tgt := 284) hx hb dX3_pass_276 (by decide) (fun c_276 => ?_) (fun c_276 => ?_)
                                · skip
                                  have q_276 := cy_ne (a := k) (b := 4) (by omega) (by omega) c_276
                                  refine lv_iconst (v := 0) hx hb dX3_pass_284 (by decide) ?_
                                  refine cy_iast hC (14) (by decide) hW 0 (i := ((5 * c) + k)) (rfl) rfl (by omega) (by decide) (upd ((cq_vi (cq_p4 S c) c (cq_lf S c) k) 14) ((5 * c) + k) 0) rfl (S' := (va_up (cq_vi (cq_p4 S c) c (cq_lf S c) k) 14 (upd ((cq_vi (cq_p4 S c) c (cq_lf S c) k) 14) ((5 * c) + k) 0))) rfl dX3_pass_285 (fun H locs hW => ?_)
                                  refine lv_iinc (v := nI (k + 1)) (lv' := [(7, .int (nI (k + 1))), (6, .int (cq_lf S c)), (5, .int ((cq_p3 S c).2)), (0, .ref (ad 0)), (1, .int (nI c)), (2, .int x)]) hx hb dX3_pass_286 hl (k := 0) rfl (nI_1 k) (by decide) rfl (fun ls hl => ?_)
                                  refine lv_goto (tgt := 257) hx hb dX3_pass_289 (by decide) ?_
                                  have hW := cy_castS (show (va_up (cq_vi (cq_p4 S c) c (cq_lf S c) k) 14 (upd ((cq_vi (cq_p4 S c) c (cq_lf S c) k) 14) ((5 * c) + k) 0)) = (cq_vi (cq_p4 S c) c (cq_lf S c) (k + 1)) from by simp only [cq_vi, c_251, c_260, c_276, ↓reduceIte]) hW
                                  exact ih_257 (k + 1) (by omega) (by omega) _ _ hW _ (lv_sub hl [0, 1, 2, 3, 4, 5] rfl)
                                · skip
                                  have q_276 := cy_eq (a := k) (b := 4) (by omega) (by omega) c_276
                                  refine lv_iload hx hb dX3_pass_279 (lv_at hl 1 rfl) ?_
                                  refine lv_goto (tgt := 285) hx hb dX3_pass_281 (by decide) ?_
                                  refine cy_iast hC (14) (by decide) hW 0 (i := ((5 * c) + k)) (rfl) rfl (by omega) (by decide) (upd ((cq_vi (cq_p4 S c) c (cq_lf S c) k) 14) ((5 * c) + k) (cq_lf S c)) rfl (S' := (va_up (cq_vi (cq_p4 S c) c (cq_lf S c) k) 14 (upd ((cq_vi (cq_p4 S c) c (cq_lf S c) k) 14) ((5 * c) + k) (cq_lf S c)))) rfl dX3_pass_285 (fun H locs hW => ?_)
                                  refine lv_iinc (v := nI (k + 1)) (lv' := [(7, .int (nI (k + 1))), (6, .int (cq_lf S c)), (5, .int ((cq_p3 S c).2)), (0, .ref (ad 0)), (1, .int (nI c)), (2, .int x)]) hx hb dX3_pass_286 hl (k := 0) rfl (nI_1 k) (by decide) rfl (fun ls hl => ?_)
                                  refine lv_goto (tgt := 257) hx hb dX3_pass_289 (by decide) ?_
                                  have hW := cy_castS (show (va_up (cq_vi (cq_p4 S c) c (cq_lf S c) k) 14 (upd ((cq_vi (cq_p4 S c) c (cq_lf S c) k) 14) ((5 * c) + k) (cq_lf S c))) = (cq_vi (cq_p4 S c) c (cq_lf S c) (k + 1)) from by simp only [cq_vi, c_251, c_260, c_276, ↓reduceIte]) hW
                                  exact ih_257 (k + 1) (by omega) (by omega) _ _ hW _ (lv_sub hl [0, 1, 2, 3, 4, 5] rfl)
                          exact L_257 ((5 - 0) + 1) 0 (Nat.lt_succ_self _) (by omega) _ _ hW _ (lv_sub hl [0, 1, 2, 3, 4, 5] rfl)
                      have hW := cy_castS (show (va_up (cq_p3 S c).1 13 (upd ((cq_p3 S c).1 13) c 0)) = (cq_p4 S c) from by simp only [cq_p4, cq_lf, c_207, c_227, ↓reduceIte]) hW
                      exact L_243   _ _ hW _ (lv_sub hl [0, 1, 2, 3, 4] rfl)
                    · skip
                      refine lv_aload_n hx hb dX3_pass_230 rfl (lv_at hl 2 rfl) ?_
                      refine cy_get hC (0) (by decide) hi3 hW (rfl) rfl 19 (by decide) (hts (.fieldLink RX3 51 "CaskYardModel" "air" "[I") (by decide +kernel)) (fun _ h9 => h9) (v := .ref (ad 13)) rfl dX3_pass_231 ?_
                      refine lv_iload_n hx hb dX3_pass_234 rfl (lv_at hl 3 rfl) ?_
                      refine cy_iald hC (13) (by decide) hW 0 (i := c) (rfl) rfl (by omega) (by decide) dX3_pass_235 ?_
                      refine lv_iconst (v := 1) hx hb dX3_pass_236 (by decide) ?_
                      refine lv_iadd hx hb dX3_pass_237 ?_
                      refine lv_goto (tgt := 242) hx hb dX3_pass_238 (by decide) ?_
                      refine cy_iast hC (13) (by decide) hW 0 (i := c) (rfl) rfl (by omega) (by decide) (upd ((cq_p3 S c).1 13) c ((((cq_p3 S c).1 13) c) + 1)) rfl (S' := (va_up (cq_p3 S c).1 13 (upd ((cq_p3 S c).1 13) c ((((cq_p3 S c).1 13) c) + 1)))) rfl dX3_pass_242 (fun H locs hW => ?_)
                      have L_243 : ∀ (H : Heap) (locs : List Loc), cy_W D A s.heap (cy_Mw kI kZ ad (cq_p4 S c) tl) H locs → ∀ (ls : Array Slot), lv_has ls 8 [(6, .int (cq_lf S c)), (5, .int ((cq_p3 S c).2)), (0, .ref (ad 0)), (1, .int (nI c)), (2, .int x)] → W p l e rm_X3_pass s m args below meth co H locs 0 0 Q (F0 m 243 ls []) := by
                        intro   H locs hW ls hl
                        refine lv_aload_n hx hb dX3_pass_243 rfl (lv_at hl 2 rfl) ?_
                        refine cy_get hC (0) (by decide) hi3 hW (rfl) rfl 19 (by decide) (hts (.fieldLink RX3 51 "CaskYardModel" "air" "[I") (by decide +kernel)) (fun _ h9 => h9) (v := .ref (ad 13)) rfl dX3_pass_244 ?_
                        refine lv_iload_n hx hb dX3_pass_247 rfl (lv_at hl 3 rfl) ?_
                        refine cy_iald hC (13) (by decide) hW 0 (i := c) (rfl) rfl (by omega) (by decide) dX3_pass_248 ?_
                        refine lv_bipush (v := 6) hx hb dX3_pass_249 (by decide) ?_
                        refine lv_icmp_ne (tgt := 299) hx hb dX3_pass_251 (by decide) (fun c_251 => ?_) (fun c_251 => ?_)
                        · skip
                          have L_299 : ∀ (H : Heap) (locs : List Loc), cy_W D A s.heap (cy_Mw kI kZ ad (cq_p5 S c) tl) H locs → ∀ (ls : Array Slot), lv_has ls 8 [(5, .int ((cq_p3 S c).2)), (0, .ref (ad 0)), (1, .int (nI c)), (2, .int x)] → W p l e rm_X3_pass s m args below meth co H locs 0 0 Q (F0 m 299 ls []) := by
                            intro   H locs hW ls hl
                            refine lv_iconst (v := 0) hx hb dX3_pass_299 (by decide) ?_
                            refine lv_istore (lv' := [(7, .int 0), (5, .int ((cq_p3 S c).2)), (0, .ref (ad 0)), (1, .int (nI c)), (2, .int x)]) hx hb dX3_pass_300 hl (by decide) rfl (fun ls hl => ?_)
                            have L_302 : ∀ (fu : Nat) (i : Nat), cq_hn S c - i < fu → (i ≤ cq_hn S c) → (i = 0 ∨ x - x / 12 * 12 = 0) → ∀ (H : Heap) (locs : List Loc), cy_W D A s.heap (cy_Mw kI kZ ad (cq_ln (cq_p5 S c) c i) tl) H locs → ∀ (ls : Array Slot), lv_has ls 8 [(7, .int (nI i)), (5, .int ((cq_p3 S c).2)), (0, .ref (ad 0)), (1, .int (nI c)), (2, .int x)] → W p l e rm_X3_pass s m args below meth co H locs 0 0 Q (F0 m 302 ls []) := by
                              intro fu
                              induction fu with
                              | zero => intro i hn; exact absurd hn (Nat.not_lt_zero _)
                              | succ fu ih_302 =>
                                intro i hn_302 hi he H locs hW ls hl
                                have hq5 : cq_ok (cq_ln (cq_p5 S c) c i) := cq_ok_of (by rw [cq_ln_n (by decide), cq_p5_n (by decide) (by decide) (by decide) (by decide)]) (by rw [cq_ln_n (by decide), cq_p5_n (by decide) (by decide) (by decide) (by decide)]) hq
                                refine lv_iload hx hb dX3_pass_302 (lv_at hl 0 rfl) ?_
                                refine lv_aload_n hx hb dX3_pass_304 rfl (lv_at hl 2 rfl) ?_
                                refine lv_iload_n hx hb dX3_pass_305 rfl (lv_at hl 3 rfl) ?_
                                refine cy_callV (rm := rm_X3_hoopsOf) (As := [.int (nI c)]) (rest := [.int (nI i)]) (q0 := 0) (ci := 3) hC.1 hC.2.1 hC.2.2 hW (c_X3_hoopsOf (c := c) (by omega) hq5) (cwV 1 hts gX3_pass_X3_hoopsOf rfl rfl rfl (by decide +kernel) ⟨Nat.le_of_ble_eq_true rfl, Nat.le_of_ble_eq_true rfl⟩) (cy_w_at (by decide) (rfl)) rfl rfl hl.1 rfl (Nat.le_of_ble_eq_true rfl) dX3_pass_306 ⟨Nat.le_of_ble_eq_true rfl, Nat.le_of_ble_eq_true rfl⟩ (k' := 0) (n' := 0) rfl rfl (fun H locs hW => ?_)
                                refine cy_topv (show _ = Value.int (nI (cq_hn S c)) from (congrArg (fun z => Value.int (nI z)) (cq_hn_c (by rw [cq_ln_n (by decide), cq_p5_n (by decide) (by decide) (by decide) (by decide)]) (by rw [cq_ln_n (by decide), cq_p5_n (by decide) (by decide) (by decide) (by decide)]) (by rw [cq_ln_n (by decide), cq_p5_n (by decide) (by decide) (by decide) (by decide)])))) ?_
                                refine lv_icmp_ge (tgt := 355) hx hb dX3_pass_309 (by decide) (fun c_309 => ?_) (fun c_309 => ?_)
                                · skip
                                  have q_309 := cy_le (a := (cq_hn S c)) (b := i) (by omega) (by omega) c_309
                                  have hW := cy_castS (cq_pc_e he q_309 hi) hW
                                  refine lv_iload hx hb dX3_pass_355 (lv_at hl 1 rfl) ?_
                                  exact hE  _ _ _ _ _ _ (Nat.le_of_ble_eq_true rfl) (Nat.le_of_ble_eq_true rfl) hW dX3_pass_357
                                · skip
                                  have q_309 := cy_nle (a := (cq_hn S c)) (b := i) (by omega) (by omega) c_309
                                  refine lv_iload_n hx hb dX3_pass_312 rfl (lv_at hl 4 rfl) ?_
                                  refine lv_bipush (v := 12) hx hb dX3_pass_313 (by decide) ?_
                                  refine lv_irem hx hb dX3_pass_315 (by decide) ?_
                                  refine lv_if_ne (tgt := 355) hx hb dX3_pass_316 (by decide) (fun c_316 => ?_) (fun c_316 => ?_)
                                  · skip
                                    have hW := cy_castS (show cq_ln (cq_p5 S c) c i = cq_pc S c x from by unfold cq_pc; rw [if_neg c_316, he.resolve_right c_316]; rfl) hW
                                    refine lv_iload hx hb dX3_pass_355 (lv_at hl 1 rfl) ?_
                                    exact hE  _ _ _ _ _ _ (Nat.le_of_ble_eq_true rfl) (Nat.le_of_ble_eq_true rfl) hW dX3_pass_357
                                  · skip
                                    refine lv_aload_n hx hb dX3_pass_319 rfl (lv_at hl 2 rfl) ?_
                                    refine cy_get hC (0) (by decide) hi3 hW (rfl) rfl 16 (by decide) (hts (.fieldLink RX3 42 "CaskYardModel" "tension" "[I") (by decide +kernel)) (fun _ h9 => h9) (v := .ref (ad 10)) rfl dX3_pass_320 ?_
                                    refine lv_bipush (v := 8) hx hb dX3_pass_323 (by decide) ?_
                                    refine lv_iload_n hx hb dX3_pass_325 rfl (lv_at hl 3 rfl) ?_
                                    refine lv_imul hx hb dX3_pass_326 ?_
                                    refine cy_top (pk_mul 8 c) ?_
                                    refine lv_iload hx hb dX3_pass_327 (lv_at hl 0 rfl) ?_
                                    refine lv_iadd hx hb dX3_pass_329 ?_
                                    refine cy_top (nI_add (8 * c) i) ?_
                                    refine lv_iconst (v := 0) hx hb dX3_pass_330 (by decide) ?_
                                    refine lv_aload_n hx hb dX3_pass_331 rfl (lv_at hl 2 rfl) ?_
                                    refine cy_get hC (0) (by decide) hi3 hW (rfl) rfl 16 (by decide) (hts (.fieldLink RX3 42 "CaskYardModel" "tension" "[I") (by decide +kernel)) (fun _ h9 => h9) (v := .ref (ad 10)) rfl dX3_pass_332 ?_
                                    refine lv_bipush (v := 8) hx hb dX3_pass_335 (by decide) ?_
                                    refine lv_iload_n hx hb dX3_pass_337 rfl (lv_at hl 3 rfl) ?_
                                    refine lv_imul hx hb dX3_pass_338 ?_
                                    refine cy_top (pk_mul 8 c) ?_
                                    refine lv_iload hx hb dX3_pass_339 (lv_at hl 0 rfl) ?_
                                    refine lv_iadd hx hb dX3_pass_341 ?_
                                    refine cy_top (nI_add (8 * c) i) ?_
                                    refine cy_iald hC (10) (by decide) hW 0 (i := ((8 * c) + i)) (rfl) rfl (by omega) (by decide) dX3_pass_342 ?_
                                    refine lv_iconst (v := 1) hx hb dX3_pass_343 (by decide) ?_
                                    refine lv_isub hx hb dX3_pass_344 ?_
                                    refine va_mmax hx hb (hml.trans hl.1.symm) hown (hts (.methodLink RX3 128 Lib.Math.max.name) (by decide +kernel)) (hts (.static Lib.Math.max.name) (by decide +kernel)) (hts (.initialized "java/lang/Math") (by decide +kernel)) (hts (.code Lib.Math.max.name Lib.Math.max.code 2 (some .int)) (by decide +kernel)) (Nat.le_of_ble_eq_true rfl) (Nat.le_of_ble_eq_true rfl) (Nat.le_of_ble_eq_true rfl) (Nat.le_of_ble_eq_true rfl) dX3_pass_345 ?_
                                    refine cy_topv (show _ = Value.int (cy_mx 0 ((((cq_ln (cq_p5 S c) c i) 10) ((8 * c) + i)) - 1)) from rfl) ?_
                                    refine cy_iast hC (10) (by decide) hW 0 (i := ((8 * c) + i)) (rfl) rfl (by omega) (by decide) (upd ((cq_ln (cq_p5 S c) c i) 10) ((8 * c) + i) (cy_mx 0 ((((cq_ln (cq_p5 S c) c i) 10) ((8 * c) + i)) - 1))) rfl (S' := (va_up (cq_ln (cq_p5 S c) c i) 10 (upd ((cq_ln (cq_p5 S c) c i) 10) ((8 * c) + i) (cy_mx 0 ((((cq_ln (cq_p5 S c) c i) 10) ((8 * c) + i)) - 1))))) rfl dX3_pass_348 (fun H locs hW => ?_)
                                    refine lv_iinc (v := nI (i + 1)) (lv' := [(7, .int (nI (i + 1))), (5, .int ((cq_p3 S c).2)), (0, .ref (ad 0)), (1, .int (nI c)), (2, .int x)]) hx hb dX3_pass_349 hl (k := 0) rfl (nI_1 i) (by decide) rfl (fun ls hl => ?_)
                                    refine lv_goto (tgt := 302) hx hb dX3_pass_352 (by decide) ?_
                                    exact ih_302 (i + 1) (by omega) (by omega) (Or.inr c_316) _ _ hW _ (lv_sub hl [0, 1, 2, 3, 4] rfl)
                            exact L_302 ((cq_hn S c - 0) + 1) 0 (Nat.lt_succ_self _) (Nat.zero_le _) (Or.inl rfl) _ _ hW _ (lv_sub hl [0, 1, 2, 3, 4] rfl)
                          have hW := cy_castS (show (cq_p4 S c) = (cq_p5 S c) from by simp only [cq_p5, c_251, ↓reduceIte]) hW
                          exact L_299   _ _ hW _ (lv_sub hl [1, 2, 3, 4] rfl)
                        · skip
                          refine lv_iconst (v := 0) hx hb dX3_pass_254 (by decide) ?_
                          refine lv_istore (lv' := [(7, .int 0), (6, .int (cq_lf S c)), (5, .int ((cq_p3 S c).2)), (0, .ref (ad 0)), (1, .int (nI c)), (2, .int x)]) hx hb dX3_pass_255 hl (by decide) rfl (fun ls hl => ?_)
                          have L_257 : ∀ (fu : Nat) (k : Nat), 5 - k < fu → (k ≤ 5) → ∀ (H : Heap) (locs : List Loc), cy_W D A s.heap (cy_Mw kI kZ ad (cq_vi (cq_p4 S c) c (cq_lf S c) k) tl) H locs → ∀ (ls : Array Slot), lv_has ls 8 [(7, .int (nI k)), (6, .int (cq_lf S c)), (5, .int ((cq_p3 S c).2)), (0, .ref (ad 0)), (1, .int (nI c)), (2, .int x)] → W p l e rm_X3_pass s m args below meth co H locs 0 0 Q (F0 m 257 ls []) := by
                            intro fu
                            induction fu with
                            | zero => intro k hn; exact absurd hn (Nat.not_lt_zero _)
                            | succ fu ih_257 =>
                              intro k hn_257 hk H locs hW ls hl
                              refine lv_iload hx hb dX3_pass_257 (lv_at hl 0 rfl) ?_
                              refine lv_iconst (v := 5) hx hb dX3_pass_259 (by decide) ?_
                              refine lv_icmp_ge (tgt := 292) hx hb dX3_pass_260 (by decide) (fun c_260 => ?_) (fun c_260 => ?_)
                              · skip
                                have q_260 := cy_le (a := 5) (b := k) (by omega) (by omega) c_260
                                obtain rfl : k = 5 := by omega
                                refine lv_aload_n hx hb dX3_pass_292 rfl (lv_at hl 3 rfl) ?_
                                refine cy_get hC (0) (by decide) hi3 hW (rfl) rfl 19 (by decide) (hts (.fieldLink RX3 51 "CaskYardModel" "air" "[I") (by decide +kernel)) (fun _ h9 => h9) (v := .ref (ad 13)) rfl dX3_pass_293 ?_
                                refine lv_iload_n hx hb dX3_pass_296 rfl (lv_at hl 4 rfl) ?_
                                refine lv_iconst (v := 0) hx hb dX3_pass_297 (by decide) ?_
                                refine cy_iast hC (13) (by decide) hW 0 (i := c) (rfl) rfl (by omega) (by decide) (upd ((cq_vi (cq_p4 S c) c (cq_lf S c) 5) 13) c 0) rfl (S' := (va_up (cq_vi (cq_p4 S c) c (cq_lf S c) 5) 13 (upd ((cq_vi (cq_p4 S c) c (cq_lf S c) 5) 13) c 0))) rfl dX3_pass_298 (fun H locs hW => ?_)
                                have L_299 : ∀ (H : Heap) (locs : List Loc), cy_W D A s.heap (cy_Mw kI kZ ad (cq_p5 S c) tl) H locs → ∀ (ls : Array Slot), lv_has ls 8 [(5, .int ((cq_p3 S c).2)), (0, .ref (ad 0)), (1, .int (nI c)), (2, .int x)] → W p l e rm_X3_pass s m args below meth co H locs 0 0 Q (F0 m 299 ls []) := by
                                  intro   H locs hW ls hl
                                  refine lv_iconst (v := 0) hx hb dX3_pass_299 (by decide) ?_
                                  refine lv_istore (lv' := [(7, .int 0), (5, .int ((cq_p3 S c).2)), (0, .ref (ad 0)), (1, .int (nI c)), (2, .int x)]) hx hb dX3_pass_300 hl (by decide) rfl (fun ls hl => ?_)
                                  have L_302 : ∀ (fu : Nat) (i : Nat), cq_hn S c - i < fu → (i ≤ cq_hn S c) → (i = 0 ∨ x - x / 12 * 12 = 0) → ∀ (H : Heap) (locs : List Loc), cy_W D A s.heap (cy_Mw kI kZ ad (cq_ln (cq_p5 S c) c i) tl) H locs → ∀ (ls : Array Slot), lv_has ls 8 [(7, .int (nI i)), (5, .int ((cq_p3 S c).2)), (0, .ref (ad 0)), (1, .int (nI c)), (2, .int x)] → W p l e rm_X3_pass s m args below meth co H locs 0 0 Q (F0 m 302 ls []) := by
                                    intro fu
                                    induction fu with
                                    | zero => intro i hn; exact absurd hn (Nat.not_lt_zero _)
                                    | succ fu ih_302 =>
                                      intro i hn_302 hi he H locs hW ls hl
                                      have hq5 : cq_ok (cq_ln (cq_p5 S c) c i) := cq_ok_of (by rw [cq_ln_n (by decide), cq_p5_n (by decide) (by decide) (by decide) (by decide)]) (by rw [cq_ln_n (by decide), cq_p5_n (by decide) (by decide) (by decide) (by decide)]) hq
                                      refine lv_iload hx hb dX3_pass_302 (lv_at hl 0 rfl) ?_
                                      refine lv_aload_n hx hb dX3_pass_304 rfl (lv_at hl 2 rfl) ?_
                                      refine lv_iload_n hx hb dX3_pass_305 rfl (lv_at hl 3 rfl) ?_
                                      refine cy_callV (rm := rm_X3_hoopsOf) (As := [.int (nI c)]) (rest := [.int (nI i)]) (q0 := 0) (ci := 3) hC.1 hC.2.1 hC.2.2 hW (c_X3_hoopsOf (c := c) (by omega) hq5) (cwV 1 hts gX3_pass_X3_hoopsOf rfl rfl rfl (by decide +kernel) ⟨Nat.le_of_ble_eq_true rfl, Nat.le_of_ble_eq_true rfl⟩) (cy_w_at (by decide) (rfl)) rfl rfl hl.1 rfl (Nat.le_of_ble_eq_true rfl) dX3_pass_306 ⟨Nat.le_of_ble_eq_true rfl, Nat.le_of_ble_eq_true rfl⟩ (k' := 0) (n' := 0) rfl rfl (fun H locs hW => ?_)
                                      refine cy_topv (show _ = Value.int (nI (cq_hn S c)) from (congrArg (fun z => Value.int (nI z)) (cq_hn_c (by rw [cq_ln_n (by decide), cq_p5_n (by decide) (by decide) (by decide) (by decide)]) (by rw [cq_ln_n (by decide), cq_p5_n (by decide) (by decide) (by decide) (by decide)]) (by rw [cq_ln_n (by decide), cq_p5_n (by decide) (by decide) (by decide) (by decide)])))) ?_
                                      refine lv_icmp_ge (tgt := 355) hx hb dX3_pass_309 (by decide) (fun c_309 => ?_) (fun c_309 => ?_)
                                      · skip
                                        have q_309 := cy_le (a := (cq_hn S c)) (b := i) (by omega) (by omega) c_309
                                        have hW := cy_castS (cq_pc_e he q_309 hi) hW
                                        refine lv_iload hx hb dX3_pass_355 (lv_at hl 1 rfl) ?_
                                        exact hE  _ _ _ _ _ _ (Nat.le_of_ble_eq_true rfl) (Nat.le_of_ble_eq_true rfl) hW dX3_pass_357
                                      · skip
                                        have q_309 := cy_nle (a := (cq_hn S c)) (b := i) (by omega) (by omega) c_309
                                        refine lv_iload_n hx hb dX3_pass_312 rfl (lv_at hl 4 rfl) ?_
                                        refine lv_bipush (v := 12) hx hb dX3_pass_313 (by decide) ?_
                                        refine lv_irem hx hb dX3_pass_315 (by decide) ?_
                                        refine lv_if_ne (tgt := 355) hx hb dX3_pass_316 (by decide) (fun c_316 => ?_) (fun c_316 => ?_)
                                        · skip
                                          have hW := cy_castS (show cq_ln (cq_p5 S c) c i = cq_pc S c x from by unfold cq_pc; rw [if_neg c_316, he.resolve_right c_316]; rfl) hW
                                          refine lv_iload hx hb dX3_pass_355 (lv_at hl 1 rfl) ?_
                                          exact hE  _ _ _ _ _ _ (Nat.le_of_ble_eq_true rfl) (Nat.le_of_ble_eq_true rfl) hW dX3_pass_357
                                        · skip
                                          refine lv_aload_n hx hb dX3_pass_319 rfl (lv_at hl 2 rfl) ?_
                                          refine cy_get hC (0) (by decide) hi3 hW (rfl) rfl 16 (by decide) (hts (.fieldLink RX3 42 "CaskYardModel" "tension" "[I") (by decide +kernel)) (fun _ h9 => h9) (v := .ref (ad 10)) rfl dX3_pass_320 ?_
                                          refine lv_bipush (v := 8) hx hb dX3_pass_323 (by decide) ?_
                                          refine lv_iload_n hx hb dX3_pass_325 rfl (lv_at hl 3 rfl) ?_
                                          refine lv_imul hx hb dX3_pass_326 ?_
                                          refine cy_top (pk_mul 8 c) ?_
                                          refine lv_iload hx hb dX3_pass_327 (lv_at hl 0 rfl) ?_
                                          refine lv_iadd hx hb dX3_pass_329 ?_
                                          refine cy_top (nI_add (8 * c) i) ?_
                                          refine lv_iconst (v := 0) hx hb dX3_pass_330 (by decide) ?_
                                          refine lv_aload_n hx hb dX3_pass_331 rfl (lv_at hl 2 rfl) ?_
                                          refine cy_get hC (0) (by decide) hi3 hW (rfl) rfl 16 (by decide) (hts (.fieldLink RX3 42 "CaskYardModel" "tension" "[I") (by decide +kernel)) (fun _ h9 => h9) (v := .ref (ad 10)) rfl dX3_pass_332 ?_
                                          refine lv_bipush (v := 8) hx hb dX3_pass_335 (by decide) ?_
                                          refine lv_iload_n hx hb dX3_pass_337 rfl (lv_at hl 3 rfl) ?_
                                          refine lv_imul hx hb dX3_pass_338 ?_
                                          refine cy_top (pk_mul 8 c) ?_
                                          refine lv_iload hx hb dX3_pass_339 (lv_at hl 0 rfl) ?_
                                          refine lv_iadd hx hb dX3_pass_341 ?_
                                          refine cy_top (nI_add (8 * c) i) ?_
                                          refine cy_iald hC (10) (by decide) hW 0 (i := ((8 * c) + i)) (rfl) rfl (by omega) (by decide) dX3_pass_342 ?_
                                          refine lv_iconst (v := 1) hx hb dX3_pass_343 (by decide) ?_
                                          refine lv_isub hx hb dX3_pass_344 ?_
                                          refine va_mmax hx hb (hml.trans hl.1.symm) hown (hts (.methodLink RX3 128 Lib.Math.max.name) (by decide +kernel)) (hts (.static Lib.Math.max.name) (by decide +kernel)) (hts (.initialized "java/lang/Math") (by decide +kernel)) (hts (.code Lib.Math.max.name Lib.Math.max.code 2 (some .int)) (by decide +kernel)) (Nat.le_of_ble_eq_true rfl) (Nat.le_of_ble_eq_true rfl) (Nat.le_of_ble_eq_true rfl) (Nat.le_of_ble_eq_true rfl) dX3_pass_345 ?_
                                          refine cy_topv (show _ = Value.int (cy_mx 0 ((((cq_ln (cq_p5 S c) c i) 10) ((8 * c) + i)) - 1)) from rfl) ?_
                                          refine cy_iast hC (10) (by decide) hW 0 (i := ((8 * c) + i)) (rfl) rfl (by omega) (by decide) (upd ((cq_ln (cq_p5 S c) c i) 10) ((8 * c) + i) (cy_mx 0 ((((cq_ln (cq_p5 S c) c i) 10) ((8 * c) + i)) - 1))) rfl (S' := (va_up (cq_ln (cq_p5 S c) c i) 10 (upd ((cq_ln (cq_p5 S c) c i) 10) ((8 * c) + i) (cy_mx 0 ((((cq_ln (cq_p5 S c) c i) 10) ((8 * c) + i)) - 1))))) rfl dX3_pass_348 (fun H locs hW => ?_)
                                          refine lv_iinc (v := nI (i + 1)) (lv' := [(7, .int (nI (i + 1))), (5, .int ((cq_p3 S c).2)), (0, .ref (ad 0)), (1, .int (nI c)), (2, .int x)]) hx hb dX3_pass_349 hl (k := 0) rfl (nI_1 i) (by decide) rfl (fun ls hl => ?_)
                                          refine lv_goto (tgt := 302) hx hb dX3_pass_352 (by decide) ?_
                                          exact ih_302 (i + 1) (by omega) (by omega) (Or.inr c_316) _ _ hW _ (lv_sub hl [0, 1, 2, 3, 4] rfl)
                                  exact L_302 ((cq_hn S c - 0) + 1) 0 (Nat.lt_succ_self _) (Nat.zero_le _) (Or.inl rfl) _ _ hW _ (lv_sub hl [0, 1, 2, 3, 4] rfl)
                                have hW := cy_castS (show (va_up (cq_vi (cq_p4 S c) c (cq_lf S c) 5) 13 (upd ((cq_vi (cq_p4 S c) c (cq_lf S c) 5) 13) c 0)) = (cq_p5 S c) from by simp only [cq_p5, c_251, c_260, ↓reduceIte]) hW
                                exact L_299   _ _ hW _ (lv_sub hl [2, 3, 4, 5] rfl)
                              · skip
                                have q_260 := cy_nle (a := 5) (b := k) (by omega) (by omega) c_260
                                refine lv_aload_n hx hb dX3_pass_263 rfl (lv_at hl 3 rfl) ?_
                                refine cy_get hC (0) (by decide) hi3 hW (rfl) rfl 20 (by decide) (hts (.fieldLink RX3 54 "CaskYardModel" "holds" "[I") (by decide +kernel)) (fun _ h9 => h9) (v := .ref (ad 14)) rfl dX3_pass_264 ?_
                                refine lv_iconst (v := 5) hx hb dX3_pass_267 (by decide) ?_
                                refine lv_iload_n hx hb dX3_pass_268 rfl (lv_at hl 4 rfl) ?_
                                refine lv_imul hx hb dX3_pass_269 ?_
                                refine cy_top (pk_mul 5 c) ?_
                                refine lv_iload hx hb dX3_pass_270 (lv_at hl 0 rfl) ?_
                                refine lv_iadd hx hb dX3_pass_272 ?_
                                refine cy_top (nI_add (5 * c) k) ?_
                                refine lv_iload hx hb dX3_pass_273 (lv_at hl 0 rfl) ?_
                                refine lv_iconst (v := 4) hx hb dX3_pass_275 (by decide) ?_
                                refine lv_icmp_ne (tgt := 284) hx hb dX3_pass_276 (by decide) (fun c_276 => ?_) (fun c_276 => ?_)
                                · skip
                                  have q_276 := cy_ne (a := k) (b := 4) (by omega) (by omega) c_276
                                  refine lv_iconst (v := 0) hx hb dX3_pass_284 (by decide) ?_
                                  refine cy_iast hC (14) (by decide) hW 0 (i := ((5 * c) + k)) (rfl) rfl (by omega) (by decide) (upd ((cq_vi (cq_p4 S c) c (cq_lf S c) k) 14) ((5 * c) + k) 0) rfl (S' := (va_up (cq_vi (cq_p4 S c) c (cq_lf S c) k) 14 (upd ((cq_vi (cq_p4 S c) c (cq_lf S c) k) 14) ((5 * c) + k) 0))) rfl dX3_pass_285 (fun H locs hW => ?_)
                                  refine lv_iinc (v := nI (k + 1)) (lv' := [(7, .int (nI (k + 1))), (6, .int (cq_lf S c)), (5, .int ((cq_p3 S c).2)), (0, .ref (ad 0)), (1, .int (nI c)), (2, .int x)]) hx hb dX3_pass_286 hl (k := 0) rfl (nI_1 k) (by decide) rfl (fun ls hl => ?_)
                                  refine lv_goto (tgt := 257) hx hb dX3_pass_289 (by decide) ?_
                                  have hW := cy_castS (show (va_up (cq_vi (cq_p4 S c) c (cq_lf S c) k) 14 (upd ((cq_vi (cq_p4 S c) c (cq_lf S c) k) 14) ((5 * c) + k) 0)) = (cq_vi (cq_p4 S c) c (cq_lf S c) (k + 1)) from by simp only [cq_vi, c_251, c_260, c_276, ↓reduceIte]) hW
                                  exact ih_257 (k + 1) (by omega) (by omega) _ _ hW _ (lv_sub hl [0, 1, 2, 3, 4, 5] rfl)
                                · skip
                                  have q_276 := cy_eq (a := k) (b := 4) (by omega) (by omega) c_276
                                  refine lv_iload hx hb dX3_pass_279 (lv_at hl 1 rfl) ?_
                                  refine lv_goto (tgt := 285) hx hb dX3_pass_281 (by decide) ?_
                                  refine cy_iast hC (14) (by decide) hW 0 (i := ((5 * c) + k)) (rfl) rfl (by omega) (by decide) (upd ((cq_vi (cq_p4 S c) c (cq_lf S c) k) 14) ((5 * c) + k) (cq_lf S c)) rfl (S' := (va_up (cq_vi (cq_p4 S c) c (cq_lf S c) k) 14 (upd ((cq_vi (cq_p4 S c) c (cq_lf S c) k) 14) ((5 * c) + k) (cq_lf S c)))) rfl dX3_pass_285 (fun H locs hW => ?_)
                                  refine lv_iinc (v := nI (k + 1)) (lv' := [(7, .int (nI (k + 1))), (6, .int (cq_lf S c)), (5, .int ((cq_p3 S c).2)), (0, .ref (ad 0)), (1, .int (nI c)), (2, .int x)]) hx hb dX3_pass_286 hl (k := 0) rfl (nI_1 k) (by decide) rfl (fun ls hl => ?_)
                                  refine lv_goto (tgt := 257) hx hb dX3_pass_289 (by decide) ?_
                                  have hW := cy_castS (show (va_up (cq_vi (cq_p4 S c) c (cq_lf S c) k) 14 (upd ((cq_vi (cq_p4 S c) c (cq_lf S c) k) 14) ((5 * c) + k) (cq_lf S c))) = (cq_vi (cq_p4 S c) c (cq_lf S c) (k + 1)) from by simp only [cq_vi, c_251, c_260, c_276, ↓reduceIte]) hW
                                  exact ih_257 (k + 1) (by omega) (by omega) _ _ hW _ (lv_sub hl [0, 1, 2, 3, 4, 5] rfl)
                          exact L_257 ((5 - 0) + 1) 0 (Nat.lt_succ_self _) (by omega) _ _ hW _ (lv_sub hl [0, 1, 2, 3, 4, 5] rfl)
                      have hW := cy_castS (show (va_up (cq_p3 S c).1 13 (upd ((cq_p3 S c).1 13) c ((((cq_p3 S c).1 13) c) + 1))) = (cq_p4 S c) from by simp only [cq_p4, cq_lf, c_207, c_227, ↓reduceIte]) hW
                      exact L_243   _ _ hW _ (lv_sub hl [0, 1, 2, 3, 4] rfl)
                exact L_193   _ _ hW _ (lv_sub hl [1, 3, 4, 5] rfl)
              · skip
                have q_117 := cy_nle (a := ((5 * c) + 5)) (b := (5 * c + i)) (by omega) (by omega) c_117
                refine lv_aload_n hx hb dX3_pass_120 rfl (lv_at hl 3 rfl) ?_
                refine cy_get hC (0) (by decide) hi3 hW (rfl) rfl 20 (by decide) (hts (.fieldLink RX3 54 "CaskYardModel" "holds" "[I") (by decide +kernel)) (fun _ h9 => h9) (v := .ref (ad 14)) rfl dX3_pass_121 ?_
                refine lv_iload hx hb dX3_pass_124 (lv_at hl 2 rfl) ?_
                refine cy_iald hC (14) (by decide) hW 0 (i := (5 * c + i)) (rfl) rfl (by omega) (by decide) dX3_pass_126 ?_
                refine lv_if_ne (tgt := 134) hx hb dX3_pass_127 (by decide) (fun c_127 => ?_) (fun c_127 => ?_)
                · skip
                  refine lv_aload_n hx hb dX3_pass_134 rfl (lv_at hl 3 rfl) ?_
                  refine cy_get hC (0) (by decide) hi3 hW (rfl) rfl 20 (by decide) (hts (.fieldLink RX3 54 "CaskYardModel" "holds" "[I") (by decide +kernel)) (fun _ h9 => h9) (v := .ref (ad 14)) rfl dX3_pass_135 ?_
                  refine lv_iload hx hb dX3_pass_138 (lv_at hl 2 rfl) ?_
                  refine cy_iald hC (14) (by decide) hW 0 (i := (5 * c + i)) (rfl) rfl (by omega) (by decide) dX3_pass_140 ?_
                  refine lv_i2l hx hb dX3_pass_141 rfl ?_
                  refine lv_lconst (v := 1) hx hb dX3_pass_142 rfl ?_
                  refine lv_aload_n hx hb dX3_pass_143 rfl (lv_at hl 3 rfl) ?_
                  refine cy_get hC (0) (by decide) hi3 hW (rfl) rfl 20 (by decide) (hts (.fieldLink RX3 54 "CaskYardModel" "holds" "[I") (by decide +kernel)) (fun _ h9 => h9) (v := .ref (ad 14)) rfl dX3_pass_144 ?_
                  refine lv_iload hx hb dX3_pass_147 (lv_at hl 2 rfl) ?_
                  refine cy_iald hC (14) (by decide) hW 0 (i := (5 * c + i)) (rfl) rfl (by omega) (by decide) dX3_pass_149 ?_
                  refine lv_i2l hx hb dX3_pass_150 rfl ?_
                  refine lv_iload hx hb dX3_pass_151 (lv_at hl 0 rfl) ?_
                  refine lv_i2l hx hb dX3_pass_153 rfl ?_
                  refine lv_lmul hx hb dX3_pass_154 ?_
                  refine lv_ldc2 (v := 1000) hx hb hown (hts (.constantLong RX3 144 1000) (by decide +kernel)) dX3_pass_155 ?_
                  refine lv_ldiv hx hb dX3_pass_158 (by decide) ?_
                  refine va_mmax_long hx hb (hml.trans hl.1.symm) hown (hts (.methodLink RX3 146 Lib.MathLoose.max_long.x) (by decide +kernel)) (hts (.static Lib.MathLoose.max_long.x) (by decide +kernel)) (hts (.initialized "java/lang/Math") (by decide +kernel)) (hts (.code Lib.MathLoose.max_long.x Lib.MathLoose.max_long.code 4 (some .long)) (by decide +kernel)) (Nat.le_of_ble_eq_true rfl) (Nat.le_of_ble_eq_true rfl) (Nat.le_of_ble_eq_true rfl) (Nat.le_of_ble_eq_true rfl) dX3_pass_159 ?_
                  refine cy_topv (show _ = Value.long (cy_mxL 1 ((((((cq_lo (cq_p2 S c) c (cq_by S c) i).1 14) (5 * c + i)).toInt64) * ((cq_by S c).toInt64)) / 1000)) from rfl) ?_
                  refine va_mmin_long hx hb (hml.trans hl.1.symm) hown (hts (.methodLink RX3 149 Lib.MathLoose.min_long.x) (by decide +kernel)) (hts (.static Lib.MathLoose.min_long.x) (by decide +kernel)) (hts (.initialized "java/lang/Math") (by decide +kernel)) (hts (.code Lib.MathLoose.min_long.x Lib.MathLoose.min_long.code 4 (some .long)) (by decide +kernel)) (Nat.le_of_ble_eq_true rfl) (Nat.le_of_ble_eq_true rfl) (Nat.le_of_ble_eq_true rfl) (Nat.le_of_ble_eq_true rfl) dX3_pass_162 ?_
                  refine cy_topv (show _ = Value.long (cy_mnL ((((cq_lo (cq_p2 S c) c (cq_by S c) i).1 14) (5 * c + i)).toInt64) (cy_mxL 1 ((((((cq_lo (cq_p2 S c) c (cq_by S c) i).1 14) (5 * c + i)).toInt64) * ((cq_by S c).toInt64)) / 1000))) from rfl) ?_
                  refine lv_l2i hx hb dX3_pass_165 rfl ?_
                  refine lv_istore (lv' := [(7, .int ((cy_mnL ((((cq_lo (cq_p2 S c) c (cq_by S c) i).1 14) (5 * c + i)).toInt64) (cy_mxL 1 ((((((cq_lo (cq_p2 S c) c (cq_by S c) i).1 14) (5 * c + i)).toInt64) * ((cq_by S c).toInt64)) / 1000))).toInt32)), (4, .int (cq_by S c)), (5, .int ((cq_lo (cq_p2 S c) c (cq_by S c) i).2)), (6, .int (nI (5 * c + i))), (0, .ref (ad 0)), (1, .int (nI c)), (2, .int x)]) hx hb dX3_pass_166 hl (by decide) rfl (fun ls hl => ?_)
                  refine lv_aload_n hx hb dX3_pass_168 rfl (lv_at hl 4 rfl) ?_
                  refine cy_get hC (0) (by decide) hi3 hW (rfl) rfl 20 (by decide) (hts (.fieldLink RX3 54 "CaskYardModel" "holds" "[I") (by decide +kernel)) (fun _ h9 => h9) (v := .ref (ad 14)) rfl dX3_pass_169 ?_
                  refine lv_iload hx hb dX3_pass_172 (lv_at hl 3 rfl) ?_
                  refine lv_dup2_11 hx hb dX3_pass_174 rfl rfl ?_
                  refine cy_iald hC (14) (by decide) hW 0 (i := (5 * c + i)) (rfl) rfl (by omega) (by decide) dX3_pass_175 ?_
                  refine lv_iload hx hb dX3_pass_176 (lv_at hl 0 rfl) ?_
                  refine lv_isub hx hb dX3_pass_178 ?_
                  refine cy_iast hC (14) (by decide) hW 0 (i := (5 * c + i)) (rfl) rfl (by omega) (by decide) (upd ((cq_lo (cq_p2 S c) c (cq_by S c) i).1 14) (5 * c + i) ((((cq_lo (cq_p2 S c) c (cq_by S c) i).1 14) (5 * c + i)) - ((cy_mnL ((((cq_lo (cq_p2 S c) c (cq_by S c) i).1 14) (5 * c + i)).toInt64) (cy_mxL 1 ((((((cq_lo (cq_p2 S c) c (cq_by S c) i).1 14) (5 * c + i)).toInt64) * ((cq_by S c).toInt64)) / 1000))).toInt32))) rfl (S' := (va_up (cq_lo (cq_p2 S c) c (cq_by S c) i).1 14 (upd ((cq_lo (cq_p2 S c) c (cq_by S c) i).1 14) (5 * c + i) ((((cq_lo (cq_p2 S c) c (cq_by S c) i).1 14) (5 * c + i)) - ((cy_mnL ((((cq_lo (cq_p2 S c) c (cq_by S c) i).1 14) (5 * c + i)).toInt64) (cy_mxL 1 ((((((cq_lo (cq_p2 S c) c (cq_by S c) i).1 14) (5 * c + i)).toInt64) * ((cq_by S c).toInt64)) / 1000))).toInt32))))) rfl dX3_pass_179 (fun H locs hW => ?_)
                  refine lv_iload hx hb dX3_pass_180 (lv_at hl 2 rfl) ?_
                  refine lv_iload hx hb dX3_pass_182 (lv_at hl 0 rfl) ?_
                  refine lv_iadd hx hb dX3_pass_184 ?_
                  refine lv_istore (lv' := [(5, .int (((cq_lo (cq_p2 S c) c (cq_by S c) i).2) + ((cy_mnL ((((cq_lo (cq_p2 S c) c (cq_by S c) i).1 14) (5 * c + i)).toInt64) (cy_mxL 1 ((((((cq_lo (cq_p2 S c) c (cq_by S c) i).1 14) (5 * c + i)).toInt64) * ((cq_by S c).toInt64)) / 1000))).toInt32))), (7, .int ((cy_mnL ((((cq_lo (cq_p2 S c) c (cq_by S c) i).1 14) (5 * c + i)).toInt64) (cy_mxL 1 ((((((cq_lo (cq_p2 S c) c (cq_by S c) i).1 14) (5 * c + i)).toInt64) * ((cq_by S c).toInt64)) / 1000))).toInt32)), (4, .int (cq_by S c)), (6, .int (nI (5 * c + i))), (0, .ref (ad 0)), (1, .int (nI c)), (2, .int x)]) hx hb dX3_pass_185 hl (by decide) rfl (fun ls hl => ?_)
                  refine lv_iinc (v := nI (5 * c + i + 1)) (lv' := [(6, .int (nI (5 * c + i + 1))), (5, .int (((cq_lo (cq_p2 S c) c (cq_by S c) i).2) + ((cy_mnL ((((cq_lo (cq_p2 S c) c (cq_by S c) i).1 14) (5 * c + i)).toInt64) (cy_mxL 1 ((((((cq_lo (cq_p2 S c) c (cq_by S c) i).1 14) (5 * c + i)).toInt64) * ((cq_by S c).toInt64)) / 1000))).toInt32))), (7, .int ((cy_mnL ((((cq_lo (cq_p2 S c) c (cq_by S c) i).1 14) (5 * c + i)).toInt64) (cy_mxL 1 ((((((cq_lo (cq_p2 S c) c (cq_by S c) i).1 14) (5 * c + i)).toInt64) * ((cq_by S c).toInt64)) / 1000))).toInt32)), (4, .int (cq_by S c)), (0, .ref (ad 0)), (1, .int (nI c)), (2, .int x)]) hx hb dX3_pass_187 hl (k := 3) rfl (nI_1 (5 * c + i)) (by decide) rfl (fun ls hl => ?_)
                  refine lv_goto (tgt := 110) hx hb dX3_pass_190 (by decide) ?_
                  rw [show ((cq_lo (cq_p2 S c) c (cq_by S c) i).2) + ((cy_mnL ((((cq_lo (cq_p2 S c) c (cq_by S c) i).1 14) (5 * c + i)).toInt64) (cy_mxL 1 ((((((cq_lo (cq_p2 S c) c (cq_by S c) i).1 14) (5 * c + i)).toInt64) * ((cq_by S c).toInt64)) / 1000))).toInt32) = (cq_lo (cq_p2 S c) c (cq_by S c) (i + 1)).2 from by simp only [cq_lo, cq_ow, cy_ls, c_117, c_127, ↓reduceIte]] at hl
                  have hW := cy_castS (show (va_up (cq_lo (cq_p2 S c) c (cq_by S c) i).1 14 (upd ((cq_lo (cq_p2 S c) c (cq_by S c) i).1 14) (5 * c + i) ((((cq_lo (cq_p2 S c) c (cq_by S c) i).1 14) (5 * c + i)) - ((cy_mnL ((((cq_lo (cq_p2 S c) c (cq_by S c) i).1 14) (5 * c + i)).toInt64) (cy_mxL 1 ((((((cq_lo (cq_p2 S c) c (cq_by S c) i).1 14) (5 * c + i)).toInt64) * ((cq_by S c).toInt64)) / 1000))).toInt32)))) = (cq_lo (cq_p2 S c) c (cq_by S c) (i + 1)).1 from by simp only [cq_lo, cq_ow, cy_ls, c_117, c_127, ↓reduceIte]) hW
                  exact ih_110 (i + 1) (by omega) (by omega) _ _ hW _ (lv_sub hl [3, 1, 0, 4, 5, 6] rfl)
                · skip
                  refine lv_iconst (v := 0) hx hb dX3_pass_130 (by decide) ?_
                  refine lv_goto (tgt := 166) hx hb dX3_pass_131 (by decide) ?_
                  refine lv_istore (lv' := [(7, .int 0), (4, .int (cq_by S c)), (5, .int ((cq_lo (cq_p2 S c) c (cq_by S c) i).2)), (6, .int (nI (5 * c + i))), (0, .ref (ad 0)), (1, .int (nI c)), (2, .int x)]) hx hb dX3_pass_166 hl (by decide) rfl (fun ls hl => ?_)
                  refine lv_aload_n hx hb dX3_pass_168 rfl (lv_at hl 4 rfl) ?_
                  refine cy_get hC (0) (by decide) hi3 hW (rfl) rfl 20 (by decide) (hts (.fieldLink RX3 54 "CaskYardModel" "holds" "[I") (by decide +kernel)) (fun _ h9 => h9) (v := .ref (ad 14)) rfl dX3_pass_169 ?_
                  refine lv_iload hx hb dX3_pass_172 (lv_at hl 3 rfl) ?_
                  refine lv_dup2_11 hx hb dX3_pass_174 rfl rfl ?_
                  refine cy_iald hC (14) (by decide) hW 0 (i := (5 * c + i)) (rfl) rfl (by omega) (by decide) dX3_pass_175 ?_
                  refine lv_iload hx hb dX3_pass_176 (lv_at hl 0 rfl) ?_
                  refine lv_isub hx hb dX3_pass_178 ?_
                  refine cy_iast hC (14) (by decide) hW 0 (i := (5 * c + i)) (rfl) rfl (by omega) (by decide) (upd ((cq_lo (cq_p2 S c) c (cq_by S c) i).1 14) (5 * c + i) ((((cq_lo (cq_p2 S c) c (cq_by S c) i).1 14) (5 * c + i)) - 0)) rfl (S' := (va_up (cq_lo (cq_p2 S c) c (cq_by S c) i).1 14 (upd ((cq_lo (cq_p2 S c) c (cq_by S c) i).1 14) (5 * c + i) ((((cq_lo (cq_p2 S c) c (cq_by S c) i).1 14) (5 * c + i)) - 0)))) rfl dX3_pass_179 (fun H locs hW => ?_)
                  refine lv_iload hx hb dX3_pass_180 (lv_at hl 2 rfl) ?_
                  refine lv_iload hx hb dX3_pass_182 (lv_at hl 0 rfl) ?_
                  refine lv_iadd hx hb dX3_pass_184 ?_
                  refine lv_istore (lv' := [(5, .int (((cq_lo (cq_p2 S c) c (cq_by S c) i).2) + 0)), (7, .int 0), (4, .int (cq_by S c)), (6, .int (nI (5 * c + i))), (0, .ref (ad 0)), (1, .int (nI c)), (2, .int x)]) hx hb dX3_pass_185 hl (by decide) rfl (fun ls hl => ?_)
                  refine lv_iinc (v := nI (5 * c + i + 1)) (lv' := [(6, .int (nI (5 * c + i + 1))), (5, .int (((cq_lo (cq_p2 S c) c (cq_by S c) i).2) + 0)), (7, .int 0), (4, .int (cq_by S c)), (0, .ref (ad 0)), (1, .int (nI c)), (2, .int x)]) hx hb dX3_pass_187 hl (k := 3) rfl (nI_1 (5 * c + i)) (by decide) rfl (fun ls hl => ?_)
                  refine lv_goto (tgt := 110) hx hb dX3_pass_190 (by decide) ?_
                  rw [show ((cq_lo (cq_p2 S c) c (cq_by S c) i).2) + 0 = (cq_lo (cq_p2 S c) c (cq_by S c) (i + 1)).2 from by simp only [cq_lo, cq_ow, cy_ls, c_117, c_127, ↓reduceIte]] at hl
                  have hW := cy_castS (show (va_up (cq_lo (cq_p2 S c) c (cq_by S c) i).1 14 (upd ((cq_lo (cq_p2 S c) c (cq_by S c) i).1 14) (5 * c + i) ((((cq_lo (cq_p2 S c) c (cq_by S c) i).1 14) (5 * c + i)) - 0))) = (cq_lo (cq_p2 S c) c (cq_by S c) (i + 1)).1 from by simp only [cq_lo, cq_ow, cy_ls, c_117, c_127, ↓reduceIte]) hW
                  exact ih_110 (i + 1) (by omega) (by omega) _ _ hW _ (lv_sub hl [3, 1, 0, 4, 5, 6] rfl)
          exact L_110 ((5 - 0) + 1) 0 (Nat.lt_succ_self _) (by omega) _ _ hW _ (lv_sub hl [2, 1, 0, 3, 4, 5] rfl)
        have hW := cy_castS (show (va_up (cq_p1 S c) 11 (upd ((cq_p1 S c) 11) c (cy_mn 20 ((((cq_p1 S c) 11) c) + 5)))) = (cq_p2 S c) from by simp only [cq_p2, c_56, ↓reduceIte]) hW
        exact L_88   _ _ hW _ (lv_sub hl [1, 2, 3] rfl)
    have hW := cy_castS (show (va_up S 15 (upd (S 15) c ((S 15 c) + (((cq_al S c) / 100) * (cy_mx 0 (8 - (S 12 c))))))) = (cq_p1 S c) from by simp only [cq_p1, c_7, ↓reduceIte]) hW
    exact L_37   _ _ hW _ (lv_sub hl [0, 1, 2, 3] rfl)
abbrev rm_X3_foreseen : Room := { frames := 3, cells := 0, slots := 0, locals := 65 }
set_option maxHeartbeats 4000000 in
set_option maxRecDepth 100000 in
theorem c_X3_foreseen {l : Launch} {D : va_G} {kI kJ kZ kC : ClassId} {ad : Nat → Nat} {S : Nat → Nat → Int32} {tl : va_W} {c : Nat} {x : Int32} (hc : c < 12) (hq : cq_ok S) : cy_M l yX3_foreseen wsX3_foreseen rm_X3_foreseen D (cy_tys kI kJ kZ kC) [.ref (ad 0), .int (nI c), .int x] (cy_Mw kI kZ ad S tl) (some (.int (cq_fn S c x))) (cy_Mw kI kZ ad S tl) := by
  refine cy_of (own := RX3) (cc := cX3_foreseen) (maxL := 3) (ret := (some .int)) (i := .ireturn) (by decide) rfl rfl (Nat.le_of_ble_eq_true rfl) (cy_endI rfl) ?_
  intro p e s m args below meth co Q A ls hC hE hW hl
  have hx := hC.1.1; have hb := hC.1.2.1; have hml := hC.1.2.2.1; have hown := hC.1.2.2.2.1; have hts := hC.1.2.2.2.2
  have hl : lv_has ls 3 [(0, .ref (ad 0)), (1, .int (nI c)), (2, .int x)] := hl
  have hi3 : ∀ w ∈ u_ws RX3 TX3 25, w ∈ wsX3_foreseen := by decide +kernel
  refine lv_iload_n hx hb dX3_foreseen_0 rfl (lv_at hl 2 rfl) ?_
  refine lv_if_ne (tgt := 12) hx hb dX3_foreseen_1 (by decide) (fun c_1 => ?_) (fun c_1 => ?_)
  · skip
    refine lv_iload_n hx hb dX3_foreseen_12 rfl (lv_at hl 2 rfl) ?_
    refine lv_iconst (v := 1) hx hb dX3_foreseen_13 (by decide) ?_
    refine lv_icmp_ne (tgt := 30) hx hb dX3_foreseen_14 (by decide) (fun c_14 => ?_) (fun c_14 => ?_)
    · skip
      refine lv_iload_n hx hb dX3_foreseen_30 rfl (lv_at hl 2 rfl) ?_
      refine lv_iconst (v := 2) hx hb dX3_foreseen_31 (by decide) ?_
      refine lv_icmp_ne (tgt := 44) hx hb dX3_foreseen_32 (by decide) (fun c_32 => ?_) (fun c_32 => ?_)
      · skip
        refine lv_aload_n hx hb dX3_foreseen_44 rfl (lv_at hl 0 rfl) ?_
        refine lv_iload_n hx hb dX3_foreseen_45 rfl (lv_at hl 1 rfl) ?_
        refine cy_callV (rm := rm_X3_leak) (As := [.int (nI c)]) (rest := []) (q0 := 0) (ci := 3) hC.1 hC.2.1 hC.2.2 hW (c_X3_leak (c := c) (by omega) (cq_ok_of rfl rfl hq)) (cwV 1 hts gX3_foreseen_X3_leak rfl rfl rfl (by decide +kernel) ⟨Nat.le_of_ble_eq_true rfl, Nat.le_of_ble_eq_true rfl⟩) (cy_w_at (by decide) (rfl)) rfl rfl hl.1 rfl (Nat.le_of_ble_eq_true rfl) dX3_foreseen_46 ⟨Nat.le_of_ble_eq_true rfl, Nat.le_of_ble_eq_true rfl⟩ (k' := 0) (n' := 0) rfl rfl (fun H locs hW => ?_)
        refine cy_topv (congrArg Value.int (show cq_lk S c = cq_fn S c x from by simp [cq_fn, c_1, c_14, c_32])) ?_
        exact hE  _ _ _ _ _ _ (Nat.le_of_ble_eq_true rfl) (Nat.le_of_ble_eq_true rfl) hW dX3_foreseen_49
      · skip
        refine lv_aload_n hx hb dX3_foreseen_35 rfl (lv_at hl 0 rfl) ?_
        refine cy_get hC (0) (by decide) hi3 hW (rfl) rfl 21 (by decide) (hts (.fieldLink RX3 57 "CaskYardModel" "grains" "[I") (by decide +kernel)) (fun _ h9 => h9) (v := .ref (ad 15)) rfl dX3_foreseen_36 ?_
        refine lv_iload_n hx hb dX3_foreseen_39 rfl (lv_at hl 1 rfl) ?_
        refine cy_iald hC (15) (by decide) hW 0 (i := c) (rfl) rfl (by omega) (by decide) dX3_foreseen_40 ?_
        refine lv_goto (tgt := 49) hx hb dX3_foreseen_41 (by decide) ?_
        refine cy_topv (congrArg Value.int (show S 15 c = cq_fn S c x from by simp [cq_fn, c_1, c_14, c_32])) ?_
        exact hE  _ _ _ _ _ _ (Nat.le_of_ble_eq_true rfl) (Nat.le_of_ble_eq_true rfl) hW dX3_foreseen_49
    · skip
      refine lv_aload_n hx hb dX3_foreseen_17 rfl (lv_at hl 0 rfl) ?_
      refine cy_get hC (0) (by decide) hi3 hW (rfl) rfl 20 (by decide) (hts (.fieldLink RX3 54 "CaskYardModel" "holds" "[I") (by decide +kernel)) (fun _ h9 => h9) (v := .ref (ad 14)) rfl dX3_foreseen_18 ?_
      refine lv_iconst (v := 5) hx hb dX3_foreseen_21 (by decide) ?_
      refine lv_iload_n hx hb dX3_foreseen_22 rfl (lv_at hl 1 rfl) ?_
      refine lv_imul hx hb dX3_foreseen_23 ?_
      refine cy_top (pk_mul 5 c) ?_
      refine lv_iconst (v := 4) hx hb dX3_foreseen_24 (by decide) ?_
      refine lv_iadd hx hb dX3_foreseen_25 ?_
      refine cy_top (nI_add (5 * c) 4) ?_
      refine cy_iald hC (14) (by decide) hW 0 (i := ((5 * c) + 4)) (rfl) rfl (by omega) (by decide) dX3_foreseen_26 ?_
      refine lv_goto (tgt := 49) hx hb dX3_foreseen_27 (by decide) ?_
      refine cy_topv (congrArg Value.int (show S 14 ((5 * c) + 4) = cq_fn S c x from by simp [cq_fn, c_1, c_14])) ?_
      exact hE  _ _ _ _ _ _ (Nat.le_of_ble_eq_true rfl) (Nat.le_of_ble_eq_true rfl) hW dX3_foreseen_49
  · skip
    refine lv_aload_n hx hb dX3_foreseen_4 rfl (lv_at hl 0 rfl) ?_
    refine lv_iload_n hx hb dX3_foreseen_5 rfl (lv_at hl 1 rfl) ?_
    refine cy_callV (rm := rm_X3_all) (As := [.int (nI c)]) (rest := []) (q0 := 0) (ci := 3) hC.1 hC.2.1 hC.2.2 hW (c_X3_all (c := c) (by omega)) (cwV 1 hts gX3_foreseen_X3_all rfl rfl rfl (by decide +kernel) ⟨Nat.le_of_ble_eq_true rfl, Nat.le_of_ble_eq_true rfl⟩) (cy_w_at (by decide) (rfl)) rfl rfl hl.1 rfl (Nat.le_of_ble_eq_true rfl) dX3_foreseen_6 ⟨Nat.le_of_ble_eq_true rfl, Nat.le_of_ble_eq_true rfl⟩ (k' := 0) (n' := 0) rfl rfl (fun H locs hW => ?_)
    refine lv_goto (tgt := 49) hx hb dX3_foreseen_9 (by decide) ?_
    refine cy_topv (congrArg Value.int (show cq_al S c = cq_fn S c x from by simp [cq_fn, c_1])) ?_
    exact hE  _ _ _ _ _ _ (Nat.le_of_ble_eq_true rfl) (Nat.le_of_ble_eq_true rfl) hW dX3_foreseen_49
abbrev rm_X3_canBlend : Room := { frames := 1, cells := 0, slots := 0, locals := 23 }
set_option maxHeartbeats 4000000 in
set_option maxRecDepth 100000 in
theorem c_X3_canBlend {l : Launch} {D : va_G} {kI kJ kZ kC : ClassId} {ad : Nat → Nat} {S : Nat → Nat → Int32} {tl : va_W} {c : Nat} (hc : c < 12) : cy_M l yX3_canBlend wsX3_canBlend rm_X3_canBlend D (cy_tys kI kJ kZ kC) [.ref (ad 0), .int (nI c)] (cy_Mw kI kZ ad S tl) (some (.int (cq_cb S c))) (cy_Mw kI kZ ad S tl) := by
  refine cy_of (own := RX3) (cc := cX3_canBlend) (maxL := 2) (ret := (some .boolean)) (i := .ireturn) (by decide) rfl rfl (Nat.le_of_ble_eq_true rfl) (cy_endI cq_cb_b) ?_
  intro p e s m args below meth co Q A ls hC hE hW hl
  have hx := hC.1.1; have hb := hC.1.2.1; have hml := hC.1.2.2.1; have hown := hC.1.2.2.2.1; have hts := hC.1.2.2.2.2
  have hl : lv_has ls 2 [(0, .ref (ad 0)), (1, .int (nI c))] := hl
  have hi3 : ∀ w ∈ u_ws RX3 TX3 25, w ∈ wsX3_canBlend := by decide +kernel
  refine lv_aload_n hx hb dX3_canBlend_0 rfl (lv_at hl 0 rfl) ?_
  refine cy_get hC (0) (by decide) hi3 hW (rfl) rfl 14 (by decide) (hts (.fieldLink RX3 35 "CaskYardModel" "isSound" "[Z") (by decide +kernel)) (fun _ h9 => h9) (v := .ref (ad 8)) rfl dX3_canBlend_1 ?_
  refine lv_iload_n hx hb dX3_canBlend_4 rfl (lv_at hl 1 rfl) ?_
  refine cy_zald hC (8) (by decide) hW 2 (i := c) (rfl) rfl (by omega) (by decide) dX3_canBlend_5 ?_
  refine lv_if_eq (tgt := 34) hx hb dX3_canBlend_6 (by decide) (fun c_6 => ?_) (fun c_6 => ?_)
  · skip
    refine lv_iconst (v := 0) hx hb dX3_canBlend_34 (by decide) ?_
    refine cy_topv (congrArg Value.int (show 0 = cq_cb S c from by simp only [cq_cb, c_6, eq_self, ↓reduceIte, not_true_eq_false, not_false_eq_true])) ?_
    exact hE  _ _ _ _ _ _ (Nat.le_of_ble_eq_true rfl) (Nat.le_of_ble_eq_true rfl) hW dX3_canBlend_35
  · skip
    refine lv_aload_n hx hb dX3_canBlend_9 rfl (lv_at hl 0 rfl) ?_
    refine lv_iload_n hx hb dX3_canBlend_10 rfl (lv_at hl 1 rfl) ?_
    refine cy_callV (rm := rm_X3_all) (As := [.int (nI c)]) (rest := []) (q0 := 0) (ci := 3) hC.1 hC.2.1 hC.2.2 hW (c_X3_all (c := c) (by omega)) (cwV 1 hts gX3_canBlend_X3_all rfl rfl rfl (by decide +kernel) ⟨Nat.le_of_ble_eq_true rfl, Nat.le_of_ble_eq_true rfl⟩) (cy_w_at (by decide) (rfl)) rfl rfl hl.1 rfl (Nat.le_of_ble_eq_true rfl) dX3_canBlend_11 ⟨Nat.le_of_ble_eq_true rfl, Nat.le_of_ble_eq_true rfl⟩ (k' := 0) (n' := 0) rfl rfl (fun H locs hW => ?_)
    refine lv_if_le (tgt := 34) hx hb dX3_canBlend_14 (by decide) (fun c_14 => ?_) (fun c_14 => ?_)
    · skip
      refine lv_iconst (v := 0) hx hb dX3_canBlend_34 (by decide) ?_
      refine cy_topv (congrArg Value.int (show 0 = cq_cb S c from by simp only [cq_cb, c_6, c_14, eq_self, ↓reduceIte, not_true_eq_false, not_false_eq_true])) ?_
      exact hE  _ _ _ _ _ _ (Nat.le_of_ble_eq_true rfl) (Nat.le_of_ble_eq_true rfl) hW dX3_canBlend_35
    · skip
      refine lv_aload_n hx hb dX3_canBlend_17 rfl (lv_at hl 0 rfl) ?_
      refine cy_get hC (0) (by decide) hi3 hW (rfl) rfl 20 (by decide) (hts (.fieldLink RX3 54 "CaskYardModel" "holds" "[I") (by decide +kernel)) (fun _ h9 => h9) (v := .ref (ad 14)) rfl dX3_canBlend_18 ?_
      refine lv_iconst (v := 5) hx hb dX3_canBlend_21 (by decide) ?_
      refine lv_iload_n hx hb dX3_canBlend_22 rfl (lv_at hl 1 rfl) ?_
      refine lv_imul hx hb dX3_canBlend_23 ?_
      refine cy_top (pk_mul 5 c) ?_
      refine lv_iconst (v := 4) hx hb dX3_canBlend_24 (by decide) ?_
      refine lv_iadd hx hb dX3_canBlend_25 ?_
      refine cy_top (nI_add (5 * c) 4) ?_
      refine cy_iald hC (14) (by decide) hW 0 (i := ((5 * c) + 4)) (rfl) rfl (by omega) (by decide) dX3_canBlend_26 ?_
      refine lv_if_ne (tgt := 34) hx hb dX3_canBlend_27 (by decide) (fun c_27 => ?_) (fun c_27 => ?_)
      · skip
        refine lv_iconst (v := 0) hx hb dX3_canBlend_34 (by decide) ?_
        refine cy_topv (congrArg Value.int (show 0 = cq_cb S c from by simp only [cq_cb, c_6, c_14, c_27, eq_self, ↓reduceIte, not_true_eq_false, not_false_eq_true])) ?_
        exact hE  _ _ _ _ _ _ (Nat.le_of_ble_eq_true rfl) (Nat.le_of_ble_eq_true rfl) hW dX3_canBlend_35
      · skip
        refine lv_iconst (v := 1) hx hb dX3_canBlend_30 (by decide) ?_
        refine lv_goto (tgt := 35) hx hb dX3_canBlend_31 (by decide) ?_
        refine cy_topv (congrArg Value.int (show 1 = cq_cb S c from by simp only [cq_cb, c_6, c_14, c_27, eq_self, ↓reduceIte, not_true_eq_false, not_false_eq_true])) ?_
        exact hE  _ _ _ _ _ _ (Nat.le_of_ble_eq_true rfl) (Nat.le_of_ble_eq_true rfl) hW dX3_canBlend_35
abbrev rm_X3_tasteOf : Room := { frames := 1, cells := 0, slots := 0, locals := 23 }
set_option maxHeartbeats 4000000 in
set_option maxRecDepth 100000 in
theorem c_X3_tasteOf {l : Launch} {D : va_G} {kI kJ kZ kC : ClassId} {ad : Nat → Nat} {S : Nat → Nat → Int32} {tl : va_W} {c : Nat} (hc : c < 12) (ha : ¬ cq_al S c = 0) : cy_M l yX3_tasteOf wsX3_tasteOf rm_X3_tasteOf D (cy_tys kI kJ kZ kC) [.ref (ad 0), .int (nI c)] (cy_Mw kI kZ ad S tl) (some (.long (cq_to S c))) (cy_Mw kI kZ ad S tl) := by
  refine cy_of (own := RX3) (cc := cX3_tasteOf) (maxL := 2) (ret := (some .long)) (i := .lreturn) (by decide) rfl rfl (Nat.le_of_ble_eq_true rfl) cy_endL ?_
  intro p e s m args below meth co Q A ls hC hE hW hl
  have hx := hC.1.1; have hb := hC.1.2.1; have hml := hC.1.2.2.1; have hown := hC.1.2.2.2.1; have hts := hC.1.2.2.2.2
  have hl : lv_has ls 2 [(0, .ref (ad 0)), (1, .int (nI c))] := hl
  have hi3 : ∀ w ∈ u_ws RX3 TX3 25, w ∈ wsX3_tasteOf := by decide +kernel
  refine lv_ldc2 (v := 1000000) hx hb hown (hts (.constantLong RX3 172 1000000) (by decide +kernel)) dX3_tasteOf_0 ?_
  refine lv_aload_n hx hb dX3_tasteOf_3 rfl (lv_at hl 0 rfl) ?_
  refine cy_get hC (0) (by decide) hi3 hW (rfl) rfl 21 (by decide) (hts (.fieldLink RX3 57 "CaskYardModel" "grains" "[I") (by decide +kernel)) (fun _ h9 => h9) (v := .ref (ad 15)) rfl dX3_tasteOf_4 ?_
  refine lv_iload_n hx hb dX3_tasteOf_7 rfl (lv_at hl 1 rfl) ?_
  refine cy_iald hC (15) (by decide) hW 0 (i := c) (rfl) rfl (by omega) (by decide) dX3_tasteOf_8 ?_
  refine lv_i2l hx hb dX3_tasteOf_9 rfl ?_
  refine lv_ldc2 (v := 1000) hx hb hown (hts (.constantLong RX3 144 1000) (by decide +kernel)) dX3_tasteOf_10 ?_
  refine lv_lmul hx hb dX3_tasteOf_13 ?_
  refine lv_aload_n hx hb dX3_tasteOf_14 rfl (lv_at hl 0 rfl) ?_
  refine lv_iload_n hx hb dX3_tasteOf_15 rfl (lv_at hl 1 rfl) ?_
  refine cy_callV (rm := rm_X3_all) (As := [.int (nI c)]) (rest := [.long (((S 15 c).toInt64) * 1000), .long 1000000]) (q0 := 0) (ci := 3) hC.1 hC.2.1 hC.2.2 hW (c_X3_all (c := c) (by omega)) (cwV 1 hts gX3_tasteOf_X3_all rfl rfl rfl (by decide +kernel) ⟨Nat.le_of_ble_eq_true rfl, Nat.le_of_ble_eq_true rfl⟩) (cy_w_at (by decide) (rfl)) rfl rfl hl.1 rfl (Nat.le_of_ble_eq_true rfl) dX3_tasteOf_16 ⟨Nat.le_of_ble_eq_true rfl, Nat.le_of_ble_eq_true rfl⟩ (k' := 0) (n' := 0) rfl rfl (fun H locs hW => ?_)
  refine lv_i2l hx hb dX3_tasteOf_19 rfl ?_
  refine lv_ldiv hx hb dX3_tasteOf_20 (cy_l0 ha) ?_
  refine va_mmin_long hx hb (hml.trans hl.1.symm) hown (hts (.methodLink RX3 149 Lib.MathLoose.min_long.x) (by decide +kernel)) (hts (.static Lib.MathLoose.min_long.x) (by decide +kernel)) (hts (.initialized "java/lang/Math") (by decide +kernel)) (hts (.code Lib.MathLoose.min_long.x Lib.MathLoose.min_long.code 4 (some .long)) (by decide +kernel)) (Nat.le_of_ble_eq_true rfl) (Nat.le_of_ble_eq_true rfl) (Nat.le_of_ble_eq_true rfl) (Nat.le_of_ble_eq_true rfl) dX3_tasteOf_21 ?_
  refine cy_topv (show _ = Value.long (cy_mnL 1000000 ((((S 15 c).toInt64) * 1000) / ((cq_al S c).toInt64))) from rfl) ?_
  refine cy_topv (congrArg Value.long (show cy_mnL 1000000 ((((S 15 c).toInt64) * 1000) / ((cq_al S c).toInt64)) = cq_to S c from by rfl)) ?_
  exact hE  _ _ _ _ _ _ (Nat.le_of_ble_eq_true rfl) (Nat.le_of_ble_eq_true rfl) hW dX3_tasteOf_24
abbrev rm_X3_counted : Room := { frames := 1, cells := 1, slots := 10, locals := 23 }
set_option maxHeartbeats 4000000 in
set_option maxRecDepth 100000 in
theorem c_X3_counted {l : Launch} {D : va_G} {kI kJ kZ kC : ClassId} {ad : Nat → Nat} {S : Nat → Nat → Int32} {tl : va_W} {x : Nat} (hx10 : x < 10) {ns : Nat} (hns : S 0 4 = nI ns) (h60 : ns ≤ 60) {nc : Nat} (hnc : S 0 12 = nI nc) (h12 : nc ≤ 12) : cy_M l yX3_counted wsX3_counted rm_X3_counted D (cy_tys kI kJ kZ kC) [.ref (ad 0), .int (nI x)] (cy_Mw kI kZ ad S tl) (some (.int (cq_cn S ns nc x))) (cy_Mw kI kZ ad S tl) := by
  refine cy_of (own := RX3) (cc := cX3_counted) (maxL := 7) (ret := (some .int)) (i := .ireturn) (by decide) rfl rfl (Nat.le_of_ble_eq_true rfl) (cy_endI rfl) ?_
  intro p e s m args below meth co Q A ls hC hE hW hl
  have hx := hC.1.1; have hb := hC.1.2.1; have hml := hC.1.2.2.1; have hown := hC.1.2.2.2.1; have hts := hC.1.2.2.2.2
  have hl : lv_has ls 7 [(0, .ref (ad 0)), (1, .int (nI x))] := hl
  have hi3 : ∀ w ∈ u_ws RX3 TX3 25, w ∈ wsX3_counted := by decide +kernel
  refine lv_iconst (v := 0) hx hb dX3_counted_0 (by decide) ?_
  refine lv_istore_n (lv' := [(2, .int 0), (0, .ref (ad 0)), (1, .int (nI x))]) hx hb dX3_counted_1 rfl hl (by decide) rfl (fun ls hl => ?_)
  refine lv_iconst (v := 0) hx hb dX3_counted_2 (by decide) ?_
  refine lv_istore_n (lv' := [(3, .int 0), (2, .int 0), (0, .ref (ad 0)), (1, .int (nI x))]) hx hb dX3_counted_3 rfl hl (by decide) rfl (fun ls hl => ?_)
  refine lv_iconst (v := 0) hx hb dX3_counted_4 (by decide) ?_
  refine lv_istore (lv' := [(4, .int 0), (3, .int 0), (2, .int 0), (0, .ref (ad 0)), (1, .int (nI x))]) hx hb dX3_counted_5 hl (by decide) rfl (fun ls hl => ?_)
  refine lv_iconst (v := 0) hx hb dX3_counted_7 (by decide) ?_
  refine lv_istore (lv' := [(5, .int 0), (4, .int 0), (3, .int 0), (2, .int 0), (0, .ref (ad 0)), (1, .int (nI x))]) hx hb dX3_counted_8 hl (by decide) rfl (fun ls hl => ?_)
  refine lv_iconst (v := 0) hx hb dX3_counted_10 (by decide) ?_
  refine lv_istore (lv' := [(6, .int 0), (5, .int 0), (4, .int 0), (3, .int 0), (2, .int 0), (0, .ref (ad 0)), (1, .int (nI x))]) hx hb dX3_counted_11 hl (by decide) rfl (fun ls hl => ?_)
  have L_13 : ∀ (fu : Nat) (i : Nat), ns - i < fu → (i ≤ ns) → ∀ (H : Heap) (locs : List Loc), cy_W D A s.heap (cy_Mw kI kZ ad S tl) H locs → ∀ (ls : Array Slot), lv_has ls 7 [(2, .int (cq_sa S (-1) i)), (6, .int (nI i)), (3, .int 0), (4, .int 0), (5, .int 0), (0, .ref (ad 0)), (1, .int (nI x))] → W p l e rm_X3_counted s m args below meth co H locs 0 0 Q (F0 m 13 ls []) := by
    intro fu
    induction fu with
    | zero => intro i hn; exact absurd hn (Nat.not_lt_zero _)
    | succ fu ih_13 =>
      intro i hn_13 hi H locs hW ls hl
      refine lv_iload hx hb dX3_counted_13 (lv_at hl 1 rfl) ?_
      refine lv_aload_n hx hb dX3_counted_15 rfl (lv_at hl 5 rfl) ?_
      refine cy_get hC (0) (by decide) hi3 hW (rfl) rfl 4 (by decide) (hts (.fieldLink RX3 78 "CaskYardModel" "staves" "I") (by decide +kernel)) (fun _ h9 => h9) (v := .int (S 0 4)) rfl dX3_counted_16 ?_
      refine cy_top (y := nI ns) hns ?_
      refine lv_icmp_ge (tgt := 47) hx hb dX3_counted_19 (by decide) (fun c_19 => ?_) (fun c_19 => ?_)
      · skip
        have q_19 := cy_le (a := ns) (b := i) (by omega) (by omega) c_19
        obtain rfl : ns = i := by omega
        refine lv_iconst (v := 0) hx hb dX3_counted_47 (by decide) ?_
        refine lv_istore (lv' := [(6, .int 0), (2, .int (cq_sa S (-1) ns)), (3, .int 0), (4, .int 0), (5, .int 0), (0, .ref (ad 0)), (1, .int (nI x))]) hx hb dX3_counted_48 hl (by decide) rfl (fun ls hl => ?_)
        have L_50 : ∀ (fu : Nat) (i : Nat), nc - i < fu → (i ≤ nc) → ∀ (H : Heap) (locs : List Loc), cy_W D A s.heap (cy_Mw kI kZ ad S tl) H locs → ∀ (ls : Array Slot), lv_has ls 7 [(3, .int (cq_sq S i)), (4, .int (cq_ha S i)), (5, .int (cq_va S i)), (6, .int (nI i)), (2, .int (cq_sa S (-1) ns)), (0, .ref (ad 0)), (1, .int (nI x))] → W p l e rm_X3_counted s m args below meth co H locs 0 0 Q (F0 m 50 ls []) := by
          intro fu
          induction fu with
          | zero => intro i hn; exact absurd hn (Nat.not_lt_zero _)
          | succ fu ih_50 =>
            intro i hn_50 hi H locs hW ls hl
            refine lv_iload hx hb dX3_counted_50 (lv_at hl 3 rfl) ?_
            refine lv_aload_n hx hb dX3_counted_52 rfl (lv_at hl 5 rfl) ?_
            refine cy_get hC (0) (by decide) hi3 hW (rfl) rfl 12 (by decide) (hts (.fieldLink RX3 110 "CaskYardModel" "casks" "I") (by decide +kernel)) (fun _ h9 => h9) (v := .int (S 0 12)) rfl dX3_counted_53 ?_
            refine cy_top (y := nI nc) hnc ?_
            refine lv_icmp_ge (tgt := 110) hx hb dX3_counted_56 (by decide) (fun c_56 => ?_) (fun c_56 => ?_)
            · skip
              have q_56 := cy_le (a := nc) (b := i) (by omega) (by omega) c_56
              obtain rfl : nc = i := by omega
              refine lv_bipush (v := 10) hx hb dX3_counted_110 (by decide) ?_
              refine cy_newI hC hW rfl (hts (.arrayClass .int) (by decide +kernel)) (N := 10) (by decide) (Nat.le_of_ble_eq_true rfl) (Nat.le_of_ble_eq_true rfl) (k' := 1) (n' := 10) rfl rfl dX3_counted_112 (fun q112 H hW => ?_)
              refine lv_dup hx hb dX3_counted_114 rfl ?_
              refine lv_iconst (v := 0) hx hb dX3_counted_115 (by decide) ?_
              refine lv_aload_n hx hb dX3_counted_116 rfl (lv_at hl 5 rfl) ?_
              refine cy_get hC (0) (by decide) hi3 hW (rfl) rfl 1 (by decide) (hts (.fieldLink RX3 151 "CaskYardModel" "month" "I") (by decide +kernel)) (fun _ h9 => h9) (v := .int (S 0 1)) rfl dX3_counted_117 ?_
              refine cy_tiast (tl' := ((q112, .inl (kI, 10, .inl (upd (fun _ => 0) 0 (S 0 1)))) :: tl)) hC 0 q112 hW 0 (i := 0) rfl rfl (by omega) (by decide) rfl dX3_counted_120 (fun H locs hW => ?_)
              refine lv_dup hx hb dX3_counted_121 rfl ?_
              refine lv_iconst (v := 1) hx hb dX3_counted_122 (by decide) ?_
              refine lv_aload_n hx hb dX3_counted_123 rfl (lv_at hl 5 rfl) ?_
              refine cy_get hC (0) (by decide) hi3 hW (rfl) rfl 4 (by decide) (hts (.fieldLink RX3 78 "CaskYardModel" "staves" "I") (by decide +kernel)) (fun _ h9 => h9) (v := .int (S 0 4)) rfl dX3_counted_124 ?_
              refine cy_top (y := nI ns) hns ?_
              refine cy_tiast (tl' := ((q112, .inl (kI, 10, .inl (upd (upd (fun _ => 0) 0 (S 0 1)) 1 (nI ns)))) :: tl)) hC 0 q112 hW 0 (i := 1) rfl rfl (by omega) (by decide) rfl dX3_counted_127 (fun H locs hW => ?_)
              refine lv_dup hx hb dX3_counted_128 rfl ?_
              refine lv_iconst (v := 2) hx hb dX3_counted_129 (by decide) ?_
              refine lv_iload_n hx hb dX3_counted_130 rfl (lv_at hl 4 rfl) ?_
              refine cy_tiast (tl' := ((q112, .inl (kI, 10, .inl (upd (upd (upd (fun _ => 0) 0 (S 0 1)) 1 (nI ns)) 2 (cq_sa S (-1) ns)))) :: tl)) hC 0 q112 hW 0 (i := 2) rfl rfl (by omega) (by decide) rfl dX3_counted_131 (fun H locs hW => ?_)
              refine lv_dup hx hb dX3_counted_132 rfl ?_
              refine lv_iconst (v := 3) hx hb dX3_counted_133 (by decide) ?_
              refine lv_aload_n hx hb dX3_counted_134 rfl (lv_at hl 5 rfl) ?_
              refine cy_get hC (0) (by decide) hi3 hW (rfl) rfl 8 (by decide) (hts (.fieldLink RX3 90 "CaskYardModel" "sorts" "I") (by decide +kernel)) (fun _ h9 => h9) (v := .int (S 0 8)) rfl dX3_counted_135 ?_
              refine cy_tiast (tl' := ((q112, .inl (kI, 10, .inl (upd (upd (upd (upd (fun _ => 0) 0 (S 0 1)) 1 (nI ns)) 2 (cq_sa S (-1) ns)) 3 (S 0 8)))) :: tl)) hC 0 q112 hW 0 (i := 3) rfl rfl (by omega) (by decide) rfl dX3_counted_138 (fun H locs hW => ?_)
              refine lv_dup hx hb dX3_counted_139 rfl ?_
              refine lv_iconst (v := 4) hx hb dX3_counted_140 (by decide) ?_
              refine lv_aload_n hx hb dX3_counted_141 rfl (lv_at hl 5 rfl) ?_
              refine cy_get hC (0) (by decide) hi3 hW (rfl) rfl 12 (by decide) (hts (.fieldLink RX3 110 "CaskYardModel" "casks" "I") (by decide +kernel)) (fun _ h9 => h9) (v := .int (S 0 12)) rfl dX3_counted_142 ?_
              refine cy_top (y := nI nc) hnc ?_
              refine cy_tiast (tl' := ((q112, .inl (kI, 10, .inl (upd (upd (upd (upd (upd (fun _ => 0) 0 (S 0 1)) 1 (nI ns)) 2 (cq_sa S (-1) ns)) 3 (S 0 8)) 4 (nI nc)))) :: tl)) hC 0 q112 hW 0 (i := 4) rfl rfl (by omega) (by decide) rfl dX3_counted_145 (fun H locs hW => ?_)
              refine lv_dup hx hb dX3_counted_146 rfl ?_
              refine lv_iconst (v := 5) hx hb dX3_counted_147 (by decide) ?_
              refine lv_iload_n hx hb dX3_counted_148 rfl (lv_at hl 0 rfl) ?_
              refine cy_tiast (tl' := ((q112, .inl (kI, 10, .inl (upd (upd (upd (upd (upd (upd (fun _ => 0) 0 (S 0 1)) 1 (nI ns)) 2 (cq_sa S (-1) ns)) 3 (S 0 8)) 4 (nI nc)) 5 (cq_sq S nc)))) :: tl)) hC 0 q112 hW 0 (i := 5) rfl rfl (by omega) (by decide) rfl dX3_counted_149 (fun H locs hW => ?_)
              refine lv_dup hx hb dX3_counted_150 rfl ?_
              refine lv_bipush (v := 6) hx hb dX3_counted_151 (by decide) ?_
              refine lv_iload hx hb dX3_counted_153 (lv_at hl 1 rfl) ?_
              refine cy_tiast (tl' := ((q112, .inl (kI, 10, .inl (upd (upd (upd (upd (upd (upd (upd (fun _ => 0) 0 (S 0 1)) 1 (nI ns)) 2 (cq_sa S (-1) ns)) 3 (S 0 8)) 4 (nI nc)) 5 (cq_sq S nc)) 6 (cq_ha S nc)))) :: tl)) hC 0 q112 hW 0 (i := 6) rfl rfl (by omega) (by decide) rfl dX3_counted_155 (fun H locs hW => ?_)
              refine lv_dup hx hb dX3_counted_156 rfl ?_
              refine lv_bipush (v := 7) hx hb dX3_counted_157 (by decide) ?_
              refine lv_iload hx hb dX3_counted_159 (lv_at hl 2 rfl) ?_
              refine cy_tiast (tl' := ((q112, .inl (kI, 10, .inl (upd (upd (upd (upd (upd (upd (upd (upd (fun _ => 0) 0 (S 0 1)) 1 (nI ns)) 2 (cq_sa S (-1) ns)) 3 (S 0 8)) 4 (nI nc)) 5 (cq_sq S nc)) 6 (cq_ha S nc)) 7 (cq_va S nc)))) :: tl)) hC 0 q112 hW 0 (i := 7) rfl rfl (by omega) (by decide) rfl dX3_counted_161 (fun H locs hW => ?_)
              refine lv_dup hx hb dX3_counted_162 rfl ?_
              refine lv_bipush (v := 8) hx hb dX3_counted_163 (by decide) ?_
              refine lv_aload_n hx hb dX3_counted_165 rfl (lv_at hl 5 rfl) ?_
              refine cy_get hC (0) (by decide) hi3 hW (rfl) rfl 3 (by decide) (hts (.fieldLink RX3 154 "CaskYardModel" "lost" "I") (by decide +kernel)) (fun _ h9 => h9) (v := .int (S 0 3)) rfl dX3_counted_166 ?_
              refine cy_tiast (tl' := ((q112, .inl (kI, 10, .inl (upd (upd (upd (upd (upd (upd (upd (upd (upd (fun _ => 0) 0 (S 0 1)) 1 (nI ns)) 2 (cq_sa S (-1) ns)) 3 (S 0 8)) 4 (nI nc)) 5 (cq_sq S nc)) 6 (cq_ha S nc)) 7 (cq_va S nc)) 8 (S 0 3)))) :: tl)) hC 0 q112 hW 0 (i := 8) rfl rfl (by omega) (by decide) rfl dX3_counted_169 (fun H locs hW => ?_)
              refine lv_dup hx hb dX3_counted_170 rfl ?_
              refine lv_bipush (v := 9) hx hb dX3_counted_171 (by decide) ?_
              refine lv_aload_n hx hb dX3_counted_173 rfl (lv_at hl 5 rfl) ?_
              refine cy_get hC (0) (by decide) hi3 hW (rfl) rfl 2 (by decide) (hts (.fieldLink RX3 7 "CaskYardModel" "warmth" "I") (by decide +kernel)) (fun _ h9 => h9) (v := .int (S 0 2)) rfl dX3_counted_174 ?_
              refine cy_tiast (tl' := ((q112, .inl (kI, 10, .inl (upd (upd (upd (upd (upd (upd (upd (upd (upd (upd (fun _ => 0) 0 (S 0 1)) 1 (nI ns)) 2 (cq_sa S (-1) ns)) 3 (S 0 8)) 4 (nI nc)) 5 (cq_sq S nc)) 6 (cq_ha S nc)) 7 (cq_va S nc)) 8 (S 0 3)) 9 (S 0 2)))) :: tl)) hC 0 q112 hW 0 (i := 9) rfl rfl (by omega) (by decide) rfl dX3_counted_177 (fun H locs hW => ?_)
              refine lv_astore (lv' := [(6, .ref q112), (3, .int (cq_sq S nc)), (4, .int (cq_ha S nc)), (5, .int (cq_va S nc)), (2, .int (cq_sa S (-1) ns)), (0, .ref (ad 0)), (1, .int (nI x))]) hx hb dX3_counted_178 hl (by decide) rfl (fun ls hl => ?_)
              have hs_x : x = 0 ∨ x = 1 ∨ x = 2 ∨ x = 3 ∨ x = 4 ∨ x = 5 ∨ x = 6 ∨ x = 7 ∨ x = 8 ∨ x = 9 := by omega
              rcases hs_x with rfl | rfl | rfl | rfl | rfl | rfl | rfl | rfl | rfl | rfl
              · have hl := hl
                have hl : lv_has ls 7 [(6, .ref q112), (3, .int (cq_sq S nc)), (4, .int (cq_ha S nc)), (5, .int (cq_va S nc)), (2, .int (cq_sa S (-1) ns)), (0, .ref (ad 0)), (1, .int 0)] := hl
                refine lv_aload hx hb dX3_counted_180 (lv_at hl 0 rfl) ?_
                refine lv_iload_n hx hb dX3_counted_182 rfl (lv_at hl 6 rfl) ?_
                refine cy_tiald hC 0 q112 hW 0 (i := 0) rfl rfl (by omega) (by decide) dX3_counted_183 ?_
                have hW := cy_drop hW
                exact hE  _ _ _ _ _ _ (Nat.le_of_ble_eq_true rfl) (Nat.le_of_ble_eq_true rfl) hW dX3_counted_184
              · have hl := hl
                have hl : lv_has ls 7 [(6, .ref q112), (3, .int (cq_sq S nc)), (4, .int (cq_ha S nc)), (5, .int (cq_va S nc)), (2, .int (cq_sa S (-1) ns)), (0, .ref (ad 0)), (1, .int 1)] := hl
                refine lv_aload hx hb dX3_counted_180 (lv_at hl 0 rfl) ?_
                refine lv_iload_n hx hb dX3_counted_182 rfl (lv_at hl 6 rfl) ?_
                refine cy_tiald hC 0 q112 hW 0 (i := 1) rfl rfl (by omega) (by decide) dX3_counted_183 ?_
                have hW := cy_drop hW
                exact hE  _ _ _ _ _ _ (Nat.le_of_ble_eq_true rfl) (Nat.le_of_ble_eq_true rfl) hW dX3_counted_184
              · have hl := hl
                have hl : lv_has ls 7 [(6, .ref q112), (3, .int (cq_sq S nc)), (4, .int (cq_ha S nc)), (5, .int (cq_va S nc)), (2, .int (cq_sa S (-1) ns)), (0, .ref (ad 0)), (1, .int 2)] := hl
                refine lv_aload hx hb dX3_counted_180 (lv_at hl 0 rfl) ?_
                refine lv_iload_n hx hb dX3_counted_182 rfl (lv_at hl 6 rfl) ?_
                refine cy_tiald hC 0 q112 hW 0 (i := 2) rfl rfl (by omega) (by decide) dX3_counted_183 ?_
                have hW := cy_drop hW
                exact hE  _ _ _ _ _ _ (Nat.le_of_ble_eq_true rfl) (Nat.le_of_ble_eq_true rfl) hW dX3_counted_184
              · have hl := hl
                have hl : lv_has ls 7 [(6, .ref q112), (3, .int (cq_sq S nc)), (4, .int (cq_ha S nc)), (5, .int (cq_va S nc)), (2, .int (cq_sa S (-1) ns)), (0, .ref (ad 0)), (1, .int 3)] := hl
                refine lv_aload hx hb dX3_counted_180 (lv_at hl 0 rfl) ?_
                refine lv_iload_n hx hb dX3_counted_182 rfl (lv_at hl 6 rfl) ?_
                refine cy_tiald hC 0 q112 hW 0 (i := 3) rfl rfl (by omega) (by decide) dX3_counted_183 ?_
                have hW := cy_drop hW
                exact hE  _ _ _ _ _ _ (Nat.le_of_ble_eq_true rfl) (Nat.le_of_ble_eq_true rfl) hW dX3_counted_184
              · have hl := hl
                have hl : lv_has ls 7 [(6, .ref q112), (3, .int (cq_sq S nc)), (4, .int (cq_ha S nc)), (5, .int (cq_va S nc)), (2, .int (cq_sa S (-1) ns)), (0, .ref (ad 0)), (1, .int 4)] := hl
                refine lv_aload hx hb dX3_counted_180 (lv_at hl 0 rfl) ?_
                refine lv_iload_n hx hb dX3_counted_182 rfl (lv_at hl 6 rfl) ?_
                refine cy_tiald hC 0 q112 hW 0 (i := 4) rfl rfl (by omega) (by decide) dX3_counted_183 ?_
                have hW := cy_drop hW
                exact hE  _ _ _ _ _ _ (Nat.le_of_ble_eq_true rfl) (Nat.le_of_ble_eq_true rfl) hW dX3_counted_184
              · have hl := hl
                have hl : lv_has ls 7 [(6, .ref q112), (3, .int (cq_sq S nc)), (4, .int (cq_ha S nc)), (5, .int (cq_va S nc)), (2, .int (cq_sa S (-1) ns)), (0, .ref (ad 0)), (1, .int 5)] := hl
                refine lv_aload hx hb dX3_counted_180 (lv_at hl 0 rfl) ?_
                refine lv_iload_n hx hb dX3_counted_182 rfl (lv_at hl 6 rfl) ?_
                refine cy_tiald hC 0 q112 hW 0 (i := 5) rfl rfl (by omega) (by decide) dX3_counted_183 ?_
                have hW := cy_drop hW
                exact hE  _ _ _ _ _ _ (Nat.le_of_ble_eq_true rfl) (Nat.le_of_ble_eq_true rfl) hW dX3_counted_184
              · have hl := hl
                have hl : lv_has ls 7 [(6, .ref q112), (3, .int (cq_sq S nc)), (4, .int (cq_ha S nc)), (5, .int (cq_va S nc)), (2, .int (cq_sa S (-1) ns)), (0, .ref (ad 0)), (1, .int 6)] := hl
                refine lv_aload hx hb dX3_counted_180 (lv_at hl 0 rfl) ?_
                refine lv_iload_n hx hb dX3_counted_182 rfl (lv_at hl 6 rfl) ?_
                refine cy_tiald hC 0 q112 hW 0 (i := 6) rfl rfl (by omega) (by decide) dX3_counted_183 ?_
                have hW := cy_drop hW
                exact hE  _ _ _ _ _ _ (Nat.le_of_ble_eq_true rfl) (Nat.le_of_ble_eq_true rfl) hW dX3_counted_184
              · have hl := hl
                have hl : lv_has ls 7 [(6, .ref q112), (3, .int (cq_sq S nc)), (4, .int (cq_ha S nc)), (5, .int (cq_va S nc)), (2, .int (cq_sa S (-1) ns)), (0, .ref (ad 0)), (1, .int 7)] := hl
                refine lv_aload hx hb dX3_counted_180 (lv_at hl 0 rfl) ?_
                refine lv_iload_n hx hb dX3_counted_182 rfl (lv_at hl 6 rfl) ?_
                refine cy_tiald hC 0 q112 hW 0 (i := 7) rfl rfl (by omega) (by decide) dX3_counted_183 ?_
                have hW := cy_drop hW
                exact hE  _ _ _ _ _ _ (Nat.le_of_ble_eq_true rfl) (Nat.le_of_ble_eq_true rfl) hW dX3_counted_184
              · have hl := hl
                have hl : lv_has ls 7 [(6, .ref q112), (3, .int (cq_sq S nc)), (4, .int (cq_ha S nc)), (5, .int (cq_va S nc)), (2, .int (cq_sa S (-1) ns)), (0, .ref (ad 0)), (1, .int 8)] := hl
                refine lv_aload hx hb dX3_counted_180 (lv_at hl 0 rfl) ?_
                refine lv_iload_n hx hb dX3_counted_182 rfl (lv_at hl 6 rfl) ?_
                refine cy_tiald hC 0 q112 hW 0 (i := 8) rfl rfl (by omega) (by decide) dX3_counted_183 ?_
                have hW := cy_drop hW
                exact hE  _ _ _ _ _ _ (Nat.le_of_ble_eq_true rfl) (Nat.le_of_ble_eq_true rfl) hW dX3_counted_184
              · have hl := hl
                have hl : lv_has ls 7 [(6, .ref q112), (3, .int (cq_sq S nc)), (4, .int (cq_ha S nc)), (5, .int (cq_va S nc)), (2, .int (cq_sa S (-1) ns)), (0, .ref (ad 0)), (1, .int 9)] := hl
                refine lv_aload hx hb dX3_counted_180 (lv_at hl 0 rfl) ?_
                refine lv_iload_n hx hb dX3_counted_182 rfl (lv_at hl 6 rfl) ?_
                refine cy_tiald hC 0 q112 hW 0 (i := 9) rfl rfl (by omega) (by decide) dX3_counted_183 ?_
                have hW := cy_drop hW
                exact hE  _ _ _ _ _ _ (Nat.le_of_ble_eq_true rfl) (Nat.le_of_ble_eq_true rfl) hW dX3_counted_184
            · skip
              have q_56 := cy_nle (a := nc) (b := i) (by omega) (by omega) c_56
              refine lv_iload_n hx hb dX3_counted_59 rfl (lv_at hl 0 rfl) ?_
              refine lv_aload_n hx hb dX3_counted_60 rfl (lv_at hl 5 rfl) ?_
              refine cy_get hC (0) (by decide) hi3 hW (rfl) rfl 14 (by decide) (hts (.fieldLink RX3 35 "CaskYardModel" "isSound" "[Z") (by decide +kernel)) (fun _ h9 => h9) (v := .ref (ad 8)) rfl dX3_counted_61 ?_
              refine lv_iload hx hb dX3_counted_64 (lv_at hl 3 rfl) ?_
              refine cy_zald hC (8) (by decide) hW 2 (i := i) (rfl) rfl (by omega) (by decide) dX3_counted_66 ?_
              refine lv_if_eq (tgt := 74) hx hb dX3_counted_67 (by decide) (fun c_67 => ?_) (fun c_67 => ?_)
              · skip
                refine lv_iconst (v := 0) hx hb dX3_counted_74 (by decide) ?_
                refine lv_iadd hx hb dX3_counted_75 ?_
                refine lv_istore_n (lv' := [(3, .int ((cq_sq S i) + 0)), (4, .int (cq_ha S i)), (5, .int (cq_va S i)), (6, .int (nI i)), (2, .int (cq_sa S (-1) ns)), (0, .ref (ad 0)), (1, .int (nI x))]) hx hb dX3_counted_76 rfl hl (by decide) rfl (fun ls hl => ?_)
                refine lv_iload hx hb dX3_counted_77 (lv_at hl 1 rfl) ?_
                refine lv_aload_n hx hb dX3_counted_79 rfl (lv_at hl 5 rfl) ?_
                refine lv_iload hx hb dX3_counted_80 (lv_at hl 3 rfl) ?_
                refine cy_callV (rm := rm_X3_all) (As := [.int (nI i)]) (rest := [.int (cq_ha S i)]) (q0 := 0) (ci := 3) hC.1 hC.2.1 hC.2.2 hW (c_X3_all (c := i) (by omega)) (cwV 1 hts gX3_counted_X3_all rfl rfl rfl (by decide +kernel) ⟨Nat.le_of_ble_eq_true rfl, Nat.le_of_ble_eq_true rfl⟩) (cy_w_at (by decide) (rfl)) rfl rfl hl.1 rfl (Nat.le_of_ble_eq_true rfl) dX3_counted_82 ⟨Nat.le_of_ble_eq_true rfl, Nat.le_of_ble_eq_true rfl⟩ (k' := 0) (n' := 0) rfl rfl (fun H locs hW => ?_)
                refine lv_iadd hx hb dX3_counted_85 ?_
                refine lv_istore (lv' := [(4, .int ((cq_ha S i) + (cq_al S i))), (3, .int ((cq_sq S i) + 0)), (5, .int (cq_va S i)), (6, .int (nI i)), (2, .int (cq_sa S (-1) ns)), (0, .ref (ad 0)), (1, .int (nI x))]) hx hb dX3_counted_86 hl (by decide) rfl (fun ls hl => ?_)
                refine lv_iload hx hb dX3_counted_88 (lv_at hl 2 rfl) ?_
                refine lv_aload_n hx hb dX3_counted_90 rfl (lv_at hl 5 rfl) ?_
                refine cy_get hC (0) (by decide) hi3 hW (rfl) rfl 20 (by decide) (hts (.fieldLink RX3 54 "CaskYardModel" "holds" "[I") (by decide +kernel)) (fun _ h9 => h9) (v := .ref (ad 14)) rfl dX3_counted_91 ?_
                refine lv_iconst (v := 5) hx hb dX3_counted_94 (by decide) ?_
                refine lv_iload hx hb dX3_counted_95 (lv_at hl 3 rfl) ?_
                refine lv_imul hx hb dX3_counted_97 ?_
                refine cy_top (pk_mul 5 i) ?_
                refine lv_iconst (v := 4) hx hb dX3_counted_98 (by decide) ?_
                refine lv_iadd hx hb dX3_counted_99 ?_
                refine cy_top (nI_add (5 * i) 4) ?_
                refine cy_iald hC (14) (by decide) hW 0 (i := ((5 * i) + 4)) (rfl) rfl (by omega) (by decide) dX3_counted_100 ?_
                refine lv_iadd hx hb dX3_counted_101 ?_
                refine lv_istore (lv' := [(5, .int ((cq_va S i) + (S 14 ((5 * i) + 4)))), (4, .int ((cq_ha S i) + (cq_al S i))), (3, .int ((cq_sq S i) + 0)), (6, .int (nI i)), (2, .int (cq_sa S (-1) ns)), (0, .ref (ad 0)), (1, .int (nI x))]) hx hb dX3_counted_102 hl (by decide) rfl (fun ls hl => ?_)
                refine lv_iinc (v := nI (i + 1)) (lv' := [(6, .int (nI (i + 1))), (5, .int ((cq_va S i) + (S 14 ((5 * i) + 4)))), (4, .int ((cq_ha S i) + (cq_al S i))), (3, .int ((cq_sq S i) + 0)), (2, .int (cq_sa S (-1) ns)), (0, .ref (ad 0)), (1, .int (nI x))]) hx hb dX3_counted_104 hl (k := 3) rfl (nI_1 i) (by decide) rfl (fun ls hl => ?_)
                refine lv_goto (tgt := 50) hx hb dX3_counted_107 (by decide) ?_
                rw [show (cq_sq S i) + 0 = cq_sq S (i + 1) from by simp only [cq_sq, c_56, c_67, ↓reduceIte]] at hl
                exact ih_50 (i + 1) (by omega) (by omega) _ _ hW _ (lv_sub hl [3, 2, 1, 0, 4, 5, 6] rfl)
              · skip
                refine lv_iconst (v := 1) hx hb dX3_counted_70 (by decide) ?_
                refine lv_goto (tgt := 75) hx hb dX3_counted_71 (by decide) ?_
                refine lv_iadd hx hb dX3_counted_75 ?_
                refine lv_istore_n (lv' := [(3, .int ((cq_sq S i) + 1)), (4, .int (cq_ha S i)), (5, .int (cq_va S i)), (6, .int (nI i)), (2, .int (cq_sa S (-1) ns)), (0, .ref (ad 0)), (1, .int (nI x))]) hx hb dX3_counted_76 rfl hl (by decide) rfl (fun ls hl => ?_)
                refine lv_iload hx hb dX3_counted_77 (lv_at hl 1 rfl) ?_
                refine lv_aload_n hx hb dX3_counted_79 rfl (lv_at hl 5 rfl) ?_
                refine lv_iload hx hb dX3_counted_80 (lv_at hl 3 rfl) ?_
                refine cy_callV (rm := rm_X3_all) (As := [.int (nI i)]) (rest := [.int (cq_ha S i)]) (q0 := 0) (ci := 3) hC.1 hC.2.1 hC.2.2 hW (c_X3_all (c := i) (by omega)) (cwV 1 hts gX3_counted_X3_all rfl rfl rfl (by decide +kernel) ⟨Nat.le_of_ble_eq_true rfl, Nat.le_of_ble_eq_true rfl⟩) (cy_w_at (by decide) (rfl)) rfl rfl hl.1 rfl (Nat.le_of_ble_eq_true rfl) dX3_counted_82 ⟨Nat.le_of_ble_eq_true rfl, Nat.le_of_ble_eq_true rfl⟩ (k' := 0) (n' := 0) rfl rfl (fun H locs hW => ?_)
                refine lv_iadd hx hb dX3_counted_85 ?_
                refine lv_istore (lv' := [(4, .int ((cq_ha S i) + (cq_al S i))), (3, .int ((cq_sq S i) + 1)), (5, .int (cq_va S i)), (6, .int (nI i)), (2, .int (cq_sa S (-1) ns)), (0, .ref (ad 0)), (1, .int (nI x))]) hx hb dX3_counted_86 hl (by decide) rfl (fun ls hl => ?_)
                refine lv_iload hx hb dX3_counted_88 (lv_at hl 2 rfl) ?_
                refine lv_aload_n hx hb dX3_counted_90 rfl (lv_at hl 5 rfl) ?_
                refine cy_get hC (0) (by decide) hi3 hW (rfl) rfl 20 (by decide) (hts (.fieldLink RX3 54 "CaskYardModel" "holds" "[I") (by decide +kernel)) (fun _ h9 => h9) (v := .ref (ad 14)) rfl dX3_counted_91 ?_
                refine lv_iconst (v := 5) hx hb dX3_counted_94 (by decide) ?_
                refine lv_iload hx hb dX3_counted_95 (lv_at hl 3 rfl) ?_
                refine lv_imul hx hb dX3_counted_97 ?_
                refine cy_top (pk_mul 5 i) ?_
                refine lv_iconst (v := 4) hx hb dX3_counted_98 (by decide) ?_
                refine lv_iadd hx hb dX3_counted_99 ?_
                refine cy_top (nI_add (5 * i) 4) ?_
                refine cy_iald hC (14) (by decide) hW 0 (i := ((5 * i) + 4)) (rfl) rfl (by omega) (by decide) dX3_counted_100 ?_
                refine lv_iadd hx hb dX3_counted_101 ?_
                refine lv_istore (lv' := [(5, .int ((cq_va S i) + (S 14 ((5 * i) + 4)))), (4, .int ((cq_ha S i) + (cq_al S i))), (3, .int ((cq_sq S i) + 1)), (6, .int (nI i)), (2, .int (cq_sa S (-1) ns)), (0, .ref (ad 0)), (1, .int (nI x))]) hx hb dX3_counted_102 hl (by decide) rfl (fun ls hl => ?_)
                refine lv_iinc (v := nI (i + 1)) (lv' := [(6, .int (nI (i + 1))), (5, .int ((cq_va S i) + (S 14 ((5 * i) + 4)))), (4, .int ((cq_ha S i) + (cq_al S i))), (3, .int ((cq_sq S i) + 1)), (2, .int (cq_sa S (-1) ns)), (0, .ref (ad 0)), (1, .int (nI x))]) hx hb dX3_counted_104 hl (k := 3) rfl (nI_1 i) (by decide) rfl (fun ls hl => ?_)
                refine lv_goto (tgt := 50) hx hb dX3_counted_107 (by decide) ?_
                rw [show (cq_sq S i) + 1 = cq_sq S (i + 1) from by simp only [cq_sq, c_56, c_67, ↓reduceIte]] at hl
                exact ih_50 (i + 1) (by omega) (by omega) _ _ hW _ (lv_sub hl [3, 2, 1, 0, 4, 5, 6] rfl)
        exact L_50 ((nc - 0) + 1) 0 (Nat.lt_succ_self _) (by omega) _ _ hW _ (lv_sub hl [2, 3, 4, 0, 1, 5, 6] rfl)
      · skip
        have q_19 := cy_nle (a := ns) (b := i) (by omega) (by omega) c_19
        refine lv_iload_n hx hb dX3_counted_22 rfl (lv_at hl 0 rfl) ?_
        refine lv_aload_n hx hb dX3_counted_23 rfl (lv_at hl 5 rfl) ?_
        refine cy_get hC (0) (by decide) hi3 hW (rfl) rfl 7 (by decide) (hts (.fieldLink RX3 20 "CaskYardModel" "where" "[I") (by decide +kernel)) (fun _ h9 => h9) (v := .ref (ad 3)) rfl dX3_counted_24 ?_
        refine lv_iload hx hb dX3_counted_27 (lv_at hl 1 rfl) ?_
        refine cy_iald hC (3) (by decide) hW 0 (i := i) (rfl) rfl (by omega) (by decide) dX3_counted_29 ?_
        refine lv_iconst (v := (-1)) hx hb dX3_counted_30 (by decide) ?_
        refine lv_icmp_ne (tgt := 38) hx hb dX3_counted_31 (by decide) (fun c_31 => ?_) (fun c_31 => ?_)
        · skip
          refine lv_iconst (v := 0) hx hb dX3_counted_38 (by decide) ?_
          refine lv_iadd hx hb dX3_counted_39 ?_
          refine lv_istore_n (lv' := [(2, .int ((cq_sa S (-1) i) + 0)), (6, .int (nI i)), (3, .int 0), (4, .int 0), (5, .int 0), (0, .ref (ad 0)), (1, .int (nI x))]) hx hb dX3_counted_40 rfl hl (by decide) rfl (fun ls hl => ?_)
          refine lv_iinc (v := nI (i + 1)) (lv' := [(6, .int (nI (i + 1))), (2, .int ((cq_sa S (-1) i) + 0)), (3, .int 0), (4, .int 0), (5, .int 0), (0, .ref (ad 0)), (1, .int (nI x))]) hx hb dX3_counted_41 hl (k := 1) rfl (nI_1 i) (by decide) rfl (fun ls hl => ?_)
          refine lv_goto (tgt := 13) hx hb dX3_counted_44 (by decide) ?_
          rw [show (cq_sa S (-1) i) + 0 = cq_sa S (-1) (i + 1) from by simp only [cq_sa, c_19, c_31, ↓reduceIte, not_true_eq_false, not_false_eq_true]] at hl
          exact ih_13 (i + 1) (by omega) (by omega) _ _ hW _ (lv_sub hl [1, 0, 2, 3, 4, 5, 6] rfl)
        · skip
          refine lv_iconst (v := 1) hx hb dX3_counted_34 (by decide) ?_
          refine lv_goto (tgt := 39) hx hb dX3_counted_35 (by decide) ?_
          refine lv_iadd hx hb dX3_counted_39 ?_
          refine lv_istore_n (lv' := [(2, .int ((cq_sa S (-1) i) + 1)), (6, .int (nI i)), (3, .int 0), (4, .int 0), (5, .int 0), (0, .ref (ad 0)), (1, .int (nI x))]) hx hb dX3_counted_40 rfl hl (by decide) rfl (fun ls hl => ?_)
          refine lv_iinc (v := nI (i + 1)) (lv' := [(6, .int (nI (i + 1))), (2, .int ((cq_sa S (-1) i) + 1)), (3, .int 0), (4, .int 0), (5, .int 0), (0, .ref (ad 0)), (1, .int (nI x))]) hx hb dX3_counted_41 hl (k := 1) rfl (nI_1 i) (by decide) rfl (fun ls hl => ?_)
          refine lv_goto (tgt := 13) hx hb dX3_counted_44 (by decide) ?_
          rw [show (cq_sa S (-1) i) + 1 = cq_sa S (-1) (i + 1) from by simp only [cq_sa, c_19, c_31, ↓reduceIte, not_true_eq_false, not_false_eq_true]] at hl
          exact ih_13 (i + 1) (by omega) (by omega) _ _ hW _ (lv_sub hl [1, 0, 2, 3, 4, 5, 6] rfl)
  exact L_13 ((ns - 0) + 1) 0 (Nat.lt_succ_self _) (by omega) _ _ hW _ (lv_sub hl [4, 0, 3, 2, 1, 5, 6] rfl)
abbrev rm_X3_count : Room := { frames := 2, cells := 1, slots := 10, locals := 49 }
set_option maxHeartbeats 4000000 in
set_option maxRecDepth 100000 in
theorem c_X3_count {l : Launch} {D : va_G} {kI kJ kZ kC : ClassId} {ad : Nat → Nat} {S : Nat → Nat → Int32} {tl : va_W} {x : Int32} {ns : Nat} (hns : S 0 4 = nI ns) (h60 : ns ≤ 60) {nc : Nat} (hnc : S 0 12 = nI nc) (h12 : nc ≤ 12) : cy_M l yX3_count wsX3_count rm_X3_count D (cy_tys kI kJ kZ kC) [.ref (ad 0), .int x] (cy_Mw kI kZ ad S tl) (some (.int ((cq_Co S x ns nc).2))) (cy_Mw kI kZ ad (cq_Co S x ns nc).1 tl) := by
  refine cy_of (own := RX3) (cc := cX3_count) (maxL := 2) (ret := (some .int)) (i := .ireturn) (by decide) rfl rfl (Nat.le_of_ble_eq_true rfl) (cy_endI rfl) ?_
  intro p e s m args below meth co Q A ls hC hE hW hl
  have hx := hC.1.1; have hb := hC.1.2.1; have hml := hC.1.2.2.1; have hown := hC.1.2.2.2.1; have hts := hC.1.2.2.2.2
  have hl : lv_has ls 2 [(0, .ref (ad 0)), (1, .int x)] := hl
  have hi3 : ∀ w ∈ u_ws RX3 TX3 25, w ∈ wsX3_count := by decide +kernel
  refine lv_aload_n hx hb dX3_count_0 rfl (lv_at hl 0 rfl) ?_
  refine lv_iconst (v := 0) hx hb dX3_count_1 (by decide) ?_
  refine cy_put hC (0) (by decide) hi3 tyX3 tyX3_ok nmX3 hW (rfl) rfl 0 (by decide) (hts (.fieldLink RX3 67 "CaskYardModel" "thrown" "I") (by decide +kernel)) (fun _ h9 => h9) rfl (ty := .int) (by decide +kernel) rfl rfl (Nat.le_of_ble_eq_true rfl) (upd (S 0) 0 0) cy_hM0 (S' := (va_up S 0 (upd (S 0) 0 0))) rfl dX3_count_2 (fun H locs hW => ?_)
  refine lv_iload_n hx hb dX3_count_5 rfl (lv_at hl 1 rfl) ?_
  refine lv_iconst (v := 0) hx hb dX3_count_6 (by decide) ?_
  refine lv_bipush (v := 9) hx hb dX3_count_7 (by decide) ?_
  refine cy_callS (rm := rm_X3_isIn) (As := [.int x, .int 0, .int 9]) (rest := []) hC.1 hC.2.1 hC.2.2 hW (c_X3_isIn (x := x) (y := 0) (z := 9)) (va_cwS 3 hts gX3_count_X3_isIn rfl rfl rfl (by decide +kernel) ⟨Nat.le_of_ble_eq_true rfl, Nat.le_of_ble_eq_true rfl⟩) rfl hl.1 rfl (Nat.le_of_ble_eq_true rfl) dX3_count_9 ⟨Nat.le_of_ble_eq_true rfl, Nat.le_of_ble_eq_true rfl⟩ (k' := 0) (n' := 0) rfl rfl (fun H locs hW => ?_)
  refine lv_if_eq (tgt := 23) hx hb dX3_count_12 (by decide) (fun c_12 => ?_) (fun c_12 => ?_)
  · skip
    refine lv_aload_n hx hb dX3_count_23 rfl (lv_at hl 0 rfl) ?_
    refine lv_iconst (v := 1) hx hb dX3_count_24 (by decide) ?_
    refine cy_callV (rm := rm_X3_no) (As := [.int 1]) (rest := []) (q0 := 0) (ci := 3) hC.1 hC.2.1 hC.2.2 hW (c_X3_no (x := 1)) (cwV 1 hts gX3_count_X3_no rfl rfl rfl (by decide +kernel) ⟨Nat.le_of_ble_eq_true rfl, Nat.le_of_ble_eq_true rfl⟩) (cy_w_at (by decide) (cy_rd (cy_us) rfl)) rfl rfl hl.1 rfl (Nat.le_of_ble_eq_true rfl) dX3_count_25 ⟨Nat.le_of_ble_eq_true rfl, Nat.le_of_ble_eq_true rfl⟩ (k' := 0) (n' := 0) rfl rfl (fun H locs hW => ?_)
    rw [show va_up (va_up S 0 (upd (S 0) 0 0)) 0 (upd ((va_up S 0 (upd (S 0) 0 0)) 0) 0 1) = (va_up S 0 (upd (upd (S 0) 0 0) 0 1)) from by rw [cy_us, cy_uu]] at hW
    refine cy_topv (congrArg Value.int (show 0 = (cq_Co S x ns nc).2 from by simp only [cq_Co, cq_th, cq_rs, c_12, eq_self, ↓reduceIte, not_true_eq_false, not_false_eq_true])) ?_
    have hW := cy_castS (show (va_up S 0 (upd (upd (S 0) 0 0) 0 1)) = (cq_Co S x ns nc).1 from by simp only [cq_Co, cq_th, cq_rs, c_12, eq_self, ↓reduceIte, not_true_eq_false, not_false_eq_true]) hW
    exact hE  _ _ _ _ _ _ (Nat.le_of_ble_eq_true rfl) (Nat.le_of_ble_eq_true rfl) hW dX3_count_28
  · skip
    obtain ⟨k, hk, rfl⟩ := cq_in_l (n := 9) (by decide) c_12
    have clk : (nI k).toNatClampNeg = k := nI_clamp (by omega)
    have hl : lv_has ls 2 [(0, .ref (ad 0)), (1, .int (nI k))] := hl
    refine lv_aload_n hx hb dX3_count_15 rfl (lv_at hl 0 rfl) ?_
    refine lv_iload_n hx hb dX3_count_16 rfl (lv_at hl 1 rfl) ?_
    refine cy_callV (rm := rm_X3_counted) (As := [.int (nI k)]) (rest := []) (q0 := 0) (ci := 3) hC.1 hC.2.1 hC.2.2 hW (c_X3_counted (S := (va_up S 0 (upd (S 0) 0 0))) (x := k) (by omega) (ns := ns) hns (by omega) (nc := nc) hnc (by omega)) (cwV 1 hts gX3_count_X3_counted rfl rfl rfl (by decide +kernel) ⟨Nat.le_of_ble_eq_true rfl, Nat.le_of_ble_eq_true rfl⟩) (cy_w_at (by decide) (cy_rd (cy_us) rfl)) rfl rfl hl.1 rfl (Nat.le_of_ble_eq_true rfl) dX3_count_17 ⟨Nat.le_of_ble_eq_true rfl, Nat.le_of_ble_eq_true rfl⟩ (k' := 1) (n' := 10) rfl rfl (fun H locs hW => ?_)
    refine lv_goto (tgt := 28) hx hb dX3_count_20 (by decide) ?_
    refine cy_topv (congrArg Value.int (show cq_cn (va_up S 0 (upd (S 0) 0 0)) ns nc k = (cq_Co S (nI k) ns nc).2 from by simp only [cq_Co, cq_th, cq_rs, c_12, clk, eq_self, ↓reduceIte, not_true_eq_false, not_false_eq_true])) ?_
    have hW := cy_castS (show (va_up S 0 (upd (S 0) 0 0)) = (cq_Co S (nI k) ns nc).1 from by simp only [cq_Co, cq_th, cq_rs, c_12, clk, eq_self, ↓reduceIte, not_true_eq_false, not_false_eq_true]) hW
    exact hE  _ _ _ _ _ _ (Nat.le_of_ble_eq_true rfl) (Nat.le_of_ble_eq_true rfl) hW dX3_count_28
abbrev rm_X3_pass_ : Room := { frames := 4, cells := 0, slots := 0, locals := 92 }
set_option maxHeartbeats 4000000 in
set_option maxRecDepth 100000 in
theorem c_X3_pass_ {l : Launch} {D : va_G} {kI kJ kZ kC : ClassId} {ad : Nat → Nat} {S : Nat → Nat → Int32} {tl : va_W} {x : Int32} {ns : Nat} (hns : S 0 4 = nI ns) (h60 : ns ≤ 60) {nc : Nat} (hnc : S 0 12 = nI nc) (h12 : nc ≤ 12) (hq : cq_ok S) : cy_M l yX3_pass_ wsX3_pass_ rm_X3_pass_ D (cy_tys kI kJ kZ kC) [.ref (ad 0), .int x] (cy_Mw kI kZ ad S tl) (some (.int ((cq_Pa S x ns nc).2))) (cy_Mw kI kZ ad (cq_Pa S x ns nc).1 tl) := by
  refine cy_of (own := RX3) (cc := cX3_pass_) (maxL := 5) (ret := (some .int)) (i := .ireturn) (by decide) rfl rfl (Nat.le_of_ble_eq_true rfl) (cy_endI rfl) ?_
  intro p e s m args below meth co Q A ls hC hE hW hl
  have hx := hC.1.1; have hb := hC.1.2.1; have hml := hC.1.2.2.1; have hown := hC.1.2.2.2.1; have hts := hC.1.2.2.2.2
  have hl : lv_has ls 5 [(0, .ref (ad 0)), (1, .int x)] := hl
  have hi3 : ∀ w ∈ u_ws RX3 TX3 25, w ∈ wsX3_pass_ := by decide +kernel
  refine lv_aload_n hx hb dX3_pass__0 rfl (lv_at hl 0 rfl) ?_
  refine lv_iconst (v := 0) hx hb dX3_pass__1 (by decide) ?_
  refine cy_put hC (0) (by decide) hi3 tyX3 tyX3_ok nmX3 hW (rfl) rfl 0 (by decide) (hts (.fieldLink RX3 67 "CaskYardModel" "thrown" "I") (by decide +kernel)) (fun _ h9 => h9) rfl (ty := .int) (by decide +kernel) rfl rfl (Nat.le_of_ble_eq_true rfl) (upd (S 0) 0 0) cy_hM0 (S' := (va_up S 0 (upd (S 0) 0 0))) rfl dX3_pass__2 (fun H locs hW => ?_)
  refine lv_iload_n hx hb dX3_pass__5 rfl (lv_at hl 1 rfl) ?_
  refine lv_iconst (v := 1) hx hb dX3_pass__6 (by decide) ?_
  refine lv_bipush (v := 60) hx hb dX3_pass__7 (by decide) ?_
  refine cy_callS (rm := rm_X3_isIn) (As := [.int x, .int 1, .int 60]) (rest := []) hC.1 hC.2.1 hC.2.2 hW (c_X3_isIn (x := x) (y := 1) (z := 60)) (va_cwS 3 hts gX3_pass__X3_isIn rfl rfl rfl (by decide +kernel) ⟨Nat.le_of_ble_eq_true rfl, Nat.le_of_ble_eq_true rfl⟩) rfl hl.1 rfl (Nat.le_of_ble_eq_true rfl) dX3_pass__9 ⟨Nat.le_of_ble_eq_true rfl, Nat.le_of_ble_eq_true rfl⟩ (k' := 0) (n' := 0) rfl rfl (fun H locs hW => ?_)
  refine lv_if_ne (tgt := 21) hx hb dX3_pass__12 (by decide) (fun c_12 => ?_) (fun c_12 => ?_)
  · skip
    obtain ⟨k, hk, rfl⟩ := cq_in_l1 (n := 60) (by decide) c_12
    have clk : (nI k).toNatClampNeg = k := nI_clamp (by omega)
    have hl : lv_has ls 5 [(0, .ref (ad 0)), (1, .int (nI k))] := hl
    refine lv_aload_n hx hb dX3_pass__21 rfl (lv_at hl 0 rfl) ?_
    refine cy_get hC (0) (by decide) hi3 hW (cy_rd (cy_us) rfl) rfl 1 (by decide) (hts (.fieldLink RX3 151 "CaskYardModel" "month" "I") (by decide +kernel)) (fun _ h9 => h9) (v := .int ((S 0) 1)) rfl dX3_pass__22 ?_
    refine lv_iload_n hx hb dX3_pass__25 rfl (lv_at hl 1 rfl) ?_
    refine lv_iadd hx hb dX3_pass__26 ?_
    refine lv_sipush (v := 1200) hx hb dX3_pass__27 (by decide) ?_
    refine lv_icmp_le (tgt := 39) hx hb dX3_pass__30 (by decide) (fun c_30 => ?_) (fun c_30 => ?_)
    · skip
      refine lv_aload_n hx hb dX3_pass__39 rfl (lv_at hl 0 rfl) ?_
      refine cy_get hC (0) (by decide) hi3 hW (cy_rd (cy_us) rfl) rfl 3 (by decide) (hts (.fieldLink RX3 154 "CaskYardModel" "lost" "I") (by decide +kernel)) (fun _ h9 => h9) (v := .int ((S 0) 3)) rfl dX3_pass__40 ?_
      refine lv_istore_n (lv' := [(2, .int (S 0 3)), (0, .ref (ad 0)), (1, .int (nI k))]) hx hb dX3_pass__43 rfl hl (by decide) rfl (fun ls hl => ?_)
      refine lv_iconst (v := 0) hx hb dX3_pass__44 (by decide) ?_
      refine lv_istore_n (lv' := [(3, .int 0), (2, .int (S 0 3)), (0, .ref (ad 0)), (1, .int (nI k))]) hx hb dX3_pass__45 rfl hl (by decide) rfl (fun ls hl => ?_)
      have L_46 : ∀ (fu : Nat) (t : Nat), k - t < fu → (t ≤ k) → ∀ (H : Heap) (locs : List Loc), cy_W D A s.heap (cy_Mw kI kZ ad (cq_pm (cq_rs S) ns nc t) tl) H locs → ∀ (ls : Array Slot), lv_has ls 5 [(2, .int (S 0 3)), (3, .int (nI t)), (0, .ref (ad 0)), (1, .int (nI k))] → W p l e rm_X3_pass_ s m args below meth co H locs 0 0 Q (F0 m 46 ls []) := by
        intro fu
        induction fu with
        | zero => intro t hn; exact absurd hn (Nat.not_lt_zero _)
        | succ fu ih_46 =>
          intro t hn_46 ht H locs hW ls hl
          refine lv_iload_n hx hb dX3_pass__46 rfl (lv_at hl 1 rfl) ?_
          refine lv_iload_n hx hb dX3_pass__47 rfl (lv_at hl 3 rfl) ?_
          refine lv_icmp_ge (tgt := 166) hx hb dX3_pass__48 (by decide) (fun c_48 => ?_) (fun c_48 => ?_)
          · skip
            have q_48 := cy_le (a := k) (b := t) (by omega) (by omega) c_48
            obtain rfl : k = t := by omega
            refine lv_aload_n hx hb dX3_pass__166 rfl (lv_at hl 2 rfl) ?_
            refine cy_get hC (0) (by decide) hi3 hW (rfl) rfl 3 (by decide) (hts (.fieldLink RX3 154 "CaskYardModel" "lost" "I") (by decide +kernel)) (fun _ h9 => h9) (v := .int (((cq_pm (cq_rs S) ns nc k) 0) 3)) rfl dX3_pass__167 ?_
            refine lv_iload_n hx hb dX3_pass__170 rfl (lv_at hl 0 rfl) ?_
            refine lv_isub hx hb dX3_pass__171 ?_
            refine cy_topv (congrArg Value.int (show ((cq_pm (cq_rs S) ns nc k) 0 3) - (S 0 3) = (cq_Pa S (nI k) ns nc).2 from by simp only [cq_Pa, c_12, c_30, c_48, clk, eq_self, ↓reduceIte, not_true_eq_false, not_false_eq_true])) ?_
            have hW := cy_castS (show (cq_pm (cq_rs S) ns nc k) = (cq_Pa S (nI k) ns nc).1 from by simp only [cq_Pa, cq_th, c_12, c_30, c_48, clk, eq_self, ↓reduceIte, not_true_eq_false, not_false_eq_true]) hW
            exact hE  _ _ _ _ _ _ (Nat.le_of_ble_eq_true rfl) (Nat.le_of_ble_eq_true rfl) hW dX3_pass__172
          · skip
            have q_48 := cy_nle (a := k) (b := t) (by omega) (by omega) c_48
            refine lv_iconst (v := 0) hx hb dX3_pass__51 (by decide) ?_
            refine lv_istore (lv' := [(4, .int 0), (2, .int (S 0 3)), (3, .int (nI t)), (0, .ref (ad 0)), (1, .int (nI k))]) hx hb dX3_pass__52 hl (by decide) rfl (fun ls hl => ?_)
            have L_54 : ∀ (fu : Nat) (i : Nat), ns - i < fu → (i ≤ ns) → ∀ (H : Heap) (locs : List Loc), cy_W D A s.heap (cy_Mw kI kZ ad (cq_se (cq_pm (cq_rs S) ns nc t) i) tl) H locs → ∀ (ls : Array Slot), lv_has ls 5 [(4, .int (nI i)), (2, .int (S 0 3)), (3, .int (nI t)), (0, .ref (ad 0)), (1, .int (nI k))] → W p l e rm_X3_pass_ s m args below meth co H locs 0 0 Q (F0 m 54 ls []) := by
              intro fu
              induction fu with
              | zero => intro i hn; exact absurd hn (Nat.not_lt_zero _)
              | succ fu ih_54 =>
                intro i hn_54 hi H locs hW ls hl
                refine lv_iload hx hb dX3_pass__54 (lv_at hl 0 rfl) ?_
                refine lv_aload_n hx hb dX3_pass__56 rfl (lv_at hl 3 rfl) ?_
                refine cy_get hC (0) (by decide) hi3 hW (rfl) rfl 4 (by decide) (hts (.fieldLink RX3 78 "CaskYardModel" "staves" "I") (by decide +kernel)) (fun _ h9 => h9) (v := .int (((cq_se (cq_pm (cq_rs S) ns nc t) i) 0) 4)) rfl dX3_pass__57 ?_
                refine cy_top (y := nI ns) (by rw [cq_se_n (by decide), cq_pm_0 (by decide) (by decide)]; exact hns) ?_
                refine lv_icmp_ge (tgt := 101) hx hb dX3_pass__60 (by decide) (fun c_60 => ?_) (fun c_60 => ?_)
                · skip
                  have q_60 := cy_le (a := ns) (b := i) (by omega) (by omega) c_60
                  obtain rfl : ns = i := by omega
                  refine lv_iconst (v := 0) hx hb dX3_pass__101 (by decide) ?_
                  refine lv_istore (lv' := [(4, .int 0), (2, .int (S 0 3)), (3, .int (nI t)), (0, .ref (ad 0)), (1, .int (nI k))]) hx hb dX3_pass__102 hl (by decide) rfl (fun ls hl => ?_)
                  have L_104 : ∀ (fu : Nat) (i : Nat), nc - i < fu → (i ≤ nc) → ∀ (H : Heap) (locs : List Loc), cy_W D A s.heap (cy_Mw kI kZ ad (cq_lm (cq_se (cq_pm (cq_rs S) ns nc t) ns) i) tl) H locs → ∀ (ls : Array Slot), lv_has ls 5 [(4, .int (nI i)), (2, .int (S 0 3)), (3, .int (nI t)), (0, .ref (ad 0)), (1, .int (nI k))] → W p l e rm_X3_pass_ s m args below meth co H locs 0 0 Q (F0 m 104 ls []) := by
                    intro fu
                    induction fu with
                    | zero => intro i hn; exact absurd hn (Nat.not_lt_zero _)
                    | succ fu ih_104 =>
                      intro i hn_104 hi H locs hW ls hl
                      have hq7 : cq_ok (cq_lm (cq_se (cq_pm (cq_rs S) ns nc t) ns) i) := cq_ok_of (by rw [cq_lm_n (by decide) (by decide) (by decide) (by decide) (by decide) (by decide), cq_se_n (by decide), cq_pm_n (by decide) (by decide) (by decide) (by decide) (by decide) (by decide) (by decide)]; rfl) (by rw [cq_lm_n (by decide) (by decide) (by decide) (by decide) (by decide) (by decide), cq_se_n (by decide), cq_pm_n (by decide) (by decide) (by decide) (by decide) (by decide) (by decide) (by decide)]; rfl) hq
                      refine lv_iload hx hb dX3_pass__104 (lv_at hl 0 rfl) ?_
                      refine lv_aload_n hx hb dX3_pass__106 rfl (lv_at hl 3 rfl) ?_
                      refine cy_get hC (0) (by decide) hi3 hW (rfl) rfl 12 (by decide) (hts (.fieldLink RX3 110 "CaskYardModel" "casks" "I") (by decide +kernel)) (fun _ h9 => h9) (v := .int (((cq_lm (cq_se (cq_pm (cq_rs S) ns nc t) ns) i) 0) 12)) rfl dX3_pass__107 ?_
                      refine cy_top (y := nI nc) (by rw [cq_lm_0 (by decide), cq_se_n (by decide), cq_pm_0 (by decide) (by decide)]; exact hnc) ?_
                      refine lv_icmp_ge (tgt := 150) hx hb dX3_pass__110 (by decide) (fun c_110 => ?_) (fun c_110 => ?_)
                      · skip
                        have q_110 := cy_le (a := nc) (b := i) (by omega) (by omega) c_110
                        obtain rfl : nc = i := by omega
                        refine lv_aload_n hx hb dX3_pass__150 rfl (lv_at hl 3 rfl) ?_
                        refine lv_dup hx hb dX3_pass__151 rfl ?_
                        refine cy_get hC (0) (by decide) hi3 hW (rfl) rfl 1 (by decide) (hts (.fieldLink RX3 151 "CaskYardModel" "month" "I") (by decide +kernel)) (fun _ h9 => h9) (v := .int (((cq_lm (cq_se (cq_pm (cq_rs S) ns nc t) ns) nc) 0) 1)) rfl dX3_pass__152 ?_
                        refine lv_iconst (v := 1) hx hb dX3_pass__155 (by decide) ?_
                        refine lv_iadd hx hb dX3_pass__156 ?_
                        refine cy_put hC (0) (by decide) hi3 tyX3 tyX3_ok nmX3 hW (rfl) rfl 1 (by decide) (hts (.fieldLink RX3 151 "CaskYardModel" "month" "I") (by decide +kernel)) (fun _ h9 => h9) rfl (ty := .int) (by decide +kernel) rfl rfl (Nat.le_of_ble_eq_true rfl) (upd ((cq_lm (cq_se (cq_pm (cq_rs S) ns nc t) ns) nc) 0) 1 (((cq_lm (cq_se (cq_pm (cq_rs S) ns nc t) ns) nc) 0 1) + 1)) cy_hM1 (S' := (va_up (cq_lm (cq_se (cq_pm (cq_rs S) ns nc t) ns) nc) 0 (upd ((cq_lm (cq_se (cq_pm (cq_rs S) ns nc t) ns) nc) 0) 1 (((cq_lm (cq_se (cq_pm (cq_rs S) ns nc t) ns) nc) 0 1) + 1)))) rfl dX3_pass__157 (fun H locs hW => ?_)
                        refine lv_iinc (v := nI (t + 1)) (lv' := [(3, .int (nI (t + 1))), (4, .int (nI nc)), (2, .int (S 0 3)), (0, .ref (ad 0)), (1, .int (nI k))]) hx hb dX3_pass__160 hl (k := 2) rfl (nI_1 t) (by decide) rfl (fun ls hl => ?_)
                        refine lv_goto (tgt := 46) hx hb dX3_pass__163 (by decide) ?_
                        exact ih_46 (t + 1) (by omega) (by omega) _ _ hW _ (lv_sub hl [2, 0, 3, 4] rfl)
                      · skip
                        have q_110 := cy_nle (a := nc) (b := i) (by omega) (by omega) c_110
                        refine lv_aload_n hx hb dX3_pass__113 rfl (lv_at hl 3 rfl) ?_
                        refine cy_get hC (0) (by decide) hi3 hW (rfl) rfl 14 (by decide) (hts (.fieldLink RX3 35 "CaskYardModel" "isSound" "[Z") (by decide +kernel)) (fun _ h9 => h9) (v := .ref (ad 8)) rfl dX3_pass__114 ?_
                        refine lv_iload hx hb dX3_pass__117 (lv_at hl 0 rfl) ?_
                        refine cy_zald hC (8) (by decide) hW 2 (i := i) (rfl) rfl (by omega) (by decide) dX3_pass__119 ?_
                        refine lv_if_eq (tgt := 144) hx hb dX3_pass__120 (by decide) (fun c_120 => ?_) (fun c_120 => ?_)
                        · skip
                          refine lv_iinc (v := nI (i + 1)) (lv' := [(4, .int (nI (i + 1))), (2, .int (S 0 3)), (3, .int (nI t)), (0, .ref (ad 0)), (1, .int (nI k))]) hx hb dX3_pass__144 hl (k := 0) rfl (nI_1 i) (by decide) rfl (fun ls hl => ?_)
                          refine lv_goto (tgt := 104) hx hb dX3_pass__147 (by decide) ?_
                          have hW := cy_castS (show (cq_lm (cq_se (cq_pm (cq_rs S) ns nc t) ns) i) = (cq_lm (cq_se (cq_pm (cq_rs S) ns nc t) ns) (i + 1)) from by simp only [cq_lm, c_110, c_120, clk, ↓reduceIte]) hW
                          exact ih_104 (i + 1) (by omega) (by omega) _ _ hW _ (lv_sub hl [0, 1, 2, 3, 4] rfl)
                        · skip
                          refine lv_aload_n hx hb dX3_pass__123 rfl (lv_at hl 3 rfl) ?_
                          refine lv_dup hx hb dX3_pass__124 rfl ?_
                          refine cy_get hC (0) (by decide) hi3 hW (rfl) rfl 3 (by decide) (hts (.fieldLink RX3 154 "CaskYardModel" "lost" "I") (by decide +kernel)) (fun _ h9 => h9) (v := .int (((cq_lm (cq_se (cq_pm (cq_rs S) ns nc t) ns) i) 0) 3)) rfl dX3_pass__125 ?_
                          refine lv_aload_n hx hb dX3_pass__128 rfl (lv_at hl 3 rfl) ?_
                          refine lv_iload hx hb dX3_pass__129 (lv_at hl 0 rfl) ?_
                          refine lv_aload_n hx hb dX3_pass__131 rfl (lv_at hl 3 rfl) ?_
                          refine cy_get hC (0) (by decide) hi3 hW (rfl) rfl 1 (by decide) (hts (.fieldLink RX3 151 "CaskYardModel" "month" "I") (by decide +kernel)) (fun _ h9 => h9) (v := .int (((cq_lm (cq_se (cq_pm (cq_rs S) ns nc t) ns) i) 0) 1)) rfl dX3_pass__132 ?_
                          refine lv_iconst (v := 1) hx hb dX3_pass__135 (by decide) ?_
                          refine lv_iadd hx hb dX3_pass__136 ?_
                          refine cy_callV (rm := rm_X3_pass) (As := [.int (nI i), .int (((cq_lm (cq_se (cq_pm (cq_rs S) ns nc t) ns) i) 0 1) + 1)]) (rest := [.int ((cq_lm (cq_se (cq_pm (cq_rs S) ns nc t) ns) i) 0 3), .ref (ad 0)]) (q0 := 0) (ci := 3) hC.1 hC.2.1 hC.2.2 hW (c_X3_pass (c := i) (x := (((cq_lm (cq_se (cq_pm (cq_rs S) ns nc t) ns) i) 0 1) + 1)) (by omega) hq7) (cwV 2 hts gX3_pass__X3_pass rfl rfl rfl (by decide +kernel) ⟨Nat.le_of_ble_eq_true rfl, Nat.le_of_ble_eq_true rfl⟩) (cy_w_at (by decide) (rfl)) rfl rfl hl.1 rfl (Nat.le_of_ble_eq_true rfl) dX3_pass__137 ⟨Nat.le_of_ble_eq_true rfl, Nat.le_of_ble_eq_true rfl⟩ (k' := 0) (n' := 0) rfl rfl (fun H locs hW => ?_)
                          refine lv_iadd hx hb dX3_pass__140 ?_
                          refine cy_put hC (0) (by decide) hi3 tyX3 tyX3_ok nmX3 hW (rfl) rfl 3 (by decide) (hts (.fieldLink RX3 154 "CaskYardModel" "lost" "I") (by decide +kernel)) (fun _ h9 => h9) rfl (ty := .int) (by decide +kernel) rfl rfl (Nat.le_of_ble_eq_true rfl) (upd ((cq_pc (cq_lm (cq_se (cq_pm (cq_rs S) ns nc t) ns) i) i (((cq_lm (cq_se (cq_pm (cq_rs S) ns nc t) ns) i) 0 1) + 1)) 0) 3 (((cq_lm (cq_se (cq_pm (cq_rs S) ns nc t) ns) i) 0 3) + ((cq_p3 (cq_lm (cq_se (cq_pm (cq_rs S) ns nc t) ns) i) i).2))) cy_hM3 (S' := (va_up (cq_pc (cq_lm (cq_se (cq_pm (cq_rs S) ns nc t) ns) i) i (((cq_lm (cq_se (cq_pm (cq_rs S) ns nc t) ns) i) 0 1) + 1)) 0 (upd ((cq_pc (cq_lm (cq_se (cq_pm (cq_rs S) ns nc t) ns) i) i (((cq_lm (cq_se (cq_pm (cq_rs S) ns nc t) ns) i) 0 1) + 1)) 0) 3 (((cq_lm (cq_se (cq_pm (cq_rs S) ns nc t) ns) i) 0 3) + ((cq_p3 (cq_lm (cq_se (cq_pm (cq_rs S) ns nc t) ns) i) i).2))))) rfl dX3_pass__141 (fun H locs hW => ?_)
                          refine lv_iinc (v := nI (i + 1)) (lv' := [(4, .int (nI (i + 1))), (2, .int (S 0 3)), (3, .int (nI t)), (0, .ref (ad 0)), (1, .int (nI k))]) hx hb dX3_pass__144 hl (k := 0) rfl (nI_1 i) (by decide) rfl (fun ls hl => ?_)
                          refine lv_goto (tgt := 104) hx hb dX3_pass__147 (by decide) ?_
                          have hW := cy_castS (show (va_up (cq_pc (cq_lm (cq_se (cq_pm (cq_rs S) ns nc t) ns) i) i (((cq_lm (cq_se (cq_pm (cq_rs S) ns nc t) ns) i) 0 1) + 1)) 0 (upd ((cq_pc (cq_lm (cq_se (cq_pm (cq_rs S) ns nc t) ns) i) i (((cq_lm (cq_se (cq_pm (cq_rs S) ns nc t) ns) i) 0 1) + 1)) 0) 3 (((cq_lm (cq_se (cq_pm (cq_rs S) ns nc t) ns) i) 0 3) + ((cq_p3 (cq_lm (cq_se (cq_pm (cq_rs S) ns nc t) ns) i) i).2)))) = (cq_lm (cq_se (cq_pm (cq_rs S) ns nc t) ns) (i + 1)) from by simp only [cq_lm, c_110, c_120, clk, ↓reduceIte]) hW
                          exact ih_104 (i + 1) (by omega) (by omega) _ _ hW _ (lv_sub hl [0, 1, 2, 3, 4] rfl)
                  exact L_104 ((nc - 0) + 1) 0 (Nat.lt_succ_self _) (by omega) _ _ hW _ (lv_sub hl [0, 1, 2, 3, 4] rfl)
                · skip
                  have q_60 := cy_nle (a := ns) (b := i) (by omega) (by omega) c_60
                  refine lv_aload_n hx hb dX3_pass__63 rfl (lv_at hl 3 rfl) ?_
                  refine cy_get hC (0) (by decide) hi3 hW (rfl) rfl 7 (by decide) (hts (.fieldLink RX3 20 "CaskYardModel" "where" "[I") (by decide +kernel)) (fun _ h9 => h9) (v := .ref (ad 3)) rfl dX3_pass__64 ?_
                  refine lv_iload hx hb dX3_pass__67 (lv_at hl 0 rfl) ?_
                  refine cy_iald hC (3) (by decide) hW 0 (i := i) (rfl) rfl (by omega) (by decide) dX3_pass__69 ?_
                  refine lv_iconst (v := (-1)) hx hb dX3_pass__70 (by decide) ?_
                  refine lv_icmp_ne (tgt := 95) hx hb dX3_pass__71 (by decide) (fun c_71 => ?_) (fun c_71 => ?_)
                  · skip
                    refine lv_iinc (v := nI (i + 1)) (lv' := [(4, .int (nI (i + 1))), (2, .int (S 0 3)), (3, .int (nI t)), (0, .ref (ad 0)), (1, .int (nI k))]) hx hb dX3_pass__95 hl (k := 0) rfl (nI_1 i) (by decide) rfl (fun ls hl => ?_)
                    refine lv_goto (tgt := 54) hx hb dX3_pass__98 (by decide) ?_
                    have hW := cy_castS (show (cq_se (cq_pm (cq_rs S) ns nc t) i) = (cq_se (cq_pm (cq_rs S) ns nc t) (i + 1)) from by simp only [cq_se, c_60, c_71, clk, ↓reduceIte, not_true_eq_false, not_false_eq_true]) hW
                    exact ih_54 (i + 1) (by omega) (by omega) _ _ hW _ (lv_sub hl [0, 1, 2, 3, 4] rfl)
                  · skip
                    refine lv_aload_n hx hb dX3_pass__74 rfl (lv_at hl 3 rfl) ?_
                    refine cy_get hC (0) (by decide) hi3 hW (rfl) rfl 6 (by decide) (hts (.fieldLink RX3 17 "CaskYardModel" "dryness" "[I") (by decide +kernel)) (fun _ h9 => h9) (v := .ref (ad 2)) rfl dX3_pass__75 ?_
                    refine lv_iload hx hb dX3_pass__78 (lv_at hl 0 rfl) ?_
                    refine lv_bipush (v := 100) hx hb dX3_pass__80 (by decide) ?_
                    refine lv_aload_n hx hb dX3_pass__82 rfl (lv_at hl 3 rfl) ?_
                    refine cy_get hC (0) (by decide) hi3 hW (rfl) rfl 6 (by decide) (hts (.fieldLink RX3 17 "CaskYardModel" "dryness" "[I") (by decide +kernel)) (fun _ h9 => h9) (v := .ref (ad 2)) rfl dX3_pass__83 ?_
                    refine lv_iload hx hb dX3_pass__86 (lv_at hl 0 rfl) ?_
                    refine cy_iald hC (2) (by decide) hW 0 (i := i) (rfl) rfl (by omega) (by decide) dX3_pass__88 ?_
                    refine lv_iconst (v := 4) hx hb dX3_pass__89 (by decide) ?_
                    refine lv_iadd hx hb dX3_pass__90 ?_
                    refine va_mmin hx hb (hml.trans hl.1.symm) hown (hts (.methodLink RX3 96 Lib.Math.min.name) (by decide +kernel)) (hts (.static Lib.Math.min.name) (by decide +kernel)) (hts (.initialized "java/lang/Math") (by decide +kernel)) (hts (.code Lib.Math.min.name Lib.Math.min.code 2 (some .int)) (by decide +kernel)) (Nat.le_of_ble_eq_true rfl) (Nat.le_of_ble_eq_true rfl) (Nat.le_of_ble_eq_true rfl) (Nat.le_of_ble_eq_true rfl) dX3_pass__91 ?_
                    refine cy_topv (show _ = Value.int (cy_mn 100 ((((cq_se (cq_pm (cq_rs S) ns nc t) i) 2) i) + 4)) from rfl) ?_
                    refine cy_iast hC (2) (by decide) hW 0 (i := i) (rfl) rfl (by omega) (by decide) (upd ((cq_se (cq_pm (cq_rs S) ns nc t) i) 2) i (cy_mn 100 ((((cq_se (cq_pm (cq_rs S) ns nc t) i) 2) i) + 4))) rfl (S' := (va_up (cq_se (cq_pm (cq_rs S) ns nc t) i) 2 (upd ((cq_se (cq_pm (cq_rs S) ns nc t) i) 2) i (cy_mn 100 ((((cq_se (cq_pm (cq_rs S) ns nc t) i) 2) i) + 4))))) rfl dX3_pass__94 (fun H locs hW => ?_)
                    refine lv_iinc (v := nI (i + 1)) (lv' := [(4, .int (nI (i + 1))), (2, .int (S 0 3)), (3, .int (nI t)), (0, .ref (ad 0)), (1, .int (nI k))]) hx hb dX3_pass__95 hl (k := 0) rfl (nI_1 i) (by decide) rfl (fun ls hl => ?_)
                    refine lv_goto (tgt := 54) hx hb dX3_pass__98 (by decide) ?_
                    have hW := cy_castS (show (va_up (cq_se (cq_pm (cq_rs S) ns nc t) i) 2 (upd ((cq_se (cq_pm (cq_rs S) ns nc t) i) 2) i (cy_mn 100 ((((cq_se (cq_pm (cq_rs S) ns nc t) i) 2) i) + 4)))) = (cq_se (cq_pm (cq_rs S) ns nc t) (i + 1)) from by simp only [cq_se, c_60, c_71, clk, ↓reduceIte, not_true_eq_false, not_false_eq_true]) hW
                    exact ih_54 (i + 1) (by omega) (by omega) _ _ hW _ (lv_sub hl [0, 1, 2, 3, 4] rfl)
            exact L_54 ((ns - 0) + 1) 0 (Nat.lt_succ_self _) (by omega) _ _ hW _ (lv_sub hl [0, 1, 2, 3, 4] rfl)
      exact L_46 ((k - 0) + 1) 0 (Nat.lt_succ_self _) (by omega) _ _ hW _ (lv_sub hl [1, 0, 2, 3] rfl)
    · skip
      refine lv_aload_n hx hb dX3_pass__33 rfl (lv_at hl 0 rfl) ?_
      refine lv_iconst (v := 2) hx hb dX3_pass__34 (by decide) ?_
      refine cy_callV (rm := rm_X3_no) (As := [.int 2]) (rest := []) (q0 := 0) (ci := 3) hC.1 hC.2.1 hC.2.2 hW (c_X3_no (x := 2)) (cwV 1 hts gX3_pass__X3_no rfl rfl rfl (by decide +kernel) ⟨Nat.le_of_ble_eq_true rfl, Nat.le_of_ble_eq_true rfl⟩) (cy_w_at (by decide) (cy_rd (cy_us) rfl)) rfl rfl hl.1 rfl (Nat.le_of_ble_eq_true rfl) dX3_pass__35 ⟨Nat.le_of_ble_eq_true rfl, Nat.le_of_ble_eq_true rfl⟩ (k' := 0) (n' := 0) rfl rfl (fun H locs hW => ?_)
      rw [show va_up (va_up S 0 (upd (S 0) 0 0)) 0 (upd ((va_up S 0 (upd (S 0) 0 0)) 0) 0 2) = (va_up S 0 (upd (upd (S 0) 0 0) 0 2)) from by rw [cy_us, cy_uu]] at hW
      refine cy_topv (congrArg Value.int (show 0 = (cq_Pa S (nI k) ns nc).2 from by simp only [cq_Pa, c_12, c_30, clk, eq_self, ↓reduceIte, not_true_eq_false, not_false_eq_true])) ?_
      have hW := cy_castS (show (va_up S 0 (upd (upd (S 0) 0 0) 0 2)) = (cq_Pa S (nI k) ns nc).1 from by simp only [cq_Pa, cq_th, c_12, c_30, clk, eq_self, ↓reduceIte, not_true_eq_false, not_false_eq_true]) hW
      exact hE  _ _ _ _ _ _ (Nat.le_of_ble_eq_true rfl) (Nat.le_of_ble_eq_true rfl) hW dX3_pass__38
  · skip
    refine lv_aload_n hx hb dX3_pass__15 rfl (lv_at hl 0 rfl) ?_
    refine lv_iconst (v := 1) hx hb dX3_pass__16 (by decide) ?_
    refine cy_callV (rm := rm_X3_no) (As := [.int 1]) (rest := []) (q0 := 0) (ci := 3) hC.1 hC.2.1 hC.2.2 hW (c_X3_no (x := 1)) (cwV 1 hts gX3_pass__X3_no rfl rfl rfl (by decide +kernel) ⟨Nat.le_of_ble_eq_true rfl, Nat.le_of_ble_eq_true rfl⟩) (cy_w_at (by decide) (cy_rd (cy_us) rfl)) rfl rfl hl.1 rfl (Nat.le_of_ble_eq_true rfl) dX3_pass__17 ⟨Nat.le_of_ble_eq_true rfl, Nat.le_of_ble_eq_true rfl⟩ (k' := 0) (n' := 0) rfl rfl (fun H locs hW => ?_)
    rw [show va_up (va_up S 0 (upd (S 0) 0 0)) 0 (upd ((va_up S 0 (upd (S 0) 0 0)) 0) 0 1) = (va_up S 0 (upd (upd (S 0) 0 0) 0 1)) from by rw [cy_us, cy_uu]] at hW
    refine cy_topv (congrArg Value.int (show 0 = (cq_Pa S x ns nc).2 from by simp only [cq_Pa, c_12, eq_self, ↓reduceIte, not_true_eq_false, not_false_eq_true])) ?_
    have hW := cy_castS (show (va_up S 0 (upd (upd (S 0) 0 0) 0 1)) = (cq_Pa S x ns nc).1 from by simp only [cq_Pa, cq_th, c_12, eq_self, ↓reduceIte, not_true_eq_false, not_false_eq_true]) hW
    exact hE  _ _ _ _ _ _ (Nat.le_of_ble_eq_true rfl) (Nat.le_of_ble_eq_true rfl) hW dX3_pass__20
