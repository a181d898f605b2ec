abbrev rm_X2_digest : Room := { frames := 7, cells := 10, slots := 60, locals := 111 }
set_option maxHeartbeats 4000000 in
set_option maxRecDepth 100000 in
theorem c_X2_digest {l : Launch} {D : va_G} {kI kJ kZ kC : ClassId} {ad : Nat → Nat} {S : Nat → Nat → Int32} {tl : va_W} {Z : Nat → Int64} {ns : Nat} (hns : S 0 3 = nI ns) (h60 : ns ≤ 60) {no : Nat} (hno : S 0 7 = nI no) (h6 : no ≤ 6) {nc : Nat} (hnc : S 0 9 = nI nc) (h12 : nc ≤ 12) (hhc : ∀ c, c < nc → (S (3 * c + 11) 4).toNatClampNeg ≤ 8 ∧ S (3 * c + 11) 4 = nI (S (3 * c + 11) 4).toNatClampNeg) : cy_X l yX2_digest wsX2_digest rm_X2_digest D (cy_tys kI kJ kZ kC) [.ref (ad 0)] (cy_Y kI kJ kC ad S Z tl) none (some (.long (cy_rDi S ns no nc))) (cy_Y kI kJ kC ad S Z tl) := by
  intro hl0
  refine cy_ofX (cc := cX2_digest) (maxL := 4) (ret := (some .long)) (i := .lreturn) (by decide) rfl rfl (Nat.le_of_ble_eq_true rfl) (by decide) (fun _ => cy_endL) ?_ hl0
  intro p e s m args below meth co Q A ls hC hTh hE hT hW hl
  have hx := hC.1.1; have hb := hC.1.2.1; have hml := hC.1.2.2.1; have hown := hC.1.2.2.2.1; have hts := hC.1.2.2.2.2
  have hl : lv_has ls 4 [(0, .ref (ad 0))] := hl
  have hi2 : ∀ w ∈ u_ws RX2 TX2 17, w ∈ wsX2_digest := by decide +kernel
  refine lv_ldc2 (v := 487) hx hb hown (hts (.constantLong RX2 287 487) (by decide +kernel)) dX2_digest_0 ?_
  refine lv_lstore_n (lv' := [(1, .long 487), (0, .ref (ad 0))]) hx hb dX2_digest_3 rfl hl (by decide) rfl (fun ls hl => ?_)
  refine lv_iconst (v := 0) hx hb dX2_digest_4 (by decide) ?_
  refine lv_istore_n (lv' := [(3, .int 0), (1, .long 487), (0, .ref (ad 0))]) hx hb dX2_digest_5 rfl hl (by decide) rfl (fun ls hl => ?_)
  have L_6 : ∀ (fu : Nat) (i : Nat), 10 - i < fu → (i ≤ 10) → ∀ (H : Heap) (locs : List Loc), cy_W D A s.heap (cy_Y kI kJ kC ad S Z tl) H locs → ∀ (ls : Array Slot), lv_has ls 4 [(1, .long (cy_e1 S ns nc i)), (3, .int (nI i)), (0, .ref (ad 0))] → W p l e rm_X2_digest s m args below meth co H locs i (6 * i) Q (F0 m 6 ls []) := by
    intro fu
    induction fu with
    | zero => intro i hn; exact absurd hn (Nat.not_lt_zero _)
    | succ fu ih_6 =>
      intro i hn_6 hi H locs hW ls hl
      refine lv_iload_n hx hb dX2_digest_6 rfl (lv_at hl 1 rfl) ?_
      refine lv_bipush (v := 10) hx hb dX2_digest_7 (by decide) ?_
      refine lv_icmp_ge (tgt := 31) hx hb dX2_digest_9 (by decide) (fun c_9 => ?_) (fun c_9 => ?_)
      · skip
        have q_9 := cy_le (a := 10) (b := i) (by omega) (by omega) c_9
        obtain rfl : i = 10 := by omega
        refine lv_iconst (v := 0) hx hb dX2_digest_31 (by decide) ?_
        refine lv_istore_n (lv' := [(3, .int 0), (1, .long (cy_e1 S ns nc 10)), (0, .ref (ad 0))]) hx hb dX2_digest_32 rfl hl (by decide) rfl (fun ls hl => ?_)
        have L_33 : ∀ (fu : Nat) (i : Nat), ns - i < fu → (i ≤ ns) → ∀ (H : Heap) (locs : List Loc), cy_W D A s.heap (cy_Y kI kJ kC ad S Z tl) H locs → ∀ (ls : Array Slot), lv_has ls 4 [(1, .long (cy_e2 S (cy_e1 S ns nc 10) i)), (3, .int (nI i)), (0, .ref (ad 0))] → W p l e rm_X2_digest s m args below meth co H locs 10 60 Q (F0 m 33 ls []) := by
          intro fu
          induction fu with
          | zero => intro i hn; exact absurd hn (Nat.not_lt_zero _)
          | succ fu ih_33 =>
            intro i hn_33 hi H locs hW ls hl
            refine lv_iload_n hx hb dX2_digest_33 rfl (lv_at hl 1 rfl) ?_
            refine lv_aload_n hx hb dX2_digest_34 rfl (lv_at hl 2 rfl) ?_
            refine cy_get hC (0) (by decide) hi2 hW (rfl) rfl 3 (by decide) (hts (.fieldLink RX2 66 "CaskYard" "staveCount" "I") (by decide +kernel)) (fun _ h9 => h9) (v := .int (S 0 3)) rfl dX2_digest_35 ?_
            refine cy_top (y := nI ns) hns ?_
            refine lv_icmp_ge (tgt := 89) hx hb dX2_digest_38 (by decide) (fun c_38 => ?_) (fun c_38 => ?_)
            · skip
              have q_38 := cy_le (a := ns) (b := i) (by omega) (by omega) c_38
              obtain rfl : ns = i := by omega
              refine lv_iconst (v := 0) hx hb dX2_digest_89 (by decide) ?_
              refine lv_istore_n (lv' := [(3, .int 0), (1, .long (cy_e2 S (cy_e1 S ns nc 10) ns)), (0, .ref (ad 0))]) hx hb dX2_digest_90 rfl hl (by decide) rfl (fun ls hl => ?_)
              have L_91 : ∀ (fu : Nat) (i : Nat), no - i < fu → (i ≤ no) → ∀ (H : Heap) (locs : List Loc), cy_W D A s.heap (cy_Y kI kJ kC ad S Z tl) H locs → ∀ (ls : Array Slot), lv_has ls 4 [(1, .long (cy_e3 S (cy_e2 S (cy_e1 S ns nc 10) ns) i)), (3, .int (nI i)), (0, .ref (ad 0))] → W p l e rm_X2_digest s m args below meth co H locs 10 60 Q (F0 m 91 ls []) := by
                intro fu
                induction fu with
                | zero => intro i hn; exact absurd hn (Nat.not_lt_zero _)
                | succ fu ih_91 =>
                  intro i hn_91 hi H locs hW ls hl
                  refine lv_iload_n hx hb dX2_digest_91 rfl (lv_at hl 1 rfl) ?_
                  refine lv_aload_n hx hb dX2_digest_92 rfl (lv_at hl 2 rfl) ?_
                  refine cy_get hC (0) (by decide) hi2 hW (rfl) rfl 7 (by decide) (hts (.fieldLink RX2 92 "CaskYard" "sortCount" "I") (by decide +kernel)) (fun _ h9 => h9) (v := .int (S 0 7)) rfl dX2_digest_93 ?_
                  refine cy_top (y := nI no) hno ?_
                  refine lv_icmp_ge (tgt := 147) hx hb dX2_digest_96 (by decide) (fun c_96 => ?_) (fun c_96 => ?_)
                  · skip
                    have q_96 := cy_le (a := no) (b := i) (by omega) (by omega) c_96
                    obtain rfl : no = i := by omega
                    refine lv_iconst (v := 0) hx hb dX2_digest_147 (by decide) ?_
                    refine lv_istore_n (lv' := [(3, .int 0), (1, .long (cy_e3 S (cy_e2 S (cy_e1 S ns nc 10) ns) no)), (0, .ref (ad 0))]) hx hb dX2_digest_148 rfl hl (by decide) rfl (fun ls hl => ?_)
                    have L_149 : ∀ (fu : Nat) (i : Nat), nc - i < fu → (i ≤ nc) → ∀ (H : Heap) (locs : List Loc), cy_W D A s.heap (cy_Y kI kJ kC ad S Z tl) H locs → ∀ (ls : Array Slot), lv_has ls 4 [(1, .long (cy_e4 S ns (cy_e3 S (cy_e2 S (cy_e1 S ns nc 10) ns) no) i)), (3, .int (nI i)), (0, .ref (ad 0))] → W p l e rm_X2_digest s m args below meth co H locs 10 60 Q (F0 m 149 ls []) := by
                      intro fu
                      induction fu with
                      | zero => intro i hn; exact absurd hn (Nat.not_lt_zero _)
                      | succ fu ih_149 =>
                        intro i hn_149 hi H locs hW ls hl
                        refine lv_iload_n hx hb dX2_digest_149 rfl (lv_at hl 1 rfl) ?_
                        refine lv_aload_n hx hb dX2_digest_150 rfl (lv_at hl 2 rfl) ?_
                        refine cy_get hC (0) (by decide) hi2 hW (rfl) rfl 9 (by decide) (hts (.fieldLink RX2 114 "CaskYard" "caskCount" "I") (by decide +kernel)) (fun _ h9 => h9) (v := .int (S 0 9)) rfl dX2_digest_151 ?_
                        refine cy_top (y := nI nc) hnc ?_
                        refine lv_icmp_ge (tgt := 170) hx hb dX2_digest_154 (by decide) (fun c_154 => ?_) (fun c_154 => ?_)
                        · skip
                          have q_154 := cy_le (a := nc) (b := i) (by omega) (by omega) c_154
                          obtain rfl : nc = i := by omega
                          refine lv_lload_n hx hb dX2_digest_170 rfl (lv_at hl 0 rfl) ?_
                          exact hE rfl _ _ _ _ _ _ (Nat.le_of_ble_eq_true rfl) (Nat.le_of_ble_eq_true rfl) hW dX2_digest_171
                        · skip
                          have q_154 := cy_nle (a := nc) (b := i) (by omega) (by omega) c_154
                          refine lv_aload_n hx hb dX2_digest_157 rfl (lv_at hl 2 rfl) ?_
                          refine lv_lload_n hx hb dX2_digest_158 rfl (lv_at hl 0 rfl) ?_
                          refine lv_iload_n hx hb dX2_digest_159 rfl (lv_at hl 1 rfl) ?_
                          refine cy_callV (rm := rm_X2_digestCask) (As := [.long (cy_e4 S ns (cy_e3 S (cy_e2 S (cy_e1 S ns nc 10) ns) no) i), .int (nI i)]) (rest := []) (q0 := 0) (ci := 2) hC.1 hC.2.1 hC.2.2 hW (c_X2_digestCask (d := (cy_e4 S ns (cy_e3 S (cy_e2 S (cy_e1 S ns nc 10) ns) no) i)) (c := i) (by omega) (hhc _ (by omega)).2 (hhc _ (by omega)).1 (ns := ns) hns (by omega)) (cwV 2 hts gX2_digest_X2_digestCask rfl rfl rfl (by decide +kernel) ⟨Nat.le_of_ble_eq_true rfl, Nat.le_of_ble_eq_true rfl⟩) (cy_w_at (by decide) (rfl)) rfl rfl hl.1 rfl (Nat.le_of_ble_eq_true rfl) dX2_digest_160 ⟨Nat.le_of_ble_eq_true rfl, Nat.le_of_ble_eq_true rfl⟩ (k' := 10) (n' := 60) rfl rfl (fun H locs hW => ?_)
                          refine lv_lstore_n (lv' := [(1, .long (cy_du (S (3 * i + 12)) (cy_dt S ns i (cy_e4 S ns (cy_e3 S (cy_e2 S (cy_e1 S ns nc 10) ns) no) i) 16) (S (3 * i + 11) 4).toNatClampNeg)), (3, .int (nI i)), (0, .ref (ad 0))]) hx hb dX2_digest_163 rfl hl (by decide) rfl (fun ls hl => ?_)
                          refine lv_iinc (v := nI (i + 1)) (lv' := [(3, .int (nI (i + 1))), (1, .long (cy_du (S (3 * i + 12)) (cy_dt S ns i (cy_e4 S ns (cy_e3 S (cy_e2 S (cy_e1 S ns nc 10) ns) no) i) 16) (S (3 * i + 11) 4).toNatClampNeg)), (0, .ref (ad 0))]) hx hb dX2_digest_164 hl (k := 1) rfl (nI_1 i) (by decide) rfl (fun ls hl => ?_)
                          refine lv_goto (tgt := 149) hx hb dX2_digest_167 (by decide) ?_
                          exact ih_149 (i + 1) (by omega) (by omega) _ _ hW _ (lv_sub hl [1, 0, 2] rfl)
                    exact L_149 ((nc - 0) + 1) 0 (Nat.lt_succ_self _) (by omega) _ _ hW _ (lv_sub hl [1, 0, 2] rfl)
                  · skip
                    have q_96 := cy_nle (a := no) (b := i) (by omega) (by omega) c_96
                    refine lv_lload_n hx hb dX2_digest_99 rfl (lv_at hl 0 rfl) ?_
                    refine lv_ldc2 (v := 31) hx hb hown (hts (.constantLong RX2 289 31) (by decide +kernel)) dX2_digest_100 ?_
                    refine lv_lmul hx hb dX2_digest_103 ?_
                    refine lv_aload_n hx hb dX2_digest_104 rfl (lv_at hl 2 rfl) ?_
                    refine cy_get hC (0) (by decide) hi2 hW (rfl) rfl 4 (by decide) (hts (.fieldLink RX2 19 "CaskYard" "girths" "[I") (by decide +kernel)) (fun _ h9 => h9) (v := .ref (ad 4)) rfl dX2_digest_105 ?_
                    refine lv_iload_n hx hb dX2_digest_108 rfl (lv_at hl 1 rfl) ?_
                    refine cy_iald hC (4) (by decide) hW 0 (i := i) (rfl) rfl (by omega) (by decide) dX2_digest_109 ?_
                    refine lv_i2l hx hb dX2_digest_110 rfl ?_
                    refine lv_ladd hx hb dX2_digest_111 ?_
                    refine lv_lstore_n (lv' := [(1, .long (((cy_e3 S (cy_e2 S (cy_e1 S ns nc 10) ns) i) * 31) + ((S 4 i).toInt64))), (3, .int (nI i)), (0, .ref (ad 0))]) hx hb dX2_digest_112 rfl hl (by decide) rfl (fun ls hl => ?_)
                    refine lv_lload_n hx hb dX2_digest_113 rfl (lv_at hl 0 rfl) ?_
                    refine lv_ldc2 (v := 31) hx hb hown (hts (.constantLong RX2 289 31) (by decide +kernel)) dX2_digest_114 ?_
                    refine lv_lmul hx hb dX2_digest_117 ?_
                    refine lv_aload_n hx hb dX2_digest_118 rfl (lv_at hl 2 rfl) ?_
                    refine cy_get hC (0) (by decide) hi2 hW (rfl) rfl 5 (by decide) (hts (.fieldLink RX2 22 "CaskYard" "rooms" "[I") (by decide +kernel)) (fun _ h9 => h9) (v := .ref (ad 5)) rfl dX2_digest_119 ?_
                    refine lv_iload_n hx hb dX2_digest_122 rfl (lv_at hl 1 rfl) ?_
                    refine cy_iald hC (5) (by decide) hW 0 (i := i) (rfl) rfl (by omega) (by decide) dX2_digest_123 ?_
                    refine lv_i2l hx hb dX2_digest_124 rfl ?_
                    refine lv_ladd hx hb dX2_digest_125 ?_
                    refine lv_lstore_n (lv' := [(1, .long (((((cy_e3 S (cy_e2 S (cy_e1 S ns nc 10) ns) i) * 31) + ((S 4 i).toInt64)) * 31) + ((S 5 i).toInt64))), (3, .int (nI i)), (0, .ref (ad 0))]) hx hb dX2_digest_126 rfl hl (by decide) rfl (fun ls hl => ?_)
                    refine lv_lload_n hx hb dX2_digest_127 rfl (lv_at hl 0 rfl) ?_
                    refine lv_ldc2 (v := 31) hx hb hown (hts (.constantLong RX2 289 31) (by decide +kernel)) dX2_digest_128 ?_
                    refine lv_lmul hx hb dX2_digest_131 ?_
                    refine lv_aload_n hx hb dX2_digest_132 rfl (lv_at hl 2 rfl) ?_
                    refine cy_get hC (0) (by decide) hi2 hW (rfl) rfl 6 (by decide) (hts (.fieldLink RX2 25 "CaskYard" "hoopNumbers" "[I") (by decide +kernel)) (fun _ h9 => h9) (v := .ref (ad 6)) rfl dX2_digest_133 ?_
                    refine lv_iload_n hx hb dX2_digest_136 rfl (lv_at hl 1 rfl) ?_
                    refine cy_iald hC (6) (by decide) hW 0 (i := i) (rfl) rfl (by omega) (by decide) dX2_digest_137 ?_
                    refine lv_i2l hx hb dX2_digest_138 rfl ?_
                    refine lv_ladd hx hb dX2_digest_139 ?_
                    refine lv_lstore_n (lv' := [(1, .long (((((((cy_e3 S (cy_e2 S (cy_e1 S ns nc 10) ns) i) * 31) + ((S 4 i).toInt64)) * 31) + ((S 5 i).toInt64)) * 31) + ((S 6 i).toInt64))), (3, .int (nI i)), (0, .ref (ad 0))]) hx hb dX2_digest_140 rfl hl (by decide) rfl (fun ls hl => ?_)
                    refine lv_iinc (v := nI (i + 1)) (lv' := [(3, .int (nI (i + 1))), (1, .long (((((((cy_e3 S (cy_e2 S (cy_e1 S ns nc 10) ns) i) * 31) + ((S 4 i).toInt64)) * 31) + ((S 5 i).toInt64)) * 31) + ((S 6 i).toInt64))), (0, .ref (ad 0))]) hx hb dX2_digest_141 hl (k := 1) rfl (nI_1 i) (by decide) rfl (fun ls hl => ?_)
                    refine lv_goto (tgt := 91) hx hb dX2_digest_144 (by decide) ?_
                    exact ih_91 (i + 1) (by omega) (by omega) _ _ hW _ (lv_sub hl [1, 0, 2] rfl)
              exact L_91 ((no - 0) + 1) 0 (Nat.lt_succ_self _) (by omega) _ _ hW _ (lv_sub hl [1, 0, 2] rfl)
            · skip
              have q_38 := cy_nle (a := ns) (b := i) (by omega) (by omega) c_38
              refine lv_lload_n hx hb dX2_digest_41 rfl (lv_at hl 0 rfl) ?_
              refine lv_ldc2 (v := 31) hx hb hown (hts (.constantLong RX2 289 31) (by decide +kernel)) dX2_digest_42 ?_
              refine lv_lmul hx hb dX2_digest_45 ?_
              refine lv_aload_n hx hb dX2_digest_46 rfl (lv_at hl 2 rfl) ?_
              refine cy_get hC (0) (by decide) hi2 hW (rfl) rfl 0 (by decide) (hts (.fieldLink RX2 9 "CaskYard" "widths" "[I") (by decide +kernel)) (fun _ h9 => h9) (v := .ref (ad 1)) rfl dX2_digest_47 ?_
              refine lv_iload_n hx hb dX2_digest_50 rfl (lv_at hl 1 rfl) ?_
              refine cy_iald hC (1) (by decide) hW 0 (i := i) (rfl) rfl (by omega) (by decide) dX2_digest_51 ?_
              refine lv_i2l hx hb dX2_digest_52 rfl ?_
              refine lv_ladd hx hb dX2_digest_53 ?_
              refine lv_lstore_n (lv' := [(1, .long (((cy_e2 S (cy_e1 S ns nc 10) i) * 31) + ((S 1 i).toInt64))), (3, .int (nI i)), (0, .ref (ad 0))]) hx hb dX2_digest_54 rfl hl (by decide) rfl (fun ls hl => ?_)
              refine lv_lload_n hx hb dX2_digest_55 rfl (lv_at hl 0 rfl) ?_
              refine lv_ldc2 (v := 31) hx hb hown (hts (.constantLong RX2 289 31) (by decide +kernel)) dX2_digest_56 ?_
              refine lv_lmul hx hb dX2_digest_59 ?_
              refine lv_aload_n hx hb dX2_digest_60 rfl (lv_at hl 2 rfl) ?_
              refine cy_get hC (0) (by decide) hi2 hW (rfl) rfl 1 (by decide) (hts (.fieldLink RX2 13 "CaskYard" "drynesses" "[I") (by decide +kernel)) (fun _ h9 => h9) (v := .ref (ad 2)) rfl dX2_digest_61 ?_
              refine lv_iload_n hx hb dX2_digest_64 rfl (lv_at hl 1 rfl) ?_
              refine cy_iald hC (2) (by decide) hW 0 (i := i) (rfl) rfl (by omega) (by decide) dX2_digest_65 ?_
              refine lv_i2l hx hb dX2_digest_66 rfl ?_
              refine lv_ladd hx hb dX2_digest_67 ?_
              refine lv_lstore_n (lv' := [(1, .long (((((cy_e2 S (cy_e1 S ns nc 10) i) * 31) + ((S 1 i).toInt64)) * 31) + ((S 2 i).toInt64))), (3, .int (nI i)), (0, .ref (ad 0))]) hx hb dX2_digest_68 rfl hl (by decide) rfl (fun ls hl => ?_)
              refine lv_lload_n hx hb dX2_digest_69 rfl (lv_at hl 0 rfl) ?_
              refine lv_ldc2 (v := 31) hx hb hown (hts (.constantLong RX2 289 31) (by decide +kernel)) dX2_digest_70 ?_
              refine lv_lmul hx hb dX2_digest_73 ?_
              refine lv_aload_n hx hb dX2_digest_74 rfl (lv_at hl 2 rfl) ?_
              refine cy_get hC (0) (by decide) hi2 hW (rfl) rfl 2 (by decide) (hts (.fieldLink RX2 16 "CaskYard" "places" "[I") (by decide +kernel)) (fun _ h9 => h9) (v := .ref (ad 3)) rfl dX2_digest_75 ?_
              refine lv_iload_n hx hb dX2_digest_78 rfl (lv_at hl 1 rfl) ?_
              refine cy_iald hC (3) (by decide) hW 0 (i := i) (rfl) rfl (by omega) (by decide) dX2_digest_79 ?_
              refine lv_i2l hx hb dX2_digest_80 rfl ?_
              refine lv_ladd hx hb dX2_digest_81 ?_
              refine lv_lstore_n (lv' := [(1, .long (((((((cy_e2 S (cy_e1 S ns nc 10) i) * 31) + ((S 1 i).toInt64)) * 31) + ((S 2 i).toInt64)) * 31) + ((S 3 i).toInt64))), (3, .int (nI i)), (0, .ref (ad 0))]) hx hb dX2_digest_82 rfl hl (by decide) rfl (fun ls hl => ?_)
              refine lv_iinc (v := nI (i + 1)) (lv' := [(3, .int (nI (i + 1))), (1, .long (((((((cy_e2 S (cy_e1 S ns nc 10) i) * 31) + ((S 1 i).toInt64)) * 31) + ((S 2 i).toInt64)) * 31) + ((S 3 i).toInt64))), (0, .ref (ad 0))]) hx hb dX2_digest_83 hl (k := 1) rfl (nI_1 i) (by decide) rfl (fun ls hl => ?_)
              refine lv_goto (tgt := 33) hx hb dX2_digest_86 (by decide) ?_
              exact ih_33 (i + 1) (by omega) (by omega) _ _ hW _ (lv_sub hl [1, 0, 2] rfl)
        refine W.widen (k := 10) (n := 60) (by omega) (by omega) ?_
        exact L_33 ((ns - 0) + 1) 0 (Nat.lt_succ_self _) (by omega) _ _ hW _ (lv_sub hl [1, 0, 2] rfl)
      · skip
        have q_9 := cy_nle (a := 10) (b := i) (by omega) (by omega) c_9
        refine lv_lload_n hx hb dX2_digest_12 rfl (lv_at hl 0 rfl) ?_
        refine lv_ldc2 (v := 31) hx hb hown (hts (.constantLong RX2 289 31) (by decide +kernel)) dX2_digest_13 ?_
        refine lv_lmul hx hb dX2_digest_16 ?_
        refine lv_aload_n hx hb dX2_digest_17 rfl (lv_at hl 2 rfl) ?_
        refine lv_iload_n hx hb dX2_digest_18 rfl (lv_at hl 1 rfl) ?_
        refine cy_callVX (rm := rm_X2_count) hl0 (show cy_tCo (nI i) = none from cy_tCo_n (by omega)) hTh (As := [.int (nI i)]) (rest := [.long ((cy_e1 S ns nc i) * 31)]) (q0 := 0) (ci := 2) hC.1 hC.2.1 hC.2.2 hW (c_X2_count (x := nI i) (ns := ns) hns (by omega) (nc := nc) hnc (by omega)) (cwV 1 hts gX2_digest_X2_count rfl rfl rfl (by decide +kernel) ⟨Nat.le_of_ble_eq_true rfl, Nat.le_of_ble_eq_true rfl⟩) (cy_w_at (by decide) (rfl)) rfl rfl hl.1 rfl (Nat.le_of_ble_eq_true rfl) dX2_digest_19 ⟨(show (i) + 1 ≤ 10 from by omega), (show (6 * i) + 6 ≤ 60 from by omega)⟩ (k' := i + 1) (n' := 6 * i + 6) rfl rfl (fun H locs hW => ?_)
        refine cy_topv (show _ = Value.int (cy_cnt S ns nc i) from (congrArg (fun z => Value.int (cy_cnt S ns nc z)) (nI_clamp (by omega)))) ?_
        rw [show cy_if (cy_tCo (nI i)) S S = S from cy_if_n (cy_tCo_n (by omega))] at hW
        refine lv_i2l hx hb dX2_digest_22 rfl ?_
        refine lv_ladd hx hb dX2_digest_23 ?_
        refine lv_lstore_n (lv' := [(1, .long (((cy_e1 S ns nc i) * 31) + ((cy_cnt S ns nc i).toInt64))), (3, .int (nI i)), (0, .ref (ad 0))]) hx hb dX2_digest_24 rfl hl (by decide) rfl (fun ls hl => ?_)
        refine lv_iinc (v := nI (i + 1)) (lv' := [(3, .int (nI (i + 1))), (1, .long (((cy_e1 S ns nc i) * 31) + ((cy_cnt S ns nc i).toInt64))), (0, .ref (ad 0))]) hx hb dX2_digest_25 hl (k := 1) rfl (nI_1 i) (by decide) rfl (fun ls hl => ?_)
        refine lv_goto (tgt := 6) hx hb dX2_digest_28 (by decide) ?_
        refine W.widen (k := (i + 1)) (n := 6 * (i + 1)) (by omega) (by omega) ?_
        exact ih_6 (i + 1) (by omega) (by omega) _ _ hW _ (lv_sub hl [1, 0, 2] rfl)
  refine W.widen (k := 0) (n := 6 * 0) (by omega) (by omega) ?_
  exact L_6 ((10 - 0) + 1) 0 (Nat.lt_succ_self _) (by omega) _ _ hW _ (lv_sub hl [1, 0, 2] rfl)
abbrev rm_X3_digest : Room := { frames := 4, cells := 202, slots := 1636, locals := 88 }
set_option maxHeartbeats 4000000 in
set_option maxRecDepth 100000 in
theorem c_X3_digest {l : Launch} {D : va_G} {kI kJ kZ kC : ClassId} {ad : Nat → Nat} {S : Nat → Nat → Int32} {tl : va_W} {ns : Nat} (hns : S 0 4 = nI ns) (h60 : ns ≤ 60) {no : Nat} (hno : S 0 8 = nI no) (h6 : no ≤ 6) {nc : Nat} (hnc : S 0 12 = nI nc) (h12 : nc ≤ 12) (hq : cq_ok S) : cy_M l yX3_digest wsX3_digest rm_X3_digest D (cy_tys kI kJ kZ kC) [.ref (ad 0)] (cy_Mw kI kZ ad S tl) (some (.long (cq_rDi (cq_rs S) ns no nc))) (cy_Mw kI kZ ad (cq_rs S) tl) := by
  refine cy_of (own := RX3) (cc := cX3_digest) (maxL := 5) (ret := (some .long)) (i := .lreturn) (by decide) rfl rfl (Nat.le_of_ble_eq_true rfl) cy_endL ?_
  intro p e s m args below meth co Q A ls hC hE hW hl
  have hx := hC.1.1; have hb := hC.1.2.1; have hml := hC.1.2.2.1; have hown := hC.1.2.2.2.1; have hts := hC.1.2.2.2.2
  have hl : lv_has ls 5 [(0, .ref (ad 0))] := hl
  have hi3 : ∀ w ∈ u_ws RX3 TX3 25, w ∈ wsX3_digest := by decide +kernel
  have hqT : cq_ok (cq_rs S) := cq_ok_of rfl rfl hq
  refine lv_aload_n hx hb dX3_digest_0 rfl (lv_at hl 0 rfl) ?_
  refine lv_iconst (v := 0) hx hb dX3_digest_1 (by decide) ?_
  refine cy_put hC (0) (by decide) hi3 tyX3 tyX3_ok nmX3 hW (rfl) rfl 0 (by decide) (hts (.fieldLink RX3 67 "CaskYardModel" "thrown" "I") (by decide +kernel)) (fun _ h9 => h9) rfl (ty := .int) (by decide +kernel) rfl rfl (Nat.le_of_ble_eq_true rfl) (upd (S 0) 0 0) cy_hM0 (S' := (va_up S 0 (upd (S 0) 0 0))) rfl dX3_digest_2 (fun H locs hW => ?_)
  refine lv_ldc2 (v := 487) hx hb hown (hts (.constantLong RX3 190 487) (by decide +kernel)) dX3_digest_5 ?_
  refine lv_lstore_n (lv' := [(1, .long 487), (0, .ref (ad 0))]) hx hb dX3_digest_8 rfl hl (by decide) rfl (fun ls hl => ?_)
  refine lv_iconst (v := 0) hx hb dX3_digest_9 (by decide) ?_
  refine lv_istore_n (lv' := [(3, .int 0), (1, .long 487), (0, .ref (ad 0))]) hx hb dX3_digest_10 rfl hl (by decide) rfl (fun ls hl => ?_)
  have L_11 : ∀ (fu : Nat) (i : Nat), 10 - i < fu → (i ≤ 10) → ∀ (H : Heap) (locs : List Loc), cy_W D A s.heap (cy_Mw kI kZ ad (cq_rs S) tl) H locs → ∀ (ls : Array Slot), lv_has ls 5 [(1, .long (cq_e1 (cq_rs S) ns nc i)), (3, .int (nI i)), (0, .ref (ad 0))] → W p l e rm_X3_digest s m args below meth co H locs i (10 * i) Q (F0 m 11 ls []) := by
    intro fu
    induction fu with
    | zero => intro i hn; exact absurd hn (Nat.not_lt_zero _)
    | succ fu ih_11 =>
      intro i hn_11 hi H locs hW ls hl
      refine lv_iload_n hx hb dX3_digest_11 rfl (lv_at hl 1 rfl) ?_
      refine lv_bipush (v := 10) hx hb dX3_digest_12 (by decide) ?_
      refine lv_icmp_ge (tgt := 36) hx hb dX3_digest_14 (by decide) (fun c_14 => ?_) (fun c_14 => ?_)
      · skip
        have q_14 := cy_le (a := 10) (b := i) (by omega) (by omega) c_14
        obtain rfl : i = 10 := by omega
        refine lv_iconst (v := 0) hx hb dX3_digest_36 (by decide) ?_
        refine lv_istore_n (lv' := [(3, .int 0), (1, .long (cq_e1 (cq_rs S) ns nc 10)), (0, .ref (ad 0))]) hx hb dX3_digest_37 rfl hl (by decide) rfl (fun ls hl => ?_)
        have L_38 : ∀ (fu : Nat) (i : Nat), ns - i < fu → (i ≤ ns) → ∀ (H : Heap) (locs : List Loc), cy_W D A s.heap (cy_Mw kI kZ ad (cq_rs S) tl) H locs → ∀ (ls : Array Slot), lv_has ls 5 [(1, .long (cq_e2 (cq_rs S) (cq_e1 (cq_rs S) ns nc 10) i)), (3, .int (nI i)), (0, .ref (ad 0))] → W p l e rm_X3_digest s m args below meth co H locs 10 100 Q (F0 m 38 ls []) := by
          intro fu
          induction fu with
          | zero => intro i hn; exact absurd hn (Nat.not_lt_zero _)
          | succ fu ih_38 =>
            intro i hn_38 hi H locs hW ls hl
            refine lv_iload_n hx hb dX3_digest_38 rfl (lv_at hl 1 rfl) ?_
            refine lv_aload_n hx hb dX3_digest_39 rfl (lv_at hl 2 rfl) ?_
            refine cy_get hC (0) (by decide) hi3 hW (rfl) rfl 4 (by decide) (hts (.fieldLink RX3 78 "CaskYardModel" "staves" "I") (by decide +kernel)) (fun _ h9 => h9) (v := .int (((cq_rs S) 0) 4)) rfl dX3_digest_40 ?_
            refine cy_top (y := nI ns) hns ?_
            refine lv_icmp_ge (tgt := 82) hx hb dX3_digest_43 (by decide) (fun c_43 => ?_) (fun c_43 => ?_)
            · skip
              have q_43 := cy_le (a := ns) (b := i) (by omega) (by omega) c_43
              obtain rfl : ns = i := by omega
              refine lv_iconst (v := 0) hx hb dX3_digest_82 (by decide) ?_
              refine lv_istore_n (lv' := [(3, .int 0), (1, .long (cq_e2 (cq_rs S) (cq_e1 (cq_rs S) ns nc 10) ns)), (0, .ref (ad 0))]) hx hb dX3_digest_83 rfl hl (by decide) rfl (fun ls hl => ?_)
              have L_84 : ∀ (fu : Nat) (i : Nat), no - i < fu → (i ≤ no) → ∀ (H : Heap) (locs : List Loc), cy_W D A s.heap (cy_Mw kI kZ ad (cq_rs S) tl) H locs → ∀ (ls : Array Slot), lv_has ls 5 [(1, .long (cy_e3 (cq_rs S) (cq_e2 (cq_rs S) (cq_e1 (cq_rs S) ns nc 10) ns) i)), (3, .int (nI i)), (0, .ref (ad 0))] → W p l e rm_X3_digest s m args below meth co H locs 10 100 Q (F0 m 84 ls []) := by
                intro fu
                induction fu with
                | zero => intro i hn; exact absurd hn (Nat.not_lt_zero _)
                | succ fu ih_84 =>
                  intro i hn_84 hi H locs hW ls hl
                  refine lv_iload_n hx hb dX3_digest_84 rfl (lv_at hl 1 rfl) ?_
                  refine lv_aload_n hx hb dX3_digest_85 rfl (lv_at hl 2 rfl) ?_
                  refine cy_get hC (0) (by decide) hi3 hW (rfl) rfl 8 (by decide) (hts (.fieldLink RX3 90 "CaskYardModel" "sorts" "I") (by decide +kernel)) (fun _ h9 => h9) (v := .int (((cq_rs S) 0) 8)) rfl dX3_digest_86 ?_
                  refine cy_top (y := nI no) hno ?_
                  refine lv_icmp_ge (tgt := 136) hx hb dX3_digest_89 (by decide) (fun c_89 => ?_) (fun c_89 => ?_)
                  · skip
                    have q_89 := cy_le (a := no) (b := i) (by omega) (by omega) c_89
                    obtain rfl : no = i := by omega
                    refine lv_iconst (v := 0) hx hb dX3_digest_136 (by decide) ?_
                    refine lv_istore_n (lv' := [(3, .int 0), (1, .long (cy_e3 (cq_rs S) (cq_e2 (cq_rs S) (cq_e1 (cq_rs S) ns nc 10) ns) no)), (0, .ref (ad 0))]) hx hb dX3_digest_137 rfl hl (by decide) rfl (fun ls hl => ?_)
                    have L_138 : ∀ (fu : Nat) (i : Nat), nc - i < fu → (i ≤ nc) → ∀ (H : Heap) (locs : List Loc), cy_W D A s.heap (cy_Mw kI kZ ad (cq_rs S) tl) H locs → ∀ (ls : Array Slot), lv_has ls 5 [(1, .long (cq_e4 (cq_rs S) ns (cy_e3 (cq_rs S) (cq_e2 (cq_rs S) (cq_e1 (cq_rs S) ns nc 10) ns) no) i)), (3, .int (nI i)), (0, .ref (ad 0))] → W p l e rm_X3_digest s m args below meth co H locs (10 + 16 * i) (100 + 128 * i) Q (F0 m 138 ls []) := by
                      intro fu
                      induction fu with
                      | zero => intro i hn; exact absurd hn (Nat.not_lt_zero _)
                      | succ fu ih_138 =>
                        intro i hn_138 hi H locs hW ls hl
                        refine lv_iload_n hx hb dX3_digest_138 rfl (lv_at hl 1 rfl) ?_
                        refine lv_aload_n hx hb dX3_digest_139 rfl (lv_at hl 2 rfl) ?_
                        refine cy_get hC (0) (by decide) hi3 hW (rfl) rfl 12 (by decide) (hts (.fieldLink RX3 110 "CaskYardModel" "casks" "I") (by decide +kernel)) (fun _ h9 => h9) (v := .int (((cq_rs S) 0) 12)) rfl dX3_digest_140 ?_
                        refine cy_top (y := nI nc) hnc ?_
                        refine lv_icmp_ge (tgt := 222) hx hb dX3_digest_143 (by decide) (fun c_143 => ?_) (fun c_143 => ?_)
                        · skip
                          have q_143 := cy_le (a := nc) (b := i) (by omega) (by omega) c_143
                          obtain rfl : nc = i := by omega
                          refine lv_lload_n hx hb dX3_digest_222 rfl (lv_at hl 0 rfl) ?_
                          exact hE  _ _ _ _ _ _ (show 10 + 16 * nc ≤ 202 from by omega) (show 100 + 128 * nc ≤ 1636 from by omega) hW dX3_digest_223
                        · skip
                          have q_143 := cy_nle (a := nc) (b := i) (by omega) (by omega) c_143
                          refine lv_iconst (v := 0) hx hb dX3_digest_146 (by decide) ?_
                          refine lv_istore (lv' := [(4, .int 0), (1, .long (cq_e4 (cq_rs S) ns (cy_e3 (cq_rs S) (cq_e2 (cq_rs S) (cq_e1 (cq_rs S) ns nc 10) ns) no) i)), (3, .int (nI i)), (0, .ref (ad 0))]) hx hb dX3_digest_147 hl (by decide) rfl (fun ls hl => ?_)
                          have L_149 : ∀ (fu : Nat) (k : Nat), 16 - k < fu → (k ≤ 16) → ∀ (H : Heap) (locs : List Loc), cy_W D A s.heap (cy_Mw kI kZ ad (cq_rs S) tl) H locs → ∀ (ls : Array Slot), lv_has ls 5 [(1, .long (cq_e4i (cq_rs S) ns i (cq_e4 (cq_rs S) ns (cy_e3 (cq_rs S) (cq_e2 (cq_rs S) (cq_e1 (cq_rs S) ns nc 10) ns) no) i) k)), (4, .int (nI k)), (3, .int (nI i)), (0, .ref (ad 0))] → W p l e rm_X3_digest s m args below meth co H locs (10 + 16 * i + k) (100 + 128 * i + 8 * k) Q (F0 m 149 ls []) := by
                            intro fu
                            induction fu with
                            | zero => intro k hn; exact absurd hn (Nat.not_lt_zero _)
                            | succ fu ih_149 =>
                              intro k hn_149 hk H locs hW ls hl
                              refine lv_iload hx hb dX3_digest_149 (lv_at hl 1 rfl) ?_
                              refine lv_bipush (v := 16) hx hb dX3_digest_151 (by decide) ?_
                              refine lv_icmp_ge (tgt := 177) hx hb dX3_digest_153 (by decide) (fun c_153 => ?_) (fun c_153 => ?_)
                              · skip
                                have q_153 := cy_le (a := 16) (b := k) (by omega) (by omega) c_153
                                obtain rfl : k = 16 := by omega
                                refine lv_iconst (v := 0) hx hb dX3_digest_177 (by decide) ?_
                                refine lv_istore (lv' := [(4, .int 0), (1, .long (cq_e4i (cq_rs S) ns i (cq_e4 (cq_rs S) ns (cy_e3 (cq_rs S) (cq_e2 (cq_rs S) (cq_e1 (cq_rs S) ns nc 10) ns) no) i) 16)), (3, .int (nI i)), (0, .ref (ad 0))]) hx hb dX3_digest_178 hl (by decide) rfl (fun ls hl => ?_)
                                have L_180 : ∀ (fu : Nat) (k : Nat), cq_hn (cq_rs S) i - k < fu → (k ≤ cq_hn (cq_rs S) i) → ∀ (H : Heap) (locs : List Loc), cy_W D A s.heap (cy_Mw kI kZ ad (cq_rs S) tl) H locs → ∀ (ls : Array Slot), lv_has ls 5 [(1, .long (cq_e4t (cq_rs S) i (cq_e4i (cq_rs S) ns i (cq_e4 (cq_rs S) ns (cy_e3 (cq_rs S) (cq_e2 (cq_rs S) (cq_e1 (cq_rs S) ns nc 10) ns) no) i) 16) k)), (4, .int (nI k)), (3, .int (nI i)), (0, .ref (ad 0))] → W p l e rm_X3_digest s m args below meth co H locs (10 + 16 * i + 16) (100 + 128 * i + 128) Q (F0 m 180 ls []) := by
                                  intro fu
                                  induction fu with
                                  | zero => intro k hn; exact absurd hn (Nat.not_lt_zero _)
                                  | succ fu ih_180 =>
                                    intro k hn_180 hk H locs hW ls hl
                                    have hhl := cq_hn_le hqT (c := i) (by omega)
                                    refine lv_iload hx hb dX3_digest_180 (lv_at hl 1 rfl) ?_
                                    refine lv_aload_n hx hb dX3_digest_182 rfl (lv_at hl 3 rfl) ?_
                                    refine lv_iload_n hx hb dX3_digest_183 rfl (lv_at hl 2 rfl) ?_
                                    refine cy_callV (rm := rm_X3_hoopsOf) (As := [.int (nI i)]) (rest := [.int (nI k)]) (q0 := 0) (ci := 3) hC.1 hC.2.1 hC.2.2 hW (c_X3_hoopsOf (S := (cq_rs S)) (c := i) (by omega) hqT) (cwV 1 hts gX3_digest_X3_hoopsOf rfl rfl rfl (by decide +kernel) ⟨Nat.le_of_ble_eq_true rfl, Nat.le_of_ble_eq_true rfl⟩) (cy_w_at (by decide) (rfl)) rfl rfl hl.1 rfl (Nat.le_of_ble_eq_true rfl) dX3_digest_184 ⟨(show (10 + 16 * i + 16) + 0 ≤ 202 from by omega), (show (100 + 128 * i + 128) + 0 ≤ 1636 from by omega)⟩ (k' := 10 + 16 * i + 16) (n' := 100 + 128 * i + 128) rfl rfl (fun H locs hW => ?_)
                                    refine lv_icmp_ge (tgt := 216) hx hb dX3_digest_187 (by decide) (fun c_187 => ?_) (fun c_187 => ?_)
                                    · skip
                                      have q_187 := cy_le (a := (cq_hn (cq_rs S) i)) (b := k) (by omega) (by omega) c_187
                                      obtain rfl : k = cq_hn (cq_rs S) i := by omega
                                      refine lv_iinc (v := nI (i + 1)) (lv' := [(3, .int (nI (i + 1))), (1, .long (cq_e4t (cq_rs S) i (cq_e4i (cq_rs S) ns i (cq_e4 (cq_rs S) ns (cy_e3 (cq_rs S) (cq_e2 (cq_rs S) (cq_e1 (cq_rs S) ns nc 10) ns) no) i) 16) (cq_hn (cq_rs S) i))), (4, .int (nI (cq_hn (cq_rs S) i))), (0, .ref (ad 0))]) hx hb dX3_digest_216 hl (k := 2) rfl (nI_1 i) (by decide) rfl (fun ls hl => ?_)
                                      refine lv_goto (tgt := 138) hx hb dX3_digest_219 (by decide) ?_
                                      refine W.widen (k := 10 + 16 * (i + 1)) (n := 100 + 128 * (i + 1)) (by omega) (by omega) ?_
                                      exact ih_138 (i + 1) (by omega) (by omega) _ _ hW _ (lv_sub hl [1, 0, 3] rfl)
                                    · skip
                                      have q_187 := cy_nle (a := (cq_hn (cq_rs S) i)) (b := k) (by omega) (by omega) c_187
                                      refine lv_lload_n hx hb dX3_digest_190 rfl (lv_at hl 0 rfl) ?_
                                      refine lv_ldc2 (v := 31) hx hb hown (hts (.constantLong RX3 192 31) (by decide +kernel)) dX3_digest_191 ?_
                                      refine lv_lmul hx hb dX3_digest_194 ?_
                                      refine lv_aload_n hx hb dX3_digest_195 rfl (lv_at hl 3 rfl) ?_
                                      refine cy_get hC (0) (by decide) hi3 hW (rfl) rfl 16 (by decide) (hts (.fieldLink RX3 42 "CaskYardModel" "tension" "[I") (by decide +kernel)) (fun _ h9 => h9) (v := .ref (ad 10)) rfl dX3_digest_196 ?_
                                      refine lv_bipush (v := 8) hx hb dX3_digest_199 (by decide) ?_
                                      refine lv_iload_n hx hb dX3_digest_201 rfl (lv_at hl 2 rfl) ?_
                                      refine lv_imul hx hb dX3_digest_202 ?_
                                      refine cy_top (pk_mul 8 i) ?_
                                      refine lv_iload hx hb dX3_digest_203 (lv_at hl 1 rfl) ?_
                                      refine lv_iadd hx hb dX3_digest_205 ?_
                                      refine cy_top (nI_add (8 * i) k) ?_
                                      refine cy_iald hC (10) (by decide) hW 0 (i := ((8 * i) + k)) (rfl) rfl (by omega) (by decide) dX3_digest_206 ?_
                                      refine lv_i2l hx hb dX3_digest_207 rfl ?_
                                      refine lv_ladd hx hb dX3_digest_208 ?_
                                      refine lv_lstore_n (lv' := [(1, .long (((cq_e4t (cq_rs S) i (cq_e4i (cq_rs S) ns i (cq_e4 (cq_rs S) ns (cy_e3 (cq_rs S) (cq_e2 (cq_rs S) (cq_e1 (cq_rs S) ns nc 10) ns) no) i) 16) k) * 31) + ((((cq_rs S) 10) ((8 * i) + k)).toInt64))), (4, .int (nI k)), (3, .int (nI i)), (0, .ref (ad 0))]) hx hb dX3_digest_209 rfl hl (by decide) rfl (fun ls hl => ?_)
                                      refine lv_iinc (v := nI (k + 1)) (lv' := [(4, .int (nI (k + 1))), (1, .long (((cq_e4t (cq_rs S) i (cq_e4i (cq_rs S) ns i (cq_e4 (cq_rs S) ns (cy_e3 (cq_rs S) (cq_e2 (cq_rs S) (cq_e1 (cq_rs S) ns nc 10) ns) no) i) 16) k) * 31) + ((((cq_rs S) 10) ((8 * i) + k)).toInt64))), (3, .int (nI i)), (0, .ref (ad 0))]) hx hb dX3_digest_210 hl (k := 1) rfl (nI_1 k) (by decide) rfl (fun ls hl => ?_)
                                      refine lv_goto (tgt := 180) hx hb dX3_digest_213 (by decide) ?_
                                      exact ih_180 (k + 1) (by omega) (by omega) _ _ hW _ (lv_sub hl [1, 0, 2, 3] rfl)
                                refine W.widen (k := 10 + 16 * i + 16) (n := 100 + 128 * i + 128) (by omega) (by omega) ?_
                                exact L_180 ((cq_hn (cq_rs S) i - 0) + 1) 0 (Nat.lt_succ_self _) (by omega) _ _ hW _ (lv_sub hl [1, 0, 2, 3] rfl)
                              · skip
                                have q_153 := cy_nle (a := 16) (b := k) (by omega) (by omega) c_153
                                refine lv_lload_n hx hb dX3_digest_156 rfl (lv_at hl 0 rfl) ?_
                                refine lv_ldc2 (v := 31) hx hb hown (hts (.constantLong RX3 192 31) (by decide +kernel)) dX3_digest_157 ?_
                                refine lv_lmul hx hb dX3_digest_160 ?_
                                refine lv_aload_n hx hb dX3_digest_161 rfl (lv_at hl 3 rfl) ?_
                                refine lv_iload_n hx hb dX3_digest_162 rfl (lv_at hl 2 rfl) ?_
                                refine lv_iload hx hb dX3_digest_163 (lv_at hl 1 rfl) ?_
                                refine cy_callV (rm := rm_X3_caskTold) (As := [.int (nI i), .int (nI k)]) (rest := [.long ((cq_e4i (cq_rs S) ns i (cq_e4 (cq_rs S) ns (cy_e3 (cq_rs S) (cq_e2 (cq_rs S) (cq_e1 (cq_rs S) ns nc 10) ns) no) i) k) * 31)]) (q0 := 0) (ci := 3) hC.1 hC.2.1 hC.2.2 hW (c_X3_caskTold (S := (cq_rs S)) (c := i) (x := k) (by omega) (by omega) (ns := ns) hns (by omega) hqT) (cwV 2 hts gX3_digest_X3_caskTold rfl rfl rfl (by decide +kernel) ⟨Nat.le_of_ble_eq_true rfl, Nat.le_of_ble_eq_true rfl⟩) (cy_w_at (by decide) (rfl)) rfl rfl hl.1 rfl (Nat.le_of_ble_eq_true rfl) dX3_digest_165 ⟨(show (10 + 16 * i + k) + 1 ≤ 202 from by omega), (show (100 + 128 * i + 8 * k) + 8 ≤ 1636 from by omega)⟩ (k' := 10 + 16 * i + k + 1) (n' := 100 + 128 * i + 8 * k + 8) rfl rfl (fun H locs hW => ?_)
                                refine lv_i2l hx hb dX3_digest_168 rfl ?_
                                refine lv_ladd hx hb dX3_digest_169 ?_
                                refine lv_lstore_n (lv' := [(1, .long (((cq_e4i (cq_rs S) ns i (cq_e4 (cq_rs S) ns (cy_e3 (cq_rs S) (cq_e2 (cq_rs S) (cq_e1 (cq_rs S) ns nc 10) ns) no) i) k) * 31) + ((cq_ct (cq_rs S) ns i k).toInt64))), (4, .int (nI k)), (3, .int (nI i)), (0, .ref (ad 0))]) hx hb dX3_digest_170 rfl hl (by decide) rfl (fun ls hl => ?_)
                                refine lv_iinc (v := nI (k + 1)) (lv' := [(4, .int (nI (k + 1))), (1, .long (((cq_e4i (cq_rs S) ns i (cq_e4 (cq_rs S) ns (cy_e3 (cq_rs S) (cq_e2 (cq_rs S) (cq_e1 (cq_rs S) ns nc 10) ns) no) i) k) * 31) + ((cq_ct (cq_rs S) ns i k).toInt64))), (3, .int (nI i)), (0, .ref (ad 0))]) hx hb dX3_digest_171 hl (k := 1) rfl (nI_1 k) (by decide) rfl (fun ls hl => ?_)
                                refine lv_goto (tgt := 149) hx hb dX3_digest_174 (by decide) ?_
                                refine W.widen (k := 10 + 16 * i + (k + 1)) (n := 100 + 128 * i + 8 * (k + 1)) (by omega) (by omega) ?_
                                exact ih_149 (k + 1) (by omega) (by omega) _ _ hW _ (lv_sub hl [1, 0, 2, 3] rfl)
                          refine W.widen (k := 10 + 16 * i + 0) (n := 100 + 128 * i + 8 * 0) (by omega) (by omega) ?_
                          exact L_149 ((16 - 0) + 1) 0 (Nat.lt_succ_self _) (by omega) _ _ hW _ (lv_sub hl [1, 0, 2, 3] rfl)
                    refine W.widen (k := 10 + 16 * 0) (n := 100 + 128 * 0) (by omega) (by omega) ?_
                    exact L_138 ((nc - 0) + 1) 0 (Nat.lt_succ_self _) (by omega) _ _ hW _ (lv_sub hl [1, 0, 2] rfl)
                  · skip
                    have q_89 := cy_nle (a := no) (b := i) (by omega) (by omega) c_89
                    refine lv_lload_n hx hb dX3_digest_92 rfl (lv_at hl 0 rfl) ?_
                    refine lv_ldc2 (v := 31) hx hb hown (hts (.constantLong RX3 192 31) (by decide +kernel)) dX3_digest_93 ?_
                    refine lv_lmul hx hb dX3_digest_96 ?_
                    refine lv_aload_n hx hb dX3_digest_97 rfl (lv_at hl 2 rfl) ?_
                    refine cy_get hC (0) (by decide) hi3 hW (rfl) rfl 9 (by decide) (hts (.fieldLink RX3 23 "CaskYardModel" "girth" "[I") (by decide +kernel)) (fun _ h9 => h9) (v := .ref (ad 4)) rfl dX3_digest_98 ?_
                    refine lv_iload_n hx hb dX3_digest_101 rfl (lv_at hl 1 rfl) ?_
                    refine cy_iald hC (4) (by decide) hW 0 (i := i) (rfl) rfl (by omega) (by decide) dX3_digest_102 ?_
                    refine lv_i2l hx hb dX3_digest_103 rfl ?_
                    refine lv_ladd hx hb dX3_digest_104 ?_
                    refine lv_ldc2 (v := 31) hx hb hown (hts (.constantLong RX3 192 31) (by decide +kernel)) dX3_digest_105 ?_
                    refine lv_lmul hx hb dX3_digest_108 ?_
                    refine lv_aload_n hx hb dX3_digest_109 rfl (lv_at hl 2 rfl) ?_
                    refine cy_get hC (0) (by decide) hi3 hW (rfl) rfl 10 (by decide) (hts (.fieldLink RX3 26 "CaskYardModel" "room" "[I") (by decide +kernel)) (fun _ h9 => h9) (v := .ref (ad 5)) rfl dX3_digest_110 ?_
                    refine lv_iload_n hx hb dX3_digest_113 rfl (lv_at hl 1 rfl) ?_
                    refine cy_iald hC (5) (by decide) hW 0 (i := i) (rfl) rfl (by omega) (by decide) dX3_digest_114 ?_
                    refine lv_i2l hx hb dX3_digest_115 rfl ?_
                    refine lv_ladd hx hb dX3_digest_116 ?_
                    refine lv_ldc2 (v := 31) hx hb hown (hts (.constantLong RX3 192 31) (by decide +kernel)) dX3_digest_117 ?_
                    refine lv_lmul hx hb dX3_digest_120 ?_
                    refine lv_aload_n hx hb dX3_digest_121 rfl (lv_at hl 2 rfl) ?_
                    refine cy_get hC (0) (by decide) hi3 hW (rfl) rfl 11 (by decide) (hts (.fieldLink RX3 29 "CaskYardModel" "hoops" "[I") (by decide +kernel)) (fun _ h9 => h9) (v := .ref (ad 6)) rfl dX3_digest_122 ?_
                    refine lv_iload_n hx hb dX3_digest_125 rfl (lv_at hl 1 rfl) ?_
                    refine cy_iald hC (6) (by decide) hW 0 (i := i) (rfl) rfl (by omega) (by decide) dX3_digest_126 ?_
                    refine lv_i2l hx hb dX3_digest_127 rfl ?_
                    refine lv_ladd hx hb dX3_digest_128 ?_
                    refine lv_lstore_n (lv' := [(1, .long (((((((cy_e3 (cq_rs S) (cq_e2 (cq_rs S) (cq_e1 (cq_rs S) ns nc 10) ns) i) * 31) + ((((cq_rs S) 4) i).toInt64)) * 31) + ((((cq_rs S) 5) i).toInt64)) * 31) + ((((cq_rs S) 6) i).toInt64))), (3, .int (nI i)), (0, .ref (ad 0))]) hx hb dX3_digest_129 rfl hl (by decide) rfl (fun ls hl => ?_)
                    refine lv_iinc (v := nI (i + 1)) (lv' := [(3, .int (nI (i + 1))), (1, .long (((((((cy_e3 (cq_rs S) (cq_e2 (cq_rs S) (cq_e1 (cq_rs S) ns nc 10) ns) i) * 31) + ((((cq_rs S) 4) i).toInt64)) * 31) + ((((cq_rs S) 5) i).toInt64)) * 31) + ((((cq_rs S) 6) i).toInt64))), (0, .ref (ad 0))]) hx hb dX3_digest_130 hl (k := 1) rfl (nI_1 i) (by decide) rfl (fun ls hl => ?_)
                    refine lv_goto (tgt := 84) hx hb dX3_digest_133 (by decide) ?_
                    exact ih_84 (i + 1) (by omega) (by omega) _ _ hW _ (lv_sub hl [1, 0, 2] rfl)
              exact L_84 ((no - 0) + 1) 0 (Nat.lt_succ_self _) (by omega) _ _ hW _ (lv_sub hl [1, 0, 2] rfl)
            · skip
              have q_43 := cy_nle (a := ns) (b := i) (by omega) (by omega) c_43
              refine lv_iconst (v := 0) hx hb dX3_digest_46 (by decide) ?_
              refine lv_istore (lv' := [(4, .int 0), (1, .long (cq_e2 (cq_rs S) (cq_e1 (cq_rs S) ns nc 10) i)), (3, .int (nI i)), (0, .ref (ad 0))]) hx hb dX3_digest_47 hl (by decide) rfl (fun ls hl => ?_)
              have L_49 : ∀ (fu : Nat) (k : Nat), 3 - k < fu → (k ≤ 3) → ∀ (H : Heap) (locs : List Loc), cy_W D A s.heap (cy_Mw kI kZ ad (cq_rs S) tl) H locs → ∀ (ls : Array Slot), lv_has ls 5 [(1, .long (cq_e2i (cq_rs S) i (cq_e2 (cq_rs S) (cq_e1 (cq_rs S) ns nc 10) i) k)), (4, .int (nI k)), (3, .int (nI i)), (0, .ref (ad 0))] → W p l e rm_X3_digest s m args below meth co H locs 10 100 Q (F0 m 49 ls []) := by
                intro fu
                induction fu with
                | zero => intro k hn; exact absurd hn (Nat.not_lt_zero _)
                | succ fu ih_49 =>
                  intro k hn_49 hk H locs hW ls hl
                  refine lv_iload hx hb dX3_digest_49 (lv_at hl 1 rfl) ?_
                  refine lv_iconst (v := 3) hx hb dX3_digest_51 (by decide) ?_
                  refine lv_icmp_ge (tgt := 76) hx hb dX3_digest_52 (by decide) (fun c_52 => ?_) (fun c_52 => ?_)
                  · skip
                    have q_52 := cy_le (a := 3) (b := k) (by omega) (by omega) c_52
                    obtain rfl : k = 3 := by omega
                    refine lv_iinc (v := nI (i + 1)) (lv' := [(3, .int (nI (i + 1))), (1, .long (cq_e2i (cq_rs S) i (cq_e2 (cq_rs S) (cq_e1 (cq_rs S) ns nc 10) i) 3)), (4, .int (nI 3)), (0, .ref (ad 0))]) hx hb dX3_digest_76 hl (k := 2) rfl (nI_1 i) (by decide) rfl (fun ls hl => ?_)
                    refine lv_goto (tgt := 38) hx hb dX3_digest_79 (by decide) ?_
                    exact ih_38 (i + 1) (by omega) (by omega) _ _ hW _ (lv_sub hl [1, 0, 3] rfl)
                  · skip
                    have q_52 := cy_nle (a := 3) (b := k) (by omega) (by omega) c_52
                    refine lv_lload_n hx hb dX3_digest_55 rfl (lv_at hl 0 rfl) ?_
                    refine lv_ldc2 (v := 31) hx hb hown (hts (.constantLong RX3 192 31) (by decide +kernel)) dX3_digest_56 ?_
                    refine lv_lmul hx hb dX3_digest_59 ?_
                    refine lv_aload_n hx hb dX3_digest_60 rfl (lv_at hl 3 rfl) ?_
                    refine lv_iload_n hx hb dX3_digest_61 rfl (lv_at hl 2 rfl) ?_
                    refine lv_iload hx hb dX3_digest_62 (lv_at hl 1 rfl) ?_
                    refine cy_callV (rm := rm_X3_staveTold) (As := [.int (nI i), .int (nI k)]) (rest := [.long ((cq_e2i (cq_rs S) i (cq_e2 (cq_rs S) (cq_e1 (cq_rs S) ns nc 10) i) k) * 31)]) (q0 := 0) (ci := 3) hC.1 hC.2.1 hC.2.2 hW (c_X3_staveTold (S := (cq_rs S)) (i := i) (y := (nI k)) (by omega)) (cwV 2 hts gX3_digest_X3_staveTold rfl rfl rfl (by decide +kernel) ⟨Nat.le_of_ble_eq_true rfl, Nat.le_of_ble_eq_true rfl⟩) (cy_w_at (by decide) (rfl)) rfl rfl hl.1 rfl (Nat.le_of_ble_eq_true rfl) dX3_digest_64 ⟨Nat.le_of_ble_eq_true rfl, Nat.le_of_ble_eq_true rfl⟩ (k' := 10) (n' := 100) rfl rfl (fun H locs hW => ?_)
                    refine lv_i2l hx hb dX3_digest_67 rfl ?_
                    refine lv_ladd hx hb dX3_digest_68 ?_
                    refine lv_lstore_n (lv' := [(1, .long (((cq_e2i (cq_rs S) i (cq_e2 (cq_rs S) (cq_e1 (cq_rs S) ns nc 10) i) k) * 31) + ((cq_tl (cq_rs S) i (nI k)).toInt64))), (4, .int (nI k)), (3, .int (nI i)), (0, .ref (ad 0))]) hx hb dX3_digest_69 rfl hl (by decide) rfl (fun ls hl => ?_)
                    refine lv_iinc (v := nI (k + 1)) (lv' := [(4, .int (nI (k + 1))), (1, .long (((cq_e2i (cq_rs S) i (cq_e2 (cq_rs S) (cq_e1 (cq_rs S) ns nc 10) i) k) * 31) + ((cq_tl (cq_rs S) i (nI k)).toInt64))), (3, .int (nI i)), (0, .ref (ad 0))]) hx hb dX3_digest_70 hl (k := 1) rfl (nI_1 k) (by decide) rfl (fun ls hl => ?_)
                    refine lv_goto (tgt := 49) hx hb dX3_digest_73 (by decide) ?_
                    exact ih_49 (k + 1) (by omega) (by omega) _ _ hW _ (lv_sub hl [1, 0, 2, 3] rfl)
              exact L_49 ((3 - 0) + 1) 0 (Nat.lt_succ_self _) (by omega) _ _ hW _ (lv_sub hl [1, 0, 2, 3] rfl)
        refine W.widen (k := 10) (n := 100) (by omega) (by omega) ?_
        exact L_38 ((ns - 0) + 1) 0 (Nat.lt_succ_self _) (by omega) _ _ hW _ (lv_sub hl [1, 0, 2] rfl)
      · skip
        have q_14 := cy_nle (a := 10) (b := i) (by omega) (by omega) c_14
        refine lv_lload_n hx hb dX3_digest_17 rfl (lv_at hl 0 rfl) ?_
        refine lv_ldc2 (v := 31) hx hb hown (hts (.constantLong RX3 192 31) (by decide +kernel)) dX3_digest_18 ?_
        refine lv_lmul hx hb dX3_digest_21 ?_
        refine lv_aload_n hx hb dX3_digest_22 rfl (lv_at hl 2 rfl) ?_
        refine lv_iload_n hx hb dX3_digest_23 rfl (lv_at hl 1 rfl) ?_
        refine cy_callV (rm := rm_X3_counted) (As := [.int (nI i)]) (rest := [.long ((cq_e1 (cq_rs S) ns nc i) * 31)]) (q0 := 0) (ci := 3) hC.1 hC.2.1 hC.2.2 hW (c_X3_counted (S := (cq_rs S)) (x := i) (by omega) (ns := ns) hns (by omega) (nc := nc) hnc (by omega)) (cwV 1 hts gX3_digest_X3_counted rfl rfl rfl (by decide +kernel) ⟨Nat.le_of_ble_eq_true rfl, Nat.le_of_ble_eq_true rfl⟩) (cy_w_at (by decide) (rfl)) rfl rfl hl.1 rfl (Nat.le_of_ble_eq_true rfl) dX3_digest_24 ⟨(show (i) + 1 ≤ 202 from by omega), (show (10 * i) + 10 ≤ 1636 from by omega)⟩ (k' := i + 1) (n' := 10 * i + 10) rfl rfl (fun H locs hW => ?_)
        refine lv_i2l hx hb dX3_digest_27 rfl ?_
        refine lv_ladd hx hb dX3_digest_28 ?_
        refine lv_lstore_n (lv' := [(1, .long (((cq_e1 (cq_rs S) ns nc i) * 31) + ((cq_cn (cq_rs S) ns nc i).toInt64))), (3, .int (nI i)), (0, .ref (ad 0))]) hx hb dX3_digest_29 rfl hl (by decide) rfl (fun ls hl => ?_)
        refine lv_iinc (v := nI (i + 1)) (lv' := [(3, .int (nI (i + 1))), (1, .long (((cq_e1 (cq_rs S) ns nc i) * 31) + ((cq_cn (cq_rs S) ns nc i).toInt64))), (0, .ref (ad 0))]) hx hb dX3_digest_30 hl (k := 1) rfl (nI_1 i) (by decide) rfl (fun ls hl => ?_)
        refine lv_goto (tgt := 11) hx hb dX3_digest_33 (by decide) ?_
        refine W.widen (k := (i + 1)) (n := 10 * (i + 1)) (by omega) (by omega) ?_
        exact ih_11 (i + 1) (by omega) (by omega) _ _ hW _ (lv_sub hl [1, 0, 2] rfl)
  refine W.widen (k := 0) (n := 10 * 0) (by omega) (by omega) ?_
  exact L_11 ((10 - 0) + 1) 0 (Nat.lt_succ_self _) (by omega) _ _ hW _ (lv_sub hl [1, 0, 2] rfl)
