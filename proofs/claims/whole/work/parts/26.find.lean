abbrev rm_X3_find : Room := { frames := 1, cells := 0, slots := 0, locals := 21 }
set_option maxHeartbeats 4000000 in
set_option maxRecDepth 100000 in
theorem c_X3_find {l : Launch} {D : va_G} {kI kJ kZ kC : ClassId} {ad : Nat → Nat} {S : Nat → Nat → Int32} {tl : va_W} {ns j g : Nat} (hj : j < 6) (hg : S 4 j = nI g) (hg15 : g ≤ 1500) (hwd : ∀ i, i < ns → 1 ≤ (S 1 i).toNatClampNeg ∧ (S 1 i).toNatClampNeg ≤ 120 ∧ S 1 i = nI (S 1 i).toNatClampNeg) (hns : S 0 4 = nI ns) (h60 : ns ≤ 60) : cy_M l yX3_find wsX3_find rm_X3_find D (cy_tys kI kJ kZ kC) [.ref (ad 0), .int (nI j)] (cy_Mw kI kZ ad S tl) (some (.int (cq_rFd S ns g))) (cy_Mw kI kZ ad (cq_sFd S ns g) tl) := by
  refine cy_of (own := RX3) (cc := cX3_find) (maxL := 6) (ret := (some .boolean)) (i := .ireturn) (by decide) rfl rfl (Nat.le_of_ble_eq_true rfl) (cy_endI cq_rFd_b) ?_
  intro p e s m args below meth co Q A ls hC hE hW hl
  have hx := hC.1.1; have hb := hC.1.2.1; have hml := hC.1.2.2.1; have hown := hC.1.2.2.2.1; have hts := hC.1.2.2.2.2
  have hl : lv_has ls 6 [(0, .ref (ad 0)), (1, .int (nI j))] := hl
  have hi3 : ∀ w ∈ u_ws RX3 TX3 25, w ∈ wsX3_find := by decide +kernel
  refine lv_iconst (v := 0) hx hb dX3_find_0 (by decide) ?_
  refine lv_istore_n (lv' := [(2, .int 0), (0, .ref (ad 0)), (1, .int (nI j))]) hx hb dX3_find_1 rfl hl (by decide) rfl (fun ls hl => ?_)
  have L_2 : ∀ (fu : Nat) (k : Nat), 1505 - k < fu → (k ≤ 1505) → ∀ (H : Heap) (locs : List Loc), cy_W D A s.heap (cy_Mw kI kZ ad (va_up S 16 (cq_f1 (S 16) (ns * 1505) k)) tl) H locs → ∀ (ls : Array Slot), lv_has ls 6 [(2, .int (nI k)), (0, .ref (ad 0)), (1, .int (nI j))] → W p l e rm_X3_find s m args below meth co H locs 0 0 Q (F0 m 2 ls []) := by
    intro fu
    induction fu with
    | zero => intro k hn; exact absurd hn (Nat.not_lt_zero _)
    | succ fu ih_2 =>
      intro k hn_2 hk H locs hW ls hl
      refine lv_iload_n hx hb dX3_find_2 rfl (lv_at hl 0 rfl) ?_
      refine lv_sipush (v := 1505) hx hb dX3_find_3 (by decide) ?_
      refine lv_icmp_ge (tgt := 41) hx hb dX3_find_6 (by decide) (fun c_6 => ?_) (fun c_6 => ?_)
      · skip
        have q_6 := cy_le (a := 1505) (b := k) (by omega) (by omega) c_6
        obtain rfl : k = 1505 := by omega
        refine lv_aload_n hx hb dX3_find_41 rfl (lv_at hl 1 rfl) ?_
        refine cy_get hC (0) (by decide) hi3 hW (cy_rd (cy_un (by omega)) rfl) rfl 4 (by decide) (hts (.fieldLink RX3 78 "CaskYardModel" "staves" "I") (by decide +kernel)) (fun _ h9 => h9) (v := .int (S 0 4)) rfl dX3_find_42 ?_
        refine cy_top (y := nI ns) hns ?_
        refine lv_iconst (v := 1) hx hb dX3_find_45 (by decide) ?_
        refine lv_isub hx hb dX3_find_46 ?_
        refine lv_istore_n (lv' := [(2, .int ((nI ns) - 1)), (0, .ref (ad 0)), (1, .int (nI j))]) hx hb dX3_find_47 rfl hl (by decide) rfl (fun ls hl => ?_)
        have L_48 : ∀ (fu : Nat) (t : Nat), ns - t < fu → (t ≤ ns) → ∀ (H : Heap) (locs : List Loc), cy_W D A s.heap (cy_Mw kI kZ ad (va_up S 16 (cq_f3 S (cq_f1 (S 16) (ns * 1505) 1505) ns t)) tl) H locs → ∀ (ls : Array Slot), lv_has ls 6 [(2, .int (nI (ns - t) - 1)), (0, .ref (ad 0)), (1, .int (nI j))] → W p l e rm_X3_find s m args below meth co H locs 0 0 Q (F0 m 48 ls []) := by
          intro fu
          induction fu with
          | zero => intro t hn; exact absurd hn (Nat.not_lt_zero _)
          | succ fu ih_48 =>
            intro t hn_48 ht H locs hW ls hl
            refine lv_iload_n hx hb dX3_find_48 rfl (lv_at hl 0 rfl) ?_
            refine lv_if_lt (tgt := 157) hx hb dX3_find_49 (by decide) (fun c_49 => ?_) (fun c_49 => ?_)
            · skip
              have q_49 := cy_p1 (by omega) c_49
              obtain rfl : ns = t := by omega
              refine lv_aload_n hx hb dX3_find_157 rfl (lv_at hl 1 rfl) ?_
              refine lv_iconst (v := 0) hx hb dX3_find_158 (by decide) ?_
              refine cy_put hC (0) (by decide) hi3 tyX3 tyX3_ok nmX3 hW (cy_rd (cy_un (by omega)) rfl) rfl 23 (by decide) (hts (.fieldLink RX3 101 "CaskYardModel" "chosen" "I") (by decide +kernel)) (fun _ h9 => h9) rfl (ty := .int) (by decide +kernel) rfl rfl (Nat.le_of_ble_eq_true rfl) (upd (S 0) 23 0) cy_hM23 (S' := (va_up (va_up S 16 (cq_f3 S (cq_f1 (S 16) (ns * 1505) 1505) ns ns)) 0 (upd (S 0) 23 0))) rfl dX3_find_159 (fun H locs hW => ?_)
              refine lv_iconst (v := (-1)) hx hb dX3_find_162 (by decide) ?_
              refine lv_istore_n (lv' := [(2, .int (-1)), (0, .ref (ad 0)), (1, .int (nI j))]) hx hb dX3_find_163 rfl hl (by decide) rfl (fun ls hl => ?_)
              refine lv_aload_n hx hb dX3_find_164 rfl (lv_at hl 1 rfl) ?_
              refine cy_get hC (0) (by decide) hi3 hW (cy_rd (cy_us) rfl) rfl 9 (by decide) (hts (.fieldLink RX3 23 "CaskYardModel" "girth" "[I") (by decide +kernel)) (fun _ h9 => h9) (v := .ref (ad 4)) rfl dX3_find_165 ?_
              refine lv_iload_n hx hb dX3_find_168 rfl (lv_at hl 2 rfl) ?_
              refine cy_iald hC (4) (by decide) hW 0 (i := j) (cy_rd ((cy_un (by omega)).trans (cy_un (by omega))) rfl) rfl (by omega) (by decide) dX3_find_169 ?_
              refine cy_top (y := nI g) hg ?_
              refine lv_istore_n (lv' := [(3, .int (nI g)), (2, .int (-1)), (0, .ref (ad 0)), (1, .int (nI j))]) hx hb dX3_find_170 rfl hl (by decide) rfl (fun ls hl => ?_)
              have L_171 : ∀ (fu : Nat) (k : Nat), 5 - k < fu → (k ≤ 5) → ∀ (H : Heap) (locs : List Loc), cy_W D A s.heap (cy_Mw kI kZ ad (va_up (va_up S 16 (cq_F S ns)) 0 (upd (S 0) 23 0)) tl) H locs → ∀ (ls : Array Slot), lv_has ls 6 [(2, .int (cq_lf2 (cq_F S ns) g k)), (3, .int (nI (g + k))), (0, .ref (ad 0)), (1, .int (nI j))] → W p l e rm_X3_find s m args below meth co H locs 0 0 Q (F0 m 171 ls []) := by
                intro fu
                induction fu with
                | zero => intro k hn; exact absurd hn (Nat.not_lt_zero _)
                | succ fu ih_171 =>
                  intro k hn_171 hk H locs hW ls hl
                  refine lv_iload_n hx hb dX3_find_171 rfl (lv_at hl 1 rfl) ?_
                  refine lv_aload_n hx hb dX3_find_172 rfl (lv_at hl 2 rfl) ?_
                  refine cy_get hC (0) (by decide) hi3 hW (cy_rd (cy_us) rfl) rfl 9 (by decide) (hts (.fieldLink RX3 23 "CaskYardModel" "girth" "[I") (by decide +kernel)) (fun _ h9 => h9) (v := .ref (ad 4)) rfl dX3_find_173 ?_
                  refine lv_iload_n hx hb dX3_find_176 rfl (lv_at hl 3 rfl) ?_
                  refine cy_iald hC (4) (by decide) hW 0 (i := j) (cy_rd ((cy_un (by omega)).trans (cy_un (by omega))) rfl) rfl (by omega) (by decide) dX3_find_177 ?_
                  refine cy_top (y := nI g) hg ?_
                  refine lv_iconst (v := 4) hx hb dX3_find_178 (by decide) ?_
                  refine lv_iadd hx hb dX3_find_179 ?_
                  refine cy_top (nI_add g 4) ?_
                  refine lv_icmp_gt (tgt := 223) hx hb dX3_find_180 (by decide) (fun c_180 => ?_) (fun c_180 => ?_)
                  · skip
                    have q_180 := cy_lt (a := (g + 4)) (b := (g + k)) (by omega) (by omega) c_180
                    obtain rfl : k = 5 := by omega
                    refine lv_iload_n hx hb dX3_find_223 rfl (lv_at hl 0 rfl) ?_
                    refine lv_iconst (v := (-1)) hx hb dX3_find_224 (by decide) ?_
                    refine lv_icmp_ne (tgt := 230) hx hb dX3_find_225 (by decide) (fun c_225 => ?_) (fun c_225 => ?_)
                    · skip
                      obtain ⟨n0, hn0, en0⟩ : ∃ n0, n0 < 1505 ∧ (cq_lf2 (cq_F S ns) g 5).toNatClampNeg = n0 := ⟨_, (cq_lf2_in hg15 (by decide) c_225).1, rfl⟩
                      have el : cq_lf2 (cq_F S ns) g 5 = nI n0 := by rw [← en0]; exact (cq_lf2_in hg15 (by decide) c_225).2
                      rw [el] at hl
                      refine lv_iconst (v := 0) hx hb dX3_find_230 (by decide) ?_
                      refine lv_istore_n (lv' := [(3, .int 0), (2, .int (nI n0)), (0, .ref (ad 0)), (1, .int (nI j))]) hx hb dX3_find_231 rfl hl (by decide) rfl (fun ls hl => ?_)
                      have L_232 : ∀ (fu : Nat) (s2 : Nat), ns - s2 < fu → (s2 ≤ ns) → ∀ (H : Heap) (locs : List Loc), cy_W D A s.heap (cy_Mw kI kZ ad (va_up (va_up (va_up S 16 (cq_F S ns)) 17 ((cq_ch S (cq_F S ns) n0 s2).1)) 0 (upd (S 0) 23 (nI (cq_ch S (cq_F S ns) n0 s2).2.1))) tl) H locs → ∀ (ls : Array Slot), lv_has ls 6 [(2, .int (nI (cq_ch S (cq_F S ns) n0 s2).2.2)), (3, .int (nI s2)), (0, .ref (ad 0)), (1, .int (nI j))] → W p l e rm_X3_find s m args below meth co H locs 0 0 Q (F0 m 232 ls []) := by
                        intro fu
                        induction fu with
                        | zero => intro s2 hn; exact absurd hn (Nat.not_lt_zero _)
                        | succ fu ih_232 =>
                          intro s2 hn_232 hs H locs hW ls hl
                          have hle := cq_ch_le (S := S) (F := cq_F S ns) (n0 := n0) (s := s2)
                          refine lv_iload_n hx hb dX3_find_232 rfl (lv_at hl 1 rfl) ?_
                          refine lv_aload_n hx hb dX3_find_233 rfl (lv_at hl 2 rfl) ?_
                          refine cy_get hC (0) (by decide) hi3 hW (cy_rd (cy_us) rfl) rfl 4 (by decide) (hts (.fieldLink RX3 78 "CaskYardModel" "staves" "I") (by decide +kernel)) (fun _ h9 => h9) (v := .int ((S 0) 4)) rfl dX3_find_234 ?_
                          refine cy_top (y := nI ns) hns ?_
                          refine lv_icmp_ge (tgt := 338) hx hb dX3_find_237 (by decide) (fun c_237 => ?_) (fun c_237 => ?_)
                          · skip
                            have q_237 := cy_le (a := ns) (b := s2) (by omega) (by omega) c_237
                            obtain rfl : ns = s2 := by omega
                            refine lv_iconst (v := 1) hx hb dX3_find_338 (by decide) ?_
                            refine cy_top (y := cq_rFd S ns g) (by unfold cq_rFd cq_lft; simp only [c_225, not_false_eq_true, ↓reduceIte]) ?_
                            have hW := cy_castS (show _ = cq_sFd S ns g from by unfold cq_sFd cq_chs cq_lft; simp only [c_225, not_false_eq_true, ↓reduceIte, en0]) hW
                            exact hE  _ _ _ _ _ _ (Nat.le_of_ble_eq_true rfl) (Nat.le_of_ble_eq_true rfl) hW dX3_find_339
                          · skip
                            have q_237 := cy_nle (a := ns) (b := s2) (by omega) (by omega) c_237
                            refine lv_iload_n hx hb dX3_find_240 rfl (lv_at hl 0 rfl) ?_
                            refine lv_if_le (tgt := 338) hx hb dX3_find_241 (by decide) (fun c_241 => ?_) (fun c_241 => ?_)
                            · skip
                              have q_241 := cy_le (a := ((cq_ch S (cq_F S ns) n0 s2).2.2)) (b := 0) (by omega) (by omega) c_241
                              have hW := cy_castS (show va_up (va_up (va_up S 16 (cq_F S ns)) 17 (cq_ch S (cq_F S ns) n0 s2).1) 0 (upd (S 0) 23 (nI (cq_ch S (cq_F S ns) n0 s2).2.1)) = va_up (va_up (va_up S 16 (cq_F S ns)) 17 (cq_ch S (cq_F S ns) n0 ns).1) 0 (upd (S 0) 23 (nI (cq_ch S (cq_F S ns) n0 ns).2.1)) from by have q := cq_ch_stop (S := S) (F := cq_F S ns) (n0 := n0) (s := s2) (by omega) (ns - s2); rw [show s2 + (ns - s2) = ns by omega] at q; rw [q]) hW
                              refine lv_iconst (v := 1) hx hb dX3_find_338 (by decide) ?_
                              refine cy_top (y := cq_rFd S ns g) (by unfold cq_rFd cq_lft; simp only [c_225, not_false_eq_true, ↓reduceIte]) ?_
                              have hW := cy_castS (show _ = cq_sFd S ns g from by unfold cq_sFd cq_chs cq_lft; simp only [c_225, not_false_eq_true, ↓reduceIte, en0]) hW
                              exact hE  _ _ _ _ _ _ (Nat.le_of_ble_eq_true rfl) (Nat.le_of_ble_eq_true rfl) hW dX3_find_339
                            · skip
                              have q_241 := cy_nle (a := ((cq_ch S (cq_F S ns) n0 s2).2.2)) (b := 0) (by omega) (by omega) c_241
                              have n_241 : ¬ (cq_ch S (cq_F S ns) n0 s2).2.2 = 0 := by omega
                              refine lv_aload_n hx hb dX3_find_244 rfl (lv_at hl 2 rfl) ?_
                              refine lv_iload_n hx hb dX3_find_245 rfl (lv_at hl 1 rfl) ?_
                              refine cy_callV (rm := rm_X3_isReady) (As := [.int (nI s2)]) (rest := []) (q0 := 0) (ci := 3) hC.1 hC.2.1 hC.2.2 hW (c_X3_isReady (i := s2) (by omega)) (cwV 1 hts gX3_find_X3_isReady rfl rfl rfl (by decide +kernel) ⟨Nat.le_of_ble_eq_true rfl, Nat.le_of_ble_eq_true rfl⟩) (cy_w_at (by decide) (cy_rd (cy_us) rfl)) rfl rfl hl.1 rfl (Nat.le_of_ble_eq_true rfl) dX3_find_246 ⟨Nat.le_of_ble_eq_true rfl, Nat.le_of_ble_eq_true rfl⟩ (k' := 0) (n' := 0) rfl rfl (fun H locs hW => ?_)
                              refine cy_topv (show _ = Value.int (cy_rUs S s2) from rfl) ?_
                              refine lv_if_eq (tgt := 332) hx hb dX3_find_249 (by decide) (fun c_249 => ?_) (fun c_249 => ?_)
                              · skip
                                refine lv_iinc (v := nI (s2 + 1)) (lv' := [(3, .int (nI (s2 + 1))), (2, .int (nI (cq_ch S (cq_F S ns) n0 s2).2.2)), (0, .ref (ad 0)), (1, .int (nI j))]) hx hb dX3_find_332 hl (k := 1) rfl (nI_1 s2) (by decide) rfl (fun ls hl => ?_)
                                refine lv_goto (tgt := 232) hx hb dX3_find_335 (by decide) ?_
                                rw [show nI (cq_ch S (cq_F S ns) n0 s2).2.2 = nI (cq_ch S (cq_F S ns) n0 (s2 + 1)).2.2 from by simp only [cq_ch, c_237, c_241, n_241, c_249, ↓reduceIte, cy_ff, not_true_eq_false, not_false_eq_true]] at hl
                                have hW := cy_castS (show (va_up (va_up (va_up S 16 (cq_F S ns)) 17 ((cq_ch S (cq_F S ns) n0 s2).1)) 0 (upd (S 0) 23 (nI (cq_ch S (cq_F S ns) n0 s2).2.1))) = (va_up (va_up (va_up S 16 (cq_F S ns)) 17 ((cq_ch S (cq_F S ns) n0 (s2 + 1)).1)) 0 (upd (S 0) 23 (nI (cq_ch S (cq_F S ns) n0 (s2 + 1)).2.1))) from by simp only [cq_ch, c_237, c_241, n_241, c_249, ↓reduceIte, cy_ff, not_true_eq_false, not_false_eq_true]) hW
                                exact ih_232 (s2 + 1) (by omega) (by omega) _ _ hW _ (lv_sub hl [1, 0, 2, 3] rfl)
                              · skip
                                have hwb := (hwd s2 (by omega)).2.1
                                have hwb : cq_wd S s2 ≤ 120 := hwb
                                refine lv_iload_n hx hb dX3_find_252 rfl (lv_at hl 0 rfl) ?_
                                refine lv_aload_n hx hb dX3_find_253 rfl (lv_at hl 2 rfl) ?_
                                refine cy_get hC (0) (by decide) hi3 hW (cy_rd (cy_us) rfl) rfl 5 (by decide) (hts (.fieldLink RX3 13 "CaskYardModel" "width" "[I") (by decide +kernel)) (fun _ h9 => h9) (v := .ref (ad 1)) rfl dX3_find_254 ?_
                                refine lv_iload_n hx hb dX3_find_257 rfl (lv_at hl 1 rfl) ?_
                                refine cy_iald hC (1) (by decide) hW 0 (i := s2) (cy_rd ((cy_un (by omega)).trans ((cy_un (by omega)).trans (cy_un (by omega)))) rfl) rfl (by omega) (by decide) dX3_find_258 ?_
                                refine cy_top (y := nI (cq_wd S s2)) ((hwd _ (by omega)).2.2) ?_
                                refine lv_icmp_lt (tgt := 332) hx hb dX3_find_259 (by decide) (fun c_259 => ?_) (fun c_259 => ?_)
                                · skip
                                  have q_259 := cy_lt (a := ((cq_ch S (cq_F S ns) n0 s2).2.2)) (b := (cq_wd S s2)) (by omega) (by omega) c_259
                                  refine lv_iinc (v := nI (s2 + 1)) (lv' := [(3, .int (nI (s2 + 1))), (2, .int (nI (cq_ch S (cq_F S ns) n0 s2).2.2)), (0, .ref (ad 0)), (1, .int (nI j))]) hx hb dX3_find_332 hl (k := 1) rfl (nI_1 s2) (by decide) rfl (fun ls hl => ?_)
                                  refine lv_goto (tgt := 232) hx hb dX3_find_335 (by decide) ?_
                                  rw [show nI (cq_ch S (cq_F S ns) n0 s2).2.2 = nI (cq_ch S (cq_F S ns) n0 (s2 + 1)).2.2 from by simp only [cq_ch, c_237, c_241, n_241, c_249, c_259, q_259, ↓reduceIte, cy_ff, not_true_eq_false, not_false_eq_true]] at hl
                                  have hW := cy_castS (show (va_up (va_up (va_up S 16 (cq_F S ns)) 17 ((cq_ch S (cq_F S ns) n0 s2).1)) 0 (upd (S 0) 23 (nI (cq_ch S (cq_F S ns) n0 s2).2.1))) = (va_up (va_up (va_up S 16 (cq_F S ns)) 17 ((cq_ch S (cq_F S ns) n0 (s2 + 1)).1)) 0 (upd (S 0) 23 (nI (cq_ch S (cq_F S ns) n0 (s2 + 1)).2.1))) from by simp only [cq_ch, c_237, c_241, n_241, c_249, c_259, q_259, ↓reduceIte, cy_ff, not_true_eq_false, not_false_eq_true]) hW
                                  exact ih_232 (s2 + 1) (by omega) (by omega) _ _ hW _ (lv_sub hl [1, 0, 2, 3] rfl)
                                · skip
                                  have q_259 := cy_nlt (a := ((cq_ch S (cq_F S ns) n0 s2).2.2)) (b := (cq_wd S s2)) (by omega) (by omega) c_259
                                  have n_259 : ¬ (cq_ch S (cq_F S ns) n0 s2).2.2 < cq_wd S s2 := by omega
                                  refine lv_aload_n hx hb dX3_find_262 rfl (lv_at hl 2 rfl) ?_
                                  refine cy_get hC (0) (by decide) hi3 hW (cy_rd (cy_us) rfl) rfl 22 (by decide) (hts (.fieldLink RX3 61 "CaskYardModel" "fewest" "[I") (by decide +kernel)) (fun _ h9 => h9) (v := .ref (ad 16)) rfl dX3_find_263 ?_
                                  refine lv_iload_n hx hb dX3_find_266 rfl (lv_at hl 1 rfl) ?_
                                  refine lv_iconst (v := 1) hx hb dX3_find_267 (by decide) ?_
                                  refine lv_iadd hx hb dX3_find_268 ?_
                                  refine cy_top (nI_add s2 1) ?_
                                  refine lv_sipush (v := 1505) hx hb dX3_find_269 (by decide) ?_
                                  refine lv_imul hx hb dX3_find_272 ?_
                                  refine cy_top (pk_mul (s2 + 1) 1505) ?_
                                  refine lv_iload_n hx hb dX3_find_273 rfl (lv_at hl 0 rfl) ?_
                                  refine lv_iadd hx hb dX3_find_274 ?_
                                  refine cy_top (nI_add ((s2 + 1) * 1505) ((cq_ch S (cq_F S ns) n0 s2).2.2)) ?_
                                  refine lv_aload_n hx hb dX3_find_275 rfl (lv_at hl 2 rfl) ?_
                                  refine cy_get hC (0) (by decide) hi3 hW (cy_rd (cy_us) rfl) rfl 5 (by decide) (hts (.fieldLink RX3 13 "CaskYardModel" "width" "[I") (by decide +kernel)) (fun _ h9 => h9) (v := .ref (ad 1)) rfl dX3_find_276 ?_
                                  refine lv_iload_n hx hb dX3_find_279 rfl (lv_at hl 1 rfl) ?_
                                  refine cy_iald hC (1) (by decide) hW 0 (i := s2) (cy_rd ((cy_un (by omega)).trans ((cy_un (by omega)).trans (cy_un (by omega)))) rfl) rfl (by omega) (by decide) dX3_find_280 ?_
                                  refine cy_top (y := nI (cq_wd S s2)) ((hwd _ (by omega)).2.2) ?_
                                  refine lv_isub hx hb dX3_find_281 ?_
                                  refine cy_top (pk_sub (a := (((s2 + 1) * 1505) + ((cq_ch S (cq_F S ns) n0 s2).2.2))) (b := (cq_wd S s2)) (by omega)) ?_
                                  refine cy_iald hC (16) (by decide) hW 0 (i := ((((s2 + 1) * 1505) + ((cq_ch S (cq_F S ns) n0 s2).2.2)) - (cq_wd S s2))) (cy_rd ((cy_un (by omega)).trans ((cy_un (by omega)).trans cy_us)) rfl) rfl (by omega) (by decide) dX3_find_282 ?_
                                  refine lv_iconst (v := 1) hx hb dX3_find_283 (by decide) ?_
                                  refine lv_iadd hx hb dX3_find_284 ?_
                                  refine lv_aload_n hx hb dX3_find_285 rfl (lv_at hl 2 rfl) ?_
                                  refine cy_get hC (0) (by decide) hi3 hW (cy_rd (cy_us) rfl) rfl 22 (by decide) (hts (.fieldLink RX3 61 "CaskYardModel" "fewest" "[I") (by decide +kernel)) (fun _ h9 => h9) (v := .ref (ad 16)) rfl dX3_find_286 ?_
                                  refine lv_iload_n hx hb dX3_find_289 rfl (lv_at hl 1 rfl) ?_
                                  refine lv_sipush (v := 1505) hx hb dX3_find_290 (by decide) ?_
                                  refine lv_imul hx hb dX3_find_293 ?_
                                  refine cy_top (pk_mul s2 1505) ?_
                                  refine lv_iload_n hx hb dX3_find_294 rfl (lv_at hl 0 rfl) ?_
                                  refine lv_iadd hx hb dX3_find_295 ?_
                                  refine cy_top (nI_add (s2 * 1505) ((cq_ch S (cq_F S ns) n0 s2).2.2)) ?_
                                  refine cy_iald hC (16) (by decide) hW 0 (i := ((s2 * 1505) + ((cq_ch S (cq_F S ns) n0 s2).2.2))) (cy_rd ((cy_un (by omega)).trans ((cy_un (by omega)).trans cy_us)) rfl) rfl (by omega) (by decide) dX3_find_296 ?_
                                  refine lv_icmp_eq (tgt := 303) hx hb dX3_find_297 (by decide) (fun c_297 => ?_) (fun c_297 => ?_)
                                  · skip
                                    refine lv_aload_n hx hb dX3_find_303 rfl (lv_at hl 2 rfl) ?_
                                    refine cy_get hC (0) (by decide) hi3 hW (cy_rd (cy_us) rfl) rfl 24 (by decide) (hts (.fieldLink RX3 64 "CaskYardModel" "choice" "[I") (by decide +kernel)) (fun _ h9 => h9) (v := .ref (ad 17)) rfl dX3_find_304 ?_
                                    refine lv_aload_n hx hb dX3_find_307 rfl (lv_at hl 2 rfl) ?_
                                    refine cy_get hC (0) (by decide) hi3 hW (cy_rd (cy_us) rfl) rfl 23 (by decide) (hts (.fieldLink RX3 101 "CaskYardModel" "chosen" "I") (by decide +kernel)) (fun _ h9 => h9) (v := .int (nI (cq_ch S (cq_F S ns) n0 s2).2.1)) rfl dX3_find_308 ?_
                                    refine lv_iload_n hx hb dX3_find_311 rfl (lv_at hl 1 rfl) ?_
                                    refine cy_iast hC (17) (by decide) hW 0 (i := ((cq_ch S (cq_F S ns) n0 s2).2.1)) (cy_rd ((cy_un (by omega)).trans cy_us) rfl) rfl (by omega) (by decide) (upd ((cq_ch S (cq_F S ns) n0 s2).1) ((cq_ch S (cq_F S ns) n0 s2).2.1) (nI s2)) rfl (S' := (va_up (va_up (va_up S 16 (cq_F S ns)) 0 (upd (S 0) 23 (nI (cq_ch S (cq_F S ns) n0 s2).2.1))) 17 (upd ((cq_ch S (cq_F S ns) n0 s2).1) ((cq_ch S (cq_F S ns) n0 s2).2.1) (nI s2)))) (cy_upd_1 (by omega)) dX3_find_312 (fun H locs hW => ?_)
                                    refine lv_aload_n hx hb dX3_find_313 rfl (lv_at hl 2 rfl) ?_
                                    refine lv_dup hx hb dX3_find_314 rfl ?_
                                    refine cy_get hC (0) (by decide) hi3 hW (cy_rd ((cy_un (by omega)).trans cy_us) rfl) rfl 23 (by decide) (hts (.fieldLink RX3 101 "CaskYardModel" "chosen" "I") (by decide +kernel)) (fun _ h9 => h9) (v := .int (nI (cq_ch S (cq_F S ns) n0 s2).2.1)) rfl dX3_find_315 ?_
                                    refine lv_iconst (v := 1) hx hb dX3_find_318 (by decide) ?_
                                    refine lv_iadd hx hb dX3_find_319 ?_
                                    refine cy_top (nI_add ((cq_ch S (cq_F S ns) n0 s2).2.1) 1) ?_
                                    refine cy_put hC (0) (by decide) hi3 tyX3 tyX3_ok nmX3 hW (cy_rd ((cy_un (by omega)).trans cy_us) rfl) rfl 23 (by decide) (hts (.fieldLink RX3 101 "CaskYardModel" "chosen" "I") (by decide +kernel)) (fun _ h9 => h9) rfl (ty := .int) (by decide +kernel) rfl rfl (Nat.le_of_ble_eq_true rfl) (upd (upd (S 0) 23 (nI (cq_ch S (cq_F S ns) n0 s2).2.1)) 23 (nI (((cq_ch S (cq_F S ns) n0 s2).2.1) + 1))) cy_hM23 (S' := (va_up (va_up (va_up S 16 (cq_F S ns)) 17 (upd ((cq_ch S (cq_F S ns) n0 s2).1) ((cq_ch S (cq_F S ns) n0 s2).2.1) (nI s2))) 0 (upd (upd (S 0) 23 (nI (cq_ch S (cq_F S ns) n0 s2).2.1)) 23 (nI (((cq_ch S (cq_F S ns) n0 s2).2.1) + 1))))) (cy_upd_1 (by omega)) dX3_find_320 (fun H locs hW => ?_)
                                    refine lv_iload_n hx hb dX3_find_323 rfl (lv_at hl 0 rfl) ?_
                                    refine lv_aload_n hx hb dX3_find_324 rfl (lv_at hl 2 rfl) ?_
                                    refine cy_get hC (0) (by decide) hi3 hW (cy_rd (cy_us) rfl) rfl 5 (by decide) (hts (.fieldLink RX3 13 "CaskYardModel" "width" "[I") (by decide +kernel)) (fun _ h9 => h9) (v := .ref (ad 1)) rfl dX3_find_325 ?_
                                    refine lv_iload_n hx hb dX3_find_328 rfl (lv_at hl 1 rfl) ?_
                                    refine cy_iald hC (1) (by decide) hW 0 (i := s2) (cy_rd ((cy_un (by omega)).trans ((cy_un (by omega)).trans (cy_un (by omega)))) rfl) rfl (by omega) (by decide) dX3_find_329 ?_
                                    refine cy_top (y := nI (cq_wd S s2)) ((hwd _ (by omega)).2.2) ?_
                                    refine lv_isub hx hb dX3_find_330 ?_
                                    refine cy_top (pk_sub (a := ((cq_ch S (cq_F S ns) n0 s2).2.2)) (b := (cq_wd S s2)) (by omega)) ?_
                                    refine lv_istore_n (lv' := [(2, .int (nI (((cq_ch S (cq_F S ns) n0 s2).2.2) - (cq_wd S s2)))), (3, .int (nI s2)), (0, .ref (ad 0)), (1, .int (nI j))]) hx hb dX3_find_331 rfl hl (by decide) rfl (fun ls hl => ?_)
                                    refine lv_iinc (v := nI (s2 + 1)) (lv' := [(3, .int (nI (s2 + 1))), (2, .int (nI (((cq_ch S (cq_F S ns) n0 s2).2.2) - (cq_wd S s2)))), (0, .ref (ad 0)), (1, .int (nI j))]) hx hb dX3_find_332 hl (k := 1) rfl (nI_1 s2) (by decide) rfl (fun ls hl => ?_)
                                    refine lv_goto (tgt := 232) hx hb dX3_find_335 (by decide) ?_
                                    rw [show nI (((cq_ch S (cq_F S ns) n0 s2).2.2) - (cq_wd S s2)) = nI (cq_ch S (cq_F S ns) n0 (s2 + 1)).2.2 from by simp only [cq_ch, c_237, c_241, n_241, c_249, c_259, n_259, c_297, ↓reduceIte, cy_ff, not_true_eq_false, not_false_eq_true]] at hl
                                    have hW := cy_castS (show (va_up (va_up (va_up S 16 (cq_F S ns)) 17 (upd ((cq_ch S (cq_F S ns) n0 s2).1) ((cq_ch S (cq_F S ns) n0 s2).2.1) (nI s2))) 0 (upd (upd (S 0) 23 (nI (cq_ch S (cq_F S ns) n0 s2).2.1)) 23 (nI (((cq_ch S (cq_F S ns) n0 s2).2.1) + 1)))) = (va_up (va_up (va_up S 16 (cq_F S ns)) 17 ((cq_ch S (cq_F S ns) n0 (s2 + 1)).1)) 0 (upd (S 0) 23 (nI (cq_ch S (cq_F S ns) n0 (s2 + 1)).2.1))) from by simp only [cq_ch, c_237, c_241, n_241, c_249, c_259, n_259, c_297, ↓reduceIte, cy_ff, not_true_eq_false, not_false_eq_true]) hW
                                    exact ih_232 (s2 + 1) (by omega) (by omega) _ _ hW _ (lv_sub hl [1, 0, 2, 3] rfl)
                                  · skip
                                    refine lv_goto (tgt := 332) hx hb dX3_find_300 (by decide) ?_
                                    refine lv_iinc (v := nI (s2 + 1)) (lv' := [(3, .int (nI (s2 + 1))), (2, .int (nI (cq_ch S (cq_F S ns) n0 s2).2.2)), (0, .ref (ad 0)), (1, .int (nI j))]) hx hb dX3_find_332 hl (k := 1) rfl (nI_1 s2) (by decide) rfl (fun ls hl => ?_)
                                    refine lv_goto (tgt := 232) hx hb dX3_find_335 (by decide) ?_
                                    rw [show nI (cq_ch S (cq_F S ns) n0 s2).2.2 = nI (cq_ch S (cq_F S ns) n0 (s2 + 1)).2.2 from by simp only [cq_ch, c_237, c_241, n_241, c_249, c_259, n_259, c_297, ↓reduceIte, cy_ff, not_true_eq_false, not_false_eq_true]] at hl
                                    have hW := cy_castS (show (va_up (va_up (va_up S 16 (cq_F S ns)) 17 ((cq_ch S (cq_F S ns) n0 s2).1)) 0 (upd (S 0) 23 (nI (cq_ch S (cq_F S ns) n0 s2).2.1))) = (va_up (va_up (va_up S 16 (cq_F S ns)) 17 ((cq_ch S (cq_F S ns) n0 (s2 + 1)).1)) 0 (upd (S 0) 23 (nI (cq_ch S (cq_F S ns) n0 (s2 + 1)).2.1))) from by simp only [cq_ch, c_237, c_241, n_241, c_249, c_259, n_259, c_297, ↓reduceIte, cy_ff, not_true_eq_false, not_false_eq_true]) hW
                                    exact ih_232 (s2 + 1) (by omega) (by omega) _ _ hW _ (lv_sub hl [1, 0, 2, 3] rfl)
                      have hW := cy_castS cq_e17 hW
                      exact L_232 ((ns - 0) + 1) 0 (Nat.lt_succ_self _) (by omega) _ _ hW _ (lv_sub hl [1, 0, 2, 3] rfl)
                    · skip
                      refine lv_iconst (v := 0) hx hb dX3_find_228 (by decide) ?_
                      refine cy_top (y := cq_rFd S ns g) (by unfold cq_rFd cq_lft; simp only [c_225, not_true_eq_false, ↓reduceIte]) ?_
                      have hW := cy_castS (show _ = cq_sFd S ns g from by unfold cq_sFd cq_lft; simp only [c_225, not_true_eq_false, ↓reduceIte]) hW
                      exact hE  _ _ _ _ _ _ (Nat.le_of_ble_eq_true rfl) (Nat.le_of_ble_eq_true rfl) hW dX3_find_229
                  · skip
                    have q_180 := cy_nlt (a := (g + 4)) (b := (g + k)) (by omega) (by omega) c_180
                    refine lv_aload_n hx hb dX3_find_183 rfl (lv_at hl 2 rfl) ?_
                    refine cy_get hC (0) (by decide) hi3 hW (cy_rd (cy_us) rfl) rfl 22 (by decide) (hts (.fieldLink RX3 61 "CaskYardModel" "fewest" "[I") (by decide +kernel)) (fun _ h9 => h9) (v := .ref (ad 16)) rfl dX3_find_184 ?_
                    refine lv_iload_n hx hb dX3_find_187 rfl (lv_at hl 1 rfl) ?_
                    refine cy_iald hC (16) (by decide) hW 0 (i := (g + k)) (cy_rd ((cy_un (by omega)).trans cy_us) rfl) rfl (by omega) (by decide) dX3_find_188 ?_
                    refine lv_sipush (v := 1000) hx hb dX3_find_189 (by decide) ?_
                    refine lv_icmp_ge (tgt := 217) hx hb dX3_find_192 (by decide) (fun c_192 => ?_) (fun c_192 => ?_)
                    · skip
                      refine lv_iinc (v := nI (g + k + 1)) (lv' := [(3, .int (nI (g + k + 1))), (2, .int (cq_lf2 (cq_F S ns) g k)), (0, .ref (ad 0)), (1, .int (nI j))]) hx hb dX3_find_217 hl (k := 1) rfl (nI_1 (g + k)) (by decide) rfl (fun ls hl => ?_)
                      refine lv_goto (tgt := 171) hx hb dX3_find_220 (by decide) ?_
                      rw [show cq_lf2 (cq_F S ns) g k = cq_lf2 (cq_F S ns) g (k + 1) from by simp only [cq_lf2, c_180, c_192, ↓reduceIte]] at hl
                      exact ih_171 (k + 1) (by omega) (by omega) _ _ hW _ (lv_sub hl [1, 0, 2, 3] rfl)
                    · skip
                      refine lv_iload_n hx hb dX3_find_195 rfl (lv_at hl 0 rfl) ?_
                      refine lv_iconst (v := (-1)) hx hb dX3_find_196 (by decide) ?_
                      refine lv_icmp_eq (tgt := 215) hx hb dX3_find_197 (by decide) (fun c_197 => ?_) (fun c_197 => ?_)
                      · skip
                        refine lv_iload_n hx hb dX3_find_215 rfl (lv_at hl 1 rfl) ?_
                        refine lv_istore_n (lv' := [(2, .int (nI (g + k))), (3, .int (nI (g + k))), (0, .ref (ad 0)), (1, .int (nI j))]) hx hb dX3_find_216 rfl hl (by decide) rfl (fun ls hl => ?_)
                        refine lv_iinc (v := nI (g + k + 1)) (lv' := [(3, .int (nI (g + k + 1))), (2, .int (nI (g + k))), (0, .ref (ad 0)), (1, .int (nI j))]) hx hb dX3_find_217 hl (k := 1) rfl (nI_1 (g + k)) (by decide) rfl (fun ls hl => ?_)
                        refine lv_goto (tgt := 171) hx hb dX3_find_220 (by decide) ?_
                        rw [show nI (g + k) = cq_lf2 (cq_F S ns) g (k + 1) from by simp only [cq_lf2, c_180, c_192, c_197, ↓reduceIte]] at hl
                        exact ih_171 (k + 1) (by omega) (by omega) _ _ hW _ (lv_sub hl [1, 0, 2, 3] rfl)
                      · skip
                        refine lv_aload_n hx hb dX3_find_200 rfl (lv_at hl 2 rfl) ?_
                        refine cy_get hC (0) (by decide) hi3 hW (cy_rd (cy_us) rfl) rfl 22 (by decide) (hts (.fieldLink RX3 61 "CaskYardModel" "fewest" "[I") (by decide +kernel)) (fun _ h9 => h9) (v := .ref (ad 16)) rfl dX3_find_201 ?_
                        refine lv_iload_n hx hb dX3_find_204 rfl (lv_at hl 1 rfl) ?_
                        refine cy_iald hC (16) (by decide) hW 0 (i := (g + k)) (cy_rd ((cy_un (by omega)).trans cy_us) rfl) rfl (by omega) (by decide) dX3_find_205 ?_
                        refine lv_aload_n hx hb dX3_find_206 rfl (lv_at hl 2 rfl) ?_
                        refine cy_get hC (0) (by decide) hi3 hW (cy_rd (cy_us) rfl) rfl 22 (by decide) (hts (.fieldLink RX3 61 "CaskYardModel" "fewest" "[I") (by decide +kernel)) (fun _ h9 => h9) (v := .ref (ad 16)) rfl dX3_find_207 ?_
                        refine lv_iload_n hx hb dX3_find_210 rfl (lv_at hl 0 rfl) ?_
                        have hlb := (cq_lf2_in (f := cq_F S ns) hg15 (k := k) (by omega) c_197).1
                        refine cy_top (y := nI (cq_lf2 (cq_F S ns) g k).toNatClampNeg) (cq_lf2_in hg15 (by omega) c_197).2 ?_
                        refine cy_iald hC (16) (by decide) hW 0 (i := ((cq_lf2 (cq_F S ns) g k).toNatClampNeg)) (cy_rd ((cy_un (by omega)).trans cy_us) rfl) rfl (by omega) (by decide) dX3_find_211 ?_
                        refine lv_icmp_ge (tgt := 217) hx hb dX3_find_212 (by decide) (fun c_212 => ?_) (fun c_212 => ?_)
                        · skip
                          refine lv_iinc (v := nI (g + k + 1)) (lv' := [(3, .int (nI (g + k + 1))), (2, .int (cq_lf2 (cq_F S ns) g k)), (0, .ref (ad 0)), (1, .int (nI j))]) hx hb dX3_find_217 hl (k := 1) rfl (nI_1 (g + k)) (by decide) rfl (fun ls hl => ?_)
                          refine lv_goto (tgt := 171) hx hb dX3_find_220 (by decide) ?_
                          rw [show cq_lf2 (cq_F S ns) g k = cq_lf2 (cq_F S ns) g (k + 1) from by simp only [cq_lf2, c_180, c_192, c_197, c_212, ↓reduceIte]] at hl
                          exact ih_171 (k + 1) (by omega) (by omega) _ _ hW _ (lv_sub hl [1, 0, 2, 3] rfl)
                        · skip
                          refine lv_iload_n hx hb dX3_find_215 rfl (lv_at hl 1 rfl) ?_
                          refine lv_istore_n (lv' := [(2, .int (nI (g + k))), (3, .int (nI (g + k))), (0, .ref (ad 0)), (1, .int (nI j))]) hx hb dX3_find_216 rfl hl (by decide) rfl (fun ls hl => ?_)
                          refine lv_iinc (v := nI (g + k + 1)) (lv' := [(3, .int (nI (g + k + 1))), (2, .int (nI (g + k))), (0, .ref (ad 0)), (1, .int (nI j))]) hx hb dX3_find_217 hl (k := 1) rfl (nI_1 (g + k)) (by decide) rfl (fun ls hl => ?_)
                          refine lv_goto (tgt := 171) hx hb dX3_find_220 (by decide) ?_
                          rw [show nI (g + k) = cq_lf2 (cq_F S ns) g (k + 1) from by simp only [cq_lf2, c_180, c_192, c_197, c_212, ↓reduceIte]] at hl
                          exact ih_171 (k + 1) (by omega) (by omega) _ _ hW _ (lv_sub hl [1, 0, 2, 3] rfl)
              exact L_171 ((5 - 0) + 1) 0 (Nat.lt_succ_self _) (by omega) _ _ hW _ (lv_sub hl [1, 0, 2, 3] rfl)
            · skip
              have q_49 := cy_p1t c_49
              rw [cy_pt1 q_49] at hl
              have hwb := (hwd (ns - 1 - t) (by omega)).2.1
              have hwb : cq_wd S (ns - 1 - t) ≤ 120 := hwb
              refine lv_iconst (v := 0) hx hb dX3_find_52 (by decide) ?_
              refine lv_istore_n (lv' := [(3, .int 0), (2, .int (nI (ns - 1 - t))), (0, .ref (ad 0)), (1, .int (nI j))]) hx hb dX3_find_53 rfl hl (by decide) rfl (fun ls hl => ?_)
              have L_54 : ∀ (fu : Nat) (k : Nat), 1505 - k < fu → (k ≤ 1505) → ∀ (H : Heap) (locs : List Loc), cy_W D A s.heap (cy_Mw kI kZ ad (va_up S 16 (cq_f2 S (cq_f3 S (cq_f1 (S 16) (ns * 1505) 1505) ns t) (ns - 1 - t) k)) tl) H locs → ∀ (ls : Array Slot), lv_has ls 6 [(3, .int (nI k)), (2, .int (nI (ns - 1 - t))), (0, .ref (ad 0)), (1, .int (nI j))] → W p l e rm_X3_find s m args below meth co H locs 0 0 Q (F0 m 54 ls []) := by
                intro fu
                induction fu with
                | zero => intro k hn; exact absurd hn (Nat.not_lt_zero _)
                | succ fu ih_54 =>
                  intro k hn_54 hk H locs hW ls hl
                  refine lv_iload_n hx hb dX3_find_54 rfl (lv_at hl 0 rfl) ?_
                  refine lv_sipush (v := 1505) hx hb dX3_find_55 (by decide) ?_
                  refine lv_icmp_ge (tgt := 151) hx hb dX3_find_58 (by decide) (fun c_58 => ?_) (fun c_58 => ?_)
                  · skip
                    have q_58 := cy_le (a := 1505) (b := k) (by omega) (by omega) c_58
                    obtain rfl : k = 1505 := by omega
                    refine lv_iinc (v := (nI (ns - 1 - t)) - 1) (lv' := [(2, .int ((nI (ns - 1 - t)) - 1)), (3, .int (nI 1505)), (0, .ref (ad 0)), (1, .int (nI j))]) hx hb dX3_find_151 hl (k := 1) rfl (cy_dm _) (by decide) rfl (fun ls hl => ?_)
                    refine lv_goto (tgt := 48) hx hb dX3_find_154 (by decide) ?_
                    rw [show (nI (ns - 1 - t)) - 1 = nI (ns - (t + 1)) - 1 from by rw [show ns - 1 - t = ns - (t + 1) by omega]] at hl
                    exact ih_48 (t + 1) (by omega) (by omega) _ _ hW _ (lv_sub hl [0, 2, 3] rfl)
                  · skip
                    have q_58 := cy_nle (a := 1505) (b := k) (by omega) (by omega) c_58
                    refine lv_aload_n hx hb dX3_find_61 rfl (lv_at hl 2 rfl) ?_
                    refine cy_get hC (0) (by decide) hi3 hW (cy_rd (cy_un (by omega)) rfl) rfl 22 (by decide) (hts (.fieldLink RX3 61 "CaskYardModel" "fewest" "[I") (by decide +kernel)) (fun _ h9 => h9) (v := .ref (ad 16)) rfl dX3_find_62 ?_
                    refine lv_iload_n hx hb dX3_find_65 rfl (lv_at hl 1 rfl) ?_
                    refine lv_iconst (v := 1) hx hb dX3_find_66 (by decide) ?_
                    refine lv_iadd hx hb dX3_find_67 ?_
                    refine cy_top (nI_add (ns - 1 - t) 1) ?_
                    refine lv_sipush (v := 1505) hx hb dX3_find_68 (by decide) ?_
                    refine lv_imul hx hb dX3_find_71 ?_
                    refine cy_top (pk_mul ((ns - 1 - t) + 1) 1505) ?_
                    refine lv_iload_n hx hb dX3_find_72 rfl (lv_at hl 0 rfl) ?_
                    refine lv_iadd hx hb dX3_find_73 ?_
                    refine cy_top (nI_add (((ns - 1 - t) + 1) * 1505) k) ?_
                    refine cy_iald hC (16) (by decide) hW 0 (i := ((((ns - 1 - t) + 1) * 1505) + k)) (cy_rd (cy_us) rfl) rfl (by omega) (by decide) dX3_find_74 ?_
                    refine lv_istore (lv' := [(4, .int ((cq_f2 S (cq_f3 S (cq_f1 (S 16) (ns * 1505) 1505) ns t) (ns - 1 - t) k) ((((ns - 1 - t) + 1) * 1505) + k))), (3, .int (nI k)), (2, .int (nI (ns - 1 - t))), (0, .ref (ad 0)), (1, .int (nI j))]) hx hb dX3_find_75 hl (by decide) rfl (fun ls hl => ?_)
                    refine lv_aload_n hx hb dX3_find_77 rfl (lv_at hl 3 rfl) ?_
                    refine lv_iload_n hx hb dX3_find_78 rfl (lv_at hl 2 rfl) ?_
                    refine cy_callV (rm := rm_X3_isReady) (As := [.int (nI (ns - 1 - t))]) (rest := []) (q0 := 0) (ci := 3) hC.1 hC.2.1 hC.2.2 hW (c_X3_isReady (i := (ns - 1 - t)) (by omega)) (cwV 1 hts gX3_find_X3_isReady rfl rfl rfl (by decide +kernel) ⟨Nat.le_of_ble_eq_true rfl, Nat.le_of_ble_eq_true rfl⟩) (cy_w_at (by decide) (cy_rd (cy_un (by omega)) rfl)) rfl rfl hl.1 rfl (Nat.le_of_ble_eq_true rfl) dX3_find_79 ⟨Nat.le_of_ble_eq_true rfl, Nat.le_of_ble_eq_true rfl⟩ (k' := 0) (n' := 0) rfl rfl (fun H locs hW => ?_)
                    refine cy_topv (show _ = Value.int (cy_rUs S (ns - 1 - t)) from rfl) ?_
                    refine lv_if_eq (tgt := 121) hx hb dX3_find_82 (by decide) (fun c_82 => ?_) (fun c_82 => ?_)
                    · skip
                      refine lv_sipush (v := 1000) hx hb dX3_find_121 (by decide) ?_
                      refine lv_istore (lv' := [(5, .int 1000), (4, .int ((cq_f2 S (cq_f3 S (cq_f1 (S 16) (ns * 1505) 1505) ns t) (ns - 1 - t) k) ((((ns - 1 - t) + 1) * 1505) + k))), (3, .int (nI k)), (2, .int (nI (ns - 1 - t))), (0, .ref (ad 0)), (1, .int (nI j))]) hx hb dX3_find_124 hl (by decide) rfl (fun ls hl => ?_)
                      refine lv_aload_n hx hb dX3_find_126 rfl (lv_at hl 4 rfl) ?_
                      refine cy_get hC (0) (by decide) hi3 hW (cy_rd (cy_un (by omega)) rfl) rfl 22 (by decide) (hts (.fieldLink RX3 61 "CaskYardModel" "fewest" "[I") (by decide +kernel)) (fun _ h9 => h9) (v := .ref (ad 16)) rfl dX3_find_127 ?_
                      refine lv_iload_n hx hb dX3_find_130 rfl (lv_at hl 3 rfl) ?_
                      refine lv_sipush (v := 1505) hx hb dX3_find_131 (by decide) ?_
                      refine lv_imul hx hb dX3_find_134 ?_
                      refine cy_top (pk_mul (ns - 1 - t) 1505) ?_
                      refine lv_iload_n hx hb dX3_find_135 rfl (lv_at hl 2 rfl) ?_
                      refine lv_iadd hx hb dX3_find_136 ?_
                      refine cy_top (nI_add ((ns - 1 - t) * 1505) k) ?_
                      refine lv_iload hx hb dX3_find_137 (lv_at hl 1 rfl) ?_
                      refine lv_iload hx hb dX3_find_139 (lv_at hl 0 rfl) ?_
                      refine va_mmin hx hb (hml.trans hl.1.symm) hown (hts (.methodLink RX3 96 Lib.Math.min.name) (by decide +kernel)) (hts (.static Lib.Math.min.name) (by decide +kernel)) (hts (.initialized "java/lang/Math") (by decide +kernel)) (hts (.code Lib.Math.min.name Lib.Math.min.code 2 (some .int)) (by decide +kernel)) (Nat.le_of_ble_eq_true rfl) (Nat.le_of_ble_eq_true rfl) (Nat.le_of_ble_eq_true rfl) (Nat.le_of_ble_eq_true rfl) dX3_find_141 ?_
                      refine cy_topv (show _ = Value.int (cy_mn ((cq_f2 S (cq_f3 S (cq_f1 (S 16) (ns * 1505) 1505) ns t) (ns - 1 - t) k) ((((ns - 1 - t) + 1) * 1505) + k)) 1000) from rfl) ?_
                      refine cy_iast hC (16) (by decide) hW 0 (i := (((ns - 1 - t) * 1505) + k)) (cy_rd (cy_us) rfl) rfl (by omega) (by decide) (upd (cq_f2 S (cq_f3 S (cq_f1 (S 16) (ns * 1505) 1505) ns t) (ns - 1 - t) k) (((ns - 1 - t) * 1505) + k) (cy_mn ((cq_f2 S (cq_f3 S (cq_f1 (S 16) (ns * 1505) 1505) ns t) (ns - 1 - t) k) ((((ns - 1 - t) + 1) * 1505) + k)) 1000)) rfl (S' := (va_up S 16 (upd (cq_f2 S (cq_f3 S (cq_f1 (S 16) (ns * 1505) 1505) ns t) (ns - 1 - t) k) (((ns - 1 - t) * 1505) + k) (cy_mn ((cq_f2 S (cq_f3 S (cq_f1 (S 16) (ns * 1505) 1505) ns t) (ns - 1 - t) k) ((((ns - 1 - t) + 1) * 1505) + k)) 1000)))) cy_uu dX3_find_144 (fun H locs hW => ?_)
                      refine lv_iinc (v := nI (k + 1)) (lv' := [(3, .int (nI (k + 1))), (5, .int 1000), (4, .int ((cq_f2 S (cq_f3 S (cq_f1 (S 16) (ns * 1505) 1505) ns t) (ns - 1 - t) k) ((((ns - 1 - t) + 1) * 1505) + k))), (2, .int (nI (ns - 1 - t))), (0, .ref (ad 0)), (1, .int (nI j))]) hx hb dX3_find_145 hl (k := 2) rfl (nI_1 k) (by decide) rfl (fun ls hl => ?_)
                      refine lv_goto (tgt := 54) hx hb dX3_find_148 (by decide) ?_
                      have hW := cy_castS (show (va_up S 16 (upd (cq_f2 S (cq_f3 S (cq_f1 (S 16) (ns * 1505) 1505) ns t) (ns - 1 - t) k) (((ns - 1 - t) * 1505) + k) (cy_mn ((cq_f2 S (cq_f3 S (cq_f1 (S 16) (ns * 1505) 1505) ns t) (ns - 1 - t) k) ((((ns - 1 - t) + 1) * 1505) + k)) 1000))) = (va_up S 16 (cq_f2 S (cq_f3 S (cq_f1 (S 16) (ns * 1505) 1505) ns t) (ns - 1 - t) (k + 1))) from by simp only [cq_f2, cq_wi, c_58, c_82, ↓reduceIte]) hW
                      exact ih_54 (k + 1) (by omega) (by omega) _ _ hW _ (lv_sub hl [0, 3, 4, 5] rfl)
                    · skip
                      refine lv_iload_n hx hb dX3_find_85 rfl (lv_at hl 1 rfl) ?_
                      refine lv_aload_n hx hb dX3_find_86 rfl (lv_at hl 3 rfl) ?_
                      refine cy_get hC (0) (by decide) hi3 hW (cy_rd (cy_un (by omega)) rfl) rfl 5 (by decide) (hts (.fieldLink RX3 13 "CaskYardModel" "width" "[I") (by decide +kernel)) (fun _ h9 => h9) (v := .ref (ad 1)) rfl dX3_find_87 ?_
                      refine lv_iload_n hx hb dX3_find_90 rfl (lv_at hl 2 rfl) ?_
                      refine cy_iald hC (1) (by decide) hW 0 (i := (ns - 1 - t)) (cy_rd (cy_un (by omega)) rfl) rfl (by omega) (by decide) dX3_find_91 ?_
                      refine cy_top (y := nI (cq_wd S (ns - 1 - t))) ((hwd _ (by omega)).2.2) ?_
                      refine lv_icmp_lt (tgt := 121) hx hb dX3_find_92 (by decide) (fun c_92 => ?_) (fun c_92 => ?_)
                      · skip
                        have q_92 := cy_lt (a := k) (b := (cq_wd S (ns - 1 - t))) (by omega) (by omega) c_92
                        refine lv_sipush (v := 1000) hx hb dX3_find_121 (by decide) ?_
                        refine lv_istore (lv' := [(5, .int 1000), (4, .int ((cq_f2 S (cq_f3 S (cq_f1 (S 16) (ns * 1505) 1505) ns t) (ns - 1 - t) k) ((((ns - 1 - t) + 1) * 1505) + k))), (3, .int (nI k)), (2, .int (nI (ns - 1 - t))), (0, .ref (ad 0)), (1, .int (nI j))]) hx hb dX3_find_124 hl (by decide) rfl (fun ls hl => ?_)
                        refine lv_aload_n hx hb dX3_find_126 rfl (lv_at hl 4 rfl) ?_
                        refine cy_get hC (0) (by decide) hi3 hW (cy_rd (cy_un (by omega)) rfl) rfl 22 (by decide) (hts (.fieldLink RX3 61 "CaskYardModel" "fewest" "[I") (by decide +kernel)) (fun _ h9 => h9) (v := .ref (ad 16)) rfl dX3_find_127 ?_
                        refine lv_iload_n hx hb dX3_find_130 rfl (lv_at hl 3 rfl) ?_
                        refine lv_sipush (v := 1505) hx hb dX3_find_131 (by decide) ?_
                        refine lv_imul hx hb dX3_find_134 ?_
                        refine cy_top (pk_mul (ns - 1 - t) 1505) ?_
                        refine lv_iload_n hx hb dX3_find_135 rfl (lv_at hl 2 rfl) ?_
                        refine lv_iadd hx hb dX3_find_136 ?_
                        refine cy_top (nI_add ((ns - 1 - t) * 1505) k) ?_
                        refine lv_iload hx hb dX3_find_137 (lv_at hl 1 rfl) ?_
                        refine lv_iload hx hb dX3_find_139 (lv_at hl 0 rfl) ?_
                        refine va_mmin hx hb (hml.trans hl.1.symm) hown (hts (.methodLink RX3 96 Lib.Math.min.name) (by decide +kernel)) (hts (.static Lib.Math.min.name) (by decide +kernel)) (hts (.initialized "java/lang/Math") (by decide +kernel)) (hts (.code Lib.Math.min.name Lib.Math.min.code 2 (some .int)) (by decide +kernel)) (Nat.le_of_ble_eq_true rfl) (Nat.le_of_ble_eq_true rfl) (Nat.le_of_ble_eq_true rfl) (Nat.le_of_ble_eq_true rfl) dX3_find_141 ?_
                        refine cy_topv (show _ = Value.int (cy_mn ((cq_f2 S (cq_f3 S (cq_f1 (S 16) (ns * 1505) 1505) ns t) (ns - 1 - t) k) ((((ns - 1 - t) + 1) * 1505) + k)) 1000) from rfl) ?_
                        refine cy_iast hC (16) (by decide) hW 0 (i := (((ns - 1 - t) * 1505) + k)) (cy_rd (cy_us) rfl) rfl (by omega) (by decide) (upd (cq_f2 S (cq_f3 S (cq_f1 (S 16) (ns * 1505) 1505) ns t) (ns - 1 - t) k) (((ns - 1 - t) * 1505) + k) (cy_mn ((cq_f2 S (cq_f3 S (cq_f1 (S 16) (ns * 1505) 1505) ns t) (ns - 1 - t) k) ((((ns - 1 - t) + 1) * 1505) + k)) 1000)) rfl (S' := (va_up S 16 (upd (cq_f2 S (cq_f3 S (cq_f1 (S 16) (ns * 1505) 1505) ns t) (ns - 1 - t) k) (((ns - 1 - t) * 1505) + k) (cy_mn ((cq_f2 S (cq_f3 S (cq_f1 (S 16) (ns * 1505) 1505) ns t) (ns - 1 - t) k) ((((ns - 1 - t) + 1) * 1505) + k)) 1000)))) cy_uu dX3_find_144 (fun H locs hW => ?_)
                        refine lv_iinc (v := nI (k + 1)) (lv' := [(3, .int (nI (k + 1))), (5, .int 1000), (4, .int ((cq_f2 S (cq_f3 S (cq_f1 (S 16) (ns * 1505) 1505) ns t) (ns - 1 - t) k) ((((ns - 1 - t) + 1) * 1505) + k))), (2, .int (nI (ns - 1 - t))), (0, .ref (ad 0)), (1, .int (nI j))]) hx hb dX3_find_145 hl (k := 2) rfl (nI_1 k) (by decide) rfl (fun ls hl => ?_)
                        refine lv_goto (tgt := 54) hx hb dX3_find_148 (by decide) ?_
                        have hW := cy_castS (show (va_up S 16 (upd (cq_f2 S (cq_f3 S (cq_f1 (S 16) (ns * 1505) 1505) ns t) (ns - 1 - t) k) (((ns - 1 - t) * 1505) + k) (cy_mn ((cq_f2 S (cq_f3 S (cq_f1 (S 16) (ns * 1505) 1505) ns t) (ns - 1 - t) k) ((((ns - 1 - t) + 1) * 1505) + k)) 1000))) = (va_up S 16 (cq_f2 S (cq_f3 S (cq_f1 (S 16) (ns * 1505) 1505) ns t) (ns - 1 - t) (k + 1))) from by simp only [cq_f2, cq_wi, c_58, c_82, c_92, ↓reduceIte]) hW
                        exact ih_54 (k + 1) (by omega) (by omega) _ _ hW _ (lv_sub hl [0, 3, 4, 5] rfl)
                      · skip
                        have q_92 := cy_nlt (a := k) (b := (cq_wd S (ns - 1 - t))) (by omega) (by omega) c_92
                        refine lv_aload_n hx hb dX3_find_95 rfl (lv_at hl 3 rfl) ?_
                        refine cy_get hC (0) (by decide) hi3 hW (cy_rd (cy_un (by omega)) rfl) rfl 22 (by decide) (hts (.fieldLink RX3 61 "CaskYardModel" "fewest" "[I") (by decide +kernel)) (fun _ h9 => h9) (v := .ref (ad 16)) rfl dX3_find_96 ?_
                        refine lv_iload_n hx hb dX3_find_99 rfl (lv_at hl 2 rfl) ?_
                        refine lv_iconst (v := 1) hx hb dX3_find_100 (by decide) ?_
                        refine lv_iadd hx hb dX3_find_101 ?_
                        refine cy_top (nI_add (ns - 1 - t) 1) ?_
                        refine lv_sipush (v := 1505) hx hb dX3_find_102 (by decide) ?_
                        refine lv_imul hx hb dX3_find_105 ?_
                        refine cy_top (pk_mul ((ns - 1 - t) + 1) 1505) ?_
                        refine lv_iload_n hx hb dX3_find_106 rfl (lv_at hl 1 rfl) ?_
                        refine lv_iadd hx hb dX3_find_107 ?_
                        refine cy_top (nI_add (((ns - 1 - t) + 1) * 1505) k) ?_
                        refine lv_aload_n hx hb dX3_find_108 rfl (lv_at hl 3 rfl) ?_
                        refine cy_get hC (0) (by decide) hi3 hW (cy_rd (cy_un (by omega)) rfl) rfl 5 (by decide) (hts (.fieldLink RX3 13 "CaskYardModel" "width" "[I") (by decide +kernel)) (fun _ h9 => h9) (v := .ref (ad 1)) rfl dX3_find_109 ?_
                        refine lv_iload_n hx hb dX3_find_112 rfl (lv_at hl 2 rfl) ?_
                        refine cy_iald hC (1) (by decide) hW 0 (i := (ns - 1 - t)) (cy_rd (cy_un (by omega)) rfl) rfl (by omega) (by decide) dX3_find_113 ?_
                        refine cy_top (y := nI (cq_wd S (ns - 1 - t))) ((hwd _ (by omega)).2.2) ?_
                        refine lv_isub hx hb dX3_find_114 ?_
                        refine cy_top (pk_sub (a := ((((ns - 1 - t) + 1) * 1505) + k)) (b := (cq_wd S (ns - 1 - t))) (by omega)) ?_
                        refine cy_iald hC (16) (by decide) hW 0 (i := (((((ns - 1 - t) + 1) * 1505) + k) - (cq_wd S (ns - 1 - t)))) (cy_rd (cy_us) rfl) rfl (by omega) (by decide) dX3_find_115 ?_
                        refine lv_iconst (v := 1) hx hb dX3_find_116 (by decide) ?_
                        refine lv_iadd hx hb dX3_find_117 ?_
                        refine lv_goto (tgt := 124) hx hb dX3_find_118 (by decide) ?_
                        refine lv_istore (lv' := [(5, .int (((cq_f2 S (cq_f3 S (cq_f1 (S 16) (ns * 1505) 1505) ns t) (ns - 1 - t) k) (((((ns - 1 - t) + 1) * 1505) + k) - (cq_wd S (ns - 1 - t)))) + 1)), (4, .int ((cq_f2 S (cq_f3 S (cq_f1 (S 16) (ns * 1505) 1505) ns t) (ns - 1 - t) k) ((((ns - 1 - t) + 1) * 1505) + k))), (3, .int (nI k)), (2, .int (nI (ns - 1 - t))), (0, .ref (ad 0)), (1, .int (nI j))]) hx hb dX3_find_124 hl (by decide) rfl (fun ls hl => ?_)
                        refine lv_aload_n hx hb dX3_find_126 rfl (lv_at hl 4 rfl) ?_
                        refine cy_get hC (0) (by decide) hi3 hW (cy_rd (cy_un (by omega)) rfl) rfl 22 (by decide) (hts (.fieldLink RX3 61 "CaskYardModel" "fewest" "[I") (by decide +kernel)) (fun _ h9 => h9) (v := .ref (ad 16)) rfl dX3_find_127 ?_
                        refine lv_iload_n hx hb dX3_find_130 rfl (lv_at hl 3 rfl) ?_
                        refine lv_sipush (v := 1505) hx hb dX3_find_131 (by decide) ?_
                        refine lv_imul hx hb dX3_find_134 ?_
                        refine cy_top (pk_mul (ns - 1 - t) 1505) ?_
                        refine lv_iload_n hx hb dX3_find_135 rfl (lv_at hl 2 rfl) ?_
                        refine lv_iadd hx hb dX3_find_136 ?_
                        refine cy_top (nI_add ((ns - 1 - t) * 1505) k) ?_
                        refine lv_iload hx hb dX3_find_137 (lv_at hl 1 rfl) ?_
                        refine lv_iload hx hb dX3_find_139 (lv_at hl 0 rfl) ?_
                        refine va_mmin hx hb (hml.trans hl.1.symm) hown (hts (.methodLink RX3 96 Lib.Math.min.name) (by decide +kernel)) (hts (.static Lib.Math.min.name) (by decide +kernel)) (hts (.initialized "java/lang/Math") (by decide +kernel)) (hts (.code Lib.Math.min.name Lib.Math.min.code 2 (some .int)) (by decide +kernel)) (Nat.le_of_ble_eq_true rfl) (Nat.le_of_ble_eq_true rfl) (Nat.le_of_ble_eq_true rfl) (Nat.le_of_ble_eq_true rfl) dX3_find_141 ?_
                        refine cy_topv (show _ = Value.int (cy_mn ((cq_f2 S (cq_f3 S (cq_f1 (S 16) (ns * 1505) 1505) ns t) (ns - 1 - t) k) ((((ns - 1 - t) + 1) * 1505) + k)) (((cq_f2 S (cq_f3 S (cq_f1 (S 16) (ns * 1505) 1505) ns t) (ns - 1 - t) k) (((((ns - 1 - t) + 1) * 1505) + k) - (cq_wd S (ns - 1 - t)))) + 1)) from rfl) ?_
                        refine cy_iast hC (16) (by decide) hW 0 (i := (((ns - 1 - t) * 1505) + k)) (cy_rd (cy_us) rfl) rfl (by omega) (by decide) (upd (cq_f2 S (cq_f3 S (cq_f1 (S 16) (ns * 1505) 1505) ns t) (ns - 1 - t) k) (((ns - 1 - t) * 1505) + k) (cy_mn ((cq_f2 S (cq_f3 S (cq_f1 (S 16) (ns * 1505) 1505) ns t) (ns - 1 - t) k) ((((ns - 1 - t) + 1) * 1505) + k)) (((cq_f2 S (cq_f3 S (cq_f1 (S 16) (ns * 1505) 1505) ns t) (ns - 1 - t) k) (((((ns - 1 - t) + 1) * 1505) + k) - (cq_wd S (ns - 1 - t)))) + 1))) rfl (S' := (va_up S 16 (upd (cq_f2 S (cq_f3 S (cq_f1 (S 16) (ns * 1505) 1505) ns t) (ns - 1 - t) k) (((ns - 1 - t) * 1505) + k) (cy_mn ((cq_f2 S (cq_f3 S (cq_f1 (S 16) (ns * 1505) 1505) ns t) (ns - 1 - t) k) ((((ns - 1 - t) + 1) * 1505) + k)) (((cq_f2 S (cq_f3 S (cq_f1 (S 16) (ns * 1505) 1505) ns t) (ns - 1 - t) k) (((((ns - 1 - t) + 1) * 1505) + k) - (cq_wd S (ns - 1 - t)))) + 1))))) cy_uu dX3_find_144 (fun H locs hW => ?_)
                        refine lv_iinc (v := nI (k + 1)) (lv' := [(3, .int (nI (k + 1))), (5, .int (((cq_f2 S (cq_f3 S (cq_f1 (S 16) (ns * 1505) 1505) ns t) (ns - 1 - t) k) (((((ns - 1 - t) + 1) * 1505) + k) - (cq_wd S (ns - 1 - t)))) + 1)), (4, .int ((cq_f2 S (cq_f3 S (cq_f1 (S 16) (ns * 1505) 1505) ns t) (ns - 1 - t) k) ((((ns - 1 - t) + 1) * 1505) + k))), (2, .int (nI (ns - 1 - t))), (0, .ref (ad 0)), (1, .int (nI j))]) hx hb dX3_find_145 hl (k := 2) rfl (nI_1 k) (by decide) rfl (fun ls hl => ?_)
                        refine lv_goto (tgt := 54) hx hb dX3_find_148 (by decide) ?_
                        have hW := cy_castS (show (va_up S 16 (upd (cq_f2 S (cq_f3 S (cq_f1 (S 16) (ns * 1505) 1505) ns t) (ns - 1 - t) k) (((ns - 1 - t) * 1505) + k) (cy_mn ((cq_f2 S (cq_f3 S (cq_f1 (S 16) (ns * 1505) 1505) ns t) (ns - 1 - t) k) ((((ns - 1 - t) + 1) * 1505) + k)) (((cq_f2 S (cq_f3 S (cq_f1 (S 16) (ns * 1505) 1505) ns t) (ns - 1 - t) k) (((((ns - 1 - t) + 1) * 1505) + k) - (cq_wd S (ns - 1 - t)))) + 1)))) = (va_up S 16 (cq_f2 S (cq_f3 S (cq_f1 (S 16) (ns * 1505) 1505) ns t) (ns - 1 - t) (k + 1))) from by simp only [cq_f2, cq_wi, c_58, c_82, c_92, ↓reduceIte]) hW
                        exact ih_54 (k + 1) (by omega) (by omega) _ _ hW _ (lv_sub hl [0, 3, 4, 5] rfl)
              exact L_54 ((1505 - 0) + 1) 0 (Nat.lt_succ_self _) (by omega) _ _ hW _ (lv_sub hl [0, 1, 2, 3] rfl)
        exact L_48 ((ns - 0) + 1) 0 (Nat.lt_succ_self _) (by omega) _ _ hW _ (lv_sub hl [0, 1, 2] rfl)
      · skip
        have q_6 := cy_nle (a := 1505) (b := k) (by omega) (by omega) c_6
        refine lv_aload_n hx hb dX3_find_9 rfl (lv_at hl 1 rfl) ?_
        refine cy_get hC (0) (by decide) hi3 hW (cy_rd (cy_un (by omega)) rfl) rfl 22 (by decide) (hts (.fieldLink RX3 61 "CaskYardModel" "fewest" "[I") (by decide +kernel)) (fun _ h9 => h9) (v := .ref (ad 16)) rfl dX3_find_10 ?_
        refine lv_aload_n hx hb dX3_find_13 rfl (lv_at hl 1 rfl) ?_
        refine cy_get hC (0) (by decide) hi3 hW (cy_rd (cy_un (by omega)) rfl) rfl 4 (by decide) (hts (.fieldLink RX3 78 "CaskYardModel" "staves" "I") (by decide +kernel)) (fun _ h9 => h9) (v := .int (S 0 4)) rfl dX3_find_14 ?_
        refine cy_top (y := nI ns) hns ?_
        refine lv_sipush (v := 1505) hx hb dX3_find_17 (by decide) ?_
        refine lv_imul hx hb dX3_find_20 ?_
        refine cy_top (pk_mul ns 1505) ?_
        refine lv_iload_n hx hb dX3_find_21 rfl (lv_at hl 0 rfl) ?_
        refine lv_iadd hx hb dX3_find_22 ?_
        refine cy_top (nI_add (ns * 1505) k) ?_
        refine lv_iload_n hx hb dX3_find_23 rfl (lv_at hl 0 rfl) ?_
        refine lv_if_ne (tgt := 31) hx hb dX3_find_24 (by decide) (fun c_24 => ?_) (fun c_24 => ?_)
        · skip
          have q_24 := cy_ne (a := k) (b := 0) (by omega) (by omega) c_24
          refine lv_sipush (v := 1000) hx hb dX3_find_31 (by decide) ?_
          refine cy_iast hC (16) (by decide) hW 0 (i := ((ns * 1505) + k)) (cy_rd (cy_us) rfl) rfl (by omega) (by decide) (upd (cq_f1 (S 16) (ns * 1505) k) ((ns * 1505) + k) 1000) rfl (S' := (va_up S 16 (upd (cq_f1 (S 16) (ns * 1505) k) ((ns * 1505) + k) 1000))) cy_uu dX3_find_34 (fun H locs hW => ?_)
          refine lv_iinc (v := nI (k + 1)) (lv' := [(2, .int (nI (k + 1))), (0, .ref (ad 0)), (1, .int (nI j))]) hx hb dX3_find_35 hl (k := 0) rfl (nI_1 k) (by decide) rfl (fun ls hl => ?_)
          refine lv_goto (tgt := 2) hx hb dX3_find_38 (by decide) ?_
          have hW := cy_castS (show (va_up S 16 (upd (cq_f1 (S 16) (ns * 1505) k) ((ns * 1505) + k) 1000)) = (va_up S 16 (cq_f1 (S 16) (ns * 1505) (k + 1))) from by simp only [cq_f1, c_6, c_24, ↓reduceIte]) hW
          exact ih_2 (k + 1) (by omega) (by omega) _ _ hW _ (lv_sub hl [0, 1, 2] rfl)
        · skip
          have q_24 := cy_eq (a := k) (b := 0) (by omega) (by omega) c_24
          refine lv_iconst (v := 0) hx hb dX3_find_27 (by decide) ?_
          refine lv_goto (tgt := 34) hx hb dX3_find_28 (by decide) ?_
          refine cy_iast hC (16) (by decide) hW 0 (i := ((ns * 1505) + k)) (cy_rd (cy_us) rfl) rfl (by omega) (by decide) (upd (cq_f1 (S 16) (ns * 1505) k) ((ns * 1505) + k) 0) rfl (S' := (va_up S 16 (upd (cq_f1 (S 16) (ns * 1505) k) ((ns * 1505) + k) 0))) cy_uu dX3_find_34 (fun H locs hW => ?_)
          refine lv_iinc (v := nI (k + 1)) (lv' := [(2, .int (nI (k + 1))), (0, .ref (ad 0)), (1, .int (nI j))]) hx hb dX3_find_35 hl (k := 0) rfl (nI_1 k) (by decide) rfl (fun ls hl => ?_)
          refine lv_goto (tgt := 2) hx hb dX3_find_38 (by decide) ?_
          have hW := cy_castS (show (va_up S 16 (upd (cq_f1 (S 16) (ns * 1505) k) ((ns * 1505) + k) 0)) = (va_up S 16 (cq_f1 (S 16) (ns * 1505) (k + 1))) from by simp only [cq_f1, c_6, c_24, ↓reduceIte]) hW
          exact ih_2 (k + 1) (by omega) (by omega) _ _ hW _ (lv_sub hl [0, 1, 2] rfl)
  have hW := cy_castS (show S = va_up S 16 (cq_f1 (S 16) (ns * 1505) 0) from cy_self.symm) hW
  exact L_2 ((1505 - 0) + 1) 0 (Nat.lt_succ_self _) (by omega) _ _ hW _ (lv_sub hl [0, 1, 2] rfl)
