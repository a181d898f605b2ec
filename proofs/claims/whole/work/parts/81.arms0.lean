/-! the law: its arms (printed by gen_law.py) -/
section Arms
variable {p : Program} {l : Launch} {e : Env} {s : State} {m : MethodId} {below : List Frame} {meth : Method} {c : Code} {b L : Nat} {xs : Nat → Int32} {D : va_G} {kI kJ kZ kC : ClassId} {ad ad2 : Nat → Nat} {ao : Nat} {S M : Nat → Nat → Int32} {Z : Nat → Int64} {g : Nat → Int64} {ns no nc mo k cells slots : Nat} {H : Heap} {locs : List Loc} {ls : Array Slot}
set_option maxHeartbeats 4000000 in
set_option maxRecDepth 100000 in
theorem a_addStave (I : lw_In p l e s m c b L xs D kI kJ kZ kC) (E : lw_E p l e s m below meth c b D kI kJ kZ kC ad ad2 ao k cells slots) (hk : 4 * k + 4 ≤ L) (hL : L ≤ 2048) (hcs : cells + 300 ≤ 601024 ∧ slots + 2000 ≤ 7293034) (h : Rel S M ns no nc mo k) (hfr : R_fr S M nc) (hW : cy_W D (lw_A s) s.heap (cy_Y kI kJ kC ad S Z ((ao, .inl (kJ, 1, .inr (.inl g))) :: cy_Mw kI kZ ad2 M [])) H locs) (hl : lv_has ls 9 [(0, .ref b), (1, .ref (ad 0)), (2, .ref (ad2 0)), (3, .ref ao), (4, .int (nI (4 * k)))]) : W p l e room_1 s m #[Value.ref b] below meth c H locs cells slots (lw_Z below #[Value.ref b] s) (F0 m 124 ls []) := by
  obtain ⟨hC, hTh, hNx, hX, hbl, hl0⟩ := I
  have hx := hC.1.1; have hb := hC.1.2.1; have hml := hC.1.2.2.1; have hown := hC.1.2.2.2.1; have hts := hC.1.2.2.2.2
  have hbA : ¬ lw_A s b := Nat.not_le.mpr hbl
  obtain ⟨u1, u2, u3⟩ := u_addStave (x := (xs (4 * k + 1))) (y := (xs (4 * k + 2))) h hfr
  refine lv_aload_n hx hb dL_law_124 rfl (lv_at hl 1 rfl) ?_
  refine lv_aload_n hx hb dL_law_125 rfl (lv_at hl 0 rfl) ?_
  refine lv_iload hx hb dL_law_126 (lv_at hl 4 rfl) ?_
  refine lv_iconst (v := 1) hx hb dL_law_128 (by decide) ?_
  refine lv_iadd hx hb dL_law_129 ?_
  refine cy_top (y := nI (4 * k + 1)) (nI_add (4 * k) 1) ?_
  refine va_sld hx hb hX hbl hbA hW.2.2 (vp_in_nI (by omega) (by omega)) dL_law_130 ?_
  refine cy_top (y := xs (4 * k + 1)) (by rw [nI_clamp (by omega)]) ?_
  refine lv_aload_n hx hb dL_law_131 rfl (lv_at hl 0 rfl) ?_
  refine lv_iload hx hb dL_law_132 (lv_at hl 4 rfl) ?_
  refine lv_iconst (v := 2) hx hb dL_law_134 (by decide) ?_
  refine lv_iadd hx hb dL_law_135 ?_
  refine cy_top (y := nI (4 * k + 2)) (nI_add (4 * k) 2) ?_
  refine va_sld hx hb hX hbl hbA hW.2.2 (vp_in_nI (by omega) (by omega)) dL_law_136 ?_
  refine cy_top (y := xs (4 * k + 2)) (by rw [nI_clamp (by omega)]) ?_
  refine lv_aload_n hx hb dL_law_137 rfl (lv_at hl 3 rfl) ?_
  refine cy_callSV (rm := rm_L_addStave) hl0 hTh hNx (As := [.ref (ad 0), .int (xs (4 * k + 1)), .int (xs (4 * k + 2)), .ref ao]) (rest := []) hC.1 hC.2.1 hC.2.2 hW (c_L_addStave (x := (xs (4 * k + 1))) (y := (xs (4 * k + 2))) h.1.1.1 h.1.1.2.2) (vx_cwSW 4 hts gL_law_L_addStave rfl rfl rfl (by decide +kernel) ⟨Nat.le_of_ble_eq_true rfl, Nat.le_of_ble_eq_true rfl⟩) rfl hl.1 rfl (Nat.le_of_ble_eq_true rfl) dL_law_138 ⟨(show cells + 1 ≤ 601024 by omega), (show slots + 6 ≤ 7293034 by omega)⟩ (k' := cells + 1) (n' := slots + 6) rfl rfl (fun H locs hW => ?_)
  refine lv_topi (fun v5 e5 => ?_)
  refine lv_istore (lv' := [(5, .int v5), (0, .ref b), (1, .ref (ad 0)), (2, .ref (ad2 0)), (3, .ref ao), (4, .int (nI (4 * k)))]) hx hb dL_law_141 hl (by decide) rfl (fun ls hl => ?_)
  have hW := cy_swap hW
  refine lv_aload_n hx hb dL_law_143 rfl (lv_at hl 3 rfl) ?_
  refine lv_aload_n hx hb dL_law_144 rfl (lv_at hl 1 rfl) ?_
  refine lv_iload hx hb dL_law_145 (lv_at hl 5 rfl) ?_
  refine lv_iconst (v := 1) hx hb dL_law_147 (by decide) ?_
  refine lv_iadd hx hb dL_law_148 ?_
  refine cy_top (y := nI (4 * k + 1)) (nI_add (4 * k) 1) ?_
  refine va_sld hx hb hX hbl hbA hW.2.2 (vp_in_nI (by omega) (by omega)) dL_law_149 ?_
  refine cy_top (y := xs (4 * k + 1)) (by rw [nI_clamp (by omega)]) ?_
  refine lv_aload_n hx hb dL_law_150 rfl (lv_at hl 1 rfl) ?_
  refine lv_iload hx hb dL_law_151 (lv_at hl 5 rfl) ?_
  refine lv_iconst (v := 2) hx hb dL_law_153 (by decide) ?_
  refine lv_iadd hx hb dL_law_154 ?_
  refine cy_top (y := nI (4 * k + 2)) (nI_add (4 * k) 2) ?_
  refine va_sld hx hb hX hbl hbA hW.2.2 (vp_in_nI (by omega) (by omega)) dL_law_155 ?_
  refine cy_top (y := xs (4 * k + 2)) (by rw [nI_clamp (by omega)]) ?_
  refine cy_callV (rm := rm_X3_addStave) (As := [.int (xs (4 * k + 1)), .int (xs (4 * k + 2))]) (rest := []) (q0 := 0) (ci := 3) hC.1 hC.2.1 hC.2.2 hW (c_X3_addStave (x := (xs (4 * k + 1))) (y := (xs (4 * k + 2))) h.1.1.2.1 h.1.1.2.2) (cwV 2 hts gL_law_X3_addStave rfl rfl rfl (by decide +kernel) ⟨Nat.le_of_ble_eq_true rfl, Nat.le_of_ble_eq_true rfl⟩) (cy_w_at (by decide) rfl) rfl rfl hl.1 rfl (Nat.le_of_ble_eq_true rfl) dL_law_156 ⟨(show cells + 1 + 0 ≤ 601024 by omega), (show slots + 6 + 0 ≤ 7293034 by omega)⟩ (k' := cells + 1 + 0) (n' := slots + 6 + 0) rfl rfl (fun H locs hW => ?_)
  refine lv_topi (fun v6 e6 => ?_)
  refine lv_istore (lv' := [(6, .int v6), (5, .int v5), (0, .ref b), (1, .ref (ad 0)), (2, .ref (ad2 0)), (3, .ref ao), (4, .int (nI (4 * k)))]) hx hb dL_law_159 hl (by decide) rfl (fun ls hl => ?_)
  refine lv_aload_n hx hb dL_law_161 rfl (lv_at hl 4 rfl) ?_
  refine cy_callV (rm := rm_X3_thrown) (As := []) (rest := []) (q0 := 0) (ci := 3) hC.1 hC.2.1 hC.2.2 hW c_X3_thrown (cwV 0 hts gL_law_X3_thrown rfl rfl rfl (by decide +kernel) ⟨Nat.le_of_ble_eq_true rfl, Nat.le_of_ble_eq_true rfl⟩) (cy_w_at (by decide) rfl) rfl rfl hl.1 rfl (Nat.le_of_ble_eq_true rfl) dL_law_162 ⟨(show cells + 1 + 0 ≤ 601024 by omega), (show slots + 6 + 0 ≤ 7293034 by omega)⟩ (k' := cells + 1 + 0) (n' := slots + 6 + 0) rfl rfl (fun H locs hW => ?_)
  have hW := cy_swap' hW
  refine lv_iload hx hb dL_law_165 (lv_at hl 1 rfl) ?_
  refine lv_icmp_eq (tgt := 172) hx hb dL_law_167 (by decide) (fun _ => ?_) (fun cn => absurd (u1.symm.trans e5.symm) cn)
  refine lv_iload hx hb dL_law_172 (lv_at hl 1 rfl) ?_
  refine lv_if_ne (tgt := 189) hx hb dL_law_174 (by decide) (fun _ => ?_) (fun c0 => ?_)
  · refine lv_goto (tgt := 1267) hx hb dL_law_189 (by decide) ?_
    exact E _ _ _ _ _ _ _ _ _ (by omega) (by omega) u3 hW (lv_sub hl [2, 3, 4, 5, 6] rfl)
  · have hth := cy_cd_0 (e5.symm.trans c0)
    refine lv_aload_n hx hb dL_law_177 rfl (lv_at hl 5 rfl) ?_
    refine lv_iconst (v := 0) hx hb dL_law_178 (by decide) ?_
    refine cy_tlald hC 0 ao hW 1 (i := 0) rfl rfl (by decide) (by decide) dL_law_179 ?_
    refine lv_iload hx hb dL_law_180 (lv_at hl 0 rfl) ?_
    refine lv_i2l hx hb dL_law_182 rfl ?_
    refine W.lcmp hx hb dL_law_183 ?_
    refine lv_if_eq (tgt := 189) hx hb dL_law_184 (by decide) (fun _ => ?_) (fun cn => absurd (lw_cmp hth ((u2 hth).trans e6.symm)) cn)
    refine lv_goto (tgt := 1267) hx hb dL_law_189 (by decide) ?_
    exact E _ _ _ _ _ _ _ _ _ (by omega) (by omega) u3 hW (lv_sub hl [2, 3, 4, 5, 6] rfl)
set_option maxHeartbeats 4000000 in
set_option maxRecDepth 100000 in
theorem a_stave (I : lw_In p l e s m c b L xs D kI kJ kZ kC) (E : lw_E p l e s m below meth c b D kI kJ kZ kC ad ad2 ao k cells slots) (hk : 4 * k + 4 ≤ L) (hL : L ≤ 2048) (hcs : cells + 300 ≤ 601024 ∧ slots + 2000 ≤ 7293034) (h : Rel S M ns no nc mo k) (hfr : R_fr S M nc) (hW : cy_W D (lw_A s) s.heap (cy_Y kI kJ kC ad S Z ((ao, .inl (kJ, 1, .inr (.inl g))) :: cy_Mw kI kZ ad2 M [])) H locs) (hl : lv_has ls 9 [(0, .ref b), (1, .ref (ad 0)), (2, .ref (ad2 0)), (3, .ref ao), (4, .int (nI (4 * k)))]) : W p l e room_1 s m #[Value.ref b] below meth c H locs cells slots (lw_Z below #[Value.ref b] s) (F0 m 192 ls []) := by
  obtain ⟨hC, hTh, hNx, hX, hbl, hl0⟩ := I
  have hx := hC.1.1; have hb := hC.1.2.1; have hml := hC.1.2.2.1; have hown := hC.1.2.2.2.1; have hts := hC.1.2.2.2.2
  have hbA : ¬ lw_A s b := Nat.not_le.mpr hbl
  obtain ⟨u1, u2, u3⟩ := u_stave (x := (xs (4 * k + 1))) (y := (xs (4 * k + 2))) h hfr
  refine lv_aload_n hx hb dL_law_192 rfl (lv_at hl 1 rfl) ?_
  refine lv_aload_n hx hb dL_law_193 rfl (lv_at hl 0 rfl) ?_
  refine lv_iload hx hb dL_law_194 (lv_at hl 4 rfl) ?_
  refine lv_iconst (v := 1) hx hb dL_law_196 (by decide) ?_
  refine lv_iadd hx hb dL_law_197 ?_
  refine cy_top (y := nI (4 * k + 1)) (nI_add (4 * k) 1) ?_
  refine va_sld hx hb hX hbl hbA hW.2.2 (vp_in_nI (by omega) (by omega)) dL_law_198 ?_
  refine cy_top (y := xs (4 * k + 1)) (by rw [nI_clamp (by omega)]) ?_
  refine lv_aload_n hx hb dL_law_199 rfl (lv_at hl 0 rfl) ?_
  refine lv_iload hx hb dL_law_200 (lv_at hl 4 rfl) ?_
  refine lv_iconst (v := 2) hx hb dL_law_202 (by decide) ?_
  refine lv_iadd hx hb dL_law_203 ?_
  refine cy_top (y := nI (4 * k + 2)) (nI_add (4 * k) 2) ?_
  refine va_sld hx hb hX hbl hbA hW.2.2 (vp_in_nI (by omega) (by omega)) dL_law_204 ?_
  refine cy_top (y := xs (4 * k + 2)) (by rw [nI_clamp (by omega)]) ?_
  refine lv_aload_n hx hb dL_law_205 rfl (lv_at hl 3 rfl) ?_
  refine cy_callSV (rm := rm_L_stave) hl0 hTh hNx (As := [.ref (ad 0), .int (xs (4 * k + 1)), .int (xs (4 * k + 2)), .ref ao]) (rest := []) hC.1 hC.2.1 hC.2.2 hW (c_L_stave (x := (xs (4 * k + 1))) (y := (xs (4 * k + 2))) h.1.1.1 h.1.1.2.2) (vx_cwSW 4 hts gL_law_L_stave rfl rfl rfl (by decide +kernel) ⟨Nat.le_of_ble_eq_true rfl, Nat.le_of_ble_eq_true rfl⟩) rfl hl.1 rfl (Nat.le_of_ble_eq_true rfl) dL_law_206 ⟨(show cells + 1 ≤ 601024 by omega), (show slots + 6 ≤ 7293034 by omega)⟩ (k' := cells + 1) (n' := slots + 6) rfl rfl (fun H locs hW => ?_)
  refine lv_topi (fun v5 e5 => ?_)
  refine lv_istore (lv' := [(5, .int v5), (0, .ref b), (1, .ref (ad 0)), (2, .ref (ad2 0)), (3, .ref ao), (4, .int (nI (4 * k)))]) hx hb dL_law_209 hl (by decide) rfl (fun ls hl => ?_)
  have hW := cy_swap hW
  refine lv_aload_n hx hb dL_law_211 rfl (lv_at hl 3 rfl) ?_
  refine lv_aload_n hx hb dL_law_212 rfl (lv_at hl 1 rfl) ?_
  refine lv_iload hx hb dL_law_213 (lv_at hl 5 rfl) ?_
  refine lv_iconst (v := 1) hx hb dL_law_215 (by decide) ?_
  refine lv_iadd hx hb dL_law_216 ?_
  refine cy_top (y := nI (4 * k + 1)) (nI_add (4 * k) 1) ?_
  refine va_sld hx hb hX hbl hbA hW.2.2 (vp_in_nI (by omega) (by omega)) dL_law_217 ?_
  refine cy_top (y := xs (4 * k + 1)) (by rw [nI_clamp (by omega)]) ?_
  refine lv_aload_n hx hb dL_law_218 rfl (lv_at hl 1 rfl) ?_
  refine lv_iload hx hb dL_law_219 (lv_at hl 5 rfl) ?_
  refine lv_iconst (v := 2) hx hb dL_law_221 (by decide) ?_
  refine lv_iadd hx hb dL_law_222 ?_
  refine cy_top (y := nI (4 * k + 2)) (nI_add (4 * k) 2) ?_
  refine va_sld hx hb hX hbl hbA hW.2.2 (vp_in_nI (by omega) (by omega)) dL_law_223 ?_
  refine cy_top (y := xs (4 * k + 2)) (by rw [nI_clamp (by omega)]) ?_
  refine cy_callV (rm := rm_X3_stave) (As := [.int (xs (4 * k + 1)), .int (xs (4 * k + 2))]) (rest := []) (q0 := 0) (ci := 3) hC.1 hC.2.1 hC.2.2 hW (c_X3_stave (x := (xs (4 * k + 1))) (y := (xs (4 * k + 2))) h.1.1.2.1 h.1.1.2.2) (cwV 2 hts gL_law_X3_stave rfl rfl rfl (by decide +kernel) ⟨Nat.le_of_ble_eq_true rfl, Nat.le_of_ble_eq_true rfl⟩) (cy_w_at (by decide) rfl) rfl rfl hl.1 rfl (Nat.le_of_ble_eq_true rfl) dL_law_224 ⟨(show cells + 1 + 0 ≤ 601024 by omega), (show slots + 6 + 0 ≤ 7293034 by omega)⟩ (k' := cells + 1 + 0) (n' := slots + 6 + 0) rfl rfl (fun H locs hW => ?_)
  refine lv_topi (fun v6 e6 => ?_)
  refine lv_istore (lv' := [(6, .int v6), (5, .int v5), (0, .ref b), (1, .ref (ad 0)), (2, .ref (ad2 0)), (3, .ref ao), (4, .int (nI (4 * k)))]) hx hb dL_law_227 hl (by decide) rfl (fun ls hl => ?_)
  refine lv_aload_n hx hb dL_law_229 rfl (lv_at hl 4 rfl) ?_
  refine cy_callV (rm := rm_X3_thrown) (As := []) (rest := []) (q0 := 0) (ci := 3) hC.1 hC.2.1 hC.2.2 hW c_X3_thrown (cwV 0 hts gL_law_X3_thrown rfl rfl rfl (by decide +kernel) ⟨Nat.le_of_ble_eq_true rfl, Nat.le_of_ble_eq_true rfl⟩) (cy_w_at (by decide) rfl) rfl rfl hl.1 rfl (Nat.le_of_ble_eq_true rfl) dL_law_230 ⟨(show cells + 1 + 0 ≤ 601024 by omega), (show slots + 6 + 0 ≤ 7293034 by omega)⟩ (k' := cells + 1 + 0) (n' := slots + 6 + 0) rfl rfl (fun H locs hW => ?_)
  have hW := cy_swap' hW
  refine lv_iload hx hb dL_law_233 (lv_at hl 1 rfl) ?_
  refine lv_icmp_eq (tgt := 240) hx hb dL_law_235 (by decide) (fun _ => ?_) (fun cn => absurd (u1.symm.trans e5.symm) cn)
  refine lv_iload hx hb dL_law_240 (lv_at hl 1 rfl) ?_
  refine lv_if_ne (tgt := 257) hx hb dL_law_242 (by decide) (fun _ => ?_) (fun c0 => ?_)
  · refine lv_goto (tgt := 1267) hx hb dL_law_257 (by decide) ?_
    exact E _ _ _ _ _ _ _ _ _ (by omega) (by omega) u3 hW (lv_sub hl [2, 3, 4, 5, 6] rfl)
  · have hth := cy_cd_0 (e5.symm.trans c0)
    refine lv_aload_n hx hb dL_law_245 rfl (lv_at hl 5 rfl) ?_
    refine lv_iconst (v := 0) hx hb dL_law_246 (by decide) ?_
    refine cy_tlald hC 0 ao hW 1 (i := 0) rfl rfl (by decide) (by decide) dL_law_247 ?_
    refine lv_iload hx hb dL_law_248 (lv_at hl 0 rfl) ?_
    refine lv_i2l hx hb dL_law_250 rfl ?_
    refine W.lcmp hx hb dL_law_251 ?_
    refine lv_if_eq (tgt := 257) hx hb dL_law_252 (by decide) (fun _ => ?_) (fun cn => absurd (lw_cmp hth ((u2 hth).trans e6.symm)) cn)
    refine lv_goto (tgt := 1267) hx hb dL_law_257 (by decide) ?_
    exact E _ _ _ _ _ _ _ _ _ (by omega) (by omega) u3 hW (lv_sub hl [2, 3, 4, 5, 6] rfl)
set_option maxHeartbeats 4000000 in
set_option maxRecDepth 100000 in
theorem a_addSort (I : lw_In p l e s m c b L xs D kI kJ kZ kC) (E : lw_E p l e s m below meth c b D kI kJ kZ kC ad ad2 ao k cells slots) (hk : 4 * k + 4 ≤ L) (hL : L ≤ 2048) (hcs : cells + 300 ≤ 601024 ∧ slots + 2000 ≤ 7293034) (h : Rel S M ns no nc mo k) (hfr : R_fr S M nc) (hW : cy_W D (lw_A s) s.heap (cy_Y kI kJ kC ad S Z ((ao, .inl (kJ, 1, .inr (.inl g))) :: cy_Mw kI kZ ad2 M [])) H locs) (hl : lv_has ls 9 [(0, .ref b), (1, .ref (ad 0)), (2, .ref (ad2 0)), (3, .ref ao), (4, .int (nI (4 * k)))]) : W p l e room_1 s m #[Value.ref b] below meth c H locs cells slots (lw_Z below #[Value.ref b] s) (F0 m 260 ls []) := by
  obtain ⟨hC, hTh, hNx, hX, hbl, hl0⟩ := I
  have hx := hC.1.1; have hb := hC.1.2.1; have hml := hC.1.2.2.1; have hown := hC.1.2.2.2.1; have hts := hC.1.2.2.2.2
  have hbA : ¬ lw_A s b := Nat.not_le.mpr hbl
  obtain ⟨u1, u2, u3⟩ := u_addSort (x := (xs (4 * k + 1))) (y := (xs (4 * k + 2))) (z := (xs (4 * k + 3))) h hfr
  refine lv_aload_n hx hb dL_law_260 rfl (lv_at hl 1 rfl) ?_
  refine lv_aload_n hx hb dL_law_261 rfl (lv_at hl 0 rfl) ?_
  refine lv_iload hx hb dL_law_262 (lv_at hl 4 rfl) ?_
  refine lv_iconst (v := 1) hx hb dL_law_264 (by decide) ?_
  refine lv_iadd hx hb dL_law_265 ?_
  refine cy_top (y := nI (4 * k + 1)) (nI_add (4 * k) 1) ?_
  refine va_sld hx hb hX hbl hbA hW.2.2 (vp_in_nI (by omega) (by omega)) dL_law_266 ?_
  refine cy_top (y := xs (4 * k + 1)) (by rw [nI_clamp (by omega)]) ?_
  refine lv_aload_n hx hb dL_law_267 rfl (lv_at hl 0 rfl) ?_
  refine lv_iload hx hb dL_law_268 (lv_at hl 4 rfl) ?_
  refine lv_iconst (v := 2) hx hb dL_law_270 (by decide) ?_
  refine lv_iadd hx hb dL_law_271 ?_
  refine cy_top (y := nI (4 * k + 2)) (nI_add (4 * k) 2) ?_
  refine va_sld hx hb hX hbl hbA hW.2.2 (vp_in_nI (by omega) (by omega)) dL_law_272 ?_
  refine cy_top (y := xs (4 * k + 2)) (by rw [nI_clamp (by omega)]) ?_
  refine lv_aload_n hx hb dL_law_273 rfl (lv_at hl 0 rfl) ?_
  refine lv_iload hx hb dL_law_274 (lv_at hl 4 rfl) ?_
  refine lv_iconst (v := 3) hx hb dL_law_276 (by decide) ?_
  refine lv_iadd hx hb dL_law_277 ?_
  refine cy_top (y := nI (4 * k + 3)) (nI_add (4 * k) 3) ?_
  refine va_sld hx hb hX hbl hbA hW.2.2 (vp_in_nI (by omega) (by omega)) dL_law_278 ?_
  refine cy_top (y := xs (4 * k + 3)) (by rw [nI_clamp (by omega)]) ?_
  refine lv_aload_n hx hb dL_law_279 rfl (lv_at hl 3 rfl) ?_
  refine cy_callSV (rm := rm_L_addSort) hl0 hTh hNx (As := [.ref (ad 0), .int (xs (4 * k + 1)), .int (xs (4 * k + 2)), .int (xs (4 * k + 3)), .ref ao]) (rest := []) hC.1 hC.2.1 hC.2.2 hW (c_L_addSort (x := (xs (4 * k + 1))) (y := (xs (4 * k + 2))) (z := (xs (4 * k + 3))) h.1.2.1.1 h.1.2.1.2.2) (vx_cwSW 5 hts gL_law_L_addSort rfl rfl rfl (by decide +kernel) ⟨Nat.le_of_ble_eq_true rfl, Nat.le_of_ble_eq_true rfl⟩) rfl hl.1 rfl (Nat.le_of_ble_eq_true rfl) dL_law_280 ⟨(show cells + 1 ≤ 601024 by omega), (show slots + 6 ≤ 7293034 by omega)⟩ (k' := cells + 1) (n' := slots + 6) rfl rfl (fun H locs hW => ?_)
  refine lv_topi (fun v5 e5 => ?_)
  refine lv_istore (lv' := [(5, .int v5), (0, .ref b), (1, .ref (ad 0)), (2, .ref (ad2 0)), (3, .ref ao), (4, .int (nI (4 * k)))]) hx hb dL_law_283 hl (by decide) rfl (fun ls hl => ?_)
  have hW := cy_swap hW
  refine lv_aload_n hx hb dL_law_285 rfl (lv_at hl 3 rfl) ?_
  refine lv_aload_n hx hb dL_law_286 rfl (lv_at hl 1 rfl) ?_
  refine lv_iload hx hb dL_law_287 (lv_at hl 5 rfl) ?_
  refine lv_iconst (v := 1) hx hb dL_law_289 (by decide) ?_
  refine lv_iadd hx hb dL_law_290 ?_
  refine cy_top (y := nI (4 * k + 1)) (nI_add (4 * k) 1) ?_
  refine va_sld hx hb hX hbl hbA hW.2.2 (vp_in_nI (by omega) (by omega)) dL_law_291 ?_
  refine cy_top (y := xs (4 * k + 1)) (by rw [nI_clamp (by omega)]) ?_
  refine lv_aload_n hx hb dL_law_292 rfl (lv_at hl 1 rfl) ?_
  refine lv_iload hx hb dL_law_293 (lv_at hl 5 rfl) ?_
  refine lv_iconst (v := 2) hx hb dL_law_295 (by decide) ?_
  refine lv_iadd hx hb dL_law_296 ?_
  refine cy_top (y := nI (4 * k + 2)) (nI_add (4 * k) 2) ?_
  refine va_sld hx hb hX hbl hbA hW.2.2 (vp_in_nI (by omega) (by omega)) dL_law_297 ?_
  refine cy_top (y := xs (4 * k + 2)) (by rw [nI_clamp (by omega)]) ?_
  refine lv_aload_n hx hb dL_law_298 rfl (lv_at hl 1 rfl) ?_
  refine lv_iload hx hb dL_law_299 (lv_at hl 5 rfl) ?_
  refine lv_iconst (v := 3) hx hb dL_law_301 (by decide) ?_
  refine lv_iadd hx hb dL_law_302 ?_
  refine cy_top (y := nI (4 * k + 3)) (nI_add (4 * k) 3) ?_
  refine va_sld hx hb hX hbl hbA hW.2.2 (vp_in_nI (by omega) (by omega)) dL_law_303 ?_
  refine cy_top (y := xs (4 * k + 3)) (by rw [nI_clamp (by omega)]) ?_
  refine cy_callV (rm := rm_X3_addSort) (As := [.int (xs (4 * k + 1)), .int (xs (4 * k + 2)), .int (xs (4 * k + 3))]) (rest := []) (q0 := 0) (ci := 3) hC.1 hC.2.1 hC.2.2 hW (c_X3_addSort (x := (xs (4 * k + 1))) (y := (xs (4 * k + 2))) (z := (xs (4 * k + 3))) h.1.2.1.2.1 h.1.2.1.2.2) (cwV 3 hts gL_law_X3_addSort rfl rfl rfl (by decide +kernel) ⟨Nat.le_of_ble_eq_true rfl, Nat.le_of_ble_eq_true rfl⟩) (cy_w_at (by decide) rfl) rfl rfl hl.1 rfl (Nat.le_of_ble_eq_true rfl) dL_law_304 ⟨(show cells + 1 + 0 ≤ 601024 by omega), (show slots + 6 + 0 ≤ 7293034 by omega)⟩ (k' := cells + 1 + 0) (n' := slots + 6 + 0) rfl rfl (fun H locs hW => ?_)
  refine lv_topi (fun v6 e6 => ?_)
  refine lv_istore (lv' := [(6, .int v6), (5, .int v5), (0, .ref b), (1, .ref (ad 0)), (2, .ref (ad2 0)), (3, .ref ao), (4, .int (nI (4 * k)))]) hx hb dL_law_307 hl (by decide) rfl (fun ls hl => ?_)
  refine lv_aload_n hx hb dL_law_309 rfl (lv_at hl 4 rfl) ?_
  refine cy_callV (rm := rm_X3_thrown) (As := []) (rest := []) (q0 := 0) (ci := 3) hC.1 hC.2.1 hC.2.2 hW c_X3_thrown (cwV 0 hts gL_law_X3_thrown rfl rfl rfl (by decide +kernel) ⟨Nat.le_of_ble_eq_true rfl, Nat.le_of_ble_eq_true rfl⟩) (cy_w_at (by decide) rfl) rfl rfl hl.1 rfl (Nat.le_of_ble_eq_true rfl) dL_law_310 ⟨(show cells + 1 + 0 ≤ 601024 by omega), (show slots + 6 + 0 ≤ 7293034 by omega)⟩ (k' := cells + 1 + 0) (n' := slots + 6 + 0) rfl rfl (fun H locs hW => ?_)
  have hW := cy_swap' hW
  refine lv_iload hx hb dL_law_313 (lv_at hl 1 rfl) ?_
  refine lv_icmp_eq (tgt := 320) hx hb dL_law_315 (by decide) (fun _ => ?_) (fun cn => absurd (u1.symm.trans e5.symm) cn)
  refine lv_iload hx hb dL_law_320 (lv_at hl 1 rfl) ?_
  refine lv_if_ne (tgt := 337) hx hb dL_law_322 (by decide) (fun _ => ?_) (fun c0 => ?_)
  · refine lv_goto (tgt := 1267) hx hb dL_law_337 (by decide) ?_
    exact E _ _ _ _ _ _ _ _ _ (by omega) (by omega) u3 hW (lv_sub hl [2, 3, 4, 5, 6] rfl)
  · have hth := cy_cd_0 (e5.symm.trans c0)
    refine lv_aload_n hx hb dL_law_325 rfl (lv_at hl 5 rfl) ?_
    refine lv_iconst (v := 0) hx hb dL_law_326 (by decide) ?_
    refine cy_tlald hC 0 ao hW 1 (i := 0) rfl rfl (by decide) (by decide) dL_law_327 ?_
    refine lv_iload hx hb dL_law_328 (lv_at hl 0 rfl) ?_
    refine lv_i2l hx hb dL_law_330 rfl ?_
    refine W.lcmp hx hb dL_law_331 ?_
    refine lv_if_eq (tgt := 337) hx hb dL_law_332 (by decide) (fun _ => ?_) (fun cn => absurd (lw_cmp hth ((u2 hth).trans e6.symm)) cn)
    refine lv_goto (tgt := 1267) hx hb dL_law_337 (by decide) ?_
    exact E _ _ _ _ _ _ _ _ _ (by omega) (by omega) u3 hW (lv_sub hl [2, 3, 4, 5, 6] rfl)
set_option maxHeartbeats 4000000 in
set_option maxRecDepth 100000 in
theorem a_choose (I : lw_In p l e s m c b L xs D kI kJ kZ kC) (E : lw_E p l e s m below meth c b D kI kJ kZ kC ad ad2 ao k cells slots) (hk : 4 * k + 4 ≤ L) (hL : L ≤ 2048) (hcs : cells + 300 ≤ 601024 ∧ slots + 2000 ≤ 7293034) (h : Rel S M ns no nc mo k) (hfr : R_fr S M nc) (hW : cy_W D (lw_A s) s.heap (cy_Y kI kJ kC ad S Z ((ao, .inl (kJ, 1, .inr (.inl g))) :: cy_Mw kI kZ ad2 M [])) H locs) (hl : lv_has ls 9 [(0, .ref b), (1, .ref (ad 0)), (2, .ref (ad2 0)), (3, .ref ao), (4, .int (nI (4 * k)))]) : W p l e room_1 s m #[Value.ref b] below meth c H locs cells slots (lw_Z below #[Value.ref b] s) (F0 m 340 ls []) := by
  obtain ⟨hC, hTh, hNx, hX, hbl, hl0⟩ := I
  have hx := hC.1.1; have hb := hC.1.2.1; have hml := hC.1.2.2.1; have hown := hC.1.2.2.2.1; have hts := hC.1.2.2.2.2
  have hbA : ¬ lw_A s b := Nat.not_le.mpr hbl
  obtain ⟨u1, u2, u3⟩ := u_choose (x := (xs (4 * k + 1))) (y := (xs (4 * k + 2))) (Z := Z) h hfr
  refine lv_aload_n hx hb dL_law_340 rfl (lv_at hl 1 rfl) ?_
  refine lv_aload_n hx hb dL_law_341 rfl (lv_at hl 0 rfl) ?_
  refine lv_iload hx hb dL_law_342 (lv_at hl 4 rfl) ?_
  refine lv_iconst (v := 1) hx hb dL_law_344 (by decide) ?_
  refine lv_iadd hx hb dL_law_345 ?_
  refine cy_top (y := nI (4 * k + 1)) (nI_add (4 * k) 1) ?_
  refine va_sld hx hb hX hbl hbA hW.2.2 (vp_in_nI (by omega) (by omega)) dL_law_346 ?_
  refine cy_top (y := xs (4 * k + 1)) (by rw [nI_clamp (by omega)]) ?_
  refine lv_aload_n hx hb dL_law_347 rfl (lv_at hl 0 rfl) ?_
  refine lv_iload hx hb dL_law_348 (lv_at hl 4 rfl) ?_
  refine lv_iconst (v := 2) hx hb dL_law_350 (by decide) ?_
  refine lv_iadd hx hb dL_law_351 ?_
  refine cy_top (y := nI (4 * k + 2)) (nI_add (4 * k) 2) ?_
  refine va_sld hx hb hX hbl hbA hW.2.2 (vp_in_nI (by omega) (by omega)) dL_law_352 ?_
  refine cy_top (y := xs (4 * k + 2)) (by rw [nI_clamp (by omega)]) ?_
  refine lv_aload_n hx hb dL_law_353 rfl (lv_at hl 3 rfl) ?_
  refine cy_callSV (rm := rm_L_choose) hl0 hTh hNx (As := [.ref (ad 0), .int (xs (4 * k + 1)), .int (xs (4 * k + 2)), .ref ao]) (rest := []) hC.1 hC.2.1 hC.2.2 hW (c_L_choose (x := (xs (4 * k + 1))) (y := (xs (4 * k + 2))) h.1.1.1 h.1.1.2.2 h.1.2.1.1 h.1.2.1.2.2 h.wd h.gi) (vx_cwSW 4 hts gL_law_L_choose rfl rfl rfl (by decide +kernel) ⟨Nat.le_of_ble_eq_true rfl, Nat.le_of_ble_eq_true rfl⟩) rfl hl.1 rfl (Nat.le_of_ble_eq_true rfl) dL_law_354 ⟨(show cells + 1 ≤ 601024 by omega), (show slots + 6 ≤ 7293034 by omega)⟩ (k' := cells + 1) (n' := slots + 6) rfl rfl (fun H locs hW => ?_)
  refine lv_topi (fun v5 e5 => ?_)
  refine lv_istore (lv' := [(5, .int v5), (0, .ref b), (1, .ref (ad 0)), (2, .ref (ad2 0)), (3, .ref ao), (4, .int (nI (4 * k)))]) hx hb dL_law_357 hl (by decide) rfl (fun ls hl => ?_)
  have hW := cy_swap hW
  refine lv_aload_n hx hb dL_law_359 rfl (lv_at hl 3 rfl) ?_
  refine lv_aload_n hx hb dL_law_360 rfl (lv_at hl 1 rfl) ?_
  refine lv_iload hx hb dL_law_361 (lv_at hl 5 rfl) ?_
  refine lv_iconst (v := 1) hx hb dL_law_363 (by decide) ?_
  refine lv_iadd hx hb dL_law_364 ?_
  refine cy_top (y := nI (4 * k + 1)) (nI_add (4 * k) 1) ?_
  refine va_sld hx hb hX hbl hbA hW.2.2 (vp_in_nI (by omega) (by omega)) dL_law_365 ?_
  refine cy_top (y := xs (4 * k + 1)) (by rw [nI_clamp (by omega)]) ?_
  refine lv_aload_n hx hb dL_law_366 rfl (lv_at hl 1 rfl) ?_
  refine lv_iload hx hb dL_law_367 (lv_at hl 5 rfl) ?_
  refine lv_iconst (v := 2) hx hb dL_law_369 (by decide) ?_
  refine lv_iadd hx hb dL_law_370 ?_
  refine cy_top (y := nI (4 * k + 2)) (nI_add (4 * k) 2) ?_
  refine va_sld hx hb hX hbl hbA hW.2.2 (vp_in_nI (by omega) (by omega)) dL_law_371 ?_
  refine cy_top (y := xs (4 * k + 2)) (by rw [nI_clamp (by omega)]) ?_
  refine cy_callV (rm := rm_X3_choose) (As := [.int (xs (4 * k + 1)), .int (xs (4 * k + 2))]) (rest := []) (q0 := 0) (ci := 3) hC.1 hC.2.1 hC.2.2 hW (c_X3_choose (x := (xs (4 * k + 1))) (y := (xs (4 * k + 2))) h.1.1.2.1 h.1.1.2.2 h.1.2.1.2.1 h.1.2.1.2.2 h.wdM h.giM) (cwV 2 hts gL_law_X3_choose rfl rfl rfl (by decide +kernel) ⟨Nat.le_of_ble_eq_true rfl, Nat.le_of_ble_eq_true rfl⟩) (cy_w_at (by decide) rfl) rfl rfl hl.1 rfl (Nat.le_of_ble_eq_true rfl) dL_law_372 ⟨(show cells + 1 + 0 ≤ 601024 by omega), (show slots + 6 + 0 ≤ 7293034 by omega)⟩ (k' := cells + 1 + 0) (n' := slots + 6 + 0) rfl rfl (fun H locs hW => ?_)
  refine lv_topi (fun v6 e6 => ?_)
  refine lv_istore (lv' := [(6, .int v6), (5, .int v5), (0, .ref b), (1, .ref (ad 0)), (2, .ref (ad2 0)), (3, .ref ao), (4, .int (nI (4 * k)))]) hx hb dL_law_375 hl (by decide) rfl (fun ls hl => ?_)
  refine lv_aload_n hx hb dL_law_377 rfl (lv_at hl 4 rfl) ?_
  refine cy_callV (rm := rm_X3_thrown) (As := []) (rest := []) (q0 := 0) (ci := 3) hC.1 hC.2.1 hC.2.2 hW c_X3_thrown (cwV 0 hts gL_law_X3_thrown rfl rfl rfl (by decide +kernel) ⟨Nat.le_of_ble_eq_true rfl, Nat.le_of_ble_eq_true rfl⟩) (cy_w_at (by decide) rfl) rfl rfl hl.1 rfl (Nat.le_of_ble_eq_true rfl) dL_law_378 ⟨(show cells + 1 + 0 ≤ 601024 by omega), (show slots + 6 + 0 ≤ 7293034 by omega)⟩ (k' := cells + 1 + 0) (n' := slots + 6 + 0) rfl rfl (fun H locs hW => ?_)
  have hW := cy_swap' hW
  refine lv_iload hx hb dL_law_381 (lv_at hl 1 rfl) ?_
  refine lv_icmp_eq (tgt := 388) hx hb dL_law_383 (by decide) (fun _ => ?_) (fun cn => absurd (u1.symm.trans e5.symm) cn)
  refine lv_iload hx hb dL_law_388 (lv_at hl 1 rfl) ?_
  refine lv_if_ne (tgt := 405) hx hb dL_law_390 (by decide) (fun _ => ?_) (fun c0 => ?_)
  · refine lv_goto (tgt := 1267) hx hb dL_law_405 (by decide) ?_
    exact E _ _ _ _ _ _ _ _ _ (by omega) (by omega) u3 hW (lv_sub hl [2, 3, 4, 5, 6] rfl)
  · have hth := cy_cd_0 (e5.symm.trans c0)
    refine lv_aload_n hx hb dL_law_393 rfl (lv_at hl 5 rfl) ?_
    refine lv_iconst (v := 0) hx hb dL_law_394 (by decide) ?_
    refine cy_tlald hC 0 ao hW 1 (i := 0) rfl rfl (by decide) (by decide) dL_law_395 ?_
    refine lv_iload hx hb dL_law_396 (lv_at hl 0 rfl) ?_
    refine lv_i2l hx hb dL_law_398 rfl ?_
    refine W.lcmp hx hb dL_law_399 ?_
    refine lv_if_eq (tgt := 405) hx hb dL_law_400 (by decide) (fun _ => ?_) (fun cn => absurd (lw_cmp hth ((u2 hth).trans e6.symm)) cn)
    refine lv_goto (tgt := 1267) hx hb dL_law_405 (by decide) ?_
    exact E _ _ _ _ _ _ _ _ _ (by omega) (by omega) u3 hW (lv_sub hl [2, 3, 4, 5, 6] rfl)
set_option maxHeartbeats 4000000 in
set_option maxRecDepth 100000 in
theorem a_raise (I : lw_In p l e s m c b L xs D kI kJ kZ kC) (E : lw_E p l e s m below meth c b D kI kJ kZ kC ad ad2 ao k cells slots) (hk : 4 * k + 4 ≤ L) (hL : L ≤ 2048) (hcs : cells + 300 ≤ 601024 ∧ slots + 2000 ≤ 7293034) (h : Rel S M ns no nc mo k) (hfr : R_fr S M nc) (hW : cy_W D (lw_A s) s.heap (cy_Y kI kJ kC ad S Z ((ao, .inl (kJ, 1, .inr (.inl g))) :: cy_Mw kI kZ ad2 M [])) H locs) (hl : lv_has ls 9 [(0, .ref b), (1, .ref (ad 0)), (2, .ref (ad2 0)), (3, .ref ao), (4, .int (nI (4 * k)))]) : W p l e room_1 s m #[Value.ref b] below meth c H locs cells slots (lw_Z below #[Value.ref b] s) (F0 m 408 ls []) := by
  obtain ⟨hC, hTh, hNx, hX, hbl, hl0⟩ := I
  have hx := hC.1.1; have hb := hC.1.2.1; have hml := hC.1.2.2.1; have hown := hC.1.2.2.2.1; have hts := hC.1.2.2.2.2
  have hbA : ¬ lw_A s b := Nat.not_le.mpr hbl
  obtain ⟨u1, u2, u3⟩ := u_raise (x := (xs (4 * k + 1))) (Z := Z) h hfr
  refine lv_aload_n hx hb dL_law_408 rfl (lv_at hl 1 rfl) ?_
  refine lv_aload_n hx hb dL_law_409 rfl (lv_at hl 0 rfl) ?_
  refine lv_iload hx hb dL_law_410 (lv_at hl 4 rfl) ?_
  refine lv_iconst (v := 1) hx hb dL_law_412 (by decide) ?_
  refine lv_iadd hx hb dL_law_413 ?_
  refine cy_top (y := nI (4 * k + 1)) (nI_add (4 * k) 1) ?_
  refine va_sld hx hb hX hbl hbA hW.2.2 (vp_in_nI (by omega) (by omega)) dL_law_414 ?_
  refine cy_top (y := xs (4 * k + 1)) (by rw [nI_clamp (by omega)]) ?_
  refine lv_aload_n hx hb dL_law_415 rfl (lv_at hl 3 rfl) ?_
  refine cy_callSV (rm := rm_L_raise) hl0 hTh hNx (As := [.ref (ad 0), .int (xs (4 * k + 1)), .ref ao]) (rest := []) hC.1 hC.2.1 hC.2.2 hW (c_L_raise (x := (xs (4 * k + 1))) h.1.1.1 h.1.1.2.2 h.1.2.1.1 h.1.2.1.2.2 h.1.2.2.1.1 h.1.2.2.1.2.2 h.wd h.gi h.ho) (vx_cwSW 3 hts gL_law_L_raise rfl rfl rfl (by decide +kernel) ⟨Nat.le_of_ble_eq_true rfl, Nat.le_of_ble_eq_true rfl⟩) rfl hl.1 rfl (Nat.le_of_ble_eq_true rfl) dL_law_416 ⟨(show cells + 1 ≤ 601024 by omega), (show slots + 6 ≤ 7293034 by omega)⟩ (k' := cells + 1) (n' := slots + 6) rfl rfl (fun H locs hW => ?_)
  refine lv_topi (fun v5 e5 => ?_)
  refine lv_istore (lv' := [(5, .int v5), (0, .ref b), (1, .ref (ad 0)), (2, .ref (ad2 0)), (3, .ref ao), (4, .int (nI (4 * k)))]) hx hb dL_law_419 hl (by decide) rfl (fun ls hl => ?_)
  have hW := cy_swap hW
  refine lv_aload_n hx hb dL_law_421 rfl (lv_at hl 3 rfl) ?_
  refine lv_aload_n hx hb dL_law_422 rfl (lv_at hl 1 rfl) ?_
  refine lv_iload hx hb dL_law_423 (lv_at hl 5 rfl) ?_
  refine lv_iconst (v := 1) hx hb dL_law_425 (by decide) ?_
  refine lv_iadd hx hb dL_law_426 ?_
  refine cy_top (y := nI (4 * k + 1)) (nI_add (4 * k) 1) ?_
  refine va_sld hx hb hX hbl hbA hW.2.2 (vp_in_nI (by omega) (by omega)) dL_law_427 ?_
  refine cy_top (y := xs (4 * k + 1)) (by rw [nI_clamp (by omega)]) ?_
  refine cy_callV (rm := rm_X3_raise) (As := [.int (xs (4 * k + 1))]) (rest := []) (q0 := 0) (ci := 3) hC.1 hC.2.1 hC.2.2 hW (c_X3_raise (x := (xs (4 * k + 1))) h.1.1.2.1 h.1.1.2.2 h.1.2.1.2.1 h.1.2.1.2.2 h.1.2.2.1.2.1 h.1.2.2.1.2.2 h.wdM h.giM h.ok) (cwV 1 hts gL_law_X3_raise rfl rfl rfl (by decide +kernel) ⟨Nat.le_of_ble_eq_true rfl, Nat.le_of_ble_eq_true rfl⟩) (cy_w_at (by decide) rfl) rfl rfl hl.1 rfl (Nat.le_of_ble_eq_true rfl) dL_law_428 ⟨(show cells + 1 + 0 ≤ 601024 by omega), (show slots + 6 + 0 ≤ 7293034 by omega)⟩ (k' := cells + 1 + 0) (n' := slots + 6 + 0) rfl rfl (fun H locs hW => ?_)
  refine lv_topi (fun v6 e6 => ?_)
  refine lv_istore (lv' := [(6, .int v6), (5, .int v5), (0, .ref b), (1, .ref (ad 0)), (2, .ref (ad2 0)), (3, .ref ao), (4, .int (nI (4 * k)))]) hx hb dL_law_431 hl (by decide) rfl (fun ls hl => ?_)
  refine lv_aload_n hx hb dL_law_433 rfl (lv_at hl 4 rfl) ?_
  refine cy_callV (rm := rm_X3_thrown) (As := []) (rest := []) (q0 := 0) (ci := 3) hC.1 hC.2.1 hC.2.2 hW c_X3_thrown (cwV 0 hts gL_law_X3_thrown rfl rfl rfl (by decide +kernel) ⟨Nat.le_of_ble_eq_true rfl, Nat.le_of_ble_eq_true rfl⟩) (cy_w_at (by decide) rfl) rfl rfl hl.1 rfl (Nat.le_of_ble_eq_true rfl) dL_law_434 ⟨(show cells + 1 + 0 ≤ 601024 by omega), (show slots + 6 + 0 ≤ 7293034 by omega)⟩ (k' := cells + 1 + 0) (n' := slots + 6 + 0) rfl rfl (fun H locs hW => ?_)
  have hW := cy_swap' hW
  refine lv_iload hx hb dL_law_437 (lv_at hl 1 rfl) ?_
  refine lv_icmp_eq (tgt := 444) hx hb dL_law_439 (by decide) (fun _ => ?_) (fun cn => absurd (u1.symm.trans e5.symm) cn)
  refine lv_iload hx hb dL_law_444 (lv_at hl 1 rfl) ?_
  refine lv_if_ne (tgt := 461) hx hb dL_law_446 (by decide) (fun _ => ?_) (fun c0 => ?_)
  · refine lv_goto (tgt := 1267) hx hb dL_law_461 (by decide) ?_
    exact E _ _ _ _ _ _ _ _ _ (by omega) (by omega) u3 hW (lv_sub hl [2, 3, 4, 5, 6] rfl)
  · have hth := cy_cd_0 (e5.symm.trans c0)
    refine lv_aload_n hx hb dL_law_449 rfl (lv_at hl 5 rfl) ?_
    refine lv_iconst (v := 0) hx hb dL_law_450 (by decide) ?_
    refine cy_tlald hC 0 ao hW 1 (i := 0) rfl rfl (by decide) (by decide) dL_law_451 ?_
    refine lv_iload hx hb dL_law_452 (lv_at hl 0 rfl) ?_
    refine lv_i2l hx hb dL_law_454 rfl ?_
    refine W.lcmp hx hb dL_law_455 ?_
    refine lv_if_eq (tgt := 461) hx hb dL_law_456 (by decide) (fun _ => ?_) (fun cn => absurd (lw_cmp hth ((u2 hth).trans e6.symm)) cn)
    refine lv_goto (tgt := 1267) hx hb dL_law_461 (by decide) ?_
    exact E _ _ _ _ _ _ _ _ _ (by omega) (by omega) u3 hW (lv_sub hl [2, 3, 4, 5, 6] rfl)
set_option maxHeartbeats 4000000 in
set_option maxRecDepth 100000 in
theorem a_drive (I : lw_In p l e s m c b L xs D kI kJ kZ kC) (E : lw_E p l e s m below meth c b D kI kJ kZ kC ad ad2 ao k cells slots) (hk : 4 * k + 4 ≤ L) (hL : L ≤ 2048) (hcs : cells + 300 ≤ 601024 ∧ slots + 2000 ≤ 7293034) (h : Rel S M ns no nc mo k) (hfr : R_fr S M nc) (hW : cy_W D (lw_A s) s.heap (cy_Y kI kJ kC ad S Z ((ao, .inl (kJ, 1, .inr (.inl g))) :: cy_Mw kI kZ ad2 M [])) H locs) (hl : lv_has ls 9 [(0, .ref b), (1, .ref (ad 0)), (2, .ref (ad2 0)), (3, .ref ao), (4, .int (nI (4 * k)))]) : W p l e room_1 s m #[Value.ref b] below meth c H locs cells slots (lw_Z below #[Value.ref b] s) (F0 m 464 ls []) := by
  obtain ⟨hC, hTh, hNx, hX, hbl, hl0⟩ := I
  have hx := hC.1.1; have hb := hC.1.2.1; have hml := hC.1.2.2.1; have hown := hC.1.2.2.2.1; have hts := hC.1.2.2.2.2
  have hbA : ¬ lw_A s b := Nat.not_le.mpr hbl
  obtain ⟨u1, u2, u3⟩ := u_drive (x := (xs (4 * k + 1))) (y := (xs (4 * k + 2))) (z := (xs (4 * k + 3))) h hfr
  refine lv_aload_n hx hb dL_law_464 rfl (lv_at hl 1 rfl) ?_
  refine lv_aload_n hx hb dL_law_465 rfl (lv_at hl 0 rfl) ?_
  refine lv_iload hx hb dL_law_466 (lv_at hl 4 rfl) ?_
  refine lv_iconst (v := 1) hx hb dL_law_468 (by decide) ?_
  refine lv_iadd hx hb dL_law_469 ?_
  refine cy_top (y := nI (4 * k + 1)) (nI_add (4 * k) 1) ?_
  refine va_sld hx hb hX hbl hbA hW.2.2 (vp_in_nI (by omega) (by omega)) dL_law_470 ?_
  refine cy_top (y := xs (4 * k + 1)) (by rw [nI_clamp (by omega)]) ?_
  refine lv_aload_n hx hb dL_law_471 rfl (lv_at hl 0 rfl) ?_
  refine lv_iload hx hb dL_law_472 (lv_at hl 4 rfl) ?_
  refine lv_iconst (v := 2) hx hb dL_law_474 (by decide) ?_
  refine lv_iadd hx hb dL_law_475 ?_
  refine cy_top (y := nI (4 * k + 2)) (nI_add (4 * k) 2) ?_
  refine va_sld hx hb hX hbl hbA hW.2.2 (vp_in_nI (by omega) (by omega)) dL_law_476 ?_
  refine cy_top (y := xs (4 * k + 2)) (by rw [nI_clamp (by omega)]) ?_
  refine lv_aload_n hx hb dL_law_477 rfl (lv_at hl 0 rfl) ?_
  refine lv_iload hx hb dL_law_478 (lv_at hl 4 rfl) ?_
  refine lv_iconst (v := 3) hx hb dL_law_480 (by decide) ?_
  refine lv_iadd hx hb dL_law_481 ?_
  refine cy_top (y := nI (4 * k + 3)) (nI_add (4 * k) 3) ?_
  refine va_sld hx hb hX hbl hbA hW.2.2 (vp_in_nI (by omega) (by omega)) dL_law_482 ?_
  refine cy_top (y := xs (4 * k + 3)) (by rw [nI_clamp (by omega)]) ?_
  refine lv_aload_n hx hb dL_law_483 rfl (lv_at hl 3 rfl) ?_
  refine cy_callSV (rm := rm_L_drive) hl0 hTh hNx (As := [.ref (ad 0), .int (xs (4 * k + 1)), .int (xs (4 * k + 2)), .int (xs (4 * k + 3)), .ref ao]) (rest := []) hC.1 hC.2.1 hC.2.2 hW (c_L_drive (x := (xs (4 * k + 1))) (y := (xs (4 * k + 2))) (z := (xs (4 * k + 3))) h.1.2.2.1.1 h.1.2.2.1.2.2 h.hc) (vx_cwSW 5 hts gL_law_L_drive rfl rfl rfl (by decide +kernel) ⟨Nat.le_of_ble_eq_true rfl, Nat.le_of_ble_eq_true rfl⟩) rfl hl.1 rfl (Nat.le_of_ble_eq_true rfl) dL_law_484 ⟨(show cells + 1 ≤ 601024 by omega), (show slots + 6 ≤ 7293034 by omega)⟩ (k' := cells + 1) (n' := slots + 6) rfl rfl (fun H locs hW => ?_)
  refine lv_topi (fun v5 e5 => ?_)
  refine lv_istore (lv' := [(5, .int v5), (0, .ref b), (1, .ref (ad 0)), (2, .ref (ad2 0)), (3, .ref ao), (4, .int (nI (4 * k)))]) hx hb dL_law_487 hl (by decide) rfl (fun ls hl => ?_)
  have hW := cy_swap hW
  refine lv_aload_n hx hb dL_law_489 rfl (lv_at hl 3 rfl) ?_
  refine lv_aload_n hx hb dL_law_490 rfl (lv_at hl 1 rfl) ?_
  refine lv_iload hx hb dL_law_491 (lv_at hl 5 rfl) ?_
  refine lv_iconst (v := 1) hx hb dL_law_493 (by decide) ?_
  refine lv_iadd hx hb dL_law_494 ?_
  refine cy_top (y := nI (4 * k + 1)) (nI_add (4 * k) 1) ?_
  refine va_sld hx hb hX hbl hbA hW.2.2 (vp_in_nI (by omega) (by omega)) dL_law_495 ?_
  refine cy_top (y := xs (4 * k + 1)) (by rw [nI_clamp (by omega)]) ?_
  refine lv_aload_n hx hb dL_law_496 rfl (lv_at hl 1 rfl) ?_
  refine lv_iload hx hb dL_law_497 (lv_at hl 5 rfl) ?_
  refine lv_iconst (v := 2) hx hb dL_law_499 (by decide) ?_
  refine lv_iadd hx hb dL_law_500 ?_
  refine cy_top (y := nI (4 * k + 2)) (nI_add (4 * k) 2) ?_
  refine va_sld hx hb hX hbl hbA hW.2.2 (vp_in_nI (by omega) (by omega)) dL_law_501 ?_
  refine cy_top (y := xs (4 * k + 2)) (by rw [nI_clamp (by omega)]) ?_
  refine lv_aload_n hx hb dL_law_502 rfl (lv_at hl 1 rfl) ?_
  refine lv_iload hx hb dL_law_503 (lv_at hl 5 rfl) ?_
  refine lv_iconst (v := 3) hx hb dL_law_505 (by decide) ?_
  refine lv_iadd hx hb dL_law_506 ?_
  refine cy_top (y := nI (4 * k + 3)) (nI_add (4 * k) 3) ?_
  refine va_sld hx hb hX hbl hbA hW.2.2 (vp_in_nI (by omega) (by omega)) dL_law_507 ?_
  refine cy_top (y := xs (4 * k + 3)) (by rw [nI_clamp (by omega)]) ?_
  refine cy_callV (rm := rm_X3_drive) (As := [.int (xs (4 * k + 1)), .int (xs (4 * k + 2)), .int (xs (4 * k + 3))]) (rest := []) (q0 := 0) (ci := 3) hC.1 hC.2.1 hC.2.2 hW (c_X3_drive (x := (xs (4 * k + 1))) (y := (xs (4 * k + 2))) (z := (xs (4 * k + 3))) h.1.2.2.1.2.1 h.1.2.2.1.2.2 h.ok) (cwV 3 hts gL_law_X3_drive rfl rfl rfl (by decide +kernel) ⟨Nat.le_of_ble_eq_true rfl, Nat.le_of_ble_eq_true rfl⟩) (cy_w_at (by decide) rfl) rfl rfl hl.1 rfl (Nat.le_of_ble_eq_true rfl) dL_law_508 ⟨(show cells + 1 + 0 ≤ 601024 by omega), (show slots + 6 + 0 ≤ 7293034 by omega)⟩ (k' := cells + 1 + 0) (n' := slots + 6 + 0) rfl rfl (fun H locs hW => ?_)
  refine lv_topi (fun v6 e6 => ?_)
  refine lv_istore (lv' := [(6, .int v6), (5, .int v5), (0, .ref b), (1, .ref (ad 0)), (2, .ref (ad2 0)), (3, .ref ao), (4, .int (nI (4 * k)))]) hx hb dL_law_511 hl (by decide) rfl (fun ls hl => ?_)
  refine lv_aload_n hx hb dL_law_513 rfl (lv_at hl 4 rfl) ?_
  refine cy_callV (rm := rm_X3_thrown) (As := []) (rest := []) (q0 := 0) (ci := 3) hC.1 hC.2.1 hC.2.2 hW c_X3_thrown (cwV 0 hts gL_law_X3_thrown rfl rfl rfl (by decide +kernel) ⟨Nat.le_of_ble_eq_true rfl, Nat.le_of_ble_eq_true rfl⟩) (cy_w_at (by decide) rfl) rfl rfl hl.1 rfl (Nat.le_of_ble_eq_true rfl) dL_law_514 ⟨(show cells + 1 + 0 ≤ 601024 by omega), (show slots + 6 + 0 ≤ 7293034 by omega)⟩ (k' := cells + 1 + 0) (n' := slots + 6 + 0) rfl rfl (fun H locs hW => ?_)
  have hW := cy_swap' hW
  refine lv_iload hx hb dL_law_517 (lv_at hl 1 rfl) ?_
  refine lv_icmp_eq (tgt := 524) hx hb dL_law_519 (by decide) (fun _ => ?_) (fun cn => absurd (u1.symm.trans e5.symm) cn)
  refine lv_iload hx hb dL_law_524 (lv_at hl 1 rfl) ?_
  refine lv_if_ne (tgt := 541) hx hb dL_law_526 (by decide) (fun _ => ?_) (fun c0 => ?_)
  · refine lv_goto (tgt := 1267) hx hb dL_law_541 (by decide) ?_
    exact E _ _ _ _ _ _ _ _ _ (by omega) (by omega) u3 hW (lv_sub hl [2, 3, 4, 5, 6] rfl)
  · have hth := cy_cd_0 (e5.symm.trans c0)
    refine lv_aload_n hx hb dL_law_529 rfl (lv_at hl 5 rfl) ?_
    refine lv_iconst (v := 0) hx hb dL_law_530 (by decide) ?_
    refine cy_tlald hC 0 ao hW 1 (i := 0) rfl rfl (by decide) (by decide) dL_law_531 ?_
    refine lv_iload hx hb dL_law_532 (lv_at hl 0 rfl) ?_
    refine lv_i2l hx hb dL_law_534 rfl ?_
    refine W.lcmp hx hb dL_law_535 ?_
    refine lv_if_eq (tgt := 541) hx hb dL_law_536 (by decide) (fun _ => ?_) (fun cn => absurd (lw_cmp hth ((u2 hth).trans e6.symm)) cn)
    refine lv_goto (tgt := 1267) hx hb dL_law_541 (by decide) ?_
    exact E _ _ _ _ _ _ _ _ _ (by omega) (by omega) u3 hW (lv_sub hl [2, 3, 4, 5, 6] rfl)
set_option maxHeartbeats 4000000 in
set_option maxRecDepth 100000 in
theorem a_mend (I : lw_In p l e s m c b L xs D kI kJ kZ kC) (E : lw_E p l e s m below meth c b D kI kJ kZ kC ad ad2 ao k cells slots) (hk : 4 * k + 4 ≤ L) (hL : L ≤ 2048) (hcs : cells + 300 ≤ 601024 ∧ slots + 2000 ≤ 7293034) (h : Rel S M ns no nc mo k) (hfr : R_fr S M nc) (hW : cy_W D (lw_A s) s.heap (cy_Y kI kJ kC ad S Z ((ao, .inl (kJ, 1, .inr (.inl g))) :: cy_Mw kI kZ ad2 M [])) H locs) (hl : lv_has ls 9 [(0, .ref b), (1, .ref (ad 0)), (2, .ref (ad2 0)), (3, .ref ao), (4, .int (nI (4 * k)))]) : W p l e room_1 s m #[Value.ref b] below meth c H locs cells slots (lw_Z below #[Value.ref b] s) (F0 m 544 ls []) := by
  obtain ⟨hC, hTh, hNx, hX, hbl, hl0⟩ := I
  have hx := hC.1.1; have hb := hC.1.2.1; have hml := hC.1.2.2.1; have hown := hC.1.2.2.2.1; have hts := hC.1.2.2.2.2
  have hbA : ¬ lw_A s b := Nat.not_le.mpr hbl
  obtain ⟨u1, u2, u3⟩ := u_mend (x := (xs (4 * k + 1))) (y := (xs (4 * k + 2))) h hfr
  refine lv_aload_n hx hb dL_law_544 rfl (lv_at hl 1 rfl) ?_
  refine lv_aload_n hx hb dL_law_545 rfl (lv_at hl 0 rfl) ?_
  refine lv_iload hx hb dL_law_546 (lv_at hl 4 rfl) ?_
  refine lv_iconst (v := 1) hx hb dL_law_548 (by decide) ?_
  refine lv_iadd hx hb dL_law_549 ?_
  refine cy_top (y := nI (4 * k + 1)) (nI_add (4 * k) 1) ?_
  refine va_sld hx hb hX hbl hbA hW.2.2 (vp_in_nI (by omega) (by omega)) dL_law_550 ?_
  refine cy_top (y := xs (4 * k + 1)) (by rw [nI_clamp (by omega)]) ?_
  refine lv_aload_n hx hb dL_law_551 rfl (lv_at hl 0 rfl) ?_
  refine lv_iload hx hb dL_law_552 (lv_at hl 4 rfl) ?_
  refine lv_iconst (v := 2) hx hb dL_law_554 (by decide) ?_
  refine lv_iadd hx hb dL_law_555 ?_
  refine cy_top (y := nI (4 * k + 2)) (nI_add (4 * k) 2) ?_
  refine va_sld hx hb hX hbl hbA hW.2.2 (vp_in_nI (by omega) (by omega)) dL_law_556 ?_
  refine cy_top (y := xs (4 * k + 2)) (by rw [nI_clamp (by omega)]) ?_
  refine lv_aload_n hx hb dL_law_557 rfl (lv_at hl 3 rfl) ?_
  refine cy_callSV (rm := rm_L_mend) hl0 hTh hNx (As := [.ref (ad 0), .int (xs (4 * k + 1)), .int (xs (4 * k + 2)), .ref ao]) (rest := []) hC.1 hC.2.1 hC.2.2 hW (c_L_mend (x := (xs (4 * k + 1))) (y := (xs (4 * k + 2))) h.1.1.1 h.1.1.2.2 h.1.2.2.1.1 h.1.2.2.1.2.2) (vx_cwSW 4 hts gL_law_L_mend rfl rfl rfl (by decide +kernel) ⟨Nat.le_of_ble_eq_true rfl, Nat.le_of_ble_eq_true rfl⟩) rfl hl.1 rfl (Nat.le_of_ble_eq_true rfl) dL_law_558 ⟨(show cells + 1 ≤ 601024 by omega), (show slots + 6 ≤ 7293034 by omega)⟩ (k' := cells + 1) (n' := slots + 6) rfl rfl (fun H locs hW => ?_)
  refine lv_topi (fun v5 e5 => ?_)
  refine lv_istore (lv' := [(5, .int v5), (0, .ref b), (1, .ref (ad 0)), (2, .ref (ad2 0)), (3, .ref ao), (4, .int (nI (4 * k)))]) hx hb dL_law_561 hl (by decide) rfl (fun ls hl => ?_)
  have hW := cy_swap hW
  refine lv_aload_n hx hb dL_law_563 rfl (lv_at hl 3 rfl) ?_
  refine lv_aload_n hx hb dL_law_564 rfl (lv_at hl 1 rfl) ?_
  refine lv_iload hx hb dL_law_565 (lv_at hl 5 rfl) ?_
  refine lv_iconst (v := 1) hx hb dL_law_567 (by decide) ?_
  refine lv_iadd hx hb dL_law_568 ?_
  refine cy_top (y := nI (4 * k + 1)) (nI_add (4 * k) 1) ?_
  refine va_sld hx hb hX hbl hbA hW.2.2 (vp_in_nI (by omega) (by omega)) dL_law_569 ?_
  refine cy_top (y := xs (4 * k + 1)) (by rw [nI_clamp (by omega)]) ?_
  refine lv_aload_n hx hb dL_law_570 rfl (lv_at hl 1 rfl) ?_
  refine lv_iload hx hb dL_law_571 (lv_at hl 5 rfl) ?_
  refine lv_iconst (v := 2) hx hb dL_law_573 (by decide) ?_
  refine lv_iadd hx hb dL_law_574 ?_
  refine cy_top (y := nI (4 * k + 2)) (nI_add (4 * k) 2) ?_
  refine va_sld hx hb hX hbl hbA hW.2.2 (vp_in_nI (by omega) (by omega)) dL_law_575 ?_
  refine cy_top (y := xs (4 * k + 2)) (by rw [nI_clamp (by omega)]) ?_
  refine cy_callV (rm := rm_X3_mend) (As := [.int (xs (4 * k + 1)), .int (xs (4 * k + 2))]) (rest := []) (q0 := 0) (ci := 3) hC.1 hC.2.1 hC.2.2 hW (c_X3_mend (x := (xs (4 * k + 1))) (y := (xs (4 * k + 2))) h.1.1.2.1 h.1.1.2.2 h.1.2.2.1.2.1 h.1.2.2.1.2.2 h.st) (cwV 2 hts gL_law_X3_mend rfl rfl rfl (by decide +kernel) ⟨Nat.le_of_ble_eq_true rfl, Nat.le_of_ble_eq_true rfl⟩) (cy_w_at (by decide) rfl) rfl rfl hl.1 rfl (Nat.le_of_ble_eq_true rfl) dL_law_576 ⟨(show cells + 1 + 0 ≤ 601024 by omega), (show slots + 6 + 0 ≤ 7293034 by omega)⟩ (k' := cells + 1 + 0) (n' := slots + 6 + 0) rfl rfl (fun H locs hW => ?_)
  refine lv_topi (fun v6 e6 => ?_)
  refine lv_istore (lv' := [(6, .int v6), (5, .int v5), (0, .ref b), (1, .ref (ad 0)), (2, .ref (ad2 0)), (3, .ref ao), (4, .int (nI (4 * k)))]) hx hb dL_law_579 hl (by decide) rfl (fun ls hl => ?_)
  refine lv_aload_n hx hb dL_law_581 rfl (lv_at hl 4 rfl) ?_
  refine cy_callV (rm := rm_X3_thrown) (As := []) (rest := []) (q0 := 0) (ci := 3) hC.1 hC.2.1 hC.2.2 hW c_X3_thrown (cwV 0 hts gL_law_X3_thrown rfl rfl rfl (by decide +kernel) ⟨Nat.le_of_ble_eq_true rfl, Nat.le_of_ble_eq_true rfl⟩) (cy_w_at (by decide) rfl) rfl rfl hl.1 rfl (Nat.le_of_ble_eq_true rfl) dL_law_582 ⟨(show cells + 1 + 0 ≤ 601024 by omega), (show slots + 6 + 0 ≤ 7293034 by omega)⟩ (k' := cells + 1 + 0) (n' := slots + 6 + 0) rfl rfl (fun H locs hW => ?_)
  have hW := cy_swap' hW
  refine lv_iload hx hb dL_law_585 (lv_at hl 1 rfl) ?_
  refine lv_icmp_eq (tgt := 592) hx hb dL_law_587 (by decide) (fun _ => ?_) (fun cn => absurd (u1.symm.trans e5.symm) cn)
  refine lv_iload hx hb dL_law_592 (lv_at hl 1 rfl) ?_
  refine lv_if_ne (tgt := 609) hx hb dL_law_594 (by decide) (fun _ => ?_) (fun c0 => ?_)
  · refine lv_goto (tgt := 1267) hx hb dL_law_609 (by decide) ?_
    exact E _ _ _ _ _ _ _ _ _ (by omega) (by omega) u3 hW (lv_sub hl [2, 3, 4, 5, 6] rfl)
  · have hth := cy_cd_0 (e5.symm.trans c0)
    refine lv_aload_n hx hb dL_law_597 rfl (lv_at hl 5 rfl) ?_
    refine lv_iconst (v := 0) hx hb dL_law_598 (by decide) ?_
    refine cy_tlald hC 0 ao hW 1 (i := 0) rfl rfl (by decide) (by decide) dL_law_599 ?_
    refine lv_iload hx hb dL_law_600 (lv_at hl 0 rfl) ?_
    refine lv_i2l hx hb dL_law_602 rfl ?_
    refine W.lcmp hx hb dL_law_603 ?_
    refine lv_if_eq (tgt := 609) hx hb dL_law_604 (by decide) (fun _ => ?_) (fun cn => absurd (lw_cmp hth ((u2 hth).trans e6.symm)) cn)
    refine lv_goto (tgt := 1267) hx hb dL_law_609 (by decide) ?_
    exact E _ _ _ _ _ _ _ _ _ (by omega) (by omega) u3 hW (lv_sub hl [2, 3, 4, 5, 6] rfl)
set_option maxHeartbeats 4000000 in
set_option maxRecDepth 100000 in
theorem a_breakUp (I : lw_In p l e s m c b L xs D kI kJ kZ kC) (E : lw_E p l e s m below meth c b D kI kJ kZ kC ad ad2 ao k cells slots) (hk : 4 * k + 4 ≤ L) (hL : L ≤ 2048) (hcs : cells + 300 ≤ 601024 ∧ slots + 2000 ≤ 7293034) (h : Rel S M ns no nc mo k) (hfr : R_fr S M nc) (hW : cy_W D (lw_A s) s.heap (cy_Y kI kJ kC ad S Z ((ao, .inl (kJ, 1, .inr (.inl g))) :: cy_Mw kI kZ ad2 M [])) H locs) (hl : lv_has ls 9 [(0, .ref b), (1, .ref (ad 0)), (2, .ref (ad2 0)), (3, .ref ao), (4, .int (nI (4 * k)))]) : W p l e room_1 s m #[Value.ref b] below meth c H locs cells slots (lw_Z below #[Value.ref b] s) (F0 m 612 ls []) := by
  obtain ⟨hC, hTh, hNx, hX, hbl, hl0⟩ := I
  have hx := hC.1.1; have hb := hC.1.2.1; have hml := hC.1.2.2.1; have hown := hC.1.2.2.2.1; have hts := hC.1.2.2.2.2
  have hbA : ¬ lw_A s b := Nat.not_le.mpr hbl
  obtain ⟨u1, u2, u3⟩ := u_breakUp (x := (xs (4 * k + 1))) h hfr
  refine lv_aload_n hx hb dL_law_612 rfl (lv_at hl 1 rfl) ?_
  refine lv_aload_n hx hb dL_law_613 rfl (lv_at hl 0 rfl) ?_
  refine lv_iload hx hb dL_law_614 (lv_at hl 4 rfl) ?_
  refine lv_iconst (v := 1) hx hb dL_law_616 (by decide) ?_
  refine lv_iadd hx hb dL_law_617 ?_
  refine cy_top (y := nI (4 * k + 1)) (nI_add (4 * k) 1) ?_
  refine va_sld hx hb hX hbl hbA hW.2.2 (vp_in_nI (by omega) (by omega)) dL_law_618 ?_
  refine cy_top (y := xs (4 * k + 1)) (by rw [nI_clamp (by omega)]) ?_
  refine lv_aload_n hx hb dL_law_619 rfl (lv_at hl 3 rfl) ?_
  refine cy_callSV (rm := rm_L_breakUp) hl0 hTh hNx (As := [.ref (ad 0), .int (xs (4 * k + 1)), .ref ao]) (rest := []) hC.1 hC.2.1 hC.2.2 hW (c_L_breakUp (x := (xs (4 * k + 1))) h.1.1.1 h.1.1.2.2 h.1.2.2.1.1 h.1.2.2.1.2.2) (vx_cwSW 3 hts gL_law_L_breakUp rfl rfl rfl (by decide +kernel) ⟨Nat.le_of_ble_eq_true rfl, Nat.le_of_ble_eq_true rfl⟩) rfl hl.1 rfl (Nat.le_of_ble_eq_true rfl) dL_law_620 ⟨(show cells + 1 ≤ 601024 by omega), (show slots + 6 ≤ 7293034 by omega)⟩ (k' := cells + 1) (n' := slots + 6) rfl rfl (fun H locs hW => ?_)
  refine lv_topi (fun v5 e5 => ?_)
  refine lv_istore (lv' := [(5, .int v5), (0, .ref b), (1, .ref (ad 0)), (2, .ref (ad2 0)), (3, .ref ao), (4, .int (nI (4 * k)))]) hx hb dL_law_623 hl (by decide) rfl (fun ls hl => ?_)
  have hW := cy_swap hW
  refine lv_aload_n hx hb dL_law_625 rfl (lv_at hl 3 rfl) ?_
  refine lv_aload_n hx hb dL_law_626 rfl (lv_at hl 1 rfl) ?_
  refine lv_iload hx hb dL_law_627 (lv_at hl 5 rfl) ?_
  refine lv_iconst (v := 1) hx hb dL_law_629 (by decide) ?_
  refine lv_iadd hx hb dL_law_630 ?_
  refine cy_top (y := nI (4 * k + 1)) (nI_add (4 * k) 1) ?_
  refine va_sld hx hb hX hbl hbA hW.2.2 (vp_in_nI (by omega) (by omega)) dL_law_631 ?_
  refine cy_top (y := xs (4 * k + 1)) (by rw [nI_clamp (by omega)]) ?_
  refine cy_callV (rm := rm_X3_breakUp) (As := [.int (xs (4 * k + 1))]) (rest := []) (q0 := 0) (ci := 3) hC.1 hC.2.1 hC.2.2 hW (c_X3_breakUp (x := (xs (4 * k + 1))) h.1.1.2.1 h.1.1.2.2 h.1.2.2.1.2.1 h.1.2.2.1.2.2) (cwV 1 hts gL_law_X3_breakUp rfl rfl rfl (by decide +kernel) ⟨Nat.le_of_ble_eq_true rfl, Nat.le_of_ble_eq_true rfl⟩) (cy_w_at (by decide) rfl) rfl rfl hl.1 rfl (Nat.le_of_ble_eq_true rfl) dL_law_632 ⟨(show cells + 1 + 0 ≤ 601024 by omega), (show slots + 6 + 0 ≤ 7293034 by omega)⟩ (k' := cells + 1 + 0) (n' := slots + 6 + 0) rfl rfl (fun H locs hW => ?_)
  refine lv_topi (fun v6 e6 => ?_)
  refine lv_istore (lv' := [(6, .int v6), (5, .int v5), (0, .ref b), (1, .ref (ad 0)), (2, .ref (ad2 0)), (3, .ref ao), (4, .int (nI (4 * k)))]) hx hb dL_law_635 hl (by decide) rfl (fun ls hl => ?_)
  refine lv_aload_n hx hb dL_law_637 rfl (lv_at hl 4 rfl) ?_
  refine cy_callV (rm := rm_X3_thrown) (As := []) (rest := []) (q0 := 0) (ci := 3) hC.1 hC.2.1 hC.2.2 hW c_X3_thrown (cwV 0 hts gL_law_X3_thrown rfl rfl rfl (by decide +kernel) ⟨Nat.le_of_ble_eq_true rfl, Nat.le_of_ble_eq_true rfl⟩) (cy_w_at (by decide) rfl) rfl rfl hl.1 rfl (Nat.le_of_ble_eq_true rfl) dL_law_638 ⟨(show cells + 1 + 0 ≤ 601024 by omega), (show slots + 6 + 0 ≤ 7293034 by omega)⟩ (k' := cells + 1 + 0) (n' := slots + 6 + 0) rfl rfl (fun H locs hW => ?_)
  have hW := cy_swap' hW
  refine lv_iload hx hb dL_law_641 (lv_at hl 1 rfl) ?_
  refine lv_icmp_eq (tgt := 648) hx hb dL_law_643 (by decide) (fun _ => ?_) (fun cn => absurd (u1.symm.trans e5.symm) cn)
  refine lv_iload hx hb dL_law_648 (lv_at hl 1 rfl) ?_
  refine lv_if_ne (tgt := 665) hx hb dL_law_650 (by decide) (fun _ => ?_) (fun c0 => ?_)
  · refine lv_goto (tgt := 1267) hx hb dL_law_665 (by decide) ?_
    exact E _ _ _ _ _ _ _ _ _ (by omega) (by omega) u3 hW (lv_sub hl [2, 3, 4, 5, 6] rfl)
  · have hth := cy_cd_0 (e5.symm.trans c0)
    refine lv_aload_n hx hb dL_law_653 rfl (lv_at hl 5 rfl) ?_
    refine lv_iconst (v := 0) hx hb dL_law_654 (by decide) ?_
    refine cy_tlald hC 0 ao hW 1 (i := 0) rfl rfl (by decide) (by decide) dL_law_655 ?_
    refine lv_iload hx hb dL_law_656 (lv_at hl 0 rfl) ?_
    refine lv_i2l hx hb dL_law_658 rfl ?_
    refine W.lcmp hx hb dL_law_659 ?_
    refine lv_if_eq (tgt := 665) hx hb dL_law_660 (by decide) (fun _ => ?_) (fun cn => absurd (lw_cmp hth ((u2 hth).trans e6.symm)) cn)
    refine lv_goto (tgt := 1267) hx hb dL_law_665 (by decide) ?_
    exact E _ _ _ _ _ _ _ _ _ (by omega) (by omega) u3 hW (lv_sub hl [2, 3, 4, 5, 6] rfl)
end Arms
