/-! the law: taste, digest, its loop (printed by gen_loop.py) -/
section Arms
variable {p : Program} {l : Launch} {e : Env} {s : State} {m : MethodId} {below : List Frame} {meth : Method} {c : Code} {b L : Nat} {xs : Nat → Int32} {D : va_G} {kI kJ kZ kC : ClassId} {ad ad2 : Nat → Nat} {ao : Nat} {S M : Nat → Nat → Int32} {Z : Nat → Int64} {g : Nat → Int64} {ns no nc mo k cells slots : Nat} {H : Heap} {locs : List Loc} {ls : Array Slot}
set_option maxHeartbeats 4000000 in
set_option maxRecDepth 100000 in
theorem a_taste (I : lw_In p l e s m c b L xs D kI kJ kZ kC) (E : lw_E p l e s m below meth c b D kI kJ kZ kC ad ad2 ao k cells slots) (hk : 4 * k + 4 ≤ L) (hL : L ≤ 2048) (hcs : cells + 300 ≤ 601024 ∧ slots + 2000 ≤ 7293034) (h : Rel S M ns no nc mo k) (hfr : R_fr S M nc) (hW : cy_W D (lw_A s) s.heap (cy_Y kI kJ kC ad S Z ((ao, .inl (kJ, 1, .inr (.inl g))) :: cy_Mw kI kZ ad2 M [])) H locs) (hl : lv_has ls 9 [(0, .ref b), (1, .ref (ad 0)), (2, .ref (ad2 0)), (3, .ref ao), (4, .int (nI (4 * k)))]) : W p l e room_1 s m #[Value.ref b] below meth c H locs cells slots (lw_Z below #[Value.ref b] s) (F0 m 1212 ls []) := by
  obtain ⟨hC, hTh, hNx, hX, hbl, hl0⟩ := I
  have hx := hC.1.1; have hb := hC.1.2.1; have hml := hC.1.2.2.1; have hown := hC.1.2.2.2.1; have hts := hC.1.2.2.2.2
  have hbA : ¬ lw_A s b := Nat.not_le.mpr hbl
  obtain ⟨u1, u3⟩ := u_taste h hfr
  refine lv_aload_n hx hb dL_law_1212 rfl (lv_at hl 1 rfl) ?_
  refine cy_callV (rm := rm_X2_taste) (As := []) (rest := []) (q0 := 0) (ci := 2) hC.1 hC.2.1 hC.2.2 hW (c_X2_taste h.1.2.2.1.1 h.1.2.2.1.2.2) (cwV 0 hts gL_law_X2_taste rfl rfl rfl (by decide +kernel) ⟨Nat.le_of_ble_eq_true rfl, Nat.le_of_ble_eq_true rfl⟩) (cy_w_at (by decide) rfl) rfl rfl hl.1 rfl (Nat.le_of_ble_eq_true rfl) dL_law_1213 ⟨(show cells + 0 ≤ 601024 by omega), (show slots + 0 ≤ 7293034 by omega)⟩ (k' := cells + 0) (n' := slots + 0) rfl rfl (fun H locs hW => ?_)
  refine lv_topd (fun r5 e5 => ?_)
  refine lv_dstore (lv' := [(5, .double r5), (0, .ref b), (1, .ref (ad 0)), (2, .ref (ad2 0)), (3, .ref ao), (4, .int (nI (4 * k)))]) hx hb dL_law_1216 hl (by decide) rfl (fun ls hl => ?_)
  have hW := cy_swap hW
  refine lv_aload_n hx hb dL_law_1218 rfl (lv_at hl 3 rfl) ?_
  refine cy_callV (rm := rm_X3_taste) (As := []) (rest := []) (q0 := 0) (ci := 3) hC.1 hC.2.1 hC.2.2 hW (c_X3_taste h.1.2.2.1.2.1 h.1.2.2.1.2.2) (cwV 0 hts gL_law_X3_taste rfl rfl rfl (by decide +kernel) ⟨Nat.le_of_ble_eq_true rfl, Nat.le_of_ble_eq_true rfl⟩) (cy_w_at (by decide) rfl) rfl rfl hl.1 rfl (Nat.le_of_ble_eq_true rfl) dL_law_1219 ⟨(show cells + 0 + 0 ≤ 601024 by omega), (show slots + 0 + 0 ≤ 7293034 by omega)⟩ (k' := cells + 0 + 0) (n' := slots + 0 + 0) rfl rfl (fun H locs hW => ?_)
  have hW := cy_swap' hW
  refine cy_topv (y := .double r5) (congrArg Value.double (u1.symm.trans e5.symm)) ?_
  refine lv_dstore (lv' := [(7, .double r5), (5, .double r5), (0, .ref b), (1, .ref (ad 0)), (2, .ref (ad2 0)), (3, .ref ao), (4, .int (nI (4 * k)))]) hx hb dL_law_1222 hl (by decide) rfl (fun ls hl => ?_)
  refine lv_dload hx hb dL_law_1224 (lv_at hl 1 rfl) ?_
  refine lv_dload hx hb dL_law_1226 (lv_at hl 0 rfl) ?_
  refine lv_dcmp hx hb dL_law_1228 ?_
  refine lv_if_eq (tgt := 1250) hx hb dL_law_1229 (by decide) (fun _ => ?_) (fun c0 => ?_)
  · refine lv_goto (tgt := 1267) hx hb dL_law_1250 (by decide) ?_
    exact E _ _ _ _ _ _ _ _ _ (by omega) (by omega) u3 hW (lv_sub hl [2, 3, 4, 5, 6] rfl)
  · refine lv_dload hx hb dL_law_1232 (lv_at hl 1 rfl) ?_
    refine lv_dload hx hb dL_law_1234 (lv_at hl 1 rfl) ?_
    refine lv_dcmp hx hb dL_law_1236 ?_
    refine lv_if_eq (tgt := 1248) hx hb dL_law_1237 (by decide) (fun cz => absurd cz c0) (fun _ => ?_)
    refine lv_dload hx hb dL_law_1240 (lv_at hl 0 rfl) ?_
    refine lv_dload hx hb dL_law_1242 (lv_at hl 0 rfl) ?_
    refine lv_dcmp hx hb dL_law_1244 ?_
    refine lv_if_ne (tgt := 1250) hx hb dL_law_1245 (by decide) (fun _ => ?_) (fun cz => absurd cz c0)
    refine lv_goto (tgt := 1267) hx hb dL_law_1250 (by decide) ?_
    exact E _ _ _ _ _ _ _ _ _ (by omega) (by omega) u3 hW (lv_sub hl [2, 3, 4, 5, 6] rfl)
set_option maxHeartbeats 4000000 in
set_option maxRecDepth 100000 in
theorem a_digest (I : lw_In p l e s m c b L xs D kI kJ kZ kC) (E : lw_E p l e s m below meth c b D kI kJ kZ kC ad ad2 ao k cells slots) (hk : 4 * k + 4 ≤ L) (hL : L ≤ 2048) (hcs : cells + 300 ≤ 601024 ∧ slots + 2000 ≤ 7293034) (h : Rel S M ns no nc mo k) (hfr : R_fr S M nc) (hW : cy_W D (lw_A s) s.heap (cy_Y kI kJ kC ad S Z ((ao, .inl (kJ, 1, .inr (.inl g))) :: cy_Mw kI kZ ad2 M [])) H locs) (hl : lv_has ls 9 [(0, .ref b), (1, .ref (ad 0)), (2, .ref (ad2 0)), (3, .ref ao), (4, .int (nI (4 * k)))]) : W p l e room_1 s m #[Value.ref b] below meth c H locs cells slots (lw_Z below #[Value.ref b] s) (F0 m 1253 ls []) := by
  obtain ⟨hC, hTh, hNx, hX, hbl, hl0⟩ := I
  have hx := hC.1.1; have hb := hC.1.2.1; have hml := hC.1.2.2.1; have hown := hC.1.2.2.2.1; have hts := hC.1.2.2.2.2
  have hbA : ¬ lw_A s b := Nat.not_le.mpr hbl
  obtain ⟨u1, u3⟩ := u_digest h hfr
  refine lv_aload_n hx hb dL_law_1253 rfl (lv_at hl 1 rfl) ?_
  refine cy_callVX (rm := rm_X2_digest) hl0 rfl hTh (As := []) (rest := []) (q0 := 0) (ci := 2) hC.1 hC.2.1 hC.2.2 hW (c_X2_digest h.1.1.1 h.1.1.2.2 h.1.2.1.1 h.1.2.1.2.2 h.1.2.2.1.1 h.1.2.2.1.2.2 h.hc) (cwV 0 hts gL_law_X2_digest rfl rfl rfl (by decide +kernel) ⟨Nat.le_of_ble_eq_true rfl, Nat.le_of_ble_eq_true rfl⟩) (cy_w_at (by decide) rfl) rfl rfl hl.1 rfl (Nat.le_of_ble_eq_true rfl) dL_law_1254 ⟨(show cells + 10 ≤ 601024 by omega), (show slots + 60 ≤ 7293034 by omega)⟩ (k' := cells + 10) (n' := slots + 60) rfl rfl (fun H locs hW => ?_)
  have hW := cy_swap hW
  refine lv_aload_n hx hb dL_law_1257 rfl (lv_at hl 2 rfl) ?_
  refine cy_callV (rm := rm_X3_digest) (As := []) (rest := [.long (cy_rDi S ns no nc)]) (q0 := 0) (ci := 3) hC.1 hC.2.1 hC.2.2 hW (c_X3_digest h.1.1.2.1 h.1.1.2.2 h.1.2.1.2.1 h.1.2.1.2.2 h.1.2.2.1.2.1 h.1.2.2.1.2.2 h.ok) (cwV 0 hts gL_law_X3_digest rfl rfl rfl (by decide +kernel) ⟨Nat.le_of_ble_eq_true rfl, Nat.le_of_ble_eq_true rfl⟩) (cy_w_at (by decide) rfl) rfl rfl hl.1 rfl (Nat.le_of_ble_eq_true rfl) dL_law_1258 ⟨(show cells + 10 + 202 ≤ 601024 by omega), (show slots + 60 + 1636 ≤ 7293034 by omega)⟩ (k' := cells + 10 + 202) (n' := slots + 60 + 1636) rfl rfl (fun H locs hW => ?_)
  have hW := cy_swap' hW
  refine W.lcmp hx hb dL_law_1261 ?_
  refine lv_if_eq (tgt := 1267) hx hb dL_law_1262 (by decide) (fun _ => ?_) (fun cn => absurd ((lg_cmp_eq _ _).mpr u1) cn)
  exact E _ _ _ _ _ _ _ _ _ (by omega) (by omega) u3 hW hl
end Arms
theorem lw_len {L k : Nat} (hL : L ≤ 2048) (h : ¬ nI L - 4 < nI (4 * k)) (hk : k ≤ 512) : 4 * k + 4 ≤ L := by
  rw [Int32.lt_iff_toInt_lt, show (4 : Int32) = nI 4 from rfl, pk_sub_toInt (by omega) (by decide), nI_toInt (by omega)] at h
  omega
theorem R_I.mono {S M : Nat → Nat → Int32} {k k' : Nat} (h : R_I S M k) (hk : k ≤ k') : R_I S M k' := by
  obtain ⟨ns, no, nc, mo, h1, h2⟩ := h
  exact ⟨ns, no, nc, mo, h1.mono hk, h2⟩

set_option maxHeartbeats 4000000 in
set_option maxRecDepth 100000 in
theorem lw_loop {p : Program} {l : Launch} {e : Env} {s : State} {m : MethodId} {below : List Frame} {meth : Method} {c : Code} {b L : Nat} {xs : Nat → Int32} {D : va_G} {kI kJ kZ kC : ClassId} {ad ad2 : Nat → Nat} {ao : Nat} (I : lw_In p l e s m c b L xs D kI kJ kZ kC) (hr : meth.sig.returnType = ret) (hlocks : meth.locks = false) (hL : L ≤ 2048) :
    ∀ (n k : Nat), 513 ≤ k + n → k ≤ 512 → ∀ (S M : Nat → Nat → Int32) (Z : Nat → Int64) (g : Nat → Int64) (H : Heap) (locs : List Loc), R_I S M k → cy_W D (lw_A s) s.heap (cy_Y kI kJ kC ad S Z ((ao, .inl (kJ, 1, .inr (.inl g))) :: cy_Mw kI kZ ad2 M [])) H locs → ∀ (ls : Array Slot), lv_has ls 9 [(0, .ref b), (1, .ref (ad 0)), (2, .ref (ad2 0)), (3, .ref ao), (4, .int (nI (4 * k)))] → W p l e room_1 s m #[Value.ref b] below meth c H locs (70 + 300 * k) (96000 + 2000 * k) (lw_Z below #[Value.ref b] s) (F0 m 23 ls []) := by
  have I0 := I
  obtain ⟨hC, hTh, hNx, hX, hbl, hl0⟩ := I
  have hx := hC.1.1; have hb := hC.1.2.1; have hml := hC.1.2.2.1; have hown := hC.1.2.2.2.1; have hts := hC.1.2.2.2.2
  have hbA : ¬ lw_A s b := Nat.not_le.mpr hbl
  intro n
  induction n with
  | zero =>
    intro k h1 h2
    exact absurd h1 (by omega)
  | succ n ih =>
    intro k h1 h2 S M Z g H locs hI hW ls hl
    refine lv_iload hx hb dL_law_23 (lv_at hl 4 rfl) ?_
    refine lv_aload_n hx hb dL_law_25 rfl (lv_at hl 0 rfl) ?_
    refine va_slen hx hb hX hbl hbA hW.2.2 dL_law_26 ?_
    refine lv_iconst (v := 4) hx hb dL_law_27 (by decide) ?_
    refine lv_isub hx hb dL_law_28 ?_
    refine lv_icmp_gt (tgt := 1273) hx hb dL_law_29 (by decide) (fun _ => ?_) (fun cg => ?_)
    · refine lv_iconst (v := 1) hx hb dL_law_1273 (by decide) ?_
      refine va_forget (fun q hq => hW.2.2.2.2 q hq) ?_
      refine W.widen (k := 601024) (n := 7293034) (by omega) (by omega) ?_
      exact W.base (lw_ret (d0 := s.drawn) (Drawn.sameBut.refl s.drawn lw_cs) hx hb hr hlocks dL_law_1274)
    · have hk : 4 * k + 4 ≤ L := lw_len hL cg h2
      have E : lw_E p l e s m below meth c b D kI kJ kZ kC ad ad2 ao k (70 + 300 * k) (96000 + 2000 * k) := by
        intro S' M' Z' g' H' locs' cells' slots' ls' hc hs hI' hW' hl'
        refine lv_iinc (v := nI (4 * (k + 1))) (lv' := [(4, .int (nI (4 * (k + 1)))), (0, .ref b), (1, .ref (ad 0)), (2, .ref (ad2 0)), (3, .ref ao)]) hx hb dL_law_1267 hl' (k := 4) rfl (nI_add (4 * k) 4) (by decide) rfl (fun ls hl => ?_)
        refine lv_goto (tgt := 23) hx hb dL_law_1270 (by decide) ?_
        refine W.widen (k := 70 + 300 * (k + 1)) (n := 96000 + 2000 * (k + 1)) (by omega) (by omega) ?_
        exact ih (k + 1) (by omega) (by omega) S' M' Z' g' H' locs' hI' hW' ls (lv_sub hl [1, 2, 3, 4, 0] rfl)
      have hcs : 70 + 300 * k + 300 ≤ 601024 ∧ 96000 + 2000 * k + 2000 ≤ 7293034 := ⟨by omega, by omega⟩
      refine lv_aload_n hx hb dL_law_32 rfl (lv_at hl 0 rfl) ?_
      refine lv_iload hx hb dL_law_33 (lv_at hl 4 rfl) ?_
      refine va_sld hx hb hX hbl hbA hW.2.2 (vp_in_nI (by omega) (by omega)) dL_law_35 ?_
      refine lv_bipush (v := 31) hx hb dL_law_36 (by decide) ?_
      refine lv_iand hx hb dL_law_38 ?_
      obtain ⟨j, hj, ej⟩ := pk_andE (xs (nI (4 * k)).toNatClampNeg) (m := 31) 5 (by decide)
      refine cy_top (y := nI j) ej ?_
      obtain ⟨ns, no, nc, mo, h, hfr⟩ := hI
      have hj18 : j = 0 ∨ j = 1 ∨ j = 2 ∨ j = 3 ∨ j = 4 ∨ j = 5 ∨ j = 6 ∨ j = 7 ∨ j = 8 ∨ j = 9 ∨ j = 10 ∨ j = 11 ∨ j = 12 ∨ j = 13 ∨ j = 14 ∨ j = 15 ∨ j = 16 ∨ j = 17 ∨ 18 ≤ j := by omega
      rcases hj18 with rfl | rfl | rfl | rfl | rfl | rfl | rfl | rfl | rfl | rfl | rfl | rfl | rfl | rfl | rfl | rfl | rfl | rfl | hj18
      · refine lv_tableIn (off := 85) (tgt := 124) hx hb dL_law_39 (by decide) (by decide) (by decide) (by decide) ?_
        exact a_addStave I0 E hk hL hcs h hfr hW hl
      · refine lv_tableIn (off := 153) (tgt := 192) hx hb dL_law_39 (by decide) (by decide) (by decide) (by decide) ?_
        exact a_stave I0 E hk hL hcs h hfr hW hl
      · refine lv_tableIn (off := 221) (tgt := 260) hx hb dL_law_39 (by decide) (by decide) (by decide) (by decide) ?_
        exact a_addSort I0 E hk hL hcs h hfr hW hl
      · refine lv_tableIn (off := 301) (tgt := 340) hx hb dL_law_39 (by decide) (by decide) (by decide) (by decide) ?_
        exact a_choose I0 E hk hL hcs h hfr hW hl
      · refine lv_tableIn (off := 369) (tgt := 408) hx hb dL_law_39 (by decide) (by decide) (by decide) (by decide) ?_
        exact a_raise I0 E hk hL hcs h hfr hW hl
      · refine lv_tableIn (off := 425) (tgt := 464) hx hb dL_law_39 (by decide) (by decide) (by decide) (by decide) ?_
        exact a_drive I0 E hk hL hcs h hfr hW hl
      · refine lv_tableIn (off := 505) (tgt := 544) hx hb dL_law_39 (by decide) (by decide) (by decide) (by decide) ?_
        exact a_mend I0 E hk hL hcs h hfr hW hl
      · refine lv_tableIn (off := 573) (tgt := 612) hx hb dL_law_39 (by decide) (by decide) (by decide) (by decide) ?_
        exact a_breakUp I0 E hk hL hcs h hfr hW hl
      · refine lv_tableIn (off := 629) (tgt := 668) hx hb dL_law_39 (by decide) (by decide) (by decide) (by decide) ?_
        exact a_cask I0 E hk hL hcs h hfr hW hl
      · refine lv_tableIn (off := 697) (tgt := 736) hx hb dL_law_39 (by decide) (by decide) (by decide) (by decide) ?_
        exact a_fill I0 E hk hL hcs h hfr hW hl
      · refine lv_tableIn (off := 777) (tgt := 816) hx hb dL_law_39 (by decide) (by decide) (by decide) (by decide) ?_
        exact a_rack I0 E hk hL hcs h hfr hW hl
      · refine lv_tableIn (off := 857) (tgt := 896) hx hb dL_law_39 (by decide) (by decide) (by decide) (by decide) ?_
        exact a_setWarmth I0 E hk hL hcs h hfr hW hl
      · refine lv_tableIn (off := 913) (tgt := 952) hx hb dL_law_39 (by decide) (by decide) (by decide) (by decide) ?_
        exact a_pass I0 E hk hL hcs h hfr hW hl
      · refine lv_tableIn (off := 969) (tgt := 1008) hx hb dL_law_39 (by decide) (by decide) (by decide) (by decide) ?_
        exact a_count I0 E hk hL hcs h hfr hW hl
      · refine lv_tableIn (off := 1025) (tgt := 1064) hx hb dL_law_39 (by decide) (by decide) (by decide) (by decide) ?_
        exact a_foresee I0 E hk hL hcs h hfr hW hl
      · refine lv_tableIn (off := 1105) (tgt := 1144) hx hb dL_law_39 (by decide) (by decide) (by decide) (by decide) ?_
        exact a_blend I0 E hk hL hcs h hfr hW hl
      · refine lv_tableIn (off := 1173) (tgt := 1212) hx hb dL_law_39 (by decide) (by decide) (by decide) (by decide) ?_
        exact a_taste I0 E hk hL hcs h hfr hW hl
      · refine lv_tableIn (off := 1214) (tgt := 1253) hx hb dL_law_39 (by decide) (by decide) (by decide) (by decide) ?_
        exact a_digest I0 E hk hL hcs h hfr hW hl
      · refine lv_tableOut (tgt := 1267) hx hb dL_law_39 (Or.inr (by rw [nI_toInt (by omega)]; omega)) (by decide) ?_
        exact E S M Z g H locs _ _ ls (by omega) (by omega) ⟨ns, no, nc, mo, h.mono (Nat.le_succ _), hfr⟩ hW hl
