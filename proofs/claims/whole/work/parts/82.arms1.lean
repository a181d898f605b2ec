/-! the law: its arms (printed by gen_law.py) -/
section Arms
variable {p : Program} {l : Launch} {e : Env} {s : State} {m : MethodId} {below : List Frame} {meth : Method} {c : Code} {b L : Nat} {xs : Nat → Int32} {D : va_G} {kI kJ kZ kC : ClassId} {ad ad2 : Nat → Nat} {ao : Nat} {S M : Nat → Nat → Int32} {Z : Nat → Int64} {g : Nat → Int64} {ns no nc mo k cells slots : Nat} {H : Heap} {locs : List Loc} {ls : Array Slot}
set_option maxHeartbeats 4000000 in
set_option maxRecDepth 100000 in
theorem a_cask (I : lw_In p l e s m c b L xs D kI kJ kZ kC) (E : lw_E p l e s m below meth c b D kI kJ kZ kC ad ad2 ao k cells slots) (hk : 4 * k + 4 ≤ L) (hL : L ≤ 2048) (hcs : cells + 300 ≤ 601024 ∧ slots + 2000 ≤ 7293034) (h : Rel S M ns no nc mo k) (hfr : R_fr S M nc) (hW : cy_W D (lw_A s) s.heap (cy_Y kI kJ kC ad S Z ((ao, .inl (kJ, 1, .inr (.inl g))) :: cy_Mw kI kZ ad2 M [])) H locs) (hl : lv_has ls 9 [(0, .ref b), (1, .ref (ad 0)), (2, .ref (ad2 0)), (3, .ref ao), (4, .int (nI (4 * k)))]) : W p l e room_1 s m #[Value.ref b] below meth c H locs cells slots (lw_Z below #[Value.ref b] s) (F0 m 668 ls []) := by
  obtain ⟨hC, hTh, hNx, hX, hbl, hl0⟩ := I
  have hx := hC.1.1; have hb := hC.1.2.1; have hml := hC.1.2.2.1; have hown := hC.1.2.2.2.1; have hts := hC.1.2.2.2.2
  have hbA : ¬ lw_A s b := Nat.not_le.mpr hbl
  obtain ⟨u1, u2, u3⟩ := u_cask (x := (xs (4 * k + 1))) (y := (xs (4 * k + 2))) h hfr
  refine lv_aload_n hx hb dL_law_668 rfl (lv_at hl 1 rfl) ?_
  refine lv_aload_n hx hb dL_law_669 rfl (lv_at hl 0 rfl) ?_
  refine lv_iload hx hb dL_law_670 (lv_at hl 4 rfl) ?_
  refine lv_iconst (v := 1) hx hb dL_law_672 (by decide) ?_
  refine lv_iadd hx hb dL_law_673 ?_
  refine cy_top (y := nI (4 * k + 1)) (nI_add (4 * k) 1) ?_
  refine va_sld hx hb hX hbl hbA hW.2.2 (vp_in_nI (by omega) (by omega)) dL_law_674 ?_
  refine cy_top (y := xs (4 * k + 1)) (by rw [nI_clamp (by omega)]) ?_
  refine lv_aload_n hx hb dL_law_675 rfl (lv_at hl 0 rfl) ?_
  refine lv_iload hx hb dL_law_676 (lv_at hl 4 rfl) ?_
  refine lv_iconst (v := 2) hx hb dL_law_678 (by decide) ?_
  refine lv_iadd hx hb dL_law_679 ?_
  refine cy_top (y := nI (4 * k + 2)) (nI_add (4 * k) 2) ?_
  refine va_sld hx hb hX hbl hbA hW.2.2 (vp_in_nI (by omega) (by omega)) dL_law_680 ?_
  refine cy_top (y := xs (4 * k + 2)) (by rw [nI_clamp (by omega)]) ?_
  refine lv_aload_n hx hb dL_law_681 rfl (lv_at hl 3 rfl) ?_
  refine cy_callSV (rm := rm_L_cask) hl0 hTh hNx (As := [.ref (ad 0), .int (xs (4 * k + 1)), .int (xs (4 * k + 2)), .ref ao]) (rest := []) hC.1 hC.2.1 hC.2.2 hW (c_L_cask (x := (xs (4 * k + 1))) (y := (xs (4 * k + 2))) h.1.1.1 h.1.1.2.2 h.1.2.2.1.1 h.1.2.2.1.2.2) (vx_cwSW 4 hts gL_law_L_cask rfl rfl rfl (by decide +kernel) ⟨Nat.le_of_ble_eq_true rfl, Nat.le_of_ble_eq_true rfl⟩) rfl hl.1 rfl (Nat.le_of_ble_eq_true rfl) dL_law_682 ⟨(show cells + 1 ≤ 601024 by omega), (show slots + 6 ≤ 7293034 by omega)⟩ (k' := cells + 1) (n' := slots + 6) rfl rfl (fun H locs hW => ?_)
  refine lv_topi (fun v5 e5 => ?_)
  refine lv_istore (lv' := [(5, .int v5), (0, .ref b), (1, .ref (ad 0)), (2, .ref (ad2 0)), (3, .ref ao), (4, .int (nI (4 * k)))]) hx hb dL_law_685 hl (by decide) rfl (fun ls hl => ?_)
  have hW := cy_swap hW
  refine lv_aload_n hx hb dL_law_687 rfl (lv_at hl 3 rfl) ?_
  refine lv_aload_n hx hb dL_law_688 rfl (lv_at hl 1 rfl) ?_
  refine lv_iload hx hb dL_law_689 (lv_at hl 5 rfl) ?_
  refine lv_iconst (v := 1) hx hb dL_law_691 (by decide) ?_
  refine lv_iadd hx hb dL_law_692 ?_
  refine cy_top (y := nI (4 * k + 1)) (nI_add (4 * k) 1) ?_
  refine va_sld hx hb hX hbl hbA hW.2.2 (vp_in_nI (by omega) (by omega)) dL_law_693 ?_
  refine cy_top (y := xs (4 * k + 1)) (by rw [nI_clamp (by omega)]) ?_
  refine lv_aload_n hx hb dL_law_694 rfl (lv_at hl 1 rfl) ?_
  refine lv_iload hx hb dL_law_695 (lv_at hl 5 rfl) ?_
  refine lv_iconst (v := 2) hx hb dL_law_697 (by decide) ?_
  refine lv_iadd hx hb dL_law_698 ?_
  refine cy_top (y := nI (4 * k + 2)) (nI_add (4 * k) 2) ?_
  refine va_sld hx hb hX hbl hbA hW.2.2 (vp_in_nI (by omega) (by omega)) dL_law_699 ?_
  refine cy_top (y := xs (4 * k + 2)) (by rw [nI_clamp (by omega)]) ?_
  refine cy_callV (rm := rm_X3_cask) (As := [.int (xs (4 * k + 1)), .int (xs (4 * k + 2))]) (rest := []) (q0 := 0) (ci := 3) hC.1 hC.2.1 hC.2.2 hW (c_X3_cask (x := (xs (4 * k + 1))) (y := (xs (4 * k + 2))) h.1.1.2.1 h.1.1.2.2 h.1.2.2.1.2.1 h.1.2.2.1.2.2 h.ok) (cwV 2 hts gL_law_X3_cask rfl rfl rfl (by decide +kernel) ⟨Nat.le_of_ble_eq_true rfl, Nat.le_of_ble_eq_true rfl⟩) (cy_w_at (by decide) rfl) rfl rfl hl.1 rfl (Nat.le_of_ble_eq_true rfl) dL_law_700 ⟨(show cells + 1 + 1 ≤ 601024 by omega), (show slots + 6 + 8 ≤ 7293034 by omega)⟩ (k' := cells + 1 + 1) (n' := slots + 6 + 8) rfl rfl (fun H locs hW => ?_)
  refine lv_topi (fun v6 e6 => ?_)
  refine lv_istore (lv' := [(6, .int v6), (5, .int v5), (0, .ref b), (1, .ref (ad 0)), (2, .ref (ad2 0)), (3, .ref ao), (4, .int (nI (4 * k)))]) hx hb dL_law_703 hl (by decide) rfl (fun ls hl => ?_)
  refine lv_aload_n hx hb dL_law_705 rfl (lv_at hl 4 rfl) ?_
  refine cy_callV (rm := rm_X3_thrown) (As := []) (rest := []) (q0 := 0) (ci := 3) hC.1 hC.2.1 hC.2.2 hW c_X3_thrown (cwV 0 hts gL_law_X3_thrown rfl rfl rfl (by decide +kernel) ⟨Nat.le_of_ble_eq_true rfl, Nat.le_of_ble_eq_true rfl⟩) (cy_w_at (by decide) rfl) rfl rfl hl.1 rfl (Nat.le_of_ble_eq_true rfl) dL_law_706 ⟨(show cells + 1 + 1 ≤ 601024 by omega), (show slots + 6 + 8 ≤ 7293034 by omega)⟩ (k' := cells + 1 + 1) (n' := slots + 6 + 8) rfl rfl (fun H locs hW => ?_)
  have hW := cy_swap' hW
  refine lv_iload hx hb dL_law_709 (lv_at hl 1 rfl) ?_
  refine lv_icmp_eq (tgt := 716) hx hb dL_law_711 (by decide) (fun _ => ?_) (fun cn => absurd (u1.symm.trans e5.symm) cn)
  refine lv_iload hx hb dL_law_716 (lv_at hl 1 rfl) ?_
  refine lv_if_ne (tgt := 733) hx hb dL_law_718 (by decide) (fun _ => ?_) (fun c0 => ?_)
  · refine lv_goto (tgt := 1267) hx hb dL_law_733 (by decide) ?_
    exact E _ _ _ _ _ _ _ _ _ (by omega) (by omega) u3 hW (lv_sub hl [2, 3, 4, 5, 6] rfl)
  · have hth := cy_cd_0 (e5.symm.trans c0)
    refine lv_aload_n hx hb dL_law_721 rfl (lv_at hl 5 rfl) ?_
    refine lv_iconst (v := 0) hx hb dL_law_722 (by decide) ?_
    refine cy_tlald hC 0 ao hW 1 (i := 0) rfl rfl (by decide) (by decide) dL_law_723 ?_
    refine lv_iload hx hb dL_law_724 (lv_at hl 0 rfl) ?_
    refine lv_i2l hx hb dL_law_726 rfl ?_
    refine W.lcmp hx hb dL_law_727 ?_
    refine lv_if_eq (tgt := 733) hx hb dL_law_728 (by decide) (fun _ => ?_) (fun cn => absurd (lw_cmp hth ((u2 hth).trans e6.symm)) cn)
    refine lv_goto (tgt := 1267) hx hb dL_law_733 (by decide) ?_
    exact E _ _ _ _ _ _ _ _ _ (by omega) (by omega) u3 hW (lv_sub hl [2, 3, 4, 5, 6] rfl)
set_option maxHeartbeats 4000000 in
set_option maxRecDepth 100000 in
theorem a_fill (I : lw_In p l e s m c b L xs D kI kJ kZ kC) (E : lw_E p l e s m below meth c b D kI kJ kZ kC ad ad2 ao k cells slots) (hk : 4 * k + 4 ≤ L) (hL : L ≤ 2048) (hcs : cells + 300 ≤ 601024 ∧ slots + 2000 ≤ 7293034) (h : Rel S M ns no nc mo k) (hfr : R_fr S M nc) (hW : cy_W D (lw_A s) s.heap (cy_Y kI kJ kC ad S Z ((ao, .inl (kJ, 1, .inr (.inl g))) :: cy_Mw kI kZ ad2 M [])) H locs) (hl : lv_has ls 9 [(0, .ref b), (1, .ref (ad 0)), (2, .ref (ad2 0)), (3, .ref ao), (4, .int (nI (4 * k)))]) : W p l e room_1 s m #[Value.ref b] below meth c H locs cells slots (lw_Z below #[Value.ref b] s) (F0 m 736 ls []) := by
  obtain ⟨hC, hTh, hNx, hX, hbl, hl0⟩ := I
  have hx := hC.1.1; have hb := hC.1.2.1; have hml := hC.1.2.2.1; have hown := hC.1.2.2.2.1; have hts := hC.1.2.2.2.2
  have hbA : ¬ lw_A s b := Nat.not_le.mpr hbl
  obtain ⟨u1, u2, u3⟩ := u_fill (x := (xs (4 * k + 1))) (y := (xs (4 * k + 2))) (z := (xs (4 * k + 3))) (by omega) h hfr
  refine lv_aload_n hx hb dL_law_736 rfl (lv_at hl 1 rfl) ?_
  refine lv_aload_n hx hb dL_law_737 rfl (lv_at hl 0 rfl) ?_
  refine lv_iload hx hb dL_law_738 (lv_at hl 4 rfl) ?_
  refine lv_iconst (v := 1) hx hb dL_law_740 (by decide) ?_
  refine lv_iadd hx hb dL_law_741 ?_
  refine cy_top (y := nI (4 * k + 1)) (nI_add (4 * k) 1) ?_
  refine va_sld hx hb hX hbl hbA hW.2.2 (vp_in_nI (by omega) (by omega)) dL_law_742 ?_
  refine cy_top (y := xs (4 * k + 1)) (by rw [nI_clamp (by omega)]) ?_
  refine lv_aload_n hx hb dL_law_743 rfl (lv_at hl 0 rfl) ?_
  refine lv_iload hx hb dL_law_744 (lv_at hl 4 rfl) ?_
  refine lv_iconst (v := 2) hx hb dL_law_746 (by decide) ?_
  refine lv_iadd hx hb dL_law_747 ?_
  refine cy_top (y := nI (4 * k + 2)) (nI_add (4 * k) 2) ?_
  refine va_sld hx hb hX hbl hbA hW.2.2 (vp_in_nI (by omega) (by omega)) dL_law_748 ?_
  refine cy_top (y := xs (4 * k + 2)) (by rw [nI_clamp (by omega)]) ?_
  refine lv_aload_n hx hb dL_law_749 rfl (lv_at hl 0 rfl) ?_
  refine lv_iload hx hb dL_law_750 (lv_at hl 4 rfl) ?_
  refine lv_iconst (v := 3) hx hb dL_law_752 (by decide) ?_
  refine lv_iadd hx hb dL_law_753 ?_
  refine cy_top (y := nI (4 * k + 3)) (nI_add (4 * k) 3) ?_
  refine va_sld hx hb hX hbl hbA hW.2.2 (vp_in_nI (by omega) (by omega)) dL_law_754 ?_
  refine cy_top (y := xs (4 * k + 3)) (by rw [nI_clamp (by omega)]) ?_
  refine lv_aload_n hx hb dL_law_755 rfl (lv_at hl 3 rfl) ?_
  refine cy_callSV (rm := rm_L_fill) hl0 hTh hNx (As := [.ref (ad 0), .int (xs (4 * k + 1)), .int (xs (4 * k + 2)), .int (xs (4 * k + 3)), .ref ao]) (rest := []) hC.1 hC.2.1 hC.2.2 hW (c_L_fill (x := (xs (4 * k + 1))) (y := (xs (4 * k + 2))) (z := (xs (4 * k + 3))) h.1.2.2.1.1 h.1.2.2.1.2.2) (vx_cwSW 5 hts gL_law_L_fill rfl rfl rfl (by decide +kernel) ⟨Nat.le_of_ble_eq_true rfl, Nat.le_of_ble_eq_true rfl⟩) rfl hl.1 rfl (Nat.le_of_ble_eq_true rfl) dL_law_756 ⟨(show cells + 1 ≤ 601024 by omega), (show slots + 6 ≤ 7293034 by omega)⟩ (k' := cells + 1) (n' := slots + 6) rfl rfl (fun H locs hW => ?_)
  refine lv_topi (fun v5 e5 => ?_)
  refine lv_istore (lv' := [(5, .int v5), (0, .ref b), (1, .ref (ad 0)), (2, .ref (ad2 0)), (3, .ref ao), (4, .int (nI (4 * k)))]) hx hb dL_law_759 hl (by decide) rfl (fun ls hl => ?_)
  have hW := cy_swap hW
  refine lv_aload_n hx hb dL_law_761 rfl (lv_at hl 3 rfl) ?_
  refine lv_aload_n hx hb dL_law_762 rfl (lv_at hl 1 rfl) ?_
  refine lv_iload hx hb dL_law_763 (lv_at hl 5 rfl) ?_
  refine lv_iconst (v := 1) hx hb dL_law_765 (by decide) ?_
  refine lv_iadd hx hb dL_law_766 ?_
  refine cy_top (y := nI (4 * k + 1)) (nI_add (4 * k) 1) ?_
  refine va_sld hx hb hX hbl hbA hW.2.2 (vp_in_nI (by omega) (by omega)) dL_law_767 ?_
  refine cy_top (y := xs (4 * k + 1)) (by rw [nI_clamp (by omega)]) ?_
  refine lv_aload_n hx hb dL_law_768 rfl (lv_at hl 1 rfl) ?_
  refine lv_iload hx hb dL_law_769 (lv_at hl 5 rfl) ?_
  refine lv_iconst (v := 2) hx hb dL_law_771 (by decide) ?_
  refine lv_iadd hx hb dL_law_772 ?_
  refine cy_top (y := nI (4 * k + 2)) (nI_add (4 * k) 2) ?_
  refine va_sld hx hb hX hbl hbA hW.2.2 (vp_in_nI (by omega) (by omega)) dL_law_773 ?_
  refine cy_top (y := xs (4 * k + 2)) (by rw [nI_clamp (by omega)]) ?_
  refine lv_aload_n hx hb dL_law_774 rfl (lv_at hl 1 rfl) ?_
  refine lv_iload hx hb dL_law_775 (lv_at hl 5 rfl) ?_
  refine lv_iconst (v := 3) hx hb dL_law_777 (by decide) ?_
  refine lv_iadd hx hb dL_law_778 ?_
  refine cy_top (y := nI (4 * k + 3)) (nI_add (4 * k) 3) ?_
  refine va_sld hx hb hX hbl hbA hW.2.2 (vp_in_nI (by omega) (by omega)) dL_law_779 ?_
  refine cy_top (y := xs (4 * k + 3)) (by rw [nI_clamp (by omega)]) ?_
  refine cy_callV (rm := rm_X3_fill) (As := [.int (xs (4 * k + 1)), .int (xs (4 * k + 2)), .int (xs (4 * k + 3))]) (rest := []) (q0 := 0) (ci := 3) hC.1 hC.2.1 hC.2.2 hW (c_X3_fill (x := (xs (4 * k + 1))) (y := (xs (4 * k + 2))) (z := (xs (4 * k + 3))) h.1.2.2.1.2.1 h.1.2.2.1.2.2 h.ok) (cwV 3 hts gL_law_X3_fill rfl rfl rfl (by decide +kernel) ⟨Nat.le_of_ble_eq_true rfl, Nat.le_of_ble_eq_true rfl⟩) (cy_w_at (by decide) rfl) rfl rfl hl.1 rfl (Nat.le_of_ble_eq_true rfl) dL_law_780 ⟨(show cells + 1 + 0 ≤ 601024 by omega), (show slots + 6 + 0 ≤ 7293034 by omega)⟩ (k' := cells + 1 + 0) (n' := slots + 6 + 0) rfl rfl (fun H locs hW => ?_)
  refine lv_topi (fun v6 e6 => ?_)
  refine lv_istore (lv' := [(6, .int v6), (5, .int v5), (0, .ref b), (1, .ref (ad 0)), (2, .ref (ad2 0)), (3, .ref ao), (4, .int (nI (4 * k)))]) hx hb dL_law_783 hl (by decide) rfl (fun ls hl => ?_)
  refine lv_aload_n hx hb dL_law_785 rfl (lv_at hl 4 rfl) ?_
  refine cy_callV (rm := rm_X3_thrown) (As := []) (rest := []) (q0 := 0) (ci := 3) hC.1 hC.2.1 hC.2.2 hW c_X3_thrown (cwV 0 hts gL_law_X3_thrown rfl rfl rfl (by decide +kernel) ⟨Nat.le_of_ble_eq_true rfl, Nat.le_of_ble_eq_true rfl⟩) (cy_w_at (by decide) rfl) rfl rfl hl.1 rfl (Nat.le_of_ble_eq_true rfl) dL_law_786 ⟨(show cells + 1 + 0 ≤ 601024 by omega), (show slots + 6 + 0 ≤ 7293034 by omega)⟩ (k' := cells + 1 + 0) (n' := slots + 6 + 0) rfl rfl (fun H locs hW => ?_)
  have hW := cy_swap' hW
  refine lv_iload hx hb dL_law_789 (lv_at hl 1 rfl) ?_
  refine lv_icmp_eq (tgt := 796) hx hb dL_law_791 (by decide) (fun _ => ?_) (fun cn => absurd (u1.symm.trans e5.symm) cn)
  refine lv_iload hx hb dL_law_796 (lv_at hl 1 rfl) ?_
  refine lv_if_ne (tgt := 813) hx hb dL_law_798 (by decide) (fun _ => ?_) (fun c0 => ?_)
  · refine lv_goto (tgt := 1267) hx hb dL_law_813 (by decide) ?_
    exact E _ _ _ _ _ _ _ _ _ (by omega) (by omega) u3 hW (lv_sub hl [2, 3, 4, 5, 6] rfl)
  · have hth := cy_cd_0 (e5.symm.trans c0)
    refine lv_aload_n hx hb dL_law_801 rfl (lv_at hl 5 rfl) ?_
    refine lv_iconst (v := 0) hx hb dL_law_802 (by decide) ?_
    refine cy_tlald hC 0 ao hW 1 (i := 0) rfl rfl (by decide) (by decide) dL_law_803 ?_
    refine lv_iload hx hb dL_law_804 (lv_at hl 0 rfl) ?_
    refine lv_i2l hx hb dL_law_806 rfl ?_
    refine W.lcmp hx hb dL_law_807 ?_
    refine lv_if_eq (tgt := 813) hx hb dL_law_808 (by decide) (fun _ => ?_) (fun cn => absurd (lw_cmp hth ((u2 hth).trans e6.symm)) cn)
    refine lv_goto (tgt := 1267) hx hb dL_law_813 (by decide) ?_
    exact E _ _ _ _ _ _ _ _ _ (by omega) (by omega) u3 hW (lv_sub hl [2, 3, 4, 5, 6] rfl)
set_option maxHeartbeats 4000000 in
set_option maxRecDepth 100000 in
theorem a_rack (I : lw_In p l e s m c b L xs D kI kJ kZ kC) (E : lw_E p l e s m below meth c b D kI kJ kZ kC ad ad2 ao k cells slots) (hk : 4 * k + 4 ≤ L) (hL : L ≤ 2048) (hcs : cells + 300 ≤ 601024 ∧ slots + 2000 ≤ 7293034) (h : Rel S M ns no nc mo k) (hfr : R_fr S M nc) (hW : cy_W D (lw_A s) s.heap (cy_Y kI kJ kC ad S Z ((ao, .inl (kJ, 1, .inr (.inl g))) :: cy_Mw kI kZ ad2 M [])) H locs) (hl : lv_has ls 9 [(0, .ref b), (1, .ref (ad 0)), (2, .ref (ad2 0)), (3, .ref ao), (4, .int (nI (4 * k)))]) : W p l e room_1 s m #[Value.ref b] below meth c H locs cells slots (lw_Z below #[Value.ref b] s) (F0 m 816 ls []) := by
  obtain ⟨hC, hTh, hNx, hX, hbl, hl0⟩ := I
  have hx := hC.1.1; have hb := hC.1.2.1; have hml := hC.1.2.2.1; have hown := hC.1.2.2.2.1; have hts := hC.1.2.2.2.2
  have hbA : ¬ lw_A s b := Nat.not_le.mpr hbl
  obtain ⟨u1, u2, u3⟩ := u_rack (x := (xs (4 * k + 1))) (y := (xs (4 * k + 2))) (z := (xs (4 * k + 3))) (by omega) h hfr
  refine lv_aload_n hx hb dL_law_816 rfl (lv_at hl 1 rfl) ?_
  refine lv_aload_n hx hb dL_law_817 rfl (lv_at hl 0 rfl) ?_
  refine lv_iload hx hb dL_law_818 (lv_at hl 4 rfl) ?_
  refine lv_iconst (v := 1) hx hb dL_law_820 (by decide) ?_
  refine lv_iadd hx hb dL_law_821 ?_
  refine cy_top (y := nI (4 * k + 1)) (nI_add (4 * k) 1) ?_
  refine va_sld hx hb hX hbl hbA hW.2.2 (vp_in_nI (by omega) (by omega)) dL_law_822 ?_
  refine cy_top (y := xs (4 * k + 1)) (by rw [nI_clamp (by omega)]) ?_
  refine lv_aload_n hx hb dL_law_823 rfl (lv_at hl 0 rfl) ?_
  refine lv_iload hx hb dL_law_824 (lv_at hl 4 rfl) ?_
  refine lv_iconst (v := 2) hx hb dL_law_826 (by decide) ?_
  refine lv_iadd hx hb dL_law_827 ?_
  refine cy_top (y := nI (4 * k + 2)) (nI_add (4 * k) 2) ?_
  refine va_sld hx hb hX hbl hbA hW.2.2 (vp_in_nI (by omega) (by omega)) dL_law_828 ?_
  refine cy_top (y := xs (4 * k + 2)) (by rw [nI_clamp (by omega)]) ?_
  refine lv_aload_n hx hb dL_law_829 rfl (lv_at hl 0 rfl) ?_
  refine lv_iload hx hb dL_law_830 (lv_at hl 4 rfl) ?_
  refine lv_iconst (v := 3) hx hb dL_law_832 (by decide) ?_
  refine lv_iadd hx hb dL_law_833 ?_
  refine cy_top (y := nI (4 * k + 3)) (nI_add (4 * k) 3) ?_
  refine va_sld hx hb hX hbl hbA hW.2.2 (vp_in_nI (by omega) (by omega)) dL_law_834 ?_
  refine cy_top (y := xs (4 * k + 3)) (by rw [nI_clamp (by omega)]) ?_
  refine lv_aload_n hx hb dL_law_835 rfl (lv_at hl 3 rfl) ?_
  refine cy_callSV (rm := rm_L_rack) hl0 hTh hNx (As := [.ref (ad 0), .int (xs (4 * k + 1)), .int (xs (4 * k + 2)), .int (xs (4 * k + 3)), .ref ao]) (rest := []) hC.1 hC.2.1 hC.2.2 hW (c_L_rack (x := (xs (4 * k + 1))) (y := (xs (4 * k + 2))) (z := (xs (4 * k + 3))) h.1.2.2.1.1 h.1.2.2.1.2.2) (vx_cwSW 5 hts gL_law_L_rack rfl rfl rfl (by decide +kernel) ⟨Nat.le_of_ble_eq_true rfl, Nat.le_of_ble_eq_true rfl⟩) rfl hl.1 rfl (Nat.le_of_ble_eq_true rfl) dL_law_836 ⟨(show cells + 1 ≤ 601024 by omega), (show slots + 6 ≤ 7293034 by omega)⟩ (k' := cells + 1) (n' := slots + 6) rfl rfl (fun H locs hW => ?_)
  refine lv_topi (fun v5 e5 => ?_)
  refine lv_istore (lv' := [(5, .int v5), (0, .ref b), (1, .ref (ad 0)), (2, .ref (ad2 0)), (3, .ref ao), (4, .int (nI (4 * k)))]) hx hb dL_law_839 hl (by decide) rfl (fun ls hl => ?_)
  have hW := cy_swap hW
  refine lv_aload_n hx hb dL_law_841 rfl (lv_at hl 3 rfl) ?_
  refine lv_aload_n hx hb dL_law_842 rfl (lv_at hl 1 rfl) ?_
  refine lv_iload hx hb dL_law_843 (lv_at hl 5 rfl) ?_
  refine lv_iconst (v := 1) hx hb dL_law_845 (by decide) ?_
  refine lv_iadd hx hb dL_law_846 ?_
  refine cy_top (y := nI (4 * k + 1)) (nI_add (4 * k) 1) ?_
  refine va_sld hx hb hX hbl hbA hW.2.2 (vp_in_nI (by omega) (by omega)) dL_law_847 ?_
  refine cy_top (y := xs (4 * k + 1)) (by rw [nI_clamp (by omega)]) ?_
  refine lv_aload_n hx hb dL_law_848 rfl (lv_at hl 1 rfl) ?_
  refine lv_iload hx hb dL_law_849 (lv_at hl 5 rfl) ?_
  refine lv_iconst (v := 2) hx hb dL_law_851 (by decide) ?_
  refine lv_iadd hx hb dL_law_852 ?_
  refine cy_top (y := nI (4 * k + 2)) (nI_add (4 * k) 2) ?_
  refine va_sld hx hb hX hbl hbA hW.2.2 (vp_in_nI (by omega) (by omega)) dL_law_853 ?_
  refine cy_top (y := xs (4 * k + 2)) (by rw [nI_clamp (by omega)]) ?_
  refine lv_aload_n hx hb dL_law_854 rfl (lv_at hl 1 rfl) ?_
  refine lv_iload hx hb dL_law_855 (lv_at hl 5 rfl) ?_
  refine lv_iconst (v := 3) hx hb dL_law_857 (by decide) ?_
  refine lv_iadd hx hb dL_law_858 ?_
  refine cy_top (y := nI (4 * k + 3)) (nI_add (4 * k) 3) ?_
  refine va_sld hx hb hX hbl hbA hW.2.2 (vp_in_nI (by omega) (by omega)) dL_law_859 ?_
  refine cy_top (y := xs (4 * k + 3)) (by rw [nI_clamp (by omega)]) ?_
  refine cy_callV (rm := rm_X3_rack) (As := [.int (xs (4 * k + 1)), .int (xs (4 * k + 2)), .int (xs (4 * k + 3))]) (rest := []) (q0 := 0) (ci := 3) hC.1 hC.2.1 hC.2.2 hW (c_X3_rack (x := (xs (4 * k + 1))) (y := (xs (4 * k + 2))) (z := (xs (4 * k + 3))) h.1.2.2.1.2.1 h.1.2.2.1.2.2 h.hd h.ok) (cwV 3 hts gL_law_X3_rack rfl rfl rfl (by decide +kernel) ⟨Nat.le_of_ble_eq_true rfl, Nat.le_of_ble_eq_true rfl⟩) (cy_w_at (by decide) rfl) rfl rfl hl.1 rfl (Nat.le_of_ble_eq_true rfl) dL_law_860 ⟨(show cells + 1 + 1 ≤ 601024 by omega), (show slots + 6 + 5 ≤ 7293034 by omega)⟩ (k' := cells + 1 + 1) (n' := slots + 6 + 5) rfl rfl (fun H locs hW => ?_)
  refine lv_topi (fun v6 e6 => ?_)
  refine lv_istore (lv' := [(6, .int v6), (5, .int v5), (0, .ref b), (1, .ref (ad 0)), (2, .ref (ad2 0)), (3, .ref ao), (4, .int (nI (4 * k)))]) hx hb dL_law_863 hl (by decide) rfl (fun ls hl => ?_)
  refine lv_aload_n hx hb dL_law_865 rfl (lv_at hl 4 rfl) ?_
  refine cy_callV (rm := rm_X3_thrown) (As := []) (rest := []) (q0 := 0) (ci := 3) hC.1 hC.2.1 hC.2.2 hW c_X3_thrown (cwV 0 hts gL_law_X3_thrown rfl rfl rfl (by decide +kernel) ⟨Nat.le_of_ble_eq_true rfl, Nat.le_of_ble_eq_true rfl⟩) (cy_w_at (by decide) rfl) rfl rfl hl.1 rfl (Nat.le_of_ble_eq_true rfl) dL_law_866 ⟨(show cells + 1 + 1 ≤ 601024 by omega), (show slots + 6 + 5 ≤ 7293034 by omega)⟩ (k' := cells + 1 + 1) (n' := slots + 6 + 5) rfl rfl (fun H locs hW => ?_)
  have hW := cy_swap' hW
  refine lv_iload hx hb dL_law_869 (lv_at hl 1 rfl) ?_
  refine lv_icmp_eq (tgt := 876) hx hb dL_law_871 (by decide) (fun _ => ?_) (fun cn => absurd (u1.symm.trans e5.symm) cn)
  refine lv_iload hx hb dL_law_876 (lv_at hl 1 rfl) ?_
  refine lv_if_ne (tgt := 893) hx hb dL_law_878 (by decide) (fun _ => ?_) (fun c0 => ?_)
  · refine lv_goto (tgt := 1267) hx hb dL_law_893 (by decide) ?_
    exact E _ _ _ _ _ _ _ _ _ (by omega) (by omega) u3 hW (lv_sub hl [2, 3, 4, 5, 6] rfl)
  · have hth := cy_cd_0 (e5.symm.trans c0)
    refine lv_aload_n hx hb dL_law_881 rfl (lv_at hl 5 rfl) ?_
    refine lv_iconst (v := 0) hx hb dL_law_882 (by decide) ?_
    refine cy_tlald hC 0 ao hW 1 (i := 0) rfl rfl (by decide) (by decide) dL_law_883 ?_
    refine lv_iload hx hb dL_law_884 (lv_at hl 0 rfl) ?_
    refine lv_i2l hx hb dL_law_886 rfl ?_
    refine W.lcmp hx hb dL_law_887 ?_
    refine lv_if_eq (tgt := 893) hx hb dL_law_888 (by decide) (fun _ => ?_) (fun cn => absurd (lw_cmp hth ((u2 hth).trans e6.symm)) cn)
    refine lv_goto (tgt := 1267) hx hb dL_law_893 (by decide) ?_
    exact E _ _ _ _ _ _ _ _ _ (by omega) (by omega) u3 hW (lv_sub hl [2, 3, 4, 5, 6] rfl)
set_option maxHeartbeats 4000000 in
set_option maxRecDepth 100000 in
theorem a_setWarmth (I : lw_In p l e s m c b L xs D kI kJ kZ kC) (E : lw_E p l e s m below meth c b D kI kJ kZ kC ad ad2 ao k cells slots) (hk : 4 * k + 4 ≤ L) (hL : L ≤ 2048) (hcs : cells + 300 ≤ 601024 ∧ slots + 2000 ≤ 7293034) (h : Rel S M ns no nc mo k) (hfr : R_fr S M nc) (hW : cy_W D (lw_A s) s.heap (cy_Y kI kJ kC ad S Z ((ao, .inl (kJ, 1, .inr (.inl g))) :: cy_Mw kI kZ ad2 M [])) H locs) (hl : lv_has ls 9 [(0, .ref b), (1, .ref (ad 0)), (2, .ref (ad2 0)), (3, .ref ao), (4, .int (nI (4 * k)))]) : W p l e room_1 s m #[Value.ref b] below meth c H locs cells slots (lw_Z below #[Value.ref b] s) (F0 m 896 ls []) := by
  obtain ⟨hC, hTh, hNx, hX, hbl, hl0⟩ := I
  have hx := hC.1.1; have hb := hC.1.2.1; have hml := hC.1.2.2.1; have hown := hC.1.2.2.2.1; have hts := hC.1.2.2.2.2
  have hbA : ¬ lw_A s b := Nat.not_le.mpr hbl
  obtain ⟨u1, u2, u3⟩ := u_setWarmth (x := (xs (4 * k + 1))) h hfr
  refine lv_aload_n hx hb dL_law_896 rfl (lv_at hl 1 rfl) ?_
  refine lv_aload_n hx hb dL_law_897 rfl (lv_at hl 0 rfl) ?_
  refine lv_iload hx hb dL_law_898 (lv_at hl 4 rfl) ?_
  refine lv_iconst (v := 1) hx hb dL_law_900 (by decide) ?_
  refine lv_iadd hx hb dL_law_901 ?_
  refine cy_top (y := nI (4 * k + 1)) (nI_add (4 * k) 1) ?_
  refine va_sld hx hb hX hbl hbA hW.2.2 (vp_in_nI (by omega) (by omega)) dL_law_902 ?_
  refine cy_top (y := xs (4 * k + 1)) (by rw [nI_clamp (by omega)]) ?_
  refine lv_aload_n hx hb dL_law_903 rfl (lv_at hl 3 rfl) ?_
  refine cy_callSV (rm := rm_L_setWarmth) hl0 hTh hNx (As := [.ref (ad 0), .int (xs (4 * k + 1)), .ref ao]) (rest := []) hC.1 hC.2.1 hC.2.2 hW (c_L_setWarmth (x := (xs (4 * k + 1))) ) (vx_cwSW 3 hts gL_law_L_setWarmth rfl rfl rfl (by decide +kernel) ⟨Nat.le_of_ble_eq_true rfl, Nat.le_of_ble_eq_true rfl⟩) rfl hl.1 rfl (Nat.le_of_ble_eq_true rfl) dL_law_904 ⟨(show cells + 1 ≤ 601024 by omega), (show slots + 6 ≤ 7293034 by omega)⟩ (k' := cells + 1) (n' := slots + 6) rfl rfl (fun H locs hW => ?_)
  refine lv_topi (fun v5 e5 => ?_)
  refine lv_istore (lv' := [(5, .int v5), (0, .ref b), (1, .ref (ad 0)), (2, .ref (ad2 0)), (3, .ref ao), (4, .int (nI (4 * k)))]) hx hb dL_law_907 hl (by decide) rfl (fun ls hl => ?_)
  have hW := cy_swap hW
  refine lv_aload_n hx hb dL_law_909 rfl (lv_at hl 3 rfl) ?_
  refine lv_aload_n hx hb dL_law_910 rfl (lv_at hl 1 rfl) ?_
  refine lv_iload hx hb dL_law_911 (lv_at hl 5 rfl) ?_
  refine lv_iconst (v := 1) hx hb dL_law_913 (by decide) ?_
  refine lv_iadd hx hb dL_law_914 ?_
  refine cy_top (y := nI (4 * k + 1)) (nI_add (4 * k) 1) ?_
  refine va_sld hx hb hX hbl hbA hW.2.2 (vp_in_nI (by omega) (by omega)) dL_law_915 ?_
  refine cy_top (y := xs (4 * k + 1)) (by rw [nI_clamp (by omega)]) ?_
  refine cy_callV (rm := rm_X3_setWarmth) (As := [.int (xs (4 * k + 1))]) (rest := []) (q0 := 0) (ci := 3) hC.1 hC.2.1 hC.2.2 hW (c_X3_setWarmth (x := (xs (4 * k + 1))) ) (cwV 1 hts gL_law_X3_setWarmth rfl rfl rfl (by decide +kernel) ⟨Nat.le_of_ble_eq_true rfl, Nat.le_of_ble_eq_true rfl⟩) (cy_w_at (by decide) rfl) rfl rfl hl.1 rfl (Nat.le_of_ble_eq_true rfl) dL_law_916 ⟨(show cells + 1 + 0 ≤ 601024 by omega), (show slots + 6 + 0 ≤ 7293034 by omega)⟩ (k' := cells + 1 + 0) (n' := slots + 6 + 0) rfl rfl (fun H locs hW => ?_)
  refine lv_topi (fun v6 e6 => ?_)
  refine lv_istore (lv' := [(6, .int v6), (5, .int v5), (0, .ref b), (1, .ref (ad 0)), (2, .ref (ad2 0)), (3, .ref ao), (4, .int (nI (4 * k)))]) hx hb dL_law_919 hl (by decide) rfl (fun ls hl => ?_)
  refine lv_aload_n hx hb dL_law_921 rfl (lv_at hl 4 rfl) ?_
  refine cy_callV (rm := rm_X3_thrown) (As := []) (rest := []) (q0 := 0) (ci := 3) hC.1 hC.2.1 hC.2.2 hW c_X3_thrown (cwV 0 hts gL_law_X3_thrown rfl rfl rfl (by decide +kernel) ⟨Nat.le_of_ble_eq_true rfl, Nat.le_of_ble_eq_true rfl⟩) (cy_w_at (by decide) rfl) rfl rfl hl.1 rfl (Nat.le_of_ble_eq_true rfl) dL_law_922 ⟨(show cells + 1 + 0 ≤ 601024 by omega), (show slots + 6 + 0 ≤ 7293034 by omega)⟩ (k' := cells + 1 + 0) (n' := slots + 6 + 0) rfl rfl (fun H locs hW => ?_)
  have hW := cy_swap' hW
  refine lv_iload hx hb dL_law_925 (lv_at hl 1 rfl) ?_
  refine lv_icmp_eq (tgt := 932) hx hb dL_law_927 (by decide) (fun _ => ?_) (fun cn => absurd (u1.symm.trans e5.symm) cn)
  refine lv_iload hx hb dL_law_932 (lv_at hl 1 rfl) ?_
  refine lv_if_ne (tgt := 949) hx hb dL_law_934 (by decide) (fun _ => ?_) (fun c0 => ?_)
  · refine lv_goto (tgt := 1267) hx hb dL_law_949 (by decide) ?_
    exact E _ _ _ _ _ _ _ _ _ (by omega) (by omega) u3 hW (lv_sub hl [2, 3, 4, 5, 6] rfl)
  · have hth := cy_cd_0 (e5.symm.trans c0)
    refine lv_aload_n hx hb dL_law_937 rfl (lv_at hl 5 rfl) ?_
    refine lv_iconst (v := 0) hx hb dL_law_938 (by decide) ?_
    refine cy_tlald hC 0 ao hW 1 (i := 0) rfl rfl (by decide) (by decide) dL_law_939 ?_
    refine lv_iload hx hb dL_law_940 (lv_at hl 0 rfl) ?_
    refine lv_i2l hx hb dL_law_942 rfl ?_
    refine W.lcmp hx hb dL_law_943 ?_
    refine lv_if_eq (tgt := 949) hx hb dL_law_944 (by decide) (fun _ => ?_) (fun cn => absurd (lw_cmp hth ((u2 hth).trans e6.symm)) cn)
    refine lv_goto (tgt := 1267) hx hb dL_law_949 (by decide) ?_
    exact E _ _ _ _ _ _ _ _ _ (by omega) (by omega) u3 hW (lv_sub hl [2, 3, 4, 5, 6] rfl)
set_option maxHeartbeats 4000000 in
set_option maxRecDepth 100000 in
theorem a_pass (I : lw_In p l e s m c b L xs D kI kJ kZ kC) (E : lw_E p l e s m below meth c b D kI kJ kZ kC ad ad2 ao k cells slots) (hk : 4 * k + 4 ≤ L) (hL : L ≤ 2048) (hcs : cells + 300 ≤ 601024 ∧ slots + 2000 ≤ 7293034) (h : Rel S M ns no nc mo k) (hfr : R_fr S M nc) (hW : cy_W D (lw_A s) s.heap (cy_Y kI kJ kC ad S Z ((ao, .inl (kJ, 1, .inr (.inl g))) :: cy_Mw kI kZ ad2 M [])) H locs) (hl : lv_has ls 9 [(0, .ref b), (1, .ref (ad 0)), (2, .ref (ad2 0)), (3, .ref ao), (4, .int (nI (4 * k)))]) : W p l e room_1 s m #[Value.ref b] below meth c H locs cells slots (lw_Z below #[Value.ref b] s) (F0 m 952 ls []) := by
  obtain ⟨hC, hTh, hNx, hX, hbl, hl0⟩ := I
  have hx := hC.1.1; have hb := hC.1.2.1; have hml := hC.1.2.2.1; have hown := hC.1.2.2.2.1; have hts := hC.1.2.2.2.2
  have hbA : ¬ lw_A s b := Nat.not_le.mpr hbl
  obtain ⟨u1, u2, u3⟩ := u_pass (x := (xs (4 * k + 1))) (by omega) h hfr
  refine lv_aload_n hx hb dL_law_952 rfl (lv_at hl 1 rfl) ?_
  refine lv_aload_n hx hb dL_law_953 rfl (lv_at hl 0 rfl) ?_
  refine lv_iload hx hb dL_law_954 (lv_at hl 4 rfl) ?_
  refine lv_iconst (v := 1) hx hb dL_law_956 (by decide) ?_
  refine lv_iadd hx hb dL_law_957 ?_
  refine cy_top (y := nI (4 * k + 1)) (nI_add (4 * k) 1) ?_
  refine va_sld hx hb hX hbl hbA hW.2.2 (vp_in_nI (by omega) (by omega)) dL_law_958 ?_
  refine cy_top (y := xs (4 * k + 1)) (by rw [nI_clamp (by omega)]) ?_
  refine lv_aload_n hx hb dL_law_959 rfl (lv_at hl 3 rfl) ?_
  refine cy_callSV (rm := rm_L_pass) hl0 hTh hNx (As := [.ref (ad 0), .int (xs (4 * k + 1)), .ref ao]) (rest := []) hC.1 hC.2.1 hC.2.2 hW (c_L_pass (x := (xs (4 * k + 1))) h.1.1.1 h.1.1.2.2 h.1.2.2.1.1 h.1.2.2.1.2.2) (vx_cwSW 3 hts gL_law_L_pass rfl rfl rfl (by decide +kernel) ⟨Nat.le_of_ble_eq_true rfl, Nat.le_of_ble_eq_true rfl⟩) rfl hl.1 rfl (Nat.le_of_ble_eq_true rfl) dL_law_960 ⟨(show cells + 1 ≤ 601024 by omega), (show slots + 6 ≤ 7293034 by omega)⟩ (k' := cells + 1) (n' := slots + 6) rfl rfl (fun H locs hW => ?_)
  refine lv_topi (fun v5 e5 => ?_)
  refine lv_istore (lv' := [(5, .int v5), (0, .ref b), (1, .ref (ad 0)), (2, .ref (ad2 0)), (3, .ref ao), (4, .int (nI (4 * k)))]) hx hb dL_law_963 hl (by decide) rfl (fun ls hl => ?_)
  have hW := cy_swap hW
  refine lv_aload_n hx hb dL_law_965 rfl (lv_at hl 3 rfl) ?_
  refine lv_aload_n hx hb dL_law_966 rfl (lv_at hl 1 rfl) ?_
  refine lv_iload hx hb dL_law_967 (lv_at hl 5 rfl) ?_
  refine lv_iconst (v := 1) hx hb dL_law_969 (by decide) ?_
  refine lv_iadd hx hb dL_law_970 ?_
  refine cy_top (y := nI (4 * k + 1)) (nI_add (4 * k) 1) ?_
  refine va_sld hx hb hX hbl hbA hW.2.2 (vp_in_nI (by omega) (by omega)) dL_law_971 ?_
  refine cy_top (y := xs (4 * k + 1)) (by rw [nI_clamp (by omega)]) ?_
  refine cy_callV (rm := rm_X3_pass_) (As := [.int (xs (4 * k + 1))]) (rest := []) (q0 := 0) (ci := 3) hC.1 hC.2.1 hC.2.2 hW (c_X3_pass_ (x := (xs (4 * k + 1))) h.1.1.2.1 h.1.1.2.2 h.1.2.2.1.2.1 h.1.2.2.1.2.2 h.ok) (cwV 1 hts gL_law_X3_pass_ rfl rfl rfl (by decide +kernel) ⟨Nat.le_of_ble_eq_true rfl, Nat.le_of_ble_eq_true rfl⟩) (cy_w_at (by decide) rfl) rfl rfl hl.1 rfl (Nat.le_of_ble_eq_true rfl) dL_law_972 ⟨(show cells + 1 + 0 ≤ 601024 by omega), (show slots + 6 + 0 ≤ 7293034 by omega)⟩ (k' := cells + 1 + 0) (n' := slots + 6 + 0) rfl rfl (fun H locs hW => ?_)
  refine lv_topi (fun v6 e6 => ?_)
  refine lv_istore (lv' := [(6, .int v6), (5, .int v5), (0, .ref b), (1, .ref (ad 0)), (2, .ref (ad2 0)), (3, .ref ao), (4, .int (nI (4 * k)))]) hx hb dL_law_975 hl (by decide) rfl (fun ls hl => ?_)
  refine lv_aload_n hx hb dL_law_977 rfl (lv_at hl 4 rfl) ?_
  refine cy_callV (rm := rm_X3_thrown) (As := []) (rest := []) (q0 := 0) (ci := 3) hC.1 hC.2.1 hC.2.2 hW c_X3_thrown (cwV 0 hts gL_law_X3_thrown rfl rfl rfl (by decide +kernel) ⟨Nat.le_of_ble_eq_true rfl, Nat.le_of_ble_eq_true rfl⟩) (cy_w_at (by decide) rfl) rfl rfl hl.1 rfl (Nat.le_of_ble_eq_true rfl) dL_law_978 ⟨(show cells + 1 + 0 ≤ 601024 by omega), (show slots + 6 + 0 ≤ 7293034 by omega)⟩ (k' := cells + 1 + 0) (n' := slots + 6 + 0) rfl rfl (fun H locs hW => ?_)
  have hW := cy_swap' hW
  refine lv_iload hx hb dL_law_981 (lv_at hl 1 rfl) ?_
  refine lv_icmp_eq (tgt := 988) hx hb dL_law_983 (by decide) (fun _ => ?_) (fun cn => absurd (u1.symm.trans e5.symm) cn)
  refine lv_iload hx hb dL_law_988 (lv_at hl 1 rfl) ?_
  refine lv_if_ne (tgt := 1005) hx hb dL_law_990 (by decide) (fun _ => ?_) (fun c0 => ?_)
  · refine lv_goto (tgt := 1267) hx hb dL_law_1005 (by decide) ?_
    exact E _ _ _ _ _ _ _ _ _ (by omega) (by omega) u3 hW (lv_sub hl [2, 3, 4, 5, 6] rfl)
  · have hth := cy_cd_0 (e5.symm.trans c0)
    refine lv_aload_n hx hb dL_law_993 rfl (lv_at hl 5 rfl) ?_
    refine lv_iconst (v := 0) hx hb dL_law_994 (by decide) ?_
    refine cy_tlald hC 0 ao hW 1 (i := 0) rfl rfl (by decide) (by decide) dL_law_995 ?_
    refine lv_iload hx hb dL_law_996 (lv_at hl 0 rfl) ?_
    refine lv_i2l hx hb dL_law_998 rfl ?_
    refine W.lcmp hx hb dL_law_999 ?_
    refine lv_if_eq (tgt := 1005) hx hb dL_law_1000 (by decide) (fun _ => ?_) (fun cn => absurd (lw_cmp hth ((u2 hth).trans e6.symm)) cn)
    refine lv_goto (tgt := 1267) hx hb dL_law_1005 (by decide) ?_
    exact E _ _ _ _ _ _ _ _ _ (by omega) (by omega) u3 hW (lv_sub hl [2, 3, 4, 5, 6] rfl)
set_option maxHeartbeats 4000000 in
set_option maxRecDepth 100000 in
theorem a_count (I : lw_In p l e s m c b L xs D kI kJ kZ kC) (E : lw_E p l e s m below meth c b D kI kJ kZ kC ad ad2 ao k cells slots) (hk : 4 * k + 4 ≤ L) (hL : L ≤ 2048) (hcs : cells + 300 ≤ 601024 ∧ slots + 2000 ≤ 7293034) (h : Rel S M ns no nc mo k) (hfr : R_fr S M nc) (hW : cy_W D (lw_A s) s.heap (cy_Y kI kJ kC ad S Z ((ao, .inl (kJ, 1, .inr (.inl g))) :: cy_Mw kI kZ ad2 M [])) H locs) (hl : lv_has ls 9 [(0, .ref b), (1, .ref (ad 0)), (2, .ref (ad2 0)), (3, .ref ao), (4, .int (nI (4 * k)))]) : W p l e room_1 s m #[Value.ref b] below meth c H locs cells slots (lw_Z below #[Value.ref b] s) (F0 m 1008 ls []) := by
  obtain ⟨hC, hTh, hNx, hX, hbl, hl0⟩ := I
  have hx := hC.1.1; have hb := hC.1.2.1; have hml := hC.1.2.2.1; have hown := hC.1.2.2.2.1; have hts := hC.1.2.2.2.2
  have hbA : ¬ lw_A s b := Nat.not_le.mpr hbl
  obtain ⟨u1, u2, u3⟩ := u_count (x := (xs (4 * k + 1))) h hfr
  refine lv_aload_n hx hb dL_law_1008 rfl (lv_at hl 1 rfl) ?_
  refine lv_aload_n hx hb dL_law_1009 rfl (lv_at hl 0 rfl) ?_
  refine lv_iload hx hb dL_law_1010 (lv_at hl 4 rfl) ?_
  refine lv_iconst (v := 1) hx hb dL_law_1012 (by decide) ?_
  refine lv_iadd hx hb dL_law_1013 ?_
  refine cy_top (y := nI (4 * k + 1)) (nI_add (4 * k) 1) ?_
  refine va_sld hx hb hX hbl hbA hW.2.2 (vp_in_nI (by omega) (by omega)) dL_law_1014 ?_
  refine cy_top (y := xs (4 * k + 1)) (by rw [nI_clamp (by omega)]) ?_
  refine lv_aload_n hx hb dL_law_1015 rfl (lv_at hl 3 rfl) ?_
  refine cy_callSV (rm := rm_L_count) hl0 hTh hNx (As := [.ref (ad 0), .int (xs (4 * k + 1)), .ref ao]) (rest := []) hC.1 hC.2.1 hC.2.2 hW (c_L_count (x := (xs (4 * k + 1))) h.1.1.1 h.1.1.2.2 h.1.2.2.1.1 h.1.2.2.1.2.2) (vx_cwSW 3 hts gL_law_L_count rfl rfl rfl (by decide +kernel) ⟨Nat.le_of_ble_eq_true rfl, Nat.le_of_ble_eq_true rfl⟩) rfl hl.1 rfl (Nat.le_of_ble_eq_true rfl) dL_law_1016 ⟨(show cells + 1 ≤ 601024 by omega), (show slots + 6 ≤ 7293034 by omega)⟩ (k' := cells + 1) (n' := slots + 6) rfl rfl (fun H locs hW => ?_)
  refine lv_topi (fun v5 e5 => ?_)
  refine lv_istore (lv' := [(5, .int v5), (0, .ref b), (1, .ref (ad 0)), (2, .ref (ad2 0)), (3, .ref ao), (4, .int (nI (4 * k)))]) hx hb dL_law_1019 hl (by decide) rfl (fun ls hl => ?_)
  have hW := cy_swap hW
  refine lv_aload_n hx hb dL_law_1021 rfl (lv_at hl 3 rfl) ?_
  refine lv_aload_n hx hb dL_law_1022 rfl (lv_at hl 1 rfl) ?_
  refine lv_iload hx hb dL_law_1023 (lv_at hl 5 rfl) ?_
  refine lv_iconst (v := 1) hx hb dL_law_1025 (by decide) ?_
  refine lv_iadd hx hb dL_law_1026 ?_
  refine cy_top (y := nI (4 * k + 1)) (nI_add (4 * k) 1) ?_
  refine va_sld hx hb hX hbl hbA hW.2.2 (vp_in_nI (by omega) (by omega)) dL_law_1027 ?_
  refine cy_top (y := xs (4 * k + 1)) (by rw [nI_clamp (by omega)]) ?_
  refine cy_callV (rm := rm_X3_count) (As := [.int (xs (4 * k + 1))]) (rest := []) (q0 := 0) (ci := 3) hC.1 hC.2.1 hC.2.2 hW (c_X3_count (x := (xs (4 * k + 1))) h.1.1.2.1 h.1.1.2.2 h.1.2.2.1.2.1 h.1.2.2.1.2.2) (cwV 1 hts gL_law_X3_count rfl rfl rfl (by decide +kernel) ⟨Nat.le_of_ble_eq_true rfl, Nat.le_of_ble_eq_true rfl⟩) (cy_w_at (by decide) rfl) rfl rfl hl.1 rfl (Nat.le_of_ble_eq_true rfl) dL_law_1028 ⟨(show cells + 1 + 1 ≤ 601024 by omega), (show slots + 6 + 10 ≤ 7293034 by omega)⟩ (k' := cells + 1 + 1) (n' := slots + 6 + 10) rfl rfl (fun H locs hW => ?_)
  refine lv_topi (fun v6 e6 => ?_)
  refine lv_istore (lv' := [(6, .int v6), (5, .int v5), (0, .ref b), (1, .ref (ad 0)), (2, .ref (ad2 0)), (3, .ref ao), (4, .int (nI (4 * k)))]) hx hb dL_law_1031 hl (by decide) rfl (fun ls hl => ?_)
  refine lv_aload_n hx hb dL_law_1033 rfl (lv_at hl 4 rfl) ?_
  refine cy_callV (rm := rm_X3_thrown) (As := []) (rest := []) (q0 := 0) (ci := 3) hC.1 hC.2.1 hC.2.2 hW c_X3_thrown (cwV 0 hts gL_law_X3_thrown rfl rfl rfl (by decide +kernel) ⟨Nat.le_of_ble_eq_true rfl, Nat.le_of_ble_eq_true rfl⟩) (cy_w_at (by decide) rfl) rfl rfl hl.1 rfl (Nat.le_of_ble_eq_true rfl) dL_law_1034 ⟨(show cells + 1 + 1 ≤ 601024 by omega), (show slots + 6 + 10 ≤ 7293034 by omega)⟩ (k' := cells + 1 + 1) (n' := slots + 6 + 10) rfl rfl (fun H locs hW => ?_)
  have hW := cy_swap' hW
  refine lv_iload hx hb dL_law_1037 (lv_at hl 1 rfl) ?_
  refine lv_icmp_eq (tgt := 1044) hx hb dL_law_1039 (by decide) (fun _ => ?_) (fun cn => absurd (u1.symm.trans e5.symm) cn)
  refine lv_iload hx hb dL_law_1044 (lv_at hl 1 rfl) ?_
  refine lv_if_ne (tgt := 1061) hx hb dL_law_1046 (by decide) (fun _ => ?_) (fun c0 => ?_)
  · refine lv_goto (tgt := 1267) hx hb dL_law_1061 (by decide) ?_
    exact E _ _ _ _ _ _ _ _ _ (by omega) (by omega) u3 hW (lv_sub hl [2, 3, 4, 5, 6] rfl)
  · have hth := cy_cd_0 (e5.symm.trans c0)
    refine lv_aload_n hx hb dL_law_1049 rfl (lv_at hl 5 rfl) ?_
    refine lv_iconst (v := 0) hx hb dL_law_1050 (by decide) ?_
    refine cy_tlald hC 0 ao hW 1 (i := 0) rfl rfl (by decide) (by decide) dL_law_1051 ?_
    refine lv_iload hx hb dL_law_1052 (lv_at hl 0 rfl) ?_
    refine lv_i2l hx hb dL_law_1054 rfl ?_
    refine W.lcmp hx hb dL_law_1055 ?_
    refine lv_if_eq (tgt := 1061) hx hb dL_law_1056 (by decide) (fun _ => ?_) (fun cn => absurd (lw_cmp hth ((u2 hth).trans e6.symm)) cn)
    refine lv_goto (tgt := 1267) hx hb dL_law_1061 (by decide) ?_
    exact E _ _ _ _ _ _ _ _ _ (by omega) (by omega) u3 hW (lv_sub hl [2, 3, 4, 5, 6] rfl)
set_option maxHeartbeats 4000000 in
set_option maxRecDepth 100000 in
theorem a_foresee (I : lw_In p l e s m c b L xs D kI kJ kZ kC) (E : lw_E p l e s m below meth c b D kI kJ kZ kC ad ad2 ao k cells slots) (hk : 4 * k + 4 ≤ L) (hL : L ≤ 2048) (hcs : cells + 300 ≤ 601024 ∧ slots + 2000 ≤ 7293034) (h : Rel S M ns no nc mo k) (hfr : R_fr S M nc) (hW : cy_W D (lw_A s) s.heap (cy_Y kI kJ kC ad S Z ((ao, .inl (kJ, 1, .inr (.inl g))) :: cy_Mw kI kZ ad2 M [])) H locs) (hl : lv_has ls 9 [(0, .ref b), (1, .ref (ad 0)), (2, .ref (ad2 0)), (3, .ref ao), (4, .int (nI (4 * k)))]) : W p l e room_1 s m #[Value.ref b] below meth c H locs cells slots (lw_Z below #[Value.ref b] s) (F0 m 1064 ls []) := by
  obtain ⟨hC, hTh, hNx, hX, hbl, hl0⟩ := I
  have hx := hC.1.1; have hb := hC.1.2.1; have hml := hC.1.2.2.1; have hown := hC.1.2.2.2.1; have hts := hC.1.2.2.2.2
  have hbA : ¬ lw_A s b := Nat.not_le.mpr hbl
  obtain ⟨u1, u2, u3⟩ := u_foresee (x := (xs (4 * k + 1))) (y := (xs (4 * k + 2))) (z := (xs (4 * k + 3))) (by omega) h hfr
  refine lv_aload_n hx hb dL_law_1064 rfl (lv_at hl 1 rfl) ?_
  refine lv_aload_n hx hb dL_law_1065 rfl (lv_at hl 0 rfl) ?_
  refine lv_iload hx hb dL_law_1066 (lv_at hl 4 rfl) ?_
  refine lv_iconst (v := 1) hx hb dL_law_1068 (by decide) ?_
  refine lv_iadd hx hb dL_law_1069 ?_
  refine cy_top (y := nI (4 * k + 1)) (nI_add (4 * k) 1) ?_
  refine va_sld hx hb hX hbl hbA hW.2.2 (vp_in_nI (by omega) (by omega)) dL_law_1070 ?_
  refine cy_top (y := xs (4 * k + 1)) (by rw [nI_clamp (by omega)]) ?_
  refine lv_aload_n hx hb dL_law_1071 rfl (lv_at hl 0 rfl) ?_
  refine lv_iload hx hb dL_law_1072 (lv_at hl 4 rfl) ?_
  refine lv_iconst (v := 2) hx hb dL_law_1074 (by decide) ?_
  refine lv_iadd hx hb dL_law_1075 ?_
  refine cy_top (y := nI (4 * k + 2)) (nI_add (4 * k) 2) ?_
  refine va_sld hx hb hX hbl hbA hW.2.2 (vp_in_nI (by omega) (by omega)) dL_law_1076 ?_
  refine cy_top (y := xs (4 * k + 2)) (by rw [nI_clamp (by omega)]) ?_
  refine lv_aload_n hx hb dL_law_1077 rfl (lv_at hl 0 rfl) ?_
  refine lv_iload hx hb dL_law_1078 (lv_at hl 4 rfl) ?_
  refine lv_iconst (v := 3) hx hb dL_law_1080 (by decide) ?_
  refine lv_iadd hx hb dL_law_1081 ?_
  refine cy_top (y := nI (4 * k + 3)) (nI_add (4 * k) 3) ?_
  refine va_sld hx hb hX hbl hbA hW.2.2 (vp_in_nI (by omega) (by omega)) dL_law_1082 ?_
  refine cy_top (y := xs (4 * k + 3)) (by rw [nI_clamp (by omega)]) ?_
  refine lv_aload_n hx hb dL_law_1083 rfl (lv_at hl 3 rfl) ?_
  refine cy_callSV (rm := rm_L_foresee) hl0 hTh hNx (As := [.ref (ad 0), .int (xs (4 * k + 1)), .int (xs (4 * k + 2)), .int (xs (4 * k + 3)), .ref ao]) (rest := []) hC.1 hC.2.1 hC.2.2 hW (c_L_foresee (x := (xs (4 * k + 1))) (y := (xs (4 * k + 2))) (z := (xs (4 * k + 3))) h.1.2.2.1.1 h.1.2.2.1.2.2 h.b2) (vx_cwSW 5 hts gL_law_L_foresee rfl rfl rfl (by decide +kernel) ⟨Nat.le_of_ble_eq_true rfl, Nat.le_of_ble_eq_true rfl⟩) rfl hl.1 rfl (Nat.le_of_ble_eq_true rfl) dL_law_1084 ⟨(show cells + 1 ≤ 601024 by omega), (show slots + 6 ≤ 7293034 by omega)⟩ (k' := cells + 1) (n' := slots + 6) rfl rfl (fun H locs hW => ?_)
  refine lv_topi (fun v5 e5 => ?_)
  refine lv_istore (lv' := [(5, .int v5), (0, .ref b), (1, .ref (ad 0)), (2, .ref (ad2 0)), (3, .ref ao), (4, .int (nI (4 * k)))]) hx hb dL_law_1087 hl (by decide) rfl (fun ls hl => ?_)
  have hW := cy_swap hW
  refine lv_aload_n hx hb dL_law_1089 rfl (lv_at hl 3 rfl) ?_
  refine lv_aload_n hx hb dL_law_1090 rfl (lv_at hl 1 rfl) ?_
  refine lv_iload hx hb dL_law_1091 (lv_at hl 5 rfl) ?_
  refine lv_iconst (v := 1) hx hb dL_law_1093 (by decide) ?_
  refine lv_iadd hx hb dL_law_1094 ?_
  refine cy_top (y := nI (4 * k + 1)) (nI_add (4 * k) 1) ?_
  refine va_sld hx hb hX hbl hbA hW.2.2 (vp_in_nI (by omega) (by omega)) dL_law_1095 ?_
  refine cy_top (y := xs (4 * k + 1)) (by rw [nI_clamp (by omega)]) ?_
  refine lv_aload_n hx hb dL_law_1096 rfl (lv_at hl 1 rfl) ?_
  refine lv_iload hx hb dL_law_1097 (lv_at hl 5 rfl) ?_
  refine lv_iconst (v := 2) hx hb dL_law_1099 (by decide) ?_
  refine lv_iadd hx hb dL_law_1100 ?_
  refine cy_top (y := nI (4 * k + 2)) (nI_add (4 * k) 2) ?_
  refine va_sld hx hb hX hbl hbA hW.2.2 (vp_in_nI (by omega) (by omega)) dL_law_1101 ?_
  refine cy_top (y := xs (4 * k + 2)) (by rw [nI_clamp (by omega)]) ?_
  refine lv_aload_n hx hb dL_law_1102 rfl (lv_at hl 1 rfl) ?_
  refine lv_iload hx hb dL_law_1103 (lv_at hl 5 rfl) ?_
  refine lv_iconst (v := 3) hx hb dL_law_1105 (by decide) ?_
  refine lv_iadd hx hb dL_law_1106 ?_
  refine cy_top (y := nI (4 * k + 3)) (nI_add (4 * k) 3) ?_
  refine va_sld hx hb hX hbl hbA hW.2.2 (vp_in_nI (by omega) (by omega)) dL_law_1107 ?_
  refine cy_top (y := xs (4 * k + 3)) (by rw [nI_clamp (by omega)]) ?_
  refine cy_callV (rm := rm_X3_foresee) (As := [.int (xs (4 * k + 1)), .int (xs (4 * k + 2)), .int (xs (4 * k + 3))]) (rest := []) (q0 := 0) (ci := 3) hC.1 hC.2.1 hC.2.2 hW (c_X3_foresee (x := (xs (4 * k + 1))) (y := (xs (4 * k + 2))) (z := (xs (4 * k + 3))) h.1.2.2.1.2.1 h.1.2.2.1.2.2 h.ok) (cwV 3 hts gL_law_X3_foresee rfl rfl rfl (by decide +kernel) ⟨Nat.le_of_ble_eq_true rfl, Nat.le_of_ble_eq_true rfl⟩) (cy_w_at (by decide) rfl) rfl rfl hl.1 rfl (Nat.le_of_ble_eq_true rfl) dL_law_1108 ⟨(show cells + 1 + 3 ≤ 601024 by omega), (show slots + 6 + 16 ≤ 7293034 by omega)⟩ (k' := cells + 1 + 3) (n' := slots + 6 + 16) rfl rfl (fun H locs hW => ?_)
  refine lv_topi (fun v6 e6 => ?_)
  refine lv_istore (lv' := [(6, .int v6), (5, .int v5), (0, .ref b), (1, .ref (ad 0)), (2, .ref (ad2 0)), (3, .ref ao), (4, .int (nI (4 * k)))]) hx hb dL_law_1111 hl (by decide) rfl (fun ls hl => ?_)
  refine lv_aload_n hx hb dL_law_1113 rfl (lv_at hl 4 rfl) ?_
  refine cy_callV (rm := rm_X3_thrown) (As := []) (rest := []) (q0 := 0) (ci := 3) hC.1 hC.2.1 hC.2.2 hW c_X3_thrown (cwV 0 hts gL_law_X3_thrown rfl rfl rfl (by decide +kernel) ⟨Nat.le_of_ble_eq_true rfl, Nat.le_of_ble_eq_true rfl⟩) (cy_w_at (by decide) rfl) rfl rfl hl.1 rfl (Nat.le_of_ble_eq_true rfl) dL_law_1114 ⟨(show cells + 1 + 3 ≤ 601024 by omega), (show slots + 6 + 16 ≤ 7293034 by omega)⟩ (k' := cells + 1 + 3) (n' := slots + 6 + 16) rfl rfl (fun H locs hW => ?_)
  have hW := cy_swap' hW
  refine lv_iload hx hb dL_law_1117 (lv_at hl 1 rfl) ?_
  refine lv_icmp_eq (tgt := 1124) hx hb dL_law_1119 (by decide) (fun _ => ?_) (fun cn => absurd (u1.symm.trans e5.symm) cn)
  refine lv_iload hx hb dL_law_1124 (lv_at hl 1 rfl) ?_
  refine lv_if_ne (tgt := 1141) hx hb dL_law_1126 (by decide) (fun _ => ?_) (fun c0 => ?_)
  · refine lv_goto (tgt := 1267) hx hb dL_law_1141 (by decide) ?_
    exact E _ _ _ _ _ _ _ _ _ (by omega) (by omega) u3 hW (lv_sub hl [2, 3, 4, 5, 6] rfl)
  · have hth := cy_cd_0 (e5.symm.trans c0)
    refine lv_aload_n hx hb dL_law_1129 rfl (lv_at hl 5 rfl) ?_
    refine lv_iconst (v := 0) hx hb dL_law_1130 (by decide) ?_
    refine cy_tlald hC 0 ao hW 1 (i := 0) rfl rfl (by decide) (by decide) dL_law_1131 ?_
    refine lv_iload hx hb dL_law_1132 (lv_at hl 0 rfl) ?_
    refine lv_i2l hx hb dL_law_1134 rfl ?_
    refine W.lcmp hx hb dL_law_1135 ?_
    refine lv_if_eq (tgt := 1141) hx hb dL_law_1136 (by decide) (fun _ => ?_) (fun cn => absurd (lw_cmp hth ((u2 hth).trans e6.symm)) cn)
    refine lv_goto (tgt := 1267) hx hb dL_law_1141 (by decide) ?_
    exact E _ _ _ _ _ _ _ _ _ (by omega) (by omega) u3 hW (lv_sub hl [2, 3, 4, 5, 6] rfl)
set_option maxHeartbeats 4000000 in
set_option maxRecDepth 100000 in
theorem a_blend (I : lw_In p l e s m c b L xs D kI kJ kZ kC) (E : lw_E p l e s m below meth c b D kI kJ kZ kC ad ad2 ao k cells slots) (hk : 4 * k + 4 ≤ L) (hL : L ≤ 2048) (hcs : cells + 300 ≤ 601024 ∧ slots + 2000 ≤ 7293034) (h : Rel S M ns no nc mo k) (hfr : R_fr S M nc) (hW : cy_W D (lw_A s) s.heap (cy_Y kI kJ kC ad S Z ((ao, .inl (kJ, 1, .inr (.inl g))) :: cy_Mw kI kZ ad2 M [])) H locs) (hl : lv_has ls 9 [(0, .ref b), (1, .ref (ad 0)), (2, .ref (ad2 0)), (3, .ref ao), (4, .int (nI (4 * k)))]) : W p l e room_1 s m #[Value.ref b] below meth c H locs cells slots (lw_Z below #[Value.ref b] s) (F0 m 1144 ls []) := by
  obtain ⟨hC, hTh, hNx, hX, hbl, hl0⟩ := I
  have hx := hC.1.1; have hb := hC.1.2.1; have hml := hC.1.2.2.1; have hown := hC.1.2.2.2.1; have hts := hC.1.2.2.2.2
  have hbA : ¬ lw_A s b := Nat.not_le.mpr hbl
  obtain ⟨u1, u2, u3⟩ := u_blend (x := (xs (4 * k + 1))) (y := (xs (4 * k + 2))) h hfr
  refine lv_aload_n hx hb dL_law_1144 rfl (lv_at hl 1 rfl) ?_
  refine lv_aload_n hx hb dL_law_1145 rfl (lv_at hl 0 rfl) ?_
  refine lv_iload hx hb dL_law_1146 (lv_at hl 4 rfl) ?_
  refine lv_iconst (v := 1) hx hb dL_law_1148 (by decide) ?_
  refine lv_iadd hx hb dL_law_1149 ?_
  refine cy_top (y := nI (4 * k + 1)) (nI_add (4 * k) 1) ?_
  refine va_sld hx hb hX hbl hbA hW.2.2 (vp_in_nI (by omega) (by omega)) dL_law_1150 ?_
  refine cy_top (y := xs (4 * k + 1)) (by rw [nI_clamp (by omega)]) ?_
  refine lv_aload_n hx hb dL_law_1151 rfl (lv_at hl 0 rfl) ?_
  refine lv_iload hx hb dL_law_1152 (lv_at hl 4 rfl) ?_
  refine lv_iconst (v := 2) hx hb dL_law_1154 (by decide) ?_
  refine lv_iadd hx hb dL_law_1155 ?_
  refine cy_top (y := nI (4 * k + 2)) (nI_add (4 * k) 2) ?_
  refine va_sld hx hb hX hbl hbA hW.2.2 (vp_in_nI (by omega) (by omega)) dL_law_1156 ?_
  refine cy_top (y := xs (4 * k + 2)) (by rw [nI_clamp (by omega)]) ?_
  refine lv_aload_n hx hb dL_law_1157 rfl (lv_at hl 3 rfl) ?_
  refine cy_callSV (rm := rm_L_blend) hl0 hTh hNx (As := [.ref (ad 0), .int (xs (4 * k + 1)), .int (xs (4 * k + 2)), .ref ao]) (rest := []) hC.1 hC.2.1 hC.2.2 hW (c_L_blend (x := (xs (4 * k + 1))) (y := (xs (4 * k + 2))) h.1.2.2.1.1 h.1.2.2.1.2.2) (vx_cwSW 4 hts gL_law_L_blend rfl rfl rfl (by decide +kernel) ⟨Nat.le_of_ble_eq_true rfl, Nat.le_of_ble_eq_true rfl⟩) rfl hl.1 rfl (Nat.le_of_ble_eq_true rfl) dL_law_1158 ⟨(show cells + 1 ≤ 601024 by omega), (show slots + 6 ≤ 7293034 by omega)⟩ (k' := cells + 1) (n' := slots + 6) rfl rfl (fun H locs hW => ?_)
  refine lv_topi (fun v5 e5 => ?_)
  refine lv_istore (lv' := [(5, .int v5), (0, .ref b), (1, .ref (ad 0)), (2, .ref (ad2 0)), (3, .ref ao), (4, .int (nI (4 * k)))]) hx hb dL_law_1161 hl (by decide) rfl (fun ls hl => ?_)
  have hW := cy_swap hW
  refine lv_aload_n hx hb dL_law_1163 rfl (lv_at hl 3 rfl) ?_
  refine lv_aload_n hx hb dL_law_1164 rfl (lv_at hl 1 rfl) ?_
  refine lv_iload hx hb dL_law_1165 (lv_at hl 5 rfl) ?_
  refine lv_iconst (v := 1) hx hb dL_law_1167 (by decide) ?_
  refine lv_iadd hx hb dL_law_1168 ?_
  refine cy_top (y := nI (4 * k + 1)) (nI_add (4 * k) 1) ?_
  refine va_sld hx hb hX hbl hbA hW.2.2 (vp_in_nI (by omega) (by omega)) dL_law_1169 ?_
  refine cy_top (y := xs (4 * k + 1)) (by rw [nI_clamp (by omega)]) ?_
  refine lv_aload_n hx hb dL_law_1170 rfl (lv_at hl 1 rfl) ?_
  refine lv_iload hx hb dL_law_1171 (lv_at hl 5 rfl) ?_
  refine lv_iconst (v := 2) hx hb dL_law_1173 (by decide) ?_
  refine lv_iadd hx hb dL_law_1174 ?_
  refine cy_top (y := nI (4 * k + 2)) (nI_add (4 * k) 2) ?_
  refine va_sld hx hb hX hbl hbA hW.2.2 (vp_in_nI (by omega) (by omega)) dL_law_1175 ?_
  refine cy_top (y := xs (4 * k + 2)) (by rw [nI_clamp (by omega)]) ?_
  refine cy_callV (rm := rm_X3_blend) (As := [.int (xs (4 * k + 1)), .int (xs (4 * k + 2))]) (rest := []) (q0 := 0) (ci := 3) hC.1 hC.2.1 hC.2.2 hW (c_X3_blend (x := (xs (4 * k + 1))) (y := (xs (4 * k + 2))) h.1.2.2.1.2.1 h.1.2.2.1.2.2) (cwV 2 hts gL_law_X3_blend rfl rfl rfl (by decide +kernel) ⟨Nat.le_of_ble_eq_true rfl, Nat.le_of_ble_eq_true rfl⟩) (cy_w_at (by decide) rfl) rfl rfl hl.1 rfl (Nat.le_of_ble_eq_true rfl) dL_law_1176 ⟨(show cells + 1 + 1 ≤ 601024 by omega), (show slots + 6 + 4 ≤ 7293034 by omega)⟩ (k' := cells + 1 + 1) (n' := slots + 6 + 4) rfl rfl (fun H locs hW => ?_)
  refine lv_topi (fun v6 e6 => ?_)
  refine lv_istore (lv' := [(6, .int v6), (5, .int v5), (0, .ref b), (1, .ref (ad 0)), (2, .ref (ad2 0)), (3, .ref ao), (4, .int (nI (4 * k)))]) hx hb dL_law_1179 hl (by decide) rfl (fun ls hl => ?_)
  refine lv_aload_n hx hb dL_law_1181 rfl (lv_at hl 4 rfl) ?_
  refine cy_callV (rm := rm_X3_thrown) (As := []) (rest := []) (q0 := 0) (ci := 3) hC.1 hC.2.1 hC.2.2 hW c_X3_thrown (cwV 0 hts gL_law_X3_thrown rfl rfl rfl (by decide +kernel) ⟨Nat.le_of_ble_eq_true rfl, Nat.le_of_ble_eq_true rfl⟩) (cy_w_at (by decide) rfl) rfl rfl hl.1 rfl (Nat.le_of_ble_eq_true rfl) dL_law_1182 ⟨(show cells + 1 + 1 ≤ 601024 by omega), (show slots + 6 + 4 ≤ 7293034 by omega)⟩ (k' := cells + 1 + 1) (n' := slots + 6 + 4) rfl rfl (fun H locs hW => ?_)
  have hW := cy_swap' hW
  refine lv_iload hx hb dL_law_1185 (lv_at hl 1 rfl) ?_
  refine lv_icmp_eq (tgt := 1192) hx hb dL_law_1187 (by decide) (fun _ => ?_) (fun cn => absurd (u1.symm.trans e5.symm) cn)
  refine lv_iload hx hb dL_law_1192 (lv_at hl 1 rfl) ?_
  refine lv_if_ne (tgt := 1209) hx hb dL_law_1194 (by decide) (fun _ => ?_) (fun c0 => ?_)
  · refine lv_goto (tgt := 1267) hx hb dL_law_1209 (by decide) ?_
    exact E _ _ _ _ _ _ _ _ _ (by omega) (by omega) u3 hW (lv_sub hl [2, 3, 4, 5, 6] rfl)
  · have hth := cy_cd_0 (e5.symm.trans c0)
    refine lv_aload_n hx hb dL_law_1197 rfl (lv_at hl 5 rfl) ?_
    refine lv_iconst (v := 0) hx hb dL_law_1198 (by decide) ?_
    refine cy_tlald hC 0 ao hW 1 (i := 0) rfl rfl (by decide) (by decide) dL_law_1199 ?_
    refine lv_iload hx hb dL_law_1200 (lv_at hl 0 rfl) ?_
    refine lv_i2l hx hb dL_law_1202 rfl ?_
    refine W.lcmp hx hb dL_law_1203 ?_
    refine lv_if_eq (tgt := 1209) hx hb dL_law_1204 (by decide) (fun _ => ?_) (fun cn => absurd (lw_cmp hth ((u2 hth).trans e6.symm)) cn)
    refine lv_goto (tgt := 1267) hx hb dL_law_1209 (by decide) ?_
    exact E _ _ _ _ _ _ _ _ _ (by omega) (by omega) u3 hW (lv_sub hl [2, 3, 4, 5, 6] rfl)
end Arms
