abbrev rm_J7_fill_d0a16 : Room := { frames := 0, cells := 0, slots := 0, locals := 0 }
set_option maxHeartbeats 4000000 in
set_option maxRecDepth 100000 in
theorem c_J7_fill_d0a16 {l : Launch} {D : va_G} {kI kJ kZ kC : ClassId} {ad : Nat → Nat} {S : Nat → Nat → Int32} {tl : va_W} {Z : Nat → Int64} {v : Int64} : cy_M l yJ7_fill_d0a16 wsJ7_fill_d0a16 rm_J7_fill_d0a16 D (cy_tys kI kJ kZ kC) [.ref (ad 8), .long v] (cy_Y kI kJ kC ad S Z tl) none (cy_Y kI kJ kC ad S (cy_flL Z v 1505) tl) := by
  refine cy_of (own := RJ7) (cc := cJ7_fill_d0a16) (maxL := 5) (ret := none) (i := .return_) (by decide) rfl rfl (Nat.le_of_ble_eq_true rfl) cy_endV ?_
  intro p e s m args below meth co Q A ls hC hE hW hl
  have hx := hC.1.1; have hb := hC.1.2.1; have hml := hC.1.2.2.1; have hown := hC.1.2.2.2.1; have hts := hC.1.2.2.2.2
  have hl : lv_has ls 5 [(0, .ref (ad 8)), (1, .long v)] := hl
  refine lv_iconst (v := 0) hx hb dJ7_fill_d0a16_0 (by decide) ?_
  refine lv_istore_n (lv' := [(3, .int 0), (0, .ref (ad 8)), (1, .long v)]) hx hb dJ7_fill_d0a16_1 rfl hl (by decide) rfl (fun ls hl => ?_)
  refine lv_aload_n hx hb dJ7_fill_d0a16_2 rfl (lv_at hl 1 rfl) ?_
  refine cy_alenL hC (8) (by decide) hW 1 (rfl) rfl dJ7_fill_d0a16_3 ?_
  refine lv_istore (lv' := [(4, .int (nI 1505)), (3, .int 0), (0, .ref (ad 8)), (1, .long v)]) hx hb dJ7_fill_d0a16_4 hl (by decide) rfl (fun ls hl => ?_)
  have L_6 : ∀ (fu : Nat) (i : Nat), 1505 - i < fu → (i ≤ 1505) → ∀ (H : Heap) (locs : List Loc), cy_W D A s.heap (cy_Y kI kJ kC ad S (cy_flL Z v i) tl) H locs → ∀ (ls : Array Slot), lv_has ls 5 [(3, .int (nI i)), (4, .int (nI 1505)), (0, .ref (ad 8)), (1, .long v)] → W p l e rm_J7_fill_d0a16 s m args below meth co H locs 0 0 Q (F0 m 6 ls []) := by
    intro fu
    induction fu with
    | zero => intro i hn; exact absurd hn (Nat.not_lt_zero _)
    | succ fu ih_6 =>
      intro i hn_6 hi H locs hW ls hl
      refine lv_iload_n hx hb dJ7_fill_d0a16_6 rfl (lv_at hl 0 rfl) ?_
      refine lv_iload hx hb dJ7_fill_d0a16_7 (lv_at hl 1 rfl) ?_
      refine lv_icmp_ge (tgt := 22) hx hb dJ7_fill_d0a16_9 (by decide) (fun c_9 => ?_) (fun c_9 => ?_)
      · skip
        have q_9 := cy_le (a := 1505) (b := i) (by omega) (by omega) c_9
        obtain rfl : i = 1505 := by omega
        exact hE _ _ _ _ _ _ (Nat.le_of_ble_eq_true rfl) (Nat.le_of_ble_eq_true rfl) hW dJ7_fill_d0a16_22
      · skip
        have q_9 := cy_nle (a := 1505) (b := i) (by omega) (by omega) c_9
        refine lv_aload_n hx hb dJ7_fill_d0a16_12 rfl (lv_at hl 2 rfl) ?_
        refine lv_iload_n hx hb dJ7_fill_d0a16_13 rfl (lv_at hl 0 rfl) ?_
        refine lv_lload_n hx hb dJ7_fill_d0a16_14 rfl (lv_at hl 3 rfl) ?_
        refine cy_last hC 8 (by decide) hW 1 (i := i) rfl rfl (by omega) (by decide) cy_eY_Z dJ7_fill_d0a16_15 (fun H locs hW => ?_)
        refine lv_iinc (v := nI (i + 1)) (lv' := [(3, .int (nI (i + 1))), (4, .int (nI 1505)), (0, .ref (ad 8)), (1, .long v)]) hx hb dJ7_fill_d0a16_16 hl (k := 0) rfl (nI_1 i) (by decide) rfl (fun ls hl => ?_)
        refine lv_goto (tgt := 6) hx hb dJ7_fill_d0a16_19 (by decide) ?_
        rw [cy_flL_s] at hW
        exact ih_6 (i + 1) (by omega) (by omega) _ _ hW _ (lv_sub hl [0, 1, 2, 3] rfl)
  have hW := cy_castZ (show Z = cy_flL Z v 0 from cy_flL_0.symm) hW
  exact L_6 ((1505 - 0) + 1) 0 (Nat.lt_succ_self _) (by omega) _ _ hW _ (lv_sub hl [1, 0, 2, 3] rfl)
abbrev rm_X2_addToSets : Room := { frames := 0, cells := 0, slots := 0, locals := 0 }
set_option maxHeartbeats 4000000 in
set_option maxRecDepth 100000 in
theorem c_X2_addToSets {l : Launch} {D : va_G} {kI kJ kZ kC : ClassId} {ad : Nat → Nat} {S : Nat → Nat → Int32} {tl : va_W} {Z : Nat → Int64} {i mx w : Nat} (hi : i < 60) (hw : S 1 i = nI w) (hw1 : 1 ≤ w) (hwm : w ≤ mx) (hm : mx ≤ 1504) : cy_M l yX2_addToSets wsX2_addToSets rm_X2_addToSets D (cy_tys kI kJ kZ kC) [.ref (ad 0), .int (nI i), .int (nI mx)] (cy_Y kI kJ kC ad S Z tl) none (cy_Y kI kJ kC ad (va_up S 9 ((cy_ad (S 9) Z w i mx (mx + 1 - w)).1)) ((cy_ad (S 9) Z w i mx (mx + 1 - w)).2) tl) := by
  refine cy_of (own := RX2) (cc := cX2_addToSets) (maxL := 6) (ret := none) (i := .return_) (by decide) rfl rfl (Nat.le_of_ble_eq_true rfl) cy_endV ?_
  intro p e s m args below meth co Q A ls hC hE hW hl
  have hx := hC.1.1; have hb := hC.1.2.1; have hml := hC.1.2.2.1; have hown := hC.1.2.2.2.1; have hts := hC.1.2.2.2.2
  have hl : lv_has ls 6 [(0, .ref (ad 0)), (1, .int (nI i)), (2, .int (nI mx))] := hl
  have hi2 : ∀ w ∈ u_ws RX2 TX2 17, w ∈ wsX2_addToSets := by decide +kernel
  refine lv_aload_n hx hb dX2_addToSets_0 rfl (lv_at hl 0 rfl) ?_
  refine cy_get hC (0) (by decide) hi2 hW (rfl) rfl 0 (by decide) (hts (.fieldLink RX2 9 "CaskYard" "widths" "[I") (by decide +kernel)) (fun _ h9 => h9) (v := .ref (ad 1)) rfl dX2_addToSets_1 ?_
  refine lv_iload_n hx hb dX2_addToSets_4 rfl (lv_at hl 1 rfl) ?_
  refine cy_iald hC (1) (by decide) hW 0 (i := i) (rfl) rfl (by omega) (by decide) dX2_addToSets_5 ?_
  refine cy_top (y := nI w) hw ?_
  refine lv_istore_n (lv' := [(3, .int (nI w)), (0, .ref (ad 0)), (1, .int (nI i)), (2, .int (nI mx))]) hx hb dX2_addToSets_6 rfl hl (by decide) rfl (fun ls hl => ?_)
  refine lv_iload_n hx hb dX2_addToSets_7 rfl (lv_at hl 3 rfl) ?_
  refine lv_istore (lv' := [(4, .int (nI mx)), (3, .int (nI w)), (0, .ref (ad 0)), (1, .int (nI i)), (2, .int (nI mx))]) hx hb dX2_addToSets_8 hl (by decide) rfl (fun ls hl => ?_)
  have L_10 : ∀ (fu : Nat) (t : Nat), mx + 1 - w - t < fu → (t ≤ mx + 1 - w) → ∀ (H : Heap) (locs : List Loc), cy_W D A s.heap (cy_Y kI kJ kC ad (va_up S 9 ((cy_ad (S 9) Z w i mx t).1)) ((cy_ad (S 9) Z w i mx t).2) tl) H locs → ∀ (ls : Array Slot), lv_has ls 6 [(3, .int (nI w)), (4, .int (nI (mx - t))), (0, .ref (ad 0)), (1, .int (nI i)), (2, .int (nI mx))] → W p l e rm_X2_addToSets s m args below meth co H locs 0 0 Q (F0 m 10 ls []) := by
    intro fu
    induction fu with
    | zero => intro t hn; exact absurd hn (Nat.not_lt_zero _)
    | succ fu ih_10 =>
      intro t hn_10 ht H locs hW ls hl
      refine lv_iload hx hb dX2_addToSets_10 (lv_at hl 1 rfl) ?_
      refine lv_iload_n hx hb dX2_addToSets_12 rfl (lv_at hl 0 rfl) ?_
      refine lv_icmp_lt (tgt := 76) hx hb dX2_addToSets_13 (by decide) (fun c_13 => ?_) (fun c_13 => ?_)
      · skip
        have q_13 := cy_lt (a := (mx - t)) (b := w) (by omega) (by omega) c_13
        obtain rfl : t = mx + 1 - w := by omega
        exact hE _ _ _ _ _ _ (Nat.le_of_ble_eq_true rfl) (Nat.le_of_ble_eq_true rfl) hW dX2_addToSets_76
      · skip
        have q_13 := cy_nlt (a := (mx - t)) (b := w) (by omega) (by omega) c_13
        refine lv_aload_n hx hb dX2_addToSets_16 rfl (lv_at hl 2 rfl) ?_
        refine cy_get hC (0) (by decide) hi2 hW (cy_rd (cy_un (by omega)) rfl) rfl 12 (by decide) (hts (.fieldLink RX2 43 "CaskYard" "sizes" "[I") (by decide +kernel)) (fun _ h9 => h9) (v := .ref (ad 9)) rfl dX2_addToSets_17 ?_
        refine lv_iload hx hb dX2_addToSets_20 (lv_at hl 1 rfl) ?_
        refine lv_iload_n hx hb dX2_addToSets_22 rfl (lv_at hl 0 rfl) ?_
        refine lv_isub hx hb dX2_addToSets_23 ?_
        refine cy_top (pk_sub (a := (mx - t)) (b := w) (by omega)) ?_
        refine cy_iald hC (9) (by decide) hW 0 (i := ((mx - t) - w)) (cy_rd (cy_us) rfl) rfl (by omega) (by decide) dX2_addToSets_24 ?_
        refine lv_iconst (v := 1) hx hb dX2_addToSets_25 (by decide) ?_
        refine lv_iadd hx hb dX2_addToSets_26 ?_
        refine lv_istore (lv' := [(5, .int ((((cy_ad (S 9) Z w i mx t).1) ((mx - t) - w)) + 1)), (3, .int (nI w)), (4, .int (nI (mx - t))), (0, .ref (ad 0)), (1, .int (nI i)), (2, .int (nI mx))]) hx hb dX2_addToSets_27 hl (by decide) rfl (fun ls hl => ?_)
        refine lv_iload hx hb dX2_addToSets_29 (lv_at hl 0 rfl) ?_
        refine lv_aload_n hx hb dX2_addToSets_31 rfl (lv_at hl 3 rfl) ?_
        refine cy_get hC (0) (by decide) hi2 hW (cy_rd (cy_un (by omega)) rfl) rfl 12 (by decide) (hts (.fieldLink RX2 43 "CaskYard" "sizes" "[I") (by decide +kernel)) (fun _ h9 => h9) (v := .ref (ad 9)) rfl dX2_addToSets_32 ?_
        refine lv_iload hx hb dX2_addToSets_35 (lv_at hl 2 rfl) ?_
        refine cy_iald hC (9) (by decide) hW 0 (i := (mx - t)) (cy_rd (cy_us) rfl) rfl (by omega) (by decide) dX2_addToSets_37 ?_
        refine lv_icmp_gt (tgt := 70) hx hb dX2_addToSets_38 (by decide) (fun c_38 => ?_) (fun c_38 => ?_)
        · skip
          refine lv_iinc (v := nI (mx - (t + 1))) (lv' := [(4, .int (nI (mx - (t + 1)))), (5, .int ((((cy_ad (S 9) Z w i mx t).1) ((mx - t) - w)) + 1)), (3, .int (nI w)), (0, .ref (ad 0)), (1, .int (nI i)), (2, .int (nI mx))]) hx hb dX2_addToSets_70 hl (k := 2) rfl (cy_dec (by omega)) (by decide) rfl (fun ls hl => ?_)
          refine lv_goto (tgt := 10) hx hb dX2_addToSets_73 (by decide) ?_
          have hW := cy_castS (show (va_up S 9 ((cy_ad (S 9) Z w i mx t).1)) = (va_up S 9 ((cy_ad (S 9) Z w i mx (t + 1)).1)) from by simp only [cy_ad, c_13, c_38, ↓reduceIte, not_true_eq_false, not_false_eq_true]) hW
          have hW := cy_castZ (show (cy_ad (S 9) Z w i mx t).2 = (cy_ad (S 9) Z w i mx (t + 1)).2 from by simp only [cy_ad, c_13, c_38, ↓reduceIte, not_true_eq_false, not_false_eq_true]) hW
          exact ih_10 (t + 1) (by omega) (by omega) _ _ hW _ (lv_sub hl [2, 0, 3, 4, 5] rfl)
        · skip
          refine lv_aload_n hx hb dX2_addToSets_41 rfl (lv_at hl 3 rfl) ?_
          refine cy_get hC (0) (by decide) hi2 hW (cy_rd (cy_un (by omega)) rfl) rfl 12 (by decide) (hts (.fieldLink RX2 43 "CaskYard" "sizes" "[I") (by decide +kernel)) (fun _ h9 => h9) (v := .ref (ad 9)) rfl dX2_addToSets_42 ?_
          refine lv_iload hx hb dX2_addToSets_45 (lv_at hl 2 rfl) ?_
          refine lv_iload hx hb dX2_addToSets_47 (lv_at hl 0 rfl) ?_
          refine cy_iast hC (9) (by decide) hW 0 (i := (mx - t)) (cy_rd (cy_us) rfl) rfl (by omega) (by decide) (upd ((cy_ad (S 9) Z w i mx t).1) (mx - t) ((((cy_ad (S 9) Z w i mx t).1) ((mx - t) - w)) + 1)) rfl (S' := (va_up S 9 (upd ((cy_ad (S 9) Z w i mx t).1) (mx - t) ((((cy_ad (S 9) Z w i mx t).1) ((mx - t) - w)) + 1)))) cy_uu dX2_addToSets_49 (fun H locs hW => ?_)
          refine lv_aload_n hx hb dX2_addToSets_50 rfl (lv_at hl 3 rfl) ?_
          refine cy_get hC (0) (by decide) hi2 hW (cy_rd (cy_un (by omega)) rfl) rfl 11 (by decide) (hts (.fieldLink RX2 39 "CaskYard" "sets" "[J") (by decide +kernel)) (fun _ h9 => h9) (v := .ref (ad 8)) rfl dX2_addToSets_51 ?_
          refine lv_iload hx hb dX2_addToSets_54 (lv_at hl 2 rfl) ?_
          refine lv_aload_n hx hb dX2_addToSets_56 rfl (lv_at hl 3 rfl) ?_
          refine cy_get hC (0) (by decide) hi2 hW (cy_rd (cy_un (by omega)) rfl) rfl 11 (by decide) (hts (.fieldLink RX2 39 "CaskYard" "sets" "[J") (by decide +kernel)) (fun _ h9 => h9) (v := .ref (ad 8)) rfl dX2_addToSets_57 ?_
          refine lv_iload hx hb dX2_addToSets_60 (lv_at hl 2 rfl) ?_
          refine lv_iload_n hx hb dX2_addToSets_62 rfl (lv_at hl 1 rfl) ?_
          refine lv_isub hx hb dX2_addToSets_63 ?_
          refine cy_top (pk_sub (a := (mx - t)) (b := w) (by omega)) ?_
          refine cy_lald hC (8) (by decide) hW 1 (i := ((mx - t) - w)) (cy_rd (cy_un (by omega)) rfl) rfl (by omega) (by decide) dX2_addToSets_64 ?_
          refine lv_lconst (v := 1) hx hb dX2_addToSets_65 rfl ?_
          refine lv_iload_n hx hb dX2_addToSets_66 rfl (lv_at hl 4 rfl) ?_
          refine lv_lshl hx hb dX2_addToSets_67 rfl ?_
          refine lv_lor hx hb dX2_addToSets_68 ?_
          refine cy_last hC 8 (by decide) hW 1 (i := (mx - t)) rfl rfl (by omega) (by decide) cy_eY_Z dX2_addToSets_69 (fun H locs hW => ?_)
          refine lv_iinc (v := nI (mx - (t + 1))) (lv' := [(4, .int (nI (mx - (t + 1)))), (5, .int ((((cy_ad (S 9) Z w i mx t).1) ((mx - t) - w)) + 1)), (3, .int (nI w)), (0, .ref (ad 0)), (1, .int (nI i)), (2, .int (nI mx))]) hx hb dX2_addToSets_70 hl (k := 2) rfl (cy_dec (by omega)) (by decide) rfl (fun ls hl => ?_)
          refine lv_goto (tgt := 10) hx hb dX2_addToSets_73 (by decide) ?_
          have hW := cy_castS (show (va_up S 9 (upd ((cy_ad (S 9) Z w i mx t).1) (mx - t) ((((cy_ad (S 9) Z w i mx t).1) ((mx - t) - w)) + 1))) = (va_up S 9 ((cy_ad (S 9) Z w i mx (t + 1)).1)) from by simp only [cy_ad, c_13, c_38, ↓reduceIte, not_true_eq_false, not_false_eq_true]) hW
          have hW := cy_castZ (show (vp_updL ((cy_ad (S 9) Z w i mx t).2) (mx - t) ((((cy_ad (S 9) Z w i mx t).2) ((mx - t) - w)) ||| (1 <<< ((nI i).toInt64 &&& 63)))) = (cy_ad (S 9) Z w i mx (t + 1)).2 from by simp only [cy_ad, c_13, c_38, ↓reduceIte, not_true_eq_false, not_false_eq_true]) hW
          exact ih_10 (t + 1) (by omega) (by omega) _ _ hW _ (lv_sub hl [2, 0, 3, 4, 5] rfl)
  have hW := cy_castS (show S = va_up S 9 (cy_ad (S 9) Z w i mx 0).1 from cy_self.symm) hW
  exact L_10 ((mx + 1 - w - 0) + 1) 0 (Nat.lt_succ_self _) (by omega) _ _ hW _ (lv_sub hl [1, 0, 2, 3, 4] rfl)
abbrev rm_X2_findSet : Room := { frames := 1, cells := 0, slots := 0, locals := 25 }
set_option maxHeartbeats 4000000 in
set_option maxRecDepth 100000 in
theorem c_X2_findSet {l : Launch} {D : va_G} {kI kJ kZ kC : ClassId} {ad : Nat → Nat} {S : Nat → Nat → Int32} {tl : va_W} {Z : Nat → Int64} {ns g : Nat} (hg : g ≤ 1500) (hg2 : 300 ≤ g) (hwd : ∀ i, i < ns → 1 ≤ (S 1 i).toNatClampNeg ∧ (S 1 i).toNatClampNeg ≤ 120 ∧ S 1 i = nI (S 1 i).toNatClampNeg) (hns : S 0 3 = nI ns) (h60 : ns ≤ 60) : cy_M l yX2_findSet wsX2_findSet rm_X2_findSet D (cy_tys kI kJ kZ kC) [.ref (ad 0), .int (nI g)] (cy_Y kI kJ kC ad S Z tl) (some (.long (cy_rFs S Z ns g))) (cy_Y kI kJ kC ad (va_up S 9 ((cy_fz S Z ns g).1)) ((cy_fz S Z ns g).2) tl) := by
  refine cy_of (own := RX2) (cc := cX2_findSet) (maxL := 5) (ret := (some .long)) (i := .lreturn) (by decide) rfl rfl (Nat.le_of_ble_eq_true rfl) cy_endL ?_
  intro p e s m args below meth co Q A ls hC hE hW hl
  have hx := hC.1.1; have hb := hC.1.2.1; have hml := hC.1.2.2.1; have hown := hC.1.2.2.2.1; have hts := hC.1.2.2.2.2
  have hl : lv_has ls 5 [(0, .ref (ad 0)), (1, .int (nI g))] := hl
  have hi2 : ∀ w ∈ u_ws RX2 TX2 17, w ∈ wsX2_findSet := by decide +kernel
  refine lv_iload_n hx hb dX2_findSet_0 rfl (lv_at hl 1 rfl) ?_
  refine lv_iconst (v := 4) hx hb dX2_findSet_1 (by decide) ?_
  refine lv_iadd hx hb dX2_findSet_2 ?_
  refine cy_top (nI_add g 4) ?_
  refine lv_istore_n (lv' := [(2, .int (nI (g + 4))), (0, .ref (ad 0)), (1, .int (nI g))]) hx hb dX2_findSet_3 rfl hl (by decide) rfl (fun ls hl => ?_)
  refine lv_aload_n hx hb dX2_findSet_4 rfl (lv_at hl 1 rfl) ?_
  refine cy_get hC (0) (by decide) hi2 hW (rfl) rfl 11 (by decide) (hts (.fieldLink RX2 39 "CaskYard" "sets" "[J") (by decide +kernel)) (fun _ h9 => h9) (v := .ref (ad 8)) rfl dX2_findSet_5 ?_
  refine lv_ldc2 (v := (-1)) hx hb hown (hts (.constantLong RX2 108 (-1)) (by decide +kernel)) dX2_findSet_8 ?_
  refine cy_callS (As := [.ref (ad 8), .long (-1)]) (rest := []) hC.1 hC.2.1 hC.2.2 hW (c_J7_fill_d0a16 (v := (-1))) (va_cwS 2 hts gX2_findSet_J7_fill_d0a16 rfl rfl rfl (by decide +kernel) ⟨Nat.le_of_ble_eq_true rfl, Nat.le_of_ble_eq_true rfl⟩) rfl hl.1 rfl (Nat.le_of_ble_eq_true rfl) dX2_findSet_11 ⟨Nat.le_of_ble_eq_true rfl, Nat.le_of_ble_eq_true rfl⟩ (k' := 0) (n' := 0) rfl rfl (fun H locs hW => ?_)
  refine lv_aload_n hx hb dX2_findSet_14 rfl (lv_at hl 1 rfl) ?_
  refine cy_get hC (0) (by decide) hi2 hW (rfl) rfl 12 (by decide) (hts (.fieldLink RX2 43 "CaskYard" "sizes" "[I") (by decide +kernel)) (fun _ h9 => h9) (v := .ref (ad 9)) rfl dX2_findSet_15 ?_
  refine lv_sipush (v := 1000) hx hb dX2_findSet_18 (by decide) ?_
  refine cy_callS (As := [.ref (ad 9), .int 1000]) (rest := []) hC.1 hC.2.1 hC.2.2 hW (c_J7_fill_53178 (j := 9) (N := 1505) (by decide) (fun _ => rfl) (by decide)) (va_cwS 2 hts gX2_findSet_J7_fill_53178 rfl rfl rfl (by decide +kernel) ⟨Nat.le_of_ble_eq_true rfl, Nat.le_of_ble_eq_true rfl⟩) rfl hl.1 rfl (Nat.le_of_ble_eq_true rfl) dX2_findSet_21 ⟨Nat.le_of_ble_eq_true rfl, Nat.le_of_ble_eq_true rfl⟩ (k' := 0) (n' := 0) rfl rfl (fun H locs hW => ?_)
  rw [show va_up S 9 (cy_fl (S 9) 1000 1505) = (va_up S 9 (cy_fl (S 9) 1000 1505)) from rfl] at hW
  refine lv_aload_n hx hb dX2_findSet_24 rfl (lv_at hl 1 rfl) ?_
  refine cy_get hC (0) (by decide) hi2 hW (cy_rd (cy_un (by omega)) rfl) rfl 11 (by decide) (hts (.fieldLink RX2 39 "CaskYard" "sets" "[J") (by decide +kernel)) (fun _ h9 => h9) (v := .ref (ad 8)) rfl dX2_findSet_25 ?_
  refine lv_iconst (v := 0) hx hb dX2_findSet_28 (by decide) ?_
  refine lv_lconst (v := 0) hx hb dX2_findSet_29 rfl ?_
  refine cy_last hC 8 (by decide) hW 1 (i := 0) rfl rfl (by omega) (by decide) cy_eY_Z dX2_findSet_30 (fun H locs hW => ?_)
  refine lv_aload_n hx hb dX2_findSet_31 rfl (lv_at hl 1 rfl) ?_
  refine cy_get hC (0) (by decide) hi2 hW (cy_rd (cy_un (by omega)) rfl) rfl 12 (by decide) (hts (.fieldLink RX2 43 "CaskYard" "sizes" "[I") (by decide +kernel)) (fun _ h9 => h9) (v := .ref (ad 9)) rfl dX2_findSet_32 ?_
  refine lv_iconst (v := 0) hx hb dX2_findSet_35 (by decide) ?_
  refine lv_iconst (v := 0) hx hb dX2_findSet_36 (by decide) ?_
  refine cy_iast hC (9) (by decide) hW 0 (i := 0) (cy_rd (cy_us) rfl) rfl (by omega) (by decide) (upd (cy_fl (S 9) 1000 1505) 0 0) rfl (S' := (va_up S 9 (upd (cy_fl (S 9) 1000 1505) 0 0))) cy_uu dX2_findSet_37 (fun H locs hW => ?_)
  refine lv_aload_n hx hb dX2_findSet_38 rfl (lv_at hl 1 rfl) ?_
  refine cy_get hC (0) (by decide) hi2 hW (cy_rd (cy_un (by omega)) rfl) rfl 3 (by decide) (hts (.fieldLink RX2 66 "CaskYard" "staveCount" "I") (by decide +kernel)) (fun _ h9 => h9) (v := .int (S 0 3)) rfl dX2_findSet_39 ?_
  refine cy_top (y := nI ns) hns ?_
  refine lv_iconst (v := 1) hx hb dX2_findSet_42 (by decide) ?_
  refine lv_isub hx hb dX2_findSet_43 ?_
  refine lv_istore_n (lv' := [(3, .int ((nI ns) - 1)), (2, .int (nI (g + 4))), (0, .ref (ad 0)), (1, .int (nI g))]) hx hb dX2_findSet_44 rfl hl (by decide) rfl (fun ls hl => ?_)
  have L_45 : ∀ (fu : Nat) (t : Nat), ns - t < fu → (t ≤ ns) → ∀ (H : Heap) (locs : List Loc), cy_W D A s.heap (cy_Y kI kJ kC ad (va_up S 9 ((cy_fs S ns (g + 4) (cy_f0 S) (cy_Z0 Z) t).1)) ((cy_fs S ns (g + 4) (cy_f0 S) (cy_Z0 Z) t).2) tl) H locs → ∀ (ls : Array Slot), lv_has ls 5 [(3, .int (nI (ns - t) - 1)), (0, .ref (ad 0)), (1, .int (nI g)), (2, .int (nI (g + 4)))] → W p l e rm_X2_findSet s m args below meth co H locs 0 0 Q (F0 m 45 ls []) := by
    intro fu
    induction fu with
    | zero => intro t hn; exact absurd hn (Nat.not_lt_zero _)
    | succ fu ih_45 =>
      intro t hn_45 ht H locs hW ls hl
      refine lv_iload_n hx hb dX2_findSet_45 rfl (lv_at hl 0 rfl) ?_
      refine lv_if_lt (tgt := 69) hx hb dX2_findSet_46 (by decide) (fun c_46 => ?_) (fun c_46 => ?_)
      · skip
        have q_46 := cy_p1 (by omega) c_46
        obtain rfl : ns = t := by omega
        refine lv_iload_n hx hb dX2_findSet_69 rfl (lv_at hl 2 rfl) ?_
        refine lv_istore_n (lv' := [(3, .int (nI g)), (0, .ref (ad 0)), (1, .int (nI g)), (2, .int (nI (g + 4)))]) hx hb dX2_findSet_70 rfl hl (by decide) rfl (fun ls hl => ?_)
        refine lv_iload_n hx hb dX2_findSet_71 rfl (lv_at hl 2 rfl) ?_
        refine lv_iconst (v := 1) hx hb dX2_findSet_72 (by decide) ?_
        refine lv_iadd hx hb dX2_findSet_73 ?_
        refine cy_top (nI_add g 1) ?_
        refine lv_istore (lv' := [(4, .int (nI (g + 1))), (3, .int (nI g)), (0, .ref (ad 0)), (1, .int (nI g)), (2, .int (nI (g + 4)))]) hx hb dX2_findSet_74 hl (by decide) rfl (fun ls hl => ?_)
        have L_76 : ∀ (fu : Nat) (k : Nat), 4 - k < fu → (k ≤ 4) → ∀ (H : Heap) (locs : List Loc), cy_W D A s.heap (cy_Y kI kJ kC ad (va_up S 9 ((cy_fz S Z ns g).1)) ((cy_fz S Z ns g).2) tl) H locs → ∀ (ls : Array Slot), lv_has ls 5 [(3, .int (nI (cy_bs (cy_fz S Z ns g).1 g k))), (4, .int (nI (g + 1 + k))), (0, .ref (ad 0)), (1, .int (nI g)), (2, .int (nI (g + 4)))] → W p l e rm_X2_findSet s m args below meth co H locs 0 0 Q (F0 m 76 ls []) := by
          intro fu
          induction fu with
          | zero => intro k hn; exact absurd hn (Nat.not_lt_zero _)
          | succ fu ih_76 =>
            intro k hn_76 hk H locs hW ls hl
            refine lv_iload hx hb dX2_findSet_76 (lv_at hl 1 rfl) ?_
            refine lv_iload_n hx hb dX2_findSet_78 rfl (lv_at hl 4 rfl) ?_
            refine lv_icmp_gt (tgt := 107) hx hb dX2_findSet_79 (by decide) (fun c_79 => ?_) (fun c_79 => ?_)
            · skip
              have q_79 := cy_lt (a := (g + 4)) (b := (g + 1 + k)) (by omega) (by omega) c_79
              obtain rfl : k = 4 := by omega
              refine lv_aload_n hx hb dX2_findSet_107 rfl (lv_at hl 2 rfl) ?_
              refine cy_get hC (0) (by decide) hi2 hW (cy_rd (cy_un (by omega)) rfl) rfl 11 (by decide) (hts (.fieldLink RX2 39 "CaskYard" "sets" "[J") (by decide +kernel)) (fun _ h9 => h9) (v := .ref (ad 8)) rfl dX2_findSet_108 ?_
              refine lv_iload_n hx hb dX2_findSet_111 rfl (lv_at hl 0 rfl) ?_
              refine cy_lald hC (8) (by decide) hW 1 (i := (cy_bs (cy_fz S Z ns g).1 g 4)) (cy_rd (cy_un (by omega)) rfl) rfl (Nat.lt_of_le_of_lt cy_bs_le (by omega)) (by decide) dX2_findSet_112 ?_
              exact hE _ _ _ _ _ _ (Nat.le_of_ble_eq_true rfl) (Nat.le_of_ble_eq_true rfl) hW dX2_findSet_113
            · skip
              have q_79 := cy_nlt (a := (g + 4)) (b := (g + 1 + k)) (by omega) (by omega) c_79
              refine lv_aload_n hx hb dX2_findSet_82 rfl (lv_at hl 2 rfl) ?_
              refine cy_get hC (0) (by decide) hi2 hW (cy_rd (cy_un (by omega)) rfl) rfl 12 (by decide) (hts (.fieldLink RX2 43 "CaskYard" "sizes" "[I") (by decide +kernel)) (fun _ h9 => h9) (v := .ref (ad 9)) rfl dX2_findSet_83 ?_
              refine lv_iload hx hb dX2_findSet_86 (lv_at hl 1 rfl) ?_
              refine cy_iald hC (9) (by decide) hW 0 (i := (g + 1 + k)) (cy_rd (cy_us) rfl) rfl (by omega) (by decide) dX2_findSet_88 ?_
              refine lv_aload_n hx hb dX2_findSet_89 rfl (lv_at hl 2 rfl) ?_
              refine cy_get hC (0) (by decide) hi2 hW (cy_rd (cy_un (by omega)) rfl) rfl 12 (by decide) (hts (.fieldLink RX2 43 "CaskYard" "sizes" "[I") (by decide +kernel)) (fun _ h9 => h9) (v := .ref (ad 9)) rfl dX2_findSet_90 ?_
              refine lv_iload_n hx hb dX2_findSet_93 rfl (lv_at hl 0 rfl) ?_
              refine cy_iald hC (9) (by decide) hW 0 (i := (cy_bs (cy_fz S Z ns g).1 g k)) (cy_rd (cy_us) rfl) rfl (Nat.lt_of_le_of_lt cy_bs_le (by omega)) (by decide) dX2_findSet_94 ?_
              refine lv_icmp_ge (tgt := 101) hx hb dX2_findSet_95 (by decide) (fun c_95 => ?_) (fun c_95 => ?_)
              · skip
                refine lv_iinc (v := nI (g + 1 + k + 1)) (lv' := [(4, .int (nI (g + 1 + k + 1))), (3, .int (nI (cy_bs (cy_fz S Z ns g).1 g k))), (0, .ref (ad 0)), (1, .int (nI g)), (2, .int (nI (g + 4)))]) hx hb dX2_findSet_101 hl (k := 1) rfl (nI_1 (g + 1 + k)) (by decide) rfl (fun ls hl => ?_)
                refine lv_goto (tgt := 76) hx hb dX2_findSet_104 (by decide) ?_
                rw [show nI (cy_bs (cy_fz S Z ns g).1 g k) = nI (cy_bs (cy_fz S Z ns g).1 g (k + 1)) from by simp only [cy_bs, c_79, c_95, ↓reduceIte]] at hl
                exact ih_76 (k + 1) (by omega) (by omega) _ _ hW _ (lv_sub hl [1, 0, 2, 3, 4] rfl)
              · skip
                refine lv_iload hx hb dX2_findSet_98 (lv_at hl 1 rfl) ?_
                refine lv_istore_n (lv' := [(3, .int (nI (g + 1 + k))), (4, .int (nI (g + 1 + k))), (0, .ref (ad 0)), (1, .int (nI g)), (2, .int (nI (g + 4)))]) hx hb dX2_findSet_100 rfl hl (by decide) rfl (fun ls hl => ?_)
                refine lv_iinc (v := nI (g + 1 + k + 1)) (lv' := [(4, .int (nI (g + 1 + k + 1))), (3, .int (nI (g + 1 + k))), (0, .ref (ad 0)), (1, .int (nI g)), (2, .int (nI (g + 4)))]) hx hb dX2_findSet_101 hl (k := 1) rfl (nI_1 (g + 1 + k)) (by decide) rfl (fun ls hl => ?_)
                refine lv_goto (tgt := 76) hx hb dX2_findSet_104 (by decide) ?_
                rw [show nI (g + 1 + k) = nI (cy_bs (cy_fz S Z ns g).1 g (k + 1)) from by simp only [cy_bs, c_79, c_95, ↓reduceIte]] at hl
                exact ih_76 (k + 1) (by omega) (by omega) _ _ hW _ (lv_sub hl [1, 0, 2, 3, 4] rfl)
        exact L_76 ((4 - 0) + 1) 0 (Nat.lt_succ_self _) (by omega) _ _ hW _ (lv_sub hl [1, 0, 2, 3, 4] rfl)
      · skip
        have q_46 := cy_p1t c_46
        rw [cy_pt1 q_46] at hl
        refine lv_aload_n hx hb dX2_findSet_49 rfl (lv_at hl 1 rfl) ?_
        refine lv_iload_n hx hb dX2_findSet_50 rfl (lv_at hl 0 rfl) ?_
        refine cy_callV (As := [.int (nI (ns - 1 - t))]) (rest := []) (q0 := 0) (ci := 2) hC.1 hC.2.1 hC.2.2 hW (c_X2_isUsable (i := (ns - 1 - t)) (by omega)) (cwV 1 hts gX2_findSet_X2_isUsable rfl rfl rfl (by decide +kernel) ⟨Nat.le_of_ble_eq_true rfl, Nat.le_of_ble_eq_true rfl⟩) (cy_w_at (by decide) (cy_rd (cy_un (by omega)) rfl)) rfl rfl hl.1 rfl (Nat.le_of_ble_eq_true rfl) dX2_findSet_51 ⟨Nat.le_of_ble_eq_true rfl, Nat.le_of_ble_eq_true rfl⟩ (k' := 0) (n' := 0) rfl rfl (fun H locs hW => ?_)
        refine cy_topv (show _ = Value.int (cy_rUs S (ns - 1 - t)) from rfl) ?_
        refine lv_if_eq (tgt := 63) hx hb dX2_findSet_54 (by decide) (fun c_54 => ?_) (fun c_54 => ?_)
        · skip
          refine lv_iinc (v := (nI (ns - 1 - t)) - 1) (lv' := [(3, .int ((nI (ns - 1 - t)) - 1)), (0, .ref (ad 0)), (1, .int (nI g)), (2, .int (nI (g + 4)))]) hx hb dX2_findSet_63 hl (k := 0) rfl (cy_dm _) (by decide) rfl (fun ls hl => ?_)
          refine lv_goto (tgt := 45) hx hb dX2_findSet_66 (by decide) ?_
          rw [show (nI (ns - 1 - t)) - 1 = nI (ns - (t + 1)) - 1 from by rw [show ns - 1 - t = ns - (t + 1) by omega]] at hl
          have hW := cy_castS (show (va_up S 9 ((cy_fs S ns (g + 4) (cy_f0 S) (cy_Z0 Z) t).1)) = (va_up S 9 ((cy_fs S ns (g + 4) (cy_f0 S) (cy_Z0 Z) (t + 1)).1)) from by simp only [cy_fs, c_46, c_54, ↓reduceIte, not_true_eq_false, not_false_eq_true]) hW
          have hW := cy_castZ (show (cy_fs S ns (g + 4) (cy_f0 S) (cy_Z0 Z) t).2 = (cy_fs S ns (g + 4) (cy_f0 S) (cy_Z0 Z) (t + 1)).2 from by simp only [cy_fs, c_46, c_54, ↓reduceIte, not_true_eq_false, not_false_eq_true]) hW
          exact ih_45 (t + 1) (by omega) (by omega) _ _ hW _ (lv_sub hl [0, 1, 2, 3] rfl)
        · skip
          refine lv_aload_n hx hb dX2_findSet_57 rfl (lv_at hl 1 rfl) ?_
          refine lv_iload_n hx hb dX2_findSet_58 rfl (lv_at hl 0 rfl) ?_
          refine lv_iload_n hx hb dX2_findSet_59 rfl (lv_at hl 3 rfl) ?_
          refine cy_callV (As := [.int (nI (ns - 1 - t)), .int (nI (g + 4))]) (rest := []) (q0 := 0) (ci := 2) hC.1 hC.2.1 hC.2.2 hW (c_X2_addToSets (i := (ns - 1 - t)) (mx := (g + 4)) (w := (S 1 (ns - 1 - t)).toNatClampNeg) (by omega) (hwd _ (by omega)).2.2 (hwd _ (by omega)).1 (by have := (hwd (ns - 1 - t) (by omega)).2.1; omega) (by omega)) (cwV 2 hts gX2_findSet_X2_addToSets rfl rfl rfl (by decide +kernel) ⟨Nat.le_of_ble_eq_true rfl, Nat.le_of_ble_eq_true rfl⟩) (cy_w_at (by decide) (cy_rd (cy_un (by omega)) rfl)) rfl rfl hl.1 rfl (Nat.le_of_ble_eq_true rfl) dX2_findSet_60 ⟨Nat.le_of_ble_eq_true rfl, Nat.le_of_ble_eq_true rfl⟩ (k' := 0) (n' := 0) rfl rfl (fun H locs hW => ?_)
          rw [show va_up (va_up S 9 ((cy_fs S ns (g + 4) (cy_f0 S) (cy_Z0 Z) t).1)) 9 (cy_ad ((va_up S 9 ((cy_fs S ns (g + 4) (cy_f0 S) (cy_Z0 Z) t).1)) 9) ((cy_fs S ns (g + 4) (cy_f0 S) (cy_Z0 Z) t).2) (S 1 (ns - 1 - t)).toNatClampNeg (ns - 1 - t) (g + 4) (g + 4 + 1 - (S 1 (ns - 1 - t)).toNatClampNeg)).1 = (va_up S 9 ((cy_ad ((cy_fs S ns (g + 4) (cy_f0 S) (cy_Z0 Z) t).1) ((cy_fs S ns (g + 4) (cy_f0 S) (cy_Z0 Z) t).2) (S 1 (ns - 1 - t)).toNatClampNeg (ns - 1 - t) (g + 4) (g + 4 + 1 - (S 1 (ns - 1 - t)).toNatClampNeg)).1)) from by rw [cy_uu]; rfl] at hW
          refine lv_iinc (v := (nI (ns - 1 - t)) - 1) (lv' := [(3, .int ((nI (ns - 1 - t)) - 1)), (0, .ref (ad 0)), (1, .int (nI g)), (2, .int (nI (g + 4)))]) hx hb dX2_findSet_63 hl (k := 0) rfl (cy_dm _) (by decide) rfl (fun ls hl => ?_)
          refine lv_goto (tgt := 45) hx hb dX2_findSet_66 (by decide) ?_
          rw [show (nI (ns - 1 - t)) - 1 = nI (ns - (t + 1)) - 1 from by rw [show ns - 1 - t = ns - (t + 1) by omega]] at hl
          have hW := cy_castS (show (va_up S 9 ((cy_ad ((cy_fs S ns (g + 4) (cy_f0 S) (cy_Z0 Z) t).1) ((cy_fs S ns (g + 4) (cy_f0 S) (cy_Z0 Z) t).2) (S 1 (ns - 1 - t)).toNatClampNeg (ns - 1 - t) (g + 4) (g + 4 + 1 - (S 1 (ns - 1 - t)).toNatClampNeg)).1)) = (va_up S 9 ((cy_fs S ns (g + 4) (cy_f0 S) (cy_Z0 Z) (t + 1)).1)) from by simp only [cy_fs, c_46, c_54, ↓reduceIte, not_true_eq_false, not_false_eq_true]) hW
          have hW := cy_castZ (show (cy_ad ((cy_fs S ns (g + 4) (cy_f0 S) (cy_Z0 Z) t).1) ((cy_fs S ns (g + 4) (cy_f0 S) (cy_Z0 Z) t).2) (S 1 (ns - 1 - t)).toNatClampNeg (ns - 1 - t) (g + 4) (g + 4 + 1 - (S 1 (ns - 1 - t)).toNatClampNeg)).2 = (cy_fs S ns (g + 4) (cy_f0 S) (cy_Z0 Z) (t + 1)).2 from by simp only [cy_fs, c_46, c_54, ↓reduceIte, not_true_eq_false, not_false_eq_true]) hW
          exact ih_45 (t + 1) (by omega) (by omega) _ _ hW _ (lv_sub hl [0, 1, 2, 3] rfl)
  exact L_45 ((ns - 0) + 1) 0 (Nat.lt_succ_self _) (by omega) _ _ hW _ (lv_sub hl [0, 2, 3, 1] rfl)
