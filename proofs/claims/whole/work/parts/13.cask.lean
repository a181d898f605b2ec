abbrev rm_J7_fill_53178 : Room := { frames := 0, cells := 0, slots := 0, locals := 0 }
set_option maxHeartbeats 4000000 in
set_option maxRecDepth 100000 in
theorem c_J7_fill_53178 {l : Launch} {D : va_G} {kI kJ kZ kC : ClassId} {n : Nat} {ad : Nat → Nat} {S : Nat → Nat → Int32} {tl : va_W} {ef : Nat → (Nat → Int32) → va_E} {j N : Nat} {v : Int32} (hj : j < n) (he : ∀ f, ef j f = .inl (kI, N, .inl f)) (hN : N < 2 ^ 31) : cy_M l yJ7_fill_53178 wsJ7_fill_53178 rm_J7_fill_53178 D (cy_tys kI kJ kZ kC) [.ref (ad j), .int v] (cy_w n ad ef S tl) none (cy_w n ad ef (va_up S j (cy_fl (S j) v N)) tl) := by
  refine cy_of (own := RJ7) (cc := cJ7_fill_53178) (maxL := 4) (ret := none) (i := .return_) (by decide) rfl rfl (Nat.le_of_ble_eq_true rfl) cy_endV ?_
  intro p e s m args below meth co Q A ls hC hE hW hl
  have hx := hC.1.1; have hb := hC.1.2.1; have hml := hC.1.2.2.1; have hown := hC.1.2.2.2.1; have hts := hC.1.2.2.2.2
  have hl : lv_has ls 4 [(0, .ref (ad j)), (1, .int v)] := hl
  refine lv_iconst (v := 0) hx hb dJ7_fill_53178_0 (by decide) ?_
  refine lv_istore_n (lv' := [(2, .int 0), (0, .ref (ad j)), (1, .int v)]) hx hb dJ7_fill_53178_1 rfl hl (by decide) rfl (fun ls hl => ?_)
  refine lv_aload_n hx hb dJ7_fill_53178_2 rfl (lv_at hl 1 rfl) ?_
  refine cy_alen hC (j) hj hW 0 ((he _)) rfl dJ7_fill_53178_3 ?_
  refine lv_istore_n (lv' := [(3, .int (nI N)), (2, .int 0), (0, .ref (ad j)), (1, .int v)]) hx hb dJ7_fill_53178_4 rfl hl (by decide) rfl (fun ls hl => ?_)
  have L_5 : ∀ (fu : Nat) (i : Nat), N - i < fu → (i ≤ N) → ∀ (H : Heap) (locs : List Loc), cy_W D A s.heap (cy_w n ad ef (va_up S j (cy_fl (S j) v i)) tl) H locs → ∀ (ls : Array Slot), lv_has ls 4 [(2, .int (nI i)), (3, .int (nI N)), (0, .ref (ad j)), (1, .int v)] → W p l e rm_J7_fill_53178 s m args below meth co H locs 0 0 Q (F0 m 5 ls []) := by
    intro fu
    induction fu with
    | zero => intro i hn; exact absurd hn (Nat.not_lt_zero _)
    | succ fu ih_5 =>
      intro i hn_5 hi H locs hW ls hl
      refine lv_iload_n hx hb dJ7_fill_53178_5 rfl (lv_at hl 0 rfl) ?_
      refine lv_iload_n hx hb dJ7_fill_53178_6 rfl (lv_at hl 1 rfl) ?_
      refine lv_icmp_ge (tgt := 20) hx hb dJ7_fill_53178_7 (by decide) (fun c_7 => ?_) (fun c_7 => ?_)
      · skip
        have q_7 := cy_le (a := N) (b := i) (by omega) (by omega) c_7
        obtain rfl : i = N := by omega
        exact hE _ _ _ _ _ _ (Nat.le_of_ble_eq_true rfl) (Nat.le_of_ble_eq_true rfl) hW dJ7_fill_53178_20
      · skip
        have q_7 := cy_nle (a := N) (b := i) (by omega) (by omega) c_7
        refine lv_aload_n hx hb dJ7_fill_53178_10 rfl (lv_at hl 2 rfl) ?_
        refine lv_iload_n hx hb dJ7_fill_53178_11 rfl (lv_at hl 0 rfl) ?_
        refine lv_iload_n hx hb dJ7_fill_53178_12 rfl (lv_at hl 3 rfl) ?_
        refine cy_iast hC (j) hj hW 0 (i := i) (cy_rd (cy_us) (he _)) rfl (by omega) hN (upd (cy_fl (S j) v i) i v) (he _).symm (S' := (va_up S j (upd (cy_fl (S j) v i) i v))) cy_uu dJ7_fill_53178_13 (fun H locs hW => ?_)
        refine lv_iinc (v := nI (i + 1)) (lv' := [(2, .int (nI (i + 1))), (3, .int (nI N)), (0, .ref (ad j)), (1, .int v)]) hx hb dJ7_fill_53178_14 hl (k := 0) rfl (nI_1 i) (by decide) rfl (fun ls hl => ?_)
        refine lv_goto (tgt := 5) hx hb dJ7_fill_53178_17 (by decide) ?_
        rw [cy_fl_s] at hW
        exact ih_5 (i + 1) (by omega) (by omega) _ _ hW _ (lv_sub hl [0, 1, 2, 3] rfl)
  have hW := cy_castS (show S = va_up S j (cy_fl (S j) v 0) from by rw [cy_fl_0, cy_self]) hW
  exact L_5 ((N - 0) + 1) 0 (Nat.lt_succ_self _) (by omega) _ _ hW _ (lv_sub hl [1, 0, 2, 3] rfl)
abbrev rm_X1_held : Room := { frames := 0, cells := 0, slots := 0, locals := 0 }
set_option maxHeartbeats 4000000 in
set_option maxRecDepth 100000 in
theorem c_X1_held {l : Launch} {D : va_G} {kI kJ kZ kC : ClassId} {ad : Nat → Nat} {S : Nat → Nat → Int32} {tl : va_W} {Z : Nat → Int64} {c : Nat} (hc : c < 13) : cy_M l yX1_held wsX1_held rm_X1_held D (cy_tys kI kJ kZ kC) [.ref (ad (3 * c + 11))] (cy_Y kI kJ kC ad S Z tl) (some (.int (cy_sm (S (3 * c + 13)) 5))) (cy_Y kI kJ kC ad S Z tl) := by
  refine cy_of (own := RX1) (cc := cX1_held) (maxL := 3) (ret := (some .int)) (i := .ireturn) (by decide) rfl rfl (Nat.le_of_ble_eq_true rfl) (cy_endI rfl) ?_
  intro p e s m args below meth co Q A ls hC hE hW hl
  have hx := hC.1.1; have hb := hC.1.2.1; have hml := hC.1.2.2.1; have hown := hC.1.2.2.2.1; have hts := hC.1.2.2.2.2
  have hl : lv_has ls 3 [(0, .ref (ad (3 * c + 11)))] := hl
  have hi1 : ∀ w ∈ u_ws RX1 TX1 11, w ∈ wsX1_held := by decide +kernel
  refine lv_iconst (v := 0) hx hb dX1_held_0 (by decide) ?_
  refine lv_istore_n (lv' := [(1, .int 0), (0, .ref (ad (3 * c + 11)))]) hx hb dX1_held_1 rfl hl (by decide) rfl (fun ls hl => ?_)
  refine lv_iconst (v := 0) hx hb dX1_held_2 (by decide) ?_
  refine lv_istore_n (lv' := [(2, .int 0), (1, .int 0), (0, .ref (ad (3 * c + 11)))]) hx hb dX1_held_3 rfl hl (by decide) rfl (fun ls hl => ?_)
  have L_4 : ∀ (fu : Nat) (i : Nat), 5 - i < fu → (i ≤ 5) → ∀ (H : Heap) (locs : List Loc), cy_W D A s.heap (cy_Y kI kJ kC ad S Z tl) H locs → ∀ (ls : Array Slot), lv_has ls 3 [(1, .int (cy_sm (S (3 * c + 13)) i)), (2, .int (nI i)), (0, .ref (ad (3 * c + 11)))] → W p l e rm_X1_held s m args below meth co H locs 0 0 Q (F0 m 4 ls []) := by
    intro fu
    induction fu with
    | zero => intro i hn; exact absurd hn (Nat.not_lt_zero _)
    | succ fu ih_4 =>
      intro i hn_4 hi H locs hW ls hl
      refine lv_iload_n hx hb dX1_held_4 rfl (lv_at hl 1 rfl) ?_
      refine lv_iconst (v := 5) hx hb dX1_held_5 (by decide) ?_
      refine lv_icmp_ge (tgt := 24) hx hb dX1_held_6 (by decide) (fun c_6 => ?_) (fun c_6 => ?_)
      · skip
        have q_6 := cy_le (a := 5) (b := i) (by omega) (by omega) c_6
        refine lv_iload_n hx hb dX1_held_24 rfl (lv_at hl 0 rfl) ?_
        obtain rfl : i = 5 := by omega
        exact hE _ _ _ _ _ _ (Nat.le_of_ble_eq_true rfl) (Nat.le_of_ble_eq_true rfl) hW dX1_held_25
      · skip
        have q_6 := cy_nle (a := 5) (b := i) (by omega) (by omega) c_6
        refine lv_iload_n hx hb dX1_held_9 rfl (lv_at hl 0 rfl) ?_
        refine lv_aload_n hx hb dX1_held_10 rfl (lv_at hl 2 rfl) ?_
        refine cy_get hC (3 * c + 11) (by omega) hi1 hW (cy_eY_o) rfl 10 (by decide) (hts (.fieldLink RX1 15 "CaskYard$Cask" "amounts" "[I") (by decide +kernel)) (fun _ h9 => h9) (v := .ref (ad (3 * c + 13))) rfl dX1_held_11 ?_
        refine lv_iload_n hx hb dX1_held_14 rfl (lv_at hl 1 rfl) ?_
        refine cy_iald hC (3 * c + 13) (by omega) hW 0 (i := i) (cy_eY_a) rfl (by omega) (by decide) dX1_held_15 ?_
        refine lv_iadd hx hb dX1_held_16 ?_
        refine lv_istore_n (lv' := [(1, .int ((cy_sm (S (3 * c + 13)) i) + (S (3 * c + 13) i))), (2, .int (nI i)), (0, .ref (ad (3 * c + 11)))]) hx hb dX1_held_17 rfl hl (by decide) rfl (fun ls hl => ?_)
        refine lv_iinc (v := nI (i + 1)) (lv' := [(2, .int (nI (i + 1))), (1, .int ((cy_sm (S (3 * c + 13)) i) + (S (3 * c + 13) i))), (0, .ref (ad (3 * c + 11)))]) hx hb dX1_held_18 hl (k := 1) rfl (nI_1 i) (by decide) rfl (fun ls hl => ?_)
        refine lv_goto (tgt := 4) hx hb dX1_held_21 (by decide) ?_
        exact ih_4 (i + 1) (by omega) (by omega) _ _ hW _ (lv_sub hl [1, 0, 2] rfl)
  exact L_4 ((5 - 0) + 1) 0 (Nat.lt_succ_self _) (by omega) _ _ hW _ (lv_sub hl [1, 0, 2] rfl)
abbrev rm_X1_allTensions : Room := { frames := 0, cells := 0, slots := 0, locals := 0 }
set_option maxHeartbeats 4000000 in
set_option maxRecDepth 100000 in
theorem c_X1_allTensions {l : Launch} {D : va_G} {kI kJ kZ kC : ClassId} {ad : Nat → Nat} {S : Nat → Nat → Int32} {tl : va_W} {Z : Nat → Int64} {c : Nat} (hc : c < 13) : cy_M l yX1_allTensions wsX1_allTensions rm_X1_allTensions D (cy_tys kI kJ kZ kC) [.ref (ad (3 * c + 11))] (cy_Y kI kJ kC ad S Z tl) (some (.int (cy_sm (S (3 * c + 12)) 8))) (cy_Y kI kJ kC ad S Z tl) := by
  refine cy_of (own := RX1) (cc := cX1_allTensions) (maxL := 3) (ret := (some .int)) (i := .ireturn) (by decide) rfl rfl (Nat.le_of_ble_eq_true rfl) (cy_endI rfl) ?_
  intro p e s m args below meth co Q A ls hC hE hW hl
  have hx := hC.1.1; have hb := hC.1.2.1; have hml := hC.1.2.2.1; have hown := hC.1.2.2.2.1; have hts := hC.1.2.2.2.2
  have hl : lv_has ls 3 [(0, .ref (ad (3 * c + 11)))] := hl
  have hi1 : ∀ w ∈ u_ws RX1 TX1 11, w ∈ wsX1_allTensions := by decide +kernel
  refine lv_iconst (v := 0) hx hb dX1_allTensions_0 (by decide) ?_
  refine lv_istore_n (lv' := [(1, .int 0), (0, .ref (ad (3 * c + 11)))]) hx hb dX1_allTensions_1 rfl hl (by decide) rfl (fun ls hl => ?_)
  refine lv_iconst (v := 0) hx hb dX1_allTensions_2 (by decide) ?_
  refine lv_istore_n (lv' := [(2, .int 0), (1, .int 0), (0, .ref (ad (3 * c + 11)))]) hx hb dX1_allTensions_3 rfl hl (by decide) rfl (fun ls hl => ?_)
  have L_4 : ∀ (fu : Nat) (i : Nat), 8 - i < fu → (i ≤ 8) → ∀ (H : Heap) (locs : List Loc), cy_W D A s.heap (cy_Y kI kJ kC ad S Z tl) H locs → ∀ (ls : Array Slot), lv_has ls 3 [(1, .int (cy_sm (S (3 * c + 12)) i)), (2, .int (nI i)), (0, .ref (ad (3 * c + 11)))] → W p l e rm_X1_allTensions s m args below meth co H locs 0 0 Q (F0 m 4 ls []) := by
    intro fu
    induction fu with
    | zero => intro i hn; exact absurd hn (Nat.not_lt_zero _)
    | succ fu ih_4 =>
      intro i hn_4 hi H locs hW ls hl
      refine lv_iload_n hx hb dX1_allTensions_4 rfl (lv_at hl 1 rfl) ?_
      refine lv_bipush (v := 8) hx hb dX1_allTensions_5 (by decide) ?_
      refine lv_icmp_ge (tgt := 25) hx hb dX1_allTensions_7 (by decide) (fun c_7 => ?_) (fun c_7 => ?_)
      · skip
        have q_7 := cy_le (a := 8) (b := i) (by omega) (by omega) c_7
        refine lv_iload_n hx hb dX1_allTensions_25 rfl (lv_at hl 0 rfl) ?_
        obtain rfl : i = 8 := by omega
        exact hE _ _ _ _ _ _ (Nat.le_of_ble_eq_true rfl) (Nat.le_of_ble_eq_true rfl) hW dX1_allTensions_26
      · skip
        have q_7 := cy_nle (a := 8) (b := i) (by omega) (by omega) c_7
        refine lv_iload_n hx hb dX1_allTensions_10 rfl (lv_at hl 0 rfl) ?_
        refine lv_aload_n hx hb dX1_allTensions_11 rfl (lv_at hl 2 rfl) ?_
        refine cy_get hC (3 * c + 11) (by omega) hi1 hW (cy_eY_o) rfl 9 (by decide) (hts (.fieldLink RX1 9 "CaskYard$Cask" "tensions" "[I") (by decide +kernel)) (fun _ h9 => h9) (v := .ref (ad (3 * c + 12))) rfl dX1_allTensions_12 ?_
        refine lv_iload_n hx hb dX1_allTensions_15 rfl (lv_at hl 1 rfl) ?_
        refine cy_iald hC (3 * c + 12) (by omega) hW 0 (i := i) (cy_eY_t) rfl (by omega) (by decide) dX1_allTensions_16 ?_
        refine lv_iadd hx hb dX1_allTensions_17 ?_
        refine lv_istore_n (lv' := [(1, .int ((cy_sm (S (3 * c + 12)) i) + (S (3 * c + 12) i))), (2, .int (nI i)), (0, .ref (ad (3 * c + 11)))]) hx hb dX1_allTensions_18 rfl hl (by decide) rfl (fun ls hl => ?_)
        refine lv_iinc (v := nI (i + 1)) (lv' := [(2, .int (nI (i + 1))), (1, .int ((cy_sm (S (3 * c + 12)) i) + (S (3 * c + 12) i))), (0, .ref (ad (3 * c + 11)))]) hx hb dX1_allTensions_19 hl (k := 1) rfl (nI_1 i) (by decide) rfl (fun ls hl => ?_)
        refine lv_goto (tgt := 4) hx hb dX1_allTensions_22 (by decide) ?_
        exact ih_4 (i + 1) (by omega) (by omega) _ _ hW _ (lv_sub hl [1, 0, 2] rfl)
  exact L_4 ((8 - 0) + 1) 0 (Nat.lt_succ_self _) (by omega) _ _ hW _ (lv_sub hl [1, 0, 2] rfl)
abbrev rm_X1_leak : Room := { frames := 1, cells := 0, slots := 0, locals := 22 }
set_option maxHeartbeats 4000000 in
set_option maxRecDepth 100000 in
theorem c_X1_leak {l : Launch} {D : va_G} {kI kJ kZ kC : ClassId} {ad : Nat → Nat} {S : Nat → Nat → Int32} {tl : va_W} {Z : Nat → Int64} {c : Nat} (hc : c < 13) : cy_M l yX1_leak wsX1_leak rm_X1_leak D (cy_tys kI kJ kZ kC) [.ref (ad (3 * c + 11))] (cy_Y kI kJ kC ad S Z tl) (some (.int (cy_rLeak S c))) (cy_Y kI kJ kC ad S Z tl) := by
  refine cy_of (own := RX1) (cc := cX1_leak) (maxL := 1) (ret := (some .int)) (i := .ireturn) (by decide) rfl rfl (Nat.le_of_ble_eq_true rfl) (cy_endI rfl) ?_
  intro p e s m args below meth co Q A ls hC hE hW hl
  have hx := hC.1.1; have hb := hC.1.2.1; have hml := hC.1.2.2.1; have hown := hC.1.2.2.2.1; have hts := hC.1.2.2.2.2
  have hl : lv_has ls 1 [(0, .ref (ad (3 * c + 11)))] := hl
  have hi1 : ∀ w ∈ u_ws RX1 TX1 11, w ∈ wsX1_leak := by decide +kernel
  refine lv_aload_n hx hb dX1_leak_0 rfl (lv_at hl 0 rfl) ?_
  refine cy_get hC (3 * c + 11) (by omega) hi1 hW (cy_eY_o) rfl 2 (by decide) (hts (.fieldLink RX1 18 "CaskYard$Cask" "sound" "Z") (by decide +kernel)) (fun _ h9 => h9) (v := .int (S (3 * c + 11) 2)) rfl dX1_leak_1 ?_
  refine lv_if_ne (tgt := 9) hx hb dX1_leak_4 (by decide) (fun c_4 => ?_) (fun c_4 => ?_)
  · skip
    refine lv_iconst (v := 0) hx hb dX1_leak_9 (by decide) ?_
    refine lv_bipush (v := 30) hx hb dX1_leak_10 (by decide) ?_
    refine lv_bipush (v := 10) hx hb dX1_leak_12 (by decide) ?_
    refine lv_aload_n hx hb dX1_leak_14 rfl (lv_at hl 0 rfl) ?_
    refine cy_get hC (3 * c + 11) (by omega) hi1 hW (cy_eY_o) rfl 3 (by decide) (hts (.fieldLink RX1 22 "CaskYard$Cask" "flaws" "I") (by decide +kernel)) (fun _ h9 => h9) (v := .int (S (3 * c + 11) 3)) rfl dX1_leak_15 ?_
    refine lv_imul hx hb dX1_leak_18 ?_
    refine lv_iadd hx hb dX1_leak_19 ?_
    refine lv_iconst (v := 2) hx hb dX1_leak_20 (by decide) ?_
    refine lv_aload_n hx hb dX1_leak_21 rfl (lv_at hl 0 rfl) ?_
    refine cy_callV (As := []) (rest := [.int 2, .int (30 + (10 * (S (3 * c + 11) 3))), .int 0]) (q0 := 3 * c + 11) (ci := 1) hC.1 hC.2.1 hC.2.2 hW (c_X1_allTensions (c := c) (by omega)) (cwV 0 hts gX1_leak_X1_allTensions rfl rfl rfl (by decide +kernel) ⟨Nat.le_of_ble_eq_true rfl, Nat.le_of_ble_eq_true rfl⟩) (cy_w_at (by omega) (cy_eY_o)) rfl rfl hl.1 rfl (Nat.le_of_ble_eq_true rfl) dX1_leak_22 ⟨Nat.le_of_ble_eq_true rfl, Nat.le_of_ble_eq_true rfl⟩ (k' := 0) (n' := 0) rfl rfl (fun H locs hW => ?_)
    refine lv_imul hx hb dX1_leak_25 ?_
    refine lv_isub hx hb dX1_leak_26 ?_
    refine lv_aload_n hx hb dX1_leak_27 rfl (lv_at hl 0 rfl) ?_
    refine cy_get hC (3 * c + 11) (by omega) hi1 hW (cy_eY_o) rfl 5 (by decide) (hts (.fieldLink RX1 29 "CaskYard$Cask" "swelling" "I") (by decide +kernel)) (fun _ h9 => h9) (v := .int (S (3 * c + 11) 5)) rfl dX1_leak_28 ?_
    refine lv_isub hx hb dX1_leak_31 ?_
    refine va_mmax hx hb (hml.trans hl.1.symm) hown (hts (.methodLink RX1 63 Lib.Math.max.name) (by decide +kernel)) (hts (.static Lib.Math.max.name) (by decide +kernel)) (hts (.initialized "java/lang/Math") (by decide +kernel)) (hts (.code Lib.Math.max.name Lib.Math.max.code 2 (some .int)) (by decide +kernel)) (Nat.le_of_ble_eq_true rfl) (Nat.le_of_ble_eq_true rfl) (Nat.le_of_ble_eq_true rfl) (Nat.le_of_ble_eq_true rfl) dX1_leak_32 ?_
    refine cy_topv (show _ = Value.int (cy_mx 0 (((30 + (10 * (S (3 * c + 11) 3))) - (2 * (cy_sm (S (3 * c + 12)) 8))) - (S (3 * c + 11) 5))) from rfl) ?_
    refine cy_topv (congrArg Value.int (show cy_mx 0 (((30 + (10 * (S (3 * c + 11) 3))) - (2 * (cy_sm (S (3 * c + 12)) 8))) - (S (3 * c + 11) 5)) = cy_rLeak S c from by simp only [cy_rLeak, c_4, ↓reduceIte, not_true_eq_false, not_false_eq_true])) ?_
    exact hE _ _ _ _ _ _ (Nat.le_of_ble_eq_true rfl) (Nat.le_of_ble_eq_true rfl) hW dX1_leak_35
  · skip
    refine lv_iconst (v := 0) hx hb dX1_leak_7 (by decide) ?_
    refine cy_topv (congrArg Value.int (show 0 = cy_rLeak S c from by simp only [cy_rLeak, c_4, ↓reduceIte, not_true_eq_false, not_false_eq_true])) ?_
    exact hE _ _ _ _ _ _ (Nat.le_of_ble_eq_true rfl) (Nat.le_of_ble_eq_true rfl) hW dX1_leak_8
abbrev rm_X1_tasteOfOak : Room := { frames := 1, cells := 0, slots := 0, locals := 22 }
set_option maxHeartbeats 4000000 in
set_option maxRecDepth 100000 in
theorem c_X1_tasteOfOak {l : Launch} {D : va_G} {kI kJ kZ kC : ClassId} {ad : Nat → Nat} {S : Nat → Nat → Int32} {tl : va_W} {Z : Nat → Int64} {c : Nat} (hc : c < 13) : cy_M l yX1_tasteOfOak wsX1_tasteOfOak rm_X1_tasteOfOak D (cy_tys kI kJ kZ kC) [.ref (ad (3 * c + 11))] (cy_Y kI kJ kC ad S Z tl) (some (.int (cy_rOak S c))) (cy_Y kI kJ kC ad S Z tl) := by
  refine cy_of (own := RX1) (cc := cX1_tasteOfOak) (maxL := 2) (ret := (some .int)) (i := .ireturn) (by decide) rfl rfl (Nat.le_of_ble_eq_true rfl) (cy_endI rfl) ?_
  intro p e s m args below meth co Q A ls hC hE hW hl
  have hx := hC.1.1; have hb := hC.1.2.1; have hml := hC.1.2.2.1; have hown := hC.1.2.2.2.1; have hts := hC.1.2.2.2.2
  have hl : lv_has ls 2 [(0, .ref (ad (3 * c + 11)))] := hl
  have hi1 : ∀ w ∈ u_ws RX1 TX1 11, w ∈ wsX1_tasteOfOak := by decide +kernel
  refine lv_aload_n hx hb dX1_tasteOfOak_0 rfl (lv_at hl 0 rfl) ?_
  refine cy_callV (As := []) (rest := []) (q0 := 3 * c + 11) (ci := 1) hC.1 hC.2.1 hC.2.2 hW (c_X1_held (c := c) (by omega)) (cwV 0 hts gX1_tasteOfOak_X1_held rfl rfl rfl (by decide +kernel) ⟨Nat.le_of_ble_eq_true rfl, Nat.le_of_ble_eq_true rfl⟩) (cy_w_at (by omega) (cy_eY_o)) rfl rfl hl.1 rfl (Nat.le_of_ble_eq_true rfl) dX1_tasteOfOak_1 ⟨Nat.le_of_ble_eq_true rfl, Nat.le_of_ble_eq_true rfl⟩ (k' := 0) (n' := 0) rfl rfl (fun H locs hW => ?_)
  refine lv_istore_n (lv' := [(1, .int (cy_sm (S (3 * c + 13)) 5)), (0, .ref (ad (3 * c + 11)))]) hx hb dX1_tasteOfOak_4 rfl hl (by decide) rfl (fun ls hl => ?_)
  refine lv_iload_n hx hb dX1_tasteOfOak_5 rfl (lv_at hl 0 rfl) ?_
  refine lv_if_ne (tgt := 11) hx hb dX1_tasteOfOak_6 (by decide) (fun c_6 => ?_) (fun c_6 => ?_)
  · skip
    refine lv_ldc2 (v := 1000000) hx hb hown (hts (.constantLong RX1 72 1000000) (by decide +kernel)) dX1_tasteOfOak_11 ?_
    refine lv_aload_n hx hb dX1_tasteOfOak_14 rfl (lv_at hl 1 rfl) ?_
    refine cy_get hC (3 * c + 11) (by omega) hi1 hW (cy_eY_o) rfl 8 (by decide) (hts (.fieldLink RX1 38 "CaskYard$Cask" "grains" "I") (by decide +kernel)) (fun _ h9 => h9) (v := .int (S (3 * c + 11) 8)) rfl dX1_tasteOfOak_15 ?_
    refine lv_i2l hx hb dX1_tasteOfOak_18 rfl ?_
    refine lv_ldc2 (v := 1000) hx hb hown (hts (.constantLong RX1 74 1000) (by decide +kernel)) dX1_tasteOfOak_19 ?_
    refine lv_lmul hx hb dX1_tasteOfOak_22 ?_
    refine lv_iload_n hx hb dX1_tasteOfOak_23 rfl (lv_at hl 0 rfl) ?_
    refine lv_i2l hx hb dX1_tasteOfOak_24 rfl ?_
    refine lv_ldiv hx hb dX1_tasteOfOak_25 (cy_l0 c_6) ?_
    refine va_mmin_long hx hb (hml.trans hl.1.symm) hown (hts (.methodLink RX1 76 Lib.MathLoose.min_long.x) (by decide +kernel)) (hts (.static Lib.MathLoose.min_long.x) (by decide +kernel)) (hts (.initialized "java/lang/Math") (by decide +kernel)) (hts (.code Lib.MathLoose.min_long.x Lib.MathLoose.min_long.code 4 (some .long)) (by decide +kernel)) (Nat.le_of_ble_eq_true rfl) (Nat.le_of_ble_eq_true rfl) (Nat.le_of_ble_eq_true rfl) (Nat.le_of_ble_eq_true rfl) dX1_tasteOfOak_26 ?_
    refine cy_topv (show _ = Value.long (cy_mnL 1000000 ((((S (3 * c + 11) 8).toInt64) * 1000) / ((cy_sm (S (3 * c + 13)) 5).toInt64))) from rfl) ?_
    refine lv_l2i hx hb dX1_tasteOfOak_29 rfl ?_
    refine cy_topv (congrArg Value.int (show (cy_mnL 1000000 ((((S (3 * c + 11) 8).toInt64) * 1000) / ((cy_sm (S (3 * c + 13)) 5).toInt64))).toInt32 = cy_rOak S c from by simp only [cy_rOak, c_6, ↓reduceIte, not_true_eq_false, not_false_eq_true])) ?_
    exact hE _ _ _ _ _ _ (Nat.le_of_ble_eq_true rfl) (Nat.le_of_ble_eq_true rfl) hW dX1_tasteOfOak_30
  · skip
    refine lv_iconst (v := 0) hx hb dX1_tasteOfOak_9 (by decide) ?_
    refine cy_topv (congrArg Value.int (show 0 = cy_rOak S c from by simp only [cy_rOak, c_6, ↓reduceIte, not_true_eq_false, not_false_eq_true])) ?_
    exact hE _ _ _ _ _ _ (Nat.le_of_ble_eq_true rfl) (Nat.le_of_ble_eq_true rfl) hW dX1_tasteOfOak_10
abbrev rm_X1_canBeBlended : Room := { frames := 1, cells := 0, slots := 0, locals := 22 }
set_option maxHeartbeats 4000000 in
set_option maxRecDepth 100000 in
theorem c_X1_canBeBlended {l : Launch} {D : va_G} {kI kJ kZ kC : ClassId} {ad : Nat → Nat} {S : Nat → Nat → Int32} {tl : va_W} {Z : Nat → Int64} {c : Nat} (hc : c < 13) : cy_M l yX1_canBeBlended wsX1_canBeBlended rm_X1_canBeBlended D (cy_tys kI kJ kZ kC) [.ref (ad (3 * c + 11))] (cy_Y kI kJ kC ad S Z tl) (some (.int (cy_rCan S c))) (cy_Y kI kJ kC ad S Z tl) := by
  refine cy_of (own := RX1) (cc := cX1_canBeBlended) (maxL := 1) (ret := (some .boolean)) (i := .ireturn) (by decide) rfl rfl (Nat.le_of_ble_eq_true rfl) (cy_endI (cy_rCan_b)) ?_
  intro p e s m args below meth co Q A ls hC hE hW hl
  have hx := hC.1.1; have hb := hC.1.2.1; have hml := hC.1.2.2.1; have hown := hC.1.2.2.2.1; have hts := hC.1.2.2.2.2
  have hl : lv_has ls 1 [(0, .ref (ad (3 * c + 11)))] := hl
  have hi1 : ∀ w ∈ u_ws RX1 TX1 11, w ∈ wsX1_canBeBlended := by decide +kernel
  refine lv_aload_n hx hb dX1_canBeBlended_0 rfl (lv_at hl 0 rfl) ?_
  refine cy_get hC (3 * c + 11) (by omega) hi1 hW (cy_eY_o) rfl 2 (by decide) (hts (.fieldLink RX1 18 "CaskYard$Cask" "sound" "Z") (by decide +kernel)) (fun _ h9 => h9) (v := .int (S (3 * c + 11) 2)) rfl dX1_canBeBlended_1 ?_
  refine lv_if_eq (tgt := 27) hx hb dX1_canBeBlended_4 (by decide) (fun c_4 => ?_) (fun c_4 => ?_)
  · skip
    refine lv_iconst (v := 0) hx hb dX1_canBeBlended_27 (by decide) ?_
    refine cy_topv (congrArg Value.int (show 0 = cy_rCan S c from by simp only [cy_rCan, c_4, ↓reduceIte, not_true_eq_false, not_false_eq_true])) ?_
    exact hE _ _ _ _ _ _ (Nat.le_of_ble_eq_true rfl) (Nat.le_of_ble_eq_true rfl) hW dX1_canBeBlended_28
  · skip
    refine lv_aload_n hx hb dX1_canBeBlended_7 rfl (lv_at hl 0 rfl) ?_
    refine cy_callV (As := []) (rest := []) (q0 := 3 * c + 11) (ci := 1) hC.1 hC.2.1 hC.2.2 hW (c_X1_held (c := c) (by omega)) (cwV 0 hts gX1_canBeBlended_X1_held rfl rfl rfl (by decide +kernel) ⟨Nat.le_of_ble_eq_true rfl, Nat.le_of_ble_eq_true rfl⟩) (cy_w_at (by omega) (cy_eY_o)) rfl rfl hl.1 rfl (Nat.le_of_ble_eq_true rfl) dX1_canBeBlended_8 ⟨Nat.le_of_ble_eq_true rfl, Nat.le_of_ble_eq_true rfl⟩ (k' := 0) (n' := 0) rfl rfl (fun H locs hW => ?_)
    refine lv_if_le (tgt := 27) hx hb dX1_canBeBlended_11 (by decide) (fun c_11 => ?_) (fun c_11 => ?_)
    · skip
      refine lv_iconst (v := 0) hx hb dX1_canBeBlended_27 (by decide) ?_
      refine cy_topv (congrArg Value.int (show 0 = cy_rCan S c from by simp only [cy_rCan, c_4, c_11, ↓reduceIte, not_true_eq_false, not_false_eq_true])) ?_
      exact hE _ _ _ _ _ _ (Nat.le_of_ble_eq_true rfl) (Nat.le_of_ble_eq_true rfl) hW dX1_canBeBlended_28
    · skip
      refine lv_aload_n hx hb dX1_canBeBlended_14 rfl (lv_at hl 0 rfl) ?_
      refine cy_get hC (3 * c + 11) (by omega) hi1 hW (cy_eY_o) rfl 10 (by decide) (hts (.fieldLink RX1 15 "CaskYard$Cask" "amounts" "[I") (by decide +kernel)) (fun _ h9 => h9) (v := .ref (ad (3 * c + 13))) rfl dX1_canBeBlended_15 ?_
      refine lv_iconst (v := 4) hx hb dX1_canBeBlended_18 (by decide) ?_
      refine cy_iald hC (3 * c + 13) (by omega) hW 0 (i := 4) (cy_eY_a) rfl (by omega) (by decide) dX1_canBeBlended_19 ?_
      refine lv_if_ne (tgt := 27) hx hb dX1_canBeBlended_20 (by decide) (fun c_20 => ?_) (fun c_20 => ?_)
      · skip
        refine lv_iconst (v := 0) hx hb dX1_canBeBlended_27 (by decide) ?_
        refine cy_topv (congrArg Value.int (show 0 = cy_rCan S c from by simp only [cy_rCan, c_4, c_11, c_20, ↓reduceIte, not_true_eq_false, not_false_eq_true])) ?_
        exact hE _ _ _ _ _ _ (Nat.le_of_ble_eq_true rfl) (Nat.le_of_ble_eq_true rfl) hW dX1_canBeBlended_28
      · skip
        refine lv_iconst (v := 1) hx hb dX1_canBeBlended_23 (by decide) ?_
        refine lv_goto (tgt := 28) hx hb dX1_canBeBlended_24 (by decide) ?_
        refine cy_topv (congrArg Value.int (show 1 = cy_rCan S c from by simp only [cy_rCan, c_4, c_11, c_20, ↓reduceIte, not_true_eq_false, not_false_eq_true])) ?_
        exact hE _ _ _ _ _ _ (Nat.le_of_ble_eq_true rfl) (Nat.le_of_ble_eq_true rfl) hW dX1_canBeBlended_28
abbrev rm_X1_countFilling : Room := { frames := 1, cells := 0, slots := 0, locals := 22 }
set_option maxHeartbeats 4000000 in
set_option maxRecDepth 100000 in
theorem c_X1_countFilling {l : Launch} {D : va_G} {kI kJ kZ kC : ClassId} {ad : Nat → Nat} {S : Nat → Nat → Int32} {tl : va_W} {Z : Nat → Int64} {c : Nat} (hc : c < 13) : cy_M l yX1_countFilling wsX1_countFilling rm_X1_countFilling D (cy_tys kI kJ kZ kC) [.ref (ad (3 * c + 11))] (cy_Y kI kJ kC ad S Z tl) none (cy_Y kI kJ kC ad (cy_sCf S c) Z tl) := by
  refine cy_of (own := RX1) (cc := cX1_countFilling) (maxL := 1) (ret := none) (i := .return_) (by decide) rfl rfl (Nat.le_of_ble_eq_true rfl) cy_endV ?_
  intro p e s m args below meth co Q A ls hC hE hW hl
  have hx := hC.1.1; have hb := hC.1.2.1; have hml := hC.1.2.2.1; have hown := hC.1.2.2.2.1; have hts := hC.1.2.2.2.2
  have hl : lv_has ls 1 [(0, .ref (ad (3 * c + 11)))] := hl
  have hi1 : ∀ w ∈ u_ws RX1 TX1 11, w ∈ wsX1_countFilling := by decide +kernel
  refine lv_aload_n hx hb dX1_countFilling_0 rfl (lv_at hl 0 rfl) ?_
  refine cy_callV (As := []) (rest := []) (q0 := 3 * c + 11) (ci := 1) hC.1 hC.2.1 hC.2.2 hW (c_X1_held (c := c) (by omega)) (cwV 0 hts gX1_countFilling_X1_held rfl rfl rfl (by decide +kernel) ⟨Nat.le_of_ble_eq_true rfl, Nat.le_of_ble_eq_true rfl⟩) (cy_w_at (by omega) (cy_eY_o)) rfl rfl hl.1 rfl (Nat.le_of_ble_eq_true rfl) dX1_countFilling_1 ⟨Nat.le_of_ble_eq_true rfl, Nat.le_of_ble_eq_true rfl⟩ (k' := 0) (n' := 0) rfl rfl (fun H locs hW => ?_)
  refine lv_if_ne (tgt := 17) hx hb dX1_countFilling_4 (by decide) (fun c_4 => ?_) (fun c_4 => ?_)
  · skip
    have hW := cy_castS (show S = (cy_sCf S c) from by simp only [cy_sCf, c_4, ↓reduceIte, not_true_eq_false, not_false_eq_true]) hW
    exact hE _ _ _ _ _ _ (Nat.le_of_ble_eq_true rfl) (Nat.le_of_ble_eq_true rfl) hW dX1_countFilling_17
  · skip
    refine lv_aload_n hx hb dX1_countFilling_7 rfl (lv_at hl 0 rfl) ?_
    refine lv_dup hx hb dX1_countFilling_8 rfl ?_
    refine cy_get hC (3 * c + 11) (by omega) hi1 hW (cy_eY_o) rfl 6 (by decide) (hts (.fieldLink RX1 32 "CaskYard$Cask" "fillings" "I") (by decide +kernel)) (fun _ h9 => h9) (v := .int (S (3 * c + 11) 6)) rfl dX1_countFilling_9 ?_
    refine lv_iconst (v := 1) hx hb dX1_countFilling_12 (by decide) ?_
    refine lv_iadd hx hb dX1_countFilling_13 ?_
    refine cy_put hC (3 * c + 11) (by omega) hi1 tyX1 tyX1_ok nmX1 hW (cy_eY_o) rfl 6 (by decide) (hts (.fieldLink RX1 32 "CaskYard$Cask" "fillings" "I") (by decide +kernel)) (fun _ h9 => h9) rfl (ty := .int) (by decide +kernel) rfl rfl (Nat.le_of_ble_eq_true rfl) (upd (S (3 * c + 11)) 6 ((S (3 * c + 11) 6) + 1)) cy_hC6 (S' := (va_up S (3 * c + 11) (upd (S (3 * c + 11)) 6 ((S (3 * c + 11) 6) + 1)))) rfl dX1_countFilling_14 (fun H locs hW => ?_)
    have hW := cy_castS (show (va_up S (3 * c + 11) (upd (S (3 * c + 11)) 6 ((S (3 * c + 11) 6) + 1))) = (cy_sCf S c) from by simp only [cy_sCf, c_4, ↓reduceIte, not_true_eq_false, not_false_eq_true]) hW
    exact hE _ _ _ _ _ _ (Nat.le_of_ble_eq_true rfl) (Nat.le_of_ble_eq_true rfl) hW dX1_countFilling_17
abbrev rm_X1_takeOak : Room := { frames := 1, cells := 0, slots := 0, locals := 22 }
set_option maxHeartbeats 4000000 in
set_option maxRecDepth 100000 in
theorem c_X1_takeOak {l : Launch} {D : va_G} {kI kJ kZ kC : ClassId} {ad : Nat → Nat} {S : Nat → Nat → Int32} {tl : va_W} {Z : Nat → Int64} {c : Nat} (hc : c < 13) : cy_M l yX1_takeOak wsX1_takeOak rm_X1_takeOak D (cy_tys kI kJ kZ kC) [.ref (ad (3 * c + 11))] (cy_Y kI kJ kC ad S Z tl) none (cy_Y kI kJ kC ad (cy_sTk S c) Z tl) := by
  refine cy_of (own := RX1) (cc := cX1_takeOak) (maxL := 2) (ret := none) (i := .return_) (by decide) rfl rfl (Nat.le_of_ble_eq_true rfl) cy_endV ?_
  intro p e s m args below meth co Q A ls hC hE hW hl
  have hx := hC.1.1; have hb := hC.1.2.1; have hml := hC.1.2.2.1; have hown := hC.1.2.2.2.1; have hts := hC.1.2.2.2.2
  have hl : lv_has ls 2 [(0, .ref (ad (3 * c + 11)))] := hl
  have hi1 : ∀ w ∈ u_ws RX1 TX1 11, w ∈ wsX1_takeOak := by decide +kernel
  refine lv_aload_n hx hb dX1_takeOak_0 rfl (lv_at hl 0 rfl) ?_
  refine cy_callV (As := []) (rest := []) (q0 := 3 * c + 11) (ci := 1) hC.1 hC.2.1 hC.2.2 hW (c_X1_held (c := c) (by omega)) (cwV 0 hts gX1_takeOak_X1_held rfl rfl rfl (by decide +kernel) ⟨Nat.le_of_ble_eq_true rfl, Nat.le_of_ble_eq_true rfl⟩) (cy_w_at (by omega) (cy_eY_o)) rfl rfl hl.1 rfl (Nat.le_of_ble_eq_true rfl) dX1_takeOak_1 ⟨Nat.le_of_ble_eq_true rfl, Nat.le_of_ble_eq_true rfl⟩ (k' := 0) (n' := 0) rfl rfl (fun H locs hW => ?_)
  refine lv_bipush (v := 100) hx hb dX1_takeOak_4 (by decide) ?_
  refine lv_idiv hx hb dX1_takeOak_6 (by decide) ?_
  refine lv_bipush (v := 8) hx hb dX1_takeOak_7 (by decide) ?_
  refine lv_aload_n hx hb dX1_takeOak_9 rfl (lv_at hl 0 rfl) ?_
  refine cy_get hC (3 * c + 11) (by omega) hi1 hW (cy_eY_o) rfl 6 (by decide) (hts (.fieldLink RX1 32 "CaskYard$Cask" "fillings" "I") (by decide +kernel)) (fun _ h9 => h9) (v := .int (S (3 * c + 11) 6)) rfl dX1_takeOak_10 ?_
  refine lv_isub hx hb dX1_takeOak_13 ?_
  refine lv_imul hx hb dX1_takeOak_14 ?_
  refine lv_istore_n (lv' := [(1, .int (((cy_sm (S (3 * c + 13)) 5) / 100) * (8 - (S (3 * c + 11) 6)))), (0, .ref (ad (3 * c + 11)))]) hx hb dX1_takeOak_15 rfl hl (by decide) rfl (fun ls hl => ?_)
  refine lv_iload_n hx hb dX1_takeOak_16 rfl (lv_at hl 0 rfl) ?_
  refine lv_if_le (tgt := 30) hx hb dX1_takeOak_17 (by decide) (fun c_17 => ?_) (fun c_17 => ?_)
  · skip
    have hW := cy_castS (show S = (cy_sTk S c) from by unfold cy_sTk cy_gr; simp only [c_17, ↓reduceIte]) hW
    exact hE _ _ _ _ _ _ (Nat.le_of_ble_eq_true rfl) (Nat.le_of_ble_eq_true rfl) hW dX1_takeOak_30
  · skip
    refine lv_aload_n hx hb dX1_takeOak_20 rfl (lv_at hl 1 rfl) ?_
    refine lv_dup hx hb dX1_takeOak_21 rfl ?_
    refine cy_get hC (3 * c + 11) (by omega) hi1 hW (cy_eY_o) rfl 8 (by decide) (hts (.fieldLink RX1 38 "CaskYard$Cask" "grains" "I") (by decide +kernel)) (fun _ h9 => h9) (v := .int (S (3 * c + 11) 8)) rfl dX1_takeOak_22 ?_
    refine lv_iload_n hx hb dX1_takeOak_25 rfl (lv_at hl 0 rfl) ?_
    refine lv_iadd hx hb dX1_takeOak_26 ?_
    refine cy_put hC (3 * c + 11) (by omega) hi1 tyX1 tyX1_ok nmX1 hW (cy_eY_o) rfl 8 (by decide) (hts (.fieldLink RX1 38 "CaskYard$Cask" "grains" "I") (by decide +kernel)) (fun _ h9 => h9) rfl (ty := .int) (by decide +kernel) rfl rfl (Nat.le_of_ble_eq_true rfl) (upd (S (3 * c + 11)) 8 ((S (3 * c + 11) 8) + (((cy_sm (S (3 * c + 13)) 5) / 100) * (8 - (S (3 * c + 11) 6))))) cy_hC8 (S' := (va_up S (3 * c + 11) (upd (S (3 * c + 11)) 8 ((S (3 * c + 11) 8) + (((cy_sm (S (3 * c + 13)) 5) / 100) * (8 - (S (3 * c + 11) 6))))))) rfl dX1_takeOak_27 (fun H locs hW => ?_)
    have hW := cy_castS (show (va_up S (3 * c + 11) (upd (S (3 * c + 11)) 8 ((S (3 * c + 11) 8) + (((cy_sm (S (3 * c + 13)) 5) / 100) * (8 - (S (3 * c + 11) 6)))))) = (cy_sTk S c) from by unfold cy_sTk cy_gr; simp only [c_17, ↓reduceIte]) hW
    exact hE _ _ _ _ _ _ (Nat.le_of_ble_eq_true rfl) (Nat.le_of_ble_eq_true rfl) hW dX1_takeOak_30
abbrev rm_X1_swell : Room := { frames := 1, cells := 0, slots := 0, locals := 22 }
set_option maxHeartbeats 4000000 in
set_option maxRecDepth 100000 in
theorem c_X1_swell {l : Launch} {D : va_G} {kI kJ kZ kC : ClassId} {ad : Nat → Nat} {S : Nat → Nat → Int32} {tl : va_W} {Z : Nat → Int64} {c : Nat} (hc : c < 13) : cy_M l yX1_swell wsX1_swell rm_X1_swell D (cy_tys kI kJ kZ kC) [.ref (ad (3 * c + 11))] (cy_Y kI kJ kC ad S Z tl) none (cy_Y kI kJ kC ad (cy_sSw S c) Z tl) := by
  refine cy_of (own := RX1) (cc := cX1_swell) (maxL := 1) (ret := none) (i := .return_) (by decide) rfl rfl (Nat.le_of_ble_eq_true rfl) cy_endV ?_
  intro p e s m args below meth co Q A ls hC hE hW hl
  have hx := hC.1.1; have hb := hC.1.2.1; have hml := hC.1.2.2.1; have hown := hC.1.2.2.2.1; have hts := hC.1.2.2.2.2
  have hl : lv_has ls 1 [(0, .ref (ad (3 * c + 11)))] := hl
  have hi1 : ∀ w ∈ u_ws RX1 TX1 11, w ∈ wsX1_swell := by decide +kernel
  refine lv_iconst (v := 2) hx hb dX1_swell_0 (by decide) ?_
  refine lv_aload_n hx hb dX1_swell_1 rfl (lv_at hl 0 rfl) ?_
  refine cy_callV (As := []) (rest := [.int 2]) (q0 := 3 * c + 11) (ci := 1) hC.1 hC.2.1 hC.2.2 hW (c_X1_held (c := c) (by omega)) (cwV 0 hts gX1_swell_X1_held rfl rfl rfl (by decide +kernel) ⟨Nat.le_of_ble_eq_true rfl, Nat.le_of_ble_eq_true rfl⟩) (cy_w_at (by omega) (cy_eY_o)) rfl rfl hl.1 rfl (Nat.le_of_ble_eq_true rfl) dX1_swell_2 ⟨Nat.le_of_ble_eq_true rfl, Nat.le_of_ble_eq_true rfl⟩ (k' := 0) (n' := 0) rfl rfl (fun H locs hW => ?_)
  refine lv_imul hx hb dX1_swell_5 ?_
  refine lv_aload_n hx hb dX1_swell_6 rfl (lv_at hl 0 rfl) ?_
  refine cy_get hC (3 * c + 11) (by omega) hi1 hW (cy_eY_o) rfl 1 (by decide) (hts (.fieldLink RX1 50 "CaskYard$Cask" "room" "I") (by decide +kernel)) (fun _ h9 => h9) (v := .int (S (3 * c + 11) 1)) rfl dX1_swell_7 ?_
  refine lv_icmp_lt (tgt := 31) hx hb dX1_swell_10 (by decide) (fun c_10 => ?_) (fun c_10 => ?_)
  · skip
    refine lv_aload_n hx hb dX1_swell_31 rfl (lv_at hl 0 rfl) ?_
    refine lv_iconst (v := 0) hx hb dX1_swell_32 (by decide) ?_
    refine lv_aload_n hx hb dX1_swell_33 rfl (lv_at hl 0 rfl) ?_
    refine cy_get hC (3 * c + 11) (by omega) hi1 hW (cy_eY_o) rfl 5 (by decide) (hts (.fieldLink RX1 29 "CaskYard$Cask" "swelling" "I") (by decide +kernel)) (fun _ h9 => h9) (v := .int (S (3 * c + 11) 5)) rfl dX1_swell_34 ?_
    refine lv_iconst (v := 3) hx hb dX1_swell_37 (by decide) ?_
    refine lv_isub hx hb dX1_swell_38 ?_
    refine va_mmax hx hb (hml.trans hl.1.symm) hown (hts (.methodLink RX1 63 Lib.Math.max.name) (by decide +kernel)) (hts (.static Lib.Math.max.name) (by decide +kernel)) (hts (.initialized "java/lang/Math") (by decide +kernel)) (hts (.code Lib.Math.max.name Lib.Math.max.code 2 (some .int)) (by decide +kernel)) (Nat.le_of_ble_eq_true rfl) (Nat.le_of_ble_eq_true rfl) (Nat.le_of_ble_eq_true rfl) (Nat.le_of_ble_eq_true rfl) dX1_swell_39 ?_
    refine cy_topv (show _ = Value.int (cy_mx 0 ((S (3 * c + 11) 5) - 3)) from rfl) ?_
    refine cy_put hC (3 * c + 11) (by omega) hi1 tyX1 tyX1_ok nmX1 hW (cy_eY_o) rfl 5 (by decide) (hts (.fieldLink RX1 29 "CaskYard$Cask" "swelling" "I") (by decide +kernel)) (fun _ h9 => h9) rfl (ty := .int) (by decide +kernel) rfl rfl (Nat.le_of_ble_eq_true rfl) (upd (S (3 * c + 11)) 5 (cy_mx 0 ((S (3 * c + 11) 5) - 3))) cy_hC5 (S' := (va_up S (3 * c + 11) (upd (S (3 * c + 11)) 5 (cy_mx 0 ((S (3 * c + 11) 5) - 3))))) rfl dX1_swell_42 (fun H locs hW => ?_)
    have hW := cy_castS (show (va_up S (3 * c + 11) (upd (S (3 * c + 11)) 5 (cy_mx 0 ((S (3 * c + 11) 5) - 3)))) = (cy_sSw S c) from by simp only [cy_sSw, c_10, ↓reduceIte, not_true_eq_false, not_false_eq_true]) hW
    exact hE _ _ _ _ _ _ (Nat.le_of_ble_eq_true rfl) (Nat.le_of_ble_eq_true rfl) hW dX1_swell_45
  · skip
    refine lv_aload_n hx hb dX1_swell_13 rfl (lv_at hl 0 rfl) ?_
    refine lv_bipush (v := 20) hx hb dX1_swell_14 (by decide) ?_
    refine lv_aload_n hx hb dX1_swell_16 rfl (lv_at hl 0 rfl) ?_
    refine cy_get hC (3 * c + 11) (by omega) hi1 hW (cy_eY_o) rfl 5 (by decide) (hts (.fieldLink RX1 29 "CaskYard$Cask" "swelling" "I") (by decide +kernel)) (fun _ h9 => h9) (v := .int (S (3 * c + 11) 5)) rfl dX1_swell_17 ?_
    refine lv_iconst (v := 5) hx hb dX1_swell_20 (by decide) ?_
    refine lv_iadd hx hb dX1_swell_21 ?_
    refine va_mmin hx hb (hml.trans hl.1.symm) hown (hts (.methodLink RX1 99 Lib.Math.min.name) (by decide +kernel)) (hts (.static Lib.Math.min.name) (by decide +kernel)) (hts (.initialized "java/lang/Math") (by decide +kernel)) (hts (.code Lib.Math.min.name Lib.Math.min.code 2 (some .int)) (by decide +kernel)) (Nat.le_of_ble_eq_true rfl) (Nat.le_of_ble_eq_true rfl) (Nat.le_of_ble_eq_true rfl) (Nat.le_of_ble_eq_true rfl) dX1_swell_22 ?_
    refine cy_topv (show _ = Value.int (cy_mn 20 ((S (3 * c + 11) 5) + 5)) from rfl) ?_
    refine cy_put hC (3 * c + 11) (by omega) hi1 tyX1 tyX1_ok nmX1 hW (cy_eY_o) rfl 5 (by decide) (hts (.fieldLink RX1 29 "CaskYard$Cask" "swelling" "I") (by decide +kernel)) (fun _ h9 => h9) rfl (ty := .int) (by decide +kernel) rfl rfl (Nat.le_of_ble_eq_true rfl) (upd (S (3 * c + 11)) 5 (cy_mn 20 ((S (3 * c + 11) 5) + 5))) cy_hC5 (S' := (va_up S (3 * c + 11) (upd (S (3 * c + 11)) 5 (cy_mn 20 ((S (3 * c + 11) 5) + 5))))) rfl dX1_swell_25 (fun H locs hW => ?_)
    refine lv_goto (tgt := 45) hx hb dX1_swell_28 (by decide) ?_
    have hW := cy_castS (show (va_up S (3 * c + 11) (upd (S (3 * c + 11)) 5 (cy_mn 20 ((S (3 * c + 11) 5) + 5)))) = (cy_sSw S c) from by simp only [cy_sSw, c_10, ↓reduceIte, not_true_eq_false, not_false_eq_true]) hW
    exact hE _ _ _ _ _ _ (Nat.le_of_ble_eq_true rfl) (Nat.le_of_ble_eq_true rfl) hW dX1_swell_45
abbrev rm_X1_lose : Room := { frames := 1, cells := 0, slots := 0, locals := 17 }
set_option maxHeartbeats 4000000 in
set_option maxRecDepth 100000 in
theorem c_X1_lose {l : Launch} {D : va_G} {kI kJ kZ kC : ClassId} {ad : Nat → Nat} {S : Nat → Nat → Int32} {tl : va_W} {Z : Nat → Int64} {th : Int32} {c : Nat} (hc : c < 13) : cy_M l yX1_lose wsX1_lose rm_X1_lose D (cy_tys kI kJ kZ kC) [.ref (ad (3 * c + 11)), .int th] (cy_Y kI kJ kC ad S Z tl) (some (.int ((cy_lo S c th 5).2))) (cy_Y kI kJ kC ad (cy_lo S c th 5).1 Z tl) := by
  refine cy_of (own := RX1) (cc := cX1_lose) (maxL := 8) (ret := (some .int)) (i := .ireturn) (by decide) rfl rfl (Nat.le_of_ble_eq_true rfl) (cy_endI rfl) ?_
  intro p e s m args below meth co Q A ls hC hE hW hl
  have hx := hC.1.1; have hb := hC.1.2.1; have hml := hC.1.2.2.1; have hown := hC.1.2.2.2.1; have hts := hC.1.2.2.2.2
  have hl : lv_has ls 8 [(0, .ref (ad (3 * c + 11))), (1, .int th)] := hl
  have hi1 : ∀ w ∈ u_ws RX1 TX1 11, w ∈ wsX1_lose := by decide +kernel
  refine lv_iconst (v := 0) hx hb dX1_lose_0 (by decide) ?_
  refine lv_istore_n (lv' := [(2, .int 0), (0, .ref (ad (3 * c + 11))), (1, .int th)]) hx hb dX1_lose_1 rfl hl (by decide) rfl (fun ls hl => ?_)
  refine lv_iconst (v := 0) hx hb dX1_lose_2 (by decide) ?_
  refine lv_istore_n (lv' := [(3, .int 0), (2, .int 0), (0, .ref (ad (3 * c + 11))), (1, .int th)]) hx hb dX1_lose_3 rfl hl (by decide) rfl (fun ls hl => ?_)
  have L_4 : ∀ (fu : Nat) (i : Nat), 5 - i < fu → (i ≤ 5) → ∀ (H : Heap) (locs : List Loc), cy_W D A s.heap (cy_Y kI kJ kC ad (cy_lo S c th i).1 Z tl) H locs → ∀ (ls : Array Slot), lv_has ls 8 [(2, .int ((cy_lo S c th i).2)), (3, .int (nI i)), (0, .ref (ad (3 * c + 11))), (1, .int th)] → W p l e rm_X1_lose s m args below meth co H locs 0 0 Q (F0 m 4 ls []) := by
    intro fu
    induction fu with
    | zero => intro i hn; exact absurd hn (Nat.not_lt_zero _)
    | succ fu ih_4 =>
      intro i hn_4 hi H locs hW ls hl
      refine lv_iload_n hx hb dX1_lose_4 rfl (lv_at hl 1 rfl) ?_
      refine lv_iconst (v := 5) hx hb dX1_lose_5 (by decide) ?_
      refine lv_icmp_ge (tgt := 71) hx hb dX1_lose_6 (by decide) (fun c_6 => ?_) (fun c_6 => ?_)
      · skip
        have q_6 := cy_le (a := 5) (b := i) (by omega) (by omega) c_6
        refine lv_iload_n hx hb dX1_lose_71 rfl (lv_at hl 0 rfl) ?_
        obtain rfl : i = 5 := by omega
        exact hE _ _ _ _ _ _ (Nat.le_of_ble_eq_true rfl) (Nat.le_of_ble_eq_true rfl) hW dX1_lose_72
      · skip
        have q_6 := cy_nle (a := 5) (b := i) (by omega) (by omega) c_6
        refine lv_aload_n hx hb dX1_lose_9 rfl (lv_at hl 2 rfl) ?_
        refine cy_get hC (3 * c + 11) (by omega) hi1 hW (cy_eY_o) rfl 10 (by decide) (hts (.fieldLink RX1 15 "CaskYard$Cask" "amounts" "[I") (by decide +kernel)) (fun _ h9 => h9) (v := .ref (ad (3 * c + 13))) rfl dX1_lose_10 ?_
        refine lv_iload_n hx hb dX1_lose_13 rfl (lv_at hl 1 rfl) ?_
        refine cy_iald hC (3 * c + 13) (by omega) hW 0 (i := i) (cy_eY_a) rfl (by omega) (by decide) dX1_lose_14 ?_
        refine lv_istore (lv' := [(4, .int (((cy_lo S c th i).1 (3 * c + 13)) i)), (2, .int ((cy_lo S c th i).2)), (3, .int (nI i)), (0, .ref (ad (3 * c + 11))), (1, .int th)]) hx hb dX1_lose_15 hl (by decide) rfl (fun ls hl => ?_)
        refine lv_iload hx hb dX1_lose_17 (lv_at hl 0 rfl) ?_
        refine lv_if_le (tgt := 65) hx hb dX1_lose_19 (by decide) (fun c_19 => ?_) (fun c_19 => ?_)
        · skip
          refine lv_iinc (v := nI (i + 1)) (lv' := [(3, .int (nI (i + 1))), (4, .int (((cy_lo S c th i).1 (3 * c + 13)) i)), (2, .int ((cy_lo S c th i).2)), (0, .ref (ad (3 * c + 11))), (1, .int th)]) hx hb dX1_lose_65 hl (k := 2) rfl (nI_1 i) (by decide) rfl (fun ls hl => ?_)
          refine lv_goto (tgt := 4) hx hb dX1_lose_68 (by decide) ?_
          rw [show (cy_lo S c th i).2 = (cy_lo S c th (i + 1)).2 from by simp only [cy_lo, cy_ls, c_6, c_19, ↓reduceIte, not_true_eq_false, not_false_eq_true]] at hl
          have hW := cy_castS (show (cy_lo S c th i).1 = (cy_lo S c th (i + 1)).1 from by simp only [cy_lo, cy_ls, c_6, c_19, ↓reduceIte, not_true_eq_false, not_false_eq_true]) hW
          exact ih_4 (i + 1) (by omega) (by omega) _ _ hW _ (lv_sub hl [2, 0, 3, 4] rfl)
        · skip
          refine lv_iload hx hb dX1_lose_22 (lv_at hl 0 rfl) ?_
          refine lv_i2l hx hb dX1_lose_24 rfl ?_
          refine lv_iload_n hx hb dX1_lose_25 rfl (lv_at hl 4 rfl) ?_
          refine lv_i2l hx hb dX1_lose_26 rfl ?_
          refine lv_lmul hx hb dX1_lose_27 ?_
          refine lv_ldc2 (v := 1000) hx hb hown (hts (.constantLong RX1 74 1000) (by decide +kernel)) dX1_lose_28 ?_
          refine lv_ldiv hx hb dX1_lose_31 (by decide) ?_
          refine lv_lstore (lv' := [(5, .long ((((((cy_lo S c th i).1 (3 * c + 13)) i).toInt64) * th.toInt64) / 1000)), (4, .int (((cy_lo S c th i).1 (3 * c + 13)) i)), (2, .int ((cy_lo S c th i).2)), (3, .int (nI i)), (0, .ref (ad (3 * c + 11))), (1, .int th)]) hx hb dX1_lose_32 hl (by decide) rfl (fun ls hl => ?_)
          refine lv_iload hx hb dX1_lose_34 (lv_at hl 1 rfl) ?_
          refine lv_i2l hx hb dX1_lose_36 rfl ?_
          refine lv_lconst (v := 1) hx hb dX1_lose_37 rfl ?_
          refine lv_lload hx hb dX1_lose_38 (lv_at hl 0 rfl) ?_
          refine va_mmax_long hx hb (hml.trans hl.1.symm) hown (hts (.methodLink RX1 101 Lib.MathLoose.max_long.x) (by decide +kernel)) (hts (.static Lib.MathLoose.max_long.x) (by decide +kernel)) (hts (.initialized "java/lang/Math") (by decide +kernel)) (hts (.code Lib.MathLoose.max_long.x Lib.MathLoose.max_long.code 4 (some .long)) (by decide +kernel)) (Nat.le_of_ble_eq_true rfl) (Nat.le_of_ble_eq_true rfl) (Nat.le_of_ble_eq_true rfl) (Nat.le_of_ble_eq_true rfl) dX1_lose_40 ?_
          refine cy_topv (show _ = Value.long (cy_mxL 1 ((((((cy_lo S c th i).1 (3 * c + 13)) i).toInt64) * th.toInt64) / 1000)) from rfl) ?_
          refine va_mmin_long hx hb (hml.trans hl.1.symm) hown (hts (.methodLink RX1 76 Lib.MathLoose.min_long.x) (by decide +kernel)) (hts (.static Lib.MathLoose.min_long.x) (by decide +kernel)) (hts (.initialized "java/lang/Math") (by decide +kernel)) (hts (.code Lib.MathLoose.min_long.x Lib.MathLoose.min_long.code 4 (some .long)) (by decide +kernel)) (Nat.le_of_ble_eq_true rfl) (Nat.le_of_ble_eq_true rfl) (Nat.le_of_ble_eq_true rfl) (Nat.le_of_ble_eq_true rfl) dX1_lose_43 ?_
          refine cy_topv (show _ = Value.long (cy_mnL ((((cy_lo S c th i).1 (3 * c + 13)) i).toInt64) (cy_mxL 1 ((((((cy_lo S c th i).1 (3 * c + 13)) i).toInt64) * th.toInt64) / 1000))) from rfl) ?_
          refine lv_l2i hx hb dX1_lose_46 rfl ?_
          refine lv_istore (lv' := [(7, .int ((cy_mnL ((((cy_lo S c th i).1 (3 * c + 13)) i).toInt64) (cy_mxL 1 ((((((cy_lo S c th i).1 (3 * c + 13)) i).toInt64) * th.toInt64) / 1000))).toInt32)), (5, .long ((((((cy_lo S c th i).1 (3 * c + 13)) i).toInt64) * th.toInt64) / 1000)), (4, .int (((cy_lo S c th i).1 (3 * c + 13)) i)), (2, .int ((cy_lo S c th i).2)), (3, .int (nI i)), (0, .ref (ad (3 * c + 11))), (1, .int th)]) hx hb dX1_lose_47 hl (by decide) rfl (fun ls hl => ?_)
          refine lv_aload_n hx hb dX1_lose_49 rfl (lv_at hl 5 rfl) ?_
          refine cy_get hC (3 * c + 11) (by omega) hi1 hW (cy_eY_o) rfl 10 (by decide) (hts (.fieldLink RX1 15 "CaskYard$Cask" "amounts" "[I") (by decide +kernel)) (fun _ h9 => h9) (v := .ref (ad (3 * c + 13))) rfl dX1_lose_50 ?_
          refine lv_iload_n hx hb dX1_lose_53 rfl (lv_at hl 4 rfl) ?_
          refine lv_iload hx hb dX1_lose_54 (lv_at hl 2 rfl) ?_
          refine lv_iload hx hb dX1_lose_56 (lv_at hl 0 rfl) ?_
          refine lv_isub hx hb dX1_lose_58 ?_
          refine cy_iast hC (3 * c + 13) (by omega) hW 0 (i := i) (cy_eY_a) rfl (by omega) (by decide) (upd ((cy_lo S c th i).1 (3 * c + 13)) i ((((cy_lo S c th i).1 (3 * c + 13)) i) - ((cy_mnL ((((cy_lo S c th i).1 (3 * c + 13)) i).toInt64) (cy_mxL 1 ((((((cy_lo S c th i).1 (3 * c + 13)) i).toInt64) * th.toInt64) / 1000))).toInt32))) cy_eY_a.symm (S' := (va_up (cy_lo S c th i).1 (3 * c + 13) (upd ((cy_lo S c th i).1 (3 * c + 13)) i ((((cy_lo S c th i).1 (3 * c + 13)) i) - ((cy_mnL ((((cy_lo S c th i).1 (3 * c + 13)) i).toInt64) (cy_mxL 1 ((((((cy_lo S c th i).1 (3 * c + 13)) i).toInt64) * th.toInt64) / 1000))).toInt32))))) rfl dX1_lose_59 (fun H locs hW => ?_)
          refine lv_iload_n hx hb dX1_lose_60 rfl (lv_at hl 3 rfl) ?_
          refine lv_iload hx hb dX1_lose_61 (lv_at hl 0 rfl) ?_
          refine lv_iadd hx hb dX1_lose_63 ?_
          refine lv_istore_n (lv' := [(2, .int (((cy_lo S c th i).2) + ((cy_mnL ((((cy_lo S c th i).1 (3 * c + 13)) i).toInt64) (cy_mxL 1 ((((((cy_lo S c th i).1 (3 * c + 13)) i).toInt64) * th.toInt64) / 1000))).toInt32))), (7, .int ((cy_mnL ((((cy_lo S c th i).1 (3 * c + 13)) i).toInt64) (cy_mxL 1 ((((((cy_lo S c th i).1 (3 * c + 13)) i).toInt64) * th.toInt64) / 1000))).toInt32)), (5, .long ((((((cy_lo S c th i).1 (3 * c + 13)) i).toInt64) * th.toInt64) / 1000)), (4, .int (((cy_lo S c th i).1 (3 * c + 13)) i)), (3, .int (nI i)), (0, .ref (ad (3 * c + 11))), (1, .int th)]) hx hb dX1_lose_64 rfl hl (by decide) rfl (fun ls hl => ?_)
          refine lv_iinc (v := nI (i + 1)) (lv' := [(3, .int (nI (i + 1))), (2, .int (((cy_lo S c th i).2) + ((cy_mnL ((((cy_lo S c th i).1 (3 * c + 13)) i).toInt64) (cy_mxL 1 ((((((cy_lo S c th i).1 (3 * c + 13)) i).toInt64) * th.toInt64) / 1000))).toInt32))), (7, .int ((cy_mnL ((((cy_lo S c th i).1 (3 * c + 13)) i).toInt64) (cy_mxL 1 ((((((cy_lo S c th i).1 (3 * c + 13)) i).toInt64) * th.toInt64) / 1000))).toInt32)), (5, .long ((((((cy_lo S c th i).1 (3 * c + 13)) i).toInt64) * th.toInt64) / 1000)), (4, .int (((cy_lo S c th i).1 (3 * c + 13)) i)), (0, .ref (ad (3 * c + 11))), (1, .int th)]) hx hb dX1_lose_65 hl (k := 4) rfl (nI_1 i) (by decide) rfl (fun ls hl => ?_)
          refine lv_goto (tgt := 4) hx hb dX1_lose_68 (by decide) ?_
          rw [show ((cy_lo S c th i).2) + ((cy_mnL ((((cy_lo S c th i).1 (3 * c + 13)) i).toInt64) (cy_mxL 1 ((((((cy_lo S c th i).1 (3 * c + 13)) i).toInt64) * th.toInt64) / 1000))).toInt32) = (cy_lo S c th (i + 1)).2 from by simp only [cy_lo, cy_ls, c_6, c_19, ↓reduceIte, not_true_eq_false, not_false_eq_true]] at hl
          have hW := cy_castS (show (va_up (cy_lo S c th i).1 (3 * c + 13) (upd ((cy_lo S c th i).1 (3 * c + 13)) i ((((cy_lo S c th i).1 (3 * c + 13)) i) - ((cy_mnL ((((cy_lo S c th i).1 (3 * c + 13)) i).toInt64) (cy_mxL 1 ((((((cy_lo S c th i).1 (3 * c + 13)) i).toInt64) * th.toInt64) / 1000))).toInt32)))) = (cy_lo S c th (i + 1)).1 from by simp only [cy_lo, cy_ls, c_6, c_19, ↓reduceIte, not_true_eq_false, not_false_eq_true]) hW
          exact ih_4 (i + 1) (by omega) (by omega) _ _ hW _ (lv_sub hl [1, 0, 5, 6] rfl)
  exact L_4 ((5 - 0) + 1) 0 (Nat.lt_succ_self _) (by omega) _ _ hW _ (lv_sub hl [1, 0, 2, 3] rfl)
abbrev rm_X1_takeAir : Room := { frames := 1, cells := 0, slots := 0, locals := 23 }
set_option maxHeartbeats 4000000 in
set_option maxRecDepth 100000 in
theorem c_X1_takeAir {l : Launch} {D : va_G} {kI kJ kZ kC : ClassId} {ad : Nat → Nat} {S : Nat → Nat → Int32} {tl : va_W} {Z : Nat → Int64} {c : Nat} (hc : c < 13) : cy_M l yX1_takeAir wsX1_takeAir rm_X1_takeAir D (cy_tys kI kJ kZ kC) [.ref (ad (3 * c + 11))] (cy_Y kI kJ kC ad S Z tl) none (cy_Y kI kJ kC ad (cy_sAir S c) Z tl) := by
  refine cy_of (own := RX1) (cc := cX1_takeAir) (maxL := 2) (ret := none) (i := .return_) (by decide) rfl rfl (Nat.le_of_ble_eq_true rfl) cy_endV ?_
  intro p e s m args below meth co Q A ls hC hE hW hl
  have hx := hC.1.1; have hb := hC.1.2.1; have hml := hC.1.2.2.1; have hown := hC.1.2.2.2.1; have hts := hC.1.2.2.2.2
  have hl : lv_has ls 2 [(0, .ref (ad (3 * c + 11)))] := hl
  have hi1 : ∀ w ∈ u_ws RX1 TX1 11, w ∈ wsX1_takeAir := by decide +kernel
  refine lv_aload_n hx hb dX1_takeAir_0 rfl (lv_at hl 0 rfl) ?_
  refine cy_callV (As := []) (rest := []) (q0 := 3 * c + 11) (ci := 1) hC.1 hC.2.1 hC.2.2 hW (c_X1_held (c := c) (by omega)) (cwV 0 hts gX1_takeAir_X1_held rfl rfl rfl (by decide +kernel) ⟨Nat.le_of_ble_eq_true rfl, Nat.le_of_ble_eq_true rfl⟩) (cy_w_at (by omega) (cy_eY_o)) rfl rfl hl.1 rfl (Nat.le_of_ble_eq_true rfl) dX1_takeAir_1 ⟨Nat.le_of_ble_eq_true rfl, Nat.le_of_ble_eq_true rfl⟩ (k' := 0) (n' := 0) rfl rfl (fun H locs hW => ?_)
  refine lv_istore_n (lv' := [(1, .int (cy_sm (S (3 * c + 13)) 5)), (0, .ref (ad (3 * c + 11)))]) hx hb dX1_takeAir_4 rfl hl (by decide) rfl (fun ls hl => ?_)
  refine lv_iload_n hx hb dX1_takeAir_5 rfl (lv_at hl 0 rfl) ?_
  refine lv_if_le (tgt := 34) hx hb dX1_takeAir_6 (by decide) (fun c_6 => ?_) (fun c_6 => ?_)
  · skip
    refine lv_aload_n hx hb dX1_takeAir_34 rfl (lv_at hl 1 rfl) ?_
    refine lv_iconst (v := 0) hx hb dX1_takeAir_35 (by decide) ?_
    refine cy_put hC (3 * c + 11) (by omega) hi1 tyX1 tyX1_ok nmX1 hW (cy_eY_o) rfl 7 (by decide) (hts (.fieldLink RX1 35 "CaskYard$Cask" "airMonths" "I") (by decide +kernel)) (fun _ h9 => h9) rfl (ty := .int) (by decide +kernel) rfl rfl (Nat.le_of_ble_eq_true rfl) (upd (S (3 * c + 11)) 7 0) cy_hC7 (S' := (va_up S (3 * c + 11) (upd (S (3 * c + 11)) 7 0))) rfl dX1_takeAir_36 (fun H locs hW => ?_)
    refine lv_aload_n hx hb dX1_takeAir_39 rfl (lv_at hl 1 rfl) ?_
    refine cy_get hC (3 * c + 11) (by omega) hi1 hW (cy_rd (cy_us) cy_eY_o) rfl 7 (by decide) (hts (.fieldLink RX1 35 "CaskYard$Cask" "airMonths" "I") (by decide +kernel)) (fun _ h9 => h9) (v := .int 0) rfl dX1_takeAir_40 ?_
    refine lv_bipush (v := 6) hx hb dX1_takeAir_43 (by decide) ?_
    refine lv_icmp_ne (tgt := 68) hx hb dX1_takeAir_45 (by decide) (fun c_45 => ?_) (fun c_45 => ?_)
    · skip
      have hW := cy_castS (show (va_up S (3 * c + 11) (upd (S (3 * c + 11)) 7 0)) = (cy_sAir S c) from by simp only [cy_sAir, cy_air, c_6, c_45, ↓reduceIte, not_true_eq_false, not_false_eq_true]) hW
      exact hE _ _ _ _ _ _ (Nat.le_of_ble_eq_true rfl) (Nat.le_of_ble_eq_true rfl) hW dX1_takeAir_68
    · exact absurd c_45 (by decide)
  · skip
    refine lv_iconst (v := 5) hx hb dX1_takeAir_9 (by decide) ?_
    refine lv_iload_n hx hb dX1_takeAir_10 rfl (lv_at hl 0 rfl) ?_
    refine lv_imul hx hb dX1_takeAir_11 ?_
    refine lv_iconst (v := 4) hx hb dX1_takeAir_12 (by decide) ?_
    refine lv_aload_n hx hb dX1_takeAir_13 rfl (lv_at hl 1 rfl) ?_
    refine cy_get hC (3 * c + 11) (by omega) hi1 hW (cy_eY_o) rfl 1 (by decide) (hts (.fieldLink RX1 50 "CaskYard$Cask" "room" "I") (by decide +kernel)) (fun _ h9 => h9) (v := .int (S (3 * c + 11) 1)) rfl dX1_takeAir_14 ?_
    refine lv_imul hx hb dX1_takeAir_17 ?_
    refine lv_icmp_ge (tgt := 34) hx hb dX1_takeAir_18 (by decide) (fun c_18 => ?_) (fun c_18 => ?_)
    · skip
      refine lv_aload_n hx hb dX1_takeAir_34 rfl (lv_at hl 1 rfl) ?_
      refine lv_iconst (v := 0) hx hb dX1_takeAir_35 (by decide) ?_
      refine cy_put hC (3 * c + 11) (by omega) hi1 tyX1 tyX1_ok nmX1 hW (cy_eY_o) rfl 7 (by decide) (hts (.fieldLink RX1 35 "CaskYard$Cask" "airMonths" "I") (by decide +kernel)) (fun _ h9 => h9) rfl (ty := .int) (by decide +kernel) rfl rfl (Nat.le_of_ble_eq_true rfl) (upd (S (3 * c + 11)) 7 0) cy_hC7 (S' := (va_up S (3 * c + 11) (upd (S (3 * c + 11)) 7 0))) rfl dX1_takeAir_36 (fun H locs hW => ?_)
      refine lv_aload_n hx hb dX1_takeAir_39 rfl (lv_at hl 1 rfl) ?_
      refine cy_get hC (3 * c + 11) (by omega) hi1 hW (cy_rd (cy_us) cy_eY_o) rfl 7 (by decide) (hts (.fieldLink RX1 35 "CaskYard$Cask" "airMonths" "I") (by decide +kernel)) (fun _ h9 => h9) (v := .int 0) rfl dX1_takeAir_40 ?_
      refine lv_bipush (v := 6) hx hb dX1_takeAir_43 (by decide) ?_
      refine lv_icmp_ne (tgt := 68) hx hb dX1_takeAir_45 (by decide) (fun c_45 => ?_) (fun c_45 => ?_)
      · skip
        have hW := cy_castS (show (va_up S (3 * c + 11) (upd (S (3 * c + 11)) 7 0)) = (cy_sAir S c) from by simp only [cy_sAir, cy_air, c_6, c_18, c_45, ↓reduceIte, not_true_eq_false, not_false_eq_true]) hW
        exact hE _ _ _ _ _ _ (Nat.le_of_ble_eq_true rfl) (Nat.le_of_ble_eq_true rfl) hW dX1_takeAir_68
      · exact absurd c_45 (by decide)
    · skip
      refine lv_aload_n hx hb dX1_takeAir_21 rfl (lv_at hl 1 rfl) ?_
      refine lv_dup hx hb dX1_takeAir_22 rfl ?_
      refine cy_get hC (3 * c + 11) (by omega) hi1 hW (cy_eY_o) rfl 7 (by decide) (hts (.fieldLink RX1 35 "CaskYard$Cask" "airMonths" "I") (by decide +kernel)) (fun _ h9 => h9) (v := .int (S (3 * c + 11) 7)) rfl dX1_takeAir_23 ?_
      refine lv_iconst (v := 1) hx hb dX1_takeAir_26 (by decide) ?_
      refine lv_iadd hx hb dX1_takeAir_27 ?_
      refine cy_put hC (3 * c + 11) (by omega) hi1 tyX1 tyX1_ok nmX1 hW (cy_eY_o) rfl 7 (by decide) (hts (.fieldLink RX1 35 "CaskYard$Cask" "airMonths" "I") (by decide +kernel)) (fun _ h9 => h9) rfl (ty := .int) (by decide +kernel) rfl rfl (Nat.le_of_ble_eq_true rfl) (upd (S (3 * c + 11)) 7 ((S (3 * c + 11) 7) + 1)) cy_hC7 (S' := (va_up S (3 * c + 11) (upd (S (3 * c + 11)) 7 ((S (3 * c + 11) 7) + 1)))) rfl dX1_takeAir_28 (fun H locs hW => ?_)
      refine lv_goto (tgt := 39) hx hb dX1_takeAir_31 (by decide) ?_
      refine lv_aload_n hx hb dX1_takeAir_39 rfl (lv_at hl 1 rfl) ?_
      refine cy_get hC (3 * c + 11) (by omega) hi1 hW (cy_rd (cy_us) cy_eY_o) rfl 7 (by decide) (hts (.fieldLink RX1 35 "CaskYard$Cask" "airMonths" "I") (by decide +kernel)) (fun _ h9 => h9) (v := .int ((S (3 * c + 11) 7) + 1)) rfl dX1_takeAir_40 ?_
      refine lv_bipush (v := 6) hx hb dX1_takeAir_43 (by decide) ?_
      refine lv_icmp_ne (tgt := 68) hx hb dX1_takeAir_45 (by decide) (fun c_45 => ?_) (fun c_45 => ?_)
      · skip
        have hW := cy_castS (show (va_up S (3 * c + 11) (upd (S (3 * c + 11)) 7 ((S (3 * c + 11) 7) + 1))) = (cy_sAir S c) from by simp only [cy_sAir, cy_air, c_6, c_18, c_45, ↓reduceIte, not_true_eq_false, not_false_eq_true]) hW
        exact hE _ _ _ _ _ _ (Nat.le_of_ble_eq_true rfl) (Nat.le_of_ble_eq_true rfl) hW dX1_takeAir_68
      · skip
        refine lv_aload_n hx hb dX1_takeAir_48 rfl (lv_at hl 1 rfl) ?_
        refine cy_get hC (3 * c + 11) (by omega) hi1 hW (cy_rd (cy_us) cy_eY_o) rfl 10 (by decide) (hts (.fieldLink RX1 15 "CaskYard$Cask" "amounts" "[I") (by decide +kernel)) (fun _ h9 => h9) (v := .ref (ad (3 * c + 13))) rfl dX1_takeAir_49 ?_
        refine lv_iconst (v := 0) hx hb dX1_takeAir_52 (by decide) ?_
        refine cy_callS (As := [.ref (ad (3 * c + 13)), .int 0]) (rest := []) hC.1 hC.2.1 hC.2.2 hW (c_J7_fill_53178 (j := (3 * c + 13)) (N := 5) (by omega) (fun _ => cy_eY_a) (by decide)) (va_cwS 2 hts gX1_takeAir_J7_fill_53178 rfl rfl rfl (by decide +kernel) ⟨Nat.le_of_ble_eq_true rfl, Nat.le_of_ble_eq_true rfl⟩) rfl hl.1 rfl (Nat.le_of_ble_eq_true rfl) dX1_takeAir_53 ⟨Nat.le_of_ble_eq_true rfl, Nat.le_of_ble_eq_true rfl⟩ (k' := 0) (n' := 0) rfl rfl (fun H locs hW => ?_)
        rw [show va_up (va_up S (3 * c + 11) (upd (S (3 * c + 11)) 7 ((S (3 * c + 11) 7) + 1))) (3 * c + 13) (cy_fl ((va_up S (3 * c + 11) (upd (S (3 * c + 11)) 7 ((S (3 * c + 11) 7) + 1))) (3 * c + 13)) 0 5) = (va_up (va_up S (3 * c + 11) (upd (S (3 * c + 11)) 7 ((S (3 * c + 11) 7) + 1))) (3 * c + 13) (cy_fl (S (3 * c + 13)) 0 5)) from by rw [cy_un (by omega)]] at hW
        refine lv_aload_n hx hb dX1_takeAir_56 rfl (lv_at hl 1 rfl) ?_
        refine cy_get hC (3 * c + 11) (by omega) hi1 hW (cy_rd ((cy_un (by omega)).trans cy_us) cy_eY_o) rfl 10 (by decide) (hts (.fieldLink RX1 15 "CaskYard$Cask" "amounts" "[I") (by decide +kernel)) (fun _ h9 => h9) (v := .ref (ad (3 * c + 13))) rfl dX1_takeAir_57 ?_
        refine lv_iconst (v := 4) hx hb dX1_takeAir_60 (by decide) ?_
        refine lv_iload_n hx hb dX1_takeAir_61 rfl (lv_at hl 0 rfl) ?_
        refine cy_iast hC (3 * c + 13) (by omega) hW 0 (i := 4) (cy_rd (cy_us) cy_eY_a) rfl (by omega) (by decide) (upd (cy_fl (S (3 * c + 13)) 0 5) 4 (cy_sm (S (3 * c + 13)) 5)) cy_eY_a.symm (S' := (va_up (va_up S (3 * c + 11) (upd (S (3 * c + 11)) 7 ((S (3 * c + 11) 7) + 1))) (3 * c + 13) (upd (cy_fl (S (3 * c + 13)) 0 5) 4 (cy_sm (S (3 * c + 13)) 5)))) cy_uu dX1_takeAir_62 (fun H locs hW => ?_)
        refine lv_aload_n hx hb dX1_takeAir_63 rfl (lv_at hl 1 rfl) ?_
        refine lv_iconst (v := 0) hx hb dX1_takeAir_64 (by decide) ?_
        refine cy_put hC (3 * c + 11) (by omega) hi1 tyX1 tyX1_ok nmX1 hW (cy_rd ((cy_un (by omega)).trans cy_us) cy_eY_o) rfl 7 (by decide) (hts (.fieldLink RX1 35 "CaskYard$Cask" "airMonths" "I") (by decide +kernel)) (fun _ h9 => h9) rfl (ty := .int) (by decide +kernel) rfl rfl (Nat.le_of_ble_eq_true rfl) (upd (upd (S (3 * c + 11)) 7 ((S (3 * c + 11) 7) + 1)) 7 0) cy_hC7 (S' := (va_up (va_up S (3 * c + 13) (upd (cy_fl (S (3 * c + 13)) 0 5) 4 (cy_sm (S (3 * c + 13)) 5))) (3 * c + 11) (upd (upd (S (3 * c + 11)) 7 ((S (3 * c + 11) 7) + 1)) 7 0))) (cy_upd_1 (by omega)) dX1_takeAir_65 (fun H locs hW => ?_)
        have hW := cy_castS (show (va_up (va_up S (3 * c + 13) (upd (cy_fl (S (3 * c + 13)) 0 5) 4 (cy_sm (S (3 * c + 13)) 5))) (3 * c + 11) (upd (upd (S (3 * c + 11)) 7 ((S (3 * c + 11) 7) + 1)) 7 0)) = (cy_sAir S c) from by simp only [cy_sAir, cy_air, c_6, c_18, c_45, ↓reduceIte, not_true_eq_false, not_false_eq_true]) hW
        exact hE _ _ _ _ _ _ (Nat.le_of_ble_eq_true rfl) (Nat.le_of_ble_eq_true rfl) hW dX1_takeAir_68
abbrev rm_X1_loosen : Room := { frames := 1, cells := 0, slots := 0, locals := 15 }
set_option maxHeartbeats 4000000 in
set_option maxRecDepth 100000 in
theorem c_X1_loosen {l : Launch} {D : va_G} {kI kJ kZ kC : ClassId} {ad : Nat → Nat} {S : Nat → Nat → Int32} {tl : va_W} {Z : Nat → Int64} {c : Nat} (hc : c < 13) : cy_M l yX1_loosen wsX1_loosen rm_X1_loosen D (cy_tys kI kJ kZ kC) [.ref (ad (3 * c + 11))] (cy_Y kI kJ kC ad S Z tl) none (cy_Y kI kJ kC ad (cy_ln S c 8) Z tl) := by
  refine cy_of (own := RX1) (cc := cX1_loosen) (maxL := 2) (ret := none) (i := .return_) (by decide) rfl rfl (Nat.le_of_ble_eq_true rfl) cy_endV ?_
  intro p e s m args below meth co Q A ls hC hE hW hl
  have hx := hC.1.1; have hb := hC.1.2.1; have hml := hC.1.2.2.1; have hown := hC.1.2.2.2.1; have hts := hC.1.2.2.2.2
  have hl : lv_has ls 2 [(0, .ref (ad (3 * c + 11)))] := hl
  have hi1 : ∀ w ∈ u_ws RX1 TX1 11, w ∈ wsX1_loosen := by decide +kernel
  refine lv_iconst (v := 0) hx hb dX1_loosen_0 (by decide) ?_
  refine lv_istore_n (lv' := [(1, .int 0), (0, .ref (ad (3 * c + 11)))]) hx hb dX1_loosen_1 rfl hl (by decide) rfl (fun ls hl => ?_)
  have L_2 : ∀ (fu : Nat) (i : Nat), 8 - i < fu → (i ≤ 8) → ∀ (H : Heap) (locs : List Loc), cy_W D A s.heap (cy_Y kI kJ kC ad (cy_ln S c i) Z tl) H locs → ∀ (ls : Array Slot), lv_has ls 2 [(1, .int (nI i)), (0, .ref (ad (3 * c + 11)))] → W p l e rm_X1_loosen s m args below meth co H locs 0 0 Q (F0 m 2 ls []) := by
    intro fu
    induction fu with
    | zero => intro i hn; exact absurd hn (Nat.not_lt_zero _)
    | succ fu ih_2 =>
      intro i hn_2 hi H locs hW ls hl
      refine lv_iload_n hx hb dX1_loosen_2 rfl (lv_at hl 0 rfl) ?_
      refine lv_bipush (v := 8) hx hb dX1_loosen_3 (by decide) ?_
      refine lv_icmp_ge (tgt := 32) hx hb dX1_loosen_5 (by decide) (fun c_5 => ?_) (fun c_5 => ?_)
      · skip
        have q_5 := cy_le (a := 8) (b := i) (by omega) (by omega) c_5
        obtain rfl : i = 8 := by omega
        exact hE _ _ _ _ _ _ (Nat.le_of_ble_eq_true rfl) (Nat.le_of_ble_eq_true rfl) hW dX1_loosen_32
      · skip
        have q_5 := cy_nle (a := 8) (b := i) (by omega) (by omega) c_5
        refine lv_aload_n hx hb dX1_loosen_8 rfl (lv_at hl 1 rfl) ?_
        refine cy_get hC (3 * c + 11) (by omega) hi1 hW (cy_eY_o) rfl 9 (by decide) (hts (.fieldLink RX1 9 "CaskYard$Cask" "tensions" "[I") (by decide +kernel)) (fun _ h9 => h9) (v := .ref (ad (3 * c + 12))) rfl dX1_loosen_9 ?_
        refine lv_iload_n hx hb dX1_loosen_12 rfl (lv_at hl 0 rfl) ?_
        refine lv_iconst (v := 0) hx hb dX1_loosen_13 (by decide) ?_
        refine lv_aload_n hx hb dX1_loosen_14 rfl (lv_at hl 1 rfl) ?_
        refine cy_get hC (3 * c + 11) (by omega) hi1 hW (cy_eY_o) rfl 9 (by decide) (hts (.fieldLink RX1 9 "CaskYard$Cask" "tensions" "[I") (by decide +kernel)) (fun _ h9 => h9) (v := .ref (ad (3 * c + 12))) rfl dX1_loosen_15 ?_
        refine lv_iload_n hx hb dX1_loosen_18 rfl (lv_at hl 0 rfl) ?_
        refine cy_iald hC (3 * c + 12) (by omega) hW 0 (i := i) (cy_eY_t) rfl (by omega) (by decide) dX1_loosen_19 ?_
        refine lv_iconst (v := 1) hx hb dX1_loosen_20 (by decide) ?_
        refine lv_isub hx hb dX1_loosen_21 ?_
        refine va_mmax hx hb (hml.trans hl.1.symm) hown (hts (.methodLink RX1 63 Lib.Math.max.name) (by decide +kernel)) (hts (.static Lib.Math.max.name) (by decide +kernel)) (hts (.initialized "java/lang/Math") (by decide +kernel)) (hts (.code Lib.Math.max.name Lib.Math.max.code 2 (some .int)) (by decide +kernel)) (Nat.le_of_ble_eq_true rfl) (Nat.le_of_ble_eq_true rfl) (Nat.le_of_ble_eq_true rfl) (Nat.le_of_ble_eq_true rfl) dX1_loosen_22 ?_
        refine cy_topv (show _ = Value.int (cy_mx 0 ((((cy_ln S c i) (3 * c + 12)) i) - 1)) from rfl) ?_
        refine cy_iast hC (3 * c + 12) (by omega) hW 0 (i := i) (cy_eY_t) rfl (by omega) (by decide) (upd ((cy_ln S c i) (3 * c + 12)) i (cy_mx 0 ((((cy_ln S c i) (3 * c + 12)) i) - 1))) cy_eY_t.symm (S' := (va_up (cy_ln S c i) (3 * c + 12) (upd ((cy_ln S c i) (3 * c + 12)) i (cy_mx 0 ((((cy_ln S c i) (3 * c + 12)) i) - 1))))) rfl dX1_loosen_25 (fun H locs hW => ?_)
        refine lv_iinc (v := nI (i + 1)) (lv' := [(1, .int (nI (i + 1))), (0, .ref (ad (3 * c + 11)))]) hx hb dX1_loosen_26 hl (k := 0) rfl (nI_1 i) (by decide) rfl (fun ls hl => ?_)
        refine lv_goto (tgt := 2) hx hb dX1_loosen_29 (by decide) ?_
        exact ih_2 (i + 1) (by omega) (by omega) _ _ hW _ (lv_sub hl [0, 1] rfl)
  exact L_2 ((8 - 0) + 1) 0 (Nat.lt_succ_self _) (by omega) _ _ hW _ (lv_sub hl [0, 1] rfl)
abbrev rm_X1_live : Room := { frames := 2, cells := 0, slots := 0, locals := 44 }
set_option maxHeartbeats 4000000 in
set_option maxRecDepth 100000 in
theorem c_X1_live {l : Launch} {D : va_G} {kI kJ kZ kC : ClassId} {ad : Nat → Nat} {S : Nat → Nat → Int32} {tl : va_W} {Z : Nat → Int64} {x b : Int32} {c : Nat} (hc : c < 13) : cy_M l yX1_live wsX1_live rm_X1_live D (cy_tys kI kJ kZ kC) [.ref (ad (3 * c + 11)), .int x, .int b] (cy_Y kI kJ kC ad S Z tl) (some (.int (cy_rLv S c x))) (cy_Y kI kJ kC ad (cy_sLv S c x b) Z tl) := by
  refine cy_of (own := RX1) (cc := cX1_live) (maxL := 4) (ret := (some .int)) (i := .ireturn) (by decide) rfl rfl (Nat.le_of_ble_eq_true rfl) (cy_endI rfl) ?_
  intro p e s m args below meth co Q A ls hC hE hW hl
  have hx := hC.1.1; have hb := hC.1.2.1; have hml := hC.1.2.2.1; have hown := hC.1.2.2.2.1; have hts := hC.1.2.2.2.2
  have hl : lv_has ls 4 [(0, .ref (ad (3 * c + 11))), (1, .int x), (2, .int b)] := hl
  have hi1 : ∀ w ∈ u_ws RX1 TX1 11, w ∈ wsX1_live := by decide +kernel
  refine lv_aload_n hx hb dX1_live_0 rfl (lv_at hl 0 rfl) ?_
  refine cy_get hC (3 * c + 11) (by omega) hi1 hW (cy_eY_o) rfl 2 (by decide) (hts (.fieldLink RX1 18 "CaskYard$Cask" "sound" "Z") (by decide +kernel)) (fun _ h9 => h9) (v := .int (S (3 * c + 11) 2)) rfl dX1_live_1 ?_
  refine lv_if_ne (tgt := 9) hx hb dX1_live_4 (by decide) (fun c_4 => ?_) (fun c_4 => ?_)
  · skip
    refine lv_aload_n hx hb dX1_live_9 rfl (lv_at hl 0 rfl) ?_
    refine cy_callV (As := []) (rest := []) (q0 := 3 * c + 11) (ci := 1) hC.1 hC.2.1 hC.2.2 hW (c_X1_takeOak (c := c)  (by omega)) (cwV 0 hts gX1_live_X1_takeOak rfl rfl rfl (by decide +kernel) ⟨Nat.le_of_ble_eq_true rfl, Nat.le_of_ble_eq_true rfl⟩) (cy_w_at (by omega) (cy_eY_o)) rfl rfl hl.1 rfl (Nat.le_of_ble_eq_true rfl) dX1_live_10 ⟨Nat.le_of_ble_eq_true rfl, Nat.le_of_ble_eq_true rfl⟩ (k' := 0) (n' := 0) rfl rfl (fun H locs hW => ?_)
    refine lv_aload_n hx hb dX1_live_13 rfl (lv_at hl 0 rfl) ?_
    refine cy_callV (As := []) (rest := []) (q0 := 3 * c + 11) (ci := 1) hC.1 hC.2.1 hC.2.2 hW (c_X1_swell (c := c)  (by omega)) (cwV 0 hts gX1_live_X1_swell rfl rfl rfl (by decide +kernel) ⟨Nat.le_of_ble_eq_true rfl, Nat.le_of_ble_eq_true rfl⟩) (cy_w_at (by omega) (cy_eY_o)) rfl rfl hl.1 rfl (Nat.le_of_ble_eq_true rfl) dX1_live_14 ⟨Nat.le_of_ble_eq_true rfl, Nat.le_of_ble_eq_true rfl⟩ (k' := 0) (n' := 0) rfl rfl (fun H locs hW => ?_)
    refine lv_aload_n hx hb dX1_live_17 rfl (lv_at hl 0 rfl) ?_
    refine lv_aload_n hx hb dX1_live_18 rfl (lv_at hl 0 rfl) ?_
    refine cy_callV (As := []) (rest := [.ref (ad (3 * c + 11))]) (q0 := 3 * c + 11) (ci := 1) hC.1 hC.2.1 hC.2.2 hW (c_X1_leak (c := c) (by omega)) (cwV 0 hts gX1_live_X1_leak rfl rfl rfl (by decide +kernel) ⟨Nat.le_of_ble_eq_true rfl, Nat.le_of_ble_eq_true rfl⟩) (cy_w_at (by omega) (cy_eY_o)) rfl rfl hl.1 rfl (Nat.le_of_ble_eq_true rfl) dX1_live_19 ⟨Nat.le_of_ble_eq_true rfl, Nat.le_of_ble_eq_true rfl⟩ (k' := 0) (n' := 0) rfl rfl (fun H locs hW => ?_)
    refine lv_iconst (v := 3) hx hb dX1_live_22 (by decide) ?_
    refine lv_iadd hx hb dX1_live_23 ?_
    refine lv_iload_n hx hb dX1_live_24 rfl (lv_at hl 1 rfl) ?_
    refine lv_iadd hx hb dX1_live_25 ?_
    refine cy_callV (As := [.int (((cy_rLeak (cy_sSw (cy_sTk S c) c) c) + 3) + x)]) (rest := []) (q0 := 3 * c + 11) (ci := 1) hC.1 hC.2.1 hC.2.2 hW (c_X1_lose (c := c)  (by omega)) (cwV 1 hts gX1_live_X1_lose rfl rfl rfl (by decide +kernel) ⟨Nat.le_of_ble_eq_true rfl, Nat.le_of_ble_eq_true rfl⟩) (cy_w_at (by omega) (cy_eY_o)) rfl rfl hl.1 rfl (Nat.le_of_ble_eq_true rfl) dX1_live_26 ⟨Nat.le_of_ble_eq_true rfl, Nat.le_of_ble_eq_true rfl⟩ (k' := 0) (n' := 0) rfl rfl (fun H locs hW => ?_)
    refine lv_istore_n (lv' := [(3, .int ((cy_lo (cy_sSw (cy_sTk S c) c) c (((cy_rLeak (cy_sSw (cy_sTk S c) c) c) + 3) + x) 5).2)), (0, .ref (ad (3 * c + 11))), (1, .int x), (2, .int b)]) hx hb dX1_live_29 rfl hl (by decide) rfl (fun ls hl => ?_)
    refine lv_aload_n hx hb dX1_live_30 rfl (lv_at hl 1 rfl) ?_
    refine cy_callV (As := []) (rest := []) (q0 := 3 * c + 11) (ci := 1) hC.1 hC.2.1 hC.2.2 hW (c_X1_takeAir (c := c)  (by omega)) (cwV 0 hts gX1_live_X1_takeAir rfl rfl rfl (by decide +kernel) ⟨Nat.le_of_ble_eq_true rfl, Nat.le_of_ble_eq_true rfl⟩) (cy_w_at (by omega) (cy_eY_o)) rfl rfl hl.1 rfl (Nat.le_of_ble_eq_true rfl) dX1_live_31 ⟨Nat.le_of_ble_eq_true rfl, Nat.le_of_ble_eq_true rfl⟩ (k' := 0) (n' := 0) rfl rfl (fun H locs hW => ?_)
    refine lv_iload_n hx hb dX1_live_34 rfl (lv_at hl 3 rfl) ?_
    refine lv_if_eq (tgt := 42) hx hb dX1_live_35 (by decide) (fun c_35 => ?_) (fun c_35 => ?_)
    · skip
      refine lv_iload_n hx hb dX1_live_42 rfl (lv_at hl 0 rfl) ?_
      refine cy_topv (congrArg Value.int (show (cy_lo (cy_sSw (cy_sTk S c) c) c (((cy_rLeak (cy_sSw (cy_sTk S c) c) c) + 3) + x) 5).2 = cy_rLv S c x from by simp only [cy_rLv, cy_sLv, cy_lq, cy_S2, c_4, c_35, ↓reduceIte, not_true_eq_false, not_false_eq_true])) ?_
      have hW := cy_castS (show (cy_sAir ((cy_lo (cy_sSw (cy_sTk S c) c) c (((cy_rLeak (cy_sSw (cy_sTk S c) c) c) + 3) + x) 5).1) c) = (cy_sLv S c x b) from by simp only [cy_rLv, cy_sLv, cy_lq, cy_S2, c_4, c_35, ↓reduceIte, not_true_eq_false, not_false_eq_true]) hW
      exact hE _ _ _ _ _ _ (Nat.le_of_ble_eq_true rfl) (Nat.le_of_ble_eq_true rfl) hW dX1_live_43
    · skip
      refine lv_aload_n hx hb dX1_live_38 rfl (lv_at hl 1 rfl) ?_
      refine cy_callV (As := []) (rest := []) (q0 := 3 * c + 11) (ci := 1) hC.1 hC.2.1 hC.2.2 hW (c_X1_loosen (c := c)  (by omega)) (cwV 0 hts gX1_live_X1_loosen rfl rfl rfl (by decide +kernel) ⟨Nat.le_of_ble_eq_true rfl, Nat.le_of_ble_eq_true rfl⟩) (cy_w_at (by omega) (cy_eY_o)) rfl rfl hl.1 rfl (Nat.le_of_ble_eq_true rfl) dX1_live_39 ⟨Nat.le_of_ble_eq_true rfl, Nat.le_of_ble_eq_true rfl⟩ (k' := 0) (n' := 0) rfl rfl (fun H locs hW => ?_)
      refine lv_iload_n hx hb dX1_live_42 rfl (lv_at hl 0 rfl) ?_
      refine cy_topv (congrArg Value.int (show (cy_lo (cy_sSw (cy_sTk S c) c) c (((cy_rLeak (cy_sSw (cy_sTk S c) c) c) + 3) + x) 5).2 = cy_rLv S c x from by simp only [cy_rLv, cy_sLv, cy_lq, cy_S2, c_4, c_35, ↓reduceIte, not_true_eq_false, not_false_eq_true])) ?_
      have hW := cy_castS (show (cy_ln (cy_sAir ((cy_lo (cy_sSw (cy_sTk S c) c) c (((cy_rLeak (cy_sSw (cy_sTk S c) c) c) + 3) + x) 5).1) c) c 8) = (cy_sLv S c x b) from by simp only [cy_rLv, cy_sLv, cy_lq, cy_S2, c_4, c_35, ↓reduceIte, not_true_eq_false, not_false_eq_true]) hW
      exact hE _ _ _ _ _ _ (Nat.le_of_ble_eq_true rfl) (Nat.le_of_ble_eq_true rfl) hW dX1_live_43
  · skip
    refine lv_iconst (v := 0) hx hb dX1_live_7 (by decide) ?_
    refine cy_topv (congrArg Value.int (show 0 = cy_rLv S c x from by simp only [cy_rLv, cy_sLv, cy_lq, cy_S2, c_4, ↓reduceIte, not_true_eq_false, not_false_eq_true])) ?_
    have hW := cy_castS (show S = (cy_sLv S c x b) from by simp only [cy_rLv, cy_sLv, cy_lq, cy_S2, c_4, ↓reduceIte, not_true_eq_false, not_false_eq_true]) hW
    exact hE _ _ _ _ _ _ (Nat.le_of_ble_eq_true rfl) (Nat.le_of_ble_eq_true rfl) hW dX1_live_8
abbrev rm_X1_putOnHoops : Room := { frames := 0, cells := 0, slots := 0, locals := 0 }
set_option maxHeartbeats 4000000 in
set_option maxRecDepth 100000 in
theorem c_X1_putOnHoops {l : Launch} {D : va_G} {kI kJ kZ kC : ClassId} {ad : Nat → Nat} {S : Nat → Nat → Int32} {tl : va_W} {Z : Nat → Int64} {k : Nat} (hk : k ≤ 8) {c : Nat} (hc : c < 13) : cy_M l yX1_putOnHoops wsX1_putOnHoops rm_X1_putOnHoops D (cy_tys kI kJ kZ kC) [.ref (ad (3 * c + 11)), .int (nI k)] (cy_Y kI kJ kC ad S Z tl) none (cy_Y kI kJ kC ad (cy_po (va_up S (3 * c + 11) (upd (S (3 * c + 11)) 4 (nI k))) c k) Z tl) := by
  refine cy_of (own := RX1) (cc := cX1_putOnHoops) (maxL := 3) (ret := none) (i := .return_) (by decide) rfl rfl (Nat.le_of_ble_eq_true rfl) cy_endV ?_
  intro p e s m args below meth co Q A ls hC hE hW hl
  have hx := hC.1.1; have hb := hC.1.2.1; have hml := hC.1.2.2.1; have hown := hC.1.2.2.2.1; have hts := hC.1.2.2.2.2
  have hl : lv_has ls 3 [(0, .ref (ad (3 * c + 11))), (1, .int (nI k))] := hl
  have hi1 : ∀ w ∈ u_ws RX1 TX1 11, w ∈ wsX1_putOnHoops := by decide +kernel
  refine lv_aload_n hx hb dX1_putOnHoops_0 rfl (lv_at hl 0 rfl) ?_
  refine lv_iload_n hx hb dX1_putOnHoops_1 rfl (lv_at hl 1 rfl) ?_
  refine cy_put hC (3 * c + 11) (by omega) hi1 tyX1 tyX1_ok nmX1 hW (cy_eY_o) rfl 4 (by decide) (hts (.fieldLink RX1 26 "CaskYard$Cask" "hoops" "I") (by decide +kernel)) (fun _ h9 => h9) rfl (ty := .int) (by decide +kernel) rfl rfl (Nat.le_of_ble_eq_true rfl) (upd (S (3 * c + 11)) 4 (nI k)) cy_hC4 (S' := (va_up S (3 * c + 11) (upd (S (3 * c + 11)) 4 (nI k)))) rfl dX1_putOnHoops_2 (fun H locs hW => ?_)
  refine lv_iconst (v := 0) hx hb dX1_putOnHoops_5 (by decide) ?_
  refine lv_istore_n (lv' := [(2, .int 0), (0, .ref (ad (3 * c + 11))), (1, .int (nI k))]) hx hb dX1_putOnHoops_6 rfl hl (by decide) rfl (fun ls hl => ?_)
  have L_7 : ∀ (fu : Nat) (i : Nat), k - i < fu → (i ≤ k) → ∀ (H : Heap) (locs : List Loc), cy_W D A s.heap (cy_Y kI kJ kC ad (cy_po (va_up S (3 * c + 11) (upd (S (3 * c + 11)) 4 (nI k))) c i) Z tl) H locs → ∀ (ls : Array Slot), lv_has ls 3 [(2, .int (nI i)), (0, .ref (ad (3 * c + 11))), (1, .int (nI k))] → W p l e rm_X1_putOnHoops s m args below meth co H locs 0 0 Q (F0 m 7 ls []) := by
    intro fu
    induction fu with
    | zero => intro i hn; exact absurd hn (Nat.not_lt_zero _)
    | succ fu ih_7 =>
      intro i hn_7 hi H locs hW ls hl
      refine lv_iload_n hx hb dX1_putOnHoops_7 rfl (lv_at hl 0 rfl) ?_
      refine lv_aload_n hx hb dX1_putOnHoops_8 rfl (lv_at hl 1 rfl) ?_
      refine cy_get hC (3 * c + 11) (by omega) hi1 hW (cy_eY_o) rfl 4 (by decide) (hts (.fieldLink RX1 26 "CaskYard$Cask" "hoops" "I") (by decide +kernel)) (fun _ h9 => h9) (v := .int (((cy_po (va_up S (3 * c + 11) (upd (S (3 * c + 11)) 4 (nI k))) c i) (3 * c + 11)) 4)) rfl dX1_putOnHoops_9 ?_
      refine cy_top (show _ = nI k from by rw [cy_po_n (by omega), cy_us]; rfl) ?_
      refine lv_icmp_ge (tgt := 34) hx hb dX1_putOnHoops_12 (by decide) (fun c_12 => ?_) (fun c_12 => ?_)
      · skip
        have q_12 := cy_le (a := k) (b := i) (by omega) (by omega) c_12
        obtain rfl : i = k := by omega
        exact hE _ _ _ _ _ _ (Nat.le_of_ble_eq_true rfl) (Nat.le_of_ble_eq_true rfl) hW dX1_putOnHoops_34
      · skip
        have q_12 := cy_nle (a := k) (b := i) (by omega) (by omega) c_12
        refine lv_iload_n hx hb dX1_putOnHoops_15 rfl (lv_at hl 0 rfl) ?_
        refine lv_bipush (v := 8) hx hb dX1_putOnHoops_16 (by decide) ?_
        refine lv_icmp_ge (tgt := 34) hx hb dX1_putOnHoops_18 (by decide) (fun c_18 => ?_) (fun c_18 => ?_)
        · skip
          have q_18 := cy_le (a := 8) (b := i) (by omega) (by omega) c_18
          obtain rfl : i = k := by omega
          exact hE _ _ _ _ _ _ (Nat.le_of_ble_eq_true rfl) (Nat.le_of_ble_eq_true rfl) hW dX1_putOnHoops_34
        · skip
          have q_18 := cy_nle (a := 8) (b := i) (by omega) (by omega) c_18
          refine lv_aload_n hx hb dX1_putOnHoops_21 rfl (lv_at hl 1 rfl) ?_
          refine cy_get hC (3 * c + 11) (by omega) hi1 hW (cy_eY_o) rfl 9 (by decide) (hts (.fieldLink RX1 9 "CaskYard$Cask" "tensions" "[I") (by decide +kernel)) (fun _ h9 => h9) (v := .ref (ad (3 * c + 12))) rfl dX1_putOnHoops_22 ?_
          refine lv_iload_n hx hb dX1_putOnHoops_25 rfl (lv_at hl 0 rfl) ?_
          refine lv_iconst (v := 3) hx hb dX1_putOnHoops_26 (by decide) ?_
          refine cy_iast hC (3 * c + 12) (by omega) hW 0 (i := i) (cy_eY_t) rfl (by omega) (by decide) (upd ((cy_po (va_up S (3 * c + 11) (upd (S (3 * c + 11)) 4 (nI k))) c i) (3 * c + 12)) i 3) cy_eY_t.symm (S' := (va_up (cy_po (va_up S (3 * c + 11) (upd (S (3 * c + 11)) 4 (nI k))) c i) (3 * c + 12) (upd ((cy_po (va_up S (3 * c + 11) (upd (S (3 * c + 11)) 4 (nI k))) c i) (3 * c + 12)) i 3))) rfl dX1_putOnHoops_27 (fun H locs hW => ?_)
          refine lv_iinc (v := nI (i + 1)) (lv' := [(2, .int (nI (i + 1))), (0, .ref (ad (3 * c + 11))), (1, .int (nI k))]) hx hb dX1_putOnHoops_28 hl (k := 0) rfl (nI_1 i) (by decide) rfl (fun ls hl => ?_)
          refine lv_goto (tgt := 7) hx hb dX1_putOnHoops_31 (by decide) ?_
          exact ih_7 (i + 1) (by omega) (by omega) _ _ hW _ (lv_sub hl [0, 1, 2] rfl)
  exact L_7 ((k - 0) + 1) 0 (Nat.lt_succ_self _) (by omega) _ _ hW _ (lv_sub hl [0, 1, 2] rfl)
abbrev rm_X1_moveLiquid : Room := { frames := 0, cells := 0, slots := 0, locals := 0 }
set_option maxHeartbeats 4000000 in
set_option maxRecDepth 100000 in
theorem c_X1_moveLiquid {l : Launch} {D : va_G} {kI kJ kZ kC : ClassId} {ad : Nat → Nat} {S : Nat → Nat → Int32} {tl : va_W} {Z : Nat → Int64} {c d i : Nat} {x : Int32} (hcd : c ≠ d) (hd : d < 13) (hi : i < 5) (hc : c < 13) : cy_M l yX1_moveLiquid wsX1_moveLiquid rm_X1_moveLiquid D (cy_tys kI kJ kZ kC) [.ref (ad (3 * c + 11)), .ref (ad (3 * d + 11)), .int (nI i), .int x] (cy_Y kI kJ kC ad S Z tl) none (cy_Y kI kJ kC ad (cy_sMl S c d i x) Z tl) := by
  refine cy_of (own := RX1) (cc := cX1_moveLiquid) (maxL := 4) (ret := none) (i := .return_) (by decide) rfl rfl (Nat.le_of_ble_eq_true rfl) cy_endV ?_
  intro p e s m args below meth co Q A ls hC hE hW hl
  have hx := hC.1.1; have hb := hC.1.2.1; have hml := hC.1.2.2.1; have hown := hC.1.2.2.2.1; have hts := hC.1.2.2.2.2
  have hl : lv_has ls 4 [(0, .ref (ad (3 * c + 11))), (1, .ref (ad (3 * d + 11))), (2, .int (nI i)), (3, .int x)] := hl
  have hi1 : ∀ w ∈ u_ws RX1 TX1 11, w ∈ wsX1_moveLiquid := by decide +kernel
  refine lv_aload_n hx hb dX1_moveLiquid_0 rfl (lv_at hl 0 rfl) ?_
  refine cy_get hC (3 * c + 11) (by omega) hi1 hW (cy_eY_o) rfl 10 (by decide) (hts (.fieldLink RX1 15 "CaskYard$Cask" "amounts" "[I") (by decide +kernel)) (fun _ h9 => h9) (v := .ref (ad (3 * c + 13))) rfl dX1_moveLiquid_1 ?_
  refine lv_iload_n hx hb dX1_moveLiquid_4 rfl (lv_at hl 2 rfl) ?_
  refine lv_dup2_11 hx hb dX1_moveLiquid_5 rfl rfl ?_
  refine cy_iald hC (3 * c + 13) (by omega) hW 0 (i := i) (cy_eY_a) rfl (by omega) (by decide) dX1_moveLiquid_6 ?_
  refine lv_iload_n hx hb dX1_moveLiquid_7 rfl (lv_at hl 3 rfl) ?_
  refine lv_isub hx hb dX1_moveLiquid_8 ?_
  refine cy_iast hC (3 * c + 13) (by omega) hW 0 (i := i) (cy_eY_a) rfl (by omega) (by decide) (upd (S (3 * c + 13)) i ((S (3 * c + 13) i) - x)) cy_eY_a.symm (S' := (va_up S (3 * c + 13) (upd (S (3 * c + 13)) i ((S (3 * c + 13) i) - x)))) rfl dX1_moveLiquid_9 (fun H locs hW => ?_)
  refine lv_aload_n hx hb dX1_moveLiquid_10 rfl (lv_at hl 1 rfl) ?_
  refine cy_get hC (3 * d + 11) (by omega) hi1 hW (cy_rd (cy_un (by omega)) cy_eY_o) rfl 10 (by decide) (hts (.fieldLink RX1 15 "CaskYard$Cask" "amounts" "[I") (by decide +kernel)) (fun _ h9 => h9) (v := .ref (ad (3 * d + 13))) rfl dX1_moveLiquid_11 ?_
  refine lv_iload_n hx hb dX1_moveLiquid_14 rfl (lv_at hl 2 rfl) ?_
  refine lv_dup2_11 hx hb dX1_moveLiquid_15 rfl rfl ?_
  refine cy_iald hC (3 * d + 13) (by omega) hW 0 (i := i) (cy_rd (cy_un (by omega)) cy_eY_a) rfl (by omega) (by decide) dX1_moveLiquid_16 ?_
  refine lv_iload_n hx hb dX1_moveLiquid_17 rfl (lv_at hl 3 rfl) ?_
  refine lv_iadd hx hb dX1_moveLiquid_18 ?_
  refine cy_iast hC (3 * d + 13) (by omega) hW 0 (i := i) (cy_rd (cy_un (by omega)) cy_eY_a) rfl (by omega) (by decide) (upd (S (3 * d + 13)) i ((S (3 * d + 13) i) + x)) cy_eY_a.symm (S' := (va_up (va_up S (3 * c + 13) (upd (S (3 * c + 13)) i ((S (3 * c + 13) i) - x))) (3 * d + 13) (upd (S (3 * d + 13)) i ((S (3 * d + 13) i) + x)))) rfl dX1_moveLiquid_19 (fun H locs hW => ?_)
  exact hE _ _ _ _ _ _ (Nat.le_of_ble_eq_true rfl) (Nat.le_of_ble_eq_true rfl) hW dX1_moveLiquid_20
abbrev rm_X1_moveTo : Room := { frames := 1, cells := 0, slots := 0, locals := 23 }
set_option maxHeartbeats 4000000 in
set_option maxRecDepth 100000 in
theorem c_X1_moveTo {l : Launch} {D : va_G} {kI kJ kZ kC : ClassId} {ad : Nat → Nat} {S : Nat → Nat → Int32} {tl : va_W} {Z : Nat → Int64} {c d : Nat} {x al : Int32} (hcd : c ≠ d) (hd : d < 13) (hal : ¬ al ≤ 0) (hc : c < 13) : cy_M l yX1_moveTo wsX1_moveTo rm_X1_moveTo D (cy_tys kI kJ kZ kC) [.ref (ad (3 * c + 11)), .ref (ad (3 * d + 11)), .int x, .int al] (cy_Y kI kJ kC ad S Z tl) none (cy_Y kI kJ kC ad (cy_sMv S c d x al) Z tl) := by
  refine cy_of (own := RX1) (cc := cX1_moveTo) (maxL := 7) (ret := none) (i := .return_) (by decide) rfl rfl (Nat.le_of_ble_eq_true rfl) cy_endV ?_
  intro p e s m args below meth co Q A ls hC hE hW hl
  have hx := hC.1.1; have hb := hC.1.2.1; have hml := hC.1.2.2.1; have hown := hC.1.2.2.2.1; have hts := hC.1.2.2.2.2
  have hl : lv_has ls 7 [(0, .ref (ad (3 * c + 11))), (1, .ref (ad (3 * d + 11))), (2, .int x), (3, .int al)] := hl
  have hi1 : ∀ w ∈ u_ws RX1 TX1 11, w ∈ wsX1_moveTo := by decide +kernel
  refine lv_iload_n hx hb dX1_moveTo_0 rfl (lv_at hl 3 rfl) ?_
  refine lv_if_gt (tgt := 5) hx hb dX1_moveTo_1 (by decide) (fun c_1 => ?_) (fun c_1 => ?_)
  · skip
    refine lv_iconst (v := 0) hx hb dX1_moveTo_5 (by decide) ?_
    refine lv_istore (lv' := [(4, .int 0), (0, .ref (ad (3 * c + 11))), (1, .ref (ad (3 * d + 11))), (2, .int x), (3, .int al)]) hx hb dX1_moveTo_6 hl (by decide) rfl (fun ls hl => ?_)
    refine lv_iconst (v := 0) hx hb dX1_moveTo_8 (by decide) ?_
    refine lv_istore (lv' := [(5, .int 0), (4, .int 0), (0, .ref (ad (3 * c + 11))), (1, .ref (ad (3 * d + 11))), (2, .int x), (3, .int al)]) hx hb dX1_moveTo_9 hl (by decide) rfl (fun ls hl => ?_)
    have L_11 : ∀ (fu : Nat) (i : Nat), 5 - i < fu → (i ≤ 5) → ∀ (H : Heap) (locs : List Loc), cy_W D A s.heap (cy_Y kI kJ kC ad (cy_m1 S c d x al i).1 Z tl) H locs → ∀ (ls : Array Slot), lv_has ls 7 [(4, .int ((cy_m1 S c d x al i).2)), (5, .int (nI i)), (0, .ref (ad (3 * c + 11))), (1, .ref (ad (3 * d + 11))), (2, .int x), (3, .int al)] → W p l e rm_X1_moveTo s m args below meth co H locs 0 0 Q (F0 m 11 ls []) := by
      intro fu
      induction fu with
      | zero => intro i hn; exact absurd hn (Nat.not_lt_zero _)
      | succ fu ih_11 =>
        intro i hn_11 hi H locs hW ls hl
        refine lv_iload hx hb dX1_moveTo_11 (lv_at hl 1 rfl) ?_
        refine lv_iconst (v := 5) hx hb dX1_moveTo_13 (by decide) ?_
        refine lv_icmp_ge (tgt := 56) hx hb dX1_moveTo_14 (by decide) (fun c_14 => ?_) (fun c_14 => ?_)
        · skip
          have q_14 := cy_le (a := 5) (b := i) (by omega) (by omega) c_14
          obtain rfl : i = 5 := by omega
          refine lv_iconst (v := 0) hx hb dX1_moveTo_56 (by decide) ?_
          refine lv_istore (lv' := [(5, .int 0), (4, .int ((cy_m1 S c d x al 5).2)), (0, .ref (ad (3 * c + 11))), (1, .ref (ad (3 * d + 11))), (2, .int x), (3, .int al)]) hx hb dX1_moveTo_57 hl (by decide) rfl (fun ls hl => ?_)
          have L_59 : ∀ (fu : Nat) (i : Nat), 5 - i < fu → (i ≤ 5) → ∀ (H : Heap) (locs : List Loc), cy_W D A s.heap (cy_Y kI kJ kC ad (cy_m2 (cy_m1 S c d x al 5).1 c d x (cy_m1 S c d x al 5).2 i).1 Z tl) H locs → ∀ (ls : Array Slot), lv_has ls 7 [(4, .int ((cy_m2 (cy_m1 S c d x al 5).1 c d x (cy_m1 S c d x al 5).2 i).2)), (5, .int (nI i)), (0, .ref (ad (3 * c + 11))), (1, .ref (ad (3 * d + 11))), (2, .int x), (3, .int al)] → W p l e rm_X1_moveTo s m args below meth co H locs 0 0 Q (F0 m 59 ls []) := by
            intro fu
            induction fu with
            | zero => intro i hn; exact absurd hn (Nat.not_lt_zero _)
            | succ fu ih_59 =>
              intro i hn_59 hi H locs hW ls hl
              refine lv_iload hx hb dX1_moveTo_59 (lv_at hl 1 rfl) ?_
              refine lv_iconst (v := 5) hx hb dX1_moveTo_61 (by decide) ?_
              refine lv_icmp_ge (tgt := 98) hx hb dX1_moveTo_62 (by decide) (fun c_62 => ?_) (fun c_62 => ?_)
              · skip
                have q_62 := cy_le (a := 5) (b := i) (by omega) (by omega) c_62
                obtain rfl : i = 5 := by omega
                have L_98 : ∀ (H : Heap) (locs : List Loc), cy_W D A s.heap (cy_Y kI kJ kC ad (cy_mq S c d x al) Z tl) H locs → ∀ (ls : Array Slot), lv_has ls 7 [(0, .ref (ad (3 * c + 11))), (1, .ref (ad (3 * d + 11))), (2, .int x), (3, .int al)] → W p l e rm_X1_moveTo s m args below meth co H locs 0 0 Q (F0 m 98 ls []) := by
                  intro   H locs hW ls hl
                  refine lv_aload_n hx hb dX1_moveTo_98 rfl (lv_at hl 0 rfl) ?_
                  refine cy_get hC (3 * c + 11) (by omega) hi1 hW (cy_eY_o) rfl 8 (by decide) (hts (.fieldLink RX1 38 "CaskYard$Cask" "grains" "I") (by decide +kernel)) (fun _ h9 => h9) (v := .int (((cy_mq S c d x al) (3 * c + 11)) 8)) rfl dX1_moveTo_99 ?_
                  refine lv_i2l hx hb dX1_moveTo_102 rfl ?_
                  refine lv_iload_n hx hb dX1_moveTo_103 rfl (lv_at hl 2 rfl) ?_
                  refine lv_i2l hx hb dX1_moveTo_104 rfl ?_
                  refine lv_lmul hx hb dX1_moveTo_105 ?_
                  refine lv_iload_n hx hb dX1_moveTo_106 rfl (lv_at hl 3 rfl) ?_
                  refine lv_i2l hx hb dX1_moveTo_107 rfl ?_
                  refine lv_ldiv hx hb dX1_moveTo_108 (cy_l0 (fun q => hal (by rw [q]; decide))) ?_
                  refine lv_l2i hx hb dX1_moveTo_109 rfl ?_
                  refine lv_istore (lv' := [(5, .int (((((((cy_mq S c d x al) (3 * c + 11)) 8).toInt64) * x.toInt64) / al.toInt64).toInt32)), (0, .ref (ad (3 * c + 11))), (1, .ref (ad (3 * d + 11))), (2, .int x), (3, .int al)]) hx hb dX1_moveTo_110 hl (by decide) rfl (fun ls hl => ?_)
                  refine lv_aload_n hx hb dX1_moveTo_112 rfl (lv_at hl 1 rfl) ?_
                  refine lv_dup hx hb dX1_moveTo_113 rfl ?_
                  refine cy_get hC (3 * c + 11) (by omega) hi1 hW (cy_eY_o) rfl 8 (by decide) (hts (.fieldLink RX1 38 "CaskYard$Cask" "grains" "I") (by decide +kernel)) (fun _ h9 => h9) (v := .int (((cy_mq S c d x al) (3 * c + 11)) 8)) rfl dX1_moveTo_114 ?_
                  refine lv_iload hx hb dX1_moveTo_117 (lv_at hl 0 rfl) ?_
                  refine lv_isub hx hb dX1_moveTo_119 ?_
                  refine cy_put hC (3 * c + 11) (by omega) hi1 tyX1 tyX1_ok nmX1 hW (cy_eY_o) rfl 8 (by decide) (hts (.fieldLink RX1 38 "CaskYard$Cask" "grains" "I") (by decide +kernel)) (fun _ h9 => h9) rfl (ty := .int) (by decide +kernel) rfl rfl (Nat.le_of_ble_eq_true rfl) (upd ((cy_mq S c d x al) (3 * c + 11)) 8 ((((cy_mq S c d x al) (3 * c + 11)) 8) - (((((((cy_mq S c d x al) (3 * c + 11)) 8).toInt64) * x.toInt64) / al.toInt64).toInt32))) cy_hC8 (S' := (va_up (cy_mq S c d x al) (3 * c + 11) (upd ((cy_mq S c d x al) (3 * c + 11)) 8 ((((cy_mq S c d x al) (3 * c + 11)) 8) - (((((((cy_mq S c d x al) (3 * c + 11)) 8).toInt64) * x.toInt64) / al.toInt64).toInt32))))) rfl dX1_moveTo_120 (fun H locs hW => ?_)
                  refine lv_aload_n hx hb dX1_moveTo_123 rfl (lv_at hl 2 rfl) ?_
                  refine lv_dup hx hb dX1_moveTo_124 rfl ?_
                  refine cy_get hC (3 * d + 11) (by omega) hi1 hW (cy_rd (cy_un (by omega)) cy_eY_o) rfl 8 (by decide) (hts (.fieldLink RX1 38 "CaskYard$Cask" "grains" "I") (by decide +kernel)) (fun _ h9 => h9) (v := .int (((cy_mq S c d x al) (3 * d + 11)) 8)) rfl dX1_moveTo_125 ?_
                  refine lv_iload hx hb dX1_moveTo_128 (lv_at hl 0 rfl) ?_
                  refine lv_iadd hx hb dX1_moveTo_130 ?_
                  refine cy_put hC (3 * d + 11) (by omega) hi1 tyX1 tyX1_ok nmX1 hW (cy_rd (cy_un (by omega)) cy_eY_o) rfl 8 (by decide) (hts (.fieldLink RX1 38 "CaskYard$Cask" "grains" "I") (by decide +kernel)) (fun _ h9 => h9) rfl (ty := .int) (by decide +kernel) rfl rfl (Nat.le_of_ble_eq_true rfl) (upd ((cy_mq S c d x al) (3 * d + 11)) 8 ((((cy_mq S c d x al) (3 * d + 11)) 8) + (((((((cy_mq S c d x al) (3 * c + 11)) 8).toInt64) * x.toInt64) / al.toInt64).toInt32))) cy_hC8 (S' := (va_up (va_up (cy_mq S c d x al) (3 * c + 11) (upd ((cy_mq S c d x al) (3 * c + 11)) 8 ((((cy_mq S c d x al) (3 * c + 11)) 8) - (((((((cy_mq S c d x al) (3 * c + 11)) 8).toInt64) * x.toInt64) / al.toInt64).toInt32)))) (3 * d + 11) (upd ((cy_mq S c d x al) (3 * d + 11)) 8 ((((cy_mq S c d x al) (3 * d + 11)) 8) + (((((((cy_mq S c d x al) (3 * c + 11)) 8).toInt64) * x.toInt64) / al.toInt64).toInt32))))) rfl dX1_moveTo_131 (fun H locs hW => ?_)
                  exact hE _ _ _ _ _ _ (Nat.le_of_ble_eq_true rfl) (Nat.le_of_ble_eq_true rfl) hW dX1_moveTo_134
                exact L_98   _ _ hW _ (lv_sub hl [2, 3, 4, 5] rfl)
              · skip
                have q_62 := cy_nle (a := 5) (b := i) (by omega) (by omega) c_62
                refine lv_iload hx hb dX1_moveTo_65 (lv_at hl 0 rfl) ?_
                refine lv_iload_n hx hb dX1_moveTo_67 rfl (lv_at hl 4 rfl) ?_
                refine lv_icmp_ge (tgt := 98) hx hb dX1_moveTo_68 (by decide) (fun c_68 => ?_) (fun c_68 => ?_)
                · skip
                  have hW := cy_castS (show (cy_m2 (cy_m1 S c d x al 5).1 c d x (cy_m1 S c d x al 5).2 i).1 = (cy_m2 (cy_m1 S c d x al 5).1 c d x (cy_m1 S c d x al 5).2 5).1 from by have q := cy_m2_stop c_68 (5 - i); rw [show i + (5 - i) = 5 by omega] at q; rw [q]) hW
                  have L_98 : ∀ (H : Heap) (locs : List Loc), cy_W D A s.heap (cy_Y kI kJ kC ad (cy_mq S c d x al) Z tl) H locs → ∀ (ls : Array Slot), lv_has ls 7 [(0, .ref (ad (3 * c + 11))), (1, .ref (ad (3 * d + 11))), (2, .int x), (3, .int al)] → W p l e rm_X1_moveTo s m args below meth co H locs 0 0 Q (F0 m 98 ls []) := by
                    intro   H locs hW ls hl
                    refine lv_aload_n hx hb dX1_moveTo_98 rfl (lv_at hl 0 rfl) ?_
                    refine cy_get hC (3 * c + 11) (by omega) hi1 hW (cy_eY_o) rfl 8 (by decide) (hts (.fieldLink RX1 38 "CaskYard$Cask" "grains" "I") (by decide +kernel)) (fun _ h9 => h9) (v := .int (((cy_mq S c d x al) (3 * c + 11)) 8)) rfl dX1_moveTo_99 ?_
                    refine lv_i2l hx hb dX1_moveTo_102 rfl ?_
                    refine lv_iload_n hx hb dX1_moveTo_103 rfl (lv_at hl 2 rfl) ?_
                    refine lv_i2l hx hb dX1_moveTo_104 rfl ?_
                    refine lv_lmul hx hb dX1_moveTo_105 ?_
                    refine lv_iload_n hx hb dX1_moveTo_106 rfl (lv_at hl 3 rfl) ?_
                    refine lv_i2l hx hb dX1_moveTo_107 rfl ?_
                    refine lv_ldiv hx hb dX1_moveTo_108 (cy_l0 (fun q => hal (by rw [q]; decide))) ?_
                    refine lv_l2i hx hb dX1_moveTo_109 rfl ?_
                    refine lv_istore (lv' := [(5, .int (((((((cy_mq S c d x al) (3 * c + 11)) 8).toInt64) * x.toInt64) / al.toInt64).toInt32)), (0, .ref (ad (3 * c + 11))), (1, .ref (ad (3 * d + 11))), (2, .int x), (3, .int al)]) hx hb dX1_moveTo_110 hl (by decide) rfl (fun ls hl => ?_)
                    refine lv_aload_n hx hb dX1_moveTo_112 rfl (lv_at hl 1 rfl) ?_
                    refine lv_dup hx hb dX1_moveTo_113 rfl ?_
                    refine cy_get hC (3 * c + 11) (by omega) hi1 hW (cy_eY_o) rfl 8 (by decide) (hts (.fieldLink RX1 38 "CaskYard$Cask" "grains" "I") (by decide +kernel)) (fun _ h9 => h9) (v := .int (((cy_mq S c d x al) (3 * c + 11)) 8)) rfl dX1_moveTo_114 ?_
                    refine lv_iload hx hb dX1_moveTo_117 (lv_at hl 0 rfl) ?_
                    refine lv_isub hx hb dX1_moveTo_119 ?_
                    refine cy_put hC (3 * c + 11) (by omega) hi1 tyX1 tyX1_ok nmX1 hW (cy_eY_o) rfl 8 (by decide) (hts (.fieldLink RX1 38 "CaskYard$Cask" "grains" "I") (by decide +kernel)) (fun _ h9 => h9) rfl (ty := .int) (by decide +kernel) rfl rfl (Nat.le_of_ble_eq_true rfl) (upd ((cy_mq S c d x al) (3 * c + 11)) 8 ((((cy_mq S c d x al) (3 * c + 11)) 8) - (((((((cy_mq S c d x al) (3 * c + 11)) 8).toInt64) * x.toInt64) / al.toInt64).toInt32))) cy_hC8 (S' := (va_up (cy_mq S c d x al) (3 * c + 11) (upd ((cy_mq S c d x al) (3 * c + 11)) 8 ((((cy_mq S c d x al) (3 * c + 11)) 8) - (((((((cy_mq S c d x al) (3 * c + 11)) 8).toInt64) * x.toInt64) / al.toInt64).toInt32))))) rfl dX1_moveTo_120 (fun H locs hW => ?_)
                    refine lv_aload_n hx hb dX1_moveTo_123 rfl (lv_at hl 2 rfl) ?_
                    refine lv_dup hx hb dX1_moveTo_124 rfl ?_
                    refine cy_get hC (3 * d + 11) (by omega) hi1 hW (cy_rd (cy_un (by omega)) cy_eY_o) rfl 8 (by decide) (hts (.fieldLink RX1 38 "CaskYard$Cask" "grains" "I") (by decide +kernel)) (fun _ h9 => h9) (v := .int (((cy_mq S c d x al) (3 * d + 11)) 8)) rfl dX1_moveTo_125 ?_
                    refine lv_iload hx hb dX1_moveTo_128 (lv_at hl 0 rfl) ?_
                    refine lv_iadd hx hb dX1_moveTo_130 ?_
                    refine cy_put hC (3 * d + 11) (by omega) hi1 tyX1 tyX1_ok nmX1 hW (cy_rd (cy_un (by omega)) cy_eY_o) rfl 8 (by decide) (hts (.fieldLink RX1 38 "CaskYard$Cask" "grains" "I") (by decide +kernel)) (fun _ h9 => h9) rfl (ty := .int) (by decide +kernel) rfl rfl (Nat.le_of_ble_eq_true rfl) (upd ((cy_mq S c d x al) (3 * d + 11)) 8 ((((cy_mq S c d x al) (3 * d + 11)) 8) + (((((((cy_mq S c d x al) (3 * c + 11)) 8).toInt64) * x.toInt64) / al.toInt64).toInt32))) cy_hC8 (S' := (va_up (va_up (cy_mq S c d x al) (3 * c + 11) (upd ((cy_mq S c d x al) (3 * c + 11)) 8 ((((cy_mq S c d x al) (3 * c + 11)) 8) - (((((((cy_mq S c d x al) (3 * c + 11)) 8).toInt64) * x.toInt64) / al.toInt64).toInt32)))) (3 * d + 11) (upd ((cy_mq S c d x al) (3 * d + 11)) 8 ((((cy_mq S c d x al) (3 * d + 11)) 8) + (((((((cy_mq S c d x al) (3 * c + 11)) 8).toInt64) * x.toInt64) / al.toInt64).toInt32))))) rfl dX1_moveTo_131 (fun H locs hW => ?_)
                    exact hE _ _ _ _ _ _ (Nat.le_of_ble_eq_true rfl) (Nat.le_of_ble_eq_true rfl) hW dX1_moveTo_134
                  exact L_98   _ _ hW _ (lv_sub hl [2, 3, 4, 5] rfl)
                · skip
                  refine lv_aload_n hx hb dX1_moveTo_71 rfl (lv_at hl 2 rfl) ?_
                  refine cy_get hC (3 * c + 11) (by omega) hi1 hW (cy_eY_o) rfl 10 (by decide) (hts (.fieldLink RX1 15 "CaskYard$Cask" "amounts" "[I") (by decide +kernel)) (fun _ h9 => h9) (v := .ref (ad (3 * c + 13))) rfl dX1_moveTo_72 ?_
                  refine lv_iload hx hb dX1_moveTo_75 (lv_at hl 1 rfl) ?_
                  refine cy_iald hC (3 * c + 13) (by omega) hW 0 (i := i) (cy_eY_a) rfl (by omega) (by decide) dX1_moveTo_77 ?_
                  refine lv_if_le (tgt := 92) hx hb dX1_moveTo_78 (by decide) (fun c_78 => ?_) (fun c_78 => ?_)
                  · skip
                    refine lv_iinc (v := nI (i + 1)) (lv' := [(5, .int (nI (i + 1))), (4, .int ((cy_m2 (cy_m1 S c d x al 5).1 c d x (cy_m1 S c d x al 5).2 i).2)), (0, .ref (ad (3 * c + 11))), (1, .ref (ad (3 * d + 11))), (2, .int x), (3, .int al)]) hx hb dX1_moveTo_92 hl (k := 1) rfl (nI_1 i) (by decide) rfl (fun ls hl => ?_)
                    refine lv_goto (tgt := 59) hx hb dX1_moveTo_95 (by decide) ?_
                    rw [show (cy_m2 (cy_m1 S c d x al 5).1 c d x (cy_m1 S c d x al 5).2 i).2 = (cy_m2 (cy_m1 S c d x al 5).1 c d x (cy_m1 S c d x al 5).2 (i + 1)).2 from by simp only [cy_m2, c_62, c_68, c_78, ↓reduceIte, not_true_eq_false, not_false_eq_true]] at hl
                    have hW := cy_castS (show (cy_m2 (cy_m1 S c d x al 5).1 c d x (cy_m1 S c d x al 5).2 i).1 = (cy_m2 (cy_m1 S c d x al 5).1 c d x (cy_m1 S c d x al 5).2 (i + 1)).1 from by simp only [cy_m2, c_62, c_68, c_78, ↓reduceIte, not_true_eq_false, not_false_eq_true]) hW
                    exact ih_59 (i + 1) (by omega) (by omega) _ _ hW _ (lv_sub hl [1, 0, 2, 3, 4, 5] rfl)
                  · skip
                    refine lv_aload_n hx hb dX1_moveTo_81 rfl (lv_at hl 2 rfl) ?_
                    refine lv_aload_n hx hb dX1_moveTo_82 rfl (lv_at hl 3 rfl) ?_
                    refine lv_iload hx hb dX1_moveTo_83 (lv_at hl 1 rfl) ?_
                    refine lv_iconst (v := 1) hx hb dX1_moveTo_85 (by decide) ?_
                    refine cy_callV (As := [.ref (ad (3 * d + 11)), .int (nI i), .int 1]) (rest := []) (q0 := 3 * c + 11) (ci := 1) hC.1 hC.2.1 hC.2.2 hW (c_X1_moveLiquid (c := c) (d := d) (i := i) (x := 1) (by omega) (by omega) (by omega) (by omega)) (cwV 3 hts gX1_moveTo_X1_moveLiquid rfl rfl rfl (by decide +kernel) ⟨Nat.le_of_ble_eq_true rfl, Nat.le_of_ble_eq_true rfl⟩) (cy_w_at (by omega) (cy_eY_o)) rfl rfl hl.1 rfl (Nat.le_of_ble_eq_true rfl) dX1_moveTo_86 ⟨Nat.le_of_ble_eq_true rfl, Nat.le_of_ble_eq_true rfl⟩ (k' := 0) (n' := 0) rfl rfl (fun H locs hW => ?_)
                    refine lv_iinc (v := ((cy_m2 (cy_m1 S c d x al 5).1 c d x (cy_m1 S c d x al 5).2 i).2) + 1) (lv' := [(4, .int (((cy_m2 (cy_m1 S c d x al 5).1 c d x (cy_m1 S c d x al 5).2 i).2) + 1)), (5, .int (nI i)), (0, .ref (ad (3 * c + 11))), (1, .ref (ad (3 * d + 11))), (2, .int x), (3, .int al)]) hx hb dX1_moveTo_89 hl (k := 0) rfl rfl (by decide) rfl (fun ls hl => ?_)
                    refine lv_iinc (v := nI (i + 1)) (lv' := [(5, .int (nI (i + 1))), (4, .int (((cy_m2 (cy_m1 S c d x al 5).1 c d x (cy_m1 S c d x al 5).2 i).2) + 1)), (0, .ref (ad (3 * c + 11))), (1, .ref (ad (3 * d + 11))), (2, .int x), (3, .int al)]) hx hb dX1_moveTo_92 hl (k := 1) rfl (nI_1 i) (by decide) rfl (fun ls hl => ?_)
                    refine lv_goto (tgt := 59) hx hb dX1_moveTo_95 (by decide) ?_
                    rw [show ((cy_m2 (cy_m1 S c d x al 5).1 c d x (cy_m1 S c d x al 5).2 i).2) + 1 = (cy_m2 (cy_m1 S c d x al 5).1 c d x (cy_m1 S c d x al 5).2 (i + 1)).2 from by simp only [cy_m2, c_62, c_68, c_78, ↓reduceIte, not_true_eq_false, not_false_eq_true]] at hl
                    have hW := cy_castS (show (cy_sMl ((cy_m2 (cy_m1 S c d x al 5).1 c d x (cy_m1 S c d x al 5).2 i).1) c d i 1) = (cy_m2 (cy_m1 S c d x al 5).1 c d x (cy_m1 S c d x al 5).2 (i + 1)).1 from by simp only [cy_m2, c_62, c_68, c_78, ↓reduceIte, not_true_eq_false, not_false_eq_true]) hW
                    exact ih_59 (i + 1) (by omega) (by omega) _ _ hW _ (lv_sub hl [1, 0, 2, 3, 4, 5] rfl)
          exact L_59 ((5 - 0) + 1) 0 (Nat.lt_succ_self _) (by omega) _ _ hW _ (lv_sub hl [1, 0, 2, 3, 4, 5] rfl)
        · skip
          have q_14 := cy_nle (a := 5) (b := i) (by omega) (by omega) c_14
          refine lv_aload_n hx hb dX1_moveTo_17 rfl (lv_at hl 2 rfl) ?_
          refine cy_get hC (3 * c + 11) (by omega) hi1 hW (cy_eY_o) rfl 10 (by decide) (hts (.fieldLink RX1 15 "CaskYard$Cask" "amounts" "[I") (by decide +kernel)) (fun _ h9 => h9) (v := .ref (ad (3 * c + 13))) rfl dX1_moveTo_18 ?_
          refine lv_iload hx hb dX1_moveTo_21 (lv_at hl 1 rfl) ?_
          refine cy_iald hC (3 * c + 13) (by omega) hW 0 (i := i) (cy_eY_a) rfl (by omega) (by decide) dX1_moveTo_23 ?_
          refine lv_i2l hx hb dX1_moveTo_24 rfl ?_
          refine lv_iload_n hx hb dX1_moveTo_25 rfl (lv_at hl 4 rfl) ?_
          refine lv_i2l hx hb dX1_moveTo_26 rfl ?_
          refine lv_lmul hx hb dX1_moveTo_27 ?_
          refine lv_iload_n hx hb dX1_moveTo_28 rfl (lv_at hl 5 rfl) ?_
          refine lv_i2l hx hb dX1_moveTo_29 rfl ?_
          refine lv_ldiv hx hb dX1_moveTo_30 (cy_l0 (fun q => hal (by rw [q]; decide))) ?_
          refine lv_l2i hx hb dX1_moveTo_31 rfl ?_
          refine lv_istore (lv' := [(6, .int (((((((cy_m1 S c d x al i).1 (3 * c + 13)) i).toInt64) * x.toInt64) / al.toInt64).toInt32)), (4, .int ((cy_m1 S c d x al i).2)), (5, .int (nI i)), (0, .ref (ad (3 * c + 11))), (1, .ref (ad (3 * d + 11))), (2, .int x), (3, .int al)]) hx hb dX1_moveTo_32 hl (by decide) rfl (fun ls hl => ?_)
          refine lv_aload_n hx hb dX1_moveTo_34 rfl (lv_at hl 3 rfl) ?_
          refine lv_aload_n hx hb dX1_moveTo_35 rfl (lv_at hl 4 rfl) ?_
          refine lv_iload hx hb dX1_moveTo_36 (lv_at hl 2 rfl) ?_
          refine lv_iload hx hb dX1_moveTo_38 (lv_at hl 0 rfl) ?_
          refine cy_callV (As := [.ref (ad (3 * d + 11)), .int (nI i), .int (((((((cy_m1 S c d x al i).1 (3 * c + 13)) i).toInt64) * x.toInt64) / al.toInt64).toInt32)]) (rest := []) (q0 := 3 * c + 11) (ci := 1) hC.1 hC.2.1 hC.2.2 hW (c_X1_moveLiquid (c := c) (d := d) (i := i) (x := (((((((cy_m1 S c d x al i).1 (3 * c + 13)) i).toInt64) * x.toInt64) / al.toInt64).toInt32)) (by omega) (by omega) (by omega) (by omega)) (cwV 3 hts gX1_moveTo_X1_moveLiquid rfl rfl rfl (by decide +kernel) ⟨Nat.le_of_ble_eq_true rfl, Nat.le_of_ble_eq_true rfl⟩) (cy_w_at (by omega) (cy_eY_o)) rfl rfl hl.1 rfl (Nat.le_of_ble_eq_true rfl) dX1_moveTo_40 ⟨Nat.le_of_ble_eq_true rfl, Nat.le_of_ble_eq_true rfl⟩ (k' := 0) (n' := 0) rfl rfl (fun H locs hW => ?_)
          refine lv_iload hx hb dX1_moveTo_43 (lv_at hl 1 rfl) ?_
          refine lv_iload hx hb dX1_moveTo_45 (lv_at hl 0 rfl) ?_
          refine lv_iadd hx hb dX1_moveTo_47 ?_
          refine lv_istore (lv' := [(4, .int (((cy_m1 S c d x al i).2) + (((((((cy_m1 S c d x al i).1 (3 * c + 13)) i).toInt64) * x.toInt64) / al.toInt64).toInt32))), (6, .int (((((((cy_m1 S c d x al i).1 (3 * c + 13)) i).toInt64) * x.toInt64) / al.toInt64).toInt32)), (5, .int (nI i)), (0, .ref (ad (3 * c + 11))), (1, .ref (ad (3 * d + 11))), (2, .int x), (3, .int al)]) hx hb dX1_moveTo_48 hl (by decide) rfl (fun ls hl => ?_)
          refine lv_iinc (v := nI (i + 1)) (lv' := [(5, .int (nI (i + 1))), (4, .int (((cy_m1 S c d x al i).2) + (((((((cy_m1 S c d x al i).1 (3 * c + 13)) i).toInt64) * x.toInt64) / al.toInt64).toInt32))), (6, .int (((((((cy_m1 S c d x al i).1 (3 * c + 13)) i).toInt64) * x.toInt64) / al.toInt64).toInt32)), (0, .ref (ad (3 * c + 11))), (1, .ref (ad (3 * d + 11))), (2, .int x), (3, .int al)]) hx hb dX1_moveTo_50 hl (k := 2) rfl (nI_1 i) (by decide) rfl (fun ls hl => ?_)
          refine lv_goto (tgt := 11) hx hb dX1_moveTo_53 (by decide) ?_
          exact ih_11 (i + 1) (by omega) (by omega) _ _ hW _ (lv_sub hl [1, 0, 3, 4, 5, 6] rfl)
    exact L_11 ((5 - 0) + 1) 0 (Nat.lt_succ_self _) (by omega) _ _ hW _ (lv_sub hl [1, 0, 2, 3, 4, 5] rfl)
  · exact absurd (Int32.not_lt.mp c_1) hal
abbrev rm_X1_clear : Room := { frames := 1, cells := 0, slots := 0, locals := 23 }
set_option maxHeartbeats 4000000 in
set_option maxRecDepth 100000 in
theorem c_X1_clear {l : Launch} {D : va_G} {kI kJ kZ kC : ClassId} {ad : Nat → Nat} {S : Nat → Nat → Int32} {tl : va_W} {Z : Nat → Int64} {c : Nat} (hc : c < 13) : cy_M l yX1_clear wsX1_clear rm_X1_clear D (cy_tys kI kJ kZ kC) [.ref (ad (3 * c + 11))] (cy_Y kI kJ kC ad S Z tl) none (cy_Y kI kJ kC ad (cy_sCl S c) Z tl) := by
  refine cy_of (own := RX1) (cc := cX1_clear) (maxL := 1) (ret := none) (i := .return_) (by decide) rfl rfl (Nat.le_of_ble_eq_true rfl) cy_endV ?_
  intro p e s m args below meth co Q A ls hC hE hW hl
  have hx := hC.1.1; have hb := hC.1.2.1; have hml := hC.1.2.2.1; have hown := hC.1.2.2.2.1; have hts := hC.1.2.2.2.2
  have hl : lv_has ls 1 [(0, .ref (ad (3 * c + 11)))] := hl
  have hi1 : ∀ w ∈ u_ws RX1 TX1 11, w ∈ wsX1_clear := by decide +kernel
  refine lv_aload_n hx hb dX1_clear_0 rfl (lv_at hl 0 rfl) ?_
  refine lv_iconst (v := 0) hx hb dX1_clear_1 (by decide) ?_
  refine cy_put hC (3 * c + 11) (by omega) hi1 tyX1 tyX1_ok nmX1 hW (cy_eY_o) rfl 2 (by decide) (hts (.fieldLink RX1 18 "CaskYard$Cask" "sound" "Z") (by decide +kernel)) (fun _ h9 => h9) rfl (ty := .boolean) (by decide +kernel) rfl rfl (Nat.le_of_ble_eq_true rfl) (upd (S (3 * c + 11)) 2 0) cy_hC2 (S' := (va_up S (3 * c + 11) (upd (S (3 * c + 11)) 2 0))) rfl dX1_clear_2 (fun H locs hW => ?_)
  refine lv_aload_n hx hb dX1_clear_5 rfl (lv_at hl 0 rfl) ?_
  refine lv_iconst (v := 0) hx hb dX1_clear_6 (by decide) ?_
  refine cy_put hC (3 * c + 11) (by omega) hi1 tyX1 tyX1_ok nmX1 hW (cy_rd (cy_us) cy_eY_o) rfl 3 (by decide) (hts (.fieldLink RX1 22 "CaskYard$Cask" "flaws" "I") (by decide +kernel)) (fun _ h9 => h9) rfl (ty := .int) (by decide +kernel) rfl rfl (Nat.le_of_ble_eq_true rfl) (upd (upd (S (3 * c + 11)) 2 0) 3 0) cy_hC3 (S' := (va_up S (3 * c + 11) (upd (upd (S (3 * c + 11)) 2 0) 3 0))) cy_uu dX1_clear_7 (fun H locs hW => ?_)
  refine lv_aload_n hx hb dX1_clear_10 rfl (lv_at hl 0 rfl) ?_
  refine lv_iconst (v := 0) hx hb dX1_clear_11 (by decide) ?_
  refine cy_put hC (3 * c + 11) (by omega) hi1 tyX1 tyX1_ok nmX1 hW (cy_rd (cy_us) cy_eY_o) rfl 4 (by decide) (hts (.fieldLink RX1 26 "CaskYard$Cask" "hoops" "I") (by decide +kernel)) (fun _ h9 => h9) rfl (ty := .int) (by decide +kernel) rfl rfl (Nat.le_of_ble_eq_true rfl) (upd (upd (upd (S (3 * c + 11)) 2 0) 3 0) 4 0) cy_hC4 (S' := (va_up S (3 * c + 11) (upd (upd (upd (S (3 * c + 11)) 2 0) 3 0) 4 0))) cy_uu dX1_clear_12 (fun H locs hW => ?_)
  refine lv_aload_n hx hb dX1_clear_15 rfl (lv_at hl 0 rfl) ?_
  refine lv_iconst (v := 0) hx hb dX1_clear_16 (by decide) ?_
  refine cy_put hC (3 * c + 11) (by omega) hi1 tyX1 tyX1_ok nmX1 hW (cy_rd (cy_us) cy_eY_o) rfl 5 (by decide) (hts (.fieldLink RX1 29 "CaskYard$Cask" "swelling" "I") (by decide +kernel)) (fun _ h9 => h9) rfl (ty := .int) (by decide +kernel) rfl rfl (Nat.le_of_ble_eq_true rfl) (upd (upd (upd (upd (S (3 * c + 11)) 2 0) 3 0) 4 0) 5 0) cy_hC5 (S' := (va_up S (3 * c + 11) (upd (upd (upd (upd (S (3 * c + 11)) 2 0) 3 0) 4 0) 5 0))) cy_uu dX1_clear_17 (fun H locs hW => ?_)
  refine lv_aload_n hx hb dX1_clear_20 rfl (lv_at hl 0 rfl) ?_
  refine lv_iconst (v := 0) hx hb dX1_clear_21 (by decide) ?_
  refine cy_put hC (3 * c + 11) (by omega) hi1 tyX1 tyX1_ok nmX1 hW (cy_rd (cy_us) cy_eY_o) rfl 6 (by decide) (hts (.fieldLink RX1 32 "CaskYard$Cask" "fillings" "I") (by decide +kernel)) (fun _ h9 => h9) rfl (ty := .int) (by decide +kernel) rfl rfl (Nat.le_of_ble_eq_true rfl) (upd (upd (upd (upd (upd (S (3 * c + 11)) 2 0) 3 0) 4 0) 5 0) 6 0) cy_hC6 (S' := (va_up S (3 * c + 11) (upd (upd (upd (upd (upd (S (3 * c + 11)) 2 0) 3 0) 4 0) 5 0) 6 0))) cy_uu dX1_clear_22 (fun H locs hW => ?_)
  refine lv_aload_n hx hb dX1_clear_25 rfl (lv_at hl 0 rfl) ?_
  refine lv_iconst (v := 0) hx hb dX1_clear_26 (by decide) ?_
  refine cy_put hC (3 * c + 11) (by omega) hi1 tyX1 tyX1_ok nmX1 hW (cy_rd (cy_us) cy_eY_o) rfl 7 (by decide) (hts (.fieldLink RX1 35 "CaskYard$Cask" "airMonths" "I") (by decide +kernel)) (fun _ h9 => h9) rfl (ty := .int) (by decide +kernel) rfl rfl (Nat.le_of_ble_eq_true rfl) (upd (upd (upd (upd (upd (upd (S (3 * c + 11)) 2 0) 3 0) 4 0) 5 0) 6 0) 7 0) cy_hC7 (S' := (va_up S (3 * c + 11) (upd (upd (upd (upd (upd (upd (S (3 * c + 11)) 2 0) 3 0) 4 0) 5 0) 6 0) 7 0))) cy_uu dX1_clear_27 (fun H locs hW => ?_)
  refine lv_aload_n hx hb dX1_clear_30 rfl (lv_at hl 0 rfl) ?_
  refine lv_iconst (v := 0) hx hb dX1_clear_31 (by decide) ?_
  refine cy_put hC (3 * c + 11) (by omega) hi1 tyX1 tyX1_ok nmX1 hW (cy_rd (cy_us) cy_eY_o) rfl 8 (by decide) (hts (.fieldLink RX1 38 "CaskYard$Cask" "grains" "I") (by decide +kernel)) (fun _ h9 => h9) rfl (ty := .int) (by decide +kernel) rfl rfl (Nat.le_of_ble_eq_true rfl) (upd (upd (upd (upd (upd (upd (upd (S (3 * c + 11)) 2 0) 3 0) 4 0) 5 0) 6 0) 7 0) 8 0) cy_hC8 (S' := (va_up S (3 * c + 11) (upd (upd (upd (upd (upd (upd (upd (S (3 * c + 11)) 2 0) 3 0) 4 0) 5 0) 6 0) 7 0) 8 0))) cy_uu dX1_clear_32 (fun H locs hW => ?_)
  refine lv_aload_n hx hb dX1_clear_35 rfl (lv_at hl 0 rfl) ?_
  refine cy_get hC (3 * c + 11) (by omega) hi1 hW (cy_rd (cy_us) cy_eY_o) rfl 9 (by decide) (hts (.fieldLink RX1 9 "CaskYard$Cask" "tensions" "[I") (by decide +kernel)) (fun _ h9 => h9) (v := .ref (ad (3 * c + 12))) rfl dX1_clear_36 ?_
  refine lv_iconst (v := 0) hx hb dX1_clear_39 (by decide) ?_
  refine cy_callS (As := [.ref (ad (3 * c + 12)), .int 0]) (rest := []) hC.1 hC.2.1 hC.2.2 hW (c_J7_fill_53178 (j := (3 * c + 12)) (N := 8) (by omega) (fun _ => cy_eY_t) (by decide)) (va_cwS 2 hts gX1_clear_J7_fill_53178 rfl rfl rfl (by decide +kernel) ⟨Nat.le_of_ble_eq_true rfl, Nat.le_of_ble_eq_true rfl⟩) rfl hl.1 rfl (Nat.le_of_ble_eq_true rfl) dX1_clear_40 ⟨Nat.le_of_ble_eq_true rfl, Nat.le_of_ble_eq_true rfl⟩ (k' := 0) (n' := 0) rfl rfl (fun H locs hW => ?_)
  rw [show va_up (va_up S (3 * c + 11) (upd (upd (upd (upd (upd (upd (upd (S (3 * c + 11)) 2 0) 3 0) 4 0) 5 0) 6 0) 7 0) 8 0)) (3 * c + 12) (cy_fl ((va_up S (3 * c + 11) (upd (upd (upd (upd (upd (upd (upd (S (3 * c + 11)) 2 0) 3 0) 4 0) 5 0) 6 0) 7 0) 8 0)) (3 * c + 12)) 0 8) = (va_up (va_up S (3 * c + 11) (upd (upd (upd (upd (upd (upd (upd (S (3 * c + 11)) 2 0) 3 0) 4 0) 5 0) 6 0) 7 0) 8 0)) (3 * c + 12) (cy_fl (S (3 * c + 12)) 0 8)) from by rw [cy_un (by omega)]] at hW
  refine lv_aload_n hx hb dX1_clear_43 rfl (lv_at hl 0 rfl) ?_
  refine cy_get hC (3 * c + 11) (by omega) hi1 hW (cy_rd ((cy_un (by omega)).trans cy_us) cy_eY_o) rfl 10 (by decide) (hts (.fieldLink RX1 15 "CaskYard$Cask" "amounts" "[I") (by decide +kernel)) (fun _ h9 => h9) (v := .ref (ad (3 * c + 13))) rfl dX1_clear_44 ?_
  refine lv_iconst (v := 0) hx hb dX1_clear_47 (by decide) ?_
  refine cy_callS (As := [.ref (ad (3 * c + 13)), .int 0]) (rest := []) hC.1 hC.2.1 hC.2.2 hW (c_J7_fill_53178 (j := (3 * c + 13)) (N := 5) (by omega) (fun _ => cy_eY_a) (by decide)) (va_cwS 2 hts gX1_clear_J7_fill_53178 rfl rfl rfl (by decide +kernel) ⟨Nat.le_of_ble_eq_true rfl, Nat.le_of_ble_eq_true rfl⟩) rfl hl.1 rfl (Nat.le_of_ble_eq_true rfl) dX1_clear_48 ⟨Nat.le_of_ble_eq_true rfl, Nat.le_of_ble_eq_true rfl⟩ (k' := 0) (n' := 0) rfl rfl (fun H locs hW => ?_)
  rw [show va_up (va_up (va_up S (3 * c + 11) (upd (upd (upd (upd (upd (upd (upd (S (3 * c + 11)) 2 0) 3 0) 4 0) 5 0) 6 0) 7 0) 8 0)) (3 * c + 12) (cy_fl (S (3 * c + 12)) 0 8)) (3 * c + 13) (cy_fl ((va_up (va_up S (3 * c + 11) (upd (upd (upd (upd (upd (upd (upd (S (3 * c + 11)) 2 0) 3 0) 4 0) 5 0) 6 0) 7 0) 8 0)) (3 * c + 12) (cy_fl (S (3 * c + 12)) 0 8)) (3 * c + 13)) 0 5) = (va_up (va_up (va_up S (3 * c + 11) (upd (upd (upd (upd (upd (upd (upd (S (3 * c + 11)) 2 0) 3 0) 4 0) 5 0) 6 0) 7 0) 8 0)) (3 * c + 12) (cy_fl (S (3 * c + 12)) 0 8)) (3 * c + 13) (cy_fl (S (3 * c + 13)) 0 5)) from by rw [(cy_un (by omega)).trans (cy_un (by omega))]] at hW
  exact hE _ _ _ _ _ _ (Nat.le_of_ble_eq_true rfl) (Nat.le_of_ble_eq_true rfl) hW dX1_clear_51
abbrev rm_X1_copyFrom : Room := { frames := 1, cells := 0, slots := 0, locals := 60 }
set_option maxHeartbeats 4000000 in
set_option maxRecDepth 100000 in
theorem c_X1_copyFrom {l : Launch} {D : va_G} {kI kJ kZ kC : ClassId} {ad : Nat → Nat} {S : Nat → Nat → Int32} {tl : va_W} {Z : Nat → Int64} {c d : Nat} (hcd : c ≠ d) (hd : d < 13) (hb2 : S (3 * d + 11) 2 = 0 ∨ S (3 * d + 11) 2 = 1) (hc : c < 13) : cy_M l yX1_copyFrom wsX1_copyFrom rm_X1_copyFrom D (cy_tys kI kJ kZ kC) [.ref (ad (3 * c + 11)), .ref (ad (3 * d + 11))] (cy_Y kI kJ kC ad S Z tl) none (cy_Y kI kJ kC ad (cy_sCp S c d) Z tl) := by
  refine cy_of (own := RX1) (cc := cX1_copyFrom) (maxL := 2) (ret := none) (i := .return_) (by decide) rfl rfl (Nat.le_of_ble_eq_true rfl) cy_endV ?_
  intro p e s m args below meth co Q A ls hC hE hW hl
  have hx := hC.1.1; have hb := hC.1.2.1; have hml := hC.1.2.2.1; have hown := hC.1.2.2.2.1; have hts := hC.1.2.2.2.2
  have hl : lv_has ls 2 [(0, .ref (ad (3 * c + 11))), (1, .ref (ad (3 * d + 11)))] := hl
  have hi1 : ∀ w ∈ u_ws RX1 TX1 11, w ∈ wsX1_copyFrom := by decide +kernel
  refine lv_aload_n hx hb dX1_copyFrom_0 rfl (lv_at hl 0 rfl) ?_
  refine lv_aload_n hx hb dX1_copyFrom_1 rfl (lv_at hl 1 rfl) ?_
  refine cy_get hC (3 * d + 11) (by omega) hi1 hW (cy_eY_o) rfl 0 (by decide) (hts (.fieldLink RX1 47 "CaskYard$Cask" "sort" "I") (by decide +kernel)) (fun _ h9 => h9) (v := .int (S (3 * d + 11) 0)) rfl dX1_copyFrom_2 ?_
  refine cy_put hC (3 * c + 11) (by omega) hi1 tyX1 tyX1_ok nmX1 hW (cy_eY_o) rfl 0 (by decide) (hts (.fieldLink RX1 47 "CaskYard$Cask" "sort" "I") (by decide +kernel)) (fun _ h9 => h9) rfl (ty := .int) (by decide +kernel) rfl rfl (Nat.le_of_ble_eq_true rfl) (upd (S (3 * c + 11)) 0 (S (3 * d + 11) 0)) cy_hC0 (S' := (va_up S (3 * c + 11) (upd (S (3 * c + 11)) 0 (S (3 * d + 11) 0)))) rfl dX1_copyFrom_5 (fun H locs hW => ?_)
  refine lv_aload_n hx hb dX1_copyFrom_8 rfl (lv_at hl 0 rfl) ?_
  refine lv_aload_n hx hb dX1_copyFrom_9 rfl (lv_at hl 1 rfl) ?_
  refine cy_get hC (3 * d + 11) (by omega) hi1 hW (cy_rd (cy_un (by omega)) cy_eY_o) rfl 1 (by decide) (hts (.fieldLink RX1 50 "CaskYard$Cask" "room" "I") (by decide +kernel)) (fun _ h9 => h9) (v := .int (S (3 * d + 11) 1)) rfl dX1_copyFrom_10 ?_
  refine cy_put hC (3 * c + 11) (by omega) hi1 tyX1 tyX1_ok nmX1 hW (cy_rd (cy_us) cy_eY_o) rfl 1 (by decide) (hts (.fieldLink RX1 50 "CaskYard$Cask" "room" "I") (by decide +kernel)) (fun _ h9 => h9) rfl (ty := .int) (by decide +kernel) rfl rfl (Nat.le_of_ble_eq_true rfl) (upd (upd (S (3 * c + 11)) 0 (S (3 * d + 11) 0)) 1 (S (3 * d + 11) 1)) cy_hC1 (S' := (va_up S (3 * c + 11) (upd (upd (S (3 * c + 11)) 0 (S (3 * d + 11) 0)) 1 (S (3 * d + 11) 1)))) cy_uu dX1_copyFrom_13 (fun H locs hW => ?_)
  refine lv_aload_n hx hb dX1_copyFrom_16 rfl (lv_at hl 0 rfl) ?_
  refine lv_aload_n hx hb dX1_copyFrom_17 rfl (lv_at hl 1 rfl) ?_
  refine cy_get hC (3 * d + 11) (by omega) hi1 hW (cy_rd (cy_un (by omega)) cy_eY_o) rfl 2 (by decide) (hts (.fieldLink RX1 18 "CaskYard$Cask" "sound" "Z") (by decide +kernel)) (fun _ h9 => h9) (v := .int (S (3 * d + 11) 2)) rfl dX1_copyFrom_18 ?_
  refine cy_put hC (3 * c + 11) (by omega) hi1 tyX1 tyX1_ok nmX1 hW (cy_rd (cy_us) cy_eY_o) rfl 2 (by decide) (hts (.fieldLink RX1 18 "CaskYard$Cask" "sound" "Z") (by decide +kernel)) (fun _ h9 => h9) rfl (ty := .boolean) (by decide +kernel) (cy_bn hb2) (cy_bf hb2) (Nat.le_of_ble_eq_true rfl) (upd (upd (upd (S (3 * c + 11)) 0 (S (3 * d + 11) 0)) 1 (S (3 * d + 11) 1)) 2 (S (3 * d + 11) 2)) cy_hC2 (S' := (va_up S (3 * c + 11) (upd (upd (upd (S (3 * c + 11)) 0 (S (3 * d + 11) 0)) 1 (S (3 * d + 11) 1)) 2 (S (3 * d + 11) 2)))) cy_uu dX1_copyFrom_21 (fun H locs hW => ?_)
  refine lv_aload_n hx hb dX1_copyFrom_24 rfl (lv_at hl 0 rfl) ?_
  refine lv_aload_n hx hb dX1_copyFrom_25 rfl (lv_at hl 1 rfl) ?_
  refine cy_get hC (3 * d + 11) (by omega) hi1 hW (cy_rd (cy_un (by omega)) cy_eY_o) rfl 3 (by decide) (hts (.fieldLink RX1 22 "CaskYard$Cask" "flaws" "I") (by decide +kernel)) (fun _ h9 => h9) (v := .int (S (3 * d + 11) 3)) rfl dX1_copyFrom_26 ?_
  refine cy_put hC (3 * c + 11) (by omega) hi1 tyX1 tyX1_ok nmX1 hW (cy_rd (cy_us) cy_eY_o) rfl 3 (by decide) (hts (.fieldLink RX1 22 "CaskYard$Cask" "flaws" "I") (by decide +kernel)) (fun _ h9 => h9) rfl (ty := .int) (by decide +kernel) rfl rfl (Nat.le_of_ble_eq_true rfl) (upd (upd (upd (upd (S (3 * c + 11)) 0 (S (3 * d + 11) 0)) 1 (S (3 * d + 11) 1)) 2 (S (3 * d + 11) 2)) 3 (S (3 * d + 11) 3)) cy_hC3 (S' := (va_up S (3 * c + 11) (upd (upd (upd (upd (S (3 * c + 11)) 0 (S (3 * d + 11) 0)) 1 (S (3 * d + 11) 1)) 2 (S (3 * d + 11) 2)) 3 (S (3 * d + 11) 3)))) cy_uu dX1_copyFrom_29 (fun H locs hW => ?_)
  refine lv_aload_n hx hb dX1_copyFrom_32 rfl (lv_at hl 0 rfl) ?_
  refine lv_aload_n hx hb dX1_copyFrom_33 rfl (lv_at hl 1 rfl) ?_
  refine cy_get hC (3 * d + 11) (by omega) hi1 hW (cy_rd (cy_un (by omega)) cy_eY_o) rfl 4 (by decide) (hts (.fieldLink RX1 26 "CaskYard$Cask" "hoops" "I") (by decide +kernel)) (fun _ h9 => h9) (v := .int (S (3 * d + 11) 4)) rfl dX1_copyFrom_34 ?_
  refine cy_put hC (3 * c + 11) (by omega) hi1 tyX1 tyX1_ok nmX1 hW (cy_rd (cy_us) cy_eY_o) rfl 4 (by decide) (hts (.fieldLink RX1 26 "CaskYard$Cask" "hoops" "I") (by decide +kernel)) (fun _ h9 => h9) rfl (ty := .int) (by decide +kernel) rfl rfl (Nat.le_of_ble_eq_true rfl) (upd (upd (upd (upd (upd (S (3 * c + 11)) 0 (S (3 * d + 11) 0)) 1 (S (3 * d + 11) 1)) 2 (S (3 * d + 11) 2)) 3 (S (3 * d + 11) 3)) 4 (S (3 * d + 11) 4)) cy_hC4 (S' := (va_up S (3 * c + 11) (upd (upd (upd (upd (upd (S (3 * c + 11)) 0 (S (3 * d + 11) 0)) 1 (S (3 * d + 11) 1)) 2 (S (3 * d + 11) 2)) 3 (S (3 * d + 11) 3)) 4 (S (3 * d + 11) 4)))) cy_uu dX1_copyFrom_37 (fun H locs hW => ?_)
  refine lv_aload_n hx hb dX1_copyFrom_40 rfl (lv_at hl 0 rfl) ?_
  refine lv_aload_n hx hb dX1_copyFrom_41 rfl (lv_at hl 1 rfl) ?_
  refine cy_get hC (3 * d + 11) (by omega) hi1 hW (cy_rd (cy_un (by omega)) cy_eY_o) rfl 5 (by decide) (hts (.fieldLink RX1 29 "CaskYard$Cask" "swelling" "I") (by decide +kernel)) (fun _ h9 => h9) (v := .int (S (3 * d + 11) 5)) rfl dX1_copyFrom_42 ?_
  refine cy_put hC (3 * c + 11) (by omega) hi1 tyX1 tyX1_ok nmX1 hW (cy_rd (cy_us) cy_eY_o) rfl 5 (by decide) (hts (.fieldLink RX1 29 "CaskYard$Cask" "swelling" "I") (by decide +kernel)) (fun _ h9 => h9) rfl (ty := .int) (by decide +kernel) rfl rfl (Nat.le_of_ble_eq_true rfl) (upd (upd (upd (upd (upd (upd (S (3 * c + 11)) 0 (S (3 * d + 11) 0)) 1 (S (3 * d + 11) 1)) 2 (S (3 * d + 11) 2)) 3 (S (3 * d + 11) 3)) 4 (S (3 * d + 11) 4)) 5 (S (3 * d + 11) 5)) cy_hC5 (S' := (va_up S (3 * c + 11) (upd (upd (upd (upd (upd (upd (S (3 * c + 11)) 0 (S (3 * d + 11) 0)) 1 (S (3 * d + 11) 1)) 2 (S (3 * d + 11) 2)) 3 (S (3 * d + 11) 3)) 4 (S (3 * d + 11) 4)) 5 (S (3 * d + 11) 5)))) cy_uu dX1_copyFrom_45 (fun H locs hW => ?_)
  refine lv_aload_n hx hb dX1_copyFrom_48 rfl (lv_at hl 0 rfl) ?_
  refine lv_aload_n hx hb dX1_copyFrom_49 rfl (lv_at hl 1 rfl) ?_
  refine cy_get hC (3 * d + 11) (by omega) hi1 hW (cy_rd (cy_un (by omega)) cy_eY_o) rfl 6 (by decide) (hts (.fieldLink RX1 32 "CaskYard$Cask" "fillings" "I") (by decide +kernel)) (fun _ h9 => h9) (v := .int (S (3 * d + 11) 6)) rfl dX1_copyFrom_50 ?_
  refine cy_put hC (3 * c + 11) (by omega) hi1 tyX1 tyX1_ok nmX1 hW (cy_rd (cy_us) cy_eY_o) rfl 6 (by decide) (hts (.fieldLink RX1 32 "CaskYard$Cask" "fillings" "I") (by decide +kernel)) (fun _ h9 => h9) rfl (ty := .int) (by decide +kernel) rfl rfl (Nat.le_of_ble_eq_true rfl) (upd (upd (upd (upd (upd (upd (upd (S (3 * c + 11)) 0 (S (3 * d + 11) 0)) 1 (S (3 * d + 11) 1)) 2 (S (3 * d + 11) 2)) 3 (S (3 * d + 11) 3)) 4 (S (3 * d + 11) 4)) 5 (S (3 * d + 11) 5)) 6 (S (3 * d + 11) 6)) cy_hC6 (S' := (va_up S (3 * c + 11) (upd (upd (upd (upd (upd (upd (upd (S (3 * c + 11)) 0 (S (3 * d + 11) 0)) 1 (S (3 * d + 11) 1)) 2 (S (3 * d + 11) 2)) 3 (S (3 * d + 11) 3)) 4 (S (3 * d + 11) 4)) 5 (S (3 * d + 11) 5)) 6 (S (3 * d + 11) 6)))) cy_uu dX1_copyFrom_53 (fun H locs hW => ?_)
  refine lv_aload_n hx hb dX1_copyFrom_56 rfl (lv_at hl 0 rfl) ?_
  refine lv_aload_n hx hb dX1_copyFrom_57 rfl (lv_at hl 1 rfl) ?_
  refine cy_get hC (3 * d + 11) (by omega) hi1 hW (cy_rd (cy_un (by omega)) cy_eY_o) rfl 7 (by decide) (hts (.fieldLink RX1 35 "CaskYard$Cask" "airMonths" "I") (by decide +kernel)) (fun _ h9 => h9) (v := .int (S (3 * d + 11) 7)) rfl dX1_copyFrom_58 ?_
  refine cy_put hC (3 * c + 11) (by omega) hi1 tyX1 tyX1_ok nmX1 hW (cy_rd (cy_us) cy_eY_o) rfl 7 (by decide) (hts (.fieldLink RX1 35 "CaskYard$Cask" "airMonths" "I") (by decide +kernel)) (fun _ h9 => h9) rfl (ty := .int) (by decide +kernel) rfl rfl (Nat.le_of_ble_eq_true rfl) (upd (upd (upd (upd (upd (upd (upd (upd (S (3 * c + 11)) 0 (S (3 * d + 11) 0)) 1 (S (3 * d + 11) 1)) 2 (S (3 * d + 11) 2)) 3 (S (3 * d + 11) 3)) 4 (S (3 * d + 11) 4)) 5 (S (3 * d + 11) 5)) 6 (S (3 * d + 11) 6)) 7 (S (3 * d + 11) 7)) cy_hC7 (S' := (va_up S (3 * c + 11) (upd (upd (upd (upd (upd (upd (upd (upd (S (3 * c + 11)) 0 (S (3 * d + 11) 0)) 1 (S (3 * d + 11) 1)) 2 (S (3 * d + 11) 2)) 3 (S (3 * d + 11) 3)) 4 (S (3 * d + 11) 4)) 5 (S (3 * d + 11) 5)) 6 (S (3 * d + 11) 6)) 7 (S (3 * d + 11) 7)))) cy_uu dX1_copyFrom_61 (fun H locs hW => ?_)
  refine lv_aload_n hx hb dX1_copyFrom_64 rfl (lv_at hl 0 rfl) ?_
  refine lv_aload_n hx hb dX1_copyFrom_65 rfl (lv_at hl 1 rfl) ?_
  refine cy_get hC (3 * d + 11) (by omega) hi1 hW (cy_rd (cy_un (by omega)) cy_eY_o) rfl 8 (by decide) (hts (.fieldLink RX1 38 "CaskYard$Cask" "grains" "I") (by decide +kernel)) (fun _ h9 => h9) (v := .int (S (3 * d + 11) 8)) rfl dX1_copyFrom_66 ?_
  refine cy_put hC (3 * c + 11) (by omega) hi1 tyX1 tyX1_ok nmX1 hW (cy_rd (cy_us) cy_eY_o) rfl 8 (by decide) (hts (.fieldLink RX1 38 "CaskYard$Cask" "grains" "I") (by decide +kernel)) (fun _ h9 => h9) rfl (ty := .int) (by decide +kernel) rfl rfl (Nat.le_of_ble_eq_true rfl) (upd (upd (upd (upd (upd (upd (upd (upd (upd (S (3 * c + 11)) 0 (S (3 * d + 11) 0)) 1 (S (3 * d + 11) 1)) 2 (S (3 * d + 11) 2)) 3 (S (3 * d + 11) 3)) 4 (S (3 * d + 11) 4)) 5 (S (3 * d + 11) 5)) 6 (S (3 * d + 11) 6)) 7 (S (3 * d + 11) 7)) 8 (S (3 * d + 11) 8)) cy_hC8 (S' := (va_up S (3 * c + 11) (upd (upd (upd (upd (upd (upd (upd (upd (upd (S (3 * c + 11)) 0 (S (3 * d + 11) 0)) 1 (S (3 * d + 11) 1)) 2 (S (3 * d + 11) 2)) 3 (S (3 * d + 11) 3)) 4 (S (3 * d + 11) 4)) 5 (S (3 * d + 11) 5)) 6 (S (3 * d + 11) 6)) 7 (S (3 * d + 11) 7)) 8 (S (3 * d + 11) 8)))) cy_uu dX1_copyFrom_69 (fun H locs hW => ?_)
  refine lv_aload_n hx hb dX1_copyFrom_72 rfl (lv_at hl 1 rfl) ?_
  refine cy_get hC (3 * d + 11) (by omega) hi1 hW (cy_rd (cy_un (by omega)) cy_eY_o) rfl 9 (by decide) (hts (.fieldLink RX1 9 "CaskYard$Cask" "tensions" "[I") (by decide +kernel)) (fun _ h9 => h9) (v := .ref (ad (3 * d + 12))) rfl dX1_copyFrom_73 ?_
  refine lv_iconst (v := 0) hx hb dX1_copyFrom_76 (by decide) ?_
  refine lv_aload_n hx hb dX1_copyFrom_77 rfl (lv_at hl 0 rfl) ?_
  refine cy_get hC (3 * c + 11) (by omega) hi1 hW (cy_rd (cy_us) cy_eY_o) rfl 9 (by decide) (hts (.fieldLink RX1 9 "CaskYard$Cask" "tensions" "[I") (by decide +kernel)) (fun _ h9 => h9) (v := .ref (ad (3 * c + 12))) rfl dX1_copyFrom_78 ?_
  refine lv_iconst (v := 0) hx hb dX1_copyFrom_81 (by decide) ?_
  refine lv_bipush (v := 8) hx hb dX1_copyFrom_82 (by decide) ?_
  refine cy_copy hC (hml.trans hl.1.symm) (hts (.methodLink RX1 53 arraycopyName) (by decide +kernel)) (hts (.native arraycopyName) (by decide +kernel)) (hts (.static arraycopyName) (by decide +kernel)) (hts (.initialized "java/lang/System") (by decide +kernel)) hW (3 * d + 12) (3 * c + 12) (sp := 0) (dp := 0) (k := 8) rfl (cy_w_at (by omega) (cy_rd (cy_un (by omega)) cy_eY_t)) (cy_w_at (by omega) (cy_rd (cy_un (by omega)) cy_eY_t)) (by omega) (by omega) (by decide) (by decide) ((cy_w_set (by omega) (f := va_cpy (S (3 * d + 12)) (S (3 * c + 12)) 0 0 8) cy_eY_t.symm).trans (congrArg (fun z => cy_w _ ad _ z tl) (show _ = (va_up (va_up S (3 * c + 11) (upd (upd (upd (upd (upd (upd (upd (upd (upd (S (3 * c + 11)) 0 (S (3 * d + 11) 0)) 1 (S (3 * d + 11) 1)) 2 (S (3 * d + 11) 2)) 3 (S (3 * d + 11) 3)) 4 (S (3 * d + 11) 4)) 5 (S (3 * d + 11) 5)) 6 (S (3 * d + 11) 6)) 7 (S (3 * d + 11) 7)) 8 (S (3 * d + 11) 8))) (3 * c + 12) (va_cpy (S (3 * d + 12)) (S (3 * c + 12)) 0 0 8)) from rfl))) (Nat.le_of_ble_eq_true rfl) (Nat.le_of_ble_eq_true rfl) dX1_copyFrom_84 (fun H locs hW => ?_)
  refine lv_aload_n hx hb dX1_copyFrom_87 rfl (lv_at hl 1 rfl) ?_
  refine cy_get hC (3 * d + 11) (by omega) hi1 hW (cy_rd ((cy_un (by omega)).trans (cy_un (by omega))) cy_eY_o) rfl 10 (by decide) (hts (.fieldLink RX1 15 "CaskYard$Cask" "amounts" "[I") (by decide +kernel)) (fun _ h9 => h9) (v := .ref (ad (3 * d + 13))) rfl dX1_copyFrom_88 ?_
  refine lv_iconst (v := 0) hx hb dX1_copyFrom_91 (by decide) ?_
  refine lv_aload_n hx hb dX1_copyFrom_92 rfl (lv_at hl 0 rfl) ?_
  refine cy_get hC (3 * c + 11) (by omega) hi1 hW (cy_rd ((cy_un (by omega)).trans cy_us) cy_eY_o) rfl 10 (by decide) (hts (.fieldLink RX1 15 "CaskYard$Cask" "amounts" "[I") (by decide +kernel)) (fun _ h9 => h9) (v := .ref (ad (3 * c + 13))) rfl dX1_copyFrom_93 ?_
  refine lv_iconst (v := 0) hx hb dX1_copyFrom_96 (by decide) ?_
  refine lv_iconst (v := 5) hx hb dX1_copyFrom_97 (by decide) ?_
  refine cy_copy hC (hml.trans hl.1.symm) (hts (.methodLink RX1 53 arraycopyName) (by decide +kernel)) (hts (.native arraycopyName) (by decide +kernel)) (hts (.static arraycopyName) (by decide +kernel)) (hts (.initialized "java/lang/System") (by decide +kernel)) hW (3 * d + 13) (3 * c + 13) (sp := 0) (dp := 0) (k := 5) rfl (cy_w_at (by omega) (cy_rd ((cy_un (by omega)).trans (cy_un (by omega))) cy_eY_a)) (cy_w_at (by omega) (cy_rd ((cy_un (by omega)).trans (cy_un (by omega))) cy_eY_a)) (by omega) (by omega) (by decide) (by decide) ((cy_w_set (by omega) (f := va_cpy (S (3 * d + 13)) (S (3 * c + 13)) 0 0 5) cy_eY_a.symm).trans (congrArg (fun z => cy_w _ ad _ z tl) (show _ = (va_up (va_up (va_up S (3 * c + 11) (upd (upd (upd (upd (upd (upd (upd (upd (upd (S (3 * c + 11)) 0 (S (3 * d + 11) 0)) 1 (S (3 * d + 11) 1)) 2 (S (3 * d + 11) 2)) 3 (S (3 * d + 11) 3)) 4 (S (3 * d + 11) 4)) 5 (S (3 * d + 11) 5)) 6 (S (3 * d + 11) 6)) 7 (S (3 * d + 11) 7)) 8 (S (3 * d + 11) 8))) (3 * c + 12) (va_cpy (S (3 * d + 12)) (S (3 * c + 12)) 0 0 8)) (3 * c + 13) (va_cpy (S (3 * d + 13)) (S (3 * c + 13)) 0 0 5)) from rfl))) (Nat.le_of_ble_eq_true rfl) (Nat.le_of_ble_eq_true rfl) dX1_copyFrom_98 (fun H locs hW => ?_)
  exact hE _ _ _ _ _ _ (Nat.le_of_ble_eq_true rfl) (Nat.le_of_ble_eq_true rfl) hW dX1_copyFrom_101
