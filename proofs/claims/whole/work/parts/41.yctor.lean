theorem cy_recell {D : va_G} {A : Nat → Prop} {H0 H : Heap} {w : va_W} {locs : List Loc} {k a : Nat} {e e' : va_E} (he : w[k]? = some (a, e)) (h : va_at D vwCl (a, e) H → va_at D vwCl (a, e') H) (hW : cy_W D A H0 w H locs) : cy_W D A H0 (w.set k (a, e')) H locs := by
  have hm : (w.set k (a, e')).map Prod.fst = w.map Prod.fst := by
    apply List.ext_getElem?
    intro j
    rw [List.getElem?_map, List.getElem?_map, List.getElem?_set]
    by_cases hj : k = j
    · subst hj
      rw [if_pos rfl, if_pos (List.getElem?_eq_some_iff.mp he).1, he]
      rfl
    · rw [if_neg hj]
  refine ⟨fun j q hj => ?_, cy_nd' (by rw [hm]; exact cy_nd hW.2.1) (fun q hq => ?_), hW.2.2⟩
  · rw [List.getElem?_set] at hj
    by_cases hk : k = j
    · rw [if_pos hk, if_pos (List.getElem?_eq_some_iff.mp he).1] at hj
      cases hj
      exact h (hW.1 k _ he)
    · rw [if_neg hk] at hj
      exact hW.1 j q hj
  · have h1 : q.1 ∈ w.map Prod.fst := by rw [← hm]; exact List.mem_map_of_mem hq
    obtain ⟨r, hr, hr2⟩ := List.mem_map.mp h1
    rw [← hr2]
    obtain ⟨j, hj⟩ := List.getElem?_of_mem hr
    exact hW.2.1.2 j r hj
theorem cy_arrV_c {cI : ClassId} {N : Nat} {f g : Nat → Value} (h : ∀ j, j < N → f j = g j) : arrV cI N f = arrV cI N g := by
  unfold arrV
  congr 1
  apply congrArg
  funext j
  exact h j.1 j.2
theorem cy_Wi_end {D : va_G} {A : Nat → Prop} {H0 H : Heap} {kI kJ kC : ClassId} {ad : Nat → Nat} {tl : va_W} {locs : List Loc} (hW : cy_W D A H0 (cy_Wi kI kJ kC 12 ad tl) H locs) : cy_W D A H0 (cy_Y kI kJ kC ad cy_S0 (fun _ => 0) tl) H locs := by
  have h1 := cy_recell (k := 7) (a := ad 7) (e := .inl (kC, 12, .inr (.inr (.inr (.inr (cy_cki ad 12)))))) (e' := .inl (kC, 12, .inr (.inr (.inr (.inr (fun c => some (ad (3 * c + 11)))))))) (show (cy_Wi kI kJ kC 12 ad tl)[7]? = _ from cy_w_at (by decide) rfl) (fun h => by
    show H[ad 7]? = some (vp_cell _ _)
    have h : H[ad 7]? = some (vp_cell kC (12, .inr (.inr (.inr (.inr (cy_cki ad 12)))))) := h
    rw [h, vp_cell_q, vp_cell_q]
    exact congrArg some (cy_arrV_c (fun j hj => by unfold cy_cki; rw [if_pos hj]))) hW
  have e : (cy_Wi kI kJ kC 12 ad tl).set 7 (ad 7, .inl (kC, 12, .inr (.inr (.inr (.inr (fun c => some (ad (3 * c + 11)))))))) = cy_Y kI kJ kC ad cy_S0 (fun _ => 0) tl := by
    unfold cy_Wi cy_Y cy_w
    rw [cy_G_set (by decide), show (50 : Nat) = (3 * 12 + 11) + 3 from rfl, cy_G3 (n := 3 * 12 + 11), List.append_assoc]
    congr 1
  rw [← e]
  exact h1
theorem cy_a0_e {a : Nat} {ad : Nat → Nat} (h : ad 0 = a) : cy_a0 a ad = ad := by
  funext j
  unfold cy_a0
  by_cases hj : j = 0
  · subst hj; rw [if_pos rfl, h]
  · rw [if_neg hj]
abbrev rm_X2_init : Room := { frames := 2, cells := 49, slots := 3537, locals := 33 }
set_option maxHeartbeats 4000000 in
set_option maxRecDepth 100000 in
theorem c_X2_init {l : Launch} {D : va_G} {kI kJ kZ kC : ClassId} {a : Nat} {tl : va_W} : cy_N (α := Nat → Nat) l yX2_init wsX2_init rm_X2_init D (cy_tys kI kJ kZ kC) [.ref a] ((a, .inr (2, [.null, .null, .null, .int 0, .null, .null, .null, .int 0, .null, .int 0, .null, .null, .null, .null, .int 0, .int 0, .int 0])) :: tl) (fun x => cy_Y kI kJ kC (cy_a0 a x) cy_S0 (fun _ => 0) tl) := by
  refine cy_ofN (own := RX2) (cc := cX2_init) (maxL := 2) (by decide) rfl rfl rfl (Nat.le_of_ble_eq_true rfl) ?_
  intro p e s m args below meth co Q A ls hin hAO hC hE hW hl
  have hx := hC.1.1; have hb := hC.1.2.1; have hml := hC.1.2.2.1; have hown := hC.1.2.2.2.1; have hts := hC.1.2.2.2.2
  have hl : lv_has ls 2 [(0, .ref a)] := hl
  have hi2 : ∀ w ∈ u_ws RX2 TX2 17, w ∈ wsX2_init := by decide +kernel
  have hi1 : ∀ w ∈ u_ws RX1 TX1 11, w ∈ wsX2_init := by decide +kernel
  have hi0 : ∀ w ∈ u_ws RX0 TX0 5, w ∈ wsX2_init := by decide +kernel
  refine lv_aload_n hx hb dX2_init_0 rfl (lv_at hl 0 rfl) ?_
  refine W.objInit hx hb hown (hts (.methodLink RX2 1 objectInit) (by decide +kernel)) (hts (.instanceMethod objectInit) (by decide +kernel)) (hts (.code objectInit ⟨#[0xb1]⟩ 1 none) (by decide +kernel)) rfl (by rw [hml]; exact hl.1) rfl dX2_init_1 (Nat.le_of_ble_eq_true rfl) (Nat.le_of_ble_eq_true rfl) ?_
  refine W.eq (g2 := F0 m 4 ls []) rfl ?_
  refine lv_aload_n hx hb dX2_init_4 rfl (lv_at hl 0 rfl) ?_
  refine lv_bipush (v := 60) hx hb dX2_init_5 (by decide) ?_
  refine cy_rNewI hC hW rfl (hts (.arrayClass .int) (by decide +kernel)) (N := 60) (by decide) (Nat.le_of_ble_eq_true rfl) (Nat.le_of_ble_eq_true rfl) (k' := 1) (n' := 60) rfl rfl dX2_init_7 (fun q7 H hW => ?_)
  refine cy_rPut (ty := .array .int) (w' := (q7, .inl (kI, 60, .inl (fun _ => 0))) :: (a, .inr (2, [.ref q7, .null, .null, .int 0, .null, .null, .null, .int 0, .null, .int 0, .null, .null, .null, .null, .int 0, .int 0, .int 0])) :: tl) hC hin hW hi2 tyX2 tyX2_ok nmX2 1 rfl rfl 0 (by decide) (hts (.fieldLink RX2 9 "CaskYard" "widths" "[I") (by decide +kernel)) (fun _ h9 => h9) rfl (by decide +kernel) rfl rfl (Nat.le_of_ble_eq_true rfl) rfl dX2_init_9 (fun H locs hW => ?_)
  refine lv_aload_n hx hb dX2_init_12 rfl (lv_at hl 0 rfl) ?_
  refine lv_bipush (v := 60) hx hb dX2_init_13 (by decide) ?_
  refine cy_rNewI hC hW rfl (hts (.arrayClass .int) (by decide +kernel)) (N := 60) (by decide) (Nat.le_of_ble_eq_true rfl) (Nat.le_of_ble_eq_true rfl) (k' := 2) (n' := 120) rfl rfl dX2_init_15 (fun q15 H hW => ?_)
  refine cy_rPut (ty := .array .int) (w' := (q15, .inl (kI, 60, .inl (fun _ => 0))) :: (q7, .inl (kI, 60, .inl (fun _ => 0))) :: (a, .inr (2, [.ref q7, .ref q15, .null, .int 0, .null, .null, .null, .int 0, .null, .int 0, .null, .null, .null, .null, .int 0, .int 0, .int 0])) :: tl) hC hin hW hi2 tyX2 tyX2_ok nmX2 2 rfl rfl 1 (by decide) (hts (.fieldLink RX2 13 "CaskYard" "drynesses" "[I") (by decide +kernel)) (fun _ h9 => h9) rfl (by decide +kernel) rfl rfl (Nat.le_of_ble_eq_true rfl) rfl dX2_init_17 (fun H locs hW => ?_)
  refine lv_aload_n hx hb dX2_init_20 rfl (lv_at hl 0 rfl) ?_
  refine lv_bipush (v := 60) hx hb dX2_init_21 (by decide) ?_
  refine cy_rNewI hC hW rfl (hts (.arrayClass .int) (by decide +kernel)) (N := 60) (by decide) (Nat.le_of_ble_eq_true rfl) (Nat.le_of_ble_eq_true rfl) (k' := 3) (n' := 180) rfl rfl dX2_init_23 (fun q23 H hW => ?_)
  refine cy_rPut (ty := .array .int) (w' := (q23, .inl (kI, 60, .inl (fun _ => 0))) :: (q15, .inl (kI, 60, .inl (fun _ => 0))) :: (q7, .inl (kI, 60, .inl (fun _ => 0))) :: (a, .inr (2, [.ref q7, .ref q15, .ref q23, .int 0, .null, .null, .null, .int 0, .null, .int 0, .null, .null, .null, .null, .int 0, .int 0, .int 0])) :: tl) hC hin hW hi2 tyX2 tyX2_ok nmX2 3 rfl rfl 2 (by decide) (hts (.fieldLink RX2 16 "CaskYard" "places" "[I") (by decide +kernel)) (fun _ h9 => h9) rfl (by decide +kernel) rfl rfl (Nat.le_of_ble_eq_true rfl) rfl dX2_init_25 (fun H locs hW => ?_)
  refine lv_aload_n hx hb dX2_init_28 rfl (lv_at hl 0 rfl) ?_
  refine lv_bipush (v := 6) hx hb dX2_init_29 (by decide) ?_
  refine cy_rNewI hC hW rfl (hts (.arrayClass .int) (by decide +kernel)) (N := 6) (by decide) (Nat.le_of_ble_eq_true rfl) (Nat.le_of_ble_eq_true rfl) (k' := 4) (n' := 186) rfl rfl dX2_init_31 (fun q31 H hW => ?_)
  refine cy_rPut (ty := .array .int) (w' := (q31, .inl (kI, 6, .inl (fun _ => 0))) :: (q23, .inl (kI, 60, .inl (fun _ => 0))) :: (q15, .inl (kI, 60, .inl (fun _ => 0))) :: (q7, .inl (kI, 60, .inl (fun _ => 0))) :: (a, .inr (2, [.ref q7, .ref q15, .ref q23, .int 0, .ref q31, .null, .null, .int 0, .null, .int 0, .null, .null, .null, .null, .int 0, .int 0, .int 0])) :: tl) hC hin hW hi2 tyX2 tyX2_ok nmX2 4 rfl rfl 4 (by decide) (hts (.fieldLink RX2 19 "CaskYard" "girths" "[I") (by decide +kernel)) (fun _ h9 => h9) rfl (by decide +kernel) rfl rfl (Nat.le_of_ble_eq_true rfl) rfl dX2_init_33 (fun H locs hW => ?_)
  refine lv_aload_n hx hb dX2_init_36 rfl (lv_at hl 0 rfl) ?_
  refine lv_bipush (v := 6) hx hb dX2_init_37 (by decide) ?_
  refine cy_rNewI hC hW rfl (hts (.arrayClass .int) (by decide +kernel)) (N := 6) (by decide) (Nat.le_of_ble_eq_true rfl) (Nat.le_of_ble_eq_true rfl) (k' := 5) (n' := 192) rfl rfl dX2_init_39 (fun q39 H hW => ?_)
  refine cy_rPut (ty := .array .int) (w' := (q39, .inl (kI, 6, .inl (fun _ => 0))) :: (q31, .inl (kI, 6, .inl (fun _ => 0))) :: (q23, .inl (kI, 60, .inl (fun _ => 0))) :: (q15, .inl (kI, 60, .inl (fun _ => 0))) :: (q7, .inl (kI, 60, .inl (fun _ => 0))) :: (a, .inr (2, [.ref q7, .ref q15, .ref q23, .int 0, .ref q31, .ref q39, .null, .int 0, .null, .int 0, .null, .null, .null, .null, .int 0, .int 0, .int 0])) :: tl) hC hin hW hi2 tyX2 tyX2_ok nmX2 5 rfl rfl 5 (by decide) (hts (.fieldLink RX2 22 "CaskYard" "rooms" "[I") (by decide +kernel)) (fun _ h9 => h9) rfl (by decide +kernel) rfl rfl (Nat.le_of_ble_eq_true rfl) rfl dX2_init_41 (fun H locs hW => ?_)
  refine lv_aload_n hx hb dX2_init_44 rfl (lv_at hl 0 rfl) ?_
  refine lv_bipush (v := 6) hx hb dX2_init_45 (by decide) ?_
  refine cy_rNewI hC hW rfl (hts (.arrayClass .int) (by decide +kernel)) (N := 6) (by decide) (Nat.le_of_ble_eq_true rfl) (Nat.le_of_ble_eq_true rfl) (k' := 6) (n' := 198) rfl rfl dX2_init_47 (fun q47 H hW => ?_)
  refine cy_rPut (ty := .array .int) (w' := (q47, .inl (kI, 6, .inl (fun _ => 0))) :: (q39, .inl (kI, 6, .inl (fun _ => 0))) :: (q31, .inl (kI, 6, .inl (fun _ => 0))) :: (q23, .inl (kI, 60, .inl (fun _ => 0))) :: (q15, .inl (kI, 60, .inl (fun _ => 0))) :: (q7, .inl (kI, 60, .inl (fun _ => 0))) :: (a, .inr (2, [.ref q7, .ref q15, .ref q23, .int 0, .ref q31, .ref q39, .ref q47, .int 0, .null, .int 0, .null, .null, .null, .null, .int 0, .int 0, .int 0])) :: tl) hC hin hW hi2 tyX2 tyX2_ok nmX2 6 rfl rfl 6 (by decide) (hts (.fieldLink RX2 25 "CaskYard" "hoopNumbers" "[I") (by decide +kernel)) (fun _ h9 => h9) rfl (by decide +kernel) rfl rfl (Nat.le_of_ble_eq_true rfl) rfl dX2_init_49 (fun H locs hW => ?_)
  refine lv_aload_n hx hb dX2_init_52 rfl (lv_at hl 0 rfl) ?_
  refine lv_bipush (v := 12) hx hb dX2_init_53 (by decide) ?_
  refine cy_rNewQ (CC := RX1) hC hW rfl (hts (.classLink RX2 28 RX1) (by decide +kernel)) hAO.1 (N := 12) (by decide) (Nat.le_of_ble_eq_true rfl) (Nat.le_of_ble_eq_true rfl) (k' := 7) (n' := 210) rfl rfl dX2_init_55 (fun q55 H hW => ?_)
  refine cy_rPut (ty := .array (.object "CaskYard$Cask")) (w' := (q55, .inl (kC, 12, .inr (.inr (.inr (.inr (fun _ => none)))))) :: (q47, .inl (kI, 6, .inl (fun _ => 0))) :: (q39, .inl (kI, 6, .inl (fun _ => 0))) :: (q31, .inl (kI, 6, .inl (fun _ => 0))) :: (q23, .inl (kI, 60, .inl (fun _ => 0))) :: (q15, .inl (kI, 60, .inl (fun _ => 0))) :: (q7, .inl (kI, 60, .inl (fun _ => 0))) :: (a, .inr (2, [.ref q7, .ref q15, .ref q23, .int 0, .ref q31, .ref q39, .ref q47, .int 0, .ref q55, .int 0, .null, .null, .null, .null, .int 0, .int 0, .int 0])) :: tl) hC hin hW hi2 tyX2 tyX2_ok nmX2 7 rfl rfl 8 (by decide) (hts (.fieldLink RX2 30 "CaskYard" "casks" "[LCaskYard$Cask;") (by decide +kernel)) (fun _ h9 => h9) rfl (by decide +kernel) rfl rfl (Nat.le_of_ble_eq_true rfl) rfl dX2_init_58 (fun H locs hW => ?_)
  refine lv_aload_n hx hb dX2_init_61 rfl (lv_at hl 0 rfl) ?_
  refine cy_rNewO (ci := 1) (fs := [.int 0, .int 0, .int 0, .int 0, .int 0, .int 0, .int 0, .int 0, .int 0, .null, .null]) hC hW hi1 tyX1 tyX1_ok (hts (.classLink RX2 28 RX1) (by decide +kernel)) (hts (.instantiable RX1 11) (by decide +kernel)) (hts (.initialized RX1) (by decide +kernel)) rfl (fun j hj => by rcases (show j = 0 ∨ j = 1 ∨ j = 2 ∨ j = 3 ∨ j = 4 ∨ j = 5 ∨ j = 6 ∨ j = 7 ∨ j = 8 ∨ j = 9 ∨ j = 10 by omega) with rfl | rfl | rfl | rfl | rfl | rfl | rfl | rfl | rfl | rfl | rfl <;> rfl) (Nat.le_of_ble_eq_true rfl) (Nat.le_of_ble_eq_true rfl) (k' := 8) (n' := 221) rfl rfl dX2_init_62 (fun q62 H hW => ?_)
  refine lv_dup hx hb dX2_init_65 rfl ?_
  refine cy_callIN hAO (rm := rm_X1_init) (As := []) (rest := [.ref q62, .ref a]) hC.1 hC.2.1 hC.2.2 hW c_X1_init ⟨va_cnB 0 hts gX2_init_X1_init_n34 rfl rfl rfl hAO.2.1 (hts (.initialized RX1) (by decide +kernel)) (by decide +kernel) ⟨Nat.le_of_ble_eq_true rfl, Nat.le_of_ble_eq_true rfl⟩, rfl, hts (.instanceMethod yX1_init) (by decide +kernel)⟩ rfl hl.1 rfl (Nat.le_of_ble_eq_true rfl) dX2_init_66 ⟨Nat.le_of_ble_eq_true rfl, Nat.le_of_ble_eq_true rfl⟩ (k' := 10) (n' := 234) rfl rfl (fun x66 H locs hW => ?_)
  refine cy_rPut (ty := .object "CaskYard$Cask") (w' := (q62, .inr (1, cy_fC x66.1 x66.2 (fun _ => 0))) :: (x66.1, .inl (kI, 8, .inl (fun _ => 0))) :: (x66.2, .inl (kI, 5, .inl (fun _ => 0))) :: (q55, .inl (kC, 12, .inr (.inr (.inr (.inr (fun _ => none)))))) :: (q47, .inl (kI, 6, .inl (fun _ => 0))) :: (q39, .inl (kI, 6, .inl (fun _ => 0))) :: (q31, .inl (kI, 6, .inl (fun _ => 0))) :: (q23, .inl (kI, 60, .inl (fun _ => 0))) :: (q15, .inl (kI, 60, .inl (fun _ => 0))) :: (q7, .inl (kI, 60, .inl (fun _ => 0))) :: (a, .inr (2, [.ref q7, .ref q15, .ref q23, .int 0, .ref q31, .ref q39, .ref q47, .int 0, .ref q55, .int 0, .ref q62, .null, .null, .null, .int 0, .int 0, .int 0])) :: tl) hC hin hW hi2 tyX2 tyX2_ok nmX2 10 rfl rfl 10 (by decide) (hts (.fieldLink RX2 35 "CaskYard" "spare" "LCaskYard$Cask;") (by decide +kernel)) (fun _ h9 => h9) rfl (by decide +kernel) rfl rfl (Nat.le_of_ble_eq_true rfl) rfl dX2_init_69 (fun H locs hW => ?_)
  refine lv_aload_n hx hb dX2_init_72 rfl (lv_at hl 0 rfl) ?_
  refine lv_sipush (v := 1505) hx hb dX2_init_73 (by decide) ?_
  refine cy_rNewL hC hW rfl (hts (.arrayClass .long) (by decide +kernel)) (N := 1505) (by decide) (Nat.le_of_ble_eq_true rfl) (Nat.le_of_ble_eq_true rfl) (k' := 11) (n' := 1739) rfl rfl dX2_init_76 (fun q76 H hW => ?_)
  refine cy_rPut (ty := .array .long) (w' := (q76, .inl (kJ, 1505, .inr (.inl (fun _ => 0)))) :: (q62, .inr (1, cy_fC x66.1 x66.2 (fun _ => 0))) :: (x66.1, .inl (kI, 8, .inl (fun _ => 0))) :: (x66.2, .inl (kI, 5, .inl (fun _ => 0))) :: (q55, .inl (kC, 12, .inr (.inr (.inr (.inr (fun _ => none)))))) :: (q47, .inl (kI, 6, .inl (fun _ => 0))) :: (q39, .inl (kI, 6, .inl (fun _ => 0))) :: (q31, .inl (kI, 6, .inl (fun _ => 0))) :: (q23, .inl (kI, 60, .inl (fun _ => 0))) :: (q15, .inl (kI, 60, .inl (fun _ => 0))) :: (q7, .inl (kI, 60, .inl (fun _ => 0))) :: (a, .inr (2, [.ref q7, .ref q15, .ref q23, .int 0, .ref q31, .ref q39, .ref q47, .int 0, .ref q55, .int 0, .ref q62, .ref q76, .null, .null, .int 0, .int 0, .int 0])) :: tl) hC hin hW hi2 tyX2 tyX2_ok nmX2 11 rfl rfl 11 (by decide) (hts (.fieldLink RX2 39 "CaskYard" "sets" "[J") (by decide +kernel)) (fun _ h9 => h9) rfl (by decide +kernel) rfl rfl (Nat.le_of_ble_eq_true rfl) rfl dX2_init_78 (fun H locs hW => ?_)
  refine lv_aload_n hx hb dX2_init_81 rfl (lv_at hl 0 rfl) ?_
  refine lv_sipush (v := 1505) hx hb dX2_init_82 (by decide) ?_
  refine cy_rNewI hC hW rfl (hts (.arrayClass .int) (by decide +kernel)) (N := 1505) (by decide) (Nat.le_of_ble_eq_true rfl) (Nat.le_of_ble_eq_true rfl) (k' := 12) (n' := 3244) rfl rfl dX2_init_85 (fun q85 H hW => ?_)
  refine cy_rPut (ty := .array .int) (w' := (q85, .inl (kI, 1505, .inl (fun _ => 0))) :: (q76, .inl (kJ, 1505, .inr (.inl (fun _ => 0)))) :: (q62, .inr (1, cy_fC x66.1 x66.2 (fun _ => 0))) :: (x66.1, .inl (kI, 8, .inl (fun _ => 0))) :: (x66.2, .inl (kI, 5, .inl (fun _ => 0))) :: (q55, .inl (kC, 12, .inr (.inr (.inr (.inr (fun _ => none)))))) :: (q47, .inl (kI, 6, .inl (fun _ => 0))) :: (q39, .inl (kI, 6, .inl (fun _ => 0))) :: (q31, .inl (kI, 6, .inl (fun _ => 0))) :: (q23, .inl (kI, 60, .inl (fun _ => 0))) :: (q15, .inl (kI, 60, .inl (fun _ => 0))) :: (q7, .inl (kI, 60, .inl (fun _ => 0))) :: (a, .inr (2, [.ref q7, .ref q15, .ref q23, .int 0, .ref q31, .ref q39, .ref q47, .int 0, .ref q55, .int 0, .ref q62, .ref q76, .ref q85, .null, .int 0, .int 0, .int 0])) :: tl) hC hin hW hi2 tyX2 tyX2_ok nmX2 12 rfl rfl 12 (by decide) (hts (.fieldLink RX2 43 "CaskYard" "sizes" "[I") (by decide +kernel)) (fun _ h9 => h9) rfl (by decide +kernel) rfl rfl (Nat.le_of_ble_eq_true rfl) rfl dX2_init_87 (fun H locs hW => ?_)
  refine lv_aload_n hx hb dX2_init_90 rfl (lv_at hl 0 rfl) ?_
  refine cy_rNewO (ci := 0) (fs := [.int 0, .int 0, .int 0, .int 0, .int 0]) hC hW hi0 tyX0 tyX0_ok (hts (.classLink RX2 46 RX0) (by decide +kernel)) (hts (.instantiable RX0 5) (by decide +kernel)) (hts (.initialized RX0) (by decide +kernel)) rfl (fun j hj => by rcases (show j = 0 ∨ j = 1 ∨ j = 2 ∨ j = 3 ∨ j = 4 by omega) with rfl | rfl | rfl | rfl | rfl <;> rfl) (Nat.le_of_ble_eq_true rfl) (Nat.le_of_ble_eq_true rfl) (k' := 13) (n' := 3249) rfl rfl dX2_init_91 (fun q91 H hW => ?_)
  refine lv_dup hx hb dX2_init_94 rfl ?_
  refine cy_callIN hAO (rm := rm_X0_init) (As := []) (rest := [.ref q91, .ref a]) hC.1 hC.2.1 hC.2.2 hW c_X0_init ⟨va_cnB 0 hts gX2_init_X0_init_n48 rfl rfl rfl hAO.2.2 (hts (.initialized RX0) (by decide +kernel)) (by decide +kernel) ⟨Nat.le_of_ble_eq_true rfl, Nat.le_of_ble_eq_true rfl⟩, rfl, hts (.instanceMethod yX0_init) (by decide +kernel)⟩ rfl hl.1 rfl (Nat.le_of_ble_eq_true rfl) dX2_init_95 ⟨Nat.le_of_ble_eq_true rfl, Nat.le_of_ble_eq_true rfl⟩ (k' := 13) (n' := 3249) rfl rfl (fun x95 H locs hW => ?_)
  refine cy_rPut (ty := .object "CaskYard$Blend") (w' := (q91, .inr (0, [.int 0, .int 0, .int 0, .int 0, .int 0])) :: (q85, .inl (kI, 1505, .inl (fun _ => 0))) :: (q76, .inl (kJ, 1505, .inr (.inl (fun _ => 0)))) :: (q62, .inr (1, cy_fC x66.1 x66.2 (fun _ => 0))) :: (x66.1, .inl (kI, 8, .inl (fun _ => 0))) :: (x66.2, .inl (kI, 5, .inl (fun _ => 0))) :: (q55, .inl (kC, 12, .inr (.inr (.inr (.inr (fun _ => none)))))) :: (q47, .inl (kI, 6, .inl (fun _ => 0))) :: (q39, .inl (kI, 6, .inl (fun _ => 0))) :: (q31, .inl (kI, 6, .inl (fun _ => 0))) :: (q23, .inl (kI, 60, .inl (fun _ => 0))) :: (q15, .inl (kI, 60, .inl (fun _ => 0))) :: (q7, .inl (kI, 60, .inl (fun _ => 0))) :: (a, .inr (2, [.ref q7, .ref q15, .ref q23, .int 0, .ref q31, .ref q39, .ref q47, .int 0, .ref q55, .int 0, .ref q62, .ref q76, .ref q85, .ref q91, .int 0, .int 0, .int 0])) :: tl) hC hin hW hi2 tyX2 tyX2_ok nmX2 13 rfl rfl 13 (by decide) (hts (.fieldLink RX2 49 "CaskYard" "best" "LCaskYard$Blend;") (by decide +kernel)) (fun _ h9 => h9) rfl (by decide +kernel) rfl rfl (Nat.le_of_ble_eq_true rfl) rfl dX2_init_98 (fun H locs hW => ?_)
  refine lv_aload_n hx hb dX2_init_101 rfl (lv_at hl 0 rfl) ?_
  refine lv_iconst (v := 2) hx hb dX2_init_102 (by decide) ?_
  refine cy_rPut (ty := .int) (w' := (q91, .inr (0, [.int 0, .int 0, .int 0, .int 0, .int 0])) :: (q85, .inl (kI, 1505, .inl (fun _ => 0))) :: (q76, .inl (kJ, 1505, .inr (.inl (fun _ => 0)))) :: (q62, .inr (1, cy_fC x66.1 x66.2 (fun _ => 0))) :: (x66.1, .inl (kI, 8, .inl (fun _ => 0))) :: (x66.2, .inl (kI, 5, .inl (fun _ => 0))) :: (q55, .inl (kC, 12, .inr (.inr (.inr (.inr (fun _ => none)))))) :: (q47, .inl (kI, 6, .inl (fun _ => 0))) :: (q39, .inl (kI, 6, .inl (fun _ => 0))) :: (q31, .inl (kI, 6, .inl (fun _ => 0))) :: (q23, .inl (kI, 60, .inl (fun _ => 0))) :: (q15, .inl (kI, 60, .inl (fun _ => 0))) :: (q7, .inl (kI, 60, .inl (fun _ => 0))) :: (a, .inr (2, [.ref q7, .ref q15, .ref q23, .int 0, .ref q31, .ref q39, .ref q47, .int 0, .ref q55, .int 0, .ref q62, .ref q76, .ref q85, .ref q91, .int 0, .int 0, .int 2])) :: tl) hC hin hW hi2 tyX2 tyX2_ok nmX2 13 rfl rfl 16 (by decide) (hts (.fieldLink RX2 53 "CaskYard" "warmthNow" "I") (by decide +kernel)) (fun _ h9 => h9) rfl (by decide +kernel) rfl rfl (Nat.le_of_ble_eq_true rfl) rfl dX2_init_103 (fun H locs hW => ?_)
  have hp1 : (([(q76, .inl (kJ, 1505, .inr (.inl (fun _ => 0)))), (q85, .inl (kI, 1505, .inl (fun _ => 0))), (q91, .inr (0, [.int 0, .int 0, .int 0, .int 0, .int 0]))] : va_W).reverse ++ (([(q62, .inr (1, cy_fC x66.1 x66.2 (fun _ => 0))), (x66.1, .inl (kI, 8, .inl (fun _ => 0))), (x66.2, .inl (kI, 5, .inl (fun _ => 0)))] : va_W) ++ (([(a, .inr (2, [.ref q7, .ref q15, .ref q23, .int 0, .ref q31, .ref q39, .ref q47, .int 0, .ref q55, .int 0, .ref q62, .ref q76, .ref q85, .ref q91, .int 0, .int 0, .int 2])), (q7, .inl (kI, 60, .inl (fun _ => 0))), (q15, .inl (kI, 60, .inl (fun _ => 0))), (q23, .inl (kI, 60, .inl (fun _ => 0))), (q31, .inl (kI, 6, .inl (fun _ => 0))), (q39, .inl (kI, 6, .inl (fun _ => 0))), (q47, .inl (kI, 6, .inl (fun _ => 0))), (q55, .inl (kC, 12, .inr (.inr (.inr (.inr (fun _ => none))))))] : va_W).reverse ++ tl))).Perm (([(q76, .inl (kJ, 1505, .inr (.inl (fun _ => 0)))), (q85, .inl (kI, 1505, .inl (fun _ => 0))), (q91, .inr (0, [.int 0, .int 0, .int 0, .int 0, .int 0]))] : va_W) ++ (([(q62, .inr (1, cy_fC x66.1 x66.2 (fun _ => 0))), (x66.1, .inl (kI, 8, .inl (fun _ => 0))), (x66.2, .inl (kI, 5, .inl (fun _ => 0)))] : va_W) ++ (([(a, .inr (2, [.ref q7, .ref q15, .ref q23, .int 0, .ref q31, .ref q39, .ref q47, .int 0, .ref q55, .int 0, .ref q62, .ref q76, .ref q85, .ref q91, .int 0, .int 0, .int 2])), (q7, .inl (kI, 60, .inl (fun _ => 0))), (q15, .inl (kI, 60, .inl (fun _ => 0))), (q23, .inl (kI, 60, .inl (fun _ => 0))), (q31, .inl (kI, 6, .inl (fun _ => 0))), (q39, .inl (kI, 6, .inl (fun _ => 0))), (q47, .inl (kI, 6, .inl (fun _ => 0))), (q55, .inl (kC, 12, .inr (.inr (.inr (.inr (fun _ => none))))))] : va_W) ++ tl))) := List.Perm.append (List.reverse_perm _) (List.Perm.append_left _ ((List.reverse_perm _).append_right tl))
  have hW := cy_perm (hp1.trans cy_perm3) hW
  have hW : cy_W D A s.heap (cy_Wi kI kJ kC 0 (fun j => if j = 47 then q62 else if j = 48 then x66.1 else if j = 49 then x66.2 else [a, q7, q15, q23, q31, q39, q47, q55, q76, q85, q91].getD j 0) tl) H locs := hW
  have L_108 : ∀ (fu i : Nat) (ad : Nat → Nat), 12 - i < fu → i ≤ 12 → ad 0 = a → ∀ (H : Heap) (locs : List Loc), cy_W D A s.heap (cy_Wi kI kJ kC i ad tl) H locs → ∀ (ls : Array Slot), lv_has ls 2 [(1, .int (nI i)), (0, .ref a)] → W p l e rm_X2_init s m args below meth co H locs (13 + 3 * i) (3249 + 24 * i) Q (F0 m 108 ls []) := by
    intro fu
    induction fu with
    | zero => intro i ad hn; exact absurd hn (Nat.not_lt_zero _)
    | succ fu ih =>
      intro i ad hn hi ha0 H locs hW ls hl
      refine lv_iload_n hx hb dX2_init_108 rfl (lv_at hl 0 rfl) ?_
      refine lv_bipush (v := 12) hx hb dX2_init_109 (by decide) ?_
      refine lv_icmp_ge (tgt := 133) hx hb dX2_init_111 (by decide) (fun c_111 => ?_) (fun c_111 => ?_)
      · have q_111 := cy_le (a := 12) (b := i) (by omega) (by omega) c_111
        obtain rfl : i = 12 := by omega
        have hW := cy_Wi_end hW
        rw [← cy_a0_e ha0] at hW
        exact hE ad _ _ _ _ _ _ (Nat.le_of_ble_eq_true rfl) (Nat.le_of_ble_eq_true rfl) hW dX2_init_133
      · have q_111 := cy_nle (a := 12) (b := i) (by omega) (by omega) c_111
        have he0 : (cy_Wi kI kJ kC i ad tl)[0]? = some (a, .inr (2, cy_fY ad (cy_S0 0))) := by rw [← ha0]; exact cy_w_at (by omega) rfl
        refine lv_aload_n hx hb dX2_init_114 rfl (lv_at hl 1 rfl) ?_
        refine va_get hC.1.1 hC.1.2.1 hC.1.2.2.2.2 hi2 hC.1.2.2.2.1 hC.2.1 hW.1 0 he0 rfl 8 (by decide) (hts (.fieldLink RX2 30 "CaskYard" "casks" "[LCaskYard$Cask;") (by decide +kernel)) (fun _ h9 => h9) (v := .ref (ad 7)) rfl dX2_init_115 ?_
        refine lv_iload_n hx hb dX2_init_118 rfl (lv_at hl 0 rfl) ?_
        refine cy_rNewO (ci := 1) (fs := [.int 0, .int 0, .int 0, .int 0, .int 0, .int 0, .int 0, .int 0, .int 0, .null, .null]) hC hW hi1 tyX1 tyX1_ok (hts (.classLink RX2 28 RX1) (by decide +kernel)) (hts (.instantiable RX1 11) (by decide +kernel)) (hts (.initialized RX1) (by decide +kernel)) rfl (fun j hj => by rcases (show j = 0 ∨ j = 1 ∨ j = 2 ∨ j = 3 ∨ j = 4 ∨ j = 5 ∨ j = 6 ∨ j = 7 ∨ j = 8 ∨ j = 9 ∨ j = 10 by omega) with rfl | rfl | rfl | rfl | rfl | rfl | rfl | rfl | rfl | rfl | rfl <;> rfl) (show 13 + 3 * i + 1 ≤ 49 by omega) (show 3249 + 24 * i + 11 ≤ 3537 by omega) (k' := 13 + 3 * i + 1) (n' := 3249 + 24 * i + 11) rfl rfl dX2_init_119 (fun q H hW => ?_)
        refine lv_dup hx hb dX2_init_122 rfl ?_
        refine cy_callIN hAO (rm := rm_X1_init) (As := []) (rest := [.ref q, .int (nI i), .ref (ad 7)]) hC.1 hC.2.1 hC.2.2 hW c_X1_init ⟨va_cnB 0 hts gX2_init_X1_init_n34 rfl rfl rfl hAO.2.1 (hts (.initialized RX1) (by decide +kernel)) (by decide +kernel) ⟨Nat.le_of_ble_eq_true rfl, Nat.le_of_ble_eq_true rfl⟩, rfl, hts (.instanceMethod yX1_init) (by decide +kernel)⟩ rfl hl.1 rfl (Nat.le_of_ble_eq_true rfl) dX2_init_123 ⟨(show 13 + 3 * i + 1 + 2 ≤ 49 by omega), (show 3249 + 24 * i + 11 + 13 ≤ 3537 by omega)⟩ (k' := 13 + 3 * i + 1 + 2) (n' := 3249 + 24 * i + 11 + 13) rfl rfl (fun x H locs hW => ?_)
        have h7 : (cy_Wi kI kJ kC i ad tl)[7]? = some (ad 7, .inl (kC, 12, .inr (.inr (.inr (.inr (cy_cki ad i)))))) := cy_w_at (by omega) rfl
        refine va_astq (r := (RX1, TX1, 11)) hC.1.1 hC.1.2.1 hC.2.1 hW.1 hW.2.1 hW.2.2 10 3 0 1 (show _ = _ from h7) rfl rfl rfl (cy_ix (N := 12) (by omega) (by decide)) dX2_init_126 (fun H locs hP hD hS => ?_)
        rw [nI_clamp (by omega)] at hP hD
        have hW := cy_perm (cy_Wi_s (kI := kI) (kJ := kJ) (kC := kC) (tl := tl) (show i < 12 by omega)) ⟨hP, hD, hS⟩
        refine lv_iinc (v := nI (i + 1)) (lv' := [(1, .int (nI (i + 1))), (0, .ref a)]) hx hb dX2_init_127 hl (k := 0) rfl (nI_1 i) (by decide) rfl (fun ls hl => ?_)
        refine lv_goto (tgt := 108) hx hb dX2_init_130 (by decide) ?_
        refine W.widen (k := 13 + 3 * (i + 1)) (n := 3249 + 24 * (i + 1)) (by omega) (by omega) ?_
        exact ih (i + 1) _ (by omega) (by omega) (by rw [cy_adn_n (by omega) (by omega) (by omega)]; exact ha0) _ _ hW _ (lv_sub hl [0, 1] rfl)
  refine lv_iconst (v := 0) hx hb dX2_init_106 (by decide) ?_
  refine lv_istore_n (lv' := [(1, .int 0), (0, .ref a)]) hx hb dX2_init_107 rfl hl (by decide) rfl (fun ls hl => ?_)
  exact L_108 13 0 _ (by omega) (by omega) rfl _ _ hW _ (lv_sub hl [0, 1] rfl)
