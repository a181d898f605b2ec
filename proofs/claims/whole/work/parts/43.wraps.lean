abbrev rm_L_addStave : Room := { frames := 7, cells := 1, slots := 6, locals := 112 }
set_option maxHeartbeats 4000000 in
set_option maxRecDepth 100000 in
theorem c_L_addStave {l : Launch} {D : va_G} {kI kJ kZ kC : ClassId} {ad : Nat → Nat} {S : Nat → Nat → Int32} {tl : va_W} {Z : Nat → Int64} {x y : Int32} {ns : Nat} (hns : S 0 3 = nI ns) (h60 : ns ≤ 60) {ao : Nat} {g : Nat → Int64} : cy_V l yL_addStave wsL_addStave rm_L_addStave D (cy_tys kI kJ kZ kC) [.ref (ad 0), .int x, .int y, .ref ao] (cy_Y kI kJ kC ad S Z ((ao, .inl (kJ, 1, .inr (.inl g))) :: tl)) (some (.int (cy_cd cy_IA cy_IS (cy_tAs x y ns)))) (cy_Y kI kJ kC ad (cy_if (cy_tAs x y ns) (cy_nAs S x y ns) S) Z ((ao, .inl (kJ, 1, .inr (.inl (cy_ou (cy_tAs x y ns) g (nI ns))))) :: tl)) := by
  refine cy_ofV (cc := cL_addStave) (maxL := 5) (hh := [(0, 10, 13, 13), (0, 10, 17, 15)]) (by decide) rfl rfl (Nat.le_of_ble_eq_true rfl) ?_
  intro p e s m args below meth co Q A ls hC hTh hNx htab hE hW hl hl0
  have hx := hC.1.1; have hb := hC.1.2.1; have hml := hC.1.2.2.1; have hown := hC.1.2.2.2.1; have hts := hC.1.2.2.2.2
  have hl : lv_has ls 5 [(0, .ref (ad 0)), (1, .int x), (2, .int y), (3, .ref ao)] := hl
  have hcs : cy_tAs x y ns = none ∨ cy_tAs x y ns = some cy_IA ∨ cy_tAs x y ns = some cy_IS := by
    unfold cy_tAs
    repeat' split
    all_goals simp
  refine lv_aload_n hx hb dL_addStave_0 rfl (lv_at hl 3 rfl) ?_
  refine lv_iconst (v := 0) hx hb dL_addStave_1 (by decide) ?_
  refine lv_aload_n hx hb dL_addStave_2 rfl (lv_at hl 0 rfl) ?_
  refine lv_iload_n hx hb dL_addStave_3 rfl (lv_at hl 1 rfl) ?_
  refine lv_iload_n hx hb dL_addStave_4 rfl (lv_at hl 2 rfl) ?_
  refine cy_callVC (rm := rm_X2_addStave) hl0 hTh (As := [.int x, .int y]) (rest := [.int 0, .ref ao]) (q0 := 0) (ci := 2) hC.1 hC.2.1 hC.2.2 hW (c_X2_addStave (x := x) (y := y) (ns := ns) hns h60) (cwV 2 hts gL_addStave_X2_addStave rfl rfl rfl (by decide +kernel) ⟨Nat.le_of_ble_eq_true rfl, Nat.le_of_ble_eq_true rfl⟩) (cy_w_at (by decide) rfl) rfl rfl hl.1 rfl (Nat.le_of_ble_eq_true rfl) dL_addStave_5 ⟨Nat.le_of_ble_eq_true rfl, Nat.le_of_ble_eq_true rfl⟩ (k' := 1) (n' := 6) rfl rfl (fun hth H locs hW => ?_) (fun E ce q H locs hth hW hce hcv hcl => ?_)
  · refine lv_i2l hx hb dL_addStave_8 rfl ?_
    refine cy_tlast (tl' := (ao, .inl (kJ, 1, .inr (.inl (vp_updL g 0 (nI ns).toInt64)))) :: tl) hC 0 ao hW 1 (i := 0) rfl rfl (by decide) (by decide) rfl dL_addStave_9 (fun H locs hW => ?_)
    refine lv_goto (tgt := 21) hx hb dL_addStave_10 (by decide) ?_
    refine lv_iconst (v := 0) hx hb dL_addStave_21 (by decide) ?_
    refine cy_top (y := cy_cd cy_IA cy_IS (cy_tAs x y ns)) (by rw [hth]; rfl) ?_
    rw [show vp_updL g 0 (nI ns).toInt64 = cy_ou (cy_tAs x y ns) g (nI ns) from (if_pos hth).symm] at hW
    exact hE _ _ _ _ _ _ (Nat.le_of_ble_eq_true rfl) (Nat.le_of_ble_eq_true rfl) hW dL_addStave_22
  · rw [show g = cy_ou (cy_tAs x y ns) g (nI ns) from (if_neg (by rw [hth]; exact fun q => nomatch q)).symm] at hW
    rcases hcs with h0 | h0 | h0
    · rw [hth] at h0; cases h0
    · obtain rfl : E = cy_IA := Option.some.inj (hth.symm.trans h0)
      refine vx_catch hown [] ⟨0, 10, 13, 13⟩ [⟨0, 10, 17, 15⟩] (htab.trans rfl) (fun z hz => (List.not_mem_nil hz).elim) (by decide) (by decide) (hts (.classLink RL 13 cy_IA) (by decide +kernel)) (va_Nw.use rfl (hTh.2.2.2 (.castable cy_IA cy_IA) (by decide +kernel))) hce hcv hcl ?_
      refine lv_astore (lv' := [(4, .ref q), (0, .ref (ad 0)), (1, .int x), (2, .int y), (3, .ref ao)]) hx hb dL_addStave_13 hl (by decide) rfl (fun ls hl => ?_)
      refine lv_iconst (v := 1) hx hb dL_addStave_15 (by decide) ?_
      refine cy_top (y := cy_cd cy_IA cy_IS (cy_tAs x y ns)) (by rw [hth]; decide) ?_
      exact hE _ _ _ _ _ _ (Nat.le_of_ble_eq_true rfl) (Nat.le_of_ble_eq_true rfl) hW dL_addStave_16
    · obtain rfl : E = cy_IS := Option.some.inj (hth.symm.trans h0)
      refine vx_catch hown [⟨0, 10, 13, 13⟩] ⟨0, 10, 17, 15⟩ [] (htab.trans rfl) (fun z hz => by rw [List.mem_singleton] at hz; subst hz; exact Or.inr ⟨by decide, cy_IA, hts (.classLink RL 13 cy_IA) (by decide +kernel), hNx.2.1.1⟩) (by decide) (by decide) (hts (.classLink RL 15 cy_IS) (by decide +kernel)) (va_Nw.use rfl (hTh.2.2.2 (.castable cy_IS cy_IS) (by decide +kernel))) hce hcv hcl ?_
      refine lv_astore (lv' := [(4, .ref q), (0, .ref (ad 0)), (1, .int x), (2, .int y), (3, .ref ao)]) hx hb dL_addStave_17 hl (by decide) rfl (fun ls hl => ?_)
      refine lv_iconst (v := 2) hx hb dL_addStave_19 (by decide) ?_
      refine cy_top (y := cy_cd cy_IA cy_IS (cy_tAs x y ns)) (by rw [hth]; decide) ?_
      exact hE _ _ _ _ _ _ (Nat.le_of_ble_eq_true rfl) (Nat.le_of_ble_eq_true rfl) hW dL_addStave_20
abbrev rm_L_stave : Room := { frames := 7, cells := 1, slots := 6, locals := 112 }
set_option maxHeartbeats 4000000 in
set_option maxRecDepth 100000 in
theorem c_L_stave {l : Launch} {D : va_G} {kI kJ kZ kC : ClassId} {ad : Nat → Nat} {S : Nat → Nat → Int32} {tl : va_W} {Z : Nat → Int64} {x y : Int32} {ns : Nat} (hns : S 0 3 = nI ns) (h60 : ns ≤ 60) {ao : Nat} {g : Nat → Int64} : cy_V l yL_stave wsL_stave rm_L_stave D (cy_tys kI kJ kZ kC) [.ref (ad 0), .int x, .int y, .ref ao] (cy_Y kI kJ kC ad S Z ((ao, .inl (kJ, 1, .inr (.inl g))) :: tl)) (some (.int (cy_cd cy_IB cy_IB (cy_tSt x y ns)))) (cy_Y kI kJ kC ad (cy_if (cy_tSt x y ns) S S) Z ((ao, .inl (kJ, 1, .inr (.inl (cy_ou (cy_tSt x y ns) g (cy_rSt S x y))))) :: tl)) := by
  refine cy_ofV (cc := cL_stave) (maxL := 5) (hh := [(0, 10, 13, 20)]) (by decide) rfl rfl (Nat.le_of_ble_eq_true rfl) ?_
  intro p e s m args below meth co Q A ls hC hTh hNx htab hE hW hl hl0
  have hx := hC.1.1; have hb := hC.1.2.1; have hml := hC.1.2.2.1; have hown := hC.1.2.2.2.1; have hts := hC.1.2.2.2.2
  have hl : lv_has ls 5 [(0, .ref (ad 0)), (1, .int x), (2, .int y), (3, .ref ao)] := hl
  have hcs : cy_tSt x y ns = none ∨ cy_tSt x y ns = some cy_IB := by
    unfold cy_tSt
    repeat' split
    all_goals simp
  refine lv_aload_n hx hb dL_stave_0 rfl (lv_at hl 3 rfl) ?_
  refine lv_iconst (v := 0) hx hb dL_stave_1 (by decide) ?_
  refine lv_aload_n hx hb dL_stave_2 rfl (lv_at hl 0 rfl) ?_
  refine lv_iload_n hx hb dL_stave_3 rfl (lv_at hl 1 rfl) ?_
  refine lv_iload_n hx hb dL_stave_4 rfl (lv_at hl 2 rfl) ?_
  refine cy_callVC (rm := rm_X2_stave) hl0 hTh (As := [.int x, .int y]) (rest := [.int 0, .ref ao]) (q0 := 0) (ci := 2) hC.1 hC.2.1 hC.2.2 hW (c_X2_stave (x := x) (y := y) (ns := ns) hns h60) (cwV 2 hts gL_stave_X2_stave rfl rfl rfl (by decide +kernel) ⟨Nat.le_of_ble_eq_true rfl, Nat.le_of_ble_eq_true rfl⟩) (cy_w_at (by decide) rfl) rfl rfl hl.1 rfl (Nat.le_of_ble_eq_true rfl) dL_stave_5 ⟨Nat.le_of_ble_eq_true rfl, Nat.le_of_ble_eq_true rfl⟩ (k' := 1) (n' := 6) rfl rfl (fun hth H locs hW => ?_) (fun E ce q H locs hth hW hce hcv hcl => ?_)
  · refine lv_i2l hx hb dL_stave_8 rfl ?_
    refine cy_tlast (tl' := (ao, .inl (kJ, 1, .inr (.inl (vp_updL g 0 (cy_rSt S x y).toInt64)))) :: tl) hC 0 ao hW 1 (i := 0) rfl rfl (by decide) (by decide) rfl dL_stave_9 (fun H locs hW => ?_)
    refine lv_goto (tgt := 17) hx hb dL_stave_10 (by decide) ?_
    refine lv_iconst (v := 0) hx hb dL_stave_17 (by decide) ?_
    refine cy_top (y := cy_cd cy_IB cy_IB (cy_tSt x y ns)) (by rw [hth]; rfl) ?_
    rw [show vp_updL g 0 (cy_rSt S x y).toInt64 = cy_ou (cy_tSt x y ns) g (cy_rSt S x y) from (if_pos hth).symm] at hW
    exact hE _ _ _ _ _ _ (Nat.le_of_ble_eq_true rfl) (Nat.le_of_ble_eq_true rfl) hW dL_stave_18
  · rw [show g = cy_ou (cy_tSt x y ns) g (cy_rSt S x y) from (if_neg (by rw [hth]; exact fun q => nomatch q)).symm] at hW
    rcases hcs with h0 | h0
    · rw [hth] at h0; cases h0
    · obtain rfl : E = cy_IB := Option.some.inj (hth.symm.trans h0)
      refine vx_catch hown [] ⟨0, 10, 13, 20⟩ [] (htab.trans rfl) (fun z hz => (List.not_mem_nil hz).elim) (by decide) (by decide) (hts (.classLink RL 20 cy_IB) (by decide +kernel)) (va_Nw.use rfl (hTh.2.2.2 (.castable cy_IB cy_IB) (by decide +kernel))) hce hcv hcl ?_
      refine lv_astore (lv' := [(4, .ref q), (0, .ref (ad 0)), (1, .int x), (2, .int y), (3, .ref ao)]) hx hb dL_stave_13 hl (by decide) rfl (fun ls hl => ?_)
      refine lv_iconst (v := 1) hx hb dL_stave_15 (by decide) ?_
      refine cy_top (y := cy_cd cy_IB cy_IB (cy_tSt x y ns)) (by rw [hth]; decide) ?_
      exact hE _ _ _ _ _ _ (Nat.le_of_ble_eq_true rfl) (Nat.le_of_ble_eq_true rfl) hW dL_stave_16
abbrev rm_L_addSort : Room := { frames := 7, cells := 1, slots := 6, locals := 113 }
set_option maxHeartbeats 4000000 in
set_option maxRecDepth 100000 in
theorem c_L_addSort {l : Launch} {D : va_G} {kI kJ kZ kC : ClassId} {ad : Nat → Nat} {S : Nat → Nat → Int32} {tl : va_W} {Z : Nat → Int64} {x y z : Int32} {no : Nat} (hno : S 0 7 = nI no) (h6 : no ≤ 6) {ao : Nat} {g : Nat → Int64} : cy_V l yL_addSort wsL_addSort rm_L_addSort D (cy_tys kI kJ kZ kC) [.ref (ad 0), .int x, .int y, .int z, .ref ao] (cy_Y kI kJ kC ad S Z ((ao, .inl (kJ, 1, .inr (.inl g))) :: tl)) (some (.int (cy_cd cy_IA cy_IS (cy_tAo x y z no)))) (cy_Y kI kJ kC ad (cy_if (cy_tAo x y z no) (cy_nAo S x y z no) S) Z ((ao, .inl (kJ, 1, .inr (.inl (cy_ou (cy_tAo x y z no) g (nI no))))) :: tl)) := by
  refine cy_ofV (cc := cL_addSort) (maxL := 6) (hh := [(0, 12, 15, 13), (0, 12, 19, 15)]) (by decide) rfl rfl (Nat.le_of_ble_eq_true rfl) ?_
  intro p e s m args below meth co Q A ls hC hTh hNx htab hE hW hl hl0
  have hx := hC.1.1; have hb := hC.1.2.1; have hml := hC.1.2.2.1; have hown := hC.1.2.2.2.1; have hts := hC.1.2.2.2.2
  have hl : lv_has ls 6 [(0, .ref (ad 0)), (1, .int x), (2, .int y), (3, .int z), (4, .ref ao)] := hl
  have hcs : cy_tAo x y z no = none ∨ cy_tAo x y z no = some cy_IA ∨ cy_tAo x y z no = some cy_IS := by
    unfold cy_tAo
    repeat' split
    all_goals simp
  refine lv_aload hx hb dL_addSort_0 (lv_at hl 4 rfl) ?_
  refine lv_iconst (v := 0) hx hb dL_addSort_2 (by decide) ?_
  refine lv_aload_n hx hb dL_addSort_3 rfl (lv_at hl 0 rfl) ?_
  refine lv_iload_n hx hb dL_addSort_4 rfl (lv_at hl 1 rfl) ?_
  refine lv_iload_n hx hb dL_addSort_5 rfl (lv_at hl 2 rfl) ?_
  refine lv_iload_n hx hb dL_addSort_6 rfl (lv_at hl 3 rfl) ?_
  refine cy_callVC (rm := rm_X2_addSort) hl0 hTh (As := [.int x, .int y, .int z]) (rest := [.int 0, .ref ao]) (q0 := 0) (ci := 2) hC.1 hC.2.1 hC.2.2 hW (c_X2_addSort (x := x) (y := y) (z := z) (no := no) hno h6) (cwV 3 hts gL_addSort_X2_addSort rfl rfl rfl (by decide +kernel) ⟨Nat.le_of_ble_eq_true rfl, Nat.le_of_ble_eq_true rfl⟩) (cy_w_at (by decide) rfl) rfl rfl hl.1 rfl (Nat.le_of_ble_eq_true rfl) dL_addSort_7 ⟨Nat.le_of_ble_eq_true rfl, Nat.le_of_ble_eq_true rfl⟩ (k' := 1) (n' := 6) rfl rfl (fun hth H locs hW => ?_) (fun E ce q H locs hth hW hce hcv hcl => ?_)
  · refine lv_i2l hx hb dL_addSort_10 rfl ?_
    refine cy_tlast (tl' := (ao, .inl (kJ, 1, .inr (.inl (vp_updL g 0 (nI no).toInt64)))) :: tl) hC 0 ao hW 1 (i := 0) rfl rfl (by decide) (by decide) rfl dL_addSort_11 (fun H locs hW => ?_)
    refine lv_goto (tgt := 23) hx hb dL_addSort_12 (by decide) ?_
    refine lv_iconst (v := 0) hx hb dL_addSort_23 (by decide) ?_
    refine cy_top (y := cy_cd cy_IA cy_IS (cy_tAo x y z no)) (by rw [hth]; rfl) ?_
    rw [show vp_updL g 0 (nI no).toInt64 = cy_ou (cy_tAo x y z no) g (nI no) from (if_pos hth).symm] at hW
    exact hE _ _ _ _ _ _ (Nat.le_of_ble_eq_true rfl) (Nat.le_of_ble_eq_true rfl) hW dL_addSort_24
  · rw [show g = cy_ou (cy_tAo x y z no) g (nI no) from (if_neg (by rw [hth]; exact fun q => nomatch q)).symm] at hW
    rcases hcs with h0 | h0 | h0
    · rw [hth] at h0; cases h0
    · obtain rfl : E = cy_IA := Option.some.inj (hth.symm.trans h0)
      refine vx_catch hown [] ⟨0, 12, 15, 13⟩ [⟨0, 12, 19, 15⟩] (htab.trans rfl) (fun z hz => (List.not_mem_nil hz).elim) (by decide) (by decide) (hts (.classLink RL 13 cy_IA) (by decide +kernel)) (va_Nw.use rfl (hTh.2.2.2 (.castable cy_IA cy_IA) (by decide +kernel))) hce hcv hcl ?_
      refine lv_astore (lv' := [(5, .ref q), (0, .ref (ad 0)), (1, .int x), (2, .int y), (3, .int z), (4, .ref ao)]) hx hb dL_addSort_15 hl (by decide) rfl (fun ls hl => ?_)
      refine lv_iconst (v := 1) hx hb dL_addSort_17 (by decide) ?_
      refine cy_top (y := cy_cd cy_IA cy_IS (cy_tAo x y z no)) (by rw [hth]; decide) ?_
      exact hE _ _ _ _ _ _ (Nat.le_of_ble_eq_true rfl) (Nat.le_of_ble_eq_true rfl) hW dL_addSort_18
    · obtain rfl : E = cy_IS := Option.some.inj (hth.symm.trans h0)
      refine vx_catch hown [⟨0, 12, 15, 13⟩] ⟨0, 12, 19, 15⟩ [] (htab.trans rfl) (fun z hz => by rw [List.mem_singleton] at hz; subst hz; exact Or.inr ⟨by decide, cy_IA, hts (.classLink RL 13 cy_IA) (by decide +kernel), hNx.2.1.1⟩) (by decide) (by decide) (hts (.classLink RL 15 cy_IS) (by decide +kernel)) (va_Nw.use rfl (hTh.2.2.2 (.castable cy_IS cy_IS) (by decide +kernel))) hce hcv hcl ?_
      refine lv_astore (lv' := [(5, .ref q), (0, .ref (ad 0)), (1, .int x), (2, .int y), (3, .int z), (4, .ref ao)]) hx hb dL_addSort_19 hl (by decide) rfl (fun ls hl => ?_)
      refine lv_iconst (v := 2) hx hb dL_addSort_21 (by decide) ?_
      refine cy_top (y := cy_cd cy_IA cy_IS (cy_tAo x y z no)) (by rw [hth]; decide) ?_
      exact hE _ _ _ _ _ _ (Nat.le_of_ble_eq_true rfl) (Nat.le_of_ble_eq_true rfl) hW dL_addSort_22
abbrev rm_L_choose : Room := { frames := 7, cells := 1, slots := 6, locals := 114 }
set_option maxHeartbeats 4000000 in
set_option maxRecDepth 100000 in
theorem c_L_choose {l : Launch} {D : va_G} {kI kJ kZ kC : ClassId} {ad : Nat → Nat} {S : Nat → Nat → Int32} {tl : va_W} {Z : Nat → Int64} {ns : Nat} {x y : Int32} (hns : S 0 3 = nI ns) (h60 : ns ≤ 60) {no : Nat} (hno : S 0 7 = nI no) (h6 : no ≤ 6) (hwd : ∀ i, i < ns → 1 ≤ (S 1 i).toNatClampNeg ∧ (S 1 i).toNatClampNeg ≤ 120 ∧ S 1 i = nI (S 1 i).toNatClampNeg) (hgi : ∀ j, j < no → 300 ≤ (S 4 j).toNatClampNeg ∧ (S 4 j).toNatClampNeg ≤ 1500 ∧ S 4 j = nI (S 4 j).toNatClampNeg) {ao : Nat} {g : Nat → Int64} : cy_V l yL_choose wsL_choose rm_L_choose D (cy_tys kI kJ kZ kC) [.ref (ad 0), .int x, .int y, .ref ao] (cy_Y kI kJ kC ad S Z ((ao, .inl (kJ, 1, .inr (.inl g))) :: tl)) (some (.int (cy_cd cy_IB cy_IB (cy_tCh x y no)))) (cy_Y kI kJ kC ad (cy_if (cy_tCh x y no) (va_up S 9 (cy_fz S Z ns (cy_gi S x)).1) S) (cy_if (cy_tCh x y no) ((cy_fz S Z ns (cy_gi S x)).2) Z) ((ao, .inl (kJ, 1, .inr (.inl (cy_ou (cy_tCh x y no) g (cy_rCh S Z ns x y))))) :: tl)) := by
  refine cy_ofV (cc := cL_choose) (maxL := 5) (hh := [(0, 10, 13, 20)]) (by decide) rfl rfl (Nat.le_of_ble_eq_true rfl) ?_
  intro p e s m args below meth co Q A ls hC hTh hNx htab hE hW hl hl0
  have hx := hC.1.1; have hb := hC.1.2.1; have hml := hC.1.2.2.1; have hown := hC.1.2.2.2.1; have hts := hC.1.2.2.2.2
  have hl : lv_has ls 5 [(0, .ref (ad 0)), (1, .int x), (2, .int y), (3, .ref ao)] := hl
  have hcs : cy_tCh x y no = none ∨ cy_tCh x y no = some cy_IB := by
    unfold cy_tCh
    repeat' split
    all_goals simp
  refine lv_aload_n hx hb dL_choose_0 rfl (lv_at hl 3 rfl) ?_
  refine lv_iconst (v := 0) hx hb dL_choose_1 (by decide) ?_
  refine lv_aload_n hx hb dL_choose_2 rfl (lv_at hl 0 rfl) ?_
  refine lv_iload_n hx hb dL_choose_3 rfl (lv_at hl 1 rfl) ?_
  refine lv_iload_n hx hb dL_choose_4 rfl (lv_at hl 2 rfl) ?_
  refine cy_callVC (rm := rm_X2_choose) hl0 hTh (As := [.int x, .int y]) (rest := [.int 0, .ref ao]) (q0 := 0) (ci := 2) hC.1 hC.2.1 hC.2.2 hW (c_X2_choose (ns := ns) (x := x) (y := y) (no := no) hns h60 hno h6 hwd hgi) (cwV 2 hts gL_choose_X2_choose rfl rfl rfl (by decide +kernel) ⟨Nat.le_of_ble_eq_true rfl, Nat.le_of_ble_eq_true rfl⟩) (cy_w_at (by decide) rfl) rfl rfl hl.1 rfl (Nat.le_of_ble_eq_true rfl) dL_choose_5 ⟨Nat.le_of_ble_eq_true rfl, Nat.le_of_ble_eq_true rfl⟩ (k' := 1) (n' := 6) rfl rfl (fun hth H locs hW => ?_) (fun E ce q H locs hth hW hce hcv hcl => ?_)
  · refine lv_i2l hx hb dL_choose_8 rfl ?_
    refine cy_tlast (tl' := (ao, .inl (kJ, 1, .inr (.inl (vp_updL g 0 (cy_rCh S Z ns x y).toInt64)))) :: tl) hC 0 ao hW 1 (i := 0) rfl rfl (by decide) (by decide) rfl dL_choose_9 (fun H locs hW => ?_)
    refine lv_goto (tgt := 17) hx hb dL_choose_10 (by decide) ?_
    refine lv_iconst (v := 0) hx hb dL_choose_17 (by decide) ?_
    refine cy_top (y := cy_cd cy_IB cy_IB (cy_tCh x y no)) (by rw [hth]; rfl) ?_
    rw [show vp_updL g 0 (cy_rCh S Z ns x y).toInt64 = cy_ou (cy_tCh x y no) g (cy_rCh S Z ns x y) from (if_pos hth).symm] at hW
    exact hE _ _ _ _ _ _ (Nat.le_of_ble_eq_true rfl) (Nat.le_of_ble_eq_true rfl) hW dL_choose_18
  · rw [show g = cy_ou (cy_tCh x y no) g (cy_rCh S Z ns x y) from (if_neg (by rw [hth]; exact fun q => nomatch q)).symm] at hW
    rcases hcs with h0 | h0
    · rw [hth] at h0; cases h0
    · obtain rfl : E = cy_IB := Option.some.inj (hth.symm.trans h0)
      refine vx_catch hown [] ⟨0, 10, 13, 20⟩ [] (htab.trans rfl) (fun z hz => (List.not_mem_nil hz).elim) (by decide) (by decide) (hts (.classLink RL 20 cy_IB) (by decide +kernel)) (va_Nw.use rfl (hTh.2.2.2 (.castable cy_IB cy_IB) (by decide +kernel))) hce hcv hcl ?_
      refine lv_astore (lv' := [(4, .ref q), (0, .ref (ad 0)), (1, .int x), (2, .int y), (3, .ref ao)]) hx hb dL_choose_13 hl (by decide) rfl (fun ls hl => ?_)
      refine lv_iconst (v := 1) hx hb dL_choose_15 (by decide) ?_
      refine cy_top (y := cy_cd cy_IB cy_IB (cy_tCh x y no)) (by rw [hth]; decide) ?_
      exact hE _ _ _ _ _ _ (Nat.le_of_ble_eq_true rfl) (Nat.le_of_ble_eq_true rfl) hW dL_choose_16
abbrev rm_L_raise : Room := { frames := 7, cells := 1, slots := 6, locals := 114 }
set_option maxHeartbeats 4000000 in
set_option maxRecDepth 100000 in
theorem c_L_raise {l : Launch} {D : va_G} {kI kJ kZ kC : ClassId} {ad : Nat → Nat} {S : Nat → Nat → Int32} {tl : va_W} {Z : Nat → Int64} {x : Int32} {ns : Nat} (hns : S 0 3 = nI ns) (h60 : ns ≤ 60) {no : Nat} (hno : S 0 7 = nI no) (h6 : no ≤ 6) {nc : Nat} (hnc : S 0 9 = nI nc) (h12 : nc ≤ 12) (hwd : ∀ i, i < ns → 1 ≤ (S 1 i).toNatClampNeg ∧ (S 1 i).toNatClampNeg ≤ 120 ∧ S 1 i = nI (S 1 i).toNatClampNeg) (hgi : ∀ j, j < no → 300 ≤ (S 4 j).toNatClampNeg ∧ (S 4 j).toNatClampNeg ≤ 1500 ∧ S 4 j = nI (S 4 j).toNatClampNeg) (hho : ∀ j, j < no → (S 6 j).toNatClampNeg ≤ 8 ∧ S 6 j = nI (S 6 j).toNatClampNeg) {ao : Nat} {g : Nat → Int64} : cy_V l yL_raise wsL_raise rm_L_raise D (cy_tys kI kJ kZ kC) [.ref (ad 0), .int x, .ref ao] (cy_Y kI kJ kC ad S Z ((ao, .inl (kJ, 1, .inr (.inl g))) :: tl)) (some (.int (cy_cd cy_IB cy_IS (cy_tRa S Z x ns no nc)))) (cy_Y kI kJ kC ad (cy_sRa S Z x ns no nc) (cy_zRa S Z x ns no nc) ((ao, .inl (kJ, 1, .inr (.inl (cy_ou (cy_tRa S Z x ns no nc) g (nI nc))))) :: tl)) := by
  refine cy_ofV (cc := cL_raise) (maxL := 4) (hh := [(0, 9, 12, 20), (0, 9, 15, 15)]) (by decide) rfl rfl (Nat.le_of_ble_eq_true rfl) ?_
  intro p e s m args below meth co Q A ls hC hTh hNx htab hE hW hl hl0
  have hx := hC.1.1; have hb := hC.1.2.1; have hml := hC.1.2.2.1; have hown := hC.1.2.2.2.1; have hts := hC.1.2.2.2.2
  have hl : lv_has ls 4 [(0, .ref (ad 0)), (1, .int x), (2, .ref ao)] := hl
  have hcs : cy_tRa S Z x ns no nc = none ∨ cy_tRa S Z x ns no nc = some cy_IB ∨ cy_tRa S Z x ns no nc = some cy_IS := by
    unfold cy_tRa
    repeat' split
    all_goals simp
  refine lv_aload_n hx hb dL_raise_0 rfl (lv_at hl 2 rfl) ?_
  refine lv_iconst (v := 0) hx hb dL_raise_1 (by decide) ?_
  refine lv_aload_n hx hb dL_raise_2 rfl (lv_at hl 0 rfl) ?_
  refine lv_iload_n hx hb dL_raise_3 rfl (lv_at hl 1 rfl) ?_
  refine cy_callVC (rm := rm_X2_raise) hl0 hTh (As := [.int x]) (rest := [.int 0, .ref ao]) (q0 := 0) (ci := 2) hC.1 hC.2.1 hC.2.2 hW (c_X2_raise (x := x) (ns := ns) (no := no) (nc := nc) hns h60 hno h6 hnc h12 hwd hgi hho) (cwV 1 hts gL_raise_X2_raise rfl rfl rfl (by decide +kernel) ⟨Nat.le_of_ble_eq_true rfl, Nat.le_of_ble_eq_true rfl⟩) (cy_w_at (by decide) rfl) rfl rfl hl.1 rfl (Nat.le_of_ble_eq_true rfl) dL_raise_4 ⟨Nat.le_of_ble_eq_true rfl, Nat.le_of_ble_eq_true rfl⟩ (k' := 1) (n' := 6) rfl rfl (fun hth H locs hW => ?_) (fun E ce q H locs hth hW hce hcv hcl => ?_)
  · refine lv_i2l hx hb dL_raise_7 rfl ?_
    refine cy_tlast (tl' := (ao, .inl (kJ, 1, .inr (.inl (vp_updL g 0 (nI nc).toInt64)))) :: tl) hC 0 ao hW 1 (i := 0) rfl rfl (by decide) (by decide) rfl dL_raise_8 (fun H locs hW => ?_)
    refine lv_goto (tgt := 18) hx hb dL_raise_9 (by decide) ?_
    refine lv_iconst (v := 0) hx hb dL_raise_18 (by decide) ?_
    refine cy_top (y := cy_cd cy_IB cy_IS (cy_tRa S Z x ns no nc)) (by rw [hth]; rfl) ?_
    rw [show vp_updL g 0 (nI nc).toInt64 = cy_ou (cy_tRa S Z x ns no nc) g (nI nc) from (if_pos hth).symm] at hW
    exact hE _ _ _ _ _ _ (Nat.le_of_ble_eq_true rfl) (Nat.le_of_ble_eq_true rfl) hW dL_raise_19
  · rw [show g = cy_ou (cy_tRa S Z x ns no nc) g (nI nc) from (if_neg (by rw [hth]; exact fun q => nomatch q)).symm] at hW
    rcases hcs with h0 | h0 | h0
    · rw [hth] at h0; cases h0
    · obtain rfl : E = cy_IB := Option.some.inj (hth.symm.trans h0)
      refine vx_catch hown [] ⟨0, 9, 12, 20⟩ [⟨0, 9, 15, 15⟩] (htab.trans rfl) (fun z hz => (List.not_mem_nil hz).elim) (by decide) (by decide) (hts (.classLink RL 20 cy_IB) (by decide +kernel)) (va_Nw.use rfl (hTh.2.2.2 (.castable cy_IB cy_IB) (by decide +kernel))) hce hcv hcl ?_
      refine lv_astore_n (lv' := [(3, .ref q), (0, .ref (ad 0)), (1, .int x), (2, .ref ao)]) hx hb dL_raise_12 rfl hl (by decide) rfl (fun ls hl => ?_)
      refine lv_iconst (v := 1) hx hb dL_raise_13 (by decide) ?_
      refine cy_top (y := cy_cd cy_IB cy_IS (cy_tRa S Z x ns no nc)) (by rw [hth]; decide) ?_
      exact hE _ _ _ _ _ _ (Nat.le_of_ble_eq_true rfl) (Nat.le_of_ble_eq_true rfl) hW dL_raise_14
    · obtain rfl : E = cy_IS := Option.some.inj (hth.symm.trans h0)
      refine vx_catch hown [⟨0, 9, 12, 20⟩] ⟨0, 9, 15, 15⟩ [] (htab.trans rfl) (fun z hz => by rw [List.mem_singleton] at hz; subst hz; exact Or.inr ⟨by decide, cy_IB, hts (.classLink RL 20 cy_IB) (by decide +kernel), hNx.2.1.2⟩) (by decide) (by decide) (hts (.classLink RL 15 cy_IS) (by decide +kernel)) (va_Nw.use rfl (hTh.2.2.2 (.castable cy_IS cy_IS) (by decide +kernel))) hce hcv hcl ?_
      refine lv_astore_n (lv' := [(3, .ref q), (0, .ref (ad 0)), (1, .int x), (2, .ref ao)]) hx hb dL_raise_15 rfl hl (by decide) rfl (fun ls hl => ?_)
      refine lv_iconst (v := 2) hx hb dL_raise_16 (by decide) ?_
      refine cy_top (y := cy_cd cy_IB cy_IS (cy_tRa S Z x ns no nc)) (by rw [hth]; decide) ?_
      exact hE _ _ _ _ _ _ (Nat.le_of_ble_eq_true rfl) (Nat.le_of_ble_eq_true rfl) hW dL_raise_17
abbrev rm_L_drive : Room := { frames := 7, cells := 1, slots := 6, locals := 114 }
set_option maxHeartbeats 4000000 in
set_option maxRecDepth 100000 in
theorem c_L_drive {l : Launch} {D : va_G} {kI kJ kZ kC : ClassId} {ad : Nat → Nat} {S : Nat → Nat → Int32} {tl : va_W} {Z : Nat → Int64} {x y z : Int32} {nc : Nat} (hnc : S 0 9 = nI nc) (h12 : nc ≤ 12) (hhc : ∀ c, c < nc → (S (3 * c + 11) 4).toNatClampNeg ≤ 8 ∧ S (3 * c + 11) 4 = nI (S (3 * c + 11) 4).toNatClampNeg) {ao : Nat} {g : Nat → Int64} : cy_V l yL_drive wsL_drive rm_L_drive D (cy_tys kI kJ kZ kC) [.ref (ad 0), .int x, .int y, .int z, .ref ao] (cy_Y kI kJ kC ad S Z ((ao, .inl (kJ, 1, .inr (.inl g))) :: tl)) (some (.int (cy_cd cy_IB cy_IA (cy_tDr S x y z nc)))) (cy_Y kI kJ kC ad (cy_if (cy_tDr S x y z nc) (cy_nDr S x.toNatClampNeg y.toNatClampNeg z) S) Z ((ao, .inl (kJ, 1, .inr (.inl (cy_ou (cy_tDr S x y z nc) g (cy_mn 9 (S (3 * x.toNatClampNeg + 12) y.toNatClampNeg + z)))))) :: tl)) := by
  refine cy_ofV (cc := cL_drive) (maxL := 6) (hh := [(0, 12, 15, 20), (0, 12, 19, 13)]) (by decide) rfl rfl (Nat.le_of_ble_eq_true rfl) ?_
  intro p e s m args below meth co Q A ls hC hTh hNx htab hE hW hl hl0
  have hx := hC.1.1; have hb := hC.1.2.1; have hml := hC.1.2.2.1; have hown := hC.1.2.2.2.1; have hts := hC.1.2.2.2.2
  have hl : lv_has ls 6 [(0, .ref (ad 0)), (1, .int x), (2, .int y), (3, .int z), (4, .ref ao)] := hl
  have hcs : cy_tDr S x y z nc = none ∨ cy_tDr S x y z nc = some cy_IB ∨ cy_tDr S x y z nc = some cy_IA := by
    unfold cy_tDr
    repeat' split
    all_goals simp
  refine lv_aload hx hb dL_drive_0 (lv_at hl 4 rfl) ?_
  refine lv_iconst (v := 0) hx hb dL_drive_2 (by decide) ?_
  refine lv_aload_n hx hb dL_drive_3 rfl (lv_at hl 0 rfl) ?_
  refine lv_iload_n hx hb dL_drive_4 rfl (lv_at hl 1 rfl) ?_
  refine lv_iload_n hx hb dL_drive_5 rfl (lv_at hl 2 rfl) ?_
  refine lv_iload_n hx hb dL_drive_6 rfl (lv_at hl 3 rfl) ?_
  refine cy_callVC (rm := rm_X2_drive) hl0 hTh (As := [.int x, .int y, .int z]) (rest := [.int 0, .ref ao]) (q0 := 0) (ci := 2) hC.1 hC.2.1 hC.2.2 hW (c_X2_drive (x := x) (y := y) (z := z) (nc := nc) hnc h12 hhc) (cwV 3 hts gL_drive_X2_drive rfl rfl rfl (by decide +kernel) ⟨Nat.le_of_ble_eq_true rfl, Nat.le_of_ble_eq_true rfl⟩) (cy_w_at (by decide) rfl) rfl rfl hl.1 rfl (Nat.le_of_ble_eq_true rfl) dL_drive_7 ⟨Nat.le_of_ble_eq_true rfl, Nat.le_of_ble_eq_true rfl⟩ (k' := 1) (n' := 6) rfl rfl (fun hth H locs hW => ?_) (fun E ce q H locs hth hW hce hcv hcl => ?_)
  · refine lv_i2l hx hb dL_drive_10 rfl ?_
    refine cy_tlast (tl' := (ao, .inl (kJ, 1, .inr (.inl (vp_updL g 0 (cy_mn 9 (S (3 * x.toNatClampNeg + 12) y.toNatClampNeg + z)).toInt64)))) :: tl) hC 0 ao hW 1 (i := 0) rfl rfl (by decide) (by decide) rfl dL_drive_11 (fun H locs hW => ?_)
    refine lv_goto (tgt := 23) hx hb dL_drive_12 (by decide) ?_
    refine lv_iconst (v := 0) hx hb dL_drive_23 (by decide) ?_
    refine cy_top (y := cy_cd cy_IB cy_IA (cy_tDr S x y z nc)) (by rw [hth]; rfl) ?_
    rw [show vp_updL g 0 (cy_mn 9 (S (3 * x.toNatClampNeg + 12) y.toNatClampNeg + z)).toInt64 = cy_ou (cy_tDr S x y z nc) g (cy_mn 9 (S (3 * x.toNatClampNeg + 12) y.toNatClampNeg + z)) from (if_pos hth).symm] at hW
    exact hE _ _ _ _ _ _ (Nat.le_of_ble_eq_true rfl) (Nat.le_of_ble_eq_true rfl) hW dL_drive_24
  · rw [show g = cy_ou (cy_tDr S x y z nc) g (cy_mn 9 (S (3 * x.toNatClampNeg + 12) y.toNatClampNeg + z)) from (if_neg (by rw [hth]; exact fun q => nomatch q)).symm] at hW
    rcases hcs with h0 | h0 | h0
    · rw [hth] at h0; cases h0
    · obtain rfl : E = cy_IB := Option.some.inj (hth.symm.trans h0)
      refine vx_catch hown [] ⟨0, 12, 15, 20⟩ [⟨0, 12, 19, 13⟩] (htab.trans rfl) (fun z hz => (List.not_mem_nil hz).elim) (by decide) (by decide) (hts (.classLink RL 20 cy_IB) (by decide +kernel)) (va_Nw.use rfl (hTh.2.2.2 (.castable cy_IB cy_IB) (by decide +kernel))) hce hcv hcl ?_
      refine lv_astore (lv' := [(5, .ref q), (0, .ref (ad 0)), (1, .int x), (2, .int y), (3, .int z), (4, .ref ao)]) hx hb dL_drive_15 hl (by decide) rfl (fun ls hl => ?_)
      refine lv_iconst (v := 1) hx hb dL_drive_17 (by decide) ?_
      refine cy_top (y := cy_cd cy_IB cy_IA (cy_tDr S x y z nc)) (by rw [hth]; decide) ?_
      exact hE _ _ _ _ _ _ (Nat.le_of_ble_eq_true rfl) (Nat.le_of_ble_eq_true rfl) hW dL_drive_18
    · obtain rfl : E = cy_IA := Option.some.inj (hth.symm.trans h0)
      refine vx_catch hown [⟨0, 12, 15, 20⟩] ⟨0, 12, 19, 13⟩ [] (htab.trans rfl) (fun z hz => by rw [List.mem_singleton] at hz; subst hz; exact Or.inr ⟨by decide, cy_IB, hts (.classLink RL 20 cy_IB) (by decide +kernel), hNx.1.2⟩) (by decide) (by decide) (hts (.classLink RL 13 cy_IA) (by decide +kernel)) (va_Nw.use rfl (hTh.2.2.2 (.castable cy_IA cy_IA) (by decide +kernel))) hce hcv hcl ?_
      refine lv_astore (lv' := [(5, .ref q), (0, .ref (ad 0)), (1, .int x), (2, .int y), (3, .int z), (4, .ref ao)]) hx hb dL_drive_19 hl (by decide) rfl (fun ls hl => ?_)
      refine lv_iconst (v := 2) hx hb dL_drive_21 (by decide) ?_
      refine cy_top (y := cy_cd cy_IB cy_IA (cy_tDr S x y z nc)) (by rw [hth]; decide) ?_
      exact hE _ _ _ _ _ _ (Nat.le_of_ble_eq_true rfl) (Nat.le_of_ble_eq_true rfl) hW dL_drive_22
abbrev rm_L_mend : Room := { frames := 7, cells := 1, slots := 6, locals := 115 }
set_option maxHeartbeats 4000000 in
set_option maxRecDepth 100000 in
theorem c_L_mend {l : Launch} {D : va_G} {kI kJ kZ kC : ClassId} {ad : Nat → Nat} {S : Nat → Nat → Int32} {tl : va_W} {Z : Nat → Int64} {x y : Int32} {ns : Nat} (hns : S 0 3 = nI ns) (h60 : ns ≤ 60) {nc : Nat} (hnc : S 0 9 = nI nc) (h12 : nc ≤ 12) {ao : Nat} {g : Nat → Int64} : cy_V l yL_mend wsL_mend rm_L_mend D (cy_tys kI kJ kZ kC) [.ref (ad 0), .int x, .int y, .ref ao] (cy_Y kI kJ kC ad S Z ((ao, .inl (kJ, 1, .inr (.inl g))) :: tl)) (some (.int (cy_cd cy_IB cy_IS (cy_tMe S x y ns nc)))) (cy_Y kI kJ kC ad (cy_if (cy_tMe S x y ns nc) (cy_nMe S x.toNatClampNeg y.toNatClampNeg (cy_lst S x ns).toNatClampNeg) S) Z ((ao, .inl (kJ, 1, .inr (.inl (cy_ou (cy_tMe S x y ns nc) g (S (3 * x.toNatClampNeg + 11) 3))))) :: tl)) := by
  refine cy_ofV (cc := cL_mend) (maxL := 5) (hh := [(0, 10, 13, 20), (0, 10, 17, 15)]) (by decide) rfl rfl (Nat.le_of_ble_eq_true rfl) ?_
  intro p e s m args below meth co Q A ls hC hTh hNx htab hE hW hl hl0
  have hx := hC.1.1; have hb := hC.1.2.1; have hml := hC.1.2.2.1; have hown := hC.1.2.2.2.1; have hts := hC.1.2.2.2.2
  have hl : lv_has ls 5 [(0, .ref (ad 0)), (1, .int x), (2, .int y), (3, .ref ao)] := hl
  have hcs : cy_tMe S x y ns nc = none ∨ cy_tMe S x y ns nc = some cy_IB ∨ cy_tMe S x y ns nc = some cy_IS := by
    unfold cy_tMe
    repeat' split
    all_goals simp
  refine lv_aload_n hx hb dL_mend_0 rfl (lv_at hl 3 rfl) ?_
  refine lv_iconst (v := 0) hx hb dL_mend_1 (by decide) ?_
  refine lv_aload_n hx hb dL_mend_2 rfl (lv_at hl 0 rfl) ?_
  refine lv_iload_n hx hb dL_mend_3 rfl (lv_at hl 1 rfl) ?_
  refine lv_iload_n hx hb dL_mend_4 rfl (lv_at hl 2 rfl) ?_
  refine cy_callVC (rm := rm_X2_mend) hl0 hTh (As := [.int x, .int y]) (rest := [.int 0, .ref ao]) (q0 := 0) (ci := 2) hC.1 hC.2.1 hC.2.2 hW (c_X2_mend (x := x) (y := y) (ns := ns) (nc := nc) hns h60 hnc h12) (cwV 2 hts gL_mend_X2_mend rfl rfl rfl (by decide +kernel) ⟨Nat.le_of_ble_eq_true rfl, Nat.le_of_ble_eq_true rfl⟩) (cy_w_at (by decide) rfl) rfl rfl hl.1 rfl (Nat.le_of_ble_eq_true rfl) dL_mend_5 ⟨Nat.le_of_ble_eq_true rfl, Nat.le_of_ble_eq_true rfl⟩ (k' := 1) (n' := 6) rfl rfl (fun hth H locs hW => ?_) (fun E ce q H locs hth hW hce hcv hcl => ?_)
  · refine lv_i2l hx hb dL_mend_8 rfl ?_
    refine cy_tlast (tl' := (ao, .inl (kJ, 1, .inr (.inl (vp_updL g 0 (S (3 * x.toNatClampNeg + 11) 3).toInt64)))) :: tl) hC 0 ao hW 1 (i := 0) rfl rfl (by decide) (by decide) rfl dL_mend_9 (fun H locs hW => ?_)
    refine lv_goto (tgt := 21) hx hb dL_mend_10 (by decide) ?_
    refine lv_iconst (v := 0) hx hb dL_mend_21 (by decide) ?_
    refine cy_top (y := cy_cd cy_IB cy_IS (cy_tMe S x y ns nc)) (by rw [hth]; rfl) ?_
    rw [show vp_updL g 0 (S (3 * x.toNatClampNeg + 11) 3).toInt64 = cy_ou (cy_tMe S x y ns nc) g (S (3 * x.toNatClampNeg + 11) 3) from (if_pos hth).symm] at hW
    exact hE _ _ _ _ _ _ (Nat.le_of_ble_eq_true rfl) (Nat.le_of_ble_eq_true rfl) hW dL_mend_22
  · rw [show g = cy_ou (cy_tMe S x y ns nc) g (S (3 * x.toNatClampNeg + 11) 3) from (if_neg (by rw [hth]; exact fun q => nomatch q)).symm] at hW
    rcases hcs with h0 | h0 | h0
    · rw [hth] at h0; cases h0
    · obtain rfl : E = cy_IB := Option.some.inj (hth.symm.trans h0)
      refine vx_catch hown [] ⟨0, 10, 13, 20⟩ [⟨0, 10, 17, 15⟩] (htab.trans rfl) (fun z hz => (List.not_mem_nil hz).elim) (by decide) (by decide) (hts (.classLink RL 20 cy_IB) (by decide +kernel)) (va_Nw.use rfl (hTh.2.2.2 (.castable cy_IB cy_IB) (by decide +kernel))) hce hcv hcl ?_
      refine lv_astore (lv' := [(4, .ref q), (0, .ref (ad 0)), (1, .int x), (2, .int y), (3, .ref ao)]) hx hb dL_mend_13 hl (by decide) rfl (fun ls hl => ?_)
      refine lv_iconst (v := 1) hx hb dL_mend_15 (by decide) ?_
      refine cy_top (y := cy_cd cy_IB cy_IS (cy_tMe S x y ns nc)) (by rw [hth]; decide) ?_
      exact hE _ _ _ _ _ _ (Nat.le_of_ble_eq_true rfl) (Nat.le_of_ble_eq_true rfl) hW dL_mend_16
    · obtain rfl : E = cy_IS := Option.some.inj (hth.symm.trans h0)
      refine vx_catch hown [⟨0, 10, 13, 20⟩] ⟨0, 10, 17, 15⟩ [] (htab.trans rfl) (fun z hz => by rw [List.mem_singleton] at hz; subst hz; exact Or.inr ⟨by decide, cy_IB, hts (.classLink RL 20 cy_IB) (by decide +kernel), hNx.2.1.2⟩) (by decide) (by decide) (hts (.classLink RL 15 cy_IS) (by decide +kernel)) (va_Nw.use rfl (hTh.2.2.2 (.castable cy_IS cy_IS) (by decide +kernel))) hce hcv hcl ?_
      refine lv_astore (lv' := [(4, .ref q), (0, .ref (ad 0)), (1, .int x), (2, .int y), (3, .ref ao)]) hx hb dL_mend_17 hl (by decide) rfl (fun ls hl => ?_)
      refine lv_iconst (v := 2) hx hb dL_mend_19 (by decide) ?_
      refine cy_top (y := cy_cd cy_IB cy_IS (cy_tMe S x y ns nc)) (by rw [hth]; decide) ?_
      exact hE _ _ _ _ _ _ (Nat.le_of_ble_eq_true rfl) (Nat.le_of_ble_eq_true rfl) hW dL_mend_20
abbrev rm_L_breakUp : Room := { frames := 7, cells := 1, slots := 6, locals := 113 }
set_option maxHeartbeats 4000000 in
set_option maxRecDepth 100000 in
theorem c_L_breakUp {l : Launch} {D : va_G} {kI kJ kZ kC : ClassId} {ad : Nat → Nat} {S : Nat → Nat → Int32} {tl : va_W} {Z : Nat → Int64} {x : Int32} {ns : Nat} (hns : S 0 3 = nI ns) (h60 : ns ≤ 60) {nc : Nat} (hnc : S 0 9 = nI nc) (h12 : nc ≤ 12) {ao : Nat} {g : Nat → Int64} : cy_V l yL_breakUp wsL_breakUp rm_L_breakUp D (cy_tys kI kJ kZ kC) [.ref (ad 0), .int x, .ref ao] (cy_Y kI kJ kC ad S Z ((ao, .inl (kJ, 1, .inr (.inl g))) :: tl)) (some (.int (cy_cd cy_IB cy_IS (cy_tBr S x nc)))) (cy_Y kI kJ kC ad (cy_if (cy_tBr S x nc) (cy_sCl (cy_ts S x ns).1 x.toNatClampNeg) S) Z ((ao, .inl (kJ, 1, .inr (.inl (cy_ou (cy_tBr S x nc) g (cy_sm (S (3 * x.toNatClampNeg + 13)) 5))))) :: tl)) := by
  refine cy_ofV (cc := cL_breakUp) (maxL := 4) (hh := [(0, 9, 12, 20), (0, 9, 15, 15)]) (by decide) rfl rfl (Nat.le_of_ble_eq_true rfl) ?_
  intro p e s m args below meth co Q A ls hC hTh hNx htab hE hW hl hl0
  have hx := hC.1.1; have hb := hC.1.2.1; have hml := hC.1.2.2.1; have hown := hC.1.2.2.2.1; have hts := hC.1.2.2.2.2
  have hl : lv_has ls 4 [(0, .ref (ad 0)), (1, .int x), (2, .ref ao)] := hl
  have hcs : cy_tBr S x nc = none ∨ cy_tBr S x nc = some cy_IB ∨ cy_tBr S x nc = some cy_IS := by
    unfold cy_tBr
    repeat' split
    all_goals simp
  refine lv_aload_n hx hb dL_breakUp_0 rfl (lv_at hl 2 rfl) ?_
  refine lv_iconst (v := 0) hx hb dL_breakUp_1 (by decide) ?_
  refine lv_aload_n hx hb dL_breakUp_2 rfl (lv_at hl 0 rfl) ?_
  refine lv_iload_n hx hb dL_breakUp_3 rfl (lv_at hl 1 rfl) ?_
  refine cy_callVC (rm := rm_X2_breakUp) hl0 hTh (As := [.int x]) (rest := [.int 0, .ref ao]) (q0 := 0) (ci := 2) hC.1 hC.2.1 hC.2.2 hW (c_X2_breakUp (x := x) (ns := ns) (nc := nc) hns h60 hnc h12) (cwV 1 hts gL_breakUp_X2_breakUp rfl rfl rfl (by decide +kernel) ⟨Nat.le_of_ble_eq_true rfl, Nat.le_of_ble_eq_true rfl⟩) (cy_w_at (by decide) rfl) rfl rfl hl.1 rfl (Nat.le_of_ble_eq_true rfl) dL_breakUp_4 ⟨Nat.le_of_ble_eq_true rfl, Nat.le_of_ble_eq_true rfl⟩ (k' := 1) (n' := 6) rfl rfl (fun hth H locs hW => ?_) (fun E ce q H locs hth hW hce hcv hcl => ?_)
  · refine lv_i2l hx hb dL_breakUp_7 rfl ?_
    refine cy_tlast (tl' := (ao, .inl (kJ, 1, .inr (.inl (vp_updL g 0 (cy_sm (S (3 * x.toNatClampNeg + 13)) 5).toInt64)))) :: tl) hC 0 ao hW 1 (i := 0) rfl rfl (by decide) (by decide) rfl dL_breakUp_8 (fun H locs hW => ?_)
    refine lv_goto (tgt := 18) hx hb dL_breakUp_9 (by decide) ?_
    refine lv_iconst (v := 0) hx hb dL_breakUp_18 (by decide) ?_
    refine cy_top (y := cy_cd cy_IB cy_IS (cy_tBr S x nc)) (by rw [hth]; rfl) ?_
    rw [show vp_updL g 0 (cy_sm (S (3 * x.toNatClampNeg + 13)) 5).toInt64 = cy_ou (cy_tBr S x nc) g (cy_sm (S (3 * x.toNatClampNeg + 13)) 5) from (if_pos hth).symm] at hW
    exact hE _ _ _ _ _ _ (Nat.le_of_ble_eq_true rfl) (Nat.le_of_ble_eq_true rfl) hW dL_breakUp_19
  · rw [show g = cy_ou (cy_tBr S x nc) g (cy_sm (S (3 * x.toNatClampNeg + 13)) 5) from (if_neg (by rw [hth]; exact fun q => nomatch q)).symm] at hW
    rcases hcs with h0 | h0 | h0
    · rw [hth] at h0; cases h0
    · obtain rfl : E = cy_IB := Option.some.inj (hth.symm.trans h0)
      refine vx_catch hown [] ⟨0, 9, 12, 20⟩ [⟨0, 9, 15, 15⟩] (htab.trans rfl) (fun z hz => (List.not_mem_nil hz).elim) (by decide) (by decide) (hts (.classLink RL 20 cy_IB) (by decide +kernel)) (va_Nw.use rfl (hTh.2.2.2 (.castable cy_IB cy_IB) (by decide +kernel))) hce hcv hcl ?_
      refine lv_astore_n (lv' := [(3, .ref q), (0, .ref (ad 0)), (1, .int x), (2, .ref ao)]) hx hb dL_breakUp_12 rfl hl (by decide) rfl (fun ls hl => ?_)
      refine lv_iconst (v := 1) hx hb dL_breakUp_13 (by decide) ?_
      refine cy_top (y := cy_cd cy_IB cy_IS (cy_tBr S x nc)) (by rw [hth]; decide) ?_
      exact hE _ _ _ _ _ _ (Nat.le_of_ble_eq_true rfl) (Nat.le_of_ble_eq_true rfl) hW dL_breakUp_14
    · obtain rfl : E = cy_IS := Option.some.inj (hth.symm.trans h0)
      refine vx_catch hown [⟨0, 9, 12, 20⟩] ⟨0, 9, 15, 15⟩ [] (htab.trans rfl) (fun z hz => by rw [List.mem_singleton] at hz; subst hz; exact Or.inr ⟨by decide, cy_IB, hts (.classLink RL 20 cy_IB) (by decide +kernel), hNx.2.1.2⟩) (by decide) (by decide) (hts (.classLink RL 15 cy_IS) (by decide +kernel)) (va_Nw.use rfl (hTh.2.2.2 (.castable cy_IS cy_IS) (by decide +kernel))) hce hcv hcl ?_
      refine lv_astore_n (lv' := [(3, .ref q), (0, .ref (ad 0)), (1, .int x), (2, .ref ao)]) hx hb dL_breakUp_15 rfl hl (by decide) rfl (fun ls hl => ?_)
      refine lv_iconst (v := 2) hx hb dL_breakUp_16 (by decide) ?_
      refine cy_top (y := cy_cd cy_IB cy_IS (cy_tBr S x nc)) (by rw [hth]; decide) ?_
      exact hE _ _ _ _ _ _ (Nat.le_of_ble_eq_true rfl) (Nat.le_of_ble_eq_true rfl) hW dL_breakUp_17
abbrev rm_L_cask : Room := { frames := 7, cells := 1, slots := 6, locals := 112 }
set_option maxHeartbeats 4000000 in
set_option maxRecDepth 100000 in
theorem c_L_cask {l : Launch} {D : va_G} {kI kJ kZ kC : ClassId} {ad : Nat → Nat} {S : Nat → Nat → Int32} {tl : va_W} {Z : Nat → Int64} {x y : Int32} {ns : Nat} (hns : S 0 3 = nI ns) (h60 : ns ≤ 60) {nc : Nat} (hnc : S 0 9 = nI nc) (h12 : nc ≤ 12) {ao : Nat} {g : Nat → Int64} : cy_V l yL_cask wsL_cask rm_L_cask D (cy_tys kI kJ kZ kC) [.ref (ad 0), .int x, .int y, .ref ao] (cy_Y kI kJ kC ad S Z ((ao, .inl (kJ, 1, .inr (.inl g))) :: tl)) (some (.int (cy_cd cy_IB cy_IB (cy_tCa x y nc)))) (cy_Y kI kJ kC ad (cy_if (cy_tCa x y nc) S S) Z ((ao, .inl (kJ, 1, .inr (.inl (cy_ou (cy_tCa x y nc) g (cy_tell S ns x.toNatClampNeg y.toNatClampNeg))))) :: tl)) := by
  refine cy_ofV (cc := cL_cask) (maxL := 5) (hh := [(0, 10, 13, 20)]) (by decide) rfl rfl (Nat.le_of_ble_eq_true rfl) ?_
  intro p e s m args below meth co Q A ls hC hTh hNx htab hE hW hl hl0
  have hx := hC.1.1; have hb := hC.1.2.1; have hml := hC.1.2.2.1; have hown := hC.1.2.2.2.1; have hts := hC.1.2.2.2.2
  have hl : lv_has ls 5 [(0, .ref (ad 0)), (1, .int x), (2, .int y), (3, .ref ao)] := hl
  have hcs : cy_tCa x y nc = none ∨ cy_tCa x y nc = some cy_IB := by
    unfold cy_tCa
    repeat' split
    all_goals simp
  refine lv_aload_n hx hb dL_cask_0 rfl (lv_at hl 3 rfl) ?_
  refine lv_iconst (v := 0) hx hb dL_cask_1 (by decide) ?_
  refine lv_aload_n hx hb dL_cask_2 rfl (lv_at hl 0 rfl) ?_
  refine lv_iload_n hx hb dL_cask_3 rfl (lv_at hl 1 rfl) ?_
  refine lv_iload_n hx hb dL_cask_4 rfl (lv_at hl 2 rfl) ?_
  refine cy_callVC (rm := rm_X2_cask) hl0 hTh (As := [.int x, .int y]) (rest := [.int 0, .ref ao]) (q0 := 0) (ci := 2) hC.1 hC.2.1 hC.2.2 hW (c_X2_cask (x := x) (y := y) (ns := ns) (nc := nc) hns h60 hnc h12) (cwV 2 hts gL_cask_X2_cask rfl rfl rfl (by decide +kernel) ⟨Nat.le_of_ble_eq_true rfl, Nat.le_of_ble_eq_true rfl⟩) (cy_w_at (by decide) rfl) rfl rfl hl.1 rfl (Nat.le_of_ble_eq_true rfl) dL_cask_5 ⟨Nat.le_of_ble_eq_true rfl, Nat.le_of_ble_eq_true rfl⟩ (k' := 1) (n' := 6) rfl rfl (fun hth H locs hW => ?_) (fun E ce q H locs hth hW hce hcv hcl => ?_)
  · refine lv_i2l hx hb dL_cask_8 rfl ?_
    refine cy_tlast (tl' := (ao, .inl (kJ, 1, .inr (.inl (vp_updL g 0 (cy_tell S ns x.toNatClampNeg y.toNatClampNeg).toInt64)))) :: tl) hC 0 ao hW 1 (i := 0) rfl rfl (by decide) (by decide) rfl dL_cask_9 (fun H locs hW => ?_)
    refine lv_goto (tgt := 17) hx hb dL_cask_10 (by decide) ?_
    refine lv_iconst (v := 0) hx hb dL_cask_17 (by decide) ?_
    refine cy_top (y := cy_cd cy_IB cy_IB (cy_tCa x y nc)) (by rw [hth]; rfl) ?_
    rw [show vp_updL g 0 (cy_tell S ns x.toNatClampNeg y.toNatClampNeg).toInt64 = cy_ou (cy_tCa x y nc) g (cy_tell S ns x.toNatClampNeg y.toNatClampNeg) from (if_pos hth).symm] at hW
    exact hE _ _ _ _ _ _ (Nat.le_of_ble_eq_true rfl) (Nat.le_of_ble_eq_true rfl) hW dL_cask_18
  · rw [show g = cy_ou (cy_tCa x y nc) g (cy_tell S ns x.toNatClampNeg y.toNatClampNeg) from (if_neg (by rw [hth]; exact fun q => nomatch q)).symm] at hW
    rcases hcs with h0 | h0
    · rw [hth] at h0; cases h0
    · obtain rfl : E = cy_IB := Option.some.inj (hth.symm.trans h0)
      refine vx_catch hown [] ⟨0, 10, 13, 20⟩ [] (htab.trans rfl) (fun z hz => (List.not_mem_nil hz).elim) (by decide) (by decide) (hts (.classLink RL 20 cy_IB) (by decide +kernel)) (va_Nw.use rfl (hTh.2.2.2 (.castable cy_IB cy_IB) (by decide +kernel))) hce hcv hcl ?_
      refine lv_astore (lv' := [(4, .ref q), (0, .ref (ad 0)), (1, .int x), (2, .int y), (3, .ref ao)]) hx hb dL_cask_13 hl (by decide) rfl (fun ls hl => ?_)
      refine lv_iconst (v := 1) hx hb dL_cask_15 (by decide) ?_
      refine cy_top (y := cy_cd cy_IB cy_IB (cy_tCa x y nc)) (by rw [hth]; decide) ?_
      exact hE _ _ _ _ _ _ (Nat.le_of_ble_eq_true rfl) (Nat.le_of_ble_eq_true rfl) hW dL_cask_16
abbrev rm_L_fill : Room := { frames := 7, cells := 1, slots := 6, locals := 114 }
set_option maxHeartbeats 4000000 in
set_option maxRecDepth 100000 in
theorem c_L_fill {l : Launch} {D : va_G} {kI kJ kZ kC : ClassId} {ad : Nat → Nat} {S : Nat → Nat → Int32} {tl : va_W} {Z : Nat → Int64} {x y z : Int32} {nc : Nat} (hnc : S 0 9 = nI nc) (h12 : nc ≤ 12) {ao : Nat} {g : Nat → Int64} : cy_V l yL_fill wsL_fill rm_L_fill D (cy_tys kI kJ kZ kC) [.ref (ad 0), .int x, .int y, .int z, .ref ao] (cy_Y kI kJ kC ad S Z ((ao, .inl (kJ, 1, .inr (.inl g))) :: tl)) (some (.int (cy_cd cy_IB cy_IA (cy_tFi S x y z nc)))) (cy_Y kI kJ kC ad (cy_if (cy_tFi S x y z nc) (cy_nFi S x.toNatClampNeg y.toNatClampNeg z) S) Z ((ao, .inl (kJ, 1, .inr (.inl (cy_ou (cy_tFi S x y z nc) g (cy_sm (cy_nFi S x.toNatClampNeg y.toNatClampNeg z (3 * x.toNatClampNeg + 13)) 5))))) :: tl)) := by
  refine cy_ofV (cc := cL_fill) (maxL := 6) (hh := [(0, 12, 15, 20), (0, 12, 19, 13), (0, 12, 23, 15)]) (by decide) rfl rfl (Nat.le_of_ble_eq_true rfl) ?_
  intro p e s m args below meth co Q A ls hC hTh hNx htab hE hW hl hl0
  have hx := hC.1.1; have hb := hC.1.2.1; have hml := hC.1.2.2.1; have hown := hC.1.2.2.2.1; have hts := hC.1.2.2.2.2
  have hl : lv_has ls 6 [(0, .ref (ad 0)), (1, .int x), (2, .int y), (3, .int z), (4, .ref ao)] := hl
  have hcs : cy_tFi S x y z nc = none ∨ cy_tFi S x y z nc = some cy_IB ∨ cy_tFi S x y z nc = some cy_IA ∨ cy_tFi S x y z nc = some cy_IS := by
    unfold cy_tFi
    repeat' split
    all_goals simp
  refine lv_aload hx hb dL_fill_0 (lv_at hl 4 rfl) ?_
  refine lv_iconst (v := 0) hx hb dL_fill_2 (by decide) ?_
  refine lv_aload_n hx hb dL_fill_3 rfl (lv_at hl 0 rfl) ?_
  refine lv_iload_n hx hb dL_fill_4 rfl (lv_at hl 1 rfl) ?_
  refine lv_iload_n hx hb dL_fill_5 rfl (lv_at hl 2 rfl) ?_
  refine lv_iload_n hx hb dL_fill_6 rfl (lv_at hl 3 rfl) ?_
  refine cy_callVC (rm := rm_X2_fill) hl0 hTh (As := [.int x, .int y, .int z]) (rest := [.int 0, .ref ao]) (q0 := 0) (ci := 2) hC.1 hC.2.1 hC.2.2 hW (c_X2_fill (x := x) (y := y) (z := z) (nc := nc) hnc h12) (cwV 3 hts gL_fill_X2_fill rfl rfl rfl (by decide +kernel) ⟨Nat.le_of_ble_eq_true rfl, Nat.le_of_ble_eq_true rfl⟩) (cy_w_at (by decide) rfl) rfl rfl hl.1 rfl (Nat.le_of_ble_eq_true rfl) dL_fill_7 ⟨Nat.le_of_ble_eq_true rfl, Nat.le_of_ble_eq_true rfl⟩ (k' := 1) (n' := 6) rfl rfl (fun hth H locs hW => ?_) (fun E ce q H locs hth hW hce hcv hcl => ?_)
  · refine lv_i2l hx hb dL_fill_10 rfl ?_
    refine cy_tlast (tl' := (ao, .inl (kJ, 1, .inr (.inl (vp_updL g 0 (cy_sm (cy_nFi S x.toNatClampNeg y.toNatClampNeg z (3 * x.toNatClampNeg + 13)) 5).toInt64)))) :: tl) hC 0 ao hW 1 (i := 0) rfl rfl (by decide) (by decide) rfl dL_fill_11 (fun H locs hW => ?_)
    refine lv_goto (tgt := 27) hx hb dL_fill_12 (by decide) ?_
    refine lv_iconst (v := 0) hx hb dL_fill_27 (by decide) ?_
    refine cy_top (y := cy_cd cy_IB cy_IA (cy_tFi S x y z nc)) (by rw [hth]; rfl) ?_
    rw [show vp_updL g 0 (cy_sm (cy_nFi S x.toNatClampNeg y.toNatClampNeg z (3 * x.toNatClampNeg + 13)) 5).toInt64 = cy_ou (cy_tFi S x y z nc) g (cy_sm (cy_nFi S x.toNatClampNeg y.toNatClampNeg z (3 * x.toNatClampNeg + 13)) 5) from (if_pos hth).symm] at hW
    exact hE _ _ _ _ _ _ (Nat.le_of_ble_eq_true rfl) (Nat.le_of_ble_eq_true rfl) hW dL_fill_28
  · rw [show g = cy_ou (cy_tFi S x y z nc) g (cy_sm (cy_nFi S x.toNatClampNeg y.toNatClampNeg z (3 * x.toNatClampNeg + 13)) 5) from (if_neg (by rw [hth]; exact fun q => nomatch q)).symm] at hW
    rcases hcs with h0 | h0 | h0 | h0
    · rw [hth] at h0; cases h0
    · obtain rfl : E = cy_IB := Option.some.inj (hth.symm.trans h0)
      refine vx_catch hown [] ⟨0, 12, 15, 20⟩ [⟨0, 12, 19, 13⟩, ⟨0, 12, 23, 15⟩] (htab.trans rfl) (fun z hz => (List.not_mem_nil hz).elim) (by decide) (by decide) (hts (.classLink RL 20 cy_IB) (by decide +kernel)) (va_Nw.use rfl (hTh.2.2.2 (.castable cy_IB cy_IB) (by decide +kernel))) hce hcv hcl ?_
      refine lv_astore (lv' := [(5, .ref q), (0, .ref (ad 0)), (1, .int x), (2, .int y), (3, .int z), (4, .ref ao)]) hx hb dL_fill_15 hl (by decide) rfl (fun ls hl => ?_)
      refine lv_iconst (v := 1) hx hb dL_fill_17 (by decide) ?_
      refine cy_top (y := cy_cd cy_IB cy_IA (cy_tFi S x y z nc)) (by rw [hth]; decide) ?_
      exact hE _ _ _ _ _ _ (Nat.le_of_ble_eq_true rfl) (Nat.le_of_ble_eq_true rfl) hW dL_fill_18
    · obtain rfl : E = cy_IA := Option.some.inj (hth.symm.trans h0)
      refine vx_catch hown [⟨0, 12, 15, 20⟩] ⟨0, 12, 19, 13⟩ [⟨0, 12, 23, 15⟩] (htab.trans rfl) (fun z hz => by rw [List.mem_singleton] at hz; subst hz; exact Or.inr ⟨by decide, cy_IB, hts (.classLink RL 20 cy_IB) (by decide +kernel), hNx.1.2⟩) (by decide) (by decide) (hts (.classLink RL 13 cy_IA) (by decide +kernel)) (va_Nw.use rfl (hTh.2.2.2 (.castable cy_IA cy_IA) (by decide +kernel))) hce hcv hcl ?_
      refine lv_astore (lv' := [(5, .ref q), (0, .ref (ad 0)), (1, .int x), (2, .int y), (3, .int z), (4, .ref ao)]) hx hb dL_fill_19 hl (by decide) rfl (fun ls hl => ?_)
      refine lv_iconst (v := 2) hx hb dL_fill_21 (by decide) ?_
      refine cy_top (y := cy_cd cy_IB cy_IA (cy_tFi S x y z nc)) (by rw [hth]; decide) ?_
      exact hE _ _ _ _ _ _ (Nat.le_of_ble_eq_true rfl) (Nat.le_of_ble_eq_true rfl) hW dL_fill_22
    · obtain rfl : E = cy_IS := Option.some.inj (hth.symm.trans h0)
      refine vx_catch hown [⟨0, 12, 15, 20⟩, ⟨0, 12, 19, 13⟩] ⟨0, 12, 23, 15⟩ [] (htab.trans rfl) (fun z hz => by simp only [List.mem_cons, List.not_mem_nil, or_false] at hz; rcases hz with rfl | rfl; exact Or.inr ⟨by decide, cy_IB, hts (.classLink RL 20 cy_IB) (by decide +kernel), hNx.2.1.2⟩; exact Or.inr ⟨by decide, cy_IA, hts (.classLink RL 13 cy_IA) (by decide +kernel), hNx.2.1.1⟩) (by decide) (by decide) (hts (.classLink RL 15 cy_IS) (by decide +kernel)) (va_Nw.use rfl (hTh.2.2.2 (.castable cy_IS cy_IS) (by decide +kernel))) hce hcv hcl ?_
      refine lv_astore (lv' := [(5, .ref q), (0, .ref (ad 0)), (1, .int x), (2, .int y), (3, .int z), (4, .ref ao)]) hx hb dL_fill_23 hl (by decide) rfl (fun ls hl => ?_)
      refine lv_iconst (v := 3) hx hb dL_fill_25 (by decide) ?_
      refine cy_top (y := cy_cd cy_IB cy_IA (cy_tFi S x y z nc)) (by rw [hth]; decide) ?_
      exact hE _ _ _ _ _ _ (Nat.le_of_ble_eq_true rfl) (Nat.le_of_ble_eq_true rfl) hW dL_fill_26
abbrev rm_L_rack : Room := { frames := 7, cells := 1, slots := 6, locals := 117 }
set_option maxHeartbeats 4000000 in
set_option maxRecDepth 100000 in
theorem c_L_rack {l : Launch} {D : va_G} {kI kJ kZ kC : ClassId} {ad : Nat → Nat} {S : Nat → Nat → Int32} {tl : va_W} {Z : Nat → Int64} {x y z : Int32} {nc : Nat} (hnc : S 0 9 = nI nc) (h12 : nc ≤ 12) {ao : Nat} {g : Nat → Int64} : cy_V l yL_rack wsL_rack rm_L_rack D (cy_tys kI kJ kZ kC) [.ref (ad 0), .int x, .int y, .int z, .ref ao] (cy_Y kI kJ kC ad S Z ((ao, .inl (kJ, 1, .inr (.inl g))) :: tl)) (some (.int (cy_cd cy_IB cy_IA (cy_tRk S x y z nc)))) (cy_Y kI kJ kC ad (cy_if (cy_tRk S x y z nc) (cy_nRk S x y z) S) Z ((ao, .inl (kJ, 1, .inr (.inl (cy_ou (cy_tRk S x y z nc) g (cy_sm (cy_nRk S x y z (3 * x.toNatClampNeg + 13)) 5))))) :: tl)) := by
  refine cy_ofV (cc := cL_rack) (maxL := 6) (hh := [(0, 12, 15, 20), (0, 12, 19, 13), (0, 12, 23, 15)]) (by decide) rfl rfl (Nat.le_of_ble_eq_true rfl) ?_
  intro p e s m args below meth co Q A ls hC hTh hNx htab hE hW hl hl0
  have hx := hC.1.1; have hb := hC.1.2.1; have hml := hC.1.2.2.1; have hown := hC.1.2.2.2.1; have hts := hC.1.2.2.2.2
  have hl : lv_has ls 6 [(0, .ref (ad 0)), (1, .int x), (2, .int y), (3, .int z), (4, .ref ao)] := hl
  have hcs : cy_tRk S x y z nc = none ∨ cy_tRk S x y z nc = some cy_IB ∨ cy_tRk S x y z nc = some cy_IA ∨ cy_tRk S x y z nc = some cy_IS := by
    unfold cy_tRk
    repeat' split
    all_goals simp
  refine lv_aload hx hb dL_rack_0 (lv_at hl 4 rfl) ?_
  refine lv_iconst (v := 0) hx hb dL_rack_2 (by decide) ?_
  refine lv_aload_n hx hb dL_rack_3 rfl (lv_at hl 0 rfl) ?_
  refine lv_iload_n hx hb dL_rack_4 rfl (lv_at hl 1 rfl) ?_
  refine lv_iload_n hx hb dL_rack_5 rfl (lv_at hl 2 rfl) ?_
  refine lv_iload_n hx hb dL_rack_6 rfl (lv_at hl 3 rfl) ?_
  refine cy_callVC (rm := rm_X2_rack) hl0 hTh (As := [.int x, .int y, .int z]) (rest := [.int 0, .ref ao]) (q0 := 0) (ci := 2) hC.1 hC.2.1 hC.2.2 hW (c_X2_rack (x := x) (y := y) (z := z) (nc := nc) hnc h12) (cwV 3 hts gL_rack_X2_rack rfl rfl rfl (by decide +kernel) ⟨Nat.le_of_ble_eq_true rfl, Nat.le_of_ble_eq_true rfl⟩) (cy_w_at (by decide) rfl) rfl rfl hl.1 rfl (Nat.le_of_ble_eq_true rfl) dL_rack_7 ⟨Nat.le_of_ble_eq_true rfl, Nat.le_of_ble_eq_true rfl⟩ (k' := 1) (n' := 6) rfl rfl (fun hth H locs hW => ?_) (fun E ce q H locs hth hW hce hcv hcl => ?_)
  · refine lv_i2l hx hb dL_rack_10 rfl ?_
    refine cy_tlast (tl' := (ao, .inl (kJ, 1, .inr (.inl (vp_updL g 0 (cy_sm (cy_nRk S x y z (3 * x.toNatClampNeg + 13)) 5).toInt64)))) :: tl) hC 0 ao hW 1 (i := 0) rfl rfl (by decide) (by decide) rfl dL_rack_11 (fun H locs hW => ?_)
    refine lv_goto (tgt := 27) hx hb dL_rack_12 (by decide) ?_
    refine lv_iconst (v := 0) hx hb dL_rack_27 (by decide) ?_
    refine cy_top (y := cy_cd cy_IB cy_IA (cy_tRk S x y z nc)) (by rw [hth]; rfl) ?_
    rw [show vp_updL g 0 (cy_sm (cy_nRk S x y z (3 * x.toNatClampNeg + 13)) 5).toInt64 = cy_ou (cy_tRk S x y z nc) g (cy_sm (cy_nRk S x y z (3 * x.toNatClampNeg + 13)) 5) from (if_pos hth).symm] at hW
    exact hE _ _ _ _ _ _ (Nat.le_of_ble_eq_true rfl) (Nat.le_of_ble_eq_true rfl) hW dL_rack_28
  · rw [show g = cy_ou (cy_tRk S x y z nc) g (cy_sm (cy_nRk S x y z (3 * x.toNatClampNeg + 13)) 5) from (if_neg (by rw [hth]; exact fun q => nomatch q)).symm] at hW
    rcases hcs with h0 | h0 | h0 | h0
    · rw [hth] at h0; cases h0
    · obtain rfl : E = cy_IB := Option.some.inj (hth.symm.trans h0)
      refine vx_catch hown [] ⟨0, 12, 15, 20⟩ [⟨0, 12, 19, 13⟩, ⟨0, 12, 23, 15⟩] (htab.trans rfl) (fun z hz => (List.not_mem_nil hz).elim) (by decide) (by decide) (hts (.classLink RL 20 cy_IB) (by decide +kernel)) (va_Nw.use rfl (hTh.2.2.2 (.castable cy_IB cy_IB) (by decide +kernel))) hce hcv hcl ?_
      refine lv_astore (lv' := [(5, .ref q), (0, .ref (ad 0)), (1, .int x), (2, .int y), (3, .int z), (4, .ref ao)]) hx hb dL_rack_15 hl (by decide) rfl (fun ls hl => ?_)
      refine lv_iconst (v := 1) hx hb dL_rack_17 (by decide) ?_
      refine cy_top (y := cy_cd cy_IB cy_IA (cy_tRk S x y z nc)) (by rw [hth]; decide) ?_
      exact hE _ _ _ _ _ _ (Nat.le_of_ble_eq_true rfl) (Nat.le_of_ble_eq_true rfl) hW dL_rack_18
    · obtain rfl : E = cy_IA := Option.some.inj (hth.symm.trans h0)
      refine vx_catch hown [⟨0, 12, 15, 20⟩] ⟨0, 12, 19, 13⟩ [⟨0, 12, 23, 15⟩] (htab.trans rfl) (fun z hz => by rw [List.mem_singleton] at hz; subst hz; exact Or.inr ⟨by decide, cy_IB, hts (.classLink RL 20 cy_IB) (by decide +kernel), hNx.1.2⟩) (by decide) (by decide) (hts (.classLink RL 13 cy_IA) (by decide +kernel)) (va_Nw.use rfl (hTh.2.2.2 (.castable cy_IA cy_IA) (by decide +kernel))) hce hcv hcl ?_
      refine lv_astore (lv' := [(5, .ref q), (0, .ref (ad 0)), (1, .int x), (2, .int y), (3, .int z), (4, .ref ao)]) hx hb dL_rack_19 hl (by decide) rfl (fun ls hl => ?_)
      refine lv_iconst (v := 2) hx hb dL_rack_21 (by decide) ?_
      refine cy_top (y := cy_cd cy_IB cy_IA (cy_tRk S x y z nc)) (by rw [hth]; decide) ?_
      exact hE _ _ _ _ _ _ (Nat.le_of_ble_eq_true rfl) (Nat.le_of_ble_eq_true rfl) hW dL_rack_22
    · obtain rfl : E = cy_IS := Option.some.inj (hth.symm.trans h0)
      refine vx_catch hown [⟨0, 12, 15, 20⟩, ⟨0, 12, 19, 13⟩] ⟨0, 12, 23, 15⟩ [] (htab.trans rfl) (fun z hz => by simp only [List.mem_cons, List.not_mem_nil, or_false] at hz; rcases hz with rfl | rfl; exact Or.inr ⟨by decide, cy_IB, hts (.classLink RL 20 cy_IB) (by decide +kernel), hNx.2.1.2⟩; exact Or.inr ⟨by decide, cy_IA, hts (.classLink RL 13 cy_IA) (by decide +kernel), hNx.2.1.1⟩) (by decide) (by decide) (hts (.classLink RL 15 cy_IS) (by decide +kernel)) (va_Nw.use rfl (hTh.2.2.2 (.castable cy_IS cy_IS) (by decide +kernel))) hce hcv hcl ?_
      refine lv_astore (lv' := [(5, .ref q), (0, .ref (ad 0)), (1, .int x), (2, .int y), (3, .int z), (4, .ref ao)]) hx hb dL_rack_23 hl (by decide) rfl (fun ls hl => ?_)
      refine lv_iconst (v := 3) hx hb dL_rack_25 (by decide) ?_
      refine cy_top (y := cy_cd cy_IB cy_IA (cy_tRk S x y z nc)) (by rw [hth]; decide) ?_
      exact hE _ _ _ _ _ _ (Nat.le_of_ble_eq_true rfl) (Nat.le_of_ble_eq_true rfl) hW dL_rack_26
abbrev rm_L_setWarmth : Room := { frames := 7, cells := 1, slots := 6, locals := 112 }
set_option maxHeartbeats 4000000 in
set_option maxRecDepth 100000 in
theorem c_L_setWarmth {l : Launch} {D : va_G} {kI kJ kZ kC : ClassId} {ad : Nat → Nat} {S : Nat → Nat → Int32} {tl : va_W} {Z : Nat → Int64} {x : Int32} {ao : Nat} {g : Nat → Int64} : cy_V l yL_setWarmth wsL_setWarmth rm_L_setWarmth D (cy_tys kI kJ kZ kC) [.ref (ad 0), .int x, .ref ao] (cy_Y kI kJ kC ad S Z ((ao, .inl (kJ, 1, .inr (.inl g))) :: tl)) (some (.int (cy_cd cy_IA cy_IA (cy_tSw x)))) (cy_Y kI kJ kC ad (cy_if (cy_tSw x) (va_up S 0 (upd (S 0) 16 x)) S) Z ((ao, .inl (kJ, 1, .inr (.inl (cy_ou (cy_tSw x) g (S 0 16))))) :: tl)) := by
  refine cy_ofV (cc := cL_setWarmth) (maxL := 4) (hh := [(0, 9, 12, 13)]) (by decide) rfl rfl (Nat.le_of_ble_eq_true rfl) ?_
  intro p e s m args below meth co Q A ls hC hTh hNx htab hE hW hl hl0
  have hx := hC.1.1; have hb := hC.1.2.1; have hml := hC.1.2.2.1; have hown := hC.1.2.2.2.1; have hts := hC.1.2.2.2.2
  have hl : lv_has ls 4 [(0, .ref (ad 0)), (1, .int x), (2, .ref ao)] := hl
  have hcs : cy_tSw x = none ∨ cy_tSw x = some cy_IA := by
    unfold cy_tSw
    repeat' split
    all_goals simp
  refine lv_aload_n hx hb dL_setWarmth_0 rfl (lv_at hl 2 rfl) ?_
  refine lv_iconst (v := 0) hx hb dL_setWarmth_1 (by decide) ?_
  refine lv_aload_n hx hb dL_setWarmth_2 rfl (lv_at hl 0 rfl) ?_
  refine lv_iload_n hx hb dL_setWarmth_3 rfl (lv_at hl 1 rfl) ?_
  refine cy_callVC (rm := rm_X2_setWarmth) hl0 hTh (As := [.int x]) (rest := [.int 0, .ref ao]) (q0 := 0) (ci := 2) hC.1 hC.2.1 hC.2.2 hW (c_X2_setWarmth (x := x) ) (cwV 1 hts gL_setWarmth_X2_setWarmth rfl rfl rfl (by decide +kernel) ⟨Nat.le_of_ble_eq_true rfl, Nat.le_of_ble_eq_true rfl⟩) (cy_w_at (by decide) rfl) rfl rfl hl.1 rfl (Nat.le_of_ble_eq_true rfl) dL_setWarmth_4 ⟨Nat.le_of_ble_eq_true rfl, Nat.le_of_ble_eq_true rfl⟩ (k' := 1) (n' := 6) rfl rfl (fun hth H locs hW => ?_) (fun E ce q H locs hth hW hce hcv hcl => ?_)
  · refine lv_i2l hx hb dL_setWarmth_7 rfl ?_
    refine cy_tlast (tl' := (ao, .inl (kJ, 1, .inr (.inl (vp_updL g 0 (S 0 16).toInt64)))) :: tl) hC 0 ao hW 1 (i := 0) rfl rfl (by decide) (by decide) rfl dL_setWarmth_8 (fun H locs hW => ?_)
    refine lv_goto (tgt := 15) hx hb dL_setWarmth_9 (by decide) ?_
    refine lv_iconst (v := 0) hx hb dL_setWarmth_15 (by decide) ?_
    refine cy_top (y := cy_cd cy_IA cy_IA (cy_tSw x)) (by rw [hth]; rfl) ?_
    rw [show vp_updL g 0 (S 0 16).toInt64 = cy_ou (cy_tSw x) g (S 0 16) from (if_pos hth).symm] at hW
    exact hE _ _ _ _ _ _ (Nat.le_of_ble_eq_true rfl) (Nat.le_of_ble_eq_true rfl) hW dL_setWarmth_16
  · rw [show g = cy_ou (cy_tSw x) g (S 0 16) from (if_neg (by rw [hth]; exact fun q => nomatch q)).symm] at hW
    rcases hcs with h0 | h0
    · rw [hth] at h0; cases h0
    · obtain rfl : E = cy_IA := Option.some.inj (hth.symm.trans h0)
      refine vx_catch hown [] ⟨0, 9, 12, 13⟩ [] (htab.trans rfl) (fun z hz => (List.not_mem_nil hz).elim) (by decide) (by decide) (hts (.classLink RL 13 cy_IA) (by decide +kernel)) (va_Nw.use rfl (hTh.2.2.2 (.castable cy_IA cy_IA) (by decide +kernel))) hce hcv hcl ?_
      refine lv_astore_n (lv' := [(3, .ref q), (0, .ref (ad 0)), (1, .int x), (2, .ref ao)]) hx hb dL_setWarmth_12 rfl hl (by decide) rfl (fun ls hl => ?_)
      refine lv_iconst (v := 1) hx hb dL_setWarmth_13 (by decide) ?_
      refine cy_top (y := cy_cd cy_IA cy_IA (cy_tSw x)) (by rw [hth]; decide) ?_
      exact hE _ _ _ _ _ _ (Nat.le_of_ble_eq_true rfl) (Nat.le_of_ble_eq_true rfl) hW dL_setWarmth_14
abbrev rm_L_pass : Room := { frames := 7, cells := 1, slots := 6, locals := 113 }
set_option maxHeartbeats 4000000 in
set_option maxRecDepth 100000 in
theorem c_L_pass {l : Launch} {D : va_G} {kI kJ kZ kC : ClassId} {ad : Nat → Nat} {S : Nat → Nat → Int32} {tl : va_W} {Z : Nat → Int64} {x : Int32} {ns : Nat} (hns : S 0 3 = nI ns) (h60 : ns ≤ 60) {nc : Nat} (hnc : S 0 9 = nI nc) (h12 : nc ≤ 12) {ao : Nat} {g : Nat → Int64} : cy_V l yL_pass wsL_pass rm_L_pass D (cy_tys kI kJ kZ kC) [.ref (ad 0), .int x, .ref ao] (cy_Y kI kJ kC ad S Z ((ao, .inl (kJ, 1, .inr (.inl g))) :: tl)) (some (.int (cy_cd cy_IA cy_IS (cy_tPa S x)))) (cy_Y kI kJ kC ad (cy_if (cy_tPa S x) (cy_nPa S ns nc x.toNatClampNeg) S) Z ((ao, .inl (kJ, 1, .inr (.inl (cy_ou (cy_tPa S x) g ((cy_pm S ns nc x.toNatClampNeg).2))))) :: tl)) := by
  refine cy_ofV (cc := cL_pass) (maxL := 4) (hh := [(0, 9, 12, 13), (0, 9, 15, 15)]) (by decide) rfl rfl (Nat.le_of_ble_eq_true rfl) ?_
  intro p e s m args below meth co Q A ls hC hTh hNx htab hE hW hl hl0
  have hx := hC.1.1; have hb := hC.1.2.1; have hml := hC.1.2.2.1; have hown := hC.1.2.2.2.1; have hts := hC.1.2.2.2.2
  have hl : lv_has ls 4 [(0, .ref (ad 0)), (1, .int x), (2, .ref ao)] := hl
  have hcs : cy_tPa S x = none ∨ cy_tPa S x = some cy_IA ∨ cy_tPa S x = some cy_IS := by
    unfold cy_tPa
    repeat' split
    all_goals simp
  refine lv_aload_n hx hb dL_pass_0 rfl (lv_at hl 2 rfl) ?_
  refine lv_iconst (v := 0) hx hb dL_pass_1 (by decide) ?_
  refine lv_aload_n hx hb dL_pass_2 rfl (lv_at hl 0 rfl) ?_
  refine lv_iload_n hx hb dL_pass_3 rfl (lv_at hl 1 rfl) ?_
  refine cy_callVC (rm := rm_X2_pass) hl0 hTh (As := [.int x]) (rest := [.int 0, .ref ao]) (q0 := 0) (ci := 2) hC.1 hC.2.1 hC.2.2 hW (c_X2_pass (x := x) (ns := ns) (nc := nc) hns h60 hnc h12) (cwV 1 hts gL_pass_X2_pass rfl rfl rfl (by decide +kernel) ⟨Nat.le_of_ble_eq_true rfl, Nat.le_of_ble_eq_true rfl⟩) (cy_w_at (by decide) rfl) rfl rfl hl.1 rfl (Nat.le_of_ble_eq_true rfl) dL_pass_4 ⟨Nat.le_of_ble_eq_true rfl, Nat.le_of_ble_eq_true rfl⟩ (k' := 1) (n' := 6) rfl rfl (fun hth H locs hW => ?_) (fun E ce q H locs hth hW hce hcv hcl => ?_)
  · refine lv_i2l hx hb dL_pass_7 rfl ?_
    refine cy_tlast (tl' := (ao, .inl (kJ, 1, .inr (.inl (vp_updL g 0 ((cy_pm S ns nc x.toNatClampNeg).2).toInt64)))) :: tl) hC 0 ao hW 1 (i := 0) rfl rfl (by decide) (by decide) rfl dL_pass_8 (fun H locs hW => ?_)
    refine lv_goto (tgt := 18) hx hb dL_pass_9 (by decide) ?_
    refine lv_iconst (v := 0) hx hb dL_pass_18 (by decide) ?_
    refine cy_top (y := cy_cd cy_IA cy_IS (cy_tPa S x)) (by rw [hth]; rfl) ?_
    rw [show vp_updL g 0 ((cy_pm S ns nc x.toNatClampNeg).2).toInt64 = cy_ou (cy_tPa S x) g ((cy_pm S ns nc x.toNatClampNeg).2) from (if_pos hth).symm] at hW
    exact hE _ _ _ _ _ _ (Nat.le_of_ble_eq_true rfl) (Nat.le_of_ble_eq_true rfl) hW dL_pass_19
  · rw [show g = cy_ou (cy_tPa S x) g ((cy_pm S ns nc x.toNatClampNeg).2) from (if_neg (by rw [hth]; exact fun q => nomatch q)).symm] at hW
    rcases hcs with h0 | h0 | h0
    · rw [hth] at h0; cases h0
    · obtain rfl : E = cy_IA := Option.some.inj (hth.symm.trans h0)
      refine vx_catch hown [] ⟨0, 9, 12, 13⟩ [⟨0, 9, 15, 15⟩] (htab.trans rfl) (fun z hz => (List.not_mem_nil hz).elim) (by decide) (by decide) (hts (.classLink RL 13 cy_IA) (by decide +kernel)) (va_Nw.use rfl (hTh.2.2.2 (.castable cy_IA cy_IA) (by decide +kernel))) hce hcv hcl ?_
      refine lv_astore_n (lv' := [(3, .ref q), (0, .ref (ad 0)), (1, .int x), (2, .ref ao)]) hx hb dL_pass_12 rfl hl (by decide) rfl (fun ls hl => ?_)
      refine lv_iconst (v := 1) hx hb dL_pass_13 (by decide) ?_
      refine cy_top (y := cy_cd cy_IA cy_IS (cy_tPa S x)) (by rw [hth]; decide) ?_
      exact hE _ _ _ _ _ _ (Nat.le_of_ble_eq_true rfl) (Nat.le_of_ble_eq_true rfl) hW dL_pass_14
    · obtain rfl : E = cy_IS := Option.some.inj (hth.symm.trans h0)
      refine vx_catch hown [⟨0, 9, 12, 13⟩] ⟨0, 9, 15, 15⟩ [] (htab.trans rfl) (fun z hz => by rw [List.mem_singleton] at hz; subst hz; exact Or.inr ⟨by decide, cy_IA, hts (.classLink RL 13 cy_IA) (by decide +kernel), hNx.2.1.1⟩) (by decide) (by decide) (hts (.classLink RL 15 cy_IS) (by decide +kernel)) (va_Nw.use rfl (hTh.2.2.2 (.castable cy_IS cy_IS) (by decide +kernel))) hce hcv hcl ?_
      refine lv_astore_n (lv' := [(3, .ref q), (0, .ref (ad 0)), (1, .int x), (2, .ref ao)]) hx hb dL_pass_15 rfl hl (by decide) rfl (fun ls hl => ?_)
      refine lv_iconst (v := 2) hx hb dL_pass_16 (by decide) ?_
      refine cy_top (y := cy_cd cy_IA cy_IS (cy_tPa S x)) (by rw [hth]; decide) ?_
      exact hE _ _ _ _ _ _ (Nat.le_of_ble_eq_true rfl) (Nat.le_of_ble_eq_true rfl) hW dL_pass_17
abbrev rm_L_count : Room := { frames := 7, cells := 1, slots := 6, locals := 111 }
set_option maxHeartbeats 4000000 in
set_option maxRecDepth 100000 in
theorem c_L_count {l : Launch} {D : va_G} {kI kJ kZ kC : ClassId} {ad : Nat → Nat} {S : Nat → Nat → Int32} {tl : va_W} {Z : Nat → Int64} {x : Int32} {ns : Nat} (hns : S 0 3 = nI ns) (h60 : ns ≤ 60) {nc : Nat} (hnc : S 0 9 = nI nc) (h12 : nc ≤ 12) {ao : Nat} {g : Nat → Int64} : cy_V l yL_count wsL_count rm_L_count D (cy_tys kI kJ kZ kC) [.ref (ad 0), .int x, .ref ao] (cy_Y kI kJ kC ad S Z ((ao, .inl (kJ, 1, .inr (.inl g))) :: tl)) (some (.int (cy_cd cy_IB cy_IB (cy_tCo x)))) (cy_Y kI kJ kC ad (cy_if (cy_tCo x) S S) Z ((ao, .inl (kJ, 1, .inr (.inl (cy_ou (cy_tCo x) g (cy_cnt S ns nc x.toNatClampNeg))))) :: tl)) := by
  refine cy_ofV (cc := cL_count) (maxL := 4) (hh := [(0, 9, 12, 20)]) (by decide) rfl rfl (Nat.le_of_ble_eq_true rfl) ?_
  intro p e s m args below meth co Q A ls hC hTh hNx htab hE hW hl hl0
  have hx := hC.1.1; have hb := hC.1.2.1; have hml := hC.1.2.2.1; have hown := hC.1.2.2.2.1; have hts := hC.1.2.2.2.2
  have hl : lv_has ls 4 [(0, .ref (ad 0)), (1, .int x), (2, .ref ao)] := hl
  have hcs : cy_tCo x = none ∨ cy_tCo x = some cy_IB := by
    unfold cy_tCo
    repeat' split
    all_goals simp
  refine lv_aload_n hx hb dL_count_0 rfl (lv_at hl 2 rfl) ?_
  refine lv_iconst (v := 0) hx hb dL_count_1 (by decide) ?_
  refine lv_aload_n hx hb dL_count_2 rfl (lv_at hl 0 rfl) ?_
  refine lv_iload_n hx hb dL_count_3 rfl (lv_at hl 1 rfl) ?_
  refine cy_callVC (rm := rm_X2_count) hl0 hTh (As := [.int x]) (rest := [.int 0, .ref ao]) (q0 := 0) (ci := 2) hC.1 hC.2.1 hC.2.2 hW (c_X2_count (x := x) (ns := ns) (nc := nc) hns h60 hnc h12) (cwV 1 hts gL_count_X2_count rfl rfl rfl (by decide +kernel) ⟨Nat.le_of_ble_eq_true rfl, Nat.le_of_ble_eq_true rfl⟩) (cy_w_at (by decide) rfl) rfl rfl hl.1 rfl (Nat.le_of_ble_eq_true rfl) dL_count_4 ⟨Nat.le_of_ble_eq_true rfl, Nat.le_of_ble_eq_true rfl⟩ (k' := 1) (n' := 6) rfl rfl (fun hth H locs hW => ?_) (fun E ce q H locs hth hW hce hcv hcl => ?_)
  · refine lv_i2l hx hb dL_count_7 rfl ?_
    refine cy_tlast (tl' := (ao, .inl (kJ, 1, .inr (.inl (vp_updL g 0 (cy_cnt S ns nc x.toNatClampNeg).toInt64)))) :: tl) hC 0 ao hW 1 (i := 0) rfl rfl (by decide) (by decide) rfl dL_count_8 (fun H locs hW => ?_)
    refine lv_goto (tgt := 15) hx hb dL_count_9 (by decide) ?_
    refine lv_iconst (v := 0) hx hb dL_count_15 (by decide) ?_
    refine cy_top (y := cy_cd cy_IB cy_IB (cy_tCo x)) (by rw [hth]; rfl) ?_
    rw [show vp_updL g 0 (cy_cnt S ns nc x.toNatClampNeg).toInt64 = cy_ou (cy_tCo x) g (cy_cnt S ns nc x.toNatClampNeg) from (if_pos hth).symm] at hW
    exact hE _ _ _ _ _ _ (Nat.le_of_ble_eq_true rfl) (Nat.le_of_ble_eq_true rfl) hW dL_count_16
  · rw [show g = cy_ou (cy_tCo x) g (cy_cnt S ns nc x.toNatClampNeg) from (if_neg (by rw [hth]; exact fun q => nomatch q)).symm] at hW
    rcases hcs with h0 | h0
    · rw [hth] at h0; cases h0
    · obtain rfl : E = cy_IB := Option.some.inj (hth.symm.trans h0)
      refine vx_catch hown [] ⟨0, 9, 12, 20⟩ [] (htab.trans rfl) (fun z hz => (List.not_mem_nil hz).elim) (by decide) (by decide) (hts (.classLink RL 20 cy_IB) (by decide +kernel)) (va_Nw.use rfl (hTh.2.2.2 (.castable cy_IB cy_IB) (by decide +kernel))) hce hcv hcl ?_
      refine lv_astore_n (lv' := [(3, .ref q), (0, .ref (ad 0)), (1, .int x), (2, .ref ao)]) hx hb dL_count_12 rfl hl (by decide) rfl (fun ls hl => ?_)
      refine lv_iconst (v := 1) hx hb dL_count_13 (by decide) ?_
      refine cy_top (y := cy_cd cy_IB cy_IB (cy_tCo x)) (by rw [hth]; decide) ?_
      exact hE _ _ _ _ _ _ (Nat.le_of_ble_eq_true rfl) (Nat.le_of_ble_eq_true rfl) hW dL_count_14
abbrev rm_L_foresee : Room := { frames := 7, cells := 1, slots := 6, locals := 114 }
set_option maxHeartbeats 4000000 in
set_option maxRecDepth 100000 in
theorem c_L_foresee {l : Launch} {D : va_G} {kI kJ kZ kC : ClassId} {ad : Nat → Nat} {S : Nat → Nat → Int32} {tl : va_W} {Z : Nat → Int64} {x y z : Int32} {nc : Nat} (hnc : S 0 9 = nI nc) (h12 : nc ≤ 12) (hb2 : ∀ c, c < nc → S (3 * c + 11) 2 = 0 ∨ S (3 * c + 11) 2 = 1) {ao : Nat} {g : Nat → Int64} : cy_V l yL_foresee wsL_foresee rm_L_foresee D (cy_tys kI kJ kZ kC) [.ref (ad 0), .int x, .int y, .int z, .ref ao] (cy_Y kI kJ kC ad S Z ((ao, .inl (kJ, 1, .inr (.inl g))) :: tl)) (some (.int (cy_cd cy_IB cy_IA (cy_tFo S x y z nc)))) (cy_Y kI kJ kC ad (cy_if (cy_tFo S x y z nc) (cy_fe S x.toNatClampNeg y.toNatClampNeg) S) Z ((ao, .inl (kJ, 1, .inr (.inl (cy_ou (cy_tFo S x y z nc) g (cy_rFo S x.toNatClampNeg y.toNatClampNeg z.toNatClampNeg))))) :: tl)) := by
  refine cy_ofV (cc := cL_foresee) (maxL := 6) (hh := [(0, 12, 15, 20), (0, 12, 19, 13), (0, 12, 23, 15)]) (by decide) rfl rfl (Nat.le_of_ble_eq_true rfl) ?_
  intro p e s m args below meth co Q A ls hC hTh hNx htab hE hW hl hl0
  have hx := hC.1.1; have hb := hC.1.2.1; have hml := hC.1.2.2.1; have hown := hC.1.2.2.2.1; have hts := hC.1.2.2.2.2
  have hl : lv_has ls 6 [(0, .ref (ad 0)), (1, .int x), (2, .int y), (3, .int z), (4, .ref ao)] := hl
  have hcs : cy_tFo S x y z nc = none ∨ cy_tFo S x y z nc = some cy_IB ∨ cy_tFo S x y z nc = some cy_IA ∨ cy_tFo S x y z nc = some cy_IS := by
    unfold cy_tFo
    repeat' split
    all_goals simp
  refine lv_aload hx hb dL_foresee_0 (lv_at hl 4 rfl) ?_
  refine lv_iconst (v := 0) hx hb dL_foresee_2 (by decide) ?_
  refine lv_aload_n hx hb dL_foresee_3 rfl (lv_at hl 0 rfl) ?_
  refine lv_iload_n hx hb dL_foresee_4 rfl (lv_at hl 1 rfl) ?_
  refine lv_iload_n hx hb dL_foresee_5 rfl (lv_at hl 2 rfl) ?_
  refine lv_iload_n hx hb dL_foresee_6 rfl (lv_at hl 3 rfl) ?_
  refine cy_callVC (rm := rm_X2_foresee) hl0 hTh (As := [.int x, .int y, .int z]) (rest := [.int 0, .ref ao]) (q0 := 0) (ci := 2) hC.1 hC.2.1 hC.2.2 hW (c_X2_foresee (x := x) (y := y) (z := z) (nc := nc) hnc h12 hb2) (cwV 3 hts gL_foresee_X2_foresee rfl rfl rfl (by decide +kernel) ⟨Nat.le_of_ble_eq_true rfl, Nat.le_of_ble_eq_true rfl⟩) (cy_w_at (by decide) rfl) rfl rfl hl.1 rfl (Nat.le_of_ble_eq_true rfl) dL_foresee_7 ⟨Nat.le_of_ble_eq_true rfl, Nat.le_of_ble_eq_true rfl⟩ (k' := 1) (n' := 6) rfl rfl (fun hth H locs hW => ?_) (fun E ce q H locs hth hW hce hcv hcl => ?_)
  · refine lv_i2l hx hb dL_foresee_10 rfl ?_
    refine cy_tlast (tl' := (ao, .inl (kJ, 1, .inr (.inl (vp_updL g 0 (cy_rFo S x.toNatClampNeg y.toNatClampNeg z.toNatClampNeg).toInt64)))) :: tl) hC 0 ao hW 1 (i := 0) rfl rfl (by decide) (by decide) rfl dL_foresee_11 (fun H locs hW => ?_)
    refine lv_goto (tgt := 27) hx hb dL_foresee_12 (by decide) ?_
    refine lv_iconst (v := 0) hx hb dL_foresee_27 (by decide) ?_
    refine cy_top (y := cy_cd cy_IB cy_IA (cy_tFo S x y z nc)) (by rw [hth]; rfl) ?_
    rw [show vp_updL g 0 (cy_rFo S x.toNatClampNeg y.toNatClampNeg z.toNatClampNeg).toInt64 = cy_ou (cy_tFo S x y z nc) g (cy_rFo S x.toNatClampNeg y.toNatClampNeg z.toNatClampNeg) from (if_pos hth).symm] at hW
    exact hE _ _ _ _ _ _ (Nat.le_of_ble_eq_true rfl) (Nat.le_of_ble_eq_true rfl) hW dL_foresee_28
  · rw [show g = cy_ou (cy_tFo S x y z nc) g (cy_rFo S x.toNatClampNeg y.toNatClampNeg z.toNatClampNeg) from (if_neg (by rw [hth]; exact fun q => nomatch q)).symm] at hW
    rcases hcs with h0 | h0 | h0 | h0
    · rw [hth] at h0; cases h0
    · obtain rfl : E = cy_IB := Option.some.inj (hth.symm.trans h0)
      refine vx_catch hown [] ⟨0, 12, 15, 20⟩ [⟨0, 12, 19, 13⟩, ⟨0, 12, 23, 15⟩] (htab.trans rfl) (fun z hz => (List.not_mem_nil hz).elim) (by decide) (by decide) (hts (.classLink RL 20 cy_IB) (by decide +kernel)) (va_Nw.use rfl (hTh.2.2.2 (.castable cy_IB cy_IB) (by decide +kernel))) hce hcv hcl ?_
      refine lv_astore (lv' := [(5, .ref q), (0, .ref (ad 0)), (1, .int x), (2, .int y), (3, .int z), (4, .ref ao)]) hx hb dL_foresee_15 hl (by decide) rfl (fun ls hl => ?_)
      refine lv_iconst (v := 1) hx hb dL_foresee_17 (by decide) ?_
      refine cy_top (y := cy_cd cy_IB cy_IA (cy_tFo S x y z nc)) (by rw [hth]; decide) ?_
      exact hE _ _ _ _ _ _ (Nat.le_of_ble_eq_true rfl) (Nat.le_of_ble_eq_true rfl) hW dL_foresee_18
    · obtain rfl : E = cy_IA := Option.some.inj (hth.symm.trans h0)
      refine vx_catch hown [⟨0, 12, 15, 20⟩] ⟨0, 12, 19, 13⟩ [⟨0, 12, 23, 15⟩] (htab.trans rfl) (fun z hz => by rw [List.mem_singleton] at hz; subst hz; exact Or.inr ⟨by decide, cy_IB, hts (.classLink RL 20 cy_IB) (by decide +kernel), hNx.1.2⟩) (by decide) (by decide) (hts (.classLink RL 13 cy_IA) (by decide +kernel)) (va_Nw.use rfl (hTh.2.2.2 (.castable cy_IA cy_IA) (by decide +kernel))) hce hcv hcl ?_
      refine lv_astore (lv' := [(5, .ref q), (0, .ref (ad 0)), (1, .int x), (2, .int y), (3, .int z), (4, .ref ao)]) hx hb dL_foresee_19 hl (by decide) rfl (fun ls hl => ?_)
      refine lv_iconst (v := 2) hx hb dL_foresee_21 (by decide) ?_
      refine cy_top (y := cy_cd cy_IB cy_IA (cy_tFo S x y z nc)) (by rw [hth]; decide) ?_
      exact hE _ _ _ _ _ _ (Nat.le_of_ble_eq_true rfl) (Nat.le_of_ble_eq_true rfl) hW dL_foresee_22
    · obtain rfl : E = cy_IS := Option.some.inj (hth.symm.trans h0)
      refine vx_catch hown [⟨0, 12, 15, 20⟩, ⟨0, 12, 19, 13⟩] ⟨0, 12, 23, 15⟩ [] (htab.trans rfl) (fun z hz => by simp only [List.mem_cons, List.not_mem_nil, or_false] at hz; rcases hz with rfl | rfl; exact Or.inr ⟨by decide, cy_IB, hts (.classLink RL 20 cy_IB) (by decide +kernel), hNx.2.1.2⟩; exact Or.inr ⟨by decide, cy_IA, hts (.classLink RL 13 cy_IA) (by decide +kernel), hNx.2.1.1⟩) (by decide) (by decide) (hts (.classLink RL 15 cy_IS) (by decide +kernel)) (va_Nw.use rfl (hTh.2.2.2 (.castable cy_IS cy_IS) (by decide +kernel))) hce hcv hcl ?_
      refine lv_astore (lv' := [(5, .ref q), (0, .ref (ad 0)), (1, .int x), (2, .int y), (3, .int z), (4, .ref ao)]) hx hb dL_foresee_23 hl (by decide) rfl (fun ls hl => ?_)
      refine lv_iconst (v := 3) hx hb dL_foresee_25 (by decide) ?_
      refine cy_top (y := cy_cd cy_IB cy_IA (cy_tFo S x y z nc)) (by rw [hth]; decide) ?_
      exact hE _ _ _ _ _ _ (Nat.le_of_ble_eq_true rfl) (Nat.le_of_ble_eq_true rfl) hW dL_foresee_26
abbrev rm_L_blend : Room := { frames := 7, cells := 1, slots := 6, locals := 115 }
set_option maxHeartbeats 4000000 in
set_option maxRecDepth 100000 in
theorem c_L_blend {l : Launch} {D : va_G} {kI kJ kZ kC : ClassId} {ad : Nat → Nat} {S : Nat → Nat → Int32} {tl : va_W} {Z : Nat → Int64} {x y : Int32} {nc : Nat} (hnc : S 0 9 = nI nc) (h12 : nc ≤ 12) {ao : Nat} {g : Nat → Int64} : cy_V l yL_blend wsL_blend rm_L_blend D (cy_tys kI kJ kZ kC) [.ref (ad 0), .int x, .int y, .ref ao] (cy_Y kI kJ kC ad S Z ((ao, .inl (kJ, 1, .inr (.inl g))) :: tl)) (some (.int (cy_cd cy_IA cy_IB (cy_tBl x y)))) (cy_Y kI kJ kC ad (cy_if (cy_tBl x y) (cy_fo S nc x nc) S) Z ((ao, .inl (kJ, 1, .inr (.inl (cy_ou (cy_tBl x y) g (cy_fo S nc x nc 10 y.toNatClampNeg))))) :: tl)) := by
  refine cy_ofV (cc := cL_blend) (maxL := 5) (hh := [(0, 10, 13, 13), (0, 10, 17, 20)]) (by decide) rfl rfl (Nat.le_of_ble_eq_true rfl) ?_
  intro p e s m args below meth co Q A ls hC hTh hNx htab hE hW hl hl0
  have hx := hC.1.1; have hb := hC.1.2.1; have hml := hC.1.2.2.1; have hown := hC.1.2.2.2.1; have hts := hC.1.2.2.2.2
  have hl : lv_has ls 5 [(0, .ref (ad 0)), (1, .int x), (2, .int y), (3, .ref ao)] := hl
  have hcs : cy_tBl x y = none ∨ cy_tBl x y = some cy_IA ∨ cy_tBl x y = some cy_IB := by
    unfold cy_tBl
    repeat' split
    all_goals simp
  refine lv_aload_n hx hb dL_blend_0 rfl (lv_at hl 3 rfl) ?_
  refine lv_iconst (v := 0) hx hb dL_blend_1 (by decide) ?_
  refine lv_aload_n hx hb dL_blend_2 rfl (lv_at hl 0 rfl) ?_
  refine lv_iload_n hx hb dL_blend_3 rfl (lv_at hl 1 rfl) ?_
  refine lv_iload_n hx hb dL_blend_4 rfl (lv_at hl 2 rfl) ?_
  refine cy_callVC (rm := rm_X2_blend) hl0 hTh (As := [.int x, .int y]) (rest := [.int 0, .ref ao]) (q0 := 0) (ci := 2) hC.1 hC.2.1 hC.2.2 hW (c_X2_blend (x := x) (y := y) (nc := nc) hnc h12) (cwV 2 hts gL_blend_X2_blend rfl rfl rfl (by decide +kernel) ⟨Nat.le_of_ble_eq_true rfl, Nat.le_of_ble_eq_true rfl⟩) (cy_w_at (by decide) rfl) rfl rfl hl.1 rfl (Nat.le_of_ble_eq_true rfl) dL_blend_5 ⟨Nat.le_of_ble_eq_true rfl, Nat.le_of_ble_eq_true rfl⟩ (k' := 1) (n' := 6) rfl rfl (fun hth H locs hW => ?_) (fun E ce q H locs hth hW hce hcv hcl => ?_)
  · refine lv_i2l hx hb dL_blend_8 rfl ?_
    refine cy_tlast (tl' := (ao, .inl (kJ, 1, .inr (.inl (vp_updL g 0 (cy_fo S nc x nc 10 y.toNatClampNeg).toInt64)))) :: tl) hC 0 ao hW 1 (i := 0) rfl rfl (by decide) (by decide) rfl dL_blend_9 (fun H locs hW => ?_)
    refine lv_goto (tgt := 21) hx hb dL_blend_10 (by decide) ?_
    refine lv_iconst (v := 0) hx hb dL_blend_21 (by decide) ?_
    refine cy_top (y := cy_cd cy_IA cy_IB (cy_tBl x y)) (by rw [hth]; rfl) ?_
    rw [show vp_updL g 0 (cy_fo S nc x nc 10 y.toNatClampNeg).toInt64 = cy_ou (cy_tBl x y) g (cy_fo S nc x nc 10 y.toNatClampNeg) from (if_pos hth).symm] at hW
    exact hE _ _ _ _ _ _ (Nat.le_of_ble_eq_true rfl) (Nat.le_of_ble_eq_true rfl) hW dL_blend_22
  · rw [show g = cy_ou (cy_tBl x y) g (cy_fo S nc x nc 10 y.toNatClampNeg) from (if_neg (by rw [hth]; exact fun q => nomatch q)).symm] at hW
    rcases hcs with h0 | h0 | h0
    · rw [hth] at h0; cases h0
    · obtain rfl : E = cy_IA := Option.some.inj (hth.symm.trans h0)
      refine vx_catch hown [] ⟨0, 10, 13, 13⟩ [⟨0, 10, 17, 20⟩] (htab.trans rfl) (fun z hz => (List.not_mem_nil hz).elim) (by decide) (by decide) (hts (.classLink RL 13 cy_IA) (by decide +kernel)) (va_Nw.use rfl (hTh.2.2.2 (.castable cy_IA cy_IA) (by decide +kernel))) hce hcv hcl ?_
      refine lv_astore (lv' := [(4, .ref q), (0, .ref (ad 0)), (1, .int x), (2, .int y), (3, .ref ao)]) hx hb dL_blend_13 hl (by decide) rfl (fun ls hl => ?_)
      refine lv_iconst (v := 1) hx hb dL_blend_15 (by decide) ?_
      refine cy_top (y := cy_cd cy_IA cy_IB (cy_tBl x y)) (by rw [hth]; decide) ?_
      exact hE _ _ _ _ _ _ (Nat.le_of_ble_eq_true rfl) (Nat.le_of_ble_eq_true rfl) hW dL_blend_16
    · obtain rfl : E = cy_IB := Option.some.inj (hth.symm.trans h0)
      refine vx_catch hown [⟨0, 10, 13, 13⟩] ⟨0, 10, 17, 20⟩ [] (htab.trans rfl) (fun z hz => by rw [List.mem_singleton] at hz; subst hz; exact Or.inr ⟨by decide, cy_IA, hts (.classLink RL 13 cy_IA) (by decide +kernel), hNx.2.2.1⟩) (by decide) (by decide) (hts (.classLink RL 20 cy_IB) (by decide +kernel)) (va_Nw.use rfl (hTh.2.2.2 (.castable cy_IB cy_IB) (by decide +kernel))) hce hcv hcl ?_
      refine lv_astore (lv' := [(4, .ref q), (0, .ref (ad 0)), (1, .int x), (2, .int y), (3, .ref ao)]) hx hb dL_blend_17 hl (by decide) rfl (fun ls hl => ?_)
      refine lv_iconst (v := 2) hx hb dL_blend_19 (by decide) ?_
      refine cy_top (y := cy_cd cy_IA cy_IB (cy_tBl x y)) (by rw [hth]; decide) ?_
      exact hE _ _ _ _ _ _ (Nat.le_of_ble_eq_true rfl) (Nat.le_of_ble_eq_true rfl) hW dL_blend_20
