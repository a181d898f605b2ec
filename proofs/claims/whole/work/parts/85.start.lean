/-! THE LAW, from its entry -/
theorem lw_r1_in : ∀ w ∈ wsL_law0_r1, w ∈ wsL_law := fun _ h => List.mem_append_left _ (List.mem_append_left _ (List.mem_append_left _ (List.mem_append_left _ (List.mem_append_left _ (List.mem_append_left _ (List.mem_append_left _ (List.mem_append_left _ (List.mem_append_left _ h))))))))
theorem lw_r2_in : ∀ w ∈ wsL_law0_r2, w ∈ wsL_law := fun _ h => List.mem_append_left _ (List.mem_append_left _ (List.mem_append_left _ (List.mem_append_left _ (List.mem_append_left _ (List.mem_append_left _ (List.mem_append_left _ (List.mem_append_left _ (List.mem_append_right _ (List.mem_append_left _ h)))))))))
set_option maxHeartbeats 4000000 in
set_option maxRecDepth 100000 in
theorem whole_start {p : Program} {e : Env} {s : State} {m : MethodId} {below : List Frame} {meth : Method} {c : Code} (l : Launch) (hflags : l.flags = flags0) {b L : Nat} {xs : Nat → Int32} (hL : L ≤ 2048) (C0 : lw_At p s m meth c b L xs) : W p l e room_1 s m #[Value.ref b] below meth c s.heap [] 0 0 (lw_Z below #[Value.ref b] s) (entryFrame m ([Value.ref b] : List Value).toArray 9) := by
  obtain ⟨hx, hb, hr, hml, hown, hts0, hX, hbl, hlocks, hgv⟩ := id C0
  have hts : ∀ w ∈ wsL_law, w.before #[Value.ref b] s = true := fun w h => hts0 w (wsL_law_in w h)
  have hr1 : ∀ w ∈ wsL_law0_r1, w.before #[Value.ref b] s = true := fun w h => hts w (lw_r1_in w h)
  have hr2 : ∀ w ∈ wsL_law0_r2, w.before #[Value.ref b] s = true := fun w h => hts w (lw_r2_in w h)
  obtain ⟨D, kI, kJ, kZ, kC, hK⟩ := lw_known hts0
  have hKn := lw_KnF hts0
  have hTh := lw_ThF hts0 hgv
  have hNx := lw_NxF hgv
  have hl0 := lw_fl hflags
  have hC : cy_C p s m #[Value.ref b] c cL_law 9 wsL_law RL D (cy_tys kI kJ kZ kC) (lw_A s) := ⟨⟨hx, hb, hml, hown, hts⟩, hK, fun q h => h⟩
  have I : lw_In p l e s m c b L xs D kI kJ kZ kC := ⟨hC, hTh, hNx, hX, hbl, hl0⟩
  have hl := lv_entry ([.ref b]) (n := 9) (Nat.le_of_ble_eq_true rfl)
  rw [lg_entry_eq]
  generalize (lg_sl ([.ref b]) ++ List.replicate (9 - (lg_sl ([.ref b])).length) Slot.unset).toArray = ls at hl ⊢
  have hl : lv_has ls 9 [(0, .ref b)] := hl
  have hW : cy_W D (lw_A s) s.heap [] s.heap [] := ⟨fun k q h => by simp at h, ⟨fun i j p q h => by simp at h, fun k q h => by simp at h⟩, va_S.rf⟩
  refine cy_rNewO (ci := 2) (fs := [.null, .null, .null, .int 0, .null, .null, .null, .int 0, .null, .int 0, .null, .null, .null, .null, .int 0, .int 0, .int 0]) hC hW inlX2 tyX2 tyX2_ok (hr1 (.classLink RL 8 RX2) (by decide +kernel)) (hr1 (.instantiable RX2 17) (by decide +kernel)) (hr1 (.initialized RX2) (by decide +kernel)) rfl (fun j hj => by rcases (show j = 0 ∨ j = 1 ∨ j = 2 ∨ j = 3 ∨ j = 4 ∨ j = 5 ∨ j = 6 ∨ j = 7 ∨ j = 8 ∨ j = 9 ∨ j = 10 ∨ j = 11 ∨ j = 12 ∨ j = 13 ∨ j = 14 ∨ j = 15 ∨ j = 16 by omega) with rfl | rfl | rfl | rfl | rfl | rfl | rfl | rfl | rfl | rfl | rfl | rfl | rfl | rfl | rfl | rfl | rfl <;> rfl) (Nat.le_of_ble_eq_true rfl) (Nat.le_of_ble_eq_true rfl) (k' := 1) (n' := 17) rfl rfl dL_law_0 (fun q0 H hW => ?_)
  refine lv_dup hx hb dL_law_3 rfl ?_
  refine cy_callI hKn (rm := rm_X2_init) (As := []) (rest := [.ref q0]) hC.1 hC.2.1 hC.2.2 hW c_X2_init (cwI 0 hts gL_law_X2_init rfl rfl rfl (hr1 (.initialized RX2) (by decide +kernel)) (hr1 (.methodLink RL 66 yX2_init) (by decide +kernel)) (hr1 (.instanceMethod yX2_init) (by decide +kernel)) rfl (by decide +kernel) ⟨Nat.le_of_ble_eq_true rfl, Nat.le_of_ble_eq_true rfl⟩) rfl hl.1 rfl (Nat.le_of_ble_eq_true rfl) dL_law_4 ⟨Nat.le_of_ble_eq_true rfl, Nat.le_of_ble_eq_true rfl⟩ (k' := 50) (n' := 3554) rfl rfl (fun x H locs hW => ?_)
  refine lv_astore_n (lv' := [(1, .ref q0), (0, .ref b)]) hx hb dL_law_7 rfl hl (by decide) rfl (fun ls hl => ?_)
  refine cy_rNewO (ci := 3) (fs := [.int 0, .int 0, .int 0, .int 0, .int 0, .null, .null, .null, .int 0, .null, .null, .null, .int 0, .null, .null, .null, .null, .null, .null, .null, .null, .null, .null, .int 0, .null]) hC hW inlX3 tyX3 tyX3_ok (hr1 (.classLink RL 67 RX3) (by decide +kernel)) (hr1 (.instantiable RX3 25) (by decide +kernel)) (hr1 (.initialized RX3) (by decide +kernel)) rfl (fun j hj => by rcases (show j = 0 ∨ j = 1 ∨ j = 2 ∨ j = 3 ∨ j = 4 ∨ j = 5 ∨ j = 6 ∨ j = 7 ∨ j = 8 ∨ j = 9 ∨ j = 10 ∨ j = 11 ∨ j = 12 ∨ j = 13 ∨ j = 14 ∨ j = 15 ∨ j = 16 ∨ j = 17 ∨ j = 18 ∨ j = 19 ∨ j = 20 ∨ j = 21 ∨ j = 22 ∨ j = 23 ∨ j = 24 by omega) with rfl | rfl | rfl | rfl | rfl | rfl | rfl | rfl | rfl | rfl | rfl | rfl | rfl | rfl | rfl | rfl | rfl | rfl | rfl | rfl | rfl | rfl | rfl | rfl | rfl <;> rfl) (Nat.le_of_ble_eq_true rfl) (Nat.le_of_ble_eq_true rfl) (k' := 51) (n' := 3579) rfl rfl dL_law_8 (fun q1 H hW => ?_)
  refine lv_dup hx hb dL_law_11 rfl ?_
  refine cy_callI hKn (rm := rm_X3_init) (As := []) (rest := [.ref q1]) hC.1 hC.2.1 hC.2.2 hW c_X3_init (cwI 0 hts gL_law_X3_init rfl rfl rfl (hr1 (.initialized RX3) (by decide +kernel)) (hr2 (.methodLink RL 69 yX3_init) (by decide +kernel)) (hr2 (.instanceMethod yX3_init) (by decide +kernel)) rfl (by decide +kernel) ⟨Nat.le_of_ble_eq_true rfl, Nat.le_of_ble_eq_true rfl⟩) rfl hl.1 rfl (Nat.le_of_ble_eq_true rfl) dL_law_12 ⟨Nat.le_of_ble_eq_true rfl, Nat.le_of_ble_eq_true rfl⟩ (k' := 68) (n' := 95882) rfl rfl (fun y H locs hW => ?_)
  refine lv_astore_n (lv' := [(2, .ref q1), (1, .ref q0), (0, .ref b)]) hx hb dL_law_15 rfl hl (by decide) rfl (fun ls hl => ?_)
  refine lv_iconst (v := 1) hx hb dL_law_16 (by decide) ?_
  refine cy_rNewL hC hW rfl (hr1 (.arrayClass .long) (by decide +kernel)) (N := 1) (by decide) (Nat.le_of_ble_eq_true rfl) (Nat.le_of_ble_eq_true rfl) (k' := 69) (n' := 95883) rfl rfl dL_law_17 (fun ao H hW => ?_)
  refine lv_astore_n (lv' := [(3, .ref ao), (2, .ref q1), (1, .ref q0), (0, .ref b)]) hx hb dL_law_19 rfl hl (by decide) rfl (fun ls hl => ?_)
  refine lv_iconst (v := nI (4 * 0)) hx hb dL_law_20 (by decide) ?_
  refine lv_istore (lv' := [(4, .int (nI (4 * 0))), (3, .ref ao), (2, .ref q1), (1, .ref q0), (0, .ref b)]) hx hb dL_law_21 hl (by decide) rfl (fun ls hl => ?_)
  have hW : cy_W D (lw_A s) s.heap (cy_Y kI kJ kC (cy_a0 q0 x) cy_S0 (fun _ => 0) ((ao, .inl (kJ, 1, .inr (.inl (fun _ => 0)))) :: cy_Mw kI kZ (cy_a0 q1 y) cq_S0 [])) H locs := by
    refine cy_perm ?_ hW
    unfold cy_Y cy_Mw cy_w
    exact (List.Perm.cons _ (List.perm_append_comm_assoc _ _ _)).trans List.perm_middle.symm
  refine W.widen (k := 70 + 300 * 0) (n := 96000 + 2000 * 0) (by omega) (by omega) ?_
  exact lw_loop (ad := cy_a0 q0 x) (ad2 := cy_a0 q1 y) I hr hlocks hL 513 0 (by omega) (by omega) cy_S0 cq_S0 _ _ H locs R_I.start hW ls (lv_sub hl [4, 3, 2, 1, 0] rfl)
