theorem r_addSort {S M : Nat → Nat → Int32} {x y z : Int32} {no : Nat} (h6n : no ≤ 6) : cy_cd cy_IA cy_IS (cy_tAo x y z no) = (cq_Ao M x y z no).1 0 0 ∧ (cy_tAo x y z no = none → nI no = (cq_Ao M x y z no).2) ∧ ((cy_tAo x y z no = none ∧ (300 ≤ x ∧ x ≤ 1500) ∧ (100 ≤ y ∧ y ≤ 60000) ∧ (2 ≤ z ∧ z ≤ 8) ∧ no < 6 ∧ (cq_Ao M x y z no).1 = va_up (va_up (va_up (va_up M 4 (upd (M 4) no x)) 5 (upd (M 5) no y)) 6 (upd (M 6) no z)) 0 (upd (upd (M 0) 0 0) 8 (nI (no + 1)))) ∨ (cy_tAo x y z no ≠ none ∧ ∃ k, (cq_Ao M x y z no).1 = cq_th M k)) := by
  by_cases h1 : 300 ≤ x
  · skip
    by_cases h2 : x ≤ 1500
    · skip
      by_cases h3 : 100 ≤ y
      · skip
        by_cases h4 : y ≤ 60000
        · skip
          by_cases h5 : 2 ≤ z
          · skip
            by_cases h6 : z ≤ 8
            · skip
              by_cases h7 : no < 6
              · skip
                have e : cy_tAo x y z no = none := by
                  unfold cy_tAo
                  rw [if_neg (Int32.not_lt.mpr h1), if_pos h2, if_neg (Int32.not_lt.mpr h3), if_pos h4, if_neg (Int32.not_lt.mpr h5), if_pos h6, if_pos (show nI no < (6 : Int32) from nI_lt (b := 6) h7 (by decide))]
                have f : cq_Ao M x y z no = (va_up (va_up (va_up (va_up M 4 (upd (M 4) no x)) 5 (upd (M 5) no y)) 6 (upd (M 6) no z)) 0 (upd (upd (M 0) 0 0) 8 (nI (no + 1))), nI (no + 1) - 1) := by
                  unfold cq_Ao
                  rw [cq_in_1 h1 h2, cq_in_1 h3 h4, cq_in_1 h5 h6, if_neg (by decide), if_neg (by decide), if_neg (by decide), if_pos (show ¬ nI no = (6 : Int32) from fun q => absurd (cy_eq (b := 6) (by omega) (by decide) q) (by omega))]
                rw [e, f]
                exact ⟨rfl, fun _ => (nI_pred no).symm, Or.inl ⟨rfl, ⟨h1, h2⟩, ⟨h3, h4⟩, ⟨h5, h6⟩, h7, rfl⟩⟩
              · skip
                have e : cy_tAo x y z no = some cy_IS := by
                  unfold cy_tAo
                  rw [if_neg (Int32.not_lt.mpr h1), if_pos h2, if_neg (Int32.not_lt.mpr h3), if_pos h4, if_neg (Int32.not_lt.mpr h5), if_pos h6, if_neg (show ¬ nI no < (6 : Int32) from fun q => h7 (cy_lt (b := 6) (by omega) (by decide) q))]
                have f : cq_Ao M x y z no = (cq_th M 2, 0) := by
                  unfold cq_Ao
                  rw [cq_in_1 h1 h2, cq_in_1 h3 h4, cq_in_1 h5 h6, if_neg (by decide), if_neg (by decide), if_neg (by decide), if_neg (show ¬ ¬ nI no = (6 : Int32) from fun q => q (show nI no = nI 6 from congrArg nI (by omega)))]
                rw [e, f]
                exact ⟨rfl, (fun q => nomatch q), Or.inr ⟨(fun q => nomatch q), 2, rfl⟩⟩
            · skip
              have e : cy_tAo x y z no = some cy_IA := by
                unfold cy_tAo
                rw [if_neg (Int32.not_lt.mpr h1), if_pos h2, if_neg (Int32.not_lt.mpr h3), if_pos h4, if_neg (Int32.not_lt.mpr h5), if_neg h6]
              have f : cq_Ao M x y z no = (cq_th M 1, 0) := by
                unfold cq_Ao
                rw [cq_in_1 h1 h2, cq_in_1 h3 h4, cq_in_0 (Or.inr h6), if_neg (by decide), if_neg (by decide), if_pos rfl]
              rw [e, f]
              exact ⟨rfl, (fun q => nomatch q), Or.inr ⟨(fun q => nomatch q), 1, rfl⟩⟩
          · skip
            have e : cy_tAo x y z no = some cy_IA := by
              unfold cy_tAo
              rw [if_neg (Int32.not_lt.mpr h1), if_pos h2, if_neg (Int32.not_lt.mpr h3), if_pos h4, if_pos (Int32.not_le.mp h5)]
            have f : cq_Ao M x y z no = (cq_th M 1, 0) := by
              unfold cq_Ao
              rw [cq_in_1 h1 h2, cq_in_1 h3 h4, cq_in_0 (Or.inl h5), if_neg (by decide), if_neg (by decide), if_pos rfl]
            rw [e, f]
            exact ⟨rfl, (fun q => nomatch q), Or.inr ⟨(fun q => nomatch q), 1, rfl⟩⟩
        · skip
          have e : cy_tAo x y z no = some cy_IA := by
            unfold cy_tAo
            rw [if_neg (Int32.not_lt.mpr h1), if_pos h2, if_neg (Int32.not_lt.mpr h3), if_neg h4]
          have f : cq_Ao M x y z no = (cq_th M 1, 0) := by
            unfold cq_Ao
            rw [cq_in_1 h1 h2, cq_in_0 (Or.inr h4), if_neg (by decide), if_pos rfl]
          rw [e, f]
          exact ⟨rfl, (fun q => nomatch q), Or.inr ⟨(fun q => nomatch q), 1, rfl⟩⟩
      · skip
        have e : cy_tAo x y z no = some cy_IA := by
          unfold cy_tAo
          rw [if_neg (Int32.not_lt.mpr h1), if_pos h2, if_pos (Int32.not_le.mp h3)]
        have f : cq_Ao M x y z no = (cq_th M 1, 0) := by
          unfold cq_Ao
          rw [cq_in_1 h1 h2, cq_in_0 (Or.inl h3), if_neg (by decide), if_pos rfl]
        rw [e, f]
        exact ⟨rfl, (fun q => nomatch q), Or.inr ⟨(fun q => nomatch q), 1, rfl⟩⟩
    · skip
      have e : cy_tAo x y z no = some cy_IA := by
        unfold cy_tAo
        rw [if_neg (Int32.not_lt.mpr h1), if_neg h2]
      have f : cq_Ao M x y z no = (cq_th M 1, 0) := by
        unfold cq_Ao
        rw [cq_in_0 (Or.inr h2), if_pos rfl]
      rw [e, f]
      exact ⟨rfl, (fun q => nomatch q), Or.inr ⟨(fun q => nomatch q), 1, rfl⟩⟩
  · skip
    have e : cy_tAo x y z no = some cy_IA := by
      unfold cy_tAo
      rw [if_pos (Int32.not_le.mp h1)]
    have f : cq_Ao M x y z no = (cq_th M 1, 0) := by
      unfold cq_Ao
      rw [cq_in_0 (Or.inl h1), if_pos rfl]
    rw [e, f]
    exact ⟨rfl, (fun q => nomatch q), Or.inr ⟨(fun q => nomatch q), 1, rfl⟩⟩
theorem s_addSort {S M : Nat → Nat → Int32} {x y z : Int32} {ns no nc mo t : Nat} (h : Rel S M ns no nc mo t) : cy_cd cy_IA cy_IS (cy_tAo x y z no) = (cq_Ao M x y z no).1 0 0 ∧ (cy_tAo x y z no = none → nI no = (cq_Ao M x y z no).2) ∧ ∃ no', Rel (cy_if (cy_tAo x y z no) (cy_nAo S x y z no) S) (cq_Ao M x y z no).1 ns no' nc mo t := by
  obtain ⟨a1, a2, a3⟩ := r_addSort (S := S) (M := M) (x := x) (y := y) (z := z) (no := no) h.1.2.1.2.2
  refine ⟨a1, a2, ?_⟩
  rcases a3 with ⟨e, hx, hy, hz, h6, eM⟩ | ⟨e, k, eM⟩
  · rw [cy_if_n e, eM]
    refine ⟨no + 1, ?_⟩
    obtain ⟨⟨n1, n2, n3, n4, n5, n6⟩, hs, ⟨ho, ho2, hc2⟩, hc, hg, hgr⟩ := h
    generalize hS' : cy_nAo S x y z no = S'
    generalize hM' : va_up (va_up (va_up (va_up M 4 (upd (M 4) no x)) 5 (upd (M 5) no y)) 6 (upd (M 6) no z)) 0 (upd (upd (M 0) 0 0) 8 (nI (no + 1))) = M'
    have eS : ∀ j, j ≠ 0 → j ≠ 4 → j ≠ 5 → j ≠ 6 → S' j = S j := fun j h0 h1 h2 h3 => by rw [← hS']; unfold cy_nAo; rw [cy_un h0, cy_un h3, cy_un h2, cy_un h1]
    have eM : ∀ j, j ≠ 0 → j ≠ 4 → j ≠ 5 → j ≠ 6 → M' j = M j := fun j h0 h1 h2 h3 => by rw [← hM', cy_un h0, cy_un h3, cy_un h2, cy_un h1]
    have S0 : S' 0 = upd (S 0) 7 (nI (no + 1)) := by rw [← hS']; rfl
    have S4 : S' 4 = upd (S 4) no x := by rw [← hS']; rfl
    have S5 : S' 5 = upd (S 5) no y := by rw [← hS']; rfl
    have S6 : S' 6 = upd (S 6) no z := by rw [← hS']; rfl
    have M0 : M' 0 = upd (upd (M 0) 0 0) 8 (nI (no + 1)) := by rw [← hM']; rfl
    have M4 : M' 4 = upd (M 4) no x := by rw [← hM']; rfl
    have M5 : M' 5 = upd (M 5) no y := by rw [← hM']; rfl
    have M6 : M' 6 = upd (M 6) no z := by rw [← hM']; rfl
    refine ⟨?_, fun i hi => ?_, ⟨fun j hj => ?_, fun j hj => ?_, fun c hcc => ?_⟩, fun c hcc => ?_, fun c hcc => ?_, ?_⟩
    · unfold R_n
      rw [S0, M0]
      exact ⟨n1, ⟨rfl, rfl, by omega⟩, n3, n4, n5, n6⟩
    · unfold R_s1
      rw [eS 1 (by decide) (by decide) (by decide) (by decide), eS 2 (by decide) (by decide) (by decide) (by decide), eS 3 (by decide) (by decide) (by decide) (by decide), eM 1 (by decide) (by decide) (by decide) (by decide), eM 2 (by decide) (by decide) (by decide) (by decide), eM 3 (by decide) (by decide) (by decide) (by decide)]
      exact hs i hi
    · unfold R_o1
      rw [S4, S5, S6, M4, M5, M6]
      by_cases q : j = no
      · subst q
        rw [pk_us, pk_us, pk_us, pk_us, pk_us, pk_us]
        exact ⟨⟨rfl, rfl, rfl⟩, r_nat (a := 300) (b := 1500) rfl rfl (by decide) (by decide) hx.1 hx.2, r_nat (a := 100) (b := 60000) rfl rfl (by decide) (by decide) hy.1 hy.2, r_nat (a := 2) (b := 8) rfl rfl (by decide) (by decide) hz.1 hz.2⟩
      · rw [pk_un q, pk_un q, pk_un q, pk_un q, pk_un q, pk_un q]
        exact ho j (by omega)
    · rw [M6, pk_un (by omega)]; exact ho2 j (by omega)
    · rw [eM 7 (by decide) (by decide) (by decide) (by decide)]; exact hc2 c hcc
    · exact (hc c hcc).keep (fun j hj => eS j (by omega) (by omega) (by omega) (by omega)) (fun j hj => eM j (by omega) (by omega) (by omega) (by omega)) (fun j hj => by rw [M5, M6, pk_un (by omega), pk_un (by omega)]; exact ⟨rfl, rfl⟩) (fun i hi => by rw [eS 3 (by decide) (by decide) (by decide) (by decide)]) (fun i h1 h2 => absurd h1 (by omega)) (Nat.le_refl _) (by omega) (Nat.le_refl _) n2.2.2
    · rw [eM 15 (by decide) (by decide) (by decide) (by decide)]; exact hg c hcc
    · rw [R_gr_c (eM 15 (by decide) (by decide) (by decide) (by decide))]; exact hgr
  · rw [eM]
    refine ⟨no, ?_⟩
    have : cy_if (cy_tAo x y z no) (cy_nAo S x y z no) S = S := if_neg e
    rw [this]
    exact h.th
