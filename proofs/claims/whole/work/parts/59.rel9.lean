/-! cask -/
theorem s_cask {S M : Nat → Nat → Int32} {x y : Int32} {ns no nc mo t : Nat} (h : Rel S M ns no nc mo t) : cy_cd cy_IB cy_IB (cy_tCa x y nc) = (cq_Ca M x y ns nc).1 0 0 ∧ (cy_tCa x y nc = none → cy_tell S ns x.toNatClampNeg y.toNatClampNeg = (cq_Ca M x y ns nc).2) ∧ Rel S (cq_Ca M x y ns nc).1 ns no nc mo t := by
  have h60 := h.1.2.2.1.2.2
  by_cases h1 : cy_rIs x (nI nc) = 0
  · have e : cy_tCa x y nc = some cy_IB := by
      unfold cy_tCa
      rw [if_pos h1]
    have f : cq_Ca M x y ns nc = (cq_th M 1, 0) := by
      unfold cq_Ca
      rw [if_pos ((r_is (by omega)).mpr h1)]
    rw [e, f]
    exact ⟨rfl, (fun q => nomatch q), h.th⟩
  · have h1' : ¬ cq_in x 0 (nI nc - 1) = 0 := fun q => h1 ((r_is (by omega)).mp q)
    obtain ⟨i, hi, rfl⟩ := cy_rIs_t (by omega) h1
    by_cases h2 : 0 ≤ y
    · by_cases h3 : y ≤ 15
      · obtain ⟨k, -, hk, rfl⟩ := r_nat (a := 0) (b := 15) rfl rfl (by decide) (by decide) h2 h3
        have e : cy_tCa (nI i) (nI k) nc = none := by
          unfold cy_tCa
          rw [if_neg h1, if_neg (Int32.not_lt.mpr h2), if_pos (show nI k < (16 : Int32) from nI_lt (b := 16) (by omega) (by decide))]
        have f : cq_Ca M (nI i) (nI k) ns nc = (cq_rs M, cq_ct M ns i k) := by
          unfold cq_Ca
          rw [if_neg h1', cq_in_1 h2 h3, if_neg (by decide), nI_clamp (by omega), nI_clamp (by omega)]
        rw [e, f]
        refine ⟨rfl, fun _ => ?_, h.rs⟩
        rw [nI_clamp (by omega), nI_clamp (by omega)]
        exact r_tell h hi (by omega)
      · have e : cy_tCa (nI i) y nc = some cy_IB := by
          unfold cy_tCa
          rw [if_neg h1, if_neg (Int32.not_lt.mpr h2), if_neg (fun q => h3 (by rw [Int32.le_iff_toInt_le]; rw [Int32.lt_iff_toInt_lt] at q; have e3 : (16 : Int32).toInt = 16 := rfl; have e2 : (15 : Int32).toInt = 15 := rfl; omega))]
        have f : cq_Ca M (nI i) y ns nc = (cq_th M 1, 0) := by
          unfold cq_Ca
          rw [if_neg h1', cq_in_0 (Or.inr h3), if_pos rfl]
        rw [e, f]
        exact ⟨rfl, (fun q => nomatch q), h.th⟩
    · have e : cy_tCa (nI i) y nc = some cy_IB := by
        unfold cy_tCa
        rw [if_neg h1, if_pos (Int32.not_le.mp h2)]
      have f : cq_Ca M (nI i) y ns nc = (cq_th M 1, 0) := by
        unfold cq_Ca
        rw [if_neg h1', cq_in_0 (Or.inl h2), if_pos rfl]
      rw [e, f]
      exact ⟨rfl, (fun q => nomatch q), h.th⟩
