/-! bounds told in two ways -/
theorem r_is {x : Int32} {n : Nat} (hn : n < 2 ^ 31) : cq_in x 0 (nI n - 1) = 0 ↔ cy_rIs x (nI n) = 0 := by
  constructor
  · intro h
    rcases Classical.em (cy_rIs x (nI n) = 0) with q | q
    · exact q
    · exfalso
      obtain ⟨j, hj, rfl⟩ := cy_rIs_t hn q
      obtain ⟨k, rfl⟩ : ∃ k, n = k + 1 := ⟨n - 1, by omega⟩
      rw [nI_pred, cq_in_1 (Int32.not_lt.mp (nI_pos (by omega))) ((nI_leI (by omega) (by omega)).mpr (by omega))] at h
      exact absurd h (by decide)
  · intro h
    rcases Classical.em (cq_in x 0 (nI n - 1) = 0) with q | q
    · exact q
    · exfalso
      obtain ⟨j, hj, rfl⟩ := cq_in_t hn q
      unfold cy_rIs at h
      rw [if_neg (nI_pos (by omega)), if_neg (Int32.not_le.mpr (nI_lt hj hn))] at h
      exact absurd h (by decide)
/-- stave -/
theorem s_stave {S M : Nat → Nat → Int32} {x y : Int32} {ns no nc mo t : Nat} (h : Rel S M ns no nc mo t) : cy_cd cy_IB cy_IB (cy_tSt x y ns) = (cq_St M x y ns).1 0 0 ∧ (cy_tSt x y ns = none → cy_rSt S x y = (cq_St M x y ns).2) ∧ Rel S (cq_St M x y ns).1 ns no nc mo t := by
  have h60 := h.1.1.2.2
  by_cases h1 : cy_rIs x (nI ns) = 0
  · have e : cy_tSt x y ns = some cy_IB := by
      unfold cy_tSt
      rw [if_pos h1]
    have f : cq_St M x y ns = (cq_th M 1, 0) := by
      unfold cq_St
      rw [if_pos ((r_is (by omega)).mpr h1)]
    rw [e, f]
    exact ⟨rfl, (fun q => nomatch q), h.th⟩
  · have h1' : ¬ cq_in x 0 (nI ns - 1) = 0 := fun q => h1 ((r_is (by omega)).mp q)
    obtain ⟨i, hi, rfl⟩ := cy_rIs_t (by omega) h1
    by_cases h2 : 0 ≤ y
    · by_cases h3 : y ≤ 2
      · obtain ⟨k, -, hk, rfl⟩ := r_nat (a := 0) (b := 2) rfl rfl (by decide) (by decide) h2 h3
        have e : cy_tSt (nI i) (nI k) ns = none := by
          unfold cy_tSt
          rw [if_neg h1, if_neg (Int32.not_lt.mpr h2), if_pos (show nI k < (3 : Int32) from nI_lt (b := 3) (by omega) (by decide))]
        have f : cq_St M (nI i) (nI k) ns = (cq_rs M, cq_tl M i (nI k)) := by
          unfold cq_St
          rw [if_neg h1', cq_in_1 h2 h3, if_neg (by decide), nI_clamp (by omega)]
        rw [e, f]
        refine ⟨rfl, fun _ => ?_, h.rs⟩
        obtain ⟨⟨g1, g2, g3⟩, -⟩ := h.2.1 i hi
        unfold cy_rSt
        rw [nI_clamp (by omega)]
        have hk3 : k = 0 ∨ k = 1 ∨ k = 2 := by omega
        rcases hk3 with rfl | rfl | rfl
        · exact g1
        · exact g2
        · exact g3
      · have e : cy_tSt (nI i) y ns = some cy_IB := by
          unfold cy_tSt
          rw [if_neg h1, if_neg (Int32.not_lt.mpr h2), if_neg (fun q => h3 (by rw [Int32.le_iff_toInt_le]; rw [Int32.lt_iff_toInt_lt] at q; have e3 : (3 : Int32).toInt = 3 := rfl; have e2 : (2 : Int32).toInt = 2 := rfl; omega))]
        have f : cq_St M (nI i) y ns = (cq_th M 1, 0) := by
          unfold cq_St
          rw [if_neg h1', cq_in_0 (Or.inr h3), if_pos rfl]
        rw [e, f]
        exact ⟨rfl, (fun q => nomatch q), h.th⟩
    · have e : cy_tSt (nI i) y ns = some cy_IB := by
        unfold cy_tSt
        rw [if_neg h1, if_pos (Int32.not_le.mp h2)]
      have f : cq_St M (nI i) y ns = (cq_th M 1, 0) := by
        unfold cq_St
        rw [if_neg h1', cq_in_0 (Or.inl h2), if_pos rfl]
      rw [e, f]
      exact ⟨rfl, (fun q => nomatch q), h.th⟩
