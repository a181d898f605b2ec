/-! the two sides: what they have in common. Numbers of cell 0 -/
def R_n (S M : Nat → Nat → Int32) (ns no nc mo : Nat) : Prop := (S 0 3 = nI ns ∧ M 0 4 = nI ns ∧ ns ≤ 60) ∧ (S 0 7 = nI no ∧ M 0 8 = nI no ∧ no ≤ 6) ∧ (S 0 9 = nI nc ∧ M 0 12 = nI nc ∧ nc ≤ 12) ∧ (S 0 14 = nI mo ∧ M 0 1 = nI mo ∧ mo ≤ 1200) ∧ S 0 15 = M 0 3 ∧ ∃ wa, wa ≤ 9 ∧ S 0 16 = nI wa ∧ M 0 2 = nI wa
/-- a stave -/
def R_s1 (S M : Nat → Nat → Int32) (nc i : Nat) : Prop := (S 1 i = M 1 i ∧ S 2 i = M 2 i ∧ S 3 i = M 3 i) ∧ (∃ w, 20 ≤ w ∧ w ≤ 120 ∧ S 1 i = nI w) ∧ (∃ d, d ≤ 100 ∧ S 2 i = nI d) ∧ (S 3 i = (-1) ∨ S 3 i = (-2) ∨ ∃ c, c < nc ∧ S 3 i = nI c)
/-- a sort -/
def R_o1 (S M : Nat → Nat → Int32) (j : Nat) : Prop := (S 4 j = M 4 j ∧ S 5 j = M 5 j ∧ S 6 j = M 6 j) ∧ (∃ w, 300 ≤ w ∧ w ≤ 1500 ∧ S 4 j = nI w) ∧ (∃ w, 100 ≤ w ∧ w ≤ 60000 ∧ S 5 j = nI w) ∧ ∃ w, 2 ≤ w ∧ w ≤ 8 ∧ S 6 j = nI w
theorem cq_in_1 {v lo hi : Int32} (h : lo ≤ v) (h2 : v ≤ hi) : cq_in v lo hi = 1 := by
  unfold cq_in
  rw [if_neg (Int32.not_lt.mpr h), if_neg (Int32.not_lt.mpr h2)]
theorem cq_in_0 {v lo hi : Int32} (h : ¬ lo ≤ v ∨ ¬ v ≤ hi) : cq_in v lo hi = 0 := by
  unfold cq_in
  by_cases h1 : v < lo
  · rw [if_pos h1]
  · rw [if_neg h1, if_pos (Int32.not_le.mp (h.resolve_left (fun q => q (Int32.not_lt.mp h1))))]
theorem cy_lt_le {a b : Int32} : (a < b) = ¬ b ≤ a := by
  rw [eq_iff_iff]
  exact Int32.not_le.symm
/-- addStave: the code and the answer -/
theorem r_addStave {S M : Nat → Nat → Int32} {x y : Int32} {ns : Nat} (h60 : ns ≤ 60) : cy_cd cy_IA cy_IS (cy_tAs x y ns) = (cq_As M x y ns).1 0 0 ∧ (cy_tAs x y ns = none → nI ns = (cq_As M x y ns).2) ∧ ((cy_tAs x y ns = none ∧ (20 ≤ x ∧ x ≤ 120) ∧ (0 ≤ y ∧ y ≤ 100) ∧ ns < 60 ∧ (cq_As M x y ns).1 = va_up (va_up (va_up (va_up M 1 (upd (M 1) ns x)) 2 (upd (M 2) ns y)) 3 (upd (M 3) ns (-1))) 0 (upd (upd (M 0) 0 0) 4 (nI (ns + 1)))) ∨ (cy_tAs x y ns ≠ none ∧ ∃ k, (cq_As M x y ns).1 = cq_th M k)) := by
  by_cases h1 : 20 ≤ x
  · by_cases h2 : x ≤ 120
    · by_cases h3 : 0 ≤ y
      · by_cases h4 : y ≤ 100
        · by_cases h5 : ns < 60
          · have e : cy_tAs x y ns = none := by
              unfold cy_tAs
              rw [if_neg (Int32.not_lt.mpr h1), if_pos h2, if_neg (Int32.not_lt.mpr h3), if_pos h4, if_pos (show nI ns < (60 : Int32) from nI_lt (b := 60) h5 (by decide))]
            have f : cq_As M x y ns = (va_up (va_up (va_up (va_up M 1 (upd (M 1) ns x)) 2 (upd (M 2) ns y)) 3 (upd (M 3) ns (-1))) 0 (upd (upd (M 0) 0 0) 4 (nI (ns + 1))), nI (ns + 1) - 1) := by
              unfold cq_As
              rw [cq_in_1 h1 h2, cq_in_1 h3 h4, if_neg (by decide), if_neg (by decide), if_pos (show ¬ nI ns = (60 : Int32) from fun q => absurd (cy_eq (b := 60) (by omega) (by decide) q) (by omega))]
            rw [e, f]
            exact ⟨rfl, fun _ => (nI_pred ns).symm, Or.inl ⟨rfl, ⟨h1, h2⟩, ⟨h3, h4⟩, h5, rfl⟩⟩
          · have e : cy_tAs x y ns = some cy_IS := by
              unfold cy_tAs
              rw [if_neg (Int32.not_lt.mpr h1), if_pos h2, if_neg (Int32.not_lt.mpr h3), if_pos h4, if_neg (show ¬ nI ns < (60 : Int32) from fun q => h5 (cy_lt (b := 60) (by omega) (by decide) q))]
            have f : cq_As M x y ns = (cq_th M 2, 0) := by
              unfold cq_As
              rw [cq_in_1 h1 h2, cq_in_1 h3 h4, if_neg (by decide), if_neg (by decide), if_neg (show ¬ ¬ nI ns = (60 : Int32) from fun q => q (show nI ns = nI 60 from congrArg nI (by omega)))]
            rw [e, f]
            exact ⟨rfl, (fun q => nomatch q), Or.inr ⟨(fun q => nomatch q), 2, rfl⟩⟩
        · have e : cy_tAs x y ns = some cy_IA := by
            unfold cy_tAs
            rw [if_neg (Int32.not_lt.mpr h1), if_pos h2, if_neg (Int32.not_lt.mpr h3), if_neg h4]
          have f : cq_As M x y ns = (cq_th M 1, 0) := by
            unfold cq_As
            rw [cq_in_1 h1 h2, cq_in_0 (Or.inr h4), if_neg (by decide), if_pos rfl]
          rw [e, f]
          exact ⟨rfl, (fun q => nomatch q), Or.inr ⟨(fun q => nomatch q), 1, rfl⟩⟩
      · have e : cy_tAs x y ns = some cy_IA := by
          unfold cy_tAs
          rw [if_neg (Int32.not_lt.mpr h1), if_pos h2, if_pos (Int32.not_le.mp h3)]
        have f : cq_As M x y ns = (cq_th M 1, 0) := by
          unfold cq_As
          rw [cq_in_1 h1 h2, cq_in_0 (Or.inl h3), if_neg (by decide), if_pos rfl]
        rw [e, f]
        exact ⟨rfl, (fun q => nomatch q), Or.inr ⟨(fun q => nomatch q), 1, rfl⟩⟩
    · have e : cy_tAs x y ns = some cy_IA := by
        unfold cy_tAs
        rw [if_neg (Int32.not_lt.mpr h1), if_neg h2]
      have f : cq_As M x y ns = (cq_th M 1, 0) := by
        unfold cq_As
        rw [cq_in_0 (Or.inr h2), if_pos rfl]
      rw [e, f]
      exact ⟨rfl, (fun q => nomatch q), Or.inr ⟨(fun q => nomatch q), 1, rfl⟩⟩
  · have e : cy_tAs x y ns = some cy_IA := by
      unfold cy_tAs
      rw [if_pos (Int32.not_le.mp h1)]
    have f : cq_As M x y ns = (cq_th M 1, 0) := by
      unfold cq_As
      rw [cq_in_0 (Or.inl h1), if_pos rfl]
    rw [e, f]
    exact ⟨rfl, (fun q => nomatch q), Or.inr ⟨(fun q => nomatch q), 1, rfl⟩⟩
