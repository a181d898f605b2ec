/-! only numbers of cell 0 change -/
theorem Rel.z {S M : Nat → Nat → Int32} {f g : Nat → Int32} {ns no nc mo mo' t : Nat} (h : Rel S M ns no nc mo t) (hn : R_n (va_up S 0 f) (va_up M 0 g) ns no nc mo') (hmo : mo ≤ mo') : Rel (va_up S 0 f) (va_up M 0 g) ns no nc mo' t := by
  have eS : ∀ j, j ≠ 0 → va_up S 0 f j = S j := fun j hj => cy_un hj
  have eM : ∀ j, j ≠ 0 → va_up M 0 g j = M j := fun j hj => cy_un hj
  obtain ⟨-, hs, ⟨ho, ho2, hc2⟩, hc, hg, hgr⟩ := h
  refine ⟨hn, fun i hi => ?_, ⟨fun j hj => ?_, fun j hj => ?_, fun c hcc => ?_⟩, fun c hcc => ?_, fun c hcc => ?_, ?_⟩
  · unfold R_s1
    rw [eS 1 (by decide), eS 2 (by decide), eS 3 (by decide), eM 1 (by decide), eM 2 (by decide), eM 3 (by decide)]
    exact hs i hi
  · unfold R_o1
    rw [eS 4 (by decide), eS 5 (by decide), eS 6 (by decide), eM 4 (by decide), eM 5 (by decide), eM 6 (by decide)]
    exact ho j hj
  · rw [eM 6 (by decide)]; exact ho2 j hj
  · rw [eM 7 (by decide)]; exact hc2 c hcc
  · exact (hc c hcc).keep (fun j hj => eS j (by omega)) (fun j hj => eM j (by omega)) (fun j hj => by rw [eM 5 (by decide), eM 6 (by decide)]; exact ⟨rfl, rfl⟩) (fun i hi => by rw [eS 3 (by decide)]) (fun i h1 h2 => absurd h1 (by omega)) (Nat.le_refl _) (Nat.le_refl _) (Nat.le_refl _) hn.2.1.2.2
  · rw [eM 15 (by decide)]; exact hg c hcc
  · rw [R_gr_c (eM 15 (by decide))]; omega
theorem Rel.mono {S M : Nat → Nat → Int32} {ns no nc mo t t' : Nat} (h : Rel S M ns no nc mo t) (ht : t ≤ t') : Rel S M ns no nc mo t' :=
  ⟨h.1, h.2.1, h.2.2.1, fun c hc => (h.2.2.2.1 c hc).keep (fun _ _ => rfl) (fun _ _ => rfl) (fun _ _ => ⟨rfl, rfl⟩) (fun _ _ => rfl) (fun i h1 h2 => absurd h1 (by omega)) (Nat.le_refl _) (Nat.le_refl _) ht h.1.2.1.2.2, h.2.2.2.2⟩
/-- setWarmth -/
theorem s_setWarmth {S M : Nat → Nat → Int32} {x : Int32} {ns no nc mo t : Nat} (h : Rel S M ns no nc mo t) : cy_cd cy_IA cy_IA (cy_tSw x) = (cq_Sw M x).1 0 0 ∧ (cy_tSw x = none → S 0 16 = (cq_Sw M x).2) ∧ Rel (cy_if (cy_tSw x) (va_up S 0 (upd (S 0) 16 x)) S) (cq_Sw M x).1 ns no nc mo t := by
  by_cases h1 : 0 ≤ x
  · by_cases h2 : x ≤ 9
    · have e : cy_tSw x = none := by
        unfold cy_tSw
        rw [if_neg (Int32.not_lt.mpr h1), if_pos h2]
      have f : cq_Sw M x = (va_up M 0 (upd (upd (M 0) 0 0) 2 x), M 0 2) := by
        unfold cq_Sw
        rw [cq_in_1 h1 h2, if_neg (by decide)]
      rw [e, f]
      obtain ⟨n1, n2, n3, n4, n5, wa, w1, w2, w3⟩ := h.1
      obtain ⟨w, -, hw2, hw3⟩ := r_nat (a := 0) (b := 9) rfl rfl (by decide) (by decide) h1 h2
      refine ⟨rfl, fun _ => by rw [w2, w3], h.z ?_ (Nat.le_refl _)⟩
      exact ⟨n1, n2, n3, n4, n5, w, hw2, hw3, hw3⟩
    · have e : cy_tSw x = some cy_IA := by
        unfold cy_tSw
        rw [if_neg (Int32.not_lt.mpr h1), if_neg h2]
      have f : cq_Sw M x = (cq_th M 1, 0) := by
        unfold cq_Sw
        rw [cq_in_0 (Or.inr h2), if_pos rfl]
      rw [e, f]
      exact ⟨rfl, (fun q => nomatch q), h.th⟩
  · have e : cy_tSw x = some cy_IA := by
      unfold cy_tSw
      rw [if_pos (Int32.not_le.mp h1)]
    have f : cq_Sw M x = (cq_th M 1, 0) := by
      unfold cq_Sw
      rw [cq_in_0 (Or.inl h1), if_pos rfl]
    rw [e, f]
    exact ⟨rfl, (fun q => nomatch q), h.th⟩
