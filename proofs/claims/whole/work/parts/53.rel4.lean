/-! a cask's part is kept where its own cells are -/
theorem R_c1.keep {S S' M M' : Nat → Nat → Int32} {ns ns' no no' t t' c : Nat} (h : R_c1 S M ns no t c) (hS : ∀ j, 11 ≤ j → S' j = S j) (hM : ∀ j, 7 ≤ j → M' j = M j) (ho : ∀ j, j < no → M' 5 j = M 5 j ∧ M' 6 j = M 6 j) (h3 : ∀ i, i < ns → S' 3 i = S 3 i) (hnew : ∀ i, ns ≤ i → i < ns' → ¬ S' 3 i = nI c) (hns : ns ≤ ns') (hno : no ≤ no') (ht : t ≤ t') (h6 : no ≤ 6) : R_c1 S' M' ns' no' t' c := by
  obtain ⟨⟨a1, j, hj, a2⟩, hb⟩ := h
  have hso : cq_so M c = j := by unfold cq_so; rw [a2]; exact nI_clamp (by omega)
  have hso' : cq_so M' c = j := by unfold cq_so; rw [hM 7 (by decide), a2]; exact nI_clamp (by omega)
  refine ⟨⟨by rw [hS _ (by omega), hM 7 (by decide)]; exact a1, j, by omega, by rw [hM 7 (by decide)]; exact a2⟩, ?_⟩
  rcases hb with ⟨b1, b2, b3⟩ | ⟨b1, b2, b3⟩
  · refine Or.inl ⟨by rw [hS _ (by omega)]; exact b1, by rw [hM 8 (by decide)]; exact b2, ?_⟩
    obtain ⟨c1, ⟨c2, c3, c4⟩, c5, ⟨c6, ⟨w, c7, c8⟩, c9⟩, i, hi, c10⟩ := b3
    refine ⟨?_, ⟨?_, ?_, ?_⟩, ?_, ⟨?_, ⟨w, by omega, by rw [hM 12 (by decide)]; exact c8⟩, ?_⟩, i, by omega, by rw [h3 i hi]; exact c10⟩
    · rw [hso'] ; rw [hso] at c1
      rw [hS _ (by omega), hM 9 (by decide), hM 11 (by decide), hM 12 (by decide), hM 13 (by decide), hM 15 (by decide), (ho j hj).1, (ho j hj).2]
      exact c1
    · rw [hS _ (by omega), hM 14 (by decide)]; exact c2
    · unfold cq_hH cq_hN; rw [hM 14 (by decide)]; exact c3
    · rw [hso', (ho j hj).1]; rw [hso] at c4
      unfold cq_hW cq_hN; rw [hM 14 (by decide)]; exact c4
    · rw [hso', (ho j hj).2]; rw [hso] at c5
      rw [hS _ (by omega), hM 10 (by decide)]; exact c5
    · rw [hM 11 (by decide)]; exact c6
    · rw [hM 13 (by decide)]; exact c9
  · refine Or.inr ⟨by rw [hS _ (by omega)]; exact b1, by rw [hM 8 (by decide)]; exact b2, ?_⟩
    obtain ⟨d1, d2, d3, d4, d5⟩ := b3
    unfold R_cb
    rw [hS _ (by omega), hS _ (by omega), hS _ (by omega), hM 14 (by decide), hM 15 (by decide)]
    refine ⟨d1, d2, d3, d4, fun i hi => ?_⟩
    rcases Nat.lt_or_ge i ns with g | g
    · rw [h3 i g]; exact d5 i g
    · exact hnew i g hi
theorem R_gr_c {M M' : Nat → Nat → Int32} (h : M' 15 = M 15) : ∀ n, R_gr M' n = R_gr M n
  | 0 => rfl
  | n + 1 => by
    show R_gr M' n + (M' 15 n).toNatClampNeg = R_gr M n + (M 15 n).toNatClampNeg
    rw [R_gr_c h n, h]
theorem r_nat {x lo hi : Int32} {a b : Nat} (hlo : lo = nI a) (hhi : hi = nI b) (ha : a < 2 ^ 31) (hb : b < 2 ^ 31) (h1 : lo ≤ x) (h2 : x ≤ hi) : ∃ w, a ≤ w ∧ w ≤ b ∧ x = nI w := by
  subst hlo; subst hhi
  have h0 : ¬ x < 0 := fun q => nI_pos ha (Int32.lt_of_le_of_lt h1 q)
  obtain ⟨w, hw, rfl⟩ := nI_of h0
  exact ⟨w, cy_le ha hw h1, cy_le hw hb h2, rfl⟩
/-- addStave keeps the relation -/
theorem s_addStave {S M : Nat → Nat → Int32} {x y : Int32} {ns no nc mo t : Nat} (h : Rel S M ns no nc mo t) : cy_cd cy_IA cy_IS (cy_tAs x y ns) = (cq_As M x y ns).1 0 0 ∧ (cy_tAs x y ns = none → nI ns = (cq_As M x y ns).2) ∧ ∃ ns', Rel (cy_if (cy_tAs x y ns) (cy_nAs S x y ns) S) (cq_As M x y ns).1 ns' no nc mo t := by
  obtain ⟨a1, a2, a3⟩ := r_addStave (S := S) (M := M) (x := x) (y := y) (ns := ns) h.1.1.2.2
  refine ⟨a1, a2, ?_⟩
  rcases a3 with ⟨e, hx, hy, h60, eM⟩ | ⟨e, k, eM⟩
  · rw [cy_if_n e, eM]
    refine ⟨ns + 1, ?_⟩
    obtain ⟨⟨n1, n2, n3, n4, n5, n6⟩, hs, ⟨ho, ho2, hc2⟩, hc, hg, hgr⟩ := h
    generalize hS' : cy_nAs S x y ns = S'
    generalize hM' : va_up (va_up (va_up (va_up M 1 (upd (M 1) ns x)) 2 (upd (M 2) ns y)) 3 (upd (M 3) ns (-1))) 0 (upd (upd (M 0) 0 0) 4 (nI (ns + 1))) = M'
    have eS : ∀ j, 4 ≤ j → S' j = S j := fun j hj => by rw [← hS']; unfold cy_nAs; rw [cy_un (by omega), cy_un (by omega), cy_un (by omega), cy_un (by omega)]
    have eM : ∀ j, 4 ≤ j → M' j = M j := fun j hj => by rw [← hM', cy_un (by omega), cy_un (by omega), cy_un (by omega), cy_un (by omega)]
    have S0 : S' 0 = upd (S 0) 3 (nI (ns + 1)) := by rw [← hS']; rfl
    have S1 : S' 1 = upd (S 1) ns x := by rw [← hS']; rfl
    have S2 : S' 2 = upd (S 2) ns y := by rw [← hS']; rfl
    have S3 : S' 3 = upd (S 3) ns (-1) := by rw [← hS']; rfl
    have M0 : M' 0 = upd (upd (M 0) 0 0) 4 (nI (ns + 1)) := by rw [← hM']; rfl
    have M1 : M' 1 = upd (M 1) ns x := by rw [← hM']; rfl
    have M2 : M' 2 = upd (M 2) ns y := by rw [← hM']; rfl
    have M3 : M' 3 = upd (M 3) ns (-1) := by rw [← hM']; rfl
    refine ⟨?_, fun i hi => ?_, ⟨fun j hj => ?_, fun j hj => ?_, fun c hcc => ?_⟩, fun c hcc => ?_, fun c hcc => ?_, ?_⟩
    · unfold R_n
      rw [S0, M0]
      exact ⟨⟨rfl, rfl, by omega⟩, n2, n3, n4, n5, n6⟩
    · unfold R_s1
      rw [S1, S2, S3, M1, M2, M3]
      by_cases q : i = ns
      · subst q
        rw [pk_us, pk_us, pk_us, pk_us, pk_us, pk_us]
        obtain ⟨w, w1, w2, w3⟩ := r_nat (a := 20) (b := 120) rfl rfl (by decide) (by decide) hx.1 hx.2
        obtain ⟨d, -, d2, d3⟩ := r_nat (a := 0) (b := 100) rfl rfl (by decide) (by decide) hy.1 hy.2
        exact ⟨⟨rfl, rfl, rfl⟩, ⟨w, w1, w2, w3⟩, ⟨d, d2, d3⟩, Or.inl rfl⟩
      · rw [pk_un q, pk_un q, pk_un q, pk_un q, pk_un q, pk_un q]
        exact hs i (by omega)
    · unfold R_o1
      rw [eS 4 (by decide), eS 5 (by decide), eS 6 (by decide), eM 4 (by decide), eM 5 (by decide), eM 6 (by decide)]
      exact ho j hj
    · rw [eM 6 (by decide)]; exact ho2 j hj
    · rw [eM 7 (by decide)]; exact hc2 c hcc
    · exact (hc c hcc).keep (fun j hj => eS j (by omega)) (fun j hj => eM j (by omega)) (fun j hj => by rw [eM 5 (by decide), eM 6 (by decide)]; exact ⟨rfl, rfl⟩) (fun i hi => by rw [S3, pk_un (by omega)]) (fun i h1 h2 => by
        obtain rfl : ns = i := by omega
        rw [S3, pk_us]; exact fun q => cy_nm1 (c := c) (by omega) q.symm) (by omega) (Nat.le_refl _) (Nat.le_refl _) n2.2.2
    · rw [eM 15 (by decide)]; exact hg c hcc
    · rw [R_gr_c (eM 15 (by decide))]; exact hgr
  · rw [eM]
    refine ⟨ns, ?_⟩
    have : cy_if (cy_tAs x y ns) (cy_nAs S x y ns) S = S := if_neg e
    rw [this]
    exact h.th
