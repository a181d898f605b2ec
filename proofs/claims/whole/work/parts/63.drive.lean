/-! drive, mend, breakUp -/
theorem r_g3 {α : Type} {y : Int32} {n : Nat} {u v : α} (hn : n < 2 ^ 31) : (if y < 0 then u else if y < nI n then v else u) = if cq_in y 0 (nI n - 1) = 0 then u else v := by
  rw [← r_g0 hn]
  unfold cy_rIs
  by_cases q : y < 0
  · rw [if_pos q, if_pos q, if_pos rfl]
  · rw [if_neg q, if_neg q]
    by_cases q2 : y < nI n
    · rw [if_pos q2, if_neg (Int32.not_le.mpr q2), if_neg (by decide)]
    · rw [if_neg q2, if_pos (Int32.not_lt.mp q2), if_pos rfl]
theorem cy_mn_n {a b : Nat} (ha : a < 2 ^ 31) (hb : b < 2 ^ 31) : cy_mn (nI a) (nI b) = nI (min a b) := by
  unfold cy_mn
  by_cases q : b < a
  · rw [if_pos (nI_lt q ha), show min a b = b by omega]
  · rw [if_neg (fun z => q (cy_lt hb ha z)), show min a b = a by omega]
theorem cy_mx_n {a b : Nat} (ha : a < 2 ^ 31) (hb : b < 2 ^ 31) : cy_mx (nI a) (nI b) = nI (max a b) := by
  unfold cy_mx
  by_cases q : a < b
  · rw [if_pos (nI_lt q hb), show max a b = b by omega]
  · rw [if_neg (fun z => q (cy_lt ha hb z)), show max a b = a by omega]
theorem cy_mx_sub {a b : Nat} (ha : a < 2 ^ 30) (hb : b < 2 ^ 30) : cy_mx 0 (nI a - nI b) = nI (a - b) := by
  by_cases q : a < b
  · have h := pk_sneg hb q
    unfold cy_mx
    rw [if_neg (fun z => absurd (Int32.lt_trans z h) (by decide)), show a - b = 0 by omega]
    rfl
  · rw [pk_sub (by omega)]
    have := cy_mx_n (a := 0) (b := a - b) (by decide) (by omega)
    rw [Nat.zero_max] at this
    exact this
/-- a sound cask's flaws and tensions change -/
theorem R_cd.tf {S M S' M' : Nat → Nat → Int32} {t t' d c : Nat} (h : R_cd S M t d c) (htt : t ≤ t') (e11 : ∀ k, k ≠ 3 → S' (3 * d + 11) k = S (3 * d + 11) k) (e13 : S' (3 * d + 13) = S (3 * d + 13)) (m5 : M' 5 = M 5) (m6 : M' 6 = M 6) (m7 : M' 7 = M 7) (m11 : M' 11 = M 11) (m12 : M' 12 = M 12) (m13 : M' 13 = M 13) (m14 : M' 14 = M 14) (m15 : M' 15 = M 15) (hf : S' (3 * d + 11) 3 = M' 9 c) (ha : ∀ k, k < (M 6 (cq_so M c)).toNatClampNeg → S' (3 * d + 12) k = M' 10 (8 * c + k)) (hz : ∀ k, (M 6 (cq_so M c)).toNatClampNeg ≤ k → k < 8 → S' (3 * d + 12) k = 0) (h9 : ∀ k, k < 8 → ∃ w, w ≤ 9 ∧ S' (3 * d + 12) k = nI w) : R_cd S' M' t' d c := by
  obtain ⟨⟨a1, a2, a3, a4, a5, a6, a7⟩, ⟨b1, b2, b3⟩, -, d1, ⟨w, d2, d3⟩, d4⟩ := h
  have so : cq_so M' c = cq_so M c := by unfold cq_so; rw [m7]
  have e14 : ∀ k, k < 5 → M' 14 (5 * c + k) = M 14 (5 * c + k) := fun k _ => by rw [m14]
  refine ⟨⟨?_, hf, ?_, ?_, ?_, ?_, ?_⟩, ⟨?_, cq_hH_e e14 b2, ?_⟩, ⟨?_, ?_, h9⟩, ⟨?_, ⟨w, by omega, ?_⟩, ?_⟩⟩
  · rw [so, m5, e11 1 (by decide)]; exact a1
  · rw [so, m6, e11 4 (by decide)]; exact a3
  · rw [m11, e11 5 (by decide)]; exact a4
  · rw [m12, e11 6 (by decide)]; exact a5
  · rw [m13, e11 7 (by decide)]; exact a6
  · rw [m15, e11 8 (by decide)]; exact a7
  · rw [e13, m14]; exact b1
  · rw [cq_hW_e e14, so, m5]; exact b3
  · rw [so, m6]; exact ha
  · rw [so, m6]; exact hz
  · rw [m11]; exact d1
  · rw [m12]; exact d3
  · rw [m13]; exact d4
theorem s_drive {S M : Nat → Nat → Int32} {x y z : Int32} {ns no nc mo t : Nat} (h : Rel S M ns no nc mo t) : R_F cy_IB cy_IA (cy_tDr S x y z nc) (cq_Dr M x y z nc) (cy_mn 9 (S (3 * x.toNatClampNeg + 12) y.toNatClampNeg + z)) (cy_if (cy_tDr S x y z nc) (cy_nDr S x.toNatClampNeg y.toNatClampNeg z) S) (t + 1) := by
  have h12 := h.1.2.2.1.2.2
  have et0 : cy_tDr S x y z nc = if cq_in x 0 (nI nc - 1) = 0 then some cy_IB else if y < 0 then some cy_IB else if y < S (3 * x.toNatClampNeg + 11) 4 then (if cq_in z 1 9 = 0 then some cy_IA else none) else some cy_IB := by
    unfold cy_tDr
    rw [r_g0 (by omega), r_g1]
  by_cases h1 : cq_in x 0 (nI nc - 1) = 0
  · exact r_bad h (E := cy_IB) (k := 1) (by rw [et0, if_pos h1]) (by unfold cq_Dr; rw [if_pos h1]) rfl
  obtain ⟨c, hc, rfl⟩ := cq_in_t (by omega) h1
  have ec : (nI c).toNatClampNeg = c := nI_clamp (by omega)
  have h8 := cq_hn_le h.ok (show c < 12 by omega)
  rw [if_neg h1, ec, r_hn h hc, r_g3 (by omega)] at et0
  rw [ec]
  by_cases h2 : cq_in y 0 (nI (cq_hn M c) - 1) = 0
  · exact r_bad h (E := cy_IB) (k := 1) (by rw [et0, if_pos h2]) (by unfold cq_Dr; rw [if_neg h1, ec, if_pos h2]) rfl
  rw [if_neg h2] at et0
  by_cases h3 : cq_in z 1 9 = 0
  · exact r_bad h (E := cy_IA) (k := 2) (by rw [et0, if_pos h3]) (by unfold cq_Dr; rw [if_neg h1, ec, if_neg h2, if_pos h3]) rfl
  rw [if_neg h3] at et0
  obtain ⟨i, hi, rfl⟩ := cq_in_t (by omega) h2
  obtain ⟨u, ⟨hu1, hu2⟩, rfl⟩ := cq_in_l1 (n := 9) (by decide) h3
  have ei : (nI i).toNatClampNeg = i := nI_clamp (by omega)
  have hb : ¬ M 8 c = 0 := fun q => by
    unfold cq_hn at hi
    rw [if_pos q] at hi
    omega
  have ehn : cq_hn M c = (M 6 (cq_so M c)).toNatClampNeg := if_neg hb
  obtain ⟨j, hj, s1, s2, s3, s4, s5, s6, s7⟩ := h.sd hc hb
  have hte := fun k => r_te (k := k) h hc
  have hz := s6.2.2.1.2.1
  have h9 := s6.2.2.1.2.2
  have f3 := s6.1.2.1
  obtain ⟨v, hv, hv2⟩ := h9 i (by omega)
  have eT : cy_mn 9 (S (3 * c + 12) i + nI u) = nI (min 9 (v + u)) := by
    rw [hv2, nI_add]
    exact cy_mn_n (a := 9) (by decide) (by omega)
  have eT2 : cy_mn 9 (M 10 (8 * c + i) + nI u) = nI (min 9 (v + u)) := by rw [← hte i hi]; exact eT
  generalize hM1 : va_up (cq_rs M) 10 (upd (M 10) (8 * c + i) (nI (min 9 (v + u)))) = M1
  have M1j : ∀ j, j ≠ 0 → j ≠ 10 → M1 j = M j := fun j g1 g2 => by rw [← hM1, cy_un g2]; exact cy_un g1
  have M10 : M1 10 = upd (M 10) (8 * c + i) (nI (min 9 (v + u))) := by rw [← hM1, cy_us]
  have M00 : M1 0 = upd (M 0) 0 0 := by rw [← hM1]; rfl
  generalize hT : cy_dT S c i (nI u) = T
  have hTe : T = upd (S (3 * c + 12)) i (nI (min 9 (v + u))) := by rw [← hT, ← eT]; rfl
  have ha : ∀ k, k < cq_hn M c → T k = M1 10 (8 * c + k) := fun k hk => by
    rw [hTe, M10]
    by_cases g : k = i
    · subst g
      rw [pk_us, pk_us]
    · rw [pk_un g, pk_un (by omega)]
      exact hte k hk
  have hz' : ∀ k, cq_hn M c ≤ k → k < 8 → T k = 0 := fun k g1 g2 => by
    rw [hTe, pk_un (by omega)]
    exact hz k (by rw [← ehn]; exact g1) g2
  have hnc : cq_hn M1 c = cq_hn M c := cq_hn_c (M1j 6 (by decide) (by decide)) (M1j 7 (by decide) (by decide)) (M1j 8 (by decide) (by decide))
  have esum : cy_sm T 8 = cq_tn M1 c := by
    unfold cq_tn
    rw [hnc]
    exact r_sum h8 ha hz'
  generalize hF : (if cq_tn M1 c ≤ 5 * nI (cq_hn M c) then M 9 c else M 9 c + 1) = F
  generalize hS' : cy_nDr S c i (nI u) = S'
  generalize hM' : (cq_Dr M (nI c) (nI i) (nI u) nc).1 = M'
  have eM' : M' = if cq_tn M1 c ≤ 5 * nI (cq_hn M c) then M1 else va_up M1 9 (upd (M 9) c (M 9 c + 1)) := by
    rw [← hM']
    unfold cq_Dr
    rw [if_neg h1, ec, if_neg h2, if_neg h3, ei, eT2, hM1]
  have S11 : ∀ k, k ≠ 3 → S' (3 * c + 11) k = S (3 * c + 11) k := fun k hk => by
    rw [← hS']
    unfold cy_nDr
    split
    · rw [cy_un (by omega)]
    · rw [cy_us, pk_un hk]
  have S113 : S' (3 * c + 11) 3 = F := by
    rw [← hS', ← hF]
    unfold cy_nDr
    rw [hT, esum, r_hn h hc]
    split
    · rw [cy_un (by omega)]; exact f3
    · rw [cy_us, pk_us, f3]
  have S12 : S' (3 * c + 12) = T := by
    rw [← hS']
    unfold cy_nDr
    rw [hT]
    split
    · rw [cy_us]
    · rw [cy_un (by omega), cy_us]
  have Sj : ∀ j, j ≠ 3 * c + 11 → j ≠ 3 * c + 12 → S' j = S j := fun j g1 g2 => by
    rw [← hS']
    unfold cy_nDr
    split
    · rw [cy_un g2]
    · rw [cy_un g1, cy_un g2]
  have Mj : ∀ j, j ≠ 0 → j ≠ 9 → j ≠ 10 → M' j = M j := fun j g1 g2 g3 => by
    rw [eM']
    split
    · exact M1j j g1 g3
    · rw [cy_un g2]; exact M1j j g1 g3
  have M9 : M' 9 c = F ∧ ∀ d, d ≠ c → M' 9 d = M 9 d := by
    rw [eM', ← hF]
    split
    · rw [M1j 9 (by decide) (by decide)]
      exact ⟨rfl, fun _ _ => rfl⟩
    · rw [cy_us]
      exact ⟨pk_us, fun d g => pk_un g⟩
  have M10' : M' 10 = M1 10 := by
    rw [eM']
    split
    · rfl
    · rw [cy_un (by decide)]
  have M0' : M' 0 = upd (M 0) 0 0 := by
    rw [eM']
    split
    · exact M00
    · rw [cy_un (by decide)]; exact M00
  refine r_good (M1 := M') (v := nI (min 9 (v + u))) (ns := ns) (no := no) (nc := nc) (mo := mo) ?_ et0 ?_ (by rw [M0']; exact pk_us) (by rw [ei]; exact eT)
  · rw [ei, hS']
    refine h.mk1 (h.1.rs (Sj 0 (by omega) (by omega)) (fun k hk => by rw [M0', pk_un hk])) (fun i' hi' => (h.2.1 i' hi').keep ⟨Sj 1 (by omega) (by omega), Sj 2 (by omega) (by omega), Sj 3 (by omega) (by omega)⟩ ⟨Mj 1 (by decide) (by decide) (by decide), Mj 2 (by decide) (by decide) (by decide), Mj 3 (by decide) (by decide) (by decide)⟩) ⟨Sj 4 (by omega) (by omega), Sj 5 (by omega) (by omega), Sj 6 (by omega) (by omega)⟩ ⟨Mj 4 (by decide) (by decide) (by decide), Mj 5 (by decide) (by decide) (by decide), Mj 6 (by decide) (by decide) (by decide), Mj 7 (by decide) (by decide) (by decide)⟩ (Nat.le_succ _) (fun d hd => ?_) (fun d hd => by rw [Mj 15 (by decide) (by decide) (by decide)]; exact h.2.2.2.2.1 d hd) (by rw [R_gr_c (Mj 15 (by decide) (by decide) (by decide))]; exact h.2.2.2.2.2)
    by_cases g : d = c
    · subst g
      refine Or.inr (R_c1.sd hj (by rw [Mj 7 (by decide) (by decide) (by decide)]; exact s1) (by rw [S11 0 (by decide), Mj 7 (by decide) (by decide) (by decide)]; exact s3) (by rw [S11 2 (by decide)]; exact s4) (by rw [Mj 8 (by decide) (by decide) (by decide)]; exact s5) ?_ (by rw [Sj 3 (by omega) (by omega)]; exact s7))
      refine s6.tf (Nat.le_succ _) S11 (Sj _ (by omega) (by omega)) (Mj 5 (by decide) (by decide) (by decide)) (Mj 6 (by decide) (by decide) (by decide)) (Mj 7 (by decide) (by decide) (by decide)) (Mj 11 (by decide) (by decide) (by decide)) (Mj 12 (by decide) (by decide) (by decide)) (Mj 13 (by decide) (by decide) (by decide)) (Mj 14 (by decide) (by decide) (by decide)) (Mj 15 (by decide) (by decide) (by decide)) (by rw [S113, M9.1]) ?_ ?_ ?_
      · rw [← ehn, S12, M10']; exact ha
      · rw [← ehn, S12]; exact hz'
      · intro k hk
        rw [S12, hTe]
        by_cases g : k = i
        · subst g
          exact ⟨_, by omega, pk_us⟩
        · rw [pk_un g]
          exact h9 k hk
    · refine Or.inl ⟨⟨⟨Sj _ (by omega) (by omega), Sj _ (by omega) (by omega), Sj _ (by omega) (by omega)⟩, ⟨?_, ?_, ?_, ?_, ?_, ?_⟩, fun k hk => ?_, fun k hk => ?_⟩, fun i' _ => ?_⟩
      · rw [Mj 8 (by decide) (by decide) (by decide)]
      · exact M9.2 d g
      · rw [Mj 11 (by decide) (by decide) (by decide)]
      · rw [Mj 12 (by decide) (by decide) (by decide)]
      · rw [Mj 13 (by decide) (by decide) (by decide)]
      · rw [Mj 15 (by decide) (by decide) (by decide)]
      · rw [M10', M10, pk_un (by omega)]
      · rw [Mj 14 (by decide) (by decide) (by decide)]
      · rw [Sj 3 (by omega) (by omega)]
  · have e2 : (cq_Dr M (nI c) (nI i) (nI u) nc).2 = nI (min 9 (v + u)) := by
      unfold cq_Dr
      rw [if_neg h1, ec, if_neg h2, if_neg h3, ei]
      exact eT2
    rw [← hM', ← e2]
