/-! fill, drive -/
theorem r_g0 {α : Type} {x : Int32} {n : Nat} {u v : α} (hn : n < 2 ^ 31) : (if cy_rIs x (nI n) = 0 then u else v) = if cq_in x 0 (nI n - 1) = 0 then u else v := by
  by_cases q : cy_rIs x (nI n) = 0
  · rw [if_pos q, if_pos ((r_is hn).mpr q)]
  · rw [if_neg q, if_neg (fun z => q ((r_is hn).mp z))]
theorem r_g1 {α : Type} {y lo hi : Int32} {u v : α} : (if y < lo then u else if y ≤ hi then v else u) = if cq_in y lo hi = 0 then u else v := by
  by_cases q : y < lo
  · rw [if_pos q, if_pos (cq_in_i.mpr (fun z => Int32.not_le.mpr q z.1))]
  · rw [if_neg q]
    by_cases q2 : y ≤ hi
    · rw [if_pos q2, if_neg (fun z => cq_in_i.mp z ⟨Int32.not_lt.mp q, q2⟩)]
    · rw [if_neg q2, if_pos (cq_in_i.mpr (fun z => q2 z.2))]
theorem r_g2 {α : Type} {y lo hi b : Int32} {u v : α} (h : hi.toInt + 1 = b.toInt) : (if y < lo then u else if y < b then v else u) = if cq_in y lo hi = 0 then u else v := by
  rw [← r_g1]
  by_cases q : y < lo
  · rw [if_pos q, if_pos q]
  · rw [if_neg q, if_neg q]
    by_cases q2 : y ≤ hi
    · rw [if_pos q2, if_pos ((cy_l3 h).mpr q2)]
    · rw [if_neg q2, if_neg (fun z => q2 ((cy_l3 h).mp z))]
theorem r_5 {N N' : Nat → Nat} {i u : Nat} (hi : i < 5) (h : ∀ k, k < 5 → k ≠ i → N' k = N k) (e : N' i = N i + u) : N' 0 + N' 1 + N' 2 + N' 3 + N' 4 = N 0 + N 1 + N 2 + N 3 + N 4 + u := by
  have hi5 : i = 0 ∨ i = 1 ∨ i = 2 ∨ i = 3 ∨ i = 4 := by omega
  have a0 := h 0 (by decide)
  have a1 := h 1 (by decide)
  have a2 := h 2 (by decide)
  have a3 := h 3 (by decide)
  have a4 := h 4 (by decide)
  rcases hi5 with rfl | rfl | rfl | rfl | rfl <;> omega
theorem Rel.sd {S M : Nat → Nat → Int32} {ns no nc mo t c : Nat} (h : Rel S M ns no nc mo t) (hc : c < nc) (h8 : ¬ M 8 c = 0) : ∃ j, j < no ∧ M 7 c = nI j ∧ cq_so M c = j ∧ S (3 * c + 11) 0 = M 7 c ∧ S (3 * c + 11) 2 = 1 ∧ M 8 c = 1 ∧ R_cd S M t c c ∧ ∃ i, i < ns ∧ S 3 i = nI c := by
  have h6 := h.1.2.1.2.2
  obtain ⟨⟨a1, j, hj, a2⟩, hb⟩ := h.2.2.2.1 c hc
  rcases hb with ⟨b1, b2, b3⟩ | ⟨b1, b2, b3⟩
  · obtain ⟨q1, q2⟩ := R_cs_iff.mp b3
    exact ⟨j, hj, a2, by unfold cq_so; rw [a2]; exact nI_clamp (by omega), a1, b1, b2, q1, q2⟩
  · exact absurd b2 h8
theorem R_c1.sd {S M : Nat → Nat → Int32} {ns no t c j : Nat} (hj : j < no) (h7 : M 7 c = nI j) (h0 : S (3 * c + 11) 0 = M 7 c) (h2 : S (3 * c + 11) 2 = 1) (h8 : M 8 c = 1) (q : R_cd S M t c c) (hi : ∃ i, i < ns ∧ S 3 i = nI c) : R_c1 S M ns no t c :=
  ⟨⟨h0, j, hj, h7⟩, Or.inl ⟨h2, h8, R_cs_iff.mpr ⟨q, hi⟩⟩⟩
theorem Rel.room {S M : Nat → Nat → Int32} {ns no nc mo t j : Nat} (h : Rel S M ns no nc mo t) (hj : j < no) : ∃ w, 100 ≤ w ∧ w ≤ 60000 ∧ M 5 j = nI w ∧ S 5 j = nI w := by
  obtain ⟨⟨-, e5, -⟩, -, ⟨w, w1, w2, w3⟩, -⟩ := h.2.2.1.1 j hj
  exact ⟨w, w1, w2, by rw [← e5]; exact w3, w3⟩
/-- a sound cask's liquids, fillings and grains change -/
theorem R_cd.am {S M S' M' : Nat → Nat → Int32} {t t' d c w f : Nat} {N : Nat → Nat} (h : R_cd S M t d c) (e11 : ∀ k, k ≠ 6 → k ≠ 8 → S' (3 * d + 11) k = S (3 * d + 11) k) (e12 : S' (3 * d + 12) = S (3 * d + 12)) (m5 : M' 5 = M 5) (m6 : M' 6 = M 6) (m7 : M' 7 = M 7) (m9 : M' 9 = M 9) (m10 : M' 10 = M 10) (m11 : M' 11 = M 11) (m13 : M' 13 = M 13) (hf : S' (3 * d + 11) 6 = nI f) (hf2 : M' 12 c = nI f) (hft : f ≤ t') (hg : S' (3 * d + 11) 8 = M' 15 c) (ha : ∀ k, k < 5 → S' (3 * d + 13) k = nI (N k)) (hb : ∀ k, k < 5 → M' 14 (5 * c + k) = nI (N k)) (hW : N 0 + N 1 + N 2 + N 3 + N 4 ≤ w) (hr : M 5 (cq_so M c) = nI w) (hw : w ≤ 60000) : R_cd S' M' t' d c := by
  obtain ⟨⟨a1, a2, a3, a4, a5, a6, a7⟩, -, b2, b3, -, b5⟩ := h
  have so : cq_so M' c = cq_so M c := by unfold cq_so; rw [m7]
  have hN : ∀ k, k < 5 → N k ≤ 60000 := fun k hk => by
    have hk5 : k = 0 ∨ k = 1 ∨ k = 2 ∨ k = 3 ∨ k = 4 := by omega
    rcases hk5 with rfl | rfl | rfl | rfl | rfl <;> omega
  have hq : ∀ k, k < 5 → cq_hN M' c k = N k := fun k hk => by
    unfold cq_hN
    rw [hb k hk]
    have := hN k hk
    exact nI_clamp (by omega)
  refine ⟨⟨?_, ?_, ?_, ?_, ?_, ?_, hg⟩, ⟨fun k hk => by rw [ha k hk, hb k hk], fun k hk => ?_, ?_⟩, ?_, ⟨?_, ⟨f, hft, hf2⟩, ?_⟩⟩
  · rw [so, m5, e11 1 (by decide) (by decide)]; exact a1
  · rw [m9, e11 3 (by decide) (by decide)]; exact a2
  · rw [so, m6, e11 4 (by decide) (by decide)]; exact a3
  · rw [m11, e11 5 (by decide) (by decide)]; exact a4
  · rw [hf, hf2]
  · rw [m13, e11 7 (by decide) (by decide)]; exact a6
  · rw [hq k hk]
    exact ⟨hN k hk, hb k hk⟩
  · unfold cq_hW
    rw [hq 0 (by decide), hq 1 (by decide), hq 2 (by decide), hq 3 (by decide), hq 4 (by decide), so, m5, hr, nI_clamp (by omega)]
    exact hW
  · rw [so, m6, e12, m10]; exact b2
  · rw [m11]; exact b3
  · rw [m13]; exact b5
theorem s_fill {S M : Nat → Nat → Int32} {x y z : Int32} {ns no nc mo t : Nat} (ht : t ≤ 1000000) (h : Rel S M ns no nc mo t) : R_F cy_IB cy_IA (cy_tFi S x y z nc) (cq_Fi M x y z nc) (cy_sm (cy_nFi S x.toNatClampNeg y.toNatClampNeg z (3 * x.toNatClampNeg + 13)) 5) (cy_if (cy_tFi S x y z nc) (cy_nFi S x.toNatClampNeg y.toNatClampNeg z) S) (t + 1) := by
  have h12 := h.1.2.2.1.2.2
  have et : cy_tFi S x y z nc = if cq_in x 0 (nI nc - 1) = 0 then some cy_IB else if cq_in y 0 3 = 0 then some cy_IA else if cq_in z 1 60000 = 0 then some cy_IA else if S (3 * x.toNatClampNeg + 11) 2 = 0 then some cy_IS else if cy_sm (S (3 * x.toNatClampNeg + 13)) 5 + z ≤ S (3 * x.toNatClampNeg + 11) 1 then none else some cy_IS := by
    unfold cy_tFi
    rw [r_g0 (by omega), r_g2 (hi := 3) (by decide), r_g1]
  by_cases h1 : cq_in x 0 (nI nc - 1) = 0
  · exact r_bad h (E := cy_IB) (k := 1) (by rw [et, if_pos h1]) (by unfold cq_Fi; rw [if_pos h1]) rfl
  by_cases h2 : cq_in y 0 3 = 0
  · exact r_bad h (E := cy_IA) (k := 2) (by rw [et, if_neg h1, if_pos h2]) (by unfold cq_Fi; rw [if_neg h1, if_pos h2]) rfl
  by_cases h3 : cq_in z 1 60000 = 0
  · exact r_bad h (E := cy_IA) (k := 2) (by rw [et, if_neg h1, if_neg h2, if_pos h3]) (by unfold cq_Fi; rw [if_neg h1, if_neg h2, if_pos h3]) rfl
  obtain ⟨c, hc, rfl⟩ := cq_in_t (by omega) h1
  obtain ⟨i, hi, rfl⟩ := cq_in_l (n := 3) (by decide) h2
  obtain ⟨u, ⟨hu1, hu2⟩, rfl⟩ := cq_in_l1 (n := 60000) (by decide) h3
  have ec : (nI c).toNatClampNeg = c := nI_clamp (by omega)
  have ei : (nI i).toNatClampNeg = i := nI_clamp (by omega)
  rw [ec] at et
  rw [ec, ei]
  have hso := h.so c hc
  by_cases h8 : M 8 c = 0
  · exact r_bad h (E := cy_IS) (k := 3) (by rw [et, if_neg h1, if_neg h2, if_neg h3, if_pos (by rw [hso]; exact h8)]) (by unfold cq_Fi; rw [if_neg h1, if_neg h2, if_neg h3, ec, if_pos h8]) rfl
  obtain ⟨j, hj, s1, s2, s3, s4, s5, s6, s7⟩ := h.sd hc h8
  obtain ⟨w, w1, w2, w3, w4⟩ := h.room hj
  have hal := r_al h hc
  have hro : S (3 * c + 11) 1 = M 5 (cq_so M c) := s6.1.1
  have hH := h.hd c hc
  have hW := cq_al_n hH
  have hWw : cq_hW M c ≤ w := by
    have q := s6.2.1.2.2
    rw [s2, w3, nI_clamp (by omega)] at q
    exact q
  by_cases h5 : cq_al M c + nI u ≤ M 5 (cq_so M c)
  case neg => exact r_bad h (E := cy_IS) (k := 3) (by rw [et, if_neg h1, if_neg h2, if_neg h3, if_neg (by rw [hso]; exact h8), hal, hro, if_neg h5]) (by unfold cq_Fi; rw [if_neg h1, if_neg h2, if_neg h3, ec, if_neg h8, if_neg h5]) rfl
  have hsum : cq_hW M c + u ≤ w := by
    have q := h5
    rw [hW, nI_add, s2, w3] at q
    exact cy_le (by omega) (by omega) q
  have s6k := s6
  obtain ⟨⟨-, -, -, -, f6, -, f8⟩, ⟨am, -, -⟩, -, -, ⟨q, hq1, hq2⟩, -⟩ := s6
  obtain ⟨F, hF, hFt⟩ : ∃ F, (if cq_al M c = 0 then M 12 c + 1 else M 12 c + 0) = nI F ∧ F ≤ t + 1 := by
    split
    · exact ⟨q + 1, by rw [hq2, nI_1], by omega⟩
    · exact ⟨q, by rw [hq2, Int32.add_zero], by omega⟩
  have SC : ∀ k, k ≠ 6 → cy_sCf S c (3 * c + 11) k = S (3 * c + 11) k := fun k hk => by
    unfold cy_sCf
    split
    · rfl
    · rw [cy_us, pk_un hk]
  have SC6 : cy_sCf S c (3 * c + 11) 6 = nI F := by
    rw [← hF]
    unfold cy_sCf
    rw [hal, f6]
    by_cases g : cq_al M c = 0
    · rw [if_neg (fun z => z g), if_pos g, cy_us, pk_us]
    · rw [if_pos g, if_neg g, f6, Int32.add_zero]
  generalize hS' : cy_nFi S c i (nI u) = S'
  generalize hM' : cq_nFi M c i (nI u) = M'
  have S11 : S' (3 * c + 11) = cy_sCf S c (3 * c + 11) := by rw [← hS']; unfold cy_nFi; rw [cy_un (by omega)]
  have S13 : S' (3 * c + 13) = upd (S (3 * c + 13)) i (S (3 * c + 13) i + nI u) := by rw [← hS']; unfold cy_nFi; rw [cy_us, cy_sCf_n (by omega)]
  have Sj : ∀ j, j ≠ 3 * c + 11 → j ≠ 3 * c + 13 → S' j = S j := fun j g1 g2 => by rw [← hS']; unfold cy_nFi; rw [cy_un g2, cy_sCf_n g1]
  have bal : cq_al (cq_rs M) c = cq_al M c := rfl
  have M0 : M' 0 = upd (M 0) 0 0 := by rw [← hM']; rfl
  have M12 : M' 12 = upd (M 12) c (nI F) := by rw [← hM', ← hF]; rfl
  have M14 : M' 14 = upd (M 14) (5 * c + i) (M 14 (5 * c + i) + nI u) := by rw [← hM']; rfl
  have Mj : ∀ j, j ≠ 0 → j ≠ 12 → j ≠ 14 → M' j = M j := fun j g1 g2 g3 => by rw [← hM']; unfold cq_nFi cq_bf cq_rs; rw [cy_un g3, cy_un g2, cy_un g1]
  let N : Nat → Nat := fun k => if k = i then cq_hN M c i + u else cq_hN M c k
  have hN : ∀ k, k < 5 → M' 14 (5 * c + k) = nI (N k) := fun k hk => by
    rw [M14]
    show _ = nI (if k = i then cq_hN M c i + u else cq_hN M c k)
    by_cases g : k = i
    · subst g
      rw [pk_us, if_pos rfl, ← nI_add, ← (hH k hk).2]
    · rw [pk_un (by omega), if_neg g]
      exact (hH k hk).2
  have hN2 : ∀ k, k < 5 → S' (3 * c + 13) k = nI (N k) := fun k hk => by
    rw [S13, ← hN k hk, M14]
    by_cases g : k = i
    · subst g
      rw [pk_us, pk_us, am k hk]
    · rw [pk_un g, pk_un (by omega)]
      exact am k hk
  have e : cy_tFi S (nI c) (nI i) (nI u) nc = none := by rw [et, if_neg h1, if_neg h2, if_neg h3, if_neg (by rw [hso]; exact h8), hal, hro, if_pos h5]
  refine r_good (M1 := M') (v := cq_al M' c) (ns := ns) (no := no) (nc := nc) (mo := mo) ?_ e ?_ ?_ ?_
  · refine h.mk1 (h.1.rs (Sj 0 (by omega) (by omega)) (fun k hk => by rw [M0, pk_un hk])) (fun i' hi' => (h.2.1 i' hi').keep ⟨Sj 1 (by omega) (by omega), Sj 2 (by omega) (by omega), Sj 3 (by omega) (by omega)⟩ ⟨Mj 1 (by decide) (by decide) (by decide), Mj 2 (by decide) (by decide) (by decide), Mj 3 (by decide) (by decide) (by decide)⟩) ⟨Sj 4 (by omega) (by omega), Sj 5 (by omega) (by omega), Sj 6 (by omega) (by omega)⟩ ⟨Mj 4 (by decide) (by decide) (by decide), Mj 5 (by decide) (by decide) (by decide), Mj 6 (by decide) (by decide) (by decide), Mj 7 (by decide) (by decide) (by decide)⟩ (Nat.le_succ _) (fun d hd => ?_) (fun d hd => by rw [Mj 15 (by decide) (by decide) (by decide)]; exact h.2.2.2.2.1 d hd) (by rw [R_gr_c (Mj 15 (by decide) (by decide) (by decide))]; exact h.2.2.2.2.2)
    by_cases g : d = c
    · subst g
      refine Or.inr (R_c1.sd hj (by rw [Mj 7 (by decide) (by decide) (by decide)]; exact s1) (by rw [S11, SC 0 (by decide), Mj 7 (by decide) (by decide) (by decide)]; exact s3) (by rw [S11, SC 2 (by decide)]; exact s4) (by rw [Mj 8 (by decide) (by decide) (by decide)]; exact s5) ?_ ?_)
      · refine s6k.am (N := N) (w := w) (f := F) (fun k g1 _ => by rw [S11, SC k g1]) (Sj _ (by omega) (by omega)) (Mj 5 (by decide) (by decide) (by decide)) (Mj 6 (by decide) (by decide) (by decide)) (Mj 7 (by decide) (by decide) (by decide)) (Mj 9 (by decide) (by decide) (by decide)) (Mj 10 (by decide) (by decide) (by decide)) (Mj 11 (by decide) (by decide) (by decide)) (Mj 13 (by decide) (by decide) (by decide)) (by rw [S11]; exact SC6) (by rw [M12, pk_us]) hFt (by rw [S11, SC 8 (by decide), Mj 15 (by decide) (by decide) (by decide)]; exact f8) hN2 hN ?_ (by rw [s2]; exact w3) w2
        rw [r_5 (N := cq_hN M d) (N' := N) (i := i) (u := u) (by omega) (fun k _ g => if_neg g) (if_pos rfl)]
        exact hsum
      · rw [Sj 3 (by omega) (by omega)]
        exact s7
    · refine Or.inl ⟨⟨⟨Sj _ (by omega) (by omega), Sj _ (by omega) (by omega), Sj _ (by omega) (by omega)⟩, ⟨?_, ?_, ?_, ?_, ?_, ?_⟩, fun k hk => ?_, fun k hk => ?_⟩, fun i' _ => ?_⟩
      · rw [Mj 8 (by decide) (by decide) (by decide)]
      · rw [Mj 9 (by decide) (by decide) (by decide)]
      · rw [Mj 11 (by decide) (by decide) (by decide)]
      · rw [M12, pk_un g]
      · rw [Mj 13 (by decide) (by decide) (by decide)]
      · rw [Mj 15 (by decide) (by decide) (by decide)]
      · rw [Mj 10 (by decide) (by decide) (by decide)]
      · rw [M14, pk_un (by omega)]
      · rw [Sj 3 (by omega) (by omega)]
  · unfold cq_Fi
    rw [if_neg h1, if_neg h2, if_neg h3, ec, ei, if_neg h8, if_pos h5, hM']
  · rw [M0]; exact pk_us
  · refine cy_sm_c (fun k hk => ?_)
    rw [hN2 k hk, hN k hk]
