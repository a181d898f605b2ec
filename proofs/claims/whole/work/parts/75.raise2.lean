/-! raise: the call -/
theorem r_raise {S M : Nat → Nat → Int32} {Z : Nat → Int64} {ns no nc mo t j g b : Nat} (h : Rel S M ns no nc mo t) (hfr : R_fr S M nc) (hj : j < no) (h12 : nc < 12) (hg : cy_gi S (nI j) = g) (hb1 : 1 ≤ b) (hb2 : b < 1505) (hb3 : R_dp S ns ns b ≠ 1000) (hb4 : ∀ i, i < 64 → (cy_rFs S Z ns g).toBitVec.getLsbD i = R_bt S ns ns b i) (hb6 : cq_chs (cq_rs M) ns g = cq_ch (cq_rs M) (cq_F (cq_rs M) ns) b ns) : cq_rc M ns g (nI j) nc 0 0 = 0 ∧ Rel (cy_nRa S Z (nI j) ns nc) (cq_rc M ns g (nI j) nc) ns no (nc + 1) mo (t + 1) ∧ R_fr (cy_nRa S Z (nI j) ns nc) (cq_rc M ns g (nI j) nc) (nc + 1) := by
  have h6 := h.1.2.1.2.2
  have h60 := h.1.1.2.2
  have ej : (nI j).toNatClampNeg = j := nI_clamp (by omega)
  have hM : ∀ i, i < ns → cy_rUs (cq_rs M) i = cy_rUs S i ∧ (cq_rs M) 1 i = S 1 i := fun i hi => by
    obtain ⟨⟨a1, a2, a3⟩, -⟩ := h.rs.2.1 i hi
    refine ⟨?_, a1.symm⟩
    unfold cy_rUs
    rw [a2, a3]
  have hwd : ∀ i, i < ns → 1 ≤ cq_wd S i := fun i hi => (h.wd i hi).1
  obtain ⟨⟨o4, o5, o6⟩, -, ⟨r, r1, r2, r3⟩, hk, hk1, hk2, hk3⟩ := h.2.2.1.1 j hj
  have ehk : (S 6 j).toNatClampNeg = hk := by rw [hk3]; exact nI_clamp (by omega)
  have ehk' : (M 6 j).toNatClampNeg = hk := by rw [← o6]; exact ehk
  obtain ⟨fr1, fr2, fr3⟩ := hfr nc (Nat.le_refl _) h12
  -- the class
  have B8 : ∀ k, k < 9 → cy_rB S Z (nI j) ns nc k = S k := fun k a => cy_rB_0 a
  have A11 : cy_rA S Z (nI j) ns nc (3 * nc + 11) = upd (upd (upd (S (3 * nc + 11)) 0 (nI j)) 1 (S 5 j)) 2 1 := by unfold cy_rA; rw [cy_us, ej]
  have Aj : ∀ k, k ≠ 9 → k ≠ 3 * nc + 11 → cy_rA S Z (nI j) ns nc k = S k := fun k a d => by unfold cy_rA; rw [cy_un d, cy_un a]
  have B11 : cy_rB S Z (nI j) ns nc (3 * nc + 11) = upd (upd (upd (upd (S (3 * nc + 11)) 0 (nI j)) 1 (S 5 j)) 2 1) 4 (nI hk) := by
    unfold cy_rB
    rw [ej, ehk, cy_po_n (by omega), cy_us, A11]
  have B12 : ∀ k, k < 8 → cy_rB S Z (nI j) ns nc (3 * nc + 12) k = if k < hk then 3 else 0 := fun k a => by
    unfold cy_rB
    rw [ej, ehk, cy_po_v, cy_un (by omega), Aj _ (by omega) (by omega), fr2 k a]
  have Bj : ∀ k, k ≠ 9 → k ≠ 3 * nc + 11 → k ≠ 3 * nc + 12 → cy_rB S Z (nI j) ns nc k = S k := fun k a d e => by
    unfold cy_rB
    rw [cy_po_n e, cy_un d, Aj k a d]
  -- the reference
  have A3 : ∀ k, k ≠ 0 → k ≠ 7 → k ≠ 8 → k ≠ 9 → k ≠ 16 → k ≠ 17 → cq_ra M ns g (nI j) nc k = M k := fun k a d e f i l => cq_ra_n a d e f i l
  have sF : ∀ k, k ≠ 0 → k ≠ 16 → k ≠ 17 → cq_sFd (cq_rs M) ns g k = M k := fun k a d e => by rw [cq_sFd_n a d e]; exact cy_un a
  have A9 : cq_ra M ns g (nI j) nc 9 = upd (M 9) nc 0 := by unfold cq_ra; rw [cy_us, sF 9 (by decide) (by decide) (by decide)]
  have A8 : cq_ra M ns g (nI j) nc 8 = upd (M 8) nc 1 := by unfold cq_ra; rw [cy_un (by decide), cy_us, sF 8 (by decide) (by decide) (by decide)]
  have A7 : cq_ra M ns g (nI j) nc 7 = upd (M 7) nc (nI j) := by unfold cq_ra; rw [cy_un (by decide), cy_un (by decide), cy_us, sF 7 (by decide) (by decide) (by decide)]
  obtain ⟨p1, p2, p3⟩ := r_put (S := S) (M := cq_rs M) (B := cy_rB S Z (nI j) ns nc) (A := cq_ra M ns g (nI j) nc) (nc := nc) (z := cy_rFs S Z ns g) h60 hb2 hM hwd hb3 hb4 (fun i hi => by rw [B8 3 (by decide), A3 3 (by decide) (by decide) (by decide) (by decide) (by decide) (by decide)]; exact (h.2.1 i hi).1.2.2) (fun i hi => by rw [B8 2 (by decide), A3 2 (by decide) (by decide) (by decide) (by decide) (by decide) (by decide)]; exact (h.2.1 i hi).1.2.1) (by rw [A9, pk_us]) (Nat.le_refl ns)
  rw [← hb6] at p1 p2 p3
  have eP : cy_rP S Z (nI j) ns nc = cy_ps (cy_rB S Z (nI j) ns nc) (cy_rFs S Z ns g) (nI nc) ns := by unfold cy_rP; rw [hg]
  rw [← eP] at p1 p2
  have Pn : ∀ k, k ≠ 3 → (cy_rP S Z (nI j) ns nc).1 k = cy_rB S Z (nI j) ns nc k := fun k a => by rw [eP]; exact cy_ps_n a
  generalize hR : cq_r2 (cq_ra M ns g (nI j) nc) (cq_chs (cq_rs M) ns g).1 nc (cq_chs (cq_rs M) ns g).2.1 = R at p1 p2 p3
  have Rn : ∀ k, k ≠ 3 → k ≠ 9 → R k = cq_ra M ns g (nI j) nc k := fun k a d => by rw [← hR]; exact cq_r2_n a d
  have eB : cq_rb M ns g (nI j) nc = cq_r3 R nc hk 8 := by unfold cq_rb; rw [hR, ej, ehk']
  generalize hS' : cy_nRa S Z (nI j) ns nc = S'
  generalize hM' : cq_rc M ns g (nI j) nc = M'
  generalize hPP : cy_rP S Z (nI j) ns nc = P at p1 p2 Pn
  have eS : S' = va_up (va_up P.1 (3 * nc + 11) (upd (P.1 (3 * nc + 11)) 3 P.2)) 0 (upd (P.1 0) 9 (nI (nc + 1))) := by rw [← hS']; unfold cy_nRa; rw [hPP]
  have S0 : S' 0 = upd (S 0) 9 (nI (nc + 1)) := by rw [eS, cy_us, Pn 0 (by decide), B8 0 (by decide)]
  have S11 : S' (3 * nc + 11) = upd (upd (upd (upd (upd (S (3 * nc + 11)) 0 (nI j)) 1 (S 5 j)) 2 1) 4 (nI hk)) 3 P.2 := by rw [eS, cy_un (by omega), cy_us, Pn _ (by omega), B11]
  have S3 : S' 3 = P.1 3 := by rw [eS, cy_un (by decide), cy_un (by omega)]
  have S12 : ∀ k, k < 8 → S' (3 * nc + 12) k = if k < hk then 3 else 0 := fun k a => by rw [eS, cy_un (by omega), cy_un (by omega), Pn _ (by omega), B12 k a]
  have Sj : ∀ k, k ≠ 0 → k ≠ 3 → k ≠ 9 → k ≠ 3 * nc + 11 → k ≠ 3 * nc + 12 → S' k = S k := fun k a d e f i => by rw [eS, cy_un a, cy_un f, Pn k d, Bj k e f i]
  have eM : M' = va_up (va_up (va_up (va_up (va_up (cq_r3 R nc hk 8) 11 (upd (cq_r3 R nc hk 8 11) nc 0)) 12 (upd (cq_r3 R nc hk 8 12) nc 0)) 13 (upd (cq_r3 R nc hk 8 13) nc 0)) 15 (upd (cq_r3 R nc hk 8 15) nc 0)) 0 (upd (cq_r3 R nc hk 8 0) 12 (nI (nc + 1))) := by rw [← hM']; unfold cq_rc; rw [eB]
  have R3n : ∀ k, k ≠ 10 → cq_r3 R nc hk 8 k = R k := fun k a => cq_r3_n a
  have Ms : ∀ k, k ≠ 0 → k ≠ 11 → k ≠ 12 → k ≠ 13 → k ≠ 15 → M' k = cq_r3 R nc hk 8 k := fun k a d e f i => by rw [eM, cy_un a, cy_un i, cy_un f, cy_un e, cy_un d]
  have Mj : ∀ k, k ≠ 0 → k ≠ 3 → k ≠ 7 → k ≠ 8 → k ≠ 9 → k ≠ 10 → k ≠ 11 → k ≠ 12 → k ≠ 13 → k ≠ 15 → k ≠ 16 → k ≠ 17 → M' k = M k := fun k a d e f i l m n o p q s => by rw [Ms k a m n o p, R3n k l, Rn k d i, A3 k a e f i q s]
  have RR : ∀ k, k ≠ 0 → k ≠ 3 → k ≠ 7 → k ≠ 8 → k ≠ 9 → k ≠ 10 → k ≠ 16 → k ≠ 17 → cq_r3 R nc hk 8 k = M k := fun k a d e f i l q s => by rw [R3n k l, Rn k d i, A3 k a e f i q s]
  have M3 : M' 3 = R 3 := by rw [Ms 3 (by decide) (by decide) (by decide) (by decide) (by decide), R3n 3 (by decide)]
  have M9 : M' 9 = R 9 := by rw [Ms 9 (by decide) (by decide) (by decide) (by decide) (by decide), R3n 9 (by decide)]
  have M7 : M' 7 = upd (M 7) nc (nI j) := by rw [Ms 7 (by decide) (by decide) (by decide) (by decide) (by decide), R3n 7 (by decide), Rn 7 (by decide) (by decide), A7]
  have M8 : M' 8 = upd (M 8) nc 1 := by rw [Ms 8 (by decide) (by decide) (by decide) (by decide) (by decide), R3n 8 (by decide), Rn 8 (by decide) (by decide), A8]
  have M10 : M' 10 = cq_r3 R nc hk 8 10 := Ms 10 (by decide) (by decide) (by decide) (by decide) (by decide)
  have M11 : M' 11 = upd (M 11) nc 0 := by rw [eM, cy_un (by decide), cy_un (by decide), cy_un (by decide), cy_un (by decide), cy_us, RR 11 (by decide) (by decide) (by decide) (by decide) (by decide) (by decide) (by decide) (by decide)]
  have M12 : M' 12 = upd (M 12) nc 0 := by rw [eM, cy_un (by decide), cy_un (by decide), cy_un (by decide), cy_us, RR 12 (by decide) (by decide) (by decide) (by decide) (by decide) (by decide) (by decide) (by decide)]
  have M13 : M' 13 = upd (M 13) nc 0 := by rw [eM, cy_un (by decide), cy_un (by decide), cy_us, RR 13 (by decide) (by decide) (by decide) (by decide) (by decide) (by decide) (by decide) (by decide)]
  have M15 : M' 15 = upd (M 15) nc 0 := by rw [eM, cy_un (by decide), cy_us, RR 15 (by decide) (by decide) (by decide) (by decide) (by decide) (by decide) (by decide) (by decide)]
  have M0 : M' 0 = upd (cq_ra M ns g (nI j) nc 0) 12 (nI (nc + 1)) := by rw [eM, cy_us, R3n 0 (by decide), Rn 0 (by decide) (by decide)]
  have M0k : ∀ k, k ≠ 0 → k ≠ 12 → k ≠ 23 → M' 0 k = M 0 k := fun k a d e => by rw [M0, pk_un d, cq_ra_0 e a]
  have M00 : M' 0 0 = 0 := by
    rw [M0, pk_un (by decide)]
    unfold cq_ra
    rw [cy_un (by decide), cy_un (by decide), cy_un (by decide), cq_sFd_0 (by decide)]
    rfl
  obtain ⟨q1, q2⟩ := cq_r3_v (S := R) (c := nc) (h := hk) (by omega) (Nat.le_refl 8)
  have M10c : ∀ k, k < 8 → M' 10 (8 * nc + k) = if k < hk then 3 else 0 := fun k a => by rw [M10, q1 k a]
  have M10d : ∀ d, d ≠ nc → ∀ k, k < 8 → M' 10 (8 * d + k) = M 10 (8 * d + k) := fun d e k a => by rw [M10, q2 _ (fun k' a' => by omega), Rn 10 (by decide) (by decide), A3 10 (by decide) (by decide) (by decide) (by decide) (by decide) (by decide)]
  have st : ∀ i, i < ns → S' 3 i = (if R_bt S ns ns b i = true then nI nc else S 3 i) ∧ M' 3 i = (if R_bt S ns ns b i = true then nI nc else S 3 i) := fun i hi => by
    obtain ⟨g1, g2⟩ := p1 i hi
    rw [S3, M3, g1, g2, B8 3 (by decide)]
    by_cases y : R_bt S ns ns b i = true
    · rw [if_pos ⟨hi, y⟩, if_pos y]
      exact ⟨rfl, rfl⟩
    · rw [if_neg (fun w => y w.2), if_neg y]
      exact ⟨rfl, rfl⟩
  have uses : ∀ i, i < ns → R_bt S ns ns b i = true → S 3 i = (-1) := fun i hi => r_use h60 hb2 hM hwd hb3 hi
  obtain ⟨⟨n1, n2, n3⟩, ⟨m1, m2, m3⟩, ⟨c1, c2, c3⟩, ⟨t1, t2, t3⟩, l1, wa, w1, w2, w3⟩ := h.1
  refine ⟨M00, ⟨?_, fun i hi => ?_, ⟨fun k hk' => ?_, fun k hk' => ?_, fun c hcc => ?_⟩, fun c hcc => ?_, fun c hcc => ?_, ?_⟩, fun c a1 a2 => ?_⟩
  · unfold R_n
    rw [S0, pk_un (by decide), pk_un (by decide), pk_us, pk_un (by decide), pk_un (by decide), pk_un (by decide), M0k 4 (by decide) (by decide) (by decide), M0k 8 (by decide) (by decide) (by decide), M0k 1 (by decide) (by decide) (by decide), M0k 3 (by decide) (by decide) (by decide), M0k 2 (by decide) (by decide) (by decide), M0, pk_us]
    exact ⟨⟨n1, n2, n3⟩, ⟨m1, m2, m3⟩, ⟨rfl, rfl, by omega⟩, ⟨t1, t2, t3⟩, l1, wa, w1, w2, w3⟩
  · obtain ⟨⟨a1, a2, a3⟩, a4, a5, a6⟩ := h.2.1 i hi
    obtain ⟨g1, g2⟩ := st i hi
    refine ⟨⟨?_, ?_, by rw [g1, g2]⟩, ?_, ?_, ?_⟩
    · rw [Sj 1 (by omega) (by omega) (by omega) (by omega) (by omega), Mj 1 (by decide) (by decide) (by decide) (by decide) (by decide) (by decide) (by decide) (by decide) (by decide) (by decide) (by decide) (by decide)]; exact a1
    · rw [Sj 2 (by omega) (by omega) (by omega) (by omega) (by omega), Mj 2 (by decide) (by decide) (by decide) (by decide) (by decide) (by decide) (by decide) (by decide) (by decide) (by decide) (by decide) (by decide)]; exact a2
    · rw [Sj 1 (by omega) (by omega) (by omega) (by omega) (by omega)]; exact a4
    · rw [Sj 2 (by omega) (by omega) (by omega) (by omega) (by omega)]; exact a5
    · rw [g1]
      split
      · exact Or.inr (Or.inr ⟨nc, by omega, rfl⟩)
      · rcases a6 with a6 | a6 | ⟨c, a6, a7⟩
        · exact Or.inl a6
        · exact Or.inr (Or.inl a6)
        · exact Or.inr (Or.inr ⟨c, by omega, a7⟩)
  · unfold R_o1
    rw [Sj 4 (by omega) (by omega) (by omega) (by omega) (by omega), Sj 5 (by omega) (by omega) (by omega) (by omega) (by omega), Sj 6 (by omega) (by omega) (by omega) (by omega) (by omega), Mj 4 (by decide) (by decide) (by decide) (by decide) (by decide) (by decide) (by decide) (by decide) (by decide) (by decide) (by decide) (by decide), Mj 5 (by decide) (by decide) (by decide) (by decide) (by decide) (by decide) (by decide) (by decide) (by decide) (by decide) (by decide) (by decide), Mj 6 (by decide) (by decide) (by decide) (by decide) (by decide) (by decide) (by decide) (by decide) (by decide) (by decide) (by decide) (by decide)]
    exact h.2.2.1.1 k hk'
  · rw [Mj 6 (by decide) (by decide) (by decide) (by decide) (by decide) (by decide) (by decide) (by decide) (by decide) (by decide) (by decide) (by decide)]; exact h.2.2.1.2.1 k hk'
  · rw [M7, pk_un (by omega)]; exact h.2.2.1.2.2 c (by omega)
  · by_cases e : c = nc
    · subst e
      obtain ⟨i, hi, bi⟩ := r_ex h60 hb1 hb2 hM hwd hb3
      have so : cq_so M' c = j := by unfold cq_so; rw [M7, pk_us]; exact ej
      have f11 : ∀ k, 5 ≤ k → k ≤ 8 → S' (3 * c + 11) k = 0 := fun k a d => by
        rw [S11, pk_un (by omega), pk_un (by omega), pk_un (by omega), pk_un (by omega), pk_un (by omega)]
        exact fr1 k (by omega) d
      have m14 : M' 14 = M 14 := Mj 14 (by decide) (by decide) (by decide) (by decide) (by decide) (by decide) (by decide) (by decide) (by decide) (by decide) (by decide) (by decide)
      have hN : ∀ k, k < 5 → cq_hN M' c k = 0 := fun k a => by
        unfold cq_hN
        rw [m14, (fr3 k a).2]
        rfl
      refine R_c1.sd hj (by rw [M7, pk_us]) (by rw [S11, M7, pk_us]; rfl) (by rw [S11]; rfl) (by rw [M8, pk_us]) ?_ ⟨i, hi, by rw [(st i hi).1, if_pos bi]⟩
      refine ⟨⟨?_, ?_, ?_, ?_, ?_, ?_, ?_⟩, ⟨fun k a => ?_, fun k a => ?_, ?_⟩, ⟨fun k a => ?_, fun k a d => ?_, fun k a => ?_⟩, ⟨0, by decide, by rw [M11, pk_us]; rfl⟩, ⟨0, by omega, by rw [M12, pk_us]; rfl⟩, ⟨0, by decide, by rw [M13, pk_us]; rfl⟩⟩
      · rw [so, Mj 5 (by decide) (by decide) (by decide) (by decide) (by decide) (by decide) (by decide) (by decide) (by decide) (by decide) (by decide) (by decide), ← o5, S11]
        rfl
      · rw [S11, pk_us, M9, p2]
      · rw [so, Mj 6 (by decide) (by decide) (by decide) (by decide) (by decide) (by decide) (by decide) (by decide) (by decide) (by decide) (by decide) (by decide), ← o6, hk3, S11]
        rfl
      · rw [f11 5 (by decide) (by decide), M11, pk_us]
      · rw [f11 6 (by decide) (by decide), M12, pk_us]
      · rw [f11 7 (by decide) (by decide), M13, pk_us]
      · rw [f11 8 (by decide) (by decide), M15, pk_us]
      · rw [Sj _ (by omega) (by omega) (by omega) (by omega) (by omega), (fr3 k a).1, m14, (fr3 k a).2]
      · rw [hN k a, m14, (fr3 k a).2]
        exact ⟨by decide, rfl⟩
      · unfold cq_hW
        rw [hN 0 (by decide), hN 1 (by decide), hN 2 (by decide), hN 3 (by decide), hN 4 (by decide)]
        exact Nat.zero_le _
      · rw [so, Mj 6 (by decide) (by decide) (by decide) (by decide) (by decide) (by decide) (by decide) (by decide) (by decide) (by decide) (by decide) (by decide), ehk'] at a
        rw [S12 k (by omega), M10c k (by omega)]
      · rw [so, Mj 6 (by decide) (by decide) (by decide) (by decide) (by decide) (by decide) (by decide) (by decide) (by decide) (by decide) (by decide) (by decide), ehk'] at a
        rw [S12 k d, if_neg (by omega)]
      · rw [S12 k a]
        split
        · exact ⟨3, by decide, rfl⟩
        · exact ⟨0, by decide, rfl⟩
    · refine (h.2.2.2.1 c (by omega)).loc7 ⟨⟨Sj _ (by omega) (by omega) (by omega) (by omega) (by omega), Sj _ (by omega) (by omega) (by omega) (by omega) (by omega), Sj _ (by omega) (by omega) (by omega) (by omega) (by omega)⟩, ⟨?_, ?_, ?_, ?_, ?_, ?_⟩, M10d c e, fun k _ => ?_⟩ (Mj 5 (by decide) (by decide) (by decide) (by decide) (by decide) (by decide) (by decide) (by decide) (by decide) (by decide) (by decide) (by decide)) (Mj 6 (by decide) (by decide) (by decide) (by decide) (by decide) (by decide) (by decide) (by decide) (by decide) (by decide) (by decide) (by decide)) (by rw [M7, pk_un e]) (fun i hi => ?_) (Nat.le_succ _) h6 h.h8
      · rw [M8, pk_un e]
      · rw [M9, p3 c e, A9, pk_un e]
      · rw [M11, pk_un e]
      · rw [M12, pk_un e]
      · rw [M13, pk_un e]
      · rw [M15, pk_un e]
      · rw [Mj 14 (by decide) (by decide) (by decide) (by decide) (by decide) (by decide) (by decide) (by decide) (by decide) (by decide) (by decide) (by decide)]
      · rw [(st i hi).1]
        by_cases y : R_bt S ns ns b i = true
        · rw [if_pos y, uses i hi y]
          exact ⟨fun z => absurd (cy_eq (by omega) (by omega) z).symm e, fun z => absurd z.symm (cy_ne_n (c := c) (by omega)).1⟩
        · rw [if_neg y]
  · by_cases e : c = nc
    · subst e; rw [M15, pk_us]; rfl
    · rw [M15, pk_un e]; exact h.2.2.2.2.1 c (by omega)
  · show R_gr M' nc + (M' 15 nc).toNatClampNeg ≤ _
    rw [R_gr_e (M := M) (fun d hd => by rw [M15, pk_un (by omega)]), M15, pk_us]
    exact h.2.2.2.2.2
  · obtain ⟨g1, g2, g3⟩ := hfr c (by omega) a2
    rw [Sj (3 * c + 11) (by omega) (by omega) (by omega) (by omega) (by omega), Sj (3 * c + 12) (by omega) (by omega) (by omega) (by omega) (by omega), Sj (3 * c + 13) (by omega) (by omega) (by omega) (by omega) (by omega), Mj 14 (by decide) (by decide) (by decide) (by decide) (by decide) (by decide) (by decide) (by decide) (by decide) (by decide) (by decide) (by decide)]
    exact ⟨g1, g2, g3⟩
theorem R_fr.keep {S M S' M' : Nat → Nat → Int32} {nc : Nat} (h : R_fr S M nc) (a : ∀ j, 3 * nc + 11 ≤ j → j < 47 → S' j = S j) (b : ∀ j, 5 * nc ≤ j → M' 14 j = M 14 j) : R_fr S' M' nc := by
  intro c h1 h2
  obtain ⟨g1, g2, g3⟩ := h c h1 h2
  rw [a _ (by omega) (by omega), a _ (by omega) (by omega), a _ (by omega) (by omega)]
  exact ⟨g1, g2, fun k hk => ⟨(g3 k hk).1, by rw [b _ (by omega)]; exact (g3 k hk).2⟩⟩
theorem s_raise {S M : Nat → Nat → Int32} {Z : Nat → Int64} {x : Int32} {ns no nc mo t : Nat} (h : Rel S M ns no nc mo t) (hfr : R_fr S M nc) : cy_cd cy_IB cy_IS (cy_tRa S Z x ns no nc) = (cq_Ra M x ns no nc).1 0 0 ∧ (cy_tRa S Z x ns no nc = none → nI nc = (cq_Ra M x ns no nc).2) ∧ ∃ nc', Rel (cy_sRa S Z x ns no nc) (cq_Ra M x ns no nc).1 ns no nc' mo (t + 1) ∧ R_fr (cy_sRa S Z x ns no nc) (cq_Ra M x ns no nc).1 nc' := by
  have h6 := h.1.2.1.2.2
  have h12 := h.1.2.2.1.2.2
  have et : cy_tRa S Z x ns no nc = if cq_in x 0 (nI no - 1) = 0 then some cy_IB else if nI nc < 12 then (if lg_cmp (cy_rFs S Z ns (cy_gi S x)) (-1) = 0 then some cy_IS else none) else some cy_IS := by
    unfold cy_tRa
    rw [r_g0 (by omega)]
  have es : cy_sRa S Z x ns no nc = if cq_in x 0 (nI no - 1) = 0 then S else if nI nc < 12 then (if lg_cmp (cy_rFs S Z ns (cy_gi S x)) (-1) = 0 then va_up S 9 (cy_fz S Z ns (cy_gi S x)).1 else cy_nRa S Z x ns nc) else S := by
    unfold cy_sRa
    rw [r_g0 (by omega)]
  have nofr : ∀ k, R_fr S (cq_th M k) nc := fun k => hfr.keep (fun _ _ _ => rfl) (fun _ _ => rfl)
  by_cases h1 : cq_in x 0 (nI no - 1) = 0
  · have f : cq_Ra M x ns no nc = (cq_th M 1, 0) := by unfold cq_Ra; rw [if_pos h1]
    rw [et, es, f, if_pos h1, if_pos h1]
    exact ⟨rfl, (fun q => nomatch q), nc, h.th.mono (Nat.le_succ _), nofr 1⟩
  rw [if_neg h1] at et es
  by_cases h2 : nc = 12
  · have l : ¬ nI nc < 12 := by rw [h2]; decide
    have f : cq_Ra M x ns no nc = (cq_th M 2, 0) := by unfold cq_Ra; rw [if_neg h1, if_pos (by rw [h2]; rfl)]
    rw [et, es, f, if_neg l, if_neg l]
    exact ⟨rfl, (fun q => nomatch q), nc, h.th.mono (Nat.le_succ _), nofr 2⟩
  have l : nI nc < 12 := nI_lt (b := 12) (by omega) (by decide)
  have l2 : ¬ nI nc = 12 := fun q => h2 (cy_eq (b := 12) (by omega) (by decide) q)
  rw [if_pos l] at et es
  obtain ⟨j, hj, rfl⟩ := cq_in_t (by omega) h1
  obtain ⟨eg, hf⟩ := r_find (Z := Z) h hj
  generalize hg : cy_gi S (nI j) = g at eg hf et es
  rcases hf with ⟨c1, c2⟩ | ⟨c1, b, hb1, hb2, hb3, hb4, hb5, hb6⟩
  · have f : cq_Ra M (nI j) ns no nc = (va_up (cq_sFd (cq_rs M) ns g) 0 (upd (cq_sFd (cq_rs M) ns g 0) 0 2), 0) := by
      unfold cq_Ra
      rw [if_neg h1, if_neg l2, eg, if_pos (by unfold cq_rFd; rw [if_neg (fun q => q c2)])]
    rw [c1, if_pos (by decide)] at et es
    rw [et, es, f]
    refine ⟨?_, (fun q => nomatch q), nc, h.scr (Nat.le_succ _) (fun j _ j9 _ => cy_un j9) (fun j j1 j15 => ?_) (fun k k0 k23 => ?_), hfr.keep (fun j j1 _ => cy_un (by omega)) (fun j _ => ?_)⟩
    · show _ = va_up (cq_sFd (cq_rs M) ns g) 0 (upd (cq_sFd (cq_rs M) ns g 0) 0 2) 0 0
      rw [cy_us, pk_us]
      rfl
    · dsimp only
      rw [cy_un (by omega), cq_sFd_n (by omega) (by omega) (by omega)]
      exact cy_un (by omega)
    · dsimp only
      rw [cy_us, pk_un k0, cq_sFd_0 k23]
      exact pk_un k0
    · dsimp only
      rw [cy_un (by decide), cq_sFd_n (by decide) (by decide) (by decide)]
      rfl
  · have hr : ¬ cq_rFd (cq_rs M) ns g = 0 := by
      unfold cq_rFd
      rw [if_pos (by rw [hb5]; exact cy_nm1 (by omega))]
      decide
    have f : cq_Ra M (nI j) ns no nc = (cq_rc M ns g (nI j) nc, nI nc) := by
      unfold cq_Ra
      rw [if_neg h1, if_neg l2, eg, if_neg hr]
    have c1' : ¬ lg_cmp (cy_rFs S Z ns g) (-1) = 0 := fun q => c1 ((lg_cmp_eq _ _).mp q)
    rw [if_neg c1'] at et es
    rw [et, es, f]
    obtain ⟨a1, a2, a3⟩ := r_raise (Z := Z) h hfr hj (by omega) hg hb1 hb2 hb3 hb4 hb6
    exact ⟨a1.symm, fun _ => rfl, nc + 1, a2, a3⟩
