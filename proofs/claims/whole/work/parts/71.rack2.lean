/-! rack: the calls -/
theorem cy_sMv_v {T : Nat → Nat → Int32} {c d : Nat} {x all gp : Int32} (hcd : c ≠ d) (hgp : cy_gp (cy_mq T c d x all) c x all = gp) : (∀ j, j ≠ 3 * c + 11 → j ≠ 3 * d + 11 → cy_sMv T c d x all j = cy_mq T c d x all j) ∧ cy_sMv T c d x all (3 * c + 11) = upd (cy_mq T c d x all (3 * c + 11)) 8 (cy_mq T c d x all (3 * c + 11) 8 - gp) ∧ cy_sMv T c d x all (3 * d + 11) = upd (cy_mq T c d x all (3 * d + 11)) 8 (cy_mq T c d x all (3 * d + 11) 8 + gp) := by
  unfold cy_sMv
  rw [hgp]
  refine ⟨fun j a b => ?_, ?_, ?_⟩
  · rw [cy_un b, cy_un a]
  · rw [cy_un (by omega), cy_us]
  · rw [cy_us]
theorem r_gb {M : Nat → Nat → Int32} {c : Nat} : ∀ {n : Nat}, c < n → (M 15 c).toNatClampNeg ≤ R_gr M n
  | 0, h => absurd h (Nat.not_lt_zero _)
  | n + 1, h => by
    show _ ≤ R_gr M n + (M 15 n).toNatClampNeg
    by_cases e : c = n
    · subst e; omega
    · have := r_gb (M := M) (c := c) (n := n) (by omega)
      omega
theorem r_gt {S M : Nat → Nat → Int32} {ns no nc mo t c u : Nat} (h : Rel S M ns no nc mo t) (hc : c < nc) (h1 : 1 ≤ u) (h6 : u ≤ 60000) (hu : u ≤ cq_hW M c) : ∃ G, G ≤ (M 15 c).toNatClampNeg ∧ cq_ro M c u = nI G := by
  have hb := r_gb (M := M) hc
  have hgr := h.2.2.2.2.2
  have hmo := h.1.2.2.2.1.2.2
  have hg := h.2.2.2.2.1 c hc
  have hw := r_w h hc
  have hg8 : (M 15 c).toNatClampNeg ≤ 100000000 := by omega
  unfold cq_ro
  rw [cq_al_n (h.hd c hc)]
  generalize (M 15 c).toNatClampNeg = g at hg hg8
  refine ⟨g * u / cq_hW M c, ?_, by rw [hg, cy_dvn hg8 h6 (by omega)]⟩
  exact Nat.div_le_of_le_mul (by rw [Nat.mul_comm (cq_hW M c)]; exact Nat.mul_le_mul_left _ hu)
theorem r_rack1 {S M : Nat → Nat → Int32} {ns no nc mo t c u : Nat} (h : Rel S M ns no nc mo t) (hc : c < nc) (h8 : ¬ M 8 c = 0) (h1 : 1 ≤ u) (h6 : u ≤ 60000) (hu : u ≤ cq_hW M c) : Rel (cy_sMv (cy_sCf (cy_sCl S 12) 12) c 12 (nI u) (cq_al M c)) (cq_nR1 M c u) ns no nc mo (t + 1) ∧ cy_sm (cy_sMv (cy_sCf (cy_sCl S 12) 12) c 12 (nI u) (cq_al M c) (3 * c + 13)) 5 = cq_al (cq_nR1 M c u) c := by
  have h12 := h.1.2.2.1.2.2
  have hH := h.hd c hc
  obtain ⟨j, hj, s1, s2, s3, s4, s5, s6, s7⟩ := h.sd hc h8
  obtain ⟨r, r1, r2, r3, r4⟩ := h.room hj
  obtain ⟨q, hq1, hq2⟩ := s6.2.2.2.2.1
  have hWr : cq_hW M c ≤ r := by
    have z := s6.2.1.2.2
    rw [s2, r3, nI_clamp (by omega)] at z
    exact z
  generalize hTT : cy_sCf (cy_sCl S 12) 12 = T
  have hTj : ∀ j, j < 47 → T j = S j := fun j a => by
    rw [← hTT, cy_sCf_n (by omega)]
    unfold cy_sCl
    rw [cy_un (by omega), cy_un (by omega), cy_un (by omega)]
  have hT : ∀ k, k < 5 → T (3 * c + 13) k = nI (cq_hN M c k) := fun k hk => by
    rw [hTj _ (by omega), ← (hH k hk).2]
    exact s6.2.1.1 k hk
  obtain ⟨P, p1, p2, p3⟩ := r_mv (T := T) (d := 12) (show c ≠ 12 by omega) hH h1 h6 hu hT
  obtain ⟨G, G1, G2⟩ := r_gt h hc h1 h6 hu
  have q11 : cy_mq T c 12 (nI u) (cq_al M c) (3 * c + 11) = S (3 * c + 11) := by rw [p3 _ (by omega) (by omega), hTj _ (by omega)]
  have hg := h.2.2.2.2.1 c hc
  have hS8 : S (3 * c + 11) 8 = M 15 c := s6.1.2.2.2.2.2.2
  obtain ⟨v1, v2, -⟩ := cy_sMv_v (T := T) (c := c) (d := 12) (x := nI u) (all := cq_al M c) (gp := nI G) (by omega) (by rw [← G2]; unfold cy_gp cq_ro; rw [q11, hS8])
  generalize hS' : cy_sMv T c 12 (nI u) (cq_al M c) = S' at v1 v2
  generalize cy_mq T c 12 (nI u) (cq_al M c) = Q at p1 p3 q11 v1 v2
  have Sj : ∀ j, j < 47 → j ≠ 3 * c + 11 → j ≠ 3 * c + 13 → S' j = S j := fun j a b d => by rw [v1 j b (by omega), p3 j d (by omega), hTj j a]
  have S13 : ∀ k, k < 5 → S' (3 * c + 13) k = nI (cq_hN M c k - P k) := fun k hk => by rw [v1 _ (by omega) (by omega)]; exact (p1 k hk).2.2.1
  rw [q11] at v2
  obtain ⟨w1, w2, w3⟩ := cq_mv_v (S := cq_rs M) (c := c) (f := (cq_rF M c u).1) (n := 5)
  generalize hM' : cq_nR1 M c u = M'
  have Mn : ∀ j, j ≠ 14 → j ≠ 15 → M' j = cq_rs M j := fun j a b => by rw [← hM']; unfold cq_nR1; rw [cy_un b, w3 j a]
  have Mj : ∀ j, j ≠ 0 → j ≠ 14 → j ≠ 15 → M' j = M j := fun j z a b => by rw [Mn j a b]; exact cy_un z
  have M14 : M' 14 = cq_mv (cq_rs M) c (cq_rF M c u).1 5 14 := by rw [← hM']; unfold cq_nR1; rw [cy_un (by decide)]
  have M15 : M' 15 = upd (M 15) c (M 15 c - nI G) := by
    rw [← hM', ← G2]
    unfold cq_nR1
    rw [cy_us, w3 15 (by decide)]
    rfl
  have M14c : ∀ k, k < 5 → M' 14 (5 * c + k) = nI (cq_hN M c k - P k) := fun k hk => by
    rw [M14, w1 k hk, (p1 k hk).1, show cq_rs M 14 (5 * c + k) = M 14 (5 * c + k) from rfl, (hH k hk).2, pk_sub (p1 k hk).2.1]
  have M15c : M' 15 c = nI ((M 15 c).toNatClampNeg - G) := by
    rw [M15, pk_us]
    generalize (M 15 c).toNatClampNeg = g at hg G1
    rw [hg, pk_sub G1]
  have M15d : ∀ d, d ≠ c → M' 15 d = M 15 d := fun d a => by rw [M15, pk_un a]
  have hgl := Int32.toNatClampNeg_lt (M 15 c)
  have hsum : cq_hN M c 0 - P 0 + (cq_hN M c 1 - P 1) + (cq_hN M c 2 - P 2) + (cq_hN M c 3 - P 3) + (cq_hN M c 4 - P 4) ≤ r := by
    unfold cq_hW at hWr
    omega
  refine ⟨h.mk1 (h.1.rs (Sj 0 (by omega) (by omega) (by omega)) (fun k hk => by rw [Mn 0 (by decide) (by decide)]; exact pk_un hk)) (fun i hi => (h.2.1 i hi).keep ⟨Sj 1 (by omega) (by omega) (by omega), Sj 2 (by omega) (by omega) (by omega), Sj 3 (by omega) (by omega) (by omega)⟩ ⟨Mj 1 (by decide) (by decide) (by decide), Mj 2 (by decide) (by decide) (by decide), Mj 3 (by decide) (by decide) (by decide)⟩) ⟨Sj 4 (by omega) (by omega) (by omega), Sj 5 (by omega) (by omega) (by omega), Sj 6 (by omega) (by omega) (by omega)⟩ ⟨Mj 4 (by decide) (by decide) (by decide), Mj 5 (by decide) (by decide) (by decide), Mj 6 (by decide) (by decide) (by decide), Mj 7 (by decide) (by decide) (by decide)⟩ (Nat.le_succ _) (fun b hb => ?_) (fun b hb => ?_) ?_, cy_sm_c (fun k hk => by rw [S13 k hk, M14c k hk])⟩
  · by_cases e : b = c
    · subst e
      refine Or.inr (R_c1.sd hj (by rw [Mj 7 (by decide) (by decide) (by decide)]; exact s1) (by rw [v2, pk_un (by decide), Mj 7 (by decide) (by decide) (by decide)]; exact s3) (by rw [v2, pk_un (by decide)]; exact s4) (by rw [Mj 8 (by decide) (by decide) (by decide)]; exact s5) ?_ (by rw [Sj 3 (by omega) (by omega) (by omega)]; exact s7))
      exact s6.am (N := fun k => cq_hN M b k - P k) (w := r) (f := q) (fun k _ k8 => by rw [v2, pk_un k8]) (Sj _ (by omega) (by omega) (by omega)) (Mj 5 (by decide) (by decide) (by decide)) (Mj 6 (by decide) (by decide) (by decide)) (Mj 7 (by decide) (by decide) (by decide)) (Mj 9 (by decide) (by decide) (by decide)) (Mj 10 (by decide) (by decide) (by decide)) (Mj 11 (by decide) (by decide) (by decide)) (Mj 13 (by decide) (by decide) (by decide)) (by rw [v2, pk_un (by decide), s6.1.2.2.2.2.1, hq2]) (by rw [Mj 12 (by decide) (by decide) (by decide)]; exact hq2) (by omega) (by rw [v2, pk_us, M15, pk_us, hS8]) S13 M14c hsum (by rw [s2]; exact r3) r2
    · refine Or.inl ⟨⟨⟨Sj _ (by omega) (by omega) (by omega), Sj _ (by omega) (by omega) (by omega), Sj _ (by omega) (by omega) (by omega)⟩, ⟨?_, ?_, ?_, ?_, ?_, M15d b e⟩, fun k hk => ?_, fun k hk => ?_⟩, fun i _ => ?_⟩
      · rw [Mj 8 (by decide) (by decide) (by decide)]
      · rw [Mj 9 (by decide) (by decide) (by decide)]
      · rw [Mj 11 (by decide) (by decide) (by decide)]
      · rw [Mj 12 (by decide) (by decide) (by decide)]
      · rw [Mj 13 (by decide) (by decide) (by decide)]
      · rw [Mj 10 (by decide) (by decide) (by decide)]
      · rw [M14, w2 _ (fun k' hk' => by omega)]
        rfl
      · rw [Sj 3 (by omega) (by omega) (by omega)]
  · by_cases e : b = c
    · subst e
      rw [M15c, nI_clamp (by omega)]
    · rw [M15d b e]; exact h.2.2.2.2.1 b hb
  · have z := R_gr_1 (M := M) (M' := M') (c := c) (n := nc) (fun d _ g => M15d d g) hc
    have z2 := h.2.2.2.2.2
    rw [M15c, nI_clamp (by omega)] at z
    omega
theorem r_rack2 {S M : Nat → Nat → Int32} {ns no nc mo t c d u : Nat} (ht : t ≤ 1000000) (h : Rel S M ns no nc mo t) (hcd : c ≠ d) (hc : c < nc) (hd : d < nc) (h8 : ¬ M 8 c = 0) (h8d : ¬ M 8 d = 0) (h1 : 1 ≤ u) (h6 : u ≤ 60000) (hu : u ≤ cq_hW M c) (hro : cq_al M d + nI u ≤ M 5 (cq_so M d)) : Rel (cy_sMv (cy_sCf S d) c d (nI u) (cq_al M c)) (cq_nR2 M c d u) ns no nc mo (t + 1) ∧ cy_sm (cy_sMv (cy_sCf S d) c d (nI u) (cq_al M c) (3 * c + 13)) 5 = cq_al (cq_nR2 M c d u) c := by
  have h12 := h.1.2.2.1.2.2
  have hH := h.hd c hc
  have hHd := h.hd d hd
  obtain ⟨j, hj, s1, s2, s3, s4, s5, s6, s7⟩ := h.sd hc h8
  obtain ⟨r, r1, r2, r3, r4⟩ := h.room hj
  obtain ⟨q, hq1, hq2⟩ := s6.2.2.2.2.1
  obtain ⟨j', hj', s1', s2', s3', s4', s5', s6', s7'⟩ := h.sd hd h8d
  obtain ⟨r', r1', r2', r3', r4'⟩ := h.room hj'
  obtain ⟨q', hq1', hq2'⟩ := s6'.2.2.2.2.1
  have hWr : cq_hW M c ≤ r := by
    have z := s6.2.1.2.2
    rw [s2, r3, nI_clamp (by omega)] at z
    exact z
  have hWr' : cq_hW M d ≤ r' := by
    have z := s6'.2.1.2.2
    rw [s2', r3', nI_clamp (by omega)] at z
    exact z
  have hrd : cq_hW M d + u ≤ r' := by
    have z := hro
    rw [cq_al_n hHd, nI_add, s2', r3'] at z
    exact cy_le (by omega) (by omega) z
  have hald := r_al h hd
  have f6 : S (3 * d + 11) 6 = M 12 d := s6'.1.2.2.2.2.1
  obtain ⟨F, hF, hFt⟩ : ∃ F, (if cq_al M d = 0 then M 12 d + 1 else M 12 d + 0) = nI F ∧ F ≤ t + 1 := by
    split
    · exact ⟨q' + 1, by rw [hq2', nI_1], by omega⟩
    · exact ⟨q', by rw [hq2', Int32.add_zero], by omega⟩
  generalize hTT : cy_sCf S d = T
  have hTj : ∀ j, j ≠ 3 * d + 11 → T j = S j := fun j a => by rw [← hTT, cy_sCf_n a]
  have T11 : ∀ k, k ≠ 6 → T (3 * d + 11) k = S (3 * d + 11) k := fun k hk => by
    rw [← hTT]
    unfold cy_sCf
    split
    · rfl
    · rw [cy_us, pk_un hk]
  have T6 : T (3 * d + 11) 6 = nI F := by
    rw [← hTT, ← hF]
    unfold cy_sCf
    rw [hald, f6]
    by_cases g : cq_al M d = 0
    · rw [if_neg (fun z => z g), if_pos g, cy_us, pk_us]
    · rw [if_pos g, if_neg g, f6, Int32.add_zero]
  have hT : ∀ k, k < 5 → T (3 * c + 13) k = nI (cq_hN M c k) := fun k hk => by
    rw [hTj _ (by omega), ← (hH k hk).2]
    exact s6.2.1.1 k hk
  obtain ⟨P, p1, p2, p3⟩ := r_mv (T := T) (d := d) hcd hH h1 h6 hu hT
  obtain ⟨G, G1, G2⟩ := r_gt h hc h1 h6 hu
  have q11 : cy_mq T c d (nI u) (cq_al M c) (3 * c + 11) = S (3 * c + 11) := by rw [p3 _ (by omega) (by omega), hTj _ (by omega)]
  have q11d : cy_mq T c d (nI u) (cq_al M c) (3 * d + 11) = T (3 * d + 11) := by rw [p3 _ (by omega) (by omega)]
  have hg := h.2.2.2.2.1 c hc
  have hgd := h.2.2.2.2.1 d hd
  have hS8 : S (3 * c + 11) 8 = M 15 c := s6.1.2.2.2.2.2.2
  have hS8d : S (3 * d + 11) 8 = M 15 d := s6'.1.2.2.2.2.2.2
  obtain ⟨v1, v2, v3⟩ := cy_sMv_v (T := T) (c := c) (d := d) (x := nI u) (all := cq_al M c) (gp := nI G) hcd (by rw [← G2]; unfold cy_gp cq_ro; rw [q11, hS8])
  generalize hS' : cy_sMv T c d (nI u) (cq_al M c) = S' at v1 v2 v3
  generalize cy_mq T c d (nI u) (cq_al M c) = Q at p1 p3 q11 q11d v1 v2 v3
  have Sj : ∀ j, j ≠ 3 * c + 11 → j ≠ 3 * c + 13 → j ≠ 3 * d + 11 → j ≠ 3 * d + 13 → S' j = S j := fun j a b a' b' => by rw [v1 j a a', p3 j b b', hTj j a']
  have S13 : ∀ k, k < 5 → S' (3 * c + 13) k = nI (cq_hN M c k - P k) := fun k hk => by rw [v1 _ (by omega) (by omega)]; exact (p1 k hk).2.2.1
  have S13d : ∀ k, k < 5 → S' (3 * d + 13) k = nI (cq_hN M d k + P k) := fun k hk => by
    rw [v1 _ (by omega) (by omega), (p1 k hk).2.2.2, hTj _ (by omega), s6'.2.1.1 k hk, (hHd k hk).2, nI_add]
  rw [q11] at v2
  rw [q11d] at v3
  obtain ⟨w1, w2, w3⟩ := cq_mw_v (S := cq_bf (cq_rs M) d) (c := c) (d := d) (f := (cq_rF M c u).1) hcd (Nat.le_refl 5)
  generalize hM' : cq_nR2 M c d u = M'
  have Mn : ∀ j, j ≠ 14 → j ≠ 15 → M' j = cq_bf (cq_rs M) d j := fun j a b => by rw [← hM']; unfold cq_nR2; rw [cy_un b, w3 j a]
  have Mj : ∀ j, j ≠ 0 → j ≠ 12 → j ≠ 14 → j ≠ 15 → M' j = M j := fun j z y a b => by rw [Mn j a b]; unfold cq_bf; rw [cy_un y]; exact cy_un z
  have M0 : M' 0 = upd (M 0) 0 0 := by rw [Mn 0 (by decide) (by decide)]; rfl
  have M12 : M' 12 = upd (M 12) d (nI F) := by rw [Mn 12 (by decide) (by decide), ← hF]; rfl
  have M14 : M' 14 = cq_mw (cq_bf (cq_rs M) d) c d (cq_rF M c u).1 5 14 := by rw [← hM']; unfold cq_nR2; rw [cy_un (by decide)]
  have M15 : M' 15 = upd (upd (M 15) c (M 15 c - nI G)) d (M 15 d + nI G) := by
    have z : M' 15 = upd (upd (M 15) c (M 15 c - nI G)) d (upd (M 15) c (M 15 c - nI G) d + nI G) := by
      rw [← hM', ← G2]
      unfold cq_nR2
      rw [cy_us, w3 15 (by decide)]
      rfl
    rw [z, pk_un (f := M 15) (fun e => hcd e.symm)]
  have b14 : cq_bf (cq_rs M) d 14 = M 14 := rfl
  have M14c : ∀ k, k < 5 → M' 14 (5 * c + k) = nI (cq_hN M c k - P k) := fun k hk => by
    rw [M14, (w1 k hk).1, (p1 k hk).1, b14, (hH k hk).2, pk_sub (p1 k hk).2.1]
  have M14d : ∀ k, k < 5 → M' 14 (5 * d + k) = nI (cq_hN M d k + P k) := fun k hk => by
    rw [M14, (w1 k hk).2, (p1 k hk).1, b14, (hHd k hk).2, nI_add]
  have M15c : M' 15 c = nI ((M 15 c).toNatClampNeg - G) := by
    rw [M15, pk_un hcd, pk_us]
    generalize (M 15 c).toNatClampNeg = g at hg G1
    rw [hg, pk_sub G1]
  have M15d' : M' 15 d = nI ((M 15 d).toNatClampNeg + G) := by
    rw [M15, pk_us, ← nI_add, ← hgd]
  have M15e : ∀ e, e ≠ c → e ≠ d → M' 15 e = M 15 e := fun e a b => by rw [M15, pk_un b, pk_un a]
  have hgl := Int32.toNatClampNeg_lt (M 15 c)
  have hgr := h.2.2.2.2.2
  have hmo := h.1.2.2.2.1.2.2
  have egr : R_gr M' nc = R_gr M nc ∧ (M 15 d).toNatClampNeg + G < 2 ^ 31 := by
    have bd := r_gb (M := M) hd
    have bc := r_gb (M := M) hc
    have lt : (M 15 d).toNatClampNeg + G < 2 ^ 31 := by omega
    have z1 := R_gr_1 (M := M) (M' := va_up M 15 (upd (M 15) c (M' 15 c))) (c := c) (n := nc) (fun e _ g => by rw [cy_us, pk_un g]) hc
    have z2 := R_gr_1 (M := va_up M 15 (upd (M 15) c (M' 15 c))) (M' := M') (c := d) (n := nc) (fun e _ g => by
      rw [cy_us]
      by_cases g2 : e = c
      · subst g2; rw [pk_us]
      · rw [pk_un g2]; exact M15e e g2 g) hd
    rw [cy_us, pk_us, M15c, nI_clamp (by omega)] at z1
    rw [cy_us, pk_un (fun e => hcd e.symm), M15d', nI_clamp (by omega)] at z2
    rw [M15c] at z2
    exact ⟨by omega, lt⟩
  have hsum : cq_hN M c 0 - P 0 + (cq_hN M c 1 - P 1) + (cq_hN M c 2 - P 2) + (cq_hN M c 3 - P 3) + (cq_hN M c 4 - P 4) ≤ r := by
    unfold cq_hW at hWr
    omega
  have hsumd : cq_hN M d 0 + P 0 + (cq_hN M d 1 + P 1) + (cq_hN M d 2 + P 2) + (cq_hN M d 3 + P 3) + (cq_hN M d 4 + P 4) ≤ r' := by
    unfold cq_hW at hrd
    omega
  refine ⟨h.mk1 (h.1.rs (Sj 0 (by omega) (by omega) (by omega) (by omega)) (fun k hk => by rw [M0, pk_un hk])) (fun i hi => (h.2.1 i hi).keep ⟨Sj 1 (by omega) (by omega) (by omega) (by omega), Sj 2 (by omega) (by omega) (by omega) (by omega), Sj 3 (by omega) (by omega) (by omega) (by omega)⟩ ⟨Mj 1 (by decide) (by decide) (by decide) (by decide), Mj 2 (by decide) (by decide) (by decide) (by decide), Mj 3 (by decide) (by decide) (by decide) (by decide)⟩) ⟨Sj 4 (by omega) (by omega) (by omega) (by omega), Sj 5 (by omega) (by omega) (by omega) (by omega), Sj 6 (by omega) (by omega) (by omega) (by omega)⟩ ⟨Mj 4 (by decide) (by decide) (by decide) (by decide), Mj 5 (by decide) (by decide) (by decide) (by decide), Mj 6 (by decide) (by decide) (by decide) (by decide), Mj 7 (by decide) (by decide) (by decide) (by decide)⟩ (Nat.le_succ _) (fun b hb => ?_) (fun b hb => ?_) (by rw [egr.1]; exact hgr), cy_sm_c (fun k hk => by rw [S13 k hk, M14c k hk])⟩
  · by_cases e : b = c
    · subst e
      refine Or.inr (R_c1.sd hj (by rw [Mj 7 (by decide) (by decide) (by decide) (by decide)]; exact s1) (by rw [v2, pk_un (by decide), Mj 7 (by decide) (by decide) (by decide) (by decide)]; exact s3) (by rw [v2, pk_un (by decide)]; exact s4) (by rw [Mj 8 (by decide) (by decide) (by decide) (by decide)]; exact s5) ?_ (by rw [Sj 3 (by omega) (by omega) (by omega) (by omega)]; exact s7))
      exact s6.am (N := fun k => cq_hN M b k - P k) (w := r) (f := q) (fun k _ k8 => by rw [v2, pk_un k8]) (Sj _ (by omega) (by omega) (by omega) (by omega)) (Mj 5 (by decide) (by decide) (by decide) (by decide)) (Mj 6 (by decide) (by decide) (by decide) (by decide)) (Mj 7 (by decide) (by decide) (by decide) (by decide)) (Mj 9 (by decide) (by decide) (by decide) (by decide)) (Mj 10 (by decide) (by decide) (by decide) (by decide)) (Mj 11 (by decide) (by decide) (by decide) (by decide)) (Mj 13 (by decide) (by decide) (by decide) (by decide)) (by rw [v2, pk_un (by decide), s6.1.2.2.2.2.1, hq2]) (by rw [M12, pk_un hcd]; exact hq2) (by omega) (by rw [v2, pk_us, M15, pk_un hcd, pk_us, hS8]) S13 M14c hsum (by rw [s2]; exact r3) r2
    · by_cases e2 : b = d
      · subst e2
        refine Or.inr (R_c1.sd hj' (by rw [Mj 7 (by decide) (by decide) (by decide) (by decide)]; exact s1') (by rw [v3, pk_un (by decide), T11 0 (by decide), Mj 7 (by decide) (by decide) (by decide) (by decide)]; exact s3') (by rw [v3, pk_un (by decide), T11 2 (by decide)]; exact s4') (by rw [Mj 8 (by decide) (by decide) (by decide) (by decide)]; exact s5') ?_ (by rw [Sj 3 (by omega) (by omega) (by omega) (by omega)]; exact s7'))
        exact s6'.am (N := fun k => cq_hN M b k + P k) (w := r') (f := F) (fun k k6 k8 => by rw [v3, pk_un k8, T11 k k6]) (Sj _ (by omega) (by omega) (by omega) (by omega)) (Mj 5 (by decide) (by decide) (by decide) (by decide)) (Mj 6 (by decide) (by decide) (by decide) (by decide)) (Mj 7 (by decide) (by decide) (by decide) (by decide)) (Mj 9 (by decide) (by decide) (by decide) (by decide)) (Mj 10 (by decide) (by decide) (by decide) (by decide)) (Mj 11 (by decide) (by decide) (by decide) (by decide)) (Mj 13 (by decide) (by decide) (by decide) (by decide)) (by rw [v3, pk_un (by decide)]; exact T6) (by rw [M12, pk_us]) hFt (by rw [v3, pk_us, M15, pk_us, T11 8 (by decide), hS8d]) S13d M14d hsumd (by rw [s2']; exact r3') r2'
      · refine Or.inl ⟨⟨⟨Sj _ (by omega) (by omega) (by omega) (by omega), Sj _ (by omega) (by omega) (by omega) (by omega), Sj _ (by omega) (by omega) (by omega) (by omega)⟩, ⟨?_, ?_, ?_, ?_, ?_, M15e b e e2⟩, fun k hk => ?_, fun k hk => ?_⟩, fun i _ => ?_⟩
        · rw [Mj 8 (by decide) (by decide) (by decide) (by decide)]
        · rw [Mj 9 (by decide) (by decide) (by decide) (by decide)]
        · rw [Mj 11 (by decide) (by decide) (by decide) (by decide)]
        · rw [M12, pk_un e2]
        · rw [Mj 13 (by decide) (by decide) (by decide) (by decide)]
        · rw [Mj 10 (by decide) (by decide) (by decide) (by decide)]
        · rw [M14, w2 _ (fun k' hk' => ⟨by omega, by omega⟩)]
          rfl
        · rw [Sj 3 (by omega) (by omega) (by omega) (by omega)]
  · by_cases e : b = c
    · subst e
      rw [M15c, nI_clamp (by omega)]
    · by_cases e2 : b = d
      · subst e2
        rw [M15d', nI_clamp egr.2]
      · rw [M15e b e e2]; exact h.2.2.2.2.1 b hb
theorem s_rack {S M : Nat → Nat → Int32} {x y z : Int32} {ns no nc mo t : Nat} (ht : t ≤ 1000000) (h : Rel S M ns no nc mo t) : R_F cy_IB cy_IA (cy_tRk S x y z nc) (cq_Rk M x y z nc) (cy_sm (cy_nRk S x y z (3 * x.toNatClampNeg + 13)) 5) (cy_if (cy_tRk S x y z nc) (cy_nRk S x y z) S) (t + 1) := by
  have h12 := h.1.2.2.1.2.2
  by_cases hy : y = (-1)
  · have et : cy_tRk S x y z nc = if cq_in x 0 (nI nc - 1) = 0 then some cy_IB else if x = y then some cy_IA else if cq_in z 1 60000 = 0 then some cy_IA else if S (3 * x.toNatClampNeg + 11) 2 = 0 then some cy_IS else if z ≤ cy_sm (S (3 * x.toNatClampNeg + 13)) 5 then none else some cy_IS := by
      unfold cy_tRk
      rw [if_pos hy, r_g0 (by omega), r_g1]
    by_cases h1 : cq_in x 0 (nI nc - 1) = 0
    · exact r_bad h (E := cy_IB) (k := 1) (by rw [et, if_pos h1]) (by unfold cq_Rk; rw [if_pos h1]) rfl
    rw [if_neg h1] at et
    by_cases h2 : x = y
    · exact r_bad h (E := cy_IA) (k := 2) (by rw [et, if_pos h2]) (by unfold cq_Rk; rw [if_neg h1, if_pos hy, if_pos h2]) rfl
    rw [if_neg h2] at et
    by_cases h3 : cq_in z 1 60000 = 0
    · exact r_bad h (E := cy_IA) (k := 2) (by rw [et, if_pos h3]) (by unfold cq_Rk; rw [if_neg h1, if_pos hy, if_neg h2, if_pos h3]) rfl
    rw [if_neg h3] at et
    have hR : cy_nRk S x y z = cy_sMv (cy_sCf (cy_sCl S 12) 12) x.toNatClampNeg 12 z (cy_sm (S (3 * x.toNatClampNeg + 13)) 5) := if_pos hy
    rw [hR]
    obtain ⟨c, hc, rfl⟩ := cq_in_t (by omega) h1
    obtain ⟨u, ⟨hu1, hu2⟩, rfl⟩ := cq_in_l1 (n := 60000) (by decide) h3
    have ec : (nI c).toNatClampNeg = c := nI_clamp (by omega)
    have eu : (nI u).toNatClampNeg = u := nI_clamp (by omega)
    rw [ec, r_al h hc, h.so c hc] at et
    rw [ec, r_al h hc]
    by_cases h8 : M 8 c = 0
    · exact r_bad h (E := cy_IS) (k := 3) (by rw [et, if_pos h8]) (by unfold cq_Rk; rw [if_neg h1, if_pos hy, if_neg h2, if_neg h3, ec, if_pos h8]) rfl
    rw [if_neg h8] at et
    by_cases h4 : nI u ≤ cq_al M c
    case neg => exact r_bad h (E := cy_IS) (k := 3) (by rw [et, if_neg h4]) (by unfold cq_Rk; rw [if_neg h1, if_pos hy, if_neg h2, if_neg h3, ec, if_neg h8, if_pos (Int32.not_le.mp h4)]) rfl
    rw [if_pos h4] at et
    have hle := cq_al_le (h.hd c hc) hu2 (Int32.not_lt.mpr h4)
    obtain ⟨a1, a2⟩ := r_rack1 h hc h8 hu1 hu2 hle
    refine r_good (v := cq_al (cq_nR1 M c u) c) a1 et ?_ ?_ a2
    · unfold cq_Rk
      rw [if_neg h1, if_pos hy, if_neg h2, if_neg h3, ec, if_neg h8, if_neg (Int32.not_lt.mpr h4), eu]
    · unfold cq_nR1
      rw [cy_un (by decide), cq_mv_v.2.2 0 (by decide)]
      rfl
  · have et : cy_tRk S x y z nc = if cq_in x 0 (nI nc - 1) = 0 then some cy_IB else if cq_in y 0 (nI nc - 1) = 0 then some cy_IB else if x = y then some cy_IA else if cq_in z 1 60000 = 0 then some cy_IA else if S (3 * x.toNatClampNeg + 11) 2 = 0 then some cy_IS else if S (3 * y.toNatClampNeg + 11) 2 = 0 then some cy_IS else if z ≤ cy_sm (S (3 * x.toNatClampNeg + 13)) 5 then (if cy_sm (S (3 * y.toNatClampNeg + 13)) 5 + z ≤ S (3 * y.toNatClampNeg + 11) 1 then none else some cy_IS) else some cy_IS := by
      unfold cy_tRk
      rw [if_neg hy, r_g0 (by omega), r_g0 (by omega), r_g1]
    by_cases h1 : cq_in x 0 (nI nc - 1) = 0
    · exact r_bad h (E := cy_IB) (k := 1) (by rw [et, if_pos h1]) (by unfold cq_Rk; rw [if_pos h1]) rfl
    rw [if_neg h1] at et
    by_cases h1y : cq_in y 0 (nI nc - 1) = 0
    · exact r_bad h (E := cy_IB) (k := 1) (by rw [et, if_pos h1y]) (by unfold cq_Rk; rw [if_neg h1, if_neg hy, if_pos h1y]) rfl
    rw [if_neg h1y] at et
    by_cases h2 : x = y
    · exact r_bad h (E := cy_IA) (k := 2) (by rw [et, if_pos h2]) (by unfold cq_Rk; rw [if_neg h1, if_neg hy, if_neg h1y, if_pos h2]) rfl
    rw [if_neg h2] at et
    by_cases h3 : cq_in z 1 60000 = 0
    · exact r_bad h (E := cy_IA) (k := 2) (by rw [et, if_pos h3]) (by unfold cq_Rk; rw [if_neg h1, if_neg hy, if_neg h1y, if_neg h2, if_pos h3]) rfl
    rw [if_neg h3] at et
    have hR : cy_nRk S x y z = cy_sMv (cy_sCf S y.toNatClampNeg) x.toNatClampNeg y.toNatClampNeg z (cy_sm (S (3 * x.toNatClampNeg + 13)) 5) := if_neg hy
    rw [hR]
    obtain ⟨c, hc, rfl⟩ := cq_in_t (by omega) h1
    obtain ⟨d, hd, rfl⟩ := cq_in_t (by omega) h1y
    obtain ⟨u, ⟨hu1, hu2⟩, rfl⟩ := cq_in_l1 (n := 60000) (by decide) h3
    have ec : (nI c).toNatClampNeg = c := nI_clamp (by omega)
    have ed : (nI d).toNatClampNeg = d := nI_clamp (by omega)
    have eu : (nI u).toNatClampNeg = u := nI_clamp (by omega)
    have hcd : c ≠ d := fun e => h2 (by rw [e])
    rw [ec, ed, r_al h hc, r_al h hd, h.so c hc, h.so d hd] at et
    rw [ec, ed, r_al h hc]
    by_cases h8 : M 8 c = 0
    · exact r_bad h (E := cy_IS) (k := 3) (by rw [et, if_pos h8]) (by unfold cq_Rk; rw [if_neg h1, if_neg hy, if_neg h1y, if_neg h2, if_neg h3, ec, if_pos h8]) rfl
    rw [if_neg h8] at et
    by_cases h8d : M 8 d = 0
    · exact r_bad h (E := cy_IS) (k := 3) (by rw [et, if_pos h8d]) (by unfold cq_Rk; rw [if_neg h1, if_neg hy, if_neg h1y, if_neg h2, if_neg h3, ec, ed, if_neg h8, if_pos h8d]) rfl
    rw [if_neg h8d] at et
    by_cases h4 : nI u ≤ cq_al M c
    case neg => exact r_bad h (E := cy_IS) (k := 3) (by rw [et, if_neg h4]) (by unfold cq_Rk; rw [if_neg h1, if_neg hy, if_neg h1y, if_neg h2, if_neg h3, ec, ed, if_neg h8, if_neg h8d, if_pos (Int32.not_le.mp h4)]) rfl
    obtain ⟨j', hj', s1', s2', s3', s4', s5', s6', s7'⟩ := h.sd hd h8d
    rw [if_pos h4, s6'.1.1] at et
    by_cases h5 : cq_al M d + nI u ≤ M 5 (cq_so M d)
    case neg => exact r_bad h (E := cy_IS) (k := 3) (by rw [et, if_neg h5]) (by unfold cq_Rk; rw [if_neg h1, if_neg hy, if_neg h1y, if_neg h2, if_neg h3, ec, ed, if_neg h8, if_neg h8d, if_neg (Int32.not_lt.mpr h4), if_neg h5]) rfl
    rw [if_pos h5] at et
    have hle := cq_al_le (h.hd c hc) hu2 (Int32.not_lt.mpr h4)
    obtain ⟨a1, a2⟩ := r_rack2 ht h hcd hc hd h8 h8d hu1 hu2 hle h5
    refine r_good (v := cq_al (cq_nR2 M c d u) c) a1 et ?_ ?_ a2
    · unfold cq_Rk
      rw [if_neg h1, if_neg hy, if_neg h1y, if_neg h2, if_neg h3, ec, ed, if_neg h8, if_neg h8d, if_neg (Int32.not_lt.mpr h4), if_pos h5, eu]
    · unfold cq_nR2
      rw [cy_un (by decide), (cq_mw_v hcd (Nat.le_refl 5)).2.2 0 (by decide)]
      rfl
