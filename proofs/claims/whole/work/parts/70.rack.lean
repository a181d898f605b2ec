/-! rack: what is moved -/
def R_5 (N : Nat → Nat) : Nat → Nat
  | 0 => 0
  | n + 1 => R_5 N n + N n
theorem R_5_e {N : Nat → Nat} : R_5 N 5 = N 0 + N 1 + N 2 + N 3 + N 4 := by
  show 0 + N 0 + N 1 + N 2 + N 3 + N 4 = _
  omega
/-- how many of the first n liquids were cut short -/
def R_ct (M : Nat → Nat → Int32) (c u : Nat) : Nat → Nat
  | 0 => 0
  | n + 1 => R_ct M c u n + if cq_hN M c n = cq_pN M c u n then 0 else 1
theorem r_rd2 {M : Nat → Nat → Int32} {c u : Nat} (hH : cq_hH M c) (h6 : u ≤ 60000) (hu : u ≤ cq_hW M c) : ∀ {n : Nat}, n ≤ 5 → (cq_rd M c (cq_s0 M c u) n).2 = cq_L0 M c u - R_ct M c u n ∧ ∀ k, n ≤ k → k < 5 → (cq_rd M c (cq_s0 M c u) n).1 k = nI (cq_pN M c u k)
  | 0, _ => by
    refine ⟨rfl, fun k _ hk => ?_⟩
    have hk5 : k = 0 ∨ k = 1 ∨ k = 2 ∨ k = 3 ∨ k = 4 := by omega
    have e := cq_rp_n hH h6 hk
    rcases hk5 with rfl | rfl | rfl | rfl | rfl <;> exact e
  | n + 1, hn => by
    obtain ⟨i1, i2⟩ := r_rd2 hH h6 hu (n := n) (by omega)
    have e1 := i2 n (Nat.le_refl _) (by omega)
    obtain ⟨b1, b2⟩ := hH n (by omega)
    have ple : cq_pN M c u n ≤ cq_hN M c n := cq_pN_le hu
    unfold cq_rd R_ct
    rw [e1, b2]
    by_cases z : (cq_rd M c (cq_s0 M c u) n).2 = 0
    · rw [if_pos z]
      refine ⟨by omega, fun k h1 h2 => i2 k (by omega) h2⟩
    · rw [if_neg z]
      by_cases y : cq_hN M c n = cq_pN M c u n
      · rw [if_pos (by rw [y]), if_pos y]
        exact ⟨i1, fun k h1 h2 => i2 k (by omega) h2⟩
      · rw [if_neg (fun w => y (cy_eq (by omega) (by omega) w)), if_neg y]
        refine ⟨?_, fun k h1 h2 => ?_⟩
        · show (cq_rd M c (cq_s0 M c u) n).2 - 1 = _
          omega
        · show upd _ n _ k = _
          rw [pk_un (by omega)]
          exact i2 k (by omega) h2
theorem r_ctb {M : Nat → Nat → Int32} {c u : Nat} (hu : u ≤ cq_hW M c) (h1 : 1 ≤ u) : ∀ {n : Nat}, R_5 (cq_hN M c) n * u ≤ R_5 (cq_pN M c u) n * cq_hW M c + R_ct M c u n * cq_hW M c
  | 0 => by
    show 0 * u ≤ _
    rw [Nat.zero_mul]
    exact Nat.zero_le _
  | n + 1 => by
    have ih := r_ctb (M := M) (c := c) hu h1 (n := n)
    have hW : 0 < cq_hW M c := by omega
    unfold R_5 R_ct
    rw [Nat.add_mul, Nat.add_mul, Nat.add_mul]
    have dm : cq_hN M c n * u = cq_pN M c u n * cq_hW M c + cq_hN M c n * u % cq_hW M c := by
      unfold cq_pN
      rw [Nat.mul_comm (_ / _) _]
      exact (Nat.div_add_mod _ _).symm
    have ml := Nat.mod_lt (cq_hN M c n * u) hW
    by_cases y : cq_hN M c n = cq_pN M c u n
    · rw [if_pos y, Nat.zero_mul]
      have : cq_hN M c n * u ≤ cq_pN M c u n * cq_hW M c := by
        rw [← y]
        exact Nat.mul_le_mul_left _ hu
      omega
    · rw [if_neg y, Nat.one_mul]
      omega
theorem r_L0 {M : Nat → Nat → Int32} {c u : Nat} (hu : u ≤ cq_hW M c) (h1 : 1 ≤ u) : cq_L0 M c u ≤ R_ct M c u 5 := by
  have hW : 0 < cq_hW M c := by omega
  have q := r_ctb (M := M) (c := c) hu h1 (n := 5)
  rw [R_5_e, R_5_e, ← Nat.add_mul, show cq_hN M c 0 + cq_hN M c 1 + cq_hN M c 2 + cq_hN M c 3 + cq_hN M c 4 = cq_hW M c from rfl, Nat.mul_comm] at q
  have q2 := Nat.le_of_mul_le_mul_right q hW
  unfold cq_L0
  omega
theorem r_rF {M : Nat → Nat → Int32} {c u : Nat} (hH : cq_hH M c) (h1 : 1 ≤ u) (h6 : u ≤ 60000) (hu : u ≤ cq_hW M c) : cq_rF M c u = cq_rd M c (cq_s0 M c u) 5 ∧ (cq_rd M c (cq_s0 M c u) 5).2 = 0 := by
  have e := (r_rd2 hH h6 hu (Nat.le_refl 5)).1
  have hl := r_L0 (M := M) (c := c) hu h1
  have z : (cq_rd M c (cq_s0 M c u) 5).2 = 0 := by omega
  refine ⟨?_, z⟩
  rcases Nat.eq_zero_or_pos (cq_L0 M c u) with y | y
  · have e0 : cq_rF M c u = cq_s0 M c u := by
      unfold cq_rF
      rw [y]
      rfl
    rw [e0]
    exact (cq_rd_stop (S := M) (c := c) (s := cq_s0 M c u) (k := 0) y 5).symm
  · refine (cq_rr_end (S := M) (c := c) (u := u) (r := 1) ?_ ?_).symm
    · show 1 + (cq_rd M c (cq_s0 M c u) 5).2 ≤ _
      omega
    · show (cq_rd M c (cq_s0 M c u) 5).2 ≤ 0
      omega
/-! the class's first pass -/
theorem r_mm1 {T M : Nat → Nat → Int32} {c d u : Nat} (hcd : c ≠ d) (hH : cq_hH M c) (h6 : u ≤ 60000) (hu : u ≤ cq_hW M c) (hT : ∀ k, k < 5 → T (3 * c + 13) k = nI (cq_hN M c k)) : ∀ {n : Nat}, n ≤ 5 → (∀ k, k < 5 → (cy_m1 T c d (nI u) (cq_al M c) n).1 (3 * c + 13) k = nI (if k < n then cq_hN M c k - cq_pN M c u k else cq_hN M c k) ∧ (cy_m1 T c d (nI u) (cq_al M c) n).1 (3 * d + 13) k = T (3 * d + 13) k + nI (if k < n then cq_pN M c u k else 0)) ∧ (cy_m1 T c d (nI u) (cq_al M c) n).2 = nI (R_5 (cq_pN M c u) n) ∧ ∀ j, j ≠ 3 * c + 13 → j ≠ 3 * d + 13 → (cy_m1 T c d (nI u) (cq_al M c) n).1 j = T j
  | 0, _ => by
    refine ⟨fun k hk => ⟨?_, ?_⟩, rfl, fun _ _ _ => rfl⟩
    · rw [if_neg (Nat.not_lt_zero _)]; exact hT k hk
    · rw [if_neg (Nat.not_lt_zero _)]; exact (Int32.add_zero _).symm
  | n + 1, hn => by
    obtain ⟨i1, i2, i3⟩ := r_mm1 hcd hH h6 hu hT (n := n) (by omega)
    obtain ⟨a1, a2⟩ := i1 n (by omega)
    rw [if_neg (Nat.lt_irrefl _)] at a1 a2
    have ept : cy_pt (cy_m1 T c d (nI u) (cq_al M c) n).1 c n (nI u) (cq_al M c) = nI (cq_pN M c u n) := by
      unfold cy_pt cq_pN
      have b0 := (hH 0 (by decide)).1
      have b1 := (hH 1 (by decide)).1
      have b2 := (hH 2 (by decide)).1
      have b3 := (hH 3 (by decide)).1
      have b4 := (hH 4 (by decide)).1
      have bn := (hH n (by omega)).1
      have hw : cq_hW M c ≤ 300000 := by unfold cq_hW; omega
      rw [a1, cq_al_n hH, cy_dvn (by omega) h6 hw]
    have ple : cq_pN M c u n ≤ cq_hN M c n := cq_pN_le hu
    unfold cy_m1
    rw [ept]
    generalize cy_m1 T c d (nI u) (cq_al M c) n = P at i1 i2 i3 a1 a2
    refine ⟨fun k hk => ?_, ?_, fun j h1 h2 => ?_⟩
    · obtain ⟨g1, g2⟩ := i1 k hk
      show cy_sMl P.1 c d n _ (3 * c + 13) k = _ ∧ cy_sMl P.1 c d n _ (3 * d + 13) k = _
      unfold cy_sMl
      rw [cy_un (by omega), cy_us, cy_us]
      by_cases e : k = n
      · subst e
        rw [pk_us, pk_us, a1, a2, if_pos (Nat.lt_succ_self _), if_pos (Nat.lt_succ_self _), pk_sub ple]
        refine ⟨rfl, ?_⟩
        rw [show nI 0 = 0 from rfl, Int32.add_zero]
      · rw [pk_un e, pk_un e, g1, g2]
        by_cases y : k < n
        · rw [if_pos y, if_pos y, if_pos (by omega), if_pos (by omega)]
          exact ⟨rfl, rfl⟩
        · rw [if_neg y, if_neg y, if_neg (by omega), if_neg (by omega)]
          exact ⟨rfl, rfl⟩
    · show P.2 + nI (cq_pN M c u n) = nI (R_5 (cq_pN M c u) n + cq_pN M c u n)
      rw [i2, nI_add]
    · show cy_sMl P.1 c d n _ j = _
      unfold cy_sMl
      rw [cy_un h2, cy_un h1]
      exact i3 j h1 h2
/-! its second pass, and the reference's round -/
theorem r_mm2 {T T1 M : Nat → Nat → Int32} {c d u : Nat} {mv : Int32} (hcd : c ≠ d) (hH : cq_hH M c) (h6 : u ≤ 60000) (hs : cq_I M c u (cq_s0 M c u)) (h1 : ∀ k, k < 5 → T1 (3 * c + 13) k = nI (cq_hN M c k - cq_pN M c u k) ∧ T1 (3 * d + 13) k = T (3 * d + 13) k + nI (cq_pN M c u k)) (hP : ∀ k, k < 5 → (cq_s0 M c u).1 k = nI (cq_pN M c u k) ∧ cq_pN M c u k ≤ cq_hN M c k) (hsum : cq_pN M c u 0 + cq_pN M c u 1 + cq_pN M c u 2 + cq_pN M c u 3 + cq_pN M c u 4 + (cq_s0 M c u).2 = u) (hmv : mv = nI (u - (cq_s0 M c u).2)) : ∀ {n : Nat}, n ≤ 5 → ∃ P : Nat → Nat, (∀ k, k < 5 → (cq_rd M c (cq_s0 M c u) n).1 k = nI (P k) ∧ P k ≤ cq_hN M c k ∧ (cy_m2 T1 c d (nI u) mv n).1 (3 * c + 13) k = nI (cq_hN M c k - P k) ∧ (cy_m2 T1 c d (nI u) mv n).1 (3 * d + 13) k = T (3 * d + 13) k + nI (P k)) ∧ P 0 + P 1 + P 2 + P 3 + P 4 + (cq_rd M c (cq_s0 M c u) n).2 = u ∧ (cy_m2 T1 c d (nI u) mv n).2 = nI (u - (cq_rd M c (cq_s0 M c u) n).2) ∧ ∀ j, j ≠ 3 * c + 13 → j ≠ 3 * d + 13 → (cy_m2 T1 c d (nI u) mv n).1 j = T1 j
  | 0, _ => ⟨cq_pN M c u, fun k hk => ⟨(hP k hk).1, (hP k hk).2, (h1 k hk).1, (h1 k hk).2⟩, hsum, hmv, fun _ _ _ => rfl⟩
  | n + 1, hn => by
    obtain ⟨P, i1, i2, i3, i4⟩ := r_mm2 hcd hH h6 hs h1 hP hsum hmv (n := n) (by omega)
    obtain ⟨a1, a2, a3, a4⟩ := i1 n (by omega)
    obtain ⟨b1, b2⟩ := hH n (by omega)
    unfold cq_rd cy_m2
    rw [a1, a3, i3, b2]
    generalize hQ : cq_rd M c (cq_s0 M c u) n = Q at i1 i2 i3 a1
    generalize hR : cy_m2 T1 c d (nI u) mv n = R at i1 i3 i4 a3 a4
    have hle : Q.2 ≤ u := by omega
    by_cases z : Q.2 = 0
    · have c1 : nI u ≤ nI (u - Q.2) := nI_le (by omega) (by omega)
      rw [if_pos z, if_pos c1]
      exact ⟨P, i1, i2, i3, i4⟩
    · have c1 : ¬ nI u ≤ nI (u - Q.2) := fun w => by
        have := cy_le (by omega) (by omega) w
        omega
      rw [if_neg z, if_neg c1]
      by_cases y : cq_hN M c n = P n
      · have y1 : nI (cq_hN M c n) = nI (P n) := by rw [y]
        have y2 : nI (cq_hN M c n - P n) ≤ 0 := by rw [y, Nat.sub_self]; decide
        rw [if_pos y1, if_pos y2]
        exact ⟨P, i1, i2, i3, i4⟩
      · have y1 : ¬ nI (cq_hN M c n) = nI (P n) := fun w => y (cy_eq (by omega) (by omega) w)
        have y2 : ¬ nI (cq_hN M c n - P n) ≤ 0 := nI_nle (by omega) (by omega)
        rw [if_neg y1, if_neg y2]
        refine ⟨fun k => if k = n then P n + 1 else P k, fun k hk => ?_, ?_, ?_, fun j g1 g2 => ?_⟩
        · obtain ⟨g1, g2, g3, g4⟩ := i1 k hk
          show upd _ n _ k = _ ∧ _ ∧ cy_sMl R.1 c d n 1 (3 * c + 13) k = _ ∧ cy_sMl R.1 c d n 1 (3 * d + 13) k = _
          unfold cy_sMl
          rw [cy_un (by omega), cy_us, cy_us]
          by_cases e : k = n
          · subst e
            simp only [if_pos]
            rw [pk_us, pk_us, pk_us, g3, g4, nI_1, show (1 : Int32) = nI 1 from rfl, pk_sub (by omega), Int32.add_assoc, nI_add]
            exact ⟨rfl, by omega, by congr 1, rfl⟩
          · simp only [if_neg e]
            rw [pk_un e, pk_un e, pk_un e]
            exact ⟨g1, g2, g3, g4⟩
        · show _ + (Q.2 - 1) = u
          have s5 := r_5 (N := P) (N' := fun k => if k = n then P n + 1 else P k) (i := n) (u := 1) (by omega) (fun k _ e => if_neg e) (if_pos rfl)
          have s5' : (if 0 = n then P n + 1 else P 0) + (if 1 = n then P n + 1 else P 1) + (if 2 = n then P n + 1 else P 2) + (if 3 = n then P n + 1 else P 3) + (if 4 = n then P n + 1 else P 4) = P 0 + P 1 + P 2 + P 3 + P 4 + 1 := s5
          show (if 0 = n then P n + 1 else P 0) + (if 1 = n then P n + 1 else P 1) + (if 2 = n then P n + 1 else P 2) + (if 3 = n then P n + 1 else P 3) + (if 4 = n then P n + 1 else P 4) + (Q.2 - 1) = u
          rw [s5']
          omega
        · show nI (u - Q.2) + 1 = nI (u - (Q.2 - 1))
          rw [nI_1]
          congr 1
          omega
        · show cy_sMl R.1 c d n 1 j = _
          unfold cy_sMl
          rw [cy_un g2, cy_un g1]
          exact i4 j g1 g2
theorem r_mv {T M : Nat → Nat → Int32} {c d u : Nat} (hcd : c ≠ d) (hH : cq_hH M c) (h1 : 1 ≤ u) (h6 : u ≤ 60000) (hu : u ≤ cq_hW M c) (hT : ∀ k, k < 5 → T (3 * c + 13) k = nI (cq_hN M c k)) : ∃ P : Nat → Nat, (∀ k, k < 5 → (cq_rF M c u).1 k = nI (P k) ∧ P k ≤ cq_hN M c k ∧ cy_mq T c d (nI u) (cq_al M c) (3 * c + 13) k = nI (cq_hN M c k - P k) ∧ cy_mq T c d (nI u) (cq_al M c) (3 * d + 13) k = T (3 * d + 13) k + nI (P k)) ∧ P 0 + P 1 + P 2 + P 3 + P 4 = u ∧ ∀ j, j ≠ 3 * c + 13 → j ≠ 3 * d + 13 → cy_mq T c d (nI u) (cq_al M c) j = T j := by
  obtain ⟨m1, m2, m3⟩ := r_mm1 hcd hH h6 hu hT (Nat.le_refl 5)
  have hs := (cq_s0_I hH h1 h6 hu).2
  have hle := cq_pN_sum h1 hu
  have hP : ∀ k, k < 5 → (cq_s0 M c u).1 k = nI (cq_pN M c u k) ∧ cq_pN M c u k ≤ cq_hN M c k := fun k hk => ⟨(r_rd2 hH h6 hu (Nat.zero_le 5)).2 k (Nat.zero_le _) hk, cq_pN_le hu⟩
  have hsum : cq_pN M c u 0 + cq_pN M c u 1 + cq_pN M c u 2 + cq_pN M c u 3 + cq_pN M c u 4 + (cq_s0 M c u).2 = u := by
    show _ + cq_L0 M c u = u
    unfold cq_L0
    omega
  obtain ⟨P, g1, g2, g3, g4⟩ := r_mm2 (T := T) (T1 := (cy_m1 T c d (nI u) (cq_al M c) 5).1) (mv := (cy_m1 T c d (nI u) (cq_al M c) 5).2) hcd hH h6 hs (fun k hk => by
    obtain ⟨e1, e2⟩ := m1 k hk
    rw [if_pos hk] at e1 e2
    exact ⟨e1, e2⟩) hP hsum (by
    rw [m2, R_5_e]
    congr 1
    omega) (Nat.le_refl 5)
  obtain ⟨r1, r2⟩ := r_rF hH h1 h6 hu
  rw [r2] at g2
  refine ⟨P, fun k hk => ?_, g2, fun j a b => ?_⟩
  · rw [r1]
    exact g1 k hk
  · show (cy_m2 (cy_m1 T c d (nI u) (cq_al M c) 5).1 c d (nI u) (cy_m1 T c d (nI u) (cq_al M c) 5).2 5).1 j = _
    rw [g4 j a b, m3 j a b]
theorem cq_mv_v {S : Nat → Nat → Int32} {c : Nat} {f : Nat → Int32} : ∀ {n : Nat}, (∀ k, k < n → cq_mv S c f n 14 (5 * c + k) = S 14 (5 * c + k) - f k) ∧ (∀ j, (∀ k, k < n → j ≠ 5 * c + k) → cq_mv S c f n 14 j = S 14 j) ∧ ∀ j, j ≠ 14 → cq_mv S c f n j = S j
  | 0 => ⟨fun k hk => absurd hk (Nat.not_lt_zero _), fun _ _ => rfl, fun _ _ => rfl⟩
  | n + 1 => by
    obtain ⟨h1, h2, h3⟩ := cq_mv_v (S := S) (c := c) (f := f) (n := n)
    unfold cq_mv
    refine ⟨fun k hk => ?_, fun j hj => ?_, fun j hj => ?_⟩
    · rw [cy_us]
      by_cases e : k = n
      · subst e
        rw [pk_us, h2 _ (fun k' hk' => by omega)]
      · rw [pk_un (by omega)]; exact h1 k (by omega)
    · rw [cy_us, pk_un (hj n (by omega))]
      exact h2 j (fun k hk => hj k (by omega))
    · rw [cy_un hj]; exact h3 j hj
theorem cq_mw_v {S : Nat → Nat → Int32} {c d : Nat} {f : Nat → Int32} (hcd : c ≠ d) : ∀ {n : Nat}, n ≤ 5 → (∀ k, k < n → cq_mw S c d f n 14 (5 * c + k) = S 14 (5 * c + k) - f k ∧ cq_mw S c d f n 14 (5 * d + k) = S 14 (5 * d + k) + f k) ∧ (∀ j, (∀ k, k < n → j ≠ 5 * c + k ∧ j ≠ 5 * d + k) → cq_mw S c d f n 14 j = S 14 j) ∧ ∀ j, j ≠ 14 → cq_mw S c d f n j = S j
  | 0, _ => ⟨fun k hk => absurd hk (Nat.not_lt_zero _), fun _ _ => rfl, fun _ _ => rfl⟩
  | n + 1, hn => by
    obtain ⟨h1, h2, h3⟩ := cq_mw_v (S := S) (f := f) hcd (n := n) (by omega)
    unfold cq_mw
    refine ⟨fun k hk => ?_, fun j hj => ?_, fun j hj => ?_⟩
    · rw [cy_us]
      by_cases e : k = n
      · subst e
        refine ⟨?_, ?_⟩
        · rw [pk_un (by omega), pk_us, h2 _ (fun k' hk' => by omega)]
        · rw [pk_us, pk_un (by omega), h2 _ (fun k' hk' => by omega)]
      · rw [pk_un (by omega), pk_un (by omega), pk_un (by omega), pk_un (by omega)]
        exact h1 k (by omega)
    · obtain ⟨j1, j2⟩ := hj n (by omega)
      rw [cy_us, pk_un j2, pk_un j1]
      exact h2 j (fun k hk => hj k (by omega))
    · rw [cy_un hj]; exact h3 j hj
