/-! a month of a cask, both sides; the class's stands in the cells of d -/
theorem R_cd.al {S M : Nat → Nat → Int32} {t d c : Nat} (q : R_cd S M t d c) : cy_sm (S (3 * d + 13)) 5 = cq_al M c ∧ cq_al M c = nI (cq_hW M c) := ⟨cy_sm_c q.2.1.1, cq_al_n q.2.1.2.1⟩
theorem R_cd.hn {S M : Nat → Nat → Int32} {t d c : Nat} (_ : R_cd S M t d c) (h8 : ¬ M 8 c = 0) : cq_hn M c = (M 6 (cq_so M c)).toNatClampNeg := if_neg h8
theorem R_cd.tn {S M : Nat → Nat → Int32} {t d c : Nat} (q : R_cd S M t d c) (h8 : ¬ M 8 c = 0) (hh : cq_hn M c ≤ 8) : cy_sm (S (3 * d + 12)) 8 = cq_tn M c := by
  unfold cq_tn
  refine r_sum hh (fun k hk => ?_) (fun k h1 h2 => ?_)
  · rw [q.hn h8] at hk
    exact q.2.2.1.1 k hk
  · rw [q.hn h8] at h1
    exact q.2.2.1.2.1 k h1 h2
theorem R_cd.lk {S M : Nat → Nat → Int32} {t d c : Nat} (q : R_cd S M t d c) (h8 : ¬ M 8 c = 0) (hh : cq_hn M c ≤ 8) (h2 : ¬ S (3 * d + 11) 2 = 0) : cy_rLeak S d = cq_lk M c := by
  unfold cy_rLeak cq_lk
  rw [if_pos h2, q.tn h8 hh, q.1.2.1, q.1.2.2.2.1]
/-- swelling and air change -/
theorem R_cd.sa {S M S' M' : Nat → Nat → Int32} {t d c s a : Nat} (h : R_cd S M t d c) (e11 : ∀ k, k ≠ 5 → k ≠ 7 → S' (3 * d + 11) k = S (3 * d + 11) k) (e12 : S' (3 * d + 12) = S (3 * d + 12)) (e13 : S' (3 * d + 13) = S (3 * d + 13)) (m5 : M' 5 = M 5) (m6 : M' 6 = M 6) (m7 : M' 7 = M 7) (m9 : M' 9 = M 9) (m10 : M' 10 = M 10) (m12 : M' 12 = M 12) (m14 : ∀ k, k < 5 → M' 14 (5 * c + k) = M 14 (5 * c + k)) (m15 : M' 15 = M 15) (hs : S' (3 * d + 11) 5 = nI s) (hs' : M' 11 c = nI s) (hs2 : s ≤ 20) (ha : S' (3 * d + 11) 7 = nI a) (ha' : M' 13 c = nI a) (ha2 : a ≤ 5) : R_cd S' M' t d c := by
  obtain ⟨⟨a1, a2, a3, a4, a5, a6, a7⟩, ⟨b1, b2, b3⟩, ⟨c1, c2, c3⟩, d1, d2, d4⟩ := h
  have so : cq_so M' c = cq_so M c := by unfold cq_so; rw [m7]
  refine ⟨⟨?_, ?_, ?_, ?_, ?_, ?_, ?_⟩, ⟨?_, cq_hH_e m14 b2, ?_⟩, ⟨?_, ?_, ?_⟩, ⟨⟨s, hs2, hs'⟩, ?_, ⟨a, ha2, ha'⟩⟩⟩
  · rw [so, m5, e11 1 (by decide) (by decide)]; exact a1
  · rw [m9, e11 3 (by decide) (by decide)]; exact a2
  · rw [so, m6, e11 4 (by decide) (by decide)]; exact a3
  · rw [hs, hs']
  · rw [m12, e11 6 (by decide) (by decide)]; exact a5
  · rw [ha, ha']
  · rw [m15, e11 8 (by decide) (by decide)]; exact a7
  · intro k hk
    rw [e13, m14 k hk]; exact b1 k hk
  · rw [cq_hW_e m14, so, m5]; exact b3
  · rw [so, m6, e12, m10]; exact c1
  · rw [so, m6, e12]; exact c2
  · rw [e12]; exact c3
  · rw [m12]; exact d2
theorem cy_growth {a q : Nat} (ha : a ≤ 600) (hq : q ≤ 1000000) : (q ≤ 8 → nI a * (8 - nI q) = nI (a * (8 - q))) ∧ (8 < q → nI a * (8 - nI q) ≤ 0) := by
  constructor
  · intro h
    rw [show (8 : Int32) = nI 8 from rfl, pk_sub h, pk_mul]
  · intro h
    rw [Int32.le_iff_toInt_le, Int32.toInt_mul, show (8 : Int32) = nI 8 from rfl, pk_sub_toInt (by decide) (by omega), nI_toInt (by omega)]
    have h1 : (a : Int) * (((8 : Nat) : Int) - (q : Int)) ≤ 0 := Int.mul_nonpos_of_nonneg_of_nonpos (by omega) (by omega)
    have h2 : -(600 * 1000000 : Int) ≤ (a : Int) * (((8 : Nat) : Int) - (q : Int)) := by
      have h3 : (a : Int) * ((q : Int) - ((8 : Nat) : Int)) ≤ 600 * 1000000 := Int.mul_le_mul (by omega) (by omega) (by omega) (by decide)
      have h4 : (a : Int) * (((8 : Nat) : Int) - (q : Int)) = -((a : Int) * ((q : Int) - ((8 : Nat) : Int))) := by
        rw [← Int.mul_neg, Int.neg_sub]
      omega
    generalize (a : Int) * (((8 : Nat) : Int) - (q : Int)) = z at h1 h2
    rw [Int.bmod_eq_of_le (by omega) (by omega)]
    exact h1
/-- the oak -/
theorem r_m1 {S M : Nat → Nat → Int32} {t d c r g : Nat} (q : R_cd S M t d c) (hr : M 5 (cq_so M c) = nI r) (hr2 : r ≤ 60000) (ht : t ≤ 1000000) (hg : M 15 c = nI g) : ∃ G, G ≤ 4800 ∧ cy_sTk S d (3 * d + 11) 8 = nI (g + G) ∧ cq_p1 M c 15 c = nI (g + G) ∧ (∀ k, k ≠ 8 → cy_sTk S d (3 * d + 11) k = S (3 * d + 11) k) ∧ (∀ e, e ≠ c → cq_p1 M c 15 e = M 15 e) ∧ R_cd (cy_sTk S d) (cq_p1 M c) t d c := by
  obtain ⟨al1, al2⟩ := q.al
  obtain ⟨f, hf, hf2⟩ := q.2.2.2.2.1
  have hW : cq_hW M c ≤ r := by
    have z := q.2.1.2.2
    rw [hr, nI_clamp (by omega)] at z
    exact z
  have hS8 : S (3 * d + 11) 8 = nI g := by rw [q.1.2.2.2.2.2.2, hg]
  have hS6 : S (3 * d + 11) 6 = nI f := by rw [q.1.2.2.2.2.1, hf2]
  have h100 : cq_hW M c / 100 ≤ 600 := by omega
  have ediv : nI (cq_hW M c) / 100 = nI (cq_hW M c / 100) := pk_div (d := 100) (by omega) (by decide) (by decide)
  obtain ⟨g1, g2⟩ := cy_growth (a := cq_hW M c / 100) (q := f) h100 (by omega)
  have hGle : cq_hW M c / 100 * (8 - f) ≤ 4800 := by
    have := Nat.mul_le_mul h100 (show 8 - f ≤ 8 by omega)
    omega
  have egr : cy_gr S d = nI (cq_hW M c / 100) * (8 - nI f) := by
    unfold cy_gr
    rw [al1, al2, hS6, ediv]
  have a8 : cy_sTk S d (3 * d + 11) 8 = nI (g + cq_hW M c / 100 * (8 - f)) := by
    unfold cy_sTk
    rw [egr]
    rcases Nat.lt_or_ge 8 f with z | z
    · rw [if_pos (g2 z), hS8, show 8 - f = 0 by omega, Nat.mul_zero, Nat.add_zero]
    · rw [g1 z]
      generalize cq_hW M c / 100 * (8 - f) = G at hGle
      by_cases y : nI G ≤ 0
      · have : G = 0 := by
          have := cy_le (b := 0) (by omega) (by decide) y
          omega
        rw [if_pos y, hS8, this, Nat.add_zero]
      · rw [if_neg y, cy_us, pk_us, hS8, nI_add]
  have aM : cq_p1 M c 15 c = nI (g + cq_hW M c / 100 * (8 - f)) := by
    unfold cq_p1
    rw [al2]
    by_cases y : nI (cq_hW M c) ≤ 0
    · have y0 : cq_hW M c = 0 := by
        have := cy_le (b := 0) (by omega) (by decide) y
        omega
      rw [if_pos y, hg, y0, Nat.zero_div, Nat.zero_mul, Nat.add_zero]
    · rw [if_neg y, cy_us, pk_us, hg, hf2, ediv]
      rw [show cy_mx 0 (8 - nI f) = nI (8 - f) from cy_mx_sub (a := 8) (by decide) (by omega), pk_mul, nI_add]
  have a11 : ∀ k, k ≠ 8 → cy_sTk S d (3 * d + 11) k = S (3 * d + 11) k := fun k hk => by
    unfold cy_sTk
    split
    · rfl
    · rw [cy_us, pk_un hk]
  refine ⟨_, hGle, a8, aM, a11, fun e he => ?_, ?_⟩
  · unfold cq_p1
    split
    · rfl
    · rw [cy_us, pk_un he]
  · have e14 : ∀ k, k < 5 → M 14 (5 * c + k) = nI (cq_hN M c k) := fun k hk => (q.2.1.2.1 k hk).2
    refine q.am (N := cq_hN M c) (w := r) (f := f) (fun k _ h8 => a11 k h8) (cy_sTk_n (by omega)) (cq_p1_n (by decide)) (cq_p1_n (by decide)) (cq_p1_n (by decide)) (cq_p1_n (by decide)) (cq_p1_n (by decide)) (cq_p1_n (by decide)) (cq_p1_n (by decide)) (by rw [a11 6 (by decide)]; exact hS6) (by rw [cq_p1_n (by decide)]; exact hf2) hf (by rw [a8, aM]) (fun k hk => ?_) (fun k hk => ?_) hW hr hr2
    · rw [cy_sTk_n (by omega), ← e14 k hk]
      exact q.2.1.1 k hk
    · rw [cq_p1_n (by decide)]
      exact e14 k hk
/-- the swelling -/
def cq_sw (M : Nat → Nat → Int32) (c : Nat) : Nat → Nat → Int32 := va_up M 11 (upd (M 11) c (if 2 * cq_al M c < M 5 (cq_so M c) then cy_mx 0 (M 11 c - 3) else cy_mn 20 (M 11 c + 5)))
theorem cq_p2_sw {M : Nat → Nat → Int32} {c : Nat} : cq_p2 M c = cq_sw (cq_p1 M c) c := by
  unfold cq_p2 cq_sw
  have e1 : cq_al (cq_p1 M c) c = cq_al M c := by unfold cq_al; rw [cq_p1_n (by decide)]
  have e2 : cq_so (cq_p1 M c) c = cq_so M c := by unfold cq_so; rw [cq_p1_n (by decide)]
  rw [e1, e2]
theorem r_m2 {S M : Nat → Nat → Int32} {t d c : Nat} (q : R_cd S M t d c) : (∀ k, k ≠ 5 → cy_sSw S d (3 * d + 11) k = S (3 * d + 11) k) ∧ (∀ e, e ≠ c → cq_sw M c 11 e = M 11 e) ∧ R_cd (cy_sSw S d) (cq_sw M c) t d c := by
  obtain ⟨al1, -⟩ := q.al
  obtain ⟨s, hs, hs2⟩ := q.2.2.2.1
  obtain ⟨a, ha, ha2⟩ := q.2.2.2.2.2
  have hS5 : S (3 * d + 11) 5 = nI s := by rw [q.1.2.2.2.1, hs2]
  have hS7 : S (3 * d + 11) 7 = nI a := by rw [q.1.2.2.2.2.2.1, ha2]
  have a11 : ∀ k, k ≠ 5 → cy_sSw S d (3 * d + 11) k = S (3 * d + 11) k := fun k hk => by
    unfold cy_sSw
    split <;> rw [cy_us, pk_un hk]
  have e1 : cy_mx 0 (nI s - 3) = nI (s - 3) := cy_mx_sub (b := 3) (by omega) (by decide)
  have e2 : cy_mn 20 (nI s + 5) = nI (min 20 (s + 5)) := by
    rw [show nI s + 5 = nI (s + 5) from nI_add s 5]
    exact cy_mn_n (a := 20) (by decide) (by omega)
  have sn : ∀ j, j ≠ 11 → cq_sw M c j = M j := fun j hj => cy_un hj
  refine ⟨a11, fun e he => by unfold cq_sw; rw [cy_us, pk_un he], ?_⟩
  have key : ∃ s', s' ≤ 20 ∧ cy_sSw S d (3 * d + 11) 5 = nI s' ∧ cq_sw M c 11 c = nI s' := by
    unfold cy_sSw cq_sw
    rw [al1, q.1.1, cy_us, pk_us, hs2]
    split
    · exact ⟨s - 3, by omega, by rw [cy_us, pk_us, hS5]; exact e1, e1⟩
    · exact ⟨min 20 (s + 5), by omega, by rw [cy_us, pk_us, hS5]; exact e2, e2⟩
  obtain ⟨s', h1, h2, h3⟩ := key
  exact q.sa (fun k k5 _ => a11 k k5) (cy_sSw_n (by omega)) (cy_sSw_n (by omega)) (sn 5 (by decide)) (sn 6 (by decide)) (sn 7 (by decide)) (sn 9 (by decide)) (sn 10 (by decide)) (sn 12 (by decide)) (fun k _ => by rw [sn 14 (by decide)]) (sn 15 (by decide)) h2 h3 h1 (by rw [a11 7 (by decide)]; exact hS7) (by rw [sn 13 (by decide)]; exact ha2) ha
/-- the losses -/
theorem cy_ls_n {a : Nat} {th : Int32} (h1 : 1 ≤ a) (h2 : a ≤ 60000) : ∃ b, 1 ≤ b ∧ b ≤ a ∧ cy_ls (nI a) th = nI b := by
  unfold cy_ls
  rw [nI_l (by omega)]
  generalize (lN a * th.toInt64) / 1000 = Q
  have hY : (1 : Int64) ≤ cy_mxL 1 Q := by
    unfold cy_mxL
    split
    · decide
    · next z => exact Int64.not_lt.mp z
  generalize cy_mxL 1 Q = Y at hY
  unfold cy_mnL
  by_cases z : Y < lN a
  · rw [if_pos z]
    rw [Int64.le_iff_toInt_le] at hY
    rw [Int64.lt_iff_toInt_lt, lN_toInt (by omega)] at z
    have e1 : (1 : Int64).toInt = 1 := rfl
    have e : Y = lN Y.toInt.toNat := by
      refine Int64.toInt_inj.mp ?_
      rw [lN_toInt (by omega)]
      omega
    refine ⟨Y.toInt.toNat, by omega, by omega, ?_⟩
    rw [e, lN_i, lN_toInt (by omega)]
    rfl
  · rw [if_neg z, lN_i]
    exact ⟨a, h1, Nat.le_refl _, rfl⟩
theorem r_lo {S M : Nat → Nat → Int32} {d c : Nat} {th : Int32} {N : Nat → Nat} (hS : ∀ k, k < 5 → S (3 * d + 13) k = nI (N k)) (hM : ∀ k, k < 5 → M 14 (5 * c + k) = nI (N k)) (hN : ∀ k, k < 5 → N k ≤ 60000) : ∀ {i : Nat}, i ≤ 5 → ∃ N' : Nat → Nat, (∀ k, k < 5 → (cy_lo S d th i).1 (3 * d + 13) k = nI (N' k) ∧ (cq_lo M c th i).1 14 (5 * c + k) = nI (N' k) ∧ N' k ≤ N k ∧ (i ≤ k → N' k = N k)) ∧ (cy_lo S d th i).2 = (cq_lo M c th i).2 ∧ ∀ j, (∀ k, k < 5 → j ≠ 5 * c + k) → (cq_lo M c th i).1 14 j = M 14 j
  | 0, _ => ⟨N, fun k hk => ⟨hS k hk, hM k hk, Nat.le_refl _, fun _ => rfl⟩, rfl, fun _ _ => rfl⟩
  | i + 1, hi => by
    obtain ⟨N', g1, g2, g3⟩ := r_lo (th := th) hS hM hN (i := i) (by omega)
    obtain ⟨b1, b2, -, b4⟩ := g1 i (by omega)
    rw [b4 (Nat.le_refl _)] at b1 b2
    unfold cy_lo cq_lo
    rw [b1, b2]
    by_cases z : N i = 0
    · rw [z, if_pos (show nI 0 ≤ 0 by decide), show cq_ow (nI 0) th = 0 from if_pos rfl]
      refine ⟨N', fun k hk => ?_, ?_, fun j hj => ?_⟩
      · obtain ⟨a1, a2, a3, a4⟩ := g1 k hk
        refine ⟨a1, ?_, a3, fun q => a4 (by omega)⟩
        dsimp only
        rw [cy_us]
        by_cases e : k = i
        · subst e
          rw [pk_us, b4 (Nat.le_refl _), z]
          rfl
        · rw [pk_un (by omega)]; exact a2
      · show _ = (cq_lo M c th i).2 + 0
        rw [Int32.add_zero]; exact g2
      · dsimp only
        rw [cy_us, pk_un (hj i (by omega))]
        exact g3 j hj
    · have hNi := hN i (by omega)
      obtain ⟨b, hb1, hb2, hb3⟩ := cy_ls_n (a := N i) (th := th) (by omega) hNi
      rw [if_neg (nI_nle (by omega) (by omega)), show cq_ow (nI (N i)) th = cy_ls (nI (N i)) th from if_neg (nI_ne0 (by omega) (by omega)), hb3, pk_sub hb2]
      refine ⟨fun k => if k = i then N i - b else N' k, fun k hk => ?_, ?_, fun j hj => ?_⟩
      · obtain ⟨a1, a2, a3, a4⟩ := g1 k hk
        dsimp only
        rw [cy_us, cy_us]
        by_cases e : k = i
        · subst e
          simp only [if_pos]
          exact ⟨pk_us, pk_us, by omega, fun q => by omega⟩
        · simp only [if_neg e]
          exact ⟨by rw [pk_un e]; exact a1, by rw [pk_un (by omega)]; exact a2, a3, fun q => a4 (by omega)⟩
      · show (cy_lo S d th i).2 + nI b = (cq_lo M c th i).2 + nI b
        rw [g2]
      · dsimp only
        rw [cy_us, pk_un (hj i (by omega))]
        exact g3 j hj
theorem r_m4 {S M : Nat → Nat → Int32} {t d c r : Nat} {th : Int32} (q : R_cd S M t d c) (hr : M 5 (cq_so M c) = nI r) (hr2 : r ≤ 60000) : (cy_lo S d th 5).2 = (cq_lo M c th 5).2 ∧ (∀ j, (∀ k, k < 5 → j ≠ 5 * c + k) → (cq_lo M c th 5).1 14 j = M 14 j) ∧ R_cd (cy_lo S d th 5).1 (cq_lo M c th 5).1 t d c := by
  have e14 : ∀ k, k < 5 → M 14 (5 * c + k) = nI (cq_hN M c k) := fun k hk => (q.2.1.2.1 k hk).2
  obtain ⟨N', g1, g2, g3⟩ := r_lo (S := S) (M := M) (d := d) (c := c) (th := th) (N := cq_hN M c) (fun k hk => by rw [← e14 k hk]; exact q.2.1.1 k hk) e14 (fun k hk => (q.2.1.2.1 k hk).1) (Nat.le_refl 5)
  obtain ⟨f, hf, hf2⟩ := q.2.2.2.2.1
  have hW : cq_hW M c ≤ r := by
    have z := q.2.1.2.2
    rw [hr, nI_clamp (by omega)] at z
    exact z
  refine ⟨g2, g3, q.am (N := N') (w := r) (f := f) (fun k _ _ => by rw [cy_lo_n (by omega)]) (cy_lo_n (by omega)) (cq_lo_n (by decide)) (cq_lo_n (by decide)) (cq_lo_n (by decide)) (cq_lo_n (by decide)) (cq_lo_n (by decide)) (cq_lo_n (by decide)) (cq_lo_n (by decide)) (by rw [cy_lo_n (by omega), q.1.2.2.2.2.1, hf2]) (by rw [cq_lo_n (by decide)]; exact hf2) hf (by rw [cy_lo_n (by omega), cq_lo_n (by decide)]; exact q.1.2.2.2.2.2.2) (fun k hk => (g1 k hk).1) (fun k hk => (g1 k hk).2.1) ?_ hr hr2⟩
  have a0 := (g1 0 (by decide)).2.2.1
  have a1 := (g1 1 (by decide)).2.2.1
  have a2 := (g1 2 (by decide)).2.2.1
  have a3 := (g1 3 (by decide)).2.2.1
  have a4 := (g1 4 (by decide)).2.2.1
  unfold cq_hW at hW
  omega
