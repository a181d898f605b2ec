/-! foresee -/
theorem Rel.scr {S M S' M' : Nat → Nat → Int32} {ns no nc mo t t' : Nat} (h : Rel S M ns no nc mo t) (ht : t ≤ t') (hS : ∀ j, j < 47 → j ≠ 9 → j ≠ 10 → S' j = S j) (hM : ∀ j, 1 ≤ j → j ≤ 15 → M' j = M j) (h0 : ∀ k, k ≠ 0 → k ≠ 23 → M' 0 k = M 0 k) : Rel S' M' ns no nc mo t' := by
  have h12 := h.1.2.2.1.2.2
  refine h.mk1 ?_ (fun i hi => (h.2.1 i hi).keep ⟨hS 1 (by decide) (by decide) (by decide), hS 2 (by decide) (by decide) (by decide), hS 3 (by decide) (by decide) (by decide)⟩ ⟨hM 1 (by decide) (by decide), hM 2 (by decide) (by decide), hM 3 (by decide) (by decide)⟩) ⟨hS 4 (by decide) (by decide) (by decide), hS 5 (by decide) (by decide) (by decide), hS 6 (by decide) (by decide) (by decide)⟩ ⟨hM 4 (by decide) (by decide), hM 5 (by decide) (by decide), hM 6 (by decide) (by decide), hM 7 (by decide) (by decide)⟩ ht (fun d hd => Or.inl ⟨⟨⟨hS _ (by omega) (by omega) (by omega), hS _ (by omega) (by omega) (by omega), hS _ (by omega) (by omega) (by omega)⟩, ⟨?_, ?_, ?_, ?_, ?_, ?_⟩, fun k _ => ?_, fun k _ => ?_⟩, fun i _ => ?_⟩) (fun c hc => ?_) ?_
  · unfold R_n
    rw [hS 0 (by decide) (by decide) (by decide), h0 4 (by decide) (by decide), h0 8 (by decide) (by decide), h0 12 (by decide) (by decide), h0 1 (by decide) (by decide), h0 3 (by decide) (by decide), h0 2 (by decide) (by decide)]
    exact h.1
  · rw [hM 8 (by decide) (by decide)]
  · rw [hM 9 (by decide) (by decide)]
  · rw [hM 11 (by decide) (by decide)]
  · rw [hM 12 (by decide) (by decide)]
  · rw [hM 13 (by decide) (by decide)]
  · rw [hM 15 (by decide) (by decide)]
  · rw [hM 10 (by decide) (by decide)]
  · rw [hM 14 (by decide) (by decide)]
  · rw [hS 3 (by decide) (by decide) (by decide)]
  · rw [hM 15 (by decide) (by decide)]; exact h.2.2.2.2.1 c hc
  · rw [R_gr_c (hM 15 (by decide) (by decide))]; exact h.2.2.2.2.2
/-- the copy -/
theorem cy_sCp_v {S : Nat → Nat → Int32} {c : Nat} : (∀ k, k ≤ 8 → cy_sCp S 12 c (3 * 12 + 11) k = S (3 * c + 11) k) ∧ (∀ k, k < 8 → cy_sCp S 12 c (3 * 12 + 12) k = S (3 * c + 12) k) ∧ ∀ k, k < 5 → cy_sCp S 12 c (3 * 12 + 13) k = S (3 * c + 13) k := by
  unfold cy_sCp
  refine ⟨fun k hk => ?_, fun k hk => ?_, fun k hk => ?_⟩
  · rw [cy_un (by decide), cy_un (by decide), cy_us]
    have hk9 : k = 0 ∨ k = 1 ∨ k = 2 ∨ k = 3 ∨ k = 4 ∨ k = 5 ∨ k = 6 ∨ k = 7 ∨ k = 8 := by omega
    rcases hk9 with rfl | rfl | rfl | rfl | rfl | rfl | rfl | rfl | rfl <;> rfl
  · rw [cy_un (by decide), cy_us, pk_cpy_in (Nat.zero_le _) (by omega)]
    congr 1
    omega
  · rw [cy_us, pk_cpy_in (Nat.zero_le _) (by omega)]
    congr 1
    omega
theorem R_cd.copy {S M : Nat → Nat → Int32} {t c : Nat} (q : R_cd S M t c c) (hh : (M 6 (cq_so M c)).toNatClampNeg ≤ 8) : R_cd (cy_sCp S 12 c) (cq_rs M) t 12 c := by
  obtain ⟨v1, v2, v3⟩ := cy_sCp_v (S := S) (c := c)
  have m : ∀ j, j ≠ 0 → cq_rs M j = M j := fun j hj => cy_un hj
  have so : cq_so (cq_rs M) c = cq_so M c := by unfold cq_so; rw [m 7 (by decide)]
  obtain ⟨⟨a1, a2, a3, a4, a5, a6, a7⟩, ⟨b1, b2, b3⟩, ⟨c1, c2, c3⟩, d1, d2, d4⟩ := q
  have e14 : ∀ k, k < 5 → cq_rs M 14 (5 * c + k) = M 14 (5 * c + k) := fun k _ => by rw [m 14 (by decide)]
  refine ⟨⟨?_, ?_, ?_, ?_, ?_, ?_, ?_⟩, ⟨fun k hk => ?_, cq_hH_e e14 b2, ?_⟩, ⟨fun k hk => ?_, fun k h1 h2 => ?_, fun k hk => ?_⟩, ?_, ?_, ?_⟩
  · rw [v1 1 (by decide), so, m 5 (by decide)]; exact a1
  · rw [v1 3 (by decide), m 9 (by decide)]; exact a2
  · rw [v1 4 (by decide), so, m 6 (by decide)]; exact a3
  · rw [v1 5 (by decide), m 11 (by decide)]; exact a4
  · rw [v1 6 (by decide), m 12 (by decide)]; exact a5
  · rw [v1 7 (by decide), m 13 (by decide)]; exact a6
  · rw [v1 8 (by decide), m 15 (by decide)]; exact a7
  · rw [v3 k hk, m 14 (by decide)]; exact b1 k hk
  · rw [cq_hW_e e14, so, m 5 (by decide)]; exact b3
  · rw [so, m 6 (by decide)] at hk
    rw [v2 k (by omega), m 10 (by decide)]; exact c1 k hk
  · rw [so, m 6 (by decide)] at h1
    rw [v2 k h2]; exact c2 k h1 h2
  · rw [v2 k hk]; exact c3 k hk
  · rw [m 11 (by decide)]; exact d1
  · rw [m 12 (by decide)]; exact d2
  · rw [m 13 (by decide)]; exact d4
theorem cq_fl_0 {M : Nat → Nat → Int32} {c : Nat} : ∀ {n : Nat}, cq_fl M c n 0 = cq_rs M 0
  | 0 => rfl
  | n + 1 => by
    show cq_pc (cq_fl M c n) c _ 0 = _
    rw [cq_pc_n (by decide) (by decide) (by decide) (by decide) (by decide), cq_fl_0]
theorem r_fl {S M : Nat → Nat → Int32} {ns no nc mo t c : Nat} (h : Rel S M ns no nc mo t) (ht : t ≤ 1000000) (hc : c < nc) (h8 : ¬ M 8 c = 0) : ∀ {n : Nat}, (cy_fe S c n (3 * 12 + 11) 2 = 1 ∧ ∃ g, cq_fl M c n 15 c = nI g) ∧ (∀ e, e ≠ c → cq_fl M c n 11 e = M 11 e ∧ cq_fl M c n 13 e = M 13 e ∧ cq_fl M c n 15 e = M 15 e) ∧ (∀ j, (∀ k, k < 8 → j ≠ 8 * c + k) → cq_fl M c n 10 j = M 10 j) ∧ (∀ j, (∀ k, k < 5 → j ≠ 5 * c + k) → cq_fl M c n 14 j = M 14 j) ∧ R_cd (cy_fe S c n) (cq_fl M c n) t 12 c
  | 0 => by
    obtain ⟨j, hj, s1, s2, s3, s4, s5, s6, s7⟩ := h.sd hc h8
    refine ⟨⟨?_, _, (h.2.2.2.2.1 c hc)⟩, fun e _ => ⟨rfl, rfl, rfl⟩, fun j _ => rfl, fun j _ => rfl, s6.copy (by rw [s2]; exact h.h8 j hj)⟩
    show cy_sCp S 12 c (3 * 12 + 11) 2 = 1
    rw [cy_sCp_v.1 2 (by decide)]
    exact s4
  | n + 1 => by
    obtain ⟨⟨i1, g, i2⟩, i3, i4, i5, i6⟩ := r_fl h ht hc h8 (n := n)
    obtain ⟨j, hj, s1, s2, s3, s4, s5, s6, s7⟩ := h.sd hc h8
    obtain ⟨r, r1, r2, r3, r4⟩ := h.room hj
    obtain ⟨wa, w1, w2, w3⟩ := h.1.2.2.2.2.2
    have fn : ∀ j, j ≠ 0 → j ≠ 10 → j ≠ 11 → j ≠ 13 → j ≠ 14 → j ≠ 15 → cq_fl M c n j = M j := fun j a b d e f k => cq_fl_n a b d e f k
    have so : cq_so (cq_fl M c n) c = j := by
      unfold cq_so
      rw [fn 7 (by decide) (by decide) (by decide) (by decide) (by decide) (by decide)]
      exact s2
    have hh : cq_hn (cq_fl M c n) c ≤ 8 := by
      unfold cq_hn
      rw [so, fn 8 (by decide) (by decide) (by decide) (by decide) (by decide) (by decide), if_neg h8, fn 6 (by decide) (by decide) (by decide) (by decide) (by decide) (by decide)]
      exact h.h8 j hj
    have ex : (S 0 14 + nI n) + 1 = M 0 1 + nI (n + 1) := by
      obtain ⟨m1, m2, -⟩ := h.1.2.2.2.1
      rw [m1, m2, nI_add, nI_add, nI_1, Nat.add_assoc]
    obtain ⟨⟨G, hG, m1⟩, m2, ⟨m3, m4⟩, m5, m6, m7, m8⟩ := r_mo (w := S 0 16) (b := cy_hl (S 0 14 + nI n)) (x := M 0 1 + nI (n + 1)) i6 (r := r) (by rw [so, fn 5 (by decide) (by decide) (by decide) (by decide) (by decide) (by decide)]; exact r3) r2 ht i2 i1 (by rw [fn 8 (by decide) (by decide) (by decide) (by decide) (by decide) (by decide)]; exact s5) hh (by rw [cq_fl_0, w2, ← w3]; rfl) (by rw [cy_hl_i, ex])
    refine ⟨⟨m4, _, m1⟩, fun e he => ?_, fun j hj => ?_, fun j hj => ?_, m8⟩
    · obtain ⟨a1, a2, a3⟩ := m5 e he
      obtain ⟨b1, b2, b3⟩ := i3 e he
      exact ⟨a1.trans b1, a2.trans b2, a3.trans b3⟩
    · exact (m6 j hj).trans (i4 j hj)
    · exact (m7 j hj).trans (i5 j hj)
/-- a broken cask stays as it is -/
theorem r_fb {S : Nat → Nat → Int32} {c : Nat} (h : S (3 * c + 11) 2 = 0) : ∀ {n : Nat}, cy_fe S c n = cy_sCp S 12 c
  | 0 => rfl
  | n + 1 => by
    unfold cy_fe
    rw [r_fb h (n := n)]
    unfold cy_sLv
    rw [if_neg (fun z => z (by rw [cy_sCp_v.1 2 (by decide)]; exact h))]
theorem cy_cpr {f g : Nat → Int32} {a m : Nat} (h : ∀ j, (∀ k, k < m → j ≠ a + k) → g j = f j) : va_cpy (va_cpy f (fun _ => 0) a 0 m) g 0 a m = f := by
  funext j
  by_cases z : a ≤ j ∧ j < a + m
  · rw [pk_cpy_in z.1 z.2, pk_cpy_in (Nat.zero_le _) (by omega)]
    congr 1
    omega
  · rw [pk_cpy_out (by omega)]
    exact h j (fun k hk => by omega)
theorem cy_upr {f g : Nat → Int32} {c : Nat} (h : ∀ e, e ≠ c → g e = f e) : upd g c (f c) = f := by
  funext j
  by_cases z : j = c
  · subst z; exact pk_us
  · rw [pk_un z]; exact h j z
theorem s_foresee {S M : Nat → Nat → Int32} {x y z : Int32} {ns no nc mo t : Nat} (ht : t ≤ 1000000) (h : Rel S M ns no nc mo t) : R_F cy_IB cy_IA (cy_tFo S x y z nc) (cq_Fo M x y z nc) (cy_rFo S x.toNatClampNeg y.toNatClampNeg z.toNatClampNeg) (cy_if (cy_tFo S x y z nc) (cy_fe S x.toNatClampNeg y.toNatClampNeg) S) (t + 1) := by
  have h12 := h.1.2.2.1.2.2
  obtain ⟨m1, m2, m3⟩ := h.1.2.2.2.1
  have et : cy_tFo S x y z nc = if cq_in x 0 (nI nc - 1) = 0 then some cy_IB else if cq_in z 0 3 = 0 then some cy_IB else if cq_in y 1 60 = 0 then some cy_IA else if S 0 14 + y ≤ 1200 then none else some cy_IS := by
    unfold cy_tFo
    rw [r_g0 (by omega), r_g2 (hi := 3) (by decide), r_g1]
  by_cases h1 : cq_in x 0 (nI nc - 1) = 0
  · exact r_bad h (E := cy_IB) (k := 1) (by rw [et, if_pos h1]) (by unfold cq_Fo; rw [if_pos h1]) rfl
  rw [if_neg h1] at et
  by_cases h2 : cq_in z 0 3 = 0
  · exact r_bad h (E := cy_IB) (k := 1) (by rw [et, if_pos h2]) (by unfold cq_Fo; rw [if_neg h1, if_pos h2]) rfl
  rw [if_neg h2] at et
  by_cases h3 : cq_in y 1 60 = 0
  · exact r_bad h (E := cy_IA) (k := 2) (by rw [et, if_pos h3]) (by unfold cq_Fo; rw [if_neg h1, if_neg h2, if_pos h3]) rfl
  rw [if_neg h3] at et
  by_cases h4 : S 0 14 + y ≤ 1200
  case neg => exact r_bad h (E := cy_IS) (k := 3) (by rw [et, if_neg h4]) (by unfold cq_Fo; rw [if_neg h1, if_neg h2, if_neg h3, if_neg (by rw [m2, ← m1]; exact h4)]) rfl
  rw [if_pos h4] at et
  have h4' : M 0 1 + y ≤ 1200 := by rw [m2, ← m1]; exact h4
  obtain ⟨c, hc, rfl⟩ := cq_in_t (by omega) h1
  obtain ⟨i, hi, rfl⟩ := cq_in_l (n := 3) (by decide) h2
  obtain ⟨k, ⟨hk1, hk2⟩, rfl⟩ := cq_in_l1 (n := 60) (by decide) h3
  have ec : (nI c).toNatClampNeg = c := nI_clamp (by omega)
  have ei : (nI i).toNatClampNeg = i := nI_clamp (by omega)
  have ek : (nI k).toNatClampNeg = k := nI_clamp (by omega)
  rw [ec, ei, ek]
  have hi4 : i = 0 ∨ i = 1 ∨ i = 2 ∨ i = 3 := by omega
  have sc : ∀ j, j < 47 → j ≠ 9 → j ≠ 10 → cy_fe S c k j = S j := fun j hj _ _ => cy_fe_n hj
  by_cases h8 : M 8 c = 0
  · have h2c : S (3 * c + 11) 2 = 0 := by rw [h.so c hc]; exact h8
    have f : cq_Fo M (nI c) (nI k) (nI i) nc = (cq_rs M, 0) := by
      unfold cq_Fo
      rw [if_neg h1, if_neg h2, if_neg h3, if_pos h4', ec, if_pos h8]
    refine r_good (h.rs.scr (Nat.le_succ _) sc (fun _ _ _ => rfl) (fun _ _ _ => rfl)) et f rfl ?_
    obtain ⟨v1, v2, v3⟩ := cy_sCp_v (S := S) (c := c)
    have b : R_cb S M ns c := by
      rcases (h.2.2.2.1 c hc).2 with ⟨q, -⟩ | ⟨-, -, q⟩
      · rw [h2c] at q
        exact absurd q (by decide)
      · exact q
    have am : ∀ k, k < 5 → S (3 * c + 13) k = 0 := fun k hk => (b.2.2.1 k hk).1
    rcases hi4 with rfl | rfl | rfl | rfl
    · show cy_sm (cy_fe S c k (3 * 12 + 13)) 5 = 0
      rw [r_fb h2c]
      exact cy_sm_z (n := 0) (m := 5) (fun j _ hj => by rw [v3 j (by omega)]; exact am j (by omega))
    · show cy_fe S c k (3 * 12 + 13) 4 = 0
      rw [r_fb h2c, v3 4 (by decide)]
      exact am 4 (by decide)
    · show cy_fe S c k (3 * 12 + 11) 8 = 0
      rw [r_fb h2c, v1 8 (by decide)]
      exact b.1 8 (by decide) (by decide)
    · show cy_rLeak (cy_fe S c k) 12 = 0
      rw [r_fb h2c]
      unfold cy_rLeak
      rw [if_neg (fun z => z (by rw [v1 2 (by decide)]; exact h2c))]
  · obtain ⟨⟨f1, g, f2⟩, f3, f4, f5, f6⟩ := r_fl h ht hc h8 (n := k)
    have f : cq_Fo M (nI c) (nI k) (nI i) nc = (cq_nFo M c k, cq_fn (cq_fl M c k) c (nI i)) := by
      unfold cq_Fo
      rw [if_neg h1, if_neg h2, if_neg h3, if_pos h4', ec, if_neg h8, ek]
    have fn : ∀ j, j ≠ 0 → j ≠ 10 → j ≠ 11 → j ≠ 13 → j ≠ 14 → j ≠ 15 → cq_fl M c k j = M j := fun j a b d e f k => cq_fl_n a b d e f k
    have r14 : va_cpy (va_cpy (M 14) (fun _ => 0) (5 * c) 0 5) (cq_fl M c k 14) 0 (5 * c) 5 = M 14 := cy_cpr f5
    have r10 : va_cpy (va_cpy (M 10) (fun _ => 0) (8 * c) 0 8) (cq_fl M c k 10) 0 (8 * c) 8 = M 10 := cy_cpr f4
    have r11 : upd (cq_fl M c k 11) c (M 11 c) = M 11 := cy_upr (fun e he => (f3 e he).1)
    have r13 : upd (cq_fl M c k 13) c (M 13 c) = M 13 := cy_upr (fun e he => (f3 e he).2.1)
    have r15 : upd (cq_fl M c k 15) c (M 15 c) = M 15 := cy_upr (fun e he => (f3 e he).2.2)
    have eN : cq_nFo M c k = va_up (va_up (va_up (va_up (va_up (cq_fl M c k) 11 (M 11)) 13 (M 13)) 15 (M 15)) 14 (M 14)) 10 (M 10) := by
      unfold cq_nFo
      rw [r14, r10, r11, r13, r15]
    have nF : ∀ j, 1 ≤ j → j ≤ 15 → cq_nFo M c k j = M j := fun j a b => by
      rw [eN]
      by_cases z10 : j = 10
      · subst z10; rw [cy_us]
      rw [cy_un z10]
      by_cases z14 : j = 14
      · subst z14; rw [cy_us]
      rw [cy_un z14]
      by_cases z15 : j = 15
      · subst z15; rw [cy_us]
      rw [cy_un z15]
      by_cases z13 : j = 13
      · subst z13; rw [cy_us]
      rw [cy_un z13]
      by_cases z11 : j = 11
      · subst z11; rw [cy_us]
      rw [cy_un z11]
      exact fn j (by omega) z10 z11 z13 z14 z15
    have nF0 : cq_nFo M c k 0 = cq_rs M 0 := by
      rw [eN, cy_un (by decide), cy_un (by decide), cy_un (by decide), cy_un (by decide), cy_un (by decide), cq_fl_0]
    refine r_good (h.scr (Nat.le_succ _) sc nF (fun k a _ => by rw [nF0]; exact pk_un a)) et f (by rw [nF0]; rfl) ?_
    rcases hi4 with rfl | rfl | rfl | rfl
    · exact f6.al.1
    · exact f6.2.1.1 4 (by decide)
    · exact f6.1.2.2.2.2.2.2
    · show cy_rLeak (cy_fe S c k) 12 = cq_lk (cq_fl M c k) c
      have h8' : ¬ cq_fl M c k 8 c = 0 := by
        rw [fn 8 (by decide) (by decide) (by decide) (by decide) (by decide) (by decide)]
        exact h8
      refine R_cd.lk f6 h8' ?_ (by rw [f1]; decide)
      have e : cq_hn (cq_fl M c k) c = cq_hn M c := cq_hn_c (fn 6 (by decide) (by decide) (by decide) (by decide) (by decide) (by decide)) (fn 7 (by decide) (by decide) (by decide) (by decide) (by decide) (by decide)) (fn 8 (by decide) (by decide) (by decide) (by decide) (by decide) (by decide))
      rw [e]
      exact cq_hn_le h.ok (by omega)
