/-! raise -/
/-- the casks that are not raised yet -/
def R_fr (S M : Nat → Nat → Int32) (nc : Nat) : Prop := ∀ c, nc ≤ c → c < 12 → (∀ k, 3 ≤ k → k ≤ 8 → S (3 * c + 11) k = 0) ∧ (∀ k, k < 8 → S (3 * c + 12) k = 0) ∧ ∀ k, k < 5 → S (3 * c + 13) k = 0 ∧ M 14 (5 * c + k) = 0
theorem R_c1.loc7 {S S' M M' : Nat → Nat → Int32} {ns no t t' c : Nat} (h : R_c1 S M ns no t c) (e : R_lo S S' M M' c) (m5 : M' 5 = M 5) (m6 : M' 6 = M 6) (m7 : M' 7 c = M 7 c) (hst : ∀ i, i < ns → (S' 3 i = nI c ↔ S 3 i = nI c)) (ht : t ≤ t') (hno : no ≤ 6) (h8 : ∀ j, j < no → (M 6 j).toNatClampNeg ≤ 8) : R_c1 S' M' ns no t' c := by
  have e7 : va_up M' 7 (M 7) 7 c = M' 7 c := by rw [cy_us, m7]
  have q := h.loc (M' := va_up M' 7 (M 7)) ⟨e.1, ⟨by rw [cy_un (by decide)]; exact e.2.1.1, by rw [cy_un (by decide)]; exact e.2.1.2.1, by rw [cy_un (by decide)]; exact e.2.1.2.2.1, by rw [cy_un (by decide)]; exact e.2.1.2.2.2.1, by rw [cy_un (by decide)]; exact e.2.1.2.2.2.2.1, by rw [cy_un (by decide)]; exact e.2.1.2.2.2.2.2⟩, by rw [cy_un (by decide)]; exact e.2.2.1, by rw [cy_un (by decide)]; exact e.2.2.2⟩ (by rw [cy_un (by decide)]; exact m5) (by rw [cy_un (by decide)]; exact m6) cy_us hst ht hno h8
  unfold R_c1 R_cs R_cb cq_hH cq_hW cq_hN cq_so at q ⊢
  rw [e7, cy_un (show (5 : Nat) ≠ 7 by decide), cy_un (show (6 : Nat) ≠ 7 by decide), cy_un (show (8 : Nat) ≠ 7 by decide), cy_un (show (9 : Nat) ≠ 7 by decide), cy_un (show (10 : Nat) ≠ 7 by decide), cy_un (show (11 : Nat) ≠ 7 by decide), cy_un (show (12 : Nat) ≠ 7 by decide), cy_un (show (13 : Nat) ≠ 7 by decide), cy_un (show (14 : Nat) ≠ 7 by decide), cy_un (show (15 : Nat) ≠ 7 by decide)] at q
  exact q
theorem cy_po_v {S : Nat → Nat → Int32} {d : Nat} : ∀ {n k : Nat}, cy_po S d n (3 * d + 12) k = if k < n then 3 else S (3 * d + 12) k
  | 0, k => by rw [if_neg (Nat.not_lt_zero _)]; rfl
  | n + 1, k => by
    unfold cy_po
    rw [cy_us]
    by_cases e : k = n
    · subst e
      rw [pk_us, if_pos (Nat.lt_succ_self _)]
    · rw [pk_un e, cy_po_v]
      by_cases z : k < n
      · rw [if_pos z, if_pos (by omega)]
      · rw [if_neg z, if_neg (by omega)]
theorem cq_r3_v {S : Nat → Nat → Int32} {c h : Nat} (hh : h < 2 ^ 31) : ∀ {n : Nat}, n ≤ 8 → (∀ k, k < n → cq_r3 S c h n 10 (8 * c + k) = if k < h then 3 else 0) ∧ ∀ j, (∀ k, k < n → j ≠ 8 * c + k) → cq_r3 S c h n 10 j = S 10 j
  | 0, _ => ⟨fun k hk => absurd hk (Nat.not_lt_zero _), fun _ _ => rfl⟩
  | n + 1, hn => by
    obtain ⟨h1, h2⟩ := cq_r3_v (S := S) (c := c) hh (n := n) (by omega)
    unfold cq_r3
    rw [cy_us]
    refine ⟨fun k hk => ?_, fun j hj => ?_⟩
    · by_cases e : k = n
      · subst e
        rw [pk_us]
        by_cases z : k < h
        · rw [if_pos z, if_neg (fun w => by
            have := cy_le hh (by omega) w
            omega)]
        · rw [if_neg z, if_pos (nI_le (by omega) (by omega))]
      · rw [pk_un (by omega)]; exact h1 k (by omega)
    · rw [pk_un (hj n (by omega))]
      exact h2 j (fun k hk => hj k (by omega))
/-- a stave is in the set that is found -/
theorem r_ex {S M : Nat → Nat → Int32} {ns b : Nat} (h60 : ns ≤ 60) (h1 : 1 ≤ b) (hb : b < 1505) (hM : ∀ i, i < ns → cy_rUs M i = cy_rUs S i ∧ M 1 i = S 1 i) (hwd : ∀ i, i < ns → 1 ≤ cq_wd S i) (hd : R_dp S ns ns b ≠ 1000) : ∃ i, i < ns ∧ R_bt S ns ns b i = true := by
  rcases Classical.em (∃ i, i < ns ∧ R_bt S ns ns b i = true) with q | q
  · exact q
  · exfalso
    have hf : ∀ i, i < ns → R_bt S ns ns b i = false := fun i hi => Bool.eq_false_iff.mpr (fun z => q ⟨i, hi, z⟩)
    have key : ∀ s, s ≤ ns → (cq_ch M (cq_F M ns) b s).2.2 = b := by
      intro s
      induction s with
      | zero => intro _; rfl
      | succ s ih =>
        intro hs
        have c := (r_chs h60 (show s < ns by omega) hb hM hwd (r_chl h60 hb hM hwd hd (s := s) (by omega))).2.1 (hf s (by omega))
        rw [c]
        exact ih (by omega)
    have l := (r_chl h60 hb hM hwd hd (s := ns) (Nat.le_refl _)).2.1
    rw [key ns (Nat.le_refl _), Nat.sub_self] at l
    exact l (if_neg (by omega))
theorem r_use {S M : Nat → Nat → Int32} {ns b i : Nat} (h60 : ns ≤ 60) (hb : b < 1505) (hM : ∀ i, i < ns → cy_rUs M i = cy_rUs S i ∧ M 1 i = S 1 i) (hwd : ∀ i, i < ns → 1 ≤ cq_wd S i) (hd : R_dp S ns ns b ≠ 1000) (hi : i < ns) (h : R_bt S ns ns b i = true) : S 3 i = (-1) := by
  have c := ((r_chs h60 hi hb hM hwd (r_chl h60 hb hM hwd hd (s := i) (by omega))).1 h).1
  rcases Classical.em (S 3 i = (-1)) with q | q
  · exact q
  · refine absurd ?_ c
    unfold cy_rUs
    rw [if_pos q]
/-- the staves are put in -/
theorem r_put {S M B A : Nat → Nat → Int32} {ns b nc : Nat} {z : Int64} (h60 : ns ≤ 60) (hb : b < 1505) (hM : ∀ i, i < ns → cy_rUs M i = cy_rUs S i ∧ M 1 i = S 1 i) (hwd : ∀ i, i < ns → 1 ≤ cq_wd S i) (hd : R_dp S ns ns b ≠ 1000) (hz : ∀ i, i < 64 → z.toBitVec.getLsbD i = R_bt S ns ns b i) (h3 : ∀ i, i < ns → B 3 i = A 3 i) (h2 : ∀ i, i < ns → B 2 i = A 2 i) (h9 : A 9 nc = 0) : ∀ {s : Nat}, s ≤ ns → (∀ i, i < ns → (cy_ps B z (nI nc) s).1 3 i = (if i < s ∧ R_bt S ns ns b i = true then nI nc else B 3 i) ∧ (cq_r2 A (cq_ch M (cq_F M ns) b ns).1 nc (cq_ch M (cq_F M ns) b s).2.1) 3 i = (if i < s ∧ R_bt S ns ns b i = true then nI nc else B 3 i)) ∧ (cy_ps B z (nI nc) s).2 = (cq_r2 A (cq_ch M (cq_F M ns) b ns).1 nc (cq_ch M (cq_F M ns) b s).2.1) 9 nc ∧ ∀ e, e ≠ nc → (cq_r2 A (cq_ch M (cq_F M ns) b ns).1 nc (cq_ch M (cq_F M ns) b s).2.1) 9 e = A 9 e
  | 0, _ => by
    refine ⟨fun i hi => ?_, h9.symm, fun _ _ => rfl⟩
    rw [if_neg (fun q => absurd q.1 (Nat.not_lt_zero _))]
    exact ⟨rfl, (h3 i hi).symm⟩
  | s + 1, hs => by
    obtain ⟨i1, i2, i3⟩ := r_put h60 hb hM hwd hd hz h3 h2 h9 (s := s) (by omega)
    obtain ⟨c1, c2, -⟩ := r_chs h60 (show s < ns by omega) hb hM hwd (r_chl h60 hb hM hwd hd (s := s) (by omega))
    have bit := hz s (by omega)
    have ep : cy_ps B z (nI nc) (s + 1) = if cy_in z s = 0 then cy_ps B z (nI nc) s else (va_up (cy_ps B z (nI nc) s).1 3 (upd ((cy_ps B z (nI nc) s).1 3) s (nI nc)), (cy_ps B z (nI nc) s).2 + cy_fw (va_up (cy_ps B z (nI nc) s).1 3 (upd ((cy_ps B z (nI nc) s).1 3) s (nI nc))) s) := rfl
    by_cases q : R_bt S ns ns b s = true
    · obtain ⟨-, c1⟩ := c1 q
      have q0 : ¬ cy_in z s = 0 := fun y => by
        have := (cz_in (by omega)).mp y
        rw [bit, q] at this
        exact absurd this (by decide)
      obtain ⟨k1, k2⟩ := cq_ch_keep (M := M) (F := cq_F M ns) (b := b) (s := s + 1) (d := ns - (s + 1))
      rw [show s + 1 + (ns - (s + 1)) = ns by omega, c1] at k2
      have cs : (cq_ch M (cq_F M ns) b ns).1 (cq_ch M (cq_F M ns) b s).2.1 = nI s := by
        rw [k2 _ (Nat.lt_succ_self _)]
        exact pk_us
      have es : (nI s).toNatClampNeg = s := nI_clamp (by omega)
      rw [ep, if_neg q0, c1]
      have er : cq_r2 A (cq_ch M (cq_F M ns) b ns).1 nc ((cq_ch M (cq_F M ns) b s).2.1 + 1) = va_up (va_up (cq_r2 A (cq_ch M (cq_F M ns) b ns).1 nc (cq_ch M (cq_F M ns) b s).2.1) 3 (upd (cq_r2 A (cq_ch M (cq_F M ns) b ns).1 nc (cq_ch M (cq_F M ns) b s).2.1 3) s (nI nc))) 9 (upd (cq_r2 A (cq_ch M (cq_F M ns) b ns).1 nc (cq_ch M (cq_F M ns) b s).2.1 9) nc (cq_r2 A (cq_ch M (cq_F M ns) b ns).1 nc (cq_ch M (cq_F M ns) b s).2.1 9 nc + (if 70 ≤ A 2 s then 0 else 1))) := by
        have e := show cq_r2 A (cq_ch M (cq_F M ns) b ns).1 nc ((cq_ch M (cq_F M ns) b s).2.1 + 1) = va_up (va_up (cq_r2 A (cq_ch M (cq_F M ns) b ns).1 nc (cq_ch M (cq_F M ns) b s).2.1) 3 (upd (cq_r2 A (cq_ch M (cq_F M ns) b ns).1 nc (cq_ch M (cq_F M ns) b s).2.1 3) ((cq_ch M (cq_F M ns) b ns).1 (cq_ch M (cq_F M ns) b s).2.1).toNatClampNeg (nI nc))) 9 (upd (cq_r2 A (cq_ch M (cq_F M ns) b ns).1 nc (cq_ch M (cq_F M ns) b s).2.1 9) nc (cq_r2 A (cq_ch M (cq_F M ns) b ns).1 nc (cq_ch M (cq_F M ns) b s).2.1 9 nc + (if 70 ≤ cq_r2 A (cq_ch M (cq_F M ns) b ns).1 nc (cq_ch M (cq_F M ns) b s).2.1 2 ((cq_ch M (cq_F M ns) b ns).1 (cq_ch M (cq_F M ns) b s).2.1).toNatClampNeg then 0 else 1))) from rfl
        rw [cs, es, cq_r2_n (show (2 : Nat) ≠ 3 by decide) (show (2 : Nat) ≠ 9 by decide)] at e
        exact e
      dsimp only
      rw [er]
      have hfw : cy_fw (va_up (cy_ps B z (nI nc) s).1 3 (upd ((cy_ps B z (nI nc) s).1 3) s (nI nc))) s = if 70 ≤ A 2 s then 0 else 1 := by
        unfold cy_fw
        rw [cy_un (by decide), cy_ps_n (by decide), h2 s (by omega)]
      rw [hfw]
      generalize cq_r2 A (cq_ch M (cq_F M ns) b ns).1 nc (cq_ch M (cq_F M ns) b s).2.1 = R at i1 i2 i3
      generalize cy_ps B z (nI nc) s = P at i1 i2
      refine ⟨fun i hi => ?_, ?_, fun e he => ?_⟩
      · obtain ⟨g1, g2⟩ := i1 i hi
        rw [cy_us, cy_un (show (3 : Nat) ≠ 9 by decide), cy_us]
        by_cases e : i = s
        · subst e
          rw [pk_us, pk_us, if_pos ⟨Nat.lt_succ_self _, q⟩]
          exact ⟨rfl, rfl⟩
        · rw [pk_un e, pk_un e, g1, g2]
          by_cases y : i < s ∧ R_bt S ns ns b i = true
          · rw [if_pos y, if_pos ⟨by omega, y.2⟩]
            exact ⟨rfl, rfl⟩
          · rw [if_neg y, if_neg (fun w => y ⟨by omega, w.2⟩)]
            exact ⟨rfl, rfl⟩
      · rw [cy_us, pk_us, i2]
      · rw [cy_us, pk_un he]
        exact i3 e he
    · have q' : R_bt S ns ns b s = false := Bool.eq_false_iff.mpr q
      rw [ep, if_pos ((cz_in (by omega)).mpr (by rw [bit, q'])), c2 q']
      refine ⟨fun i hi => ?_, i2, i3⟩
      obtain ⟨g1, g2⟩ := i1 i hi
      rw [g1, g2]
      by_cases y : i < s ∧ R_bt S ns ns b i = true
      · rw [if_pos y, if_pos ⟨by omega, y.2⟩]
        exact ⟨rfl, rfl⟩
      · rw [if_neg y, if_neg (fun w => y ⟨by
          rcases Nat.lt_or_ge i s with a | a
          · exact a
          · exact absurd (show R_bt S ns ns b s = true by rw [show s = i by omega]; exact w.2) q, w.2⟩)]
        exact ⟨rfl, rfl⟩
