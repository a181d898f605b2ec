/-! mend, breakUp -/
theorem r_lst {S : Nat → Nat → Int32} {x : Int32} : ∀ {n : Nat}, (∃ i, i < n ∧ S 3 i = x) → ∃ k, k < n ∧ cy_lst S x n = nI k ∧ S 3 k = x
  | 0, ⟨_, h, _⟩ => absurd h (Nat.not_lt_zero _)
  | n + 1, ⟨i, h1, h2⟩ => by
    unfold cy_lst
    by_cases q : S 3 n = x
    · exact ⟨n, by omega, if_neg (fun z => z q), q⟩
    · rw [if_pos q]
      obtain ⟨k, g1, g2, g3⟩ := r_lst (S := S) (x := x) (n := n) ⟨i, by
        rcases Nat.lt_or_ge i n with a | a
        · exact a
        · exact absurd (show S 3 n = x by rw [show n = i by omega]; exact h2) q, h2⟩
      exact ⟨k, by omega, g2, g3⟩
theorem r_lstc {S M : Nat → Nat → Int32} {x : Int32} : ∀ {n : Nat}, (∀ i, i < n → S 3 i = M 3 i) → cy_lst S x n = cq_ls M x n
  | 0, _ => rfl
  | n + 1, h => by
    unfold cy_lst cq_ls
    rw [h n (by omega), r_lstc (fun i hi => h i (by omega))]
theorem cy_ne_n {c : Nat} (h : c < 2 ^ 31) : ¬ nI c = (-1) ∧ ¬ nI c = (-2) := ⟨cy_nm1 h, fun q => nI_pos h (by rw [q]; decide)⟩
theorem s_mend {S M : Nat → Nat → Int32} {x y : Int32} {ns no nc mo t : Nat} (h : Rel S M ns no nc mo t) : R_F cy_IB cy_IS (cy_tMe S x y ns nc) (cq_Me M x y ns nc) (S (3 * x.toNatClampNeg + 11) 3) (cy_if (cy_tMe S x y ns nc) (cy_nMe S x.toNatClampNeg y.toNatClampNeg (cy_lst S x ns).toNatClampNeg) S) (t + 1) := by
  have h12 := h.1.2.2.1.2.2
  have h60 := h.1.1.2.2
  have et : cy_tMe S x y ns nc = if cq_in x 0 (nI nc - 1) = 0 then some cy_IB else if cq_in y 0 (nI ns - 1) = 0 then some cy_IB else if S (3 * x.toNatClampNeg + 11) 2 = 0 then some cy_IS else if cy_lst S x ns = (-1) then some cy_IS else if cy_sm (S (3 * x.toNatClampNeg + 13)) 5 ≤ 0 then (if S 3 y.toNatClampNeg = (-1) then (if S 1 y.toNatClampNeg = S 1 (cy_lst S x ns).toNatClampNeg then none else some cy_IS) else some cy_IS) else some cy_IS := by
    unfold cy_tMe
    rw [r_g0 (by omega), r_g0 (by omega)]
  by_cases h1 : cq_in x 0 (nI nc - 1) = 0
  · exact r_bad h (E := cy_IB) (k := 1) (by rw [et, if_pos h1]) (by unfold cq_Me; rw [if_pos h1]) rfl
  rw [if_neg h1] at et
  by_cases h2 : cq_in y 0 (nI ns - 1) = 0
  · exact r_bad h (E := cy_IB) (k := 1) (by rw [et, if_pos h2]) (by unfold cq_Me; rw [if_neg h1, if_pos h2]) rfl
  rw [if_neg h2] at et
  obtain ⟨c, hc, rfl⟩ := cq_in_t (by omega) h1
  obtain ⟨d, hd, rfl⟩ := cq_in_t (by omega) h2
  have ec : (nI c).toNatClampNeg = c := nI_clamp (by omega)
  have ed : (nI d).toNatClampNeg = d := nI_clamp (by omega)
  rw [ec, ed] at et
  rw [ec, ed]
  by_cases h8 : M 8 c = 0
  · exact r_bad h (E := cy_IS) (k := 2) (by rw [et, if_pos (by rw [h.so c hc]; exact h8)]) (by unfold cq_Me; rw [if_neg h1, if_neg h2, ec, if_pos h8]) rfl
  obtain ⟨j, hj, s1, s2, s3, s4, s5, s6, s7⟩ := h.sd hc h8
  obtain ⟨k, hk, ek, ek3⟩ := r_lst s7
  have ekk : (nI k).toNatClampNeg = k := nI_clamp (by omega)
  have ekM : cq_ls M (nI c) ns = nI k := by rw [← r_lstc (S := S) (fun i hi => (h.2.1 i hi).1.2.2)]; exact ek
  rw [if_neg (by rw [s4]; decide), ek, if_neg (cy_nm1 (by omega)), r_al h hc, ekk] at et
  by_cases h3 : cq_al M c ≤ 0
  case neg => exact r_bad h (E := cy_IS) (k := 2) (by rw [et, if_neg h3]) (by unfold cq_Me; rw [if_neg h1, if_neg h2, ec, if_neg h8, if_pos (Int32.not_le.mp h3)]) rfl
  rw [if_pos h3] at et
  obtain ⟨⟨g1, g2, g3⟩, gw, ⟨dr, gd1, gd2⟩, gp⟩ := h.2.1 d hd
  by_cases h4 : S 3 d = (-1)
  case neg => exact r_bad h (E := cy_IS) (k := 2) (by rw [et, if_neg h4]) (by unfold cq_Me; rw [if_neg h1, if_neg h2, ec, if_neg h8, if_neg (Int32.not_lt.mpr h3), ed, if_pos (by rw [← g3]; exact h4)]) rfl
  rw [if_pos h4] at et
  have g1k := (h.2.1 k hk).1.1
  by_cases h5 : S 1 d = S 1 k
  case neg => exact r_bad h (E := cy_IS) (k := 2) (by rw [et, if_neg h5]) (by unfold cq_Me; rw [if_neg h1, if_neg h2, ec, if_neg h8, if_neg (Int32.not_lt.mpr h3), ed, if_neg (fun z => z (by rw [← g3]; exact h4)), ekM, ekk, if_neg (by rw [← g1, ← g1k]; exact h5)]) rfl
  rw [if_pos h5] at et
  have hdk : d ≠ k := fun q => by
    subst q
    rw [h4] at ek3
    exact cy_nm1 (c := c) (by omega) ek3.symm
  generalize hFl : (if 70 ≤ M 2 d then (0 : Int32) else 1) = Fl
  have f : cq_Me M (nI c) (nI d) ns nc = (va_up (va_up (cq_rs M) 3 (upd (upd (M 3) k (-2)) d (nI c))) 9 (upd (M 9) c Fl), M 9 c) := by
    unfold cq_Me
    rw [if_neg h1, if_neg h2, ec, if_neg h8, if_neg (Int32.not_lt.mpr h3), ed, if_neg (fun z => z (by rw [← g3]; exact h4)), ekM, ekk, if_pos (by rw [← g1, ← g1k]; exact h5), hFl]
  rw [ek, ekk]
  generalize hS' : cy_nMe S c d k = S'
  generalize hM' : va_up (va_up (cq_rs M) 3 (upd (upd (M 3) k (-2)) d (nI c))) 9 (upd (M 9) c Fl) = M'
  rw [hM'] at f
  have S3 : S' 3 = upd (upd (S 3) k (-2)) d (nI c) := by rw [← hS']; unfold cy_nMe; rw [cy_un (by omega), cy_us]
  have S11 : S' (3 * c + 11) = upd (S (3 * c + 11)) 3 Fl := by rw [← hS', ← hFl, ← g2]; unfold cy_nMe; rw [cy_us]; rfl
  have Sj : ∀ j, j ≠ 3 → j ≠ 3 * c + 11 → S' j = S j := fun j a b => by rw [← hS']; unfold cy_nMe; rw [cy_un b, cy_un a]
  have M3 : M' 3 = upd (upd (M 3) k (-2)) d (nI c) := by rw [← hM']; rw [cy_un (by decide), cy_us]
  have M9 : M' 9 = upd (M 9) c Fl := by rw [← hM', cy_us]
  have M0 : M' 0 = upd (M 0) 0 0 := by rw [← hM']; rfl
  have Mj : ∀ j, j ≠ 0 → j ≠ 3 → j ≠ 9 → M' j = M j := fun j a b z => by rw [← hM', cy_un z, cy_un b]; exact cy_un a
  have e13 : ∀ i, i < ns → S' 3 i = M' 3 i := fun i hi => by
    rw [S3, M3]
    by_cases q : i = d
    · subst q; rw [pk_us, pk_us]
    · rw [pk_un q, pk_un q]
      by_cases q2 : i = k
      · subst q2; rw [pk_us, pk_us]
      · rw [pk_un q2, pk_un q2]
        exact (h.2.1 i hi).1.2.2
  refine r_good (M1 := M') (ns := ns) (no := no) (nc := nc) (mo := mo) ?_ et f (by rw [M0]; exact pk_us) s6.1.2.1
  refine h.mk1 (h.1.rs (Sj 0 (by omega) (by omega)) (fun k hk => by rw [M0, pk_un hk])) (fun i hi => ?_) ⟨Sj 4 (by omega) (by omega), Sj 5 (by omega) (by omega), Sj 6 (by omega) (by omega)⟩ ⟨Mj 4 (by decide) (by decide) (by decide), Mj 5 (by decide) (by decide) (by decide), Mj 6 (by decide) (by decide) (by decide), Mj 7 (by decide) (by decide) (by decide)⟩ (Nat.le_succ _) (fun b hb => ?_) (fun b hb => by rw [Mj 15 (by decide) (by decide) (by decide)]; exact h.2.2.2.2.1 b hb) (by rw [R_gr_c (Mj 15 (by decide) (by decide) (by decide))]; exact h.2.2.2.2.2)
  · obtain ⟨⟨a1, a2, a3⟩, a4, a5, a6⟩ := h.2.1 i hi
    refine ⟨⟨?_, ?_, e13 i hi⟩, ?_, ?_, ?_⟩
    · rw [Sj 1 (by omega) (by omega), Mj 1 (by decide) (by decide) (by decide)]; exact a1
    · rw [Sj 2 (by omega) (by omega), Mj 2 (by decide) (by decide) (by decide)]; exact a2
    · rw [Sj 1 (by omega) (by omega)]; exact a4
    · rw [Sj 2 (by omega) (by omega)]; exact a5
    · rw [S3]
      by_cases q : i = d
      · subst q; rw [pk_us]; exact Or.inr (Or.inr ⟨c, hc, rfl⟩)
      · rw [pk_un q]
        by_cases q2 : i = k
        · subst q2; rw [pk_us]; exact Or.inr (Or.inl rfl)
        · rw [pk_un q2]; exact a6
  · by_cases g : b = c
    · subst g
      refine Or.inr (R_c1.sd hj (by rw [Mj 7 (by decide) (by decide) (by decide)]; exact s1) (by rw [S11, pk_un (by decide), Mj 7 (by decide) (by decide) (by decide)]; exact s3) (by rw [S11, pk_un (by decide)]; exact s4) (by rw [Mj 8 (by decide) (by decide) (by decide)]; exact s5) ?_ ⟨d, hd, by rw [S3, pk_us]⟩)
      refine s6.tf (Nat.le_succ _) (fun k hk => by rw [S11, pk_un hk]) (Sj _ (by omega) (by omega)) (Mj 5 (by decide) (by decide) (by decide)) (Mj 6 (by decide) (by decide) (by decide)) (Mj 7 (by decide) (by decide) (by decide)) (Mj 11 (by decide) (by decide) (by decide)) (Mj 12 (by decide) (by decide) (by decide)) (Mj 13 (by decide) (by decide) (by decide)) (Mj 14 (by decide) (by decide) (by decide)) (Mj 15 (by decide) (by decide) (by decide)) (by rw [S11, pk_us, M9, pk_us]) ?_ ?_ ?_
      · rw [Sj _ (by omega) (by omega), Mj 10 (by decide) (by decide) (by decide)]; exact s6.2.2.1.1
      · rw [Sj _ (by omega) (by omega)]; exact s6.2.2.1.2.1
      · rw [Sj _ (by omega) (by omega)]; exact s6.2.2.1.2.2
    · refine Or.inl ⟨⟨⟨Sj _ (by omega) (by omega), Sj _ (by omega) (by omega), Sj _ (by omega) (by omega)⟩, ⟨?_, ?_, ?_, ?_, ?_, ?_⟩, fun k hk => ?_, fun k hk => ?_⟩, fun i _ => ?_⟩
      · rw [Mj 8 (by decide) (by decide) (by decide)]
      · rw [M9, pk_un g]
      · rw [Mj 11 (by decide) (by decide) (by decide)]
      · rw [Mj 12 (by decide) (by decide) (by decide)]
      · rw [Mj 13 (by decide) (by decide) (by decide)]
      · rw [Mj 15 (by decide) (by decide) (by decide)]
      · rw [Mj 10 (by decide) (by decide) (by decide)]
      · rw [Mj 14 (by decide) (by decide) (by decide)]
      · have hne : ¬ nI c = nI b := fun z => g (cy_eq (by omega) (by omega) z.symm)
        rw [S3]
        by_cases q : i = d
        · subst q
          rw [pk_us, h4]
          exact ⟨fun z => absurd z hne, fun z => absurd z.symm (cy_ne_n (c := b) (by omega)).1⟩
        · rw [pk_un q]
          by_cases q2 : i = k
          · subst q2
            rw [pk_us, ek3]
            exact ⟨fun z => absurd z.symm (cy_ne_n (c := b) (by omega)).2, fun z => absurd z hne⟩
          · rw [pk_un q2]
/-! breakUp -/
theorem r_ts {S M M0 : Nat → Nat → Int32} {x : Int32} {ns : Nat} (h2 : ∀ i, i < ns → S 2 i = M 2 i) (h3 : ∀ i, i < ns → S 3 i = M 3 i) : ∀ {n : Nat}, n ≤ ns → (cy_ts S x n).2 = (cq_bt M x n).2 ∧ ∀ i, i < ns → ((cy_ts S x n).1 2 i = (cq_bt M x n).1 2 i ∧ (cy_ts S x n).1 3 i = (cq_bt M x n).1 3 i) ∧ ((i < n ∧ S 3 i = x ∧ ((cy_ts S x n).1 3 i = (-1) ∨ (cy_ts S x n).1 3 i = (-2)) ∧ (cy_ts S x n).1 2 i = cy_mx 0 (S 2 i - 30)) ∨ ((i < n → ¬ S 3 i = x) ∧ (cy_ts S x n).1 2 i = S 2 i ∧ (cy_ts S x n).1 3 i = S 3 i))
  | 0, _ => ⟨rfl, fun i hi => ⟨⟨h2 i hi, h3 i hi⟩, Or.inr ⟨fun q => absurd q (Nat.not_lt_zero _), rfl, rfl⟩⟩⟩
  | n + 1, hn => by
    obtain ⟨f, g⟩ := r_ts (M0 := M0) h2 h3 (n := n) (by omega)
    obtain ⟨⟨gn1, gn2⟩, gn3⟩ := g n (by omega)
    have gn4 : (cy_ts S x n).1 2 n = S 2 n ∧ (cy_ts S x n).1 3 n = S 3 n := by
      rcases gn3 with ⟨q, -⟩ | ⟨-, q1, q2⟩
      · omega
      · exact ⟨q1, q2⟩
    unfold cy_ts cq_bt
    by_cases q : S 3 n = x
    · rw [if_neg (fun z => z (by rw [gn4.2]; exact q)), if_pos (show (cq_bt M x n).1 3 n = x by rw [← gn2, gn4.2]; exact q)]
      refine ⟨rfl, fun i hi => ?_⟩
      by_cases e : i = n
      · subst e
        refine ⟨⟨?_, ?_⟩, Or.inl ⟨by omega, q, ?_, ?_⟩⟩
        · dsimp only
          rw [cy_un (by decide), cy_us, cy_us, pk_us, pk_us, gn1]
        · dsimp only
          rw [cy_us, cy_un (by decide), cy_us, pk_us, pk_us, f]
        · dsimp only
          rw [cy_us, pk_us]
          split
          · exact Or.inl rfl
          · exact Or.inr rfl
        · dsimp only
          rw [cy_un (by decide), cy_us, pk_us, gn4.1]
      · obtain ⟨⟨i1, i2⟩, i3⟩ := g i hi
        have a2 : va_up (va_up (cy_ts S x n).1 2 (upd ((cy_ts S x n).1 2) n (cy_mx 0 ((cy_ts S x n).1 2 n - 30)))) 3 (upd ((cy_ts S x n).1 3) n (if (cy_ts S x n).2 = 0 then (-1) else (-2))) 2 i = (cy_ts S x n).1 2 i := by
          rw [cy_un (by decide), cy_us, pk_un e]
        have a3 : va_up (va_up (cy_ts S x n).1 2 (upd ((cy_ts S x n).1 2) n (cy_mx 0 ((cy_ts S x n).1 2 n - 30)))) 3 (upd ((cy_ts S x n).1 3) n (if (cy_ts S x n).2 = 0 then (-1) else (-2))) 3 i = (cy_ts S x n).1 3 i := by
          rw [cy_us, pk_un e]
        refine ⟨⟨?_, ?_⟩, ?_⟩
        · refine a2.trans ?_
          dsimp only
          rw [cy_us, pk_un e]
          exact i1
        · refine a3.trans ?_
          dsimp only
          rw [cy_un (by decide), cy_us, pk_un e]
          exact i2
        · rcases i3 with ⟨b1, b2, b3, b4⟩ | ⟨b1, b2, b3⟩
          · refine Or.inl ⟨by omega, b2, ?_, a2.trans b4⟩
            rcases b3 with b3 | b3
            · exact Or.inl (a3.trans b3)
            · exact Or.inr (a3.trans b3)
          · exact Or.inr ⟨fun z => b1 (by omega), a2.trans b2, a3.trans b3⟩
    · rw [if_pos (fun z => q (by rw [← gn4.2]; exact z)), if_neg (show ¬ (cq_bt M x n).1 3 n = x from fun z => q (by rw [← gn4.2, gn2]; exact z))]
      refine ⟨f, fun i hi => ?_⟩
      obtain ⟨i12, i3⟩ := g i hi
      refine ⟨i12, ?_⟩
      rcases i3 with ⟨b1, b2⟩ | ⟨b1, b2⟩
      · exact Or.inl ⟨by omega, b2⟩
      · refine Or.inr ⟨fun z => ?_, b2⟩
        rcases Nat.lt_or_ge i n with g' | g'
        · exact b1 g'
        · rw [show i = n by omega]; exact q
theorem cq_em_z {S : Nat → Nat → Int32} {c : Nat} : ∀ {n k : Nat}, (k < n → cq_em S c n 14 (5 * c + k) = 0) ∧ ((∀ j, j < n → k ≠ 5 * c + j) → cq_em S c n 14 k = S 14 k)
  | 0, k => ⟨fun h => absurd h (Nat.not_lt_zero _), fun _ => rfl⟩
  | n + 1, k => by
    unfold cq_em
    rw [cy_us]
    constructor
    · intro h
      by_cases e : k = n
      · subst e; exact pk_us
      · rw [pk_un (by omega)]
        exact (cq_em_z (S := S) (c := c) (n := n) (k := k)).1 (by omega)
    · intro h
      rw [pk_un (h n (by omega))]
      exact (cq_em_z (S := S) (c := c) (n := n) (k := k)).2 (fun j hj => h j (by omega))
theorem s_breakUp {S M : Nat → Nat → Int32} {x : Int32} {ns no nc mo t : Nat} (h : Rel S M ns no nc mo t) : R_F cy_IB cy_IS (cy_tBr S x nc) (cq_Br M x ns nc) (cy_sm (S (3 * x.toNatClampNeg + 13)) 5) (cy_if (cy_tBr S x nc) (cy_sCl (cy_ts S x ns).1 x.toNatClampNeg) S) (t + 1) := by
  have h12 := h.1.2.2.1.2.2
  have h60 := h.1.1.2.2
  have et : cy_tBr S x nc = if cq_in x 0 (nI nc - 1) = 0 then some cy_IB else if S (3 * x.toNatClampNeg + 11) 2 = 0 then some cy_IS else none := by
    unfold cy_tBr
    rw [r_g0 (by omega)]
  by_cases h1 : cq_in x 0 (nI nc - 1) = 0
  · exact r_bad h (E := cy_IB) (k := 1) (by rw [et, if_pos h1]) (by unfold cq_Br; rw [if_pos h1]) rfl
  rw [if_neg h1] at et
  obtain ⟨c, hc, rfl⟩ := cq_in_t (by omega) h1
  have ec : (nI c).toNatClampNeg = c := nI_clamp (by omega)
  rw [ec] at et
  rw [ec]
  by_cases h8 : M 8 c = 0
  · exact r_bad h (E := cy_IS) (k := 2) (by rw [et, if_pos (by rw [h.so c hc]; exact h8)]) (by unfold cq_Br; rw [if_neg h1, ec, if_pos h8]) rfl
  obtain ⟨j, hj, s1, s2, s3, s4, s5, s6, s7⟩ := h.sd hc h8
  rw [if_neg (by rw [s4]; decide)] at et
  have f : cq_Br M (nI c) ns nc = (cq_nBr M c ns, cq_al M c) := by
    unfold cq_Br
    rw [if_neg h1, ec, if_neg h8]
  have b2 : ∀ j, j ≠ 0 → j ≠ 14 → j ≠ 15 → cq_b1 M c j = M j := fun j a b d => by
    unfold cq_b1
    rw [cy_un d, cq_em_n b]
    exact cy_un a
  obtain ⟨-, hts⟩ := r_ts (S := S) (M := cq_b1 M c) (M0 := M) (x := nI c) (ns := ns) (fun i hi => by rw [b2 2 (by decide) (by decide) (by decide)]; exact (h.2.1 i hi).1.2.1) (fun i hi => by rw [b2 3 (by decide) (by decide) (by decide)]; exact (h.2.1 i hi).1.2.2) (Nat.le_refl ns)
  generalize hT : (cy_ts S (nI c) ns).1 = T at hts ⊢
  generalize hB : (cq_bt (cq_b1 M c) (nI c) ns).1 = B at hts
  have Tj : ∀ j, j ≠ 2 → j ≠ 3 → T j = S j := fun j a b => by rw [← hT]; exact cy_ts_n a b
  have Bj : ∀ j, j ≠ 2 → j ≠ 3 → B j = cq_b1 M c j := fun j a b => by rw [← hB]; exact cq_bt_n a b
  generalize hS' : cy_sCl T c = S'
  generalize hM' : cq_nBr M c ns = M' at f
  have Sj : ∀ j, j ≠ 3 * c + 11 → j ≠ 3 * c + 12 → j ≠ 3 * c + 13 → S' j = T j := fun j a b d => by rw [← hS']; unfold cy_sCl; rw [cy_un d, cy_un b, cy_un a]
  have S11 : S' (3 * c + 11) = upd (upd (upd (upd (upd (upd (upd (S (3 * c + 11)) 2 0) 3 0) 4 0) 5 0) 6 0) 7 0) 8 0 := by rw [← hS']; unfold cy_sCl; rw [cy_un (by omega), cy_un (by omega), cy_us, Tj _ (by omega) (by omega)]
  have S12 : S' (3 * c + 12) = cy_fl (T (3 * c + 12)) 0 8 := by rw [← hS']; unfold cy_sCl; rw [cy_un (by omega), cy_us]
  have S13 : S' (3 * c + 13) = cy_fl (T (3 * c + 13)) 0 5 := by rw [← hS']; unfold cy_sCl; rw [cy_us]
  have M8 : M' 8 = upd (M 8) c 0 := by rw [← hM']; unfold cq_nBr; rw [cy_us, hB, Bj 8 (by decide) (by decide), b2 8 (by decide) (by decide) (by decide)]
  have Mj' : ∀ j, j ≠ 8 → M' j = B j := fun j a => by rw [← hM']; unfold cq_nBr; rw [cy_un a, hB]
  have Mj : ∀ j, j ≠ 0 → j ≠ 2 → j ≠ 3 → j ≠ 8 → j ≠ 14 → j ≠ 15 → M' j = M j := fun j a0 a2 a3 a8 a14 a15 => by rw [Mj' j a8, Bj j a2 a3, b2 j a0 a14 a15]
  have M0 : M' 0 = upd (M 0) 0 0 := by
    rw [Mj' 0 (by decide), Bj 0 (by decide) (by decide)]
    unfold cq_b1
    rw [cy_un (by decide), cq_em_n (by decide)]
    rfl
  have M15 : M' 15 = upd (M 15) c 0 := by
    rw [Mj' 15 (by decide), Bj 15 (by decide) (by decide)]
    unfold cq_b1
    rw [cy_us, cq_em_n (by decide)]
    rfl
  have M14 : M' 14 = cq_em (cq_rs M) c 5 14 := by
    rw [Mj' 14 (by decide), Bj 14 (by decide) (by decide)]
    unfold cq_b1
    rw [cy_un (by decide)]
  have M15d : ∀ d, d ≠ c → M' 15 d = M 15 d := fun d g => by rw [M15, pk_un g]
  refine r_good (M1 := M') (ns := ns) (no := no) (nc := nc) (mo := mo) ?_ et f (by rw [M0]; exact pk_us) (r_al h hc)
  refine h.mk1 (h.1.rs (by rw [Sj 0 (by omega) (by omega) (by omega), Tj 0 (by decide) (by decide)]) (fun k hk => by rw [M0, pk_un hk])) (fun i hi => ?_) ⟨?_, ?_, ?_⟩ ⟨Mj 4 (by decide) (by decide) (by decide) (by decide) (by decide) (by decide), Mj 5 (by decide) (by decide) (by decide) (by decide) (by decide) (by decide), Mj 6 (by decide) (by decide) (by decide) (by decide) (by decide) (by decide), Mj 7 (by decide) (by decide) (by decide) (by decide) (by decide) (by decide)⟩ (Nat.le_succ _) (fun b hb => ?_) (fun b hb => ?_) ?_
  · obtain ⟨⟨a1, a2, a3⟩, a4, ⟨dr, a5, a5'⟩, a6⟩ := h.2.1 i hi
    obtain ⟨⟨q1, q2⟩, q3⟩ := hts i hi
    refine ⟨⟨?_, ?_, ?_⟩, ?_, ?_, ?_⟩
    · rw [Sj 1 (by omega) (by omega) (by omega), Tj 1 (by decide) (by decide), Mj 1 (by decide) (by decide) (by decide) (by decide) (by decide) (by decide)]; exact a1
    · rw [Sj 2 (by omega) (by omega) (by omega), Mj' 2 (by decide)]; exact q1
    · rw [Sj 3 (by omega) (by omega) (by omega), Mj' 3 (by decide)]; exact q2
    · rw [Sj 1 (by omega) (by omega) (by omega), Tj 1 (by decide) (by decide)]; exact a4
    · rw [Sj 2 (by omega) (by omega) (by omega)]
      rcases q3 with ⟨-, -, -, q⟩ | ⟨-, q, -⟩
      · refine ⟨dr - 30, by omega, ?_⟩
        rw [q, a5']
        exact cy_mx_sub (b := 30) (by omega) (by decide)
      · exact ⟨dr, a5, by rw [q]; exact a5'⟩
    · rw [Sj 3 (by omega) (by omega) (by omega)]
      rcases q3 with ⟨-, -, q, -⟩ | ⟨-, -, q⟩
      · rcases q with q | q
        · exact Or.inl q
        · exact Or.inr (Or.inl q)
      · rw [q]; exact a6
  · rw [Sj 4 (by omega) (by omega) (by omega), Tj 4 (by decide) (by decide)]
  · rw [Sj 5 (by omega) (by omega) (by omega), Tj 5 (by decide) (by decide)]
  · rw [Sj 6 (by omega) (by omega) (by omega), Tj 6 (by decide) (by decide)]
  · by_cases g : b = c
    · subst g
      refine Or.inr ⟨⟨?_, j, hj, ?_⟩, Or.inr ⟨?_, ?_, fun k g1 g2 => ?_, fun k hk => ?_, fun k hk => ⟨?_, ?_⟩, ?_, fun i hi => ?_⟩⟩
      · rw [S11, Mj 7 (by decide) (by decide) (by decide) (by decide) (by decide) (by decide)]
        exact s3
      · rw [Mj 7 (by decide) (by decide) (by decide) (by decide) (by decide) (by decide)]; exact s1
      · rw [S11]; rfl
      · rw [M8, pk_us]
      · have hk : k = 3 ∨ k = 4 ∨ k = 5 ∨ k = 6 ∨ k = 7 ∨ k = 8 := by omega
        rw [S11]
        rcases hk with rfl | rfl | rfl | rfl | rfl | rfl <;> rfl
      · rw [S12]; exact if_pos hk
      · rw [S13]; exact if_pos hk
      · rw [M14]; exact cq_em_z.1 hk
      · rw [M15, pk_us]
      · obtain ⟨-, q3⟩ := hts i hi
        rw [Sj 3 (by omega) (by omega) (by omega)]
        rcases q3 with ⟨-, -, q, -⟩ | ⟨q', -, q⟩
        · rcases q with q | q
          · rw [q]; exact fun z => (cy_ne_n (c := b) (by omega)).1 z.symm
          · rw [q]; exact fun z => (cy_ne_n (c := b) (by omega)).2 z.symm
        · rw [q]; exact q' hi
    · refine Or.inl ⟨⟨⟨?_, ?_, ?_⟩, ⟨?_, ?_, ?_, ?_, ?_, ?_⟩, fun k hk => ?_, fun k hk => ?_⟩, fun i hi => ?_⟩
      · rw [Sj _ (by omega) (by omega) (by omega), Tj _ (by omega) (by omega)]
      · rw [Sj _ (by omega) (by omega) (by omega), Tj _ (by omega) (by omega)]
      · rw [Sj _ (by omega) (by omega) (by omega), Tj _ (by omega) (by omega)]
      · rw [M8, pk_un g]
      · rw [Mj 9 (by decide) (by decide) (by decide) (by decide) (by decide) (by decide)]
      · rw [Mj 11 (by decide) (by decide) (by decide) (by decide) (by decide) (by decide)]
      · rw [Mj 12 (by decide) (by decide) (by decide) (by decide) (by decide) (by decide)]
      · rw [Mj 13 (by decide) (by decide) (by decide) (by decide) (by decide) (by decide)]
      · exact M15d b g
      · rw [Mj 10 (by decide) (by decide) (by decide) (by decide) (by decide) (by decide)]
      · rw [M14]
        exact (cq_em_z (S := cq_rs M) (c := c) (n := 5) (k := 5 * b + k)).2 (fun j hj => by omega)
      · obtain ⟨-, q3⟩ := hts i hi
        rw [Sj 3 (by omega) (by omega) (by omega)]
        rcases q3 with ⟨-, q0, q, -⟩ | ⟨-, -, q⟩
        · have hne : ¬ nI c = nI b := fun z => g (cy_eq (by omega) (by omega) z.symm)
          rw [q0]
          refine ⟨fun z => ?_, fun z => absurd z hne⟩
          rcases q with q | q <;> rw [q] at z
          · exact absurd z.symm (cy_ne_n (c := b) (by omega)).1
          · exact absurd z.symm (cy_ne_n (c := b) (by omega)).2
        · rw [q]
  · by_cases g : b = c
    · subst g; rw [M15, pk_us]; rfl
    · rw [M15d b g]; exact h.2.2.2.2.1 b hb
  · have q := R_gr_1 (M := M) (M' := M') (c := c) (n := nc) (fun d _ g => M15d d g) hc
    have e0 : (M' 15 c).toNatClampNeg = 0 := by rw [M15, pk_us]; rfl
    have := h.2.2.2.2.2
    omega
