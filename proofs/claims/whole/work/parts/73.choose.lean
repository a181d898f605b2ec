/-! the search: what is chosen -/
theorem R_dp_s {S : Nat → Nat → Int32} {ns s k : Nat} (h : s < ns) : R_dp S ns (ns - s) k = if cy_rUs S s = 0 then R_dp S ns (ns - (s + 1)) k else if k < cq_wd S s then R_dp S ns (ns - (s + 1)) k else if R_dp S ns (ns - (s + 1)) k < R_dp S ns (ns - (s + 1)) (k - cq_wd S s) + 1 then R_dp S ns (ns - (s + 1)) k else R_dp S ns (ns - (s + 1)) (k - cq_wd S s) + 1 := by
  have e : ns - s = (ns - (s + 1)) + 1 := by omega
  rw [e]
  have e2 : ns - 1 - (ns - (s + 1)) = s := by omega
  show (if cy_rUs S (ns - 1 - (ns - (s + 1))) = 0 then _ else _) = _
  rw [e2]
theorem R_bt_s {S : Nat → Nat → Int32} {ns s k i : Nat} (h : s < ns) : R_bt S ns (ns - s) k i = if cy_rUs S s = 0 then R_bt S ns (ns - (s + 1)) k i else if k < cq_wd S s then R_bt S ns (ns - (s + 1)) k i else if R_dp S ns (ns - (s + 1)) k < R_dp S ns (ns - (s + 1)) (k - cq_wd S s) + 1 then R_bt S ns (ns - (s + 1)) k i else (R_bt S ns (ns - (s + 1)) (k - cq_wd S s) i || decide (s = i)) := by
  have e : ns - s = (ns - (s + 1)) + 1 := by omega
  rw [e]
  have e2 : ns - 1 - (ns - (s + 1)) = s := by omega
  show (if cy_rUs S (ns - 1 - (ns - (s + 1))) = 0 then _ else _) = _
  rw [e2]
theorem R_bt_n {S : Nat → Nat → Int32} {ns s k : Nat} (h : s < ns) : R_bt S ns (ns - (s + 1)) k s = false := by
  by_cases q : R_bt S ns (ns - (s + 1)) k s = true
  · have := R_bt_r (by omega) q
    omega
  · exact Bool.eq_false_iff.mpr q
/-- what is left after s staves -/
def R_lv (S : Nat → Nat → Int32) (ns b s l : Nat) : Prop := l ≤ b ∧ R_dp S ns (ns - s) l ≠ 1000 ∧ ∀ i, s ≤ i → R_bt S ns ns b i = R_bt S ns (ns - s) l i
/-- a step of the choice -/
theorem r_chs {S M : Nat → Nat → Int32} {ns b s : Nat} (h60 : ns ≤ 60) (hs : s < ns) (hb : b < 1505) (hM : ∀ i, i < ns → cy_rUs M i = cy_rUs S i ∧ M 1 i = S 1 i) (hwd : ∀ i, i < ns → 1 ≤ cq_wd S i) (h : R_lv S ns b s (cq_ch M (cq_F M ns) b s).2.2) : (R_bt S ns ns b s = true → cy_rUs S s ≠ 0 ∧ cq_ch M (cq_F M ns) b (s + 1) = (upd (cq_ch M (cq_F M ns) b s).1 (cq_ch M (cq_F M ns) b s).2.1 (nI s), (cq_ch M (cq_F M ns) b s).2.1 + 1, (cq_ch M (cq_F M ns) b s).2.2 - cq_wd S s)) ∧ (R_bt S ns ns b s = false → cq_ch M (cq_F M ns) b (s + 1) = cq_ch M (cq_F M ns) b s) ∧ R_lv S ns b (s + 1) (cq_ch M (cq_F M ns) b (s + 1)).2.2 := by
  obtain ⟨m1, m2⟩ := hM s hs
  have ew : cq_wd M s = cq_wd S s := by unfold cq_wd; rw [m2]
  have w1 := hwd s hs
  have dM : ∀ t, t ≤ ns → ∀ k, R_dp M ns t k = R_dp S ns t k := fun t ht k => R_dp_c hM ht k
  show (_ → _ ∧ cq_ch M (cq_F M ns) b (s + 1) = _) ∧ _
  generalize hQ : cq_ch M (cq_F M ns) b s = Q at h
  obtain ⟨l1, l2, l3⟩ := h
  have bs := l3 s (Nat.le_refl _)
  have e : cq_ch M (cq_F M ns) b (s + 1) = if Q.2.2 = 0 then Q else if cy_rUs S s = 0 then Q else if Q.2.2 < cq_wd S s then Q else if cq_F M ns (((s + 1) * 1505) + Q.2.2 - cq_wd S s) + 1 = cq_F M ns ((s * 1505) + Q.2.2) then (upd Q.1 Q.2.1 (nI s), Q.2.1 + 1, Q.2.2 - cq_wd S s) else Q := by
    show (if (cq_ch M (cq_F M ns) b s).2.2 = 0 then _ else _) = _
    rw [hQ, m1, ew]
  have dps := fun k => R_dp_s (S := S) (k := k) hs
  have bts := fun k i => R_bt_s (S := S) (k := k) (i := i) hs
  -- where nothing is chosen
  have stay : (R_dp S ns (ns - s) Q.2.2 = R_dp S ns (ns - (s + 1)) Q.2.2) → (∀ i, R_bt S ns (ns - s) Q.2.2 i = R_bt S ns (ns - (s + 1)) Q.2.2 i) → cq_ch M (cq_F M ns) b (s + 1) = Q → (R_bt S ns ns b s = true → cy_rUs S s ≠ 0 ∧ cq_ch M (cq_F M ns) b (s + 1) = (upd Q.1 Q.2.1 (nI s), Q.2.1 + 1, Q.2.2 - cq_wd S s)) ∧ (R_bt S ns ns b s = false → cq_ch M (cq_F M ns) b (s + 1) = Q) ∧ R_lv S ns b (s + 1) (cq_ch M (cq_F M ns) b (s + 1)).2.2 := by
    intro h1 h2 h3
    refine ⟨fun q => ?_, fun _ => h3, ?_⟩
    · rw [bs, h2, R_bt_n hs] at q
      exact absurd q (by decide)
    · rw [h3]
      exact ⟨l1, by rw [← h1]; exact l2, fun i hi => by rw [l3 i (by omega), h2]⟩
  by_cases z0 : Q.2.2 = 0
  · refine stay ?_ (fun i => ?_) (by rw [e, if_pos z0])
    · rw [dps, z0]
      split
      · rfl
      · rw [if_pos (by omega)]
    · rw [bts, z0]
      split
      · rfl
      · rw [if_pos (by omega)]
  by_cases z1 : cy_rUs S s = 0
  · exact stay (by rw [dps, if_pos z1]) (fun i => by rw [bts, if_pos z1]) (by rw [e, if_neg z0, if_pos z1])
  by_cases z2 : Q.2.2 < cq_wd S s
  · exact stay (by rw [dps, if_neg z1, if_pos z2]) (fun i => by rw [bts, if_neg z1, if_pos z2]) (by rw [e, if_neg z0, if_neg z1, if_pos z2])
  have f1 : cq_F M ns (((s + 1) * 1505) + Q.2.2 - cq_wd S s) = nI (R_dp S ns (ns - (s + 1)) (Q.2.2 - cq_wd S s)) := by
    rw [show ((s + 1) * 1505) + Q.2.2 - cq_wd S s = (s + 1) * 1505 + (Q.2.2 - cq_wd S s) by omega, r_F h60 (by omega) (by omega), dM _ (by omega)]
  have f2 : cq_F M ns ((s * 1505) + Q.2.2) = nI (R_dp S ns (ns - s) Q.2.2) := by
    rw [r_F h60 (by omega) (by omega), dM _ (by omega)]
  have b1 := R_dp_b (S := S) (ns := ns) (t := ns - (s + 1)) (k := Q.2.2 - cq_wd S s) (by omega)
  have b2 := R_dp_b (S := S) (ns := ns) (t := ns - s) (k := Q.2.2) (by omega)
  have d := dps Q.2.2
  rw [if_neg z1, if_neg z2] at d
  by_cases z3 : R_dp S ns (ns - (s + 1)) Q.2.2 < R_dp S ns (ns - (s + 1)) (Q.2.2 - cq_wd S s) + 1
  · refine stay (by rw [dps, if_neg z1, if_neg z2, if_pos z3]) (fun i => by rw [bts, if_neg z1, if_neg z2, if_pos z3]) ?_
    rw [e, if_neg z0, if_neg z1, if_neg z2, f1, f2, nI_1, if_neg (fun q => ?_)]
    rw [if_pos z3] at d
    have := cy_eq (by omega) (by omega) q
    omega
  · rw [if_neg z3] at d
    have e' : cq_ch M (cq_F M ns) b (s + 1) = (upd Q.1 Q.2.1 (nI s), Q.2.1 + 1, Q.2.2 - cq_wd S s) := by
      rw [e, if_neg z0, if_neg z1, if_neg z2, f1, f2, nI_1, if_pos (by rw [d])]
    have hbs : ∀ i, R_bt S ns (ns - s) Q.2.2 i = (R_bt S ns (ns - (s + 1)) (Q.2.2 - cq_wd S s) i || decide (s = i)) := fun i => by
      rw [bts, if_neg z1, if_neg z2, if_neg z3]
    refine ⟨fun _ => ⟨z1, e'⟩, fun q => ?_, ?_⟩
    · rw [bs, hbs] at q
      simp at q
    · rw [e']
      refine ⟨?_, ?_, fun i hi => ?_⟩
      · show Q.2.2 - cq_wd S s ≤ b
        omega
      · show R_dp S ns (ns - (s + 1)) (Q.2.2 - cq_wd S s) ≠ 1000
        omega
      · show _ = R_bt S ns (ns - (s + 1)) (Q.2.2 - cq_wd S s) i
        rw [l3 i (by omega), hbs, show decide (s = i) = false from decide_eq_false (by omega), Bool.or_false]
theorem r_chl {S M : Nat → Nat → Int32} {ns b : Nat} (h60 : ns ≤ 60) (hb : b < 1505) (hM : ∀ i, i < ns → cy_rUs M i = cy_rUs S i ∧ M 1 i = S 1 i) (hwd : ∀ i, i < ns → 1 ≤ cq_wd S i) (hd : R_dp S ns ns b ≠ 1000) : ∀ {s : Nat}, s ≤ ns → R_lv S ns b s (cq_ch M (cq_F M ns) b s).2.2
  | 0, _ => ⟨Nat.le_refl _, hd, fun _ _ => rfl⟩
  | s + 1, hs => (r_chs h60 hs hb hM hwd (r_chl h60 hb hM hwd hd (s := s) (by omega))).2.2
theorem cq_ch_1 {S : Nat → Nat → Int32} {F : Nat → Int32} {n0 s : Nat} : cq_ch S F n0 (s + 1) = if (cq_ch S F n0 s).2.2 = 0 then cq_ch S F n0 s else if cy_rUs S s = 0 then cq_ch S F n0 s else if (cq_ch S F n0 s).2.2 < cq_wd S s then cq_ch S F n0 s else if F (((s + 1) * 1505) + (cq_ch S F n0 s).2.2 - cq_wd S s) + 1 = F ((s * 1505) + (cq_ch S F n0 s).2.2) then (upd (cq_ch S F n0 s).1 (cq_ch S F n0 s).2.1 (nI s), (cq_ch S F n0 s).2.1 + 1, (cq_ch S F n0 s).2.2 - cq_wd S s) else cq_ch S F n0 s := rfl
theorem cq_ch_keep {M : Nat → Nat → Int32} {F : Nat → Int32} {b s : Nat} : ∀ {d : Nat}, (cq_ch M F b s).2.1 ≤ (cq_ch M F b (s + d)).2.1 ∧ ∀ j, j < (cq_ch M F b s).2.1 → (cq_ch M F b (s + d)).1 j = (cq_ch M F b s).1 j
  | 0 => ⟨Nat.le_refl _, fun _ _ => rfl⟩
  | d + 1 => by
    obtain ⟨i1, i2⟩ := cq_ch_keep (M := M) (F := F) (b := b) (s := s) (d := d)
    rw [← Nat.add_assoc, cq_ch_1]
    split
    · exact ⟨i1, i2⟩
    · split
      · exact ⟨i1, i2⟩
      · split
        · exact ⟨i1, i2⟩
        · split
          · refine ⟨Nat.le_succ_of_le i1, fun j hj => ?_⟩
            show upd _ _ _ j = _
            rw [pk_un (by omega)]
            exact i2 j hj
          · exact ⟨i1, i2⟩
/-- which member comes at a place -/
theorem r_mo2 {S M : Nat → Nat → Int32} {ns b X : Nat} {z : Int64} (h60 : ns ≤ 60) (hb : b < 1505) (hX : X < 2 ^ 31) (hM : ∀ i, i < ns → cy_rUs M i = cy_rUs S i ∧ M 1 i = S 1 i) (hwd : ∀ i, i < ns → 1 ≤ cq_wd S i) (hd : R_dp S ns ns b ≠ 1000) (hz : ∀ i, i < 64 → z.toBitVec.getLsbD i = R_bt S ns ns b i) : ∀ {k s : Nat}, s + k = ns → (cq_ch M (cq_F M ns) b s).2.1 ≤ X → cy_mo z (nI X) k s (nI (cq_ch M (cq_F M ns) b s).2.1) = if X < (cq_ch M (cq_F M ns) b ns).2.1 then (cq_ch M (cq_F M ns) b ns).1 X else (-1)
  | 0, s, hs, h => by
    have : s = ns := by omega
    subst this
    rw [if_neg (by omega)]
    rfl
  | k + 1, s, hs, h => by
    obtain ⟨c1, c2, -⟩ := r_chs h60 (show s < ns by omega) hb hM hwd (r_chl h60 hb hM hwd hd (s := s) (by omega))
    have nle := (cq_ch_le (S := M) (F := cq_F M ns) (n0 := b) (s := s)).1
    have bit := hz s (by omega)
    unfold cy_mo
    by_cases q : R_bt S ns ns b s = true
    · obtain ⟨-, c1⟩ := c1 q
      rw [if_neg (fun y => by
        have := (cz_in (by omega)).mp y
        rw [bit, q] at this
        exact absurd this (by decide))]
      by_cases y : (cq_ch M (cq_F M ns) b s).2.1 = X
      · rw [if_neg (fun w => w (by rw [y]))]
        obtain ⟨k1, k2⟩ := cq_ch_keep (M := M) (F := cq_F M ns) (b := b) (s := s + 1) (d := k)
        rw [show s + 1 + k = ns by omega, c1] at k1 k2
        have k1' : (cq_ch M (cq_F M ns) b s).2.1 + 1 ≤ (cq_ch M (cq_F M ns) b ns).2.1 := k1
        have k2' := k2 X (by show X < (cq_ch M (cq_F M ns) b s).2.1 + 1; omega)
        rw [if_pos (by omega), k2']
        show nI s = upd _ _ _ X
        rw [y, pk_us]
      · rw [if_pos (fun w => y (cy_eq (by omega) hX w))]
        have ih := r_mo2 h60 hb hX hM hwd hd hz (k := k) (s := s + 1) (by omega) (by rw [c1]; show (cq_ch M (cq_F M ns) b s).2.1 + 1 ≤ X; omega)
        rw [c1] at ih
        rw [nI_1]
        exact ih
    · have q' : R_bt S ns ns b s = false := Bool.eq_false_iff.mpr q
      rw [if_pos ((cz_in (by omega)).mpr (by rw [bit, q']))]
      have ih := r_mo2 h60 hb hX hM hwd hd hz (k := k) (s := s + 1) (by omega) (by rw [c2 q']; exact h)
      rw [c2 q'] at ih
      exact ih
/-- the best sum -/
theorem r_bs {S : Nat → Nat → Int32} {F f : Nat → Int32} {ns g : Nat} (h60 : ns ≤ 60) (hF : ∀ k, k ≤ g + 4 → F k = nI (R_dp S ns ns k)) (hf : ∀ k, k ≤ g + 4 → f k = nI (R_dp S ns ns k)) (hg : g ≤ 1500) : ∀ {n : Nat}, n ≤ 4 → g ≤ cy_bs f g n ∧ ((R_dp S ns ns (cy_bs f g n) = 1000 ∧ cq_lf2 F g (n + 1) = (-1)) ∨ (R_dp S ns ns (cy_bs f g n) ≠ 1000 ∧ cq_lf2 F g (n + 1) = nI (cy_bs f g n)))
  | 0, _ => by
    refine ⟨Nat.le_refl _, ?_⟩
    show (R_dp S ns ns g = 1000 ∧ (if 1000 ≤ F (g + 0) then (-1) else if (-1 : Int32) = (-1) then nI (g + 0) else _) = (-1)) ∨ (R_dp S ns ns g ≠ 1000 ∧ (if 1000 ≤ F (g + 0) then (-1) else if (-1 : Int32) = (-1) then nI (g + 0) else _) = nI g)
    have b1 := R_dp_b (S := S) (ns := ns) (t := ns) (k := g) h60
    rw [Nat.add_zero, hF g (by omega)]
    by_cases z : R_dp S ns ns g = 1000
    · rw [z]
      exact Or.inl ⟨rfl, if_pos (by decide)⟩
    · refine Or.inr ⟨z, ?_⟩
      rw [if_neg (fun q => ?_), if_pos rfl]
      have := cy_le (a := 1000) (by decide) (by omega) q
      omega
  | n + 1, hn => by
    obtain ⟨i0, i1⟩ := r_bs h60 hF hf hg (n := n) (by omega)
    have le := cy_bs_le (f := f) (g := g) (k := n)
    have b1 := R_dp_b (S := S) (ns := ns) (t := ns) (k := cy_bs f g n) h60
    have b2 := R_dp_b (S := S) (ns := ns) (t := ns) (k := g + 1 + n) h60
    have e1 : cy_bs f g (n + 1) = if f (cy_bs f g n) ≤ f (g + 1 + n) then cy_bs f g n else g + 1 + n := rfl
    have e2 : cq_lf2 F g (n + 1 + 1) = if 1000 ≤ F (g + (n + 1)) then cq_lf2 F g (n + 1) else if cq_lf2 F g (n + 1) = (-1) then nI (g + (n + 1)) else if F (cq_lf2 F g (n + 1)).toNatClampNeg ≤ F (g + (n + 1)) then cq_lf2 F g (n + 1) else nI (g + (n + 1)) := rfl
    rw [e1, e2, hf _ (by omega), hf _ (by omega), show g + (n + 1) = g + 1 + n by omega, hF _ (by omega)]
    generalize cy_bs f g n = B at i0 i1 le b1
    generalize cq_lf2 F g (n + 1) = L at i1
    by_cases z : R_dp S ns ns (g + 1 + n) = 1000
    · rw [z, if_pos (show nI (R_dp S ns ns B) ≤ nI 1000 from nI_le (by omega) (by decide)), if_pos (show (1000 : Int32) ≤ nI 1000 by decide)]
      exact ⟨i0, i1⟩
    · have z1 : ¬ (1000 : Int32) ≤ nI (R_dp S ns ns (g + 1 + n)) := fun q => by
        have := cy_le (a := 1000) (by decide) (by omega) q
        omega
      rw [if_neg z1]
      rcases i1 with ⟨j1, j2⟩ | ⟨j1, j2⟩
      · rw [if_neg (fun q => by
          have := cy_le (by omega) (by omega) q
          omega), j2, if_pos rfl]
        exact ⟨by omega, Or.inr ⟨z, rfl⟩⟩
      · rw [j2, if_neg (cy_nm1 (by omega)), nI_clamp (by omega), hF _ (by omega)]
        by_cases y : nI (R_dp S ns ns B) ≤ nI (R_dp S ns ns (g + 1 + n))
        · rw [if_pos y, if_pos y]
          exact ⟨i0, Or.inr ⟨j1, rfl⟩⟩
        · rw [if_neg y, if_neg y]
          exact ⟨by omega, Or.inr ⟨z, rfl⟩⟩
/-- both sides' search -/
theorem r_find {S M : Nat → Nat → Int32} {Z : Nat → Int64} {ns no nc mo t j : Nat} (h : Rel S M ns no nc mo t) (hj : j < no) : cq_gi M (nI j) = cy_gi S (nI j) ∧ ((cy_rFs S Z ns (cy_gi S (nI j)) = (-1) ∧ cq_lft (cq_rs M) ns (cy_gi S (nI j)) = (-1)) ∨ (cy_rFs S Z ns (cy_gi S (nI j)) ≠ (-1) ∧ ∃ b, 1 ≤ b ∧ b < 1505 ∧ R_dp S ns ns b ≠ 1000 ∧ (∀ i, i < 64 → (cy_rFs S Z ns (cy_gi S (nI j))).toBitVec.getLsbD i = R_bt S ns ns b i) ∧ cq_lft (cq_rs M) ns (cy_gi S (nI j)) = nI b ∧ cq_chs (cq_rs M) ns (cy_gi S (nI j)) = cq_ch (cq_rs M) (cq_F (cq_rs M) ns) b ns)) := by
  have h6 := h.1.2.1.2.2
  have h60 := h.1.1.2.2
  have ej : (nI j).toNatClampNeg = j := nI_clamp (by omega)
  obtain ⟨g1, g2, -⟩ := h.gi j hj
  have eg : cq_gi M (nI j) = cy_gi S (nI j) := by
    unfold cq_gi cy_gi
    rw [ej, (h.2.2.1.1 j hj).1.1]
  have eg2 : cy_gi S (nI j) = (S 4 j).toNatClampNeg := by unfold cy_gi; rw [ej]
  rw [eg]
  refine ⟨rfl, ?_⟩
  rw [eg2]
  generalize (S 4 j).toNatClampNeg = g at g1 g2
  have hwd := h.wd
  have hM : ∀ i, i < ns → cy_rUs S i = cy_rUs (cq_rs M) i ∧ S 1 i = (cq_rs M) 1 i := fun i hi => by
    obtain ⟨⟨a1, a2, a3⟩, -⟩ := h.rs.2.1 i hi
    refine ⟨?_, a1⟩
    unfold cy_rUs
    rw [a2, a3]
  obtain ⟨t1, t2⟩ := r_fs (S := S) (Z := Z) (m := g + 4) h60 (by omega) (by omega) (fun i hi => ⟨(hwd i hi).1, (hwd i hi).2.1⟩) (Nat.le_refl ns)
  have hF : ∀ k, k ≤ g + 4 → cq_F (cq_rs M) ns k = nI (R_dp S ns ns k) := fun k hk => by
    have q := r_F (S := cq_rs M) h60 (r := 0) (k := k) (Nat.zero_le _) (by omega)
    rw [Nat.zero_mul, Nat.zero_add, Nat.sub_zero] at q
    rw [q, R_dp_c hM (Nat.le_refl ns)]
  obtain ⟨b0, b1⟩ := r_bs (S := S) (F := cq_F (cq_rs M) ns) (f := (cy_fz S Z ns g).1) h60 hF t1 g2 (Nat.le_refl 4)
  have ble := cy_bs_le (f := (cy_fz S Z ns g).1) (g := g) (k := 4)
  have er : cy_rFs S Z ns g = (cy_fz S Z ns g).2 (cy_bs (cy_fz S Z ns g).1 g 4) := rfl
  have el : cq_lft (cq_rs M) ns g = cq_lf2 (cq_F (cq_rs M) ns) g 5 := rfl
  rw [er, el]
  have t2' : ∀ k, k ≤ g + 4 → (R_dp S ns ns k = 1000 → (cy_fz S Z ns g).2 k = (-1)) ∧ (R_dp S ns ns k ≠ 1000 → ∀ i, i < 64 → ((cy_fz S Z ns g).2 k).toBitVec.getLsbD i = R_bt S ns ns k i) := t2
  have ec : cq_chs (cq_rs M) ns g = cq_ch (cq_rs M) (cq_F (cq_rs M) ns) (cq_lf2 (cq_F (cq_rs M) ns) g 5).toNatClampNeg ns := rfl
  rw [ec]
  generalize cy_bs (cy_fz S Z ns g).1 g 4 = B at b0 b1 ble
  rcases b1 with ⟨c1, c2⟩ | ⟨c1, c2⟩
  · exact Or.inl ⟨(t2' B (by omega)).1 c1, c2⟩
  · have bits := (t2' B (by omega)).2 c1
    refine Or.inr ⟨fun q => ?_, B, by omega, by omega, c1, bits, c2, by rw [c2, nI_clamp (by omega)]⟩
    have b63 := bits 63 (by decide)
    rw [q, show ((-1 : Int64).toBitVec.getLsbD 63) = true by decide] at b63
    have := R_bt_r (Nat.le_refl ns) b63.symm
    omega
theorem s_choose {S M : Nat → Nat → Int32} {Z : Nat → Int64} {x y : Int32} {ns no nc mo t : Nat} (h : Rel S M ns no nc mo t) : R_F cy_IB cy_IB (cy_tCh x y no) (cq_Ch M x y ns no) (cy_rCh S Z ns x y) (cy_if (cy_tCh x y no) (va_up S 9 (cy_fz S Z ns (cy_gi S x)).1) S) (t + 1) := by
  have h6 := h.1.2.1.2.2
  have h60 := h.1.1.2.2
  have et : cy_tCh x y no = if cq_in x 0 (nI no - 1) = 0 then some cy_IB else if cq_in y 0 59 = 0 then some cy_IB else none := by
    unfold cy_tCh
    rw [r_g0 (by omega), r_g2 (hi := 59) (by decide)]
  by_cases h1 : cq_in x 0 (nI no - 1) = 0
  · exact r_bad h (E := cy_IB) (k := 1) (by rw [et, if_pos h1]) (by unfold cq_Ch; rw [if_pos h1]) rfl
  rw [if_neg h1] at et
  by_cases h2 : cq_in y 0 59 = 0
  · exact r_bad h (E := cy_IB) (k := 1) (by rw [et, if_pos h2]) (by unfold cq_Ch; rw [if_neg h1, if_pos h2]) rfl
  rw [if_neg h2] at et
  obtain ⟨j, hj, rfl⟩ := cq_in_t (by omega) h1
  obtain ⟨X, hX, rfl⟩ := cq_in_l (n := 59) (by decide) h2
  have eX : (nI X).toNatClampNeg = X := nI_clamp (by omega)
  obtain ⟨eg, hf⟩ := r_find (Z := Z) h hj
  generalize hg : cy_gi S (nI j) = g at eg hf
  have f : cq_Ch M (nI j) (nI X) ns no = (cq_sFd (cq_rs M) ns g, if cq_rFd (cq_rs M) ns g = 0 then (-1) else if cq_sFd (cq_rs M) ns g 0 23 ≤ nI X then (-1) else cq_sFd (cq_rs M) ns g 17 X) := by
    unfold cq_Ch
    rw [if_neg h1, if_neg h2, eg, eX]
  refine r_good (h.rs.scr (S' := va_up S 9 (cy_fz S Z ns g).1) (M' := cq_sFd (cq_rs M) ns g) (Nat.le_succ _) (fun j _ j9 _ => cy_un j9) (fun j j1 j15 => cq_sFd_n (by omega) (by omega) (by omega)) (fun k _ k23 => cq_sFd_0 k23)) et f (by rw [cq_sFd_0 (by decide)]; rfl) ?_
  unfold cy_rCh
  rw [hg]
  rcases hf with ⟨c1, c2⟩ | ⟨c1, b, hb1, hb2, hb3, hb4, hb5, hb6⟩
  · rw [c1, if_pos (by decide), if_pos (by unfold cq_rFd; rw [if_neg (fun q => q c2)])]
  · have hr : cq_rFd (cq_rs M) ns g = 1 := by
      unfold cq_rFd
      rw [if_pos (by rw [hb5]; exact cy_nm1 (by omega))]
    have hr0 : ¬ cq_rFd (cq_rs M) ns g = 0 := by rw [hr]; decide
    have hM : ∀ i, i < ns → cy_rUs (cq_rs M) i = cy_rUs S i ∧ (cq_rs M) 1 i = S 1 i := fun i hi => by
      obtain ⟨⟨a1, a2, a3⟩, -⟩ := h.rs.2.1 i hi
      refine ⟨?_, a1.symm⟩
      unfold cy_rUs
      rw [a2, a3]
    rw [if_neg (fun q => c1 ((lg_cmp_eq _ _).mp q)), if_neg hr0, cq_sFd_23 hr0, cq_sFd_17 hr0, hb6]
    have q := r_mo2 (S := S) (M := cq_rs M) (X := X) (z := cy_rFs S Z ns g) h60 hb2 (by omega) hM (fun i hi => (h.wd i hi).1) hb3 hb4 (k := ns) (s := 0) (Nat.zero_add _) (Nat.zero_le _)
    refine q.trans ?_
    have nle := (cq_ch_le (S := cq_rs M) (F := cq_F (cq_rs M) ns) (n0 := b) (s := ns)).1
    by_cases y : X < (cq_ch (cq_rs M) (cq_F (cq_rs M) ns) b ns).2.1
    · rw [if_pos y, if_neg (fun w => by
        have := cy_le (by omega) (by omega) w
        omega)]
    · rw [if_neg y, if_pos (nI_le (by omega) (by omega))]
