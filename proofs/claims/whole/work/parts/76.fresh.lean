/-! every call keeps the relation, and the casks that are not raised yet -/
def R_I (S M : Nat → Nat → Int32) (k : Nat) : Prop := ∃ ns no nc mo, Rel S M ns no nc mo k ∧ R_fr S M nc
def R_U (h1 h2 : String) (th : Option String) (r : (Nat → Nat → Int32) × Int32) (a : Int32) (S' : Nat → Nat → Int32) (k : Nat) : Prop := cy_cd h1 h2 th = r.1 0 0 ∧ (th = none → a = r.2) ∧ R_I S' r.1 k
theorem R_F.up {S S' M : Nat → Nat → Int32} {h1 h2 : String} {th : Option String} {r : (Nat → Nat → Int32) × Int32} {a : Int32} {ns no nc mo t k : Nat} (f : R_F h1 h2 th r a S' k) (h : Rel S M ns no nc mo t) (hfr : R_fr S M nc) (hS : S' 0 9 = S 0 9 ∧ ∀ j, 3 * nc + 11 ≤ j → j < 47 → S' j = S j) (hM : ∀ j, 5 * nc ≤ j → r.1 14 j = M 14 j) : R_U h1 h2 th r a S' k := by
  obtain ⟨f1, f2, ns', no', nc', mo', f3⟩ := f
  have e1 := f3.1.2.2.1.1
  have e2 := h.1.2.2.1.1
  have b1 := f3.1.2.2.1.2.2
  have b2 := h.1.2.2.1.2.2
  have e : nc' = nc := by
    rw [hS.1, e2] at e1
    exact (cy_eq (by omega) (by omega) e1).symm
  subst e
  exact ⟨f1, f2, ns', no', nc', mo', f3, hfr.keep hS.2 hM⟩
theorem cy_if_k {th : Option String} {A S : Nat → Nat → Int32} {nc : Nat} (h : th = none → A 0 9 = S 0 9 ∧ ∀ j, 3 * nc + 11 ≤ j → j < 47 → A j = S j) : cy_if th A S 0 9 = S 0 9 ∧ ∀ j, 3 * nc + 11 ≤ j → j < 47 → cy_if th A S j = S j := by
  by_cases q : th = none
  · rw [cy_if_n q]
    exact h q
  · rw [show cy_if th A S = S from if_neg q]
    exact ⟨rfl, fun _ _ _ => rfl⟩
theorem cy_if_e {th : Option String} {S : Nat → Nat → Int32} : cy_if th S S = S := by
  unfold cy_if
  split <;> rfl
theorem cy_isn {x : Int32} {n : Nat} {E : String} {v : Option String} (hn : n < 2 ^ 31) (h : (if cy_rIs x (nI n) = 0 then some E else v) = none) : ∃ c, c < n ∧ x = nI c := by
  by_cases q : cy_rIs x (nI n) = 0
  · rw [if_pos q] at h
    exact nomatch h
  · exact cy_rIs_t hn q
section Calls
variable {S M : Nat → Nat → Int32} {x y z : Int32} {ns no nc mo t : Nat}
theorem u_addStave (h : Rel S M ns no nc mo t) (hfr : R_fr S M nc) : R_U cy_IA cy_IS (cy_tAs x y ns) (cq_As M x y ns) (nI ns) (cy_if (cy_tAs x y ns) (cy_nAs S x y ns) S) (t + 1) := by
  obtain ⟨a1, a2, ns', a3⟩ := s_addStave (x := x) (y := y) h
  refine R_F.up ⟨a1, a2, ns', no, nc, mo, a3.mono (Nat.le_succ _)⟩ h hfr (cy_if_k (fun _ => ⟨rfl, fun j hj _ => ?_⟩)) (fun j _ => ?_)
  · unfold cy_nAs
    rw [cy_un (by omega), cy_un (by omega), cy_un (by omega), cy_un (by omega)]
  · unfold cq_As
    repeat' split
    all_goals rfl
theorem u_stave (h : Rel S M ns no nc mo t) (hfr : R_fr S M nc) : R_U cy_IB cy_IB (cy_tSt x y ns) (cq_St M x y ns) (cy_rSt S x y) (cy_if (cy_tSt x y ns) S S) (t + 1) := by
  obtain ⟨a1, a2, a3⟩ := s_stave (x := x) (y := y) h
  rw [cy_if_e]
  refine R_F.up ⟨a1, a2, ns, no, nc, mo, a3.mono (Nat.le_succ _)⟩ h hfr ⟨rfl, fun j _ _ => rfl⟩ (fun j _ => ?_)
  unfold cq_St
  repeat' split
  all_goals rfl
theorem u_addSort (h : Rel S M ns no nc mo t) (hfr : R_fr S M nc) : R_U cy_IA cy_IS (cy_tAo x y z no) (cq_Ao M x y z no) (nI no) (cy_if (cy_tAo x y z no) (cy_nAo S x y z no) S) (t + 1) := by
  obtain ⟨a1, a2, no', a3⟩ := s_addSort (x := x) (y := y) (z := z) h
  refine R_F.up ⟨a1, a2, ns, no', nc, mo, a3.mono (Nat.le_succ _)⟩ h hfr (cy_if_k (fun _ => ⟨rfl, fun j hj _ => ?_⟩)) (fun j _ => ?_)
  · unfold cy_nAo
    rw [cy_un (by omega), cy_un (by omega), cy_un (by omega), cy_un (by omega)]
  · unfold cq_Ao
    repeat' split
    all_goals rfl
theorem u_choose {Z : Nat → Int64} (h : Rel S M ns no nc mo t) (hfr : R_fr S M nc) : R_U cy_IB cy_IB (cy_tCh x y no) (cq_Ch M x y ns no) (cy_rCh S Z ns x y) (cy_if (cy_tCh x y no) (va_up S 9 (cy_fz S Z ns (cy_gi S x)).1) S) (t + 1) := by
  refine (s_choose h).up h hfr (cy_if_k (fun _ => ⟨rfl, fun j hj _ => cy_un (by omega)⟩)) (fun j _ => ?_)
  unfold cq_Ch
  split
  · rfl
  · split
    · rfl
    · show cq_sFd (cq_rs M) ns (cq_gi M x) 14 j = _
      rw [cq_sFd_n (by decide) (by decide) (by decide)]
      rfl
theorem u_raise {Z : Nat → Int64} (h : Rel S M ns no nc mo t) (hfr : R_fr S M nc) : R_U cy_IB cy_IS (cy_tRa S Z x ns no nc) (cq_Ra M x ns no nc) (nI nc) (cy_sRa S Z x ns no nc) (t + 1) := by
  obtain ⟨a1, a2, nc', a3, a4⟩ := s_raise (Z := Z) (x := x) h hfr
  exact ⟨a1, a2, ns, no, nc', mo, a3, a4⟩
theorem u_drive (h : Rel S M ns no nc mo t) (hfr : R_fr S M nc) : R_U cy_IB cy_IA (cy_tDr S x y z nc) (cq_Dr M x y z nc) (cy_mn 9 (S (3 * x.toNatClampNeg + 12) y.toNatClampNeg + z)) (cy_if (cy_tDr S x y z nc) (cy_nDr S x.toNatClampNeg y.toNatClampNeg z) S) (t + 1) := by
  have h12 := h.1.2.2.1.2.2
  refine (s_drive h).up h hfr (cy_if_k (fun q => ?_)) (fun j _ => ?_)
  · unfold cy_tDr at q
    obtain ⟨c, hc, rfl⟩ := cy_isn (by omega) q
    rw [nI_clamp (by omega)]
    unfold cy_nDr
    split
    · exact ⟨by rw [cy_un (by omega)], fun j h1 _ => by rw [cy_un (by omega)]⟩
    · exact ⟨by rw [cy_un (by omega), cy_un (by omega)], fun j h1 _ => by rw [cy_un (by omega), cy_un (by omega)]⟩
  · unfold cq_Dr
    repeat' split
    all_goals rfl
theorem u_mend (h : Rel S M ns no nc mo t) (hfr : R_fr S M nc) : R_U cy_IB cy_IS (cy_tMe S x y ns nc) (cq_Me M x y ns nc) (S (3 * x.toNatClampNeg + 11) 3) (cy_if (cy_tMe S x y ns nc) (cy_nMe S x.toNatClampNeg y.toNatClampNeg (cy_lst S x ns).toNatClampNeg) S) (t + 1) := by
  have h12 := h.1.2.2.1.2.2
  refine (s_mend h).up h hfr (cy_if_k (fun q => ?_)) (fun j _ => ?_)
  · unfold cy_tMe at q
    obtain ⟨c, hc, rfl⟩ := cy_isn (by omega) q
    rw [nI_clamp (by omega)]
    unfold cy_nMe
    exact ⟨by rw [cy_un (by omega), cy_un (by omega)], fun j h1 _ => by rw [cy_un (by omega), cy_un (by omega)]⟩
  · unfold cq_Me
    repeat' split
    all_goals rfl
theorem u_breakUp (h : Rel S M ns no nc mo t) (hfr : R_fr S M nc) : R_U cy_IB cy_IS (cy_tBr S x nc) (cq_Br M x ns nc) (cy_sm (S (3 * x.toNatClampNeg + 13)) 5) (cy_if (cy_tBr S x nc) (cy_sCl (cy_ts S x ns).1 x.toNatClampNeg) S) (t + 1) := by
  have h12 := h.1.2.2.1.2.2
  refine (s_breakUp h).up h hfr (cy_if_k (fun q => ?_)) (fun j hj => ?_)
  · unfold cy_tBr at q
    obtain ⟨c, hc, rfl⟩ := cy_isn (by omega) q
    rw [nI_clamp (by omega)]
    unfold cy_sCl
    exact ⟨by rw [cy_un (by omega), cy_un (by omega), cy_un (by omega), cy_ts_n (by decide) (by decide)], fun j h1 _ => by rw [cy_un (by omega), cy_un (by omega), cy_un (by omega), cy_ts_n (by omega) (by omega)]⟩
  · by_cases q : cq_in x 0 (nI nc - 1) = 0
    · unfold cq_Br
      rw [if_pos q]
      rfl
    · obtain ⟨c, hc, rfl⟩ := cq_in_t (by omega) q
      unfold cq_Br
      rw [if_neg q, nI_clamp (by omega)]
      split
      · rfl
      · show cq_nBr M c ns 14 j = _
        unfold cq_nBr
        rw [cy_un (by decide), cq_bt_n (by decide) (by decide)]
        unfold cq_b1
        rw [cy_un (by decide)]
        exact (cq_em_z (S := cq_rs M) (c := c) (n := 5) (k := j)).2 (fun k hk => by omega)
theorem u_cask (h : Rel S M ns no nc mo t) (hfr : R_fr S M nc) : R_U cy_IB cy_IB (cy_tCa x y nc) (cq_Ca M x y ns nc) (cy_tell S ns x.toNatClampNeg y.toNatClampNeg) (cy_if (cy_tCa x y nc) S S) (t + 1) := by
  obtain ⟨a1, a2, a3⟩ := s_cask (x := x) (y := y) h
  rw [cy_if_e]
  refine R_F.up ⟨a1, a2, ns, no, nc, mo, a3.mono (Nat.le_succ _)⟩ h hfr ⟨rfl, fun j _ _ => rfl⟩ (fun j _ => ?_)
  unfold cq_Ca
  repeat' split
  all_goals rfl
theorem u_fill (ht : t ≤ 1000000) (h : Rel S M ns no nc mo t) (hfr : R_fr S M nc) : R_U cy_IB cy_IA (cy_tFi S x y z nc) (cq_Fi M x y z nc) (cy_sm (cy_nFi S x.toNatClampNeg y.toNatClampNeg z (3 * x.toNatClampNeg + 13)) 5) (cy_if (cy_tFi S x y z nc) (cy_nFi S x.toNatClampNeg y.toNatClampNeg z) S) (t + 1) := by
  have h12 := h.1.2.2.1.2.2
  refine (s_fill ht h).up h hfr (cy_if_k (fun q => ?_)) (fun j hj => ?_)
  · unfold cy_tFi at q
    obtain ⟨c, hc, rfl⟩ := cy_isn (by omega) q
    rw [nI_clamp (by omega)]
    unfold cy_nFi
    exact ⟨by rw [cy_un (by omega), cy_sCf_n (by omega)], fun j h1 _ => by rw [cy_un (by omega), cy_sCf_n (by omega)]⟩
  · by_cases q : cq_in x 0 (nI nc - 1) = 0
    · unfold cq_Fi
      rw [if_pos q]
      rfl
    · obtain ⟨c, hc, rfl⟩ := cq_in_t (by omega) q
      unfold cq_Fi
      rw [if_neg q, nI_clamp (by omega)]
      by_cases q2 : cq_in y 0 3 = 0
      · rw [if_pos q2]
        rfl
      · rw [if_neg q2]
        obtain ⟨i, hi, rfl⟩ := cq_in_l (n := 3) (by decide) q2
        rw [nI_clamp (show i < 2 ^ 31 by omega)]
        split
        · rfl
        · split
          · rfl
          · split
            · show cq_nFi M c i z 14 j = _
              unfold cq_nFi
              rw [cy_us, pk_un (by omega)]
              rfl
            · rfl
/-! rack -/
theorem cy_m1_n {T : Nat → Nat → Int32} {c d j : Nat} {x all : Int32} (h : j ≠ 3 * c + 13) (h2 : j ≠ 3 * d + 13) : ∀ {n : Nat}, (cy_m1 T c d x all n).1 j = T j
  | 0 => rfl
  | n + 1 => by
    show cy_sMl (cy_m1 T c d x all n).1 c d n _ j = _
    unfold cy_sMl
    rw [cy_un h2, cy_un h, cy_m1_n h h2]
theorem cy_m2_n {T : Nat → Nat → Int32} {c d j : Nat} {x mv : Int32} (h : j ≠ 3 * c + 13) (h2 : j ≠ 3 * d + 13) : ∀ {n : Nat}, (cy_m2 T c d x mv n).1 j = T j
  | 0 => rfl
  | n + 1 => by
    unfold cy_m2
    split
    · exact cy_m2_n h h2
    · split
      · exact cy_m2_n h h2
      · show cy_sMl (cy_m2 T c d x mv n).1 c d n _ j = _
        unfold cy_sMl
        rw [cy_un h2, cy_un h, cy_m2_n h h2]
theorem cy_sMv_n {T : Nat → Nat → Int32} {c d j : Nat} {x all : Int32} (h : j ≠ 3 * c + 13) (h2 : j ≠ 3 * d + 13) (h3 : j ≠ 3 * c + 11) (h4 : j ≠ 3 * d + 11) : cy_sMv T c d x all j = T j := by
  unfold cy_sMv
  rw [cy_un h4, cy_un h3]
  unfold cy_mq
  rw [cy_m2_n h h2, cy_m1_n h h2]
theorem u_rack (ht : t ≤ 1000000) (h : Rel S M ns no nc mo t) (hfr : R_fr S M nc) : R_U cy_IB cy_IA (cy_tRk S x y z nc) (cq_Rk M x y z nc) (cy_sm (cy_nRk S x y z (3 * x.toNatClampNeg + 13)) 5) (cy_if (cy_tRk S x y z nc) (cy_nRk S x y z) S) (t + 1) := by
  have h12 := h.1.2.2.1.2.2
  refine (s_rack ht h).up h hfr (cy_if_k (fun q => ?_)) (fun j hj => ?_)
  · unfold cy_tRk at q
    unfold cy_nRk
    by_cases e : y = (-1)
    · rw [if_pos e] at q ⊢
      obtain ⟨c, hc, rfl⟩ := cy_isn (by omega) q
      rw [nI_clamp (by omega)]
      have b : ∀ j, j < 47 → cy_sCf (cy_sCl S 12) 12 j = S j := fun j a => by
        rw [cy_sCf_n (by omega)]
        unfold cy_sCl
        rw [cy_un (by omega), cy_un (by omega), cy_un (by omega)]
      exact ⟨by rw [cy_sMv_n (by omega) (by omega) (by omega) (by omega), b 0 (by decide)], fun j h1 h2 => by rw [cy_sMv_n (by omega) (by omega) (by omega) (by omega), b j h2]⟩
    · rw [if_neg e] at q ⊢
      obtain ⟨c, hc, rfl⟩ := cy_isn (by omega) q
      have q2 : (if cy_rIs y (nI nc) = 0 then some cy_IB else if nI c = y then some cy_IA else if z < 1 then some cy_IA else if z ≤ 60000 then (if S (3 * (nI c).toNatClampNeg + 11) 2 = 0 then some cy_IS else if S (3 * y.toNatClampNeg + 11) 2 = 0 then some cy_IS else if z ≤ cy_sm (S (3 * (nI c).toNatClampNeg + 13)) 5 then (if cy_sm (S (3 * y.toNatClampNeg + 13)) 5 + z ≤ S (3 * y.toNatClampNeg + 11) 1 then none else some cy_IS) else some cy_IS) else some cy_IA) = none := by
        by_cases w : cy_rIs (nI c) (nI nc) = 0
        · rw [if_pos w] at q
          exact nomatch q
        · rw [if_neg w] at q
          exact q
      obtain ⟨d, hd, rfl⟩ := cy_isn (by omega) q2
      rw [nI_clamp (by omega), nI_clamp (by omega)]
      exact ⟨by rw [cy_sMv_n (by omega) (by omega) (by omega) (by omega), cy_sCf_n (by omega)], fun j h1 h2 => by rw [cy_sMv_n (by omega) (by omega) (by omega) (by omega), cy_sCf_n (by omega)]⟩
  · by_cases q : cq_in x 0 (nI nc - 1) = 0
    · unfold cq_Rk
      rw [if_pos q]
      rfl
    · obtain ⟨c, hc, rfl⟩ := cq_in_t (by omega) q
      unfold cq_Rk
      rw [if_neg q, nI_clamp (by omega)]
      by_cases e : y = (-1)
      · rw [if_pos e]
        split
        · rfl
        · split
          · rfl
          · split
            · rfl
            · split
              · rfl
              · show cq_nR1 M c z.toNatClampNeg 14 j = _
                unfold cq_nR1
                rw [cy_un (by decide), cq_mv_v.2.1 j (fun k hk => by omega)]
                rfl
      · rw [if_neg e]
        by_cases q2 : cq_in y 0 (nI nc - 1) = 0
        · rw [if_pos q2]
          rfl
        · rw [if_neg q2]
          obtain ⟨d, hd, rfl⟩ := cq_in_t (by omega) q2
          rw [nI_clamp (show d < 2 ^ 31 by omega)]
          by_cases e2 : nI c = nI d
          · rw [if_pos e2]
            rfl
          · rw [if_neg e2]
            have hcd : c ≠ d := fun w => e2 (by rw [w])
            split
            · rfl
            · split
              · rfl
              · split
                · rfl
                · split
                  · rfl
                  · split
                    · show cq_nR2 M c d z.toNatClampNeg 14 j = _
                      unfold cq_nR2
                      rw [cy_un (by decide), (cq_mw_v hcd (Nat.le_refl 5)).2.1 j (fun k hk => ⟨by omega, by omega⟩)]
                      rfl
                    · rfl
theorem u_setWarmth (h : Rel S M ns no nc mo t) (hfr : R_fr S M nc) : R_U cy_IA cy_IA (cy_tSw x) (cq_Sw M x) (S 0 16) (cy_if (cy_tSw x) (va_up S 0 (upd (S 0) 16 x)) S) (t + 1) := by
  obtain ⟨a1, a2, a3⟩ := s_setWarmth (x := x) h
  refine R_F.up ⟨a1, a2, ns, no, nc, mo, a3.mono (Nat.le_succ _)⟩ h hfr (cy_if_k (fun _ => ⟨rfl, fun j hj _ => cy_un (by omega)⟩)) (fun j _ => ?_)
  unfold cq_Sw
  split <;> rfl
/-! months -/
theorem cq_lo_14 {S : Nat → Nat → Int32} {c j : Nat} {th : Int32} : ∀ {n : Nat}, (∀ k, k < n → j ≠ 5 * c + k) → (cq_lo S c th n).1 14 j = S 14 j
  | 0, _ => rfl
  | n + 1, h => by
    unfold cq_lo
    dsimp only
    rw [cy_us, pk_un (h n (by omega)), cq_lo_14 (fun k hk => h k (by omega))]
theorem cq_pc_14 {S : Nat → Nat → Int32} {c j : Nat} {x : Int32} (h : ∀ k, k < 5 → j ≠ 5 * c + k) : cq_pc S c x 14 j = S 14 j := by
  have e3 : (cq_p3 S c).1 14 j = S 14 j := by
    unfold cq_p3
    rw [cq_lo_14 h, cq_p2_n (by decide) (by decide)]
  have e4 : cq_p4 S c 14 j = S 14 j := by
    unfold cq_p4
    rw [cy_un (by decide)]
    exact e3
  have e5 : cq_p5 S c 14 j = S 14 j := by
    unfold cq_p5
    split
    · rw [cy_un (by decide), cq_vi_v.2 j h]
      exact e4
    · exact e4
  unfold cq_pc
  split
  · rw [cq_ln_n (by decide)]
    exact e5
  · exact e5
theorem cq_lm_14 {S : Nat → Nat → Int32} {j : Nat} : ∀ {n : Nat}, 5 * n ≤ j → cq_lm S n 14 j = S 14 j
  | 0, _ => rfl
  | n + 1, h => by
    unfold cq_lm
    split
    · exact cq_lm_14 (by omega)
    · rw [cy_un (by decide), cq_pc_14 (fun k hk => by omega), cq_lm_14 (by omega)]
theorem cq_pm_14 {S : Nat → Nat → Int32} {ns nc j : Nat} (h : 5 * nc ≤ j) : ∀ {n : Nat}, cq_pm S ns nc n 14 j = S 14 j
  | 0 => rfl
  | n + 1 => by
    show cq_mo (cq_pm S ns nc n) ns nc 14 j = _
    unfold cq_mo
    rw [cy_un (by decide), cq_lm_14 h, cq_se_n (by decide), cq_pm_14 h]
theorem cy_lm_h {S : Nat → Nat → Int32} {w b : Int32} {j : Nat} : ∀ {n : Nat}, 3 * n + 11 ≤ j → (cy_lm S w b n).1 j = S j
  | 0, _ => rfl
  | n + 1, h => by
    show cy_sLv (cy_lm S w b n).1 n w b j = _
    rw [cy_sLv_n (by omega) (by omega) (by omega), cy_lm_h (by omega)]
theorem cy_pm_h {S : Nat → Nat → Int32} {ns nc j : Nat} (h : 3 * nc + 11 ≤ j) : ∀ {n : Nat}, (cy_pm S ns nc n).1 j = S j
  | 0 => rfl
  | n + 1 => by
    show cy_sMo (cy_pm S ns nc n).1 ns nc j = _
    unfold cy_sMo cy_mS
    rw [cy_un (by omega), cy_lm_h h, cy_se_n (by omega), cy_pm_h h]
theorem u_pass (ht : t ≤ 1000000) (h : Rel S M ns no nc mo t) (hfr : R_fr S M nc) : R_U cy_IA cy_IS (cy_tPa S x) (cq_Pa M x ns nc) ((cy_pm S ns nc x.toNatClampNeg).2) (cy_if (cy_tPa S x) (cy_nPa S ns nc x.toNatClampNeg) S) (t + 1) := by
  refine (s_pass ht h).up h hfr (cy_if_k (fun q => ?_)) (fun j hj => ?_)
  · unfold cy_nPa
    exact ⟨by rw [cy_us, pk_un (by decide), cy_pm_0 (by decide)], fun j h1 _ => by rw [cy_un (by omega), cy_pm_h h1]⟩
  · unfold cq_Pa
    split
    · rfl
    · split
      · show cq_pm (cq_rs M) ns nc x.toNatClampNeg 14 j = _
        rw [cq_pm_14 hj]
        rfl
      · rfl
theorem u_count (h : Rel S M ns no nc mo t) (hfr : R_fr S M nc) : R_U cy_IB cy_IB (cy_tCo x) (cq_Co M x ns nc) (cy_cnt S ns nc x.toNatClampNeg) (cy_if (cy_tCo x) S S) (t + 1) := by
  have q := s_count (x := x) h
  rw [cy_if_e] at q ⊢
  refine q.up h hfr ⟨rfl, fun j _ _ => rfl⟩ (fun j _ => ?_)
  unfold cq_Co
  split <;> rfl
theorem cq_fl_14 {S : Nat → Nat → Int32} {c j : Nat} (h : ∀ k, k < 5 → j ≠ 5 * c + k) : ∀ {n : Nat}, cq_fl S c n 14 j = S 14 j
  | 0 => rfl
  | n + 1 => by
    show cq_pc (cq_fl S c n) c _ 14 j = _
    rw [cq_pc_14 h, cq_fl_14 h]
theorem u_foresee (ht : t ≤ 1000000) (h : Rel S M ns no nc mo t) (hfr : R_fr S M nc) : R_U cy_IB cy_IA (cy_tFo S x y z nc) (cq_Fo M x y z nc) (cy_rFo S x.toNatClampNeg y.toNatClampNeg z.toNatClampNeg) (cy_if (cy_tFo S x y z nc) (cy_fe S x.toNatClampNeg y.toNatClampNeg) S) (t + 1) := by
  have h12 := h.1.2.2.1.2.2
  refine (s_foresee ht h).up h hfr (cy_if_k (fun q => ⟨by rw [cy_fe_n (by decide)], fun j _ h2 => cy_fe_n h2⟩)) (fun j hj => ?_)
  by_cases q : cq_in x 0 (nI nc - 1) = 0
  · unfold cq_Fo
    rw [if_pos q]
    rfl
  · obtain ⟨c, hc, rfl⟩ := cq_in_t (by omega) q
    unfold cq_Fo
    rw [if_neg q, nI_clamp (by omega)]
    split
    · rfl
    · split
      · rfl
      · split
        · split
          · rfl
          · show cq_nFo M c y.toNatClampNeg 14 j = _
            unfold cq_nFo
            rw [cy_un (by decide), cy_us, pk_cpy_out (by omega), cq_fl_14 (fun k hk => by omega)]
        · rfl
theorem u_blend (h : Rel S M ns no nc mo t) (hfr : R_fr S M nc) : R_U cy_IA cy_IB (cy_tBl x y) (cq_Bl M x y nc) (cy_fo S nc x nc 10 y.toNatClampNeg) (cy_if (cy_tBl x y) (cy_fo S nc x nc) S) (t + 1) := by
  obtain ⟨a1, a2, ns', no', nc', mo', a3⟩ := s_blend (x := x) (y := y) h
  refine R_F.up ⟨a1, a2, ns', no', nc', mo', a3⟩ h hfr (cy_if_k (fun _ => ⟨by rw [cy_fo_n (by decide)], fun j hj _ => cy_fo_n (by omega)⟩)) (fun j _ => ?_)
  unfold cq_Bl
  repeat' split
  all_goals rfl
theorem u_taste (h : Rel S M ns no nc mo t) (hfr : R_fr S M nc) : cy_rTa S nc = cq_rTa M nc ∧ R_I S (cq_rs M) (t + 1) :=
  ⟨s_taste h, ns, no, nc, mo, h.rs.mono (Nat.le_succ _), hfr.keep (fun _ _ _ => rfl) (fun _ _ => rfl)⟩
theorem u_digest (h : Rel S M ns no nc mo t) (hfr : R_fr S M nc) : cy_rDi S ns no nc = cq_rDi (cq_rs M) ns no nc ∧ R_I S (cq_rs M) (t + 1) :=
  ⟨s_digest h, ns, no, nc, mo, h.rs.mono (Nat.le_succ _), hfr.keep (fun _ _ _ => rfl) (fun _ _ => rfl)⟩
end Calls
theorem R_I.start : R_I cy_S0 cq_S0 0 := by
  refine ⟨0, 0, 0, 0, Rel.start, fun c _ hc => ⟨fun k h1 h2 => ?_, fun k hk => ?_, fun k hk => ⟨?_, rfl⟩⟩⟩
  · rw [cy_S0_0 (by omega)]
  · rw [cy_S0_0 (by omega)]
  · rw [cy_S0_0 (by omega)]
