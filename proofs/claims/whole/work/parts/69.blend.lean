/-! blend -/
theorem lN_div2 {a b : Nat} (ha : a < 2 ^ 62) (hb : b < 2 ^ 31) : lN a / lN b = lN (a / b) := by
  have q : a / b ≤ a := Nat.div_le_self _ _
  have e : ∀ n : Nat, n < 2 ^ 62 → (lN n).toInt = (n : Int) := fun n hn => by
    unfold lN
    rw [Int64.toInt_ofNat']
    have hs : Int64.size = 18446744073709551616 := rfl
    exact Int.bmod_eq_of_le (by omega) (by omega)
  refine Int64.toInt_inj.mp ?_
  rw [Int64.toInt_div, e a ha, e b (by omega), e _ (by omega), Int.tdiv_eq_ediv_of_nonneg (by omega), ← Int.natCast_ediv]
  generalize a / b = y at q
  exact Int.bmod_eq_of_le (by omega) (by omega)
/-- the taste of a cask's oak -/
theorem r_to {S M : Nat → Nat → Int32} {ns no nc mo t c : Nat} (h : Rel S M ns no nc mo t) (hc : c < nc) (h0 : ¬ cq_al M c = 0) : ∃ v, v ≤ 1000000 ∧ cq_to M c = lN v ∧ cy_rOak S c = nI v := by
  have hw := r_w h hc
  have eal := cq_al_n (h.hd c hc)
  have hal := r_al h hc
  have hg := h.2.2.2.2.1 c hc
  have hgS : S (3 * c + 11) 8 = M 15 c := by
    rcases (h.2.2.2.1 c hc).2 with ⟨-, -, q⟩ | ⟨-, -, q⟩
    · exact q.1.2.2.2.2.2.2
    · rw [q.1 8 (by decide) (by decide), q.2.2.2.1]
  have hgb : (M 15 c).toNatClampNeg < 2 ^ 31 := by
    have := Int32.toNatClampNeg_lt (M 15 c)
    omega
  generalize (M 15 c).toNatClampNeg = g at hg hgb
  have e1 : (M 15 c).toInt64 = lN g := by rw [hg]; exact nI_l hgb
  have e2 : cq_to M c = cy_mnL 1000000 (lN (g * 1000 / cq_hW M c)) := by
    unfold cq_to
    rw [e1, eal, nI_l (by omega), show (1000 : Int64) = lN 1000 from rfl, lN_mul, lN_div2 (by omega) (by omega)]
  have e3 : ∃ v, v ≤ 1000000 ∧ cq_to M c = lN v := by
    rw [e2]
    unfold cy_mnL
    split
    · next z =>
      have hb : g * 1000 / cq_hW M c ≤ g * 1000 := Nat.div_le_self _ _
      refine ⟨g * 1000 / cq_hW M c, ?_, rfl⟩
      generalize g * 1000 / cq_hW M c = y at z hb
      rw [Int64.lt_iff_toInt_lt] at z
      have e : (lN y).toInt = (y : Int) := by
        unfold lN
        rw [Int64.toInt_ofNat']
        have hs : Int64.size = 18446744073709551616 := rfl
        exact Int.bmod_eq_of_le (by omega) (by omega)
      have e4 : (1000000 : Int64).toInt = 1000000 := rfl
      omega
    · exact ⟨1000000, Nat.le_refl _, rfl⟩
  obtain ⟨v, hv, hv2⟩ := e3
  refine ⟨v, hv, hv2, ?_⟩
  unfold cy_rOak
  rw [hal, if_pos h0, hgS]
  have : cy_mnL 1000000 ((M 15 c).toInt64 * 1000 / (cq_al M c).toInt64) = lN v := hv2
  rw [this, lN_i]
theorem r_cb {S T M : Nat → Nat → Int32} {ns no nc mo t c : Nat} (h : Rel S M ns no nc mo t) (hc : c < nc) (hT : ∀ j, j ≠ 10 → T j = S j) : cy_rCan T c = cq_cb M c ∧ cy_rOak T c = cy_rOak S c := by
  have hal := r_al h hc
  have h4 := r_am h hc (k := 4) (by decide)
  have h2 := h.so c hc
  constructor
  · unfold cy_rCan cq_cb
    rw [hT _ (by omega), hT _ (by omega), hal, h4, h2]
  · unfold cy_rOak
    rw [hT _ (by omega), hT _ (by omega)]
def R_b (T : Nat → Nat → Int32) (B : Int64 × (Nat → Int32)) : Prop := (∀ k, k < 4 → T 10 k = B.2 k) ∧ ((T 10 0 = (-1) ∧ B.1 = (-1)) ∨ (¬ T 10 0 = (-1) ∧ ∃ D, D < 2 ^ 31 ∧ T 10 4 = nI D ∧ B.1 = lN D))
def cy_dN (m T : Nat) : Nat := if m ≤ T then T - m else m - T
theorem cy_ab_n {m T : Nat} (hm : m < 2 ^ 30) (hT : T < 2 ^ 30) : cy_ab (nI m - nI T) = nI (cy_dN m T) := by
  unfold cy_ab cy_dN
  by_cases q : m ≤ T
  · rw [if_pos q]
    by_cases z : m = T
    · subst z
      rw [pk_sub (Nat.le_refl _), if_pos (nI_pos' (by omega))]
    · have n := pk_sneg hT (show m < T by omega)
      rw [if_neg (Int32.not_le.mpr n)]
      refine Int32.toInt_inj.mp ?_
      rw [Int32.toInt_sub, pk_sub_toInt hm hT, nI_toInt (by omega)]
      have e0 : (0 : Int32).toInt = 0 := rfl
      rw [e0, Int.bmod_eq_of_le (by omega) (by omega)]
      omega
  · rw [if_neg q, pk_sub (by omega), if_pos (nI_pos' (by omega))]
theorem cy_abL_n {m T : Nat} (hm : m < 2 ^ 30) (hT : T < 2 ^ 30) : cy_abL (lN m - lN T) = lN (cy_dN m T) := by
  unfold cy_abL cy_dN
  have e0 : (0 : Int64).toInt = 0 := rfl
  have es : (lN m - lN T).toInt = (m : Int) - T := by
    rw [Int64.toInt_sub, lN_toInt (by omega), lN_toInt (by omega)]
    exact Int.bmod_eq_of_le (by omega) (by omega)
  by_cases q : m ≤ T
  · rw [if_pos q, if_neg (by rw [Int64.lt_iff_toInt_lt, es, e0]; omega)]
    refine Int64.toInt_inj.mp ?_
    rw [Int64.toInt_neg, es, lN_toInt (by omega), Int.bmod_eq_of_le (by omega) (by omega)]
    omega
  · rw [if_neg q, if_pos (by rw [Int64.lt_iff_toInt_lt, es, e0]; omega), lN_sub (by omega)]
/-- one blend is offered -/
theorem r_of {T M : Nat → Nat → Int32} {B : Int64 × (Nat → Int32)} {a b k va vb tg : Nat} (ha : a < 12) (hk : k < 9) (hva : va ≤ 1000000) (hvb : vb ≤ 1000000) (htg : tg ≤ 1000000) (eA : cq_to M a = lN va) (eB : cq_to M b = lN vb) (h : R_b T B) : R_b (cy_sOf T (nI a) (nI b) (nI (k + 1)) (cy_mi (nI va) (nI vb) (nI (k + 1))) (nI tg)) (if lg_cmp B.1 0 < 0 then cq_bu M (nI tg) a b k B.2 else if lg_cmp (cq_bt2 M (nI tg) a b k) B.1 < 0 then cq_bu M (nI tg) a b k B.2 else B) := by
  have p1 : (k + 1) * va ≤ 9 * 1000000 := Nat.mul_le_mul (by omega) hva
  have p2 : (10 - (k + 1)) * vb ≤ 9 * 1000000 := Nat.mul_le_mul (by omega) hvb
  have em : cy_mi (nI va) (nI vb) (nI (k + 1)) = nI (((k + 1) * va + (10 - (k + 1)) * vb) / 10) := by
    unfold cy_mi
    rw [show (10 : Int32) = nI 10 from rfl, pk_sub (by omega), pk_mul, pk_mul, nI_add, pk_div (by omega) (by decide) (by decide)]
  have eb1 : cq_bt1 M a b k = lN (((k + 1) * va + (10 - (k + 1)) * vb) / 10) := by
    unfold cq_bt1
    rw [eA, eB, show (10 : Int32) = nI 10 from rfl, pk_sub (by omega), nI_l (by omega), nI_l (by omega), lN_mul, lN_mul, lN_add, show (10 : Int64) = lN 10 from rfl, lN_div2 (by omega) (by decide)]
  have hm : ((k + 1) * va + (10 - (k + 1)) * vb) / 10 ≤ 1800000 := by omega
  generalize ((k + 1) * va + (10 - (k + 1)) * vb) / 10 = m at em eb1 hm
  have eb2 : cq_bt2 M (nI tg) a b k = lN (cy_dN m tg) := by
    unfold cq_bt2
    rw [eb1, nI_l (by omega)]
    exact cy_abL_n (by omega) (by omega)
  have ed : cy_ab (nI m - nI tg) = nI (cy_dN m tg) := cy_ab_n (by omega) (by omega)
  have hd : cy_dN m tg < 2 ^ 30 := by unfold cy_dN; split <;> omega
  have new : R_b (cy_bu T (nI a) (nI b) (nI (k + 1)) (nI m) (nI (cy_dN m tg))) (cq_bu M (nI tg) a b k B.2) := by
    unfold cy_bu cq_bu
    rw [eb1, eb2, lN_i]
    refine ⟨fun j hj => ?_, Or.inr ⟨?_, cy_dN m tg, by omega, ?_, rfl⟩⟩
    · have hj4 : j = 0 ∨ j = 1 ∨ j = 2 ∨ j = 3 := by omega
      rw [cy_us]
      rcases hj4 with rfl | rfl | rfl | rfl <;> rfl
    · rw [cy_us]
      exact cy_nm1 (by omega)
    · rw [cy_us]
      exact pk_us
  unfold cy_sOf
  rw [em, ed, eb2]
  obtain ⟨h1, h2⟩ := h
  rcases h2 with ⟨h2, h3⟩ | ⟨h2, D, hD, h3, h4⟩
  · rw [if_pos h2, h3, if_pos (by decide)]
    exact new
  · rw [if_neg h2, h3, h4]
    rw [if_neg (show ¬ lg_cmp (lN D) 0 < 0 from fun z => by
      have := (lg_cmp_lt _ _).mp z
      rw [show (0 : Int64) = lN 0 from rfl, lN_lt hD (by decide)] at this
      omega)]
    by_cases z : D ≤ cy_dN m tg
    · rw [if_pos ((nI_leI hD (by omega)).mpr z), if_neg (fun y => by
        have := (lg_cmp_lt _ _).mp y
        rw [lN_lt (by omega) hD] at this
        omega)]
      exact ⟨h1, Or.inr ⟨h2, D, hD, h3, h4⟩⟩
    · rw [if_neg (fun y => z ((nI_leI hD (by omega)).mp y)), if_pos ((lg_cmp_lt _ _).mpr ((lN_lt (by omega) hD).mpr (by omega)))]
      exact new
theorem r_bi {T M : Nat → Nat → Int32} {B : Int64 × (Nat → Int32)} {a b va vb tg : Nat} (ha : a < 12) (hva : va ≤ 1000000) (hvb : vb ≤ 1000000) (htg : tg ≤ 1000000) (eA : cq_to M a = lN va) (eB : cq_to M b = lN vb) (h : R_b T B) : ∀ {n : Nat}, n ≤ 9 → R_b (cy_ob T a b (nI va) (nI vb) (nI tg) n) (cq_bi M (nI tg) a b B n)
  | 0, _ => h
  | n + 1, hn => r_of ha (by omega) hva hvb htg eA eB (r_bi ha hva hvb htg eA eB h (n := n) (by omega))
theorem r_fi {S T M : Nat → Nat → Int32} {B : Int64 × (Nat → Int32)} {ns no nc mo t a tg : Nat} (h : Rel S M ns no nc mo t) (htg : tg ≤ 1000000) (ha : a < nc) (hT : ∀ j, j ≠ 10 → T j = S j) (hB : R_b T B) : ∀ {n : Nat}, a + 1 + n ≤ nc → R_b (cy_fi T a (nI tg) n) (cq_bB M (nI tg) a B n)
  | 0, _ => hB
  | n + 1, hn => by
    have h12 := h.1.2.2.1.2.2
    have ih := r_fi h htg ha hT hB (n := n) (by omega)
    have hT' : ∀ j, j ≠ 10 → cy_fi T a (nI tg) n j = S j := fun j hj => by rw [cy_fi_n hj]; exact hT j hj
    obtain ⟨c1, c2⟩ := r_cb (T := cy_fi T a (nI tg) n) h ha hT'
    obtain ⟨d1, d2⟩ := r_cb (T := cy_fi T a (nI tg) n) (c := a + 1 + n) h (by omega) hT'
    show R_b (cy_fi T a (nI tg) (n + 1)) (cq_bN M (nI tg) a (a + 1 + n) (cq_bB M (nI tg) a B n))
    unfold cy_fi cq_bN
    rw [c1, d1]
    by_cases z : cq_cb M a = 0
    · rw [if_pos z, if_pos z]; exact ih
    rw [if_neg z, if_neg z]
    by_cases z2 : cq_cb M (a + 1 + n) = 0
    · rw [if_pos z2, if_pos z2]; exact ih
    rw [if_neg z2, if_neg z2, c2, d2]
    obtain ⟨va, va1, va2, va3⟩ := r_to h ha (cq_cb_al z)
    obtain ⟨vb, vb1, vb2, vb3⟩ := r_to h (show a + 1 + n < nc by omega) (cq_cb_al z2)
    rw [va3, vb3]
    exact r_bi (by omega) va1 vb1 htg va2 vb2 ih (Nat.le_refl 9)
theorem r_fo {S M : Nat → Nat → Int32} {ns no nc mo t tg : Nat} (h : Rel S M ns no nc mo t) (htg : tg ≤ 1000000) : ∀ {n : Nat}, n ≤ nc → R_b (cy_fo S nc (nI tg) n) (cq_bA M (nI tg) nc n)
  | 0, _ => by
    show R_b (cy_sBc S) ((-1), upd (upd (upd (upd (fun _ => 0) 0 (-1)) 1 (-1)) 2 (-1)) 3 (-1))
    unfold cy_sBc
    refine ⟨fun j hj => ?_, Or.inl ⟨?_, rfl⟩⟩
    · have hj4 : j = 0 ∨ j = 1 ∨ j = 2 ∨ j = 3 := by omega
      rw [cy_us]
      rcases hj4 with rfl | rfl | rfl | rfl <;> rfl
    · rw [cy_us]; rfl
  | n + 1, hn => r_fi h htg (by omega) (fun j hj => cy_fo_n hj) (r_fo h htg (n := n) (by omega)) (by omega)
theorem s_blend {S M : Nat → Nat → Int32} {x y : Int32} {ns no nc mo t : Nat} (h : Rel S M ns no nc mo t) : cy_cd cy_IA cy_IB (cy_tBl x y) = (cq_Bl M x y nc).1 0 0 ∧ (cy_tBl x y = none → cy_fo S nc x nc 10 y.toNatClampNeg = (cq_Bl M x y nc).2) ∧ ∃ ns no nc' mo, Rel (cy_if (cy_tBl x y) (cy_fo S nc x nc) S) (cq_Bl M x y nc).1 ns no nc' mo (t + 1) := by
  have et : cy_tBl x y = if cq_in x 0 1000000 = 0 then some cy_IA else if cq_in y 0 3 = 0 then some cy_IB else none := by
    unfold cy_tBl
    rw [r_g2 (hi := 3) (by decide), r_g1]
  show R_F cy_IA cy_IB (cy_tBl x y) (cq_Bl M x y nc) (cy_fo S nc x nc 10 y.toNatClampNeg) (cy_if (cy_tBl x y) (cy_fo S nc x nc) S) (t + 1)
  by_cases h1 : cq_in x 0 1000000 = 0
  · exact r_bad h (E := cy_IA) (k := 1) (by rw [et, if_pos h1]) (by unfold cq_Bl; rw [if_pos h1]) rfl
  rw [if_neg h1] at et
  by_cases h2 : cq_in y 0 3 = 0
  · exact r_bad h (E := cy_IB) (k := 2) (by rw [et, if_pos h2]) (by unfold cq_Bl; rw [if_neg h1, if_pos h2]) rfl
  rw [if_neg h2] at et
  obtain ⟨g, hg, rfl⟩ := cq_in_l (n := 1000000) (by decide) h1
  obtain ⟨i, hi, rfl⟩ := cq_in_l (n := 3) (by decide) h2
  have ei : (nI i).toNatClampNeg = i := nI_clamp (by omega)
  have f : cq_Bl M (nI g) (nI i) nc = (cq_rs M, (cq_bA M (nI g) nc nc).2 i) := by
    unfold cq_Bl
    rw [if_neg h1, if_neg h2, ei]
  obtain ⟨q1, -⟩ := r_fo (tg := g) h (by omega) (Nat.le_refl nc)
  refine r_good (h.rs.scr (Nat.le_succ _) (fun j _ _ j10 => cy_fo_n j10) (fun _ _ _ => rfl) (fun _ _ _ => rfl)) et f rfl ?_
  rw [ei]
  exact q1 i (by omega)
