/-! the search: the fewest staves of each sum, both sides. The rows with names ts_ and wb_ are the kit's (laws/BITS.to-paste) -/
theorem ts_bit {w : Int64} {s : UInt64} {j : Nat} (hj : j < 64) (hs : s.toNat = j) : ((w.toUInt64 >>> s).toInt64 &&& 1) = 0 ↔ w.toBitVec.getLsbD j = false := by
  have e : (w.toUInt64 >>> s).toInt64.toBitVec = w.toBitVec >>> j := by
    apply BitVec.eq_of_toNat_eq
    show (w.toUInt64 >>> s).toNat = _
    rw [UInt64.toNat_shiftRight, hs, Nat.mod_eq_of_lt hj, BitVec.toNat_ushiftRight]
    rfl
  rw [← Int64.toBitVec_inj, Int64.toBitVec_and, e]
  show w.toBitVec >>> j &&& 1#64 = 0#64 ↔ _
  constructor
  · intro h
    have t := congrArg (fun x => x.getLsbD 0) h
    simpa using t
  · intro h
    apply BitVec.eq_of_getLsbD_eq
    intro i hi
    cases i with
    | zero => simp [h]
    | succ i => simp
theorem wb_tb (n : Nat) : (lN n).toBitVec = BitVec.ofNat 64 n := rfl
theorem wb_inj {a b : Int64} (h : a.toBitVec = b.toBitVec) : a = b := Int64.toBitVec_inj.mp h
theorem wb_c : ∀ k, k < 64 → ((nI k).toInt64 &&& 63) = lN k := by decide +kernel
theorem wb_cu : ∀ k, k < 64 → ((nI k).toInt64.toUInt64 &&& Int64.toUInt64 63) = UInt64.ofNat k := by decide +kernel
theorem wb_sm : ∀ k, k < 64 → (BitVec.ofNat 64 k).smod 64 = BitVec.ofNat 64 k := by decide +kernel
theorem wb_shl (n : Nat) {k : Nat} (hk : k < 64) : lN n <<< ((nI k).toInt64 &&& 63) = lN (n * 2 ^ k) := by
  rw [wb_c k hk]
  apply wb_inj
  rw [Int64.toBitVec_shiftLeft, wb_tb, wb_tb, wb_tb, wb_sm k hk]
  apply BitVec.eq_of_toNat_eq
  rw [BitVec.shiftLeft_eq', BitVec.toNat_shiftLeft, BitVec.toNat_ofNat, BitVec.toNat_ofNat, BitVec.toNat_ofNat, Nat.mod_eq_of_lt (show k < 2 ^ 64 by omega), Nat.shiftLeft_eq, Nat.mul_mod, Nat.mod_mod, ← Nat.mul_mod]
theorem cz_in {z : Int64} {i : Nat} (hi : i < 64) : cy_in z i = 0 ↔ z.toBitVec.getLsbD i = false := by
  have hs : ((nI i).toInt64.toUInt64 &&& Int64.toUInt64 63).toNat = i := by
    rw [wb_cu i hi]
    show (BitVec.ofNat 64 i).toNat = i
    rw [BitVec.toNat_ofNat, Nat.mod_eq_of_lt (by omega)]
  rw [← ts_bit hi hs, ← lg_cmp_eq]
  unfold cy_in
  constructor
  · intro h
    split at h
    · assumption
    · exact absurd h (by decide)
  · intro h
    rw [if_pos h]
theorem cz_or {z : Int64} {i j : Nat} (hi : i < 64) (hj : j < 64) : (z ||| (1 <<< ((nI i).toInt64 &&& 63))).toBitVec.getLsbD j = (z.toBitVec.getLsbD j || decide (i = j)) := by
  rw [show (1 : Int64) = lN 1 from rfl, wb_shl 1 hi, Int64.toBitVec_or, BitVec.getLsbD_or, wb_tb, BitVec.getLsbD_ofNat, Nat.one_mul, Nat.testBit_two_pow]
  simp [hj]
def R_dp (S : Nat → Nat → Int32) (ns : Nat) : Nat → Nat → Nat
  | 0, k => if k = 0 then 0 else 1000
  | t + 1, k => if cy_rUs S (ns - 1 - t) = 0 then R_dp S ns t k else if k < cq_wd S (ns - 1 - t) then R_dp S ns t k else if R_dp S ns t k < R_dp S ns t (k - cq_wd S (ns - 1 - t)) + 1 then R_dp S ns t k else R_dp S ns t (k - cq_wd S (ns - 1 - t)) + 1
def R_bt (S : Nat → Nat → Int32) (ns : Nat) : Nat → Nat → Nat → Bool
  | 0, _, _ => false
  | t + 1, k, i => if cy_rUs S (ns - 1 - t) = 0 then R_bt S ns t k i else if k < cq_wd S (ns - 1 - t) then R_bt S ns t k i else if R_dp S ns t k < R_dp S ns t (k - cq_wd S (ns - 1 - t)) + 1 then R_bt S ns t k i else (R_bt S ns t (k - cq_wd S (ns - 1 - t)) i || decide (ns - 1 - t = i))
theorem R_dp_1 {S : Nat → Nat → Int32} {ns t k : Nat} : R_dp S ns (t + 1) k = if cy_rUs S (ns - 1 - t) = 0 then R_dp S ns t k else if k < cq_wd S (ns - 1 - t) then R_dp S ns t k else if R_dp S ns t k < R_dp S ns t (k - cq_wd S (ns - 1 - t)) + 1 then R_dp S ns t k else R_dp S ns t (k - cq_wd S (ns - 1 - t)) + 1 := rfl
theorem R_dp_b {S : Nat → Nat → Int32} {ns : Nat} : ∀ {t k : Nat}, t ≤ 60 → R_dp S ns t k = 1000 ∨ R_dp S ns t k ≤ t
  | 0, k, _ => by
    unfold R_dp
    split
    · exact Or.inr (Nat.le_refl _)
    · exact Or.inl rfl
  | t + 1, k, ht => by
    have a := R_dp_b (S := S) (ns := ns) (t := t) (k := k) (by omega)
    have b := R_dp_b (S := S) (ns := ns) (t := t) (k := k - cq_wd S (ns - 1 - t)) (by omega)
    unfold R_dp
    split
    · omega
    · split
      · omega
      · split <;> omega
theorem R_bt_r {S : Nat → Nat → Int32} {ns : Nat} : ∀ {t k i : Nat}, t ≤ ns → R_bt S ns t k i = true → ns - t ≤ i ∧ i < ns
  | 0, k, i, _, h => by
    unfold R_bt at h
    exact absurd h (by decide)
  | t + 1, k, i, ht, h => by
    have w : ∀ k', R_bt S ns t k' i = true → ns - (t + 1) ≤ i ∧ i < ns := fun k' h' => by
      have := R_bt_r (S := S) (ns := ns) (t := t) (k := k') (i := i) (by omega) h'
      omega
    unfold R_bt at h
    split at h
    · exact w _ h
    · split at h
      · exact w _ h
      · split at h
        · exact w _ h
        · rcases Bool.or_eq_true_iff.mp h with h | h
          · exact w _ h
          · have := of_decide_eq_true h
            omega
/-- a stave is added to the sets -/
theorem r_ad {f : Nat → Int32} {Z : Nat → Int64} {w i m : Nat} (hw : 1 ≤ w) : ∀ {t : Nat}, t ≤ m + 1 - w → (∀ k, (cy_ad f Z w i m t).1 k = if (m < k + t ∧ k ≤ m) ∧ ¬ f k < f (k - w) + 1 then f (k - w) + 1 else f k) ∧ ∀ k, (cy_ad f Z w i m t).2 k = if (m < k + t ∧ k ≤ m) ∧ ¬ f k < f (k - w) + 1 then Z (k - w) ||| (1 <<< ((nI i).toInt64 &&& 63)) else Z k
  | 0, _ => ⟨fun k => by rw [if_neg (fun h => by omega)]; rfl, fun k => by rw [if_neg (fun h => by omega)]; rfl⟩
  | t + 1, ht => by
    obtain ⟨i1, i2⟩ := r_ad (f := f) (Z := Z) (w := w) (i := i) (m := m) hw (t := t) (by omega)
    have a1 : (cy_ad f Z w i m t).1 (m - t) = f (m - t) := by rw [i1, if_neg (fun h => by omega)]
    have a2 : (cy_ad f Z w i m t).1 (m - t - w) = f (m - t - w) := by rw [i1, if_neg (fun h => by omega)]
    have a3 : (cy_ad f Z w i m t).2 (m - t - w) = Z (m - t - w) := by rw [i2, if_neg (fun h => by omega)]
    unfold cy_ad
    rw [a1, a2, a3]
    by_cases q : f (m - t) < f (m - t - w) + 1
    · rw [if_pos q]
      refine ⟨fun k => ?_, fun k => ?_⟩
      · rw [i1]
        by_cases e : k = m - t
        · subst e
          rw [if_neg (fun h => h.2 q), if_neg (fun h => h.2 q)]
        · by_cases z : (m < k + t ∧ k ≤ m) ∧ ¬ f k < f (k - w) + 1
          · rw [if_pos z, if_pos ⟨⟨by omega, z.1.2⟩, z.2⟩]
          · rw [if_neg z, if_neg (fun h => z ⟨⟨by omega, h.1.2⟩, h.2⟩)]
      · rw [i2]
        by_cases e : k = m - t
        · subst e
          rw [if_neg (fun h => h.2 q), if_neg (fun h => h.2 q)]
        · by_cases z : (m < k + t ∧ k ≤ m) ∧ ¬ f k < f (k - w) + 1
          · rw [if_pos z, if_pos ⟨⟨by omega, z.1.2⟩, z.2⟩]
          · rw [if_neg z, if_neg (fun h => z ⟨⟨by omega, h.1.2⟩, h.2⟩)]
    · rw [if_neg q]
      refine ⟨fun k => ?_, fun k => ?_⟩
      · show upd _ (m - t) _ k = _
        by_cases e : k = m - t
        · subst e
          rw [pk_us, if_pos ⟨⟨by omega, by omega⟩, q⟩]
        · rw [pk_un e, i1]
          by_cases z : (m < k + t ∧ k ≤ m) ∧ ¬ f k < f (k - w) + 1
          · rw [if_pos z, if_pos ⟨⟨by omega, z.1.2⟩, z.2⟩]
          · rw [if_neg z, if_neg (fun h => z ⟨⟨by omega, h.1.2⟩, h.2⟩)]
      · show vp_updL _ (m - t) _ k = _
        by_cases e : k = m - t
        · subst e
          rw [pk_uLs, if_pos ⟨⟨by omega, by omega⟩, q⟩]
        · rw [pk_uLn e, i2]
          by_cases z : (m < k + t ∧ k ≤ m) ∧ ¬ f k < f (k - w) + 1
          · rw [if_pos z, if_pos ⟨⟨by omega, z.1.2⟩, z.2⟩]
          · rw [if_neg z, if_neg (fun h => z ⟨⟨by omega, h.1.2⟩, h.2⟩)]
/-- the class's table -/
theorem r_fs {S : Nat → Nat → Int32} {Z : Nat → Int64} {ns m : Nat} (h60 : ns ≤ 60) (hm : m < 1505) (hm2 : 120 ≤ m) (hwd : ∀ i, i < ns → 1 ≤ cq_wd S i ∧ cq_wd S i ≤ 120) : ∀ {t : Nat}, t ≤ ns → (∀ k, k ≤ m → (cy_fs S ns m (cy_f0 S) (cy_Z0 Z) t).1 k = nI (R_dp S ns t k)) ∧ ∀ k, k ≤ m → (R_dp S ns t k = 1000 → (cy_fs S ns m (cy_f0 S) (cy_Z0 Z) t).2 k = (-1)) ∧ (R_dp S ns t k ≠ 1000 → ∀ i, i < 64 → ((cy_fs S ns m (cy_f0 S) (cy_Z0 Z) t).2 k).toBitVec.getLsbD i = R_bt S ns t k i)
  | 0, _ => by
    refine ⟨fun k hk => ?_, fun k hk => ?_⟩
    · show cy_f0 S k = nI (if k = 0 then 0 else 1000)
      unfold cy_f0
      by_cases e : k = 0
      · subst e
        rw [pk_us, if_pos rfl]
        rfl
      · rw [pk_un e, if_neg e]
        exact if_pos (by omega)
    · show ((if k = 0 then 0 else 1000) = 1000 → cy_Z0 Z k = (-1)) ∧ ((if k = 0 then 0 else 1000) ≠ 1000 → ∀ i, i < 64 → (cy_Z0 Z k).toBitVec.getLsbD i = false)
      unfold cy_Z0
      by_cases e : k = 0
      · subst e
        rw [if_pos rfl]
        refine ⟨fun q => absurd q (by decide), fun _ i _ => ?_⟩
        rw [pk_uLs]
        show (0#64).getLsbD i = false
        simp
      · rw [if_neg e]
        refine ⟨fun _ => ?_, fun q => absurd rfl q⟩
        rw [pk_uLn e]
        exact if_pos (by omega)
  | t + 1, ht => by
    obtain ⟨i1, i2⟩ := r_fs (Z := Z) h60 hm hm2 hwd (t := t) (by omega)
    obtain ⟨w1, w2⟩ := hwd (ns - 1 - t) (by omega)
    show (∀ k, k ≤ m → (cy_fs S ns m (cy_f0 S) (cy_Z0 Z) (t + 1)).1 k = _) ∧ ∀ k, k ≤ m → _
    unfold cy_fs R_dp R_bt
    generalize cy_fs S ns m (cy_f0 S) (cy_Z0 Z) t = P at i1 i2
    by_cases hu : cy_rUs S (ns - 1 - t) = 0
    · simp only [if_pos hu]
      exact ⟨i1, i2⟩
    simp only [if_neg hu]
    change (∀ k, k ≤ m → (cy_ad P.1 P.2 (cq_wd S (ns - 1 - t)) (ns - 1 - t) m (m + 1 - cq_wd S (ns - 1 - t))).1 k = _) ∧ ∀ k, k ≤ m → (_ → (cy_ad P.1 P.2 (cq_wd S (ns - 1 - t)) (ns - 1 - t) m (m + 1 - cq_wd S (ns - 1 - t))).2 k = _) ∧ (_ → ∀ i, i < 64 → ((cy_ad P.1 P.2 (cq_wd S (ns - 1 - t)) (ns - 1 - t) m (m + 1 - cq_wd S (ns - 1 - t))).2 k).toBitVec.getLsbD i = _)
    generalize hw : cq_wd S (ns - 1 - t) = w at w1 w2
    obtain ⟨a1, a2⟩ := r_ad (f := P.1) (Z := P.2) (w := w) (i := ns - 1 - t) (m := m) w1 (Nat.le_refl _)
    have cnd : ∀ k, k ≤ m → w ≤ k → (P.1 k < P.1 (k - w) + 1 ↔ R_dp S ns t k < R_dp S ns t (k - w) + 1) := fun k hk hwk => by
      have b1 := R_dp_b (S := S) (ns := ns) (t := t) (k := k) (by omega)
      have b2 := R_dp_b (S := S) (ns := ns) (t := t) (k := k - w) (by omega)
      rw [i1 k hk, i1 (k - w) (by omega), nI_1]
      exact nI_ltI (by omega) (by omega)
    refine ⟨fun k hk => ?_, fun k hk => ?_⟩
    · rw [a1]
      by_cases z : k < w
      · rw [if_neg (fun h => by omega), if_pos z]
        exact i1 k hk
      · rw [if_neg z]
        have c := cnd k hk (by omega)
        by_cases y : R_dp S ns t k < R_dp S ns t (k - w) + 1
        · rw [if_neg (fun h => h.2 (c.mpr y)), if_pos y]
          exact i1 k hk
        · rw [if_pos ⟨⟨by omega, hk⟩, fun h => y (c.mp h)⟩, if_neg y, i1 (k - w) (by omega), nI_1]
    · rw [a2]
      by_cases z : k < w
      · have cz : ¬ ((m < k + (m + 1 - w) ∧ k ≤ m) ∧ ¬ P.1 k < P.1 (k - w) + 1) := fun h => by omega
        rw [if_neg cz]
        simp only [if_pos z]
        exact i2 k hk
      · simp only [if_neg z]
        have c := cnd k hk (by omega)
        by_cases y : R_dp S ns t k < R_dp S ns t (k - w) + 1
        · have cz : ¬ ((m < k + (m + 1 - w) ∧ k ≤ m) ∧ ¬ P.1 k < P.1 (k - w) + 1) := fun h => h.2 (c.mpr y)
          rw [if_neg cz]
          simp only [if_pos y]
          exact i2 k hk
        · have cz : (m < k + (m + 1 - w) ∧ k ≤ m) ∧ ¬ P.1 k < P.1 (k - w) + 1 := ⟨⟨by omega, hk⟩, fun h => y (c.mp h)⟩
          rw [if_pos cz]
          simp only [if_neg y]
          have b1 := R_dp_b (S := S) (ns := ns) (t := t) (k := k) (by omega)
          have b2 := R_dp_b (S := S) (ns := ns) (t := t) (k := k - w) (by omega)
          refine ⟨fun q => by omega, fun _ i hi => ?_⟩
          rw [cz_or (by omega) hi, (i2 (k - w) (by omega)).2 (by omega) i hi]
/-! the reference's table -/
theorem r_f1 {f : Nat → Int32} {b : Nat} : ∀ {n : Nat}, n < 2 ^ 31 → ∀ k, k < n → cq_f1 f b n (b + k) = nI (if k = 0 then 0 else 1000)
  | 0, _, k, h => absurd h (Nat.not_lt_zero _)
  | n + 1, hn, k, h => by
    unfold cq_f1
    by_cases e : k = n
    · subst e
      rw [pk_us]
      by_cases z : k = 0
      · subst z; rfl
      · rw [if_neg (nI_ne0 (by omega) (by omega)), if_neg z]
        rfl
    · rw [pk_un (by omega)]
      exact r_f1 (by omega) k (by omega)
theorem r_f2 {S : Nat → Nat → Int32} {f : Nat → Int32} {s : Nat} : ∀ {n : Nat}, n ≤ 1505 → (∀ k, k < n → cq_f2 S f s n (s * 1505 + k) = cy_mn (f ((s + 1) * 1505 + k)) (cq_wi S f s k)) ∧ ∀ j, (s + 1) * 1505 ≤ j → cq_f2 S f s n j = f j
  | 0, _ => ⟨fun k h => absurd h (Nat.not_lt_zero _), fun _ _ => rfl⟩
  | n + 1, hn => by
    obtain ⟨i1, i2⟩ := r_f2 (S := S) (f := f) (s := s) (n := n) (by omega)
    have ewi : cq_wi S (cq_f2 S f s n) s n = cq_wi S f s n := by
      unfold cq_wi
      split
      · rfl
      · split
        · rfl
        · next q =>
          by_cases z : cq_wd S s ≤ n
          · rw [i2 _ (by omega)]
          · by_cases y : cq_wd S s < 2 ^ 31
            · exact absurd (nI_lt (by omega) y) q
            · exfalso
              have := Int32.toNatClampNeg_lt (S 1 s)
              unfold cq_wd at y
              omega
    unfold cq_f2
    rw [ewi, i2 _ (by omega)]
    refine ⟨fun k hk => ?_, fun j hj => ?_⟩
    · by_cases e : k = n
      · subst e; exact pk_us
      · rw [pk_un (by omega)]
        exact i1 k (by omega)
    · rw [pk_un (by omega)]
      exact i2 j hj
theorem r_f3 {S : Nat → Nat → Int32} {f : Nat → Int32} {ns : Nat} (h60 : ns ≤ 60) (hf : ∀ k, k < 1505 → f (ns * 1505 + k) = nI (if k = 0 then 0 else 1000)) : ∀ {t : Nat}, t ≤ ns → ∀ r, ns - t ≤ r → r ≤ ns → ∀ k, k < 1505 → cq_f3 S f ns t (r * 1505 + k) = nI (R_dp S ns (ns - r) k)
  | 0, _, r, h1, h2, k, hk => by
    have : r = ns := by omega
    subst this
    rw [Nat.sub_self]
    exact hf k hk
  | t + 1, ht, r, h1, h2, k, hk => by
    obtain ⟨g1, g2⟩ := r_f2 (S := S) (f := cq_f3 S f ns t) (s := ns - 1 - t) (Nat.le_refl 1505)
    show cq_f2 S (cq_f3 S f ns t) (ns - 1 - t) 1505 (r * 1505 + k) = _
    by_cases e : r = ns - 1 - t
    · have er : ns - r = t + 1 := by omega
      have ih := r_f3 (S := S) h60 hf (t := t) (by omega) (ns - 1 - t + 1) (by omega) (by omega)
      rw [show ns - (ns - 1 - t + 1) = t by omega] at ih
      rw [er]
      subst e
      rw [g1 k hk, ih k hk]
      rw [R_dp_1]
      unfold cq_wi
      have b1 := R_dp_b (S := S) (ns := ns) (t := t) (k := k) (by omega)
      by_cases hu : cy_rUs S (ns - 1 - t) = 0
      · rw [if_pos hu, if_pos hu]
        refine (cy_mn_n (b := 1000) (by omega) (by decide)).trans ?_
        congr 1
        omega
      · rw [if_neg hu, if_neg hu]
        by_cases z : k < cq_wd S (ns - 1 - t)
        · have wl : cq_wd S (ns - 1 - t) < 2 ^ 31 := by
            have := Int32.toNatClampNeg_lt (S 1 (ns - 1 - t))
            unfold cq_wd
            omega
          rw [if_pos (nI_lt z wl), if_pos z]
          refine (cy_mn_n (b := 1000) (by omega) (by decide)).trans ?_
          congr 1
          omega
        · rw [if_neg (fun q => z (cy_lt (by omega) (by
            have := Int32.toNatClampNeg_lt (S 1 (ns - 1 - t))
            unfold cq_wd
            omega) q)), if_neg z]
          have b2 := R_dp_b (S := S) (ns := ns) (t := t) (k := k - cq_wd S (ns - 1 - t)) (by omega)
          rw [show (ns - 1 - t + 1) * 1505 + k - cq_wd S (ns - 1 - t) = (ns - 1 - t + 1) * 1505 + (k - cq_wd S (ns - 1 - t)) by omega, ih _ (by omega), nI_1, cy_mn_n (by omega) (by omega)]
          congr 1
          split <;> omega
    · rw [g2 _ (Nat.le_trans (Nat.mul_le_mul_right _ (show ns - 1 - t + 1 ≤ r by omega)) (Nat.le_add_right _ _))]
      exact r_f3 h60 hf (t := t) (by omega) r (by omega) h2 k hk
theorem r_F {S : Nat → Nat → Int32} {ns : Nat} (h60 : ns ≤ 60) {r k : Nat} (h : r ≤ ns) (hk : k < 1505) : cq_F S ns (r * 1505 + k) = nI (R_dp S ns (ns - r) k) :=
  r_f3 h60 (fun k hk => r_f1 (by decide) k hk) (Nat.le_refl ns) r (by omega) h k hk
theorem R_dp_c {S M : Nat → Nat → Int32} {ns : Nat} (h : ∀ i, i < ns → cy_rUs S i = cy_rUs M i ∧ S 1 i = M 1 i) : ∀ {t : Nat}, t ≤ ns → ∀ k, R_dp S ns t k = R_dp M ns t k
  | 0, _, _ => rfl
  | t + 1, ht, k => by
    obtain ⟨a, b⟩ := h (ns - 1 - t) (by omega)
    have w : cq_wd S (ns - 1 - t) = cq_wd M (ns - 1 - t) := by unfold cq_wd; rw [b]
    rw [R_dp_1, R_dp_1, a, w, R_dp_c h (t := t) (by omega), R_dp_c h (t := t) (by omega)]
