/-! the reference's racking: parts, then units one by one -/
def cq_hN (S : Nat → Nat → Int32) (c k : Nat) : Nat := (S 14 (5 * c + k)).toNatClampNeg
def cq_hW (S : Nat → Nat → Int32) (c : Nat) : Nat := cq_hN S c 0 + cq_hN S c 1 + cq_hN S c 2 + cq_hN S c 3 + cq_hN S c 4
def cq_rp (S : Nat → Nat → Int32) (c : Nat) (z : Int32) (k : Nat) : Int32 := (((S 14 (5 * c + k)).toInt64 * z.toInt64) / (cq_al S c).toInt64).toInt32
def cq_rf (S : Nat → Nat → Int32) (c : Nat) (z : Int32) : Nat → (Nat → Int32) × Int32
  | 0 => (fun _ => 0, z)
  | k + 1 => (upd (cq_rf S c z k).1 k (cq_rp S c z k), (cq_rf S c z k).2 - cq_rp S c z k)
def cq_pN (S : Nat → Nat → Int32) (c u k : Nat) : Nat := cq_hN S c k * u / cq_hW S c
def cq_L0 (S : Nat → Nat → Int32) (c u : Nat) : Nat := u - (cq_pN S c u 0 + cq_pN S c u 1 + cq_pN S c u 2 + cq_pN S c u 3 + cq_pN S c u 4)
def cq_s0 (S : Nat → Nat → Int32) (c u : Nat) : (Nat → Int32) × Nat := ((cq_rf S c (nI u) 5).1, cq_L0 S c u)
def cq_rd (S : Nat → Nat → Int32) (c : Nat) (s : (Nat → Int32) × Nat) : Nat → (Nat → Int32) × Nat
  | 0 => s
  | k + 1 => if (cq_rd S c s k).2 = 0 then cq_rd S c s k else if S 14 (5 * c + k) = (cq_rd S c s k).1 k then cq_rd S c s k else (upd (cq_rd S c s k).1 k ((cq_rd S c s k).1 k + 1), (cq_rd S c s k).2 - 1)
def cq_rr (S : Nat → Nat → Int32) (c u : Nat) : Nat → (Nat → Int32) × Nat
  | 0 => cq_s0 S c u
  | r + 1 => cq_rd S c (cq_rr S c u r) 5
def cq_rF (S : Nat → Nat → Int32) (c u : Nat) : (Nat → Int32) × Nat := cq_rr S c u (cq_L0 S c u)
def cq_I (S : Nat → Nat → Int32) (c u : Nat) (s : (Nat → Int32) × Nat) : Prop := ∃ P : Nat → Nat, (∀ k, k < 5 → s.1 k = nI (P k) ∧ P k ≤ cq_hN S c k) ∧ P 0 + P 1 + P 2 + P 3 + P 4 + s.2 = u
def cq_hH (S : Nat → Nat → Int32) (c : Nat) : Prop := ∀ k, k < 5 → cq_hN S c k ≤ 60000 ∧ S 14 (5 * c + k) = nI (cq_hN S c k)
theorem cy_dvn {a b w : Nat} (ha : a ≤ 100000000) (hb : b ≤ 60000) (hw : w ≤ 300000) : (((nI a).toInt64 * (nI b).toInt64) / (nI w).toInt64).toInt32 = nI (a * b / w) := by
  have p1 : a * b ≤ 100000000 * 60000 := Nat.mul_le_mul ha hb
  have p2 : a * b / w ≤ a * b := Nat.div_le_self _ _
  have ea : (nI a).toInt64.toInt = (a : Int) := by rw [Int32.toInt_toInt64, nI_toInt (by omega)]
  have eb : (nI b).toInt64.toInt = (b : Int) := by rw [Int32.toInt_toInt64, nI_toInt (by omega)]
  have ew : (nI w).toInt64.toInt = (w : Int) := by rw [Int32.toInt_toInt64, nI_toInt (by omega)]
  have em : ((nI a).toInt64 * (nI b).toInt64).toInt = ((a * b : Nat) : Int) := by
    rw [Int64.toInt_mul, ea, eb, ← Int.natCast_mul]
    generalize a * b = x at p1
    exact Int.bmod_eq_of_le (by omega) (by omega)
  have ed : (((nI a).toInt64 * (nI b).toInt64) / (nI w).toInt64).toInt = ((a * b / w : Nat) : Int) := by
    rw [Int64.toInt_div, em, ew, Int.tdiv_eq_ediv_of_nonneg (by omega), ← Int.natCast_ediv]
    generalize a * b / w = y at p2
    generalize a * b = x at p1 p2
    exact Int.bmod_eq_of_le (by omega) (by omega)
  refine Int32.toInt_inj.mp ?_
  rw [Int64.toInt_toInt32, ed]
  generalize a * b / w = y
  unfold nI
  first | exact (Int32.toInt_ofNat' ).symm | rfl | (simp; done) | (rw [Int32.toInt_ofNat_eq_bmod]; done)
theorem cq_al_n {S : Nat → Nat → Int32} {c : Nat} (h : cq_hH S c) : cq_al S c = nI (cq_hW S c) := by
  have e0 := (h 0 (by decide)).2
  have e1 := (h 1 (by decide)).2
  have e2 := (h 2 (by decide)).2
  have e3 := (h 3 (by decide)).2
  have e4 := (h 4 (by decide)).2
  show (((((0 : Int32) + S 14 (5 * c + 0)) + S 14 (5 * c + 1)) + S 14 (5 * c + 2)) + S 14 (5 * c + 3)) + S 14 (5 * c + 4) = _
  rw [e0, e1, e2, e3, e4]
  unfold cq_hW
  rw [show (0 : Int32) = nI 0 from rfl, nI_add, nI_add, nI_add, nI_add, nI_add, Nat.zero_add]
theorem cq_rd_mono {S : Nat → Nat → Int32} {c : Nat} {s : (Nat → Int32) × Nat} : ∀ {k : Nat}, (cq_rd S c s k).2 ≤ s.2
  | 0 => Nat.le_refl _
  | k + 1 => by
    have h := cq_rd_mono (S := S) (c := c) (s := s) (k := k)
    unfold cq_rd
    split
    · exact h
    · split
      · exact h
      · show (cq_rd S c s k).2 - 1 ≤ _
        omega
theorem cq_rd_same {S : Nat → Nat → Int32} {c : Nat} {s : (Nat → Int32) × Nat} (h0 : 0 < s.2) : ∀ {k : Nat}, (cq_rd S c s k).2 = s.2 → cq_rd S c s k = s ∧ ∀ j, j < k → S 14 (5 * c + j) = s.1 j
  | 0, _ => ⟨rfl, fun j hj => absurd hj (Nat.not_lt_zero _)⟩
  | k + 1, h => by
    have hm := cq_rd_mono (S := S) (c := c) (s := s) (k := k)
    unfold cq_rd at h ⊢
    split at h
    · next q => omega
    · next q =>
      rw [if_neg q]
      split at h
      · next q2 =>
        rw [if_pos q2]
        obtain ⟨e, g⟩ := cq_rd_same h0 h
        refine ⟨e, fun j hj => ?_⟩
        rcases Nat.lt_or_ge j k with a | a
        · exact g j a
        · have : j = k := by omega
          subst this
          rw [e] at q2
          exact q2
      · exfalso
        have : (cq_rd S c s k).2 - 1 = s.2 := h
        omega
theorem cq_rd_stop {S : Nat → Nat → Int32} {c : Nat} {s : (Nat → Int32) × Nat} {k : Nat} (h : (cq_rd S c s k).2 = 0) : ∀ j, cq_rd S c s (k + j) = cq_rd S c s k
  | 0 => rfl
  | j + 1 => by
    have q := cq_rd_stop h j
    have h2 : (cq_rd S c s (k + j)).2 = 0 := by rw [q]; exact h
    exact (if_pos h2).trans q
theorem cq_rd_I {S : Nat → Nat → Int32} {c u : Nat} {s : (Nat → Int32) × Nat} (hH : cq_hH S c) (hI : cq_I S c u s) : ∀ {k : Nat}, k ≤ 5 → cq_I S c u (cq_rd S c s k)
  | 0, _ => hI
  | k + 1, hk => by
    have h := cq_rd_I hH hI (k := k) (by omega)
    unfold cq_rd
    split
    · exact h
    · next q =>
      split
      · exact h
      · next q2 =>
        obtain ⟨P, hP, hs⟩ := h
        have hpk := hP k (by omega)
        have hhk := hH k (by omega)
        have hlt : P k < cq_hN S c k := by
          rcases Nat.lt_or_ge (P k) (cq_hN S c k) with a | a
          · exact a
          · refine absurd ?_ q2
            rw [hpk.1, hhk.2, show P k = cq_hN S c k from Nat.le_antisymm hpk.2 a]
        refine ⟨fun j => if j = k then P k + 1 else P j, fun j hj => ?_, ?_⟩
        · by_cases e : j = k
          · subst e
            simp only [if_pos rfl]
            refine ⟨?_, hlt⟩
            show upd _ j _ j = _
            rw [pk_us, hpk.1]
            exact (nI_1 _)
          · simp only [if_neg e]
            refine ⟨?_, (hP j hj).2⟩
            show upd _ k _ j = _
            rw [pk_un e]
            exact (hP j hj).1
        · show _ + ((cq_rd S c s k).2 - 1) = u
          have hk5 : k = 0 ∨ k = 1 ∨ k = 2 ∨ k = 3 ∨ k = 4 := by omega
          rcases hk5 with rfl | rfl | rfl | rfl | rfl <;> simp <;> omega
theorem cq_rd_lt {S : Nat → Nat → Int32} {c u : Nat} {s : (Nat → Int32) × Nat} (hH : cq_hH S c) (hu : u ≤ cq_hW S c) (hI : cq_I S c u s) (h0 : 0 < s.2) : (cq_rd S c s 5).2 < s.2 := by
  have hm := cq_rd_mono (S := S) (c := c) (s := s) (k := 5)
  rcases Nat.lt_or_ge (cq_rd S c s 5).2 s.2 with a | a
  · exact a
  · exfalso
    obtain ⟨-, g⟩ := cq_rd_same (S := S) (c := c) (s := s) h0 (k := 5) (Nat.le_antisymm hm a)
    obtain ⟨P, hP, hs⟩ := hI
    have e : ∀ k, k < 5 → P k = cq_hN S c k := fun k hk => by
      have h1 := g k hk
      rw [(hP k hk).1, (hH k hk).2] at h1
      have := (hH k hk).1
      have := (hP k hk).2
      exact (cy_eq (by omega) (by omega) h1).symm
    have e0 := e 0 (by decide)
    have e1 := e 1 (by decide)
    have e2 := e 2 (by decide)
    have e3 := e 3 (by decide)
    have e4 := e 4 (by decide)
    unfold cq_hW at hu
    omega
theorem cq_pN_le {S : Nat → Nat → Int32} {c u k : Nat} (hu : u ≤ cq_hW S c) : cq_pN S c u k ≤ cq_hN S c k := by
  unfold cq_pN
  rcases Nat.eq_zero_or_pos (cq_hW S c) with e | e
  · rw [e, Nat.div_zero]; exact Nat.zero_le _
  · exact Nat.div_le_of_le_mul (by rw [Nat.mul_comm (cq_hW S c)]; exact Nat.mul_le_mul_left _ hu)
theorem cq_pN_sum {S : Nat → Nat → Int32} {c u : Nat} (h1 : 1 ≤ u) (hu : u ≤ cq_hW S c) : cq_pN S c u 0 + cq_pN S c u 1 + cq_pN S c u 2 + cq_pN S c u 3 + cq_pN S c u 4 ≤ u := by
  have hW : 0 < cq_hW S c := by omega
  refine Nat.le_of_mul_le_mul_right ?_ hW
  have g : ∀ k, cq_pN S c u k * cq_hW S c ≤ cq_hN S c k * u := fun k => Nat.div_mul_le_self _ _
  have g0 := g 0
  have g1 := g 1
  have g2 := g 2
  have g3 := g 3
  have g4 := g 4
  have e : u * cq_hW S c = cq_hN S c 0 * u + cq_hN S c 1 * u + cq_hN S c 2 * u + cq_hN S c 3 * u + cq_hN S c 4 * u := by
    unfold cq_hW
    rw [Nat.mul_comm, Nat.add_mul, Nat.add_mul, Nat.add_mul, Nat.add_mul]
  rw [e, Nat.add_mul, Nat.add_mul, Nat.add_mul, Nat.add_mul]
  omega
theorem cq_rp_n {S : Nat → Nat → Int32} {c u k : Nat} (hH : cq_hH S c) (h6 : u ≤ 60000) (hk : k < 5) : cq_rp S c (nI u) k = nI (cq_pN S c u k) := by
  unfold cq_rp cq_pN
  rw [(hH k hk).2, cq_al_n hH]
  have b0 := (hH 0 (by decide)).1
  have b1 := (hH 1 (by decide)).1
  have b2 := (hH 2 (by decide)).1
  have b3 := (hH 3 (by decide)).1
  have b4 := (hH 4 (by decide)).1
  have bk := (hH k hk).1
  have hw : cq_hW S c ≤ 300000 := by unfold cq_hW; omega
  rw [cy_dvn (by omega) h6 hw]
theorem cq_s0_I {S : Nat → Nat → Int32} {c u : Nat} (hH : cq_hH S c) (h1 : 1 ≤ u) (h6 : u ≤ 60000) (hu : u ≤ cq_hW S c) : (cq_rf S c (nI u) 5).2 = nI (cq_s0 S c u).2 ∧ cq_I S c u (cq_s0 S c u) := by
  have hs := cq_pN_sum h1 hu
  have e0 := cq_rp_n hH h6 (k := 0) (by decide)
  have e1 := cq_rp_n hH h6 (k := 1) (by decide)
  have e2 := cq_rp_n hH h6 (k := 2) (by decide)
  have e3 := cq_rp_n hH h6 (k := 3) (by decide)
  have e4 := cq_rp_n hH h6 (k := 4) (by decide)
  constructor
  · show ((((nI u - cq_rp S c (nI u) 0) - cq_rp S c (nI u) 1) - cq_rp S c (nI u) 2) - cq_rp S c (nI u) 3) - cq_rp S c (nI u) 4 = nI (cq_L0 S c u)
    rw [e0, e1, e2, e3, e4, pk_sub (by omega), pk_sub (by omega), pk_sub (by omega), pk_sub (by omega), pk_sub (by omega)]
    unfold cq_L0
    congr 1
    omega
  · refine ⟨cq_pN S c u, fun k hk => ⟨?_, cq_pN_le hu⟩, ?_⟩
    · have hk5 : k = 0 ∨ k = 1 ∨ k = 2 ∨ k = 3 ∨ k = 4 := by omega
      rcases hk5 with rfl | rfl | rfl | rfl | rfl
      · exact e0
      · exact e1
      · exact e2
      · exact e3
      · exact e4
    · show _ + cq_L0 S c u = u
      unfold cq_L0
      omega
theorem cq_rr_I {S : Nat → Nat → Int32} {c u : Nat} (hH : cq_hH S c) (h1 : 1 ≤ u) (h6 : u ≤ 60000) (hu : u ≤ cq_hW S c) : ∀ {r : Nat}, cq_I S c u (cq_rr S c u r)
  | 0 => (cq_s0_I hH h1 h6 hu).2
  | r + 1 => cq_rd_I hH (cq_rr_I hH h1 h6 hu) (Nat.le_refl 5)
theorem cq_I_le {S : Nat → Nat → Int32} {c u : Nat} {s : (Nat → Int32) × Nat} (h : cq_I S c u s) : s.2 ≤ u := by
  obtain ⟨P, -, h⟩ := h
  omega
theorem cq_rr_end {S : Nat → Nat → Int32} {c u r : Nat} (hr : r + (cq_rr S c u r).2 ≤ cq_L0 S c u) (h : (cq_rr S c u r).2 ≤ 0) : cq_rr S c u r = cq_rF S c u := by
  have g : ∀ j, cq_rr S c u (r + j) = cq_rr S c u r := by
    intro j
    induction j with
    | zero => rfl
    | succ j ih =>
      show cq_rd S c (cq_rr S c u (r + j)) 5 = _
      rw [ih]
      have := cq_rd_stop (S := S) (c := c) (s := cq_rr S c u r) (k := 0) (Nat.le_zero.mp h) 5
      exact this
  have := g (cq_L0 S c u - r)
  unfold cq_rF
  rw [← this]
  congr 1
  omega
theorem cy_al0 {a : Int32} {u : Nat} (h1 : 1 ≤ u) (h6 : u ≤ 60000) (h : ¬ a < nI u) : ¬ a = 0 := by
  rintro rfl
  exact h (nI_lt (a := 0) (b := u) (by omega) (by omega))
theorem cq_al_le {S : Nat → Nat → Int32} {c u : Nat} (hH : cq_hH S c) (h6 : u ≤ 60000) (h : ¬ cq_al S c < nI u) : u ≤ cq_hW S c := by
  have b0 := (hH 0 (by decide)).1
  have b1 := (hH 1 (by decide)).1
  have b2 := (hH 2 (by decide)).1
  have b3 := (hH 3 (by decide)).1
  have b4 := (hH 4 (by decide)).1
  have hw : cq_hW S c ≤ 300000 := by unfold cq_hW; omega
  rw [cq_al_n hH] at h
  exact cy_nlt (by omega) (by omega) h
def cq_ro (S : Nat → Nat → Int32) (c u : Nat) : Int32 := (((S 15 c).toInt64 * (nI u).toInt64) / (cq_al S c).toInt64).toInt32
def cq_mv (S : Nat → Nat → Int32) (c : Nat) (f : Nat → Int32) : Nat → Nat → Nat → Int32
  | 0 => S
  | k + 1 => va_up (cq_mv S c f k) 14 (upd (cq_mv S c f k 14) (5 * c + k) (cq_mv S c f k 14 (5 * c + k) - f k))
def cq_mw (S : Nat → Nat → Int32) (c d : Nat) (f : Nat → Int32) : Nat → Nat → Nat → Int32
  | 0 => S
  | k + 1 => va_up (cq_mw S c d f k) 14 (upd (upd (cq_mw S c d f k 14) (5 * c + k) (cq_mw S c d f k 14 (5 * c + k) - f k)) (5 * d + k) (upd (cq_mw S c d f k 14) (5 * c + k) (cq_mw S c d f k 14 (5 * c + k) - f k) (5 * d + k) + f k))
def cq_nR1 (S : Nat → Nat → Int32) (c u : Nat) : Nat → Nat → Int32 := va_up (cq_mv (cq_rs S) c (cq_rF S c u).1 5) 15 (upd (cq_mv (cq_rs S) c (cq_rF S c u).1 5 15) c (cq_mv (cq_rs S) c (cq_rF S c u).1 5 15 c - cq_ro S c u))
def cq_nR2 (S : Nat → Nat → Int32) (c d u : Nat) : Nat → Nat → Int32 := va_up (cq_mw (cq_bf (cq_rs S) d) c d (cq_rF S c u).1 5) 15 (upd (upd (cq_mw (cq_bf (cq_rs S) d) c d (cq_rF S c u).1 5 15) c (cq_mw (cq_bf (cq_rs S) d) c d (cq_rF S c u).1 5 15 c - cq_ro S c u)) d (upd (cq_mw (cq_bf (cq_rs S) d) c d (cq_rF S c u).1 5 15) c (cq_mw (cq_bf (cq_rs S) d) c d (cq_rF S c u).1 5 15 c - cq_ro S c u) d + cq_ro S c u))
def cq_Rk (S : Nat → Nat → Int32) (x y z : Int32) (nc : Nat) : (Nat → Nat → Int32) × Int32 := if cq_in x 0 (nI nc - 1) = 0 then (cq_th S 1, 0) else
  if y = (-1) then (if x = y then (cq_th S 2, 0) else if cq_in z 1 60000 = 0 then (cq_th S 2, 0) else if S 8 x.toNatClampNeg = 0 then (cq_th S 3, 0) else if cq_al S x.toNatClampNeg < z then (cq_th S 3, 0) else (cq_nR1 S x.toNatClampNeg z.toNatClampNeg, cq_al (cq_nR1 S x.toNatClampNeg z.toNatClampNeg) x.toNatClampNeg))
  else if cq_in y 0 (nI nc - 1) = 0 then (cq_th S 1, 0) else if x = y then (cq_th S 2, 0) else if cq_in z 1 60000 = 0 then (cq_th S 2, 0) else if S 8 x.toNatClampNeg = 0 then (cq_th S 3, 0) else if S 8 y.toNatClampNeg = 0 then (cq_th S 3, 0) else if cq_al S x.toNatClampNeg < z then (cq_th S 3, 0) else if cq_al S y.toNatClampNeg + z ≤ S 5 (cq_so S y.toNatClampNeg) then (cq_nR2 S x.toNatClampNeg y.toNatClampNeg z.toNatClampNeg, cq_al (cq_nR2 S x.toNatClampNeg y.toNatClampNeg z.toNatClampNeg) x.toNatClampNeg) else (cq_th S 3, 0)
