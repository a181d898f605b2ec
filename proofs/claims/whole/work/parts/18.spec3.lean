def cy_if {α : Type} (t : Option String) (a b : α) : α := if t = none then a else b
theorem cy_if_n {α : Type} {t : Option String} {a b : α} (h : t = none) : cy_if t a b = a := if_pos h
theorem cy_if_s {α : Type} {t : Option String} {a b : α} {E : String} (h : t = some E) : cy_if t a b = b := if_neg (by rw [h]; exact fun q => nomatch q)
theorem cy_rng {y h : Int32} {n : Nat} (hh : h = nI n) (hn : n < 2 ^ 31) (h1 : ¬ y < 0) (h2 : y < h) : ∃ k : Nat, k < n ∧ y = nI k := by
  rcases pk_ix y hn with q | q | q
  · exact absurd q h1
  · rw [hh] at h2
    exact absurd h2 (Int32.not_lt.mpr q)
  · exact q
theorem cy_rng1 {y : Int32} {n : Nat} (hn : n < 2 ^ 31 - 1) (h1 : ¬ y < 1) (h2 : y ≤ nI n) : ∃ k : Nat, (1 ≤ k ∧ k ≤ n) ∧ y = nI k := by
  have a1 : ¬ y < 0 := fun q => h1 (Int32.lt_trans q (by decide))
  obtain ⟨k, hk, rfl⟩ := nI_of a1
  have a2 : k ≤ n := cy_le hk (by omega) h2
  refine ⟨k, ⟨?_, a2⟩, rfl⟩
  rcases Nat.eq_zero_or_pos k with q | q
  · subst q
    exact absurd (by decide) h1
  · exact q
theorem cy_pos {z a : Int32} (h1 : ¬ z < 1) (h2 : z ≤ a) : ¬ a ≤ 0 := by
  intro q
  rw [Int32.lt_iff_toInt_lt] at h1
  rw [Int32.le_iff_toInt_le] at h2 q
  have e1 : (1 : Int32).toInt = 1 := rfl
  have e0 : (0 : Int32).toInt = 0 := rfl
  omega
theorem cy_lst_in {S : Nat → Nat → Int32} {x : Int32} : ∀ {n : Nat}, ¬ cy_lst S x n = (-1) → ∃ k : Nat, k < n ∧ cy_lst S x n = nI k
  | 0, h => absurd rfl h
  | n + 1, h => by
    unfold cy_lst at h ⊢
    split
    · next q =>
      rw [if_pos q] at h
      obtain ⟨k, hk, e⟩ := cy_lst_in h
      exact ⟨k, by omega, e⟩
    · exact ⟨n, by omega, rfl⟩
theorem cy_nm1 {c : Nat} (h : c < 2 ^ 31) : ¬ nI c = (-1) := fun q => nI_pos h (by rw [q]; decide)
/-! what the public methods throw, answer and leave -/
def cy_tAs (x y : Int32) (ns : Nat) : Option String := if x < 20 then some cy_IA else if x ≤ 120 then (if y < 0 then some cy_IA else if y ≤ 100 then (if nI ns < 60 then none else some cy_IS) else some cy_IA) else some cy_IA
def cy_nAs (S : Nat → Nat → Int32) (x y : Int32) (ns : Nat) : Nat → Nat → Int32 := va_up (va_up (va_up (va_up S 1 (upd (S 1) ns x)) 2 (upd (S 2) ns y)) 3 (upd (S 3) ns (-1))) 0 (upd (S 0) 3 (nI (ns + 1)))
def cy_tSt (x y : Int32) (ns : Nat) : Option String := if cy_rIs x (nI ns) = 0 then some cy_IB else if y < 0 then some cy_IB else if y < 3 then none else some cy_IB
def cy_rSt (S : Nat → Nat → Int32) (x y : Int32) : Int32 := if y = 0 then S 1 x.toNatClampNeg else if y = 1 then S 2 x.toNatClampNeg else S 3 x.toNatClampNeg
def cy_tAo (x y z : Int32) (no : Nat) : Option String := if x < 300 then some cy_IA else if x ≤ 1500 then (if y < 100 then some cy_IA else if y ≤ 60000 then (if z < 2 then some cy_IA else if z ≤ 8 then (if nI no < 6 then none else some cy_IS) else some cy_IA) else some cy_IA) else some cy_IA
def cy_nAo (S : Nat → Nat → Int32) (x y z : Int32) (no : Nat) : Nat → Nat → Int32 := va_up (va_up (va_up (va_up S 4 (upd (S 4) no x)) 5 (upd (S 5) no y)) 6 (upd (S 6) no z)) 0 (upd (S 0) 7 (nI (no + 1)))
def cy_gi (S : Nat → Nat → Int32) (x : Int32) : Nat := (S 4 x.toNatClampNeg).toNatClampNeg
def cy_tCh (x y : Int32) (no : Nat) : Option String := if cy_rIs x (nI no) = 0 then some cy_IB else if y < 0 then some cy_IB else if y < 60 then none else some cy_IB
def cy_rCh (S : Nat → Nat → Int32) (Z : Nat → Int64) (ns : Nat) (x y : Int32) : Int32 := if lg_cmp (cy_rFs S Z ns (cy_gi S x)) (-1) = 0 then (-1) else cy_mo (cy_rFs S Z ns (cy_gi S x)) y ns 0 0
def cy_tDr (S : Nat → Nat → Int32) (x y z : Int32) (nc : Nat) : Option String := if cy_rIs x (nI nc) = 0 then some cy_IB else if y < 0 then some cy_IB else if y < S (3 * x.toNatClampNeg + 11) 4 then (if z < 1 then some cy_IA else if z ≤ 9 then none else some cy_IA) else some cy_IB
def cy_dT (S : Nat → Nat → Int32) (c i : Nat) (z : Int32) : Nat → Int32 := upd (S (3 * c + 12)) i (cy_mn 9 (S (3 * c + 12) i + z))
def cy_nDr (S : Nat → Nat → Int32) (c i : Nat) (z : Int32) : Nat → Nat → Int32 := if cy_sm (cy_dT S c i z) 8 ≤ 5 * S (3 * c + 11) 4 then va_up S (3 * c + 12) (cy_dT S c i z) else va_up (va_up S (3 * c + 12) (cy_dT S c i z)) (3 * c + 11) (upd (S (3 * c + 11)) 3 (S (3 * c + 11) 3 + 1))
def cy_tMe (S : Nat → Nat → Int32) (x y : Int32) (ns nc : Nat) : Option String := if cy_rIs x (nI nc) = 0 then some cy_IB else if cy_rIs y (nI ns) = 0 then some cy_IB else if S (3 * x.toNatClampNeg + 11) 2 = 0 then some cy_IS else if cy_lst S x ns = (-1) then some cy_IS else if cy_sm (S (3 * x.toNatClampNeg + 13)) 5 ≤ 0 then (if S 3 y.toNatClampNeg = (-1) then (if S 1 y.toNatClampNeg = S 1 (cy_lst S x ns).toNatClampNeg then none else some cy_IS) else some cy_IS) else some cy_IS
def cy_nMe (S : Nat → Nat → Int32) (c d k : Nat) : Nat → Nat → Int32 := va_up (va_up S 3 (upd (upd (S 3) k (-2)) d (nI c))) (3 * c + 11) (upd (S (3 * c + 11)) 3 (cy_fw S d))
def cy_tBr (S : Nat → Nat → Int32) (x : Int32) (nc : Nat) : Option String := if cy_rIs x (nI nc) = 0 then some cy_IB else if S (3 * x.toNatClampNeg + 11) 2 = 0 then some cy_IS else none
def cy_tCa (x y : Int32) (nc : Nat) : Option String := if cy_rIs x (nI nc) = 0 then some cy_IB else if y < 0 then some cy_IB else if y < 16 then none else some cy_IB
def cy_tFi (S : Nat → Nat → Int32) (x y z : Int32) (nc : Nat) : Option String := if cy_rIs x (nI nc) = 0 then some cy_IB else if y < 0 then some cy_IA else if y < 4 then (if z < 1 then some cy_IA else if z ≤ 60000 then (if S (3 * x.toNatClampNeg + 11) 2 = 0 then some cy_IS else if cy_sm (S (3 * x.toNatClampNeg + 13)) 5 + z ≤ S (3 * x.toNatClampNeg + 11) 1 then none else some cy_IS) else some cy_IA) else some cy_IA
def cy_nFi (S : Nat → Nat → Int32) (c i : Nat) (z : Int32) : Nat → Nat → Int32 := va_up (cy_sCf S c) (3 * c + 13) (upd (cy_sCf S c (3 * c + 13)) i (cy_sCf S c (3 * c + 13) i + z))
def cy_tRk (S : Nat → Nat → Int32) (x y z : Int32) (nc : Nat) : Option String :=
  if y = (-1) then (if cy_rIs x (nI nc) = 0 then some cy_IB else if x = y then some cy_IA else if z < 1 then some cy_IA else if z ≤ 60000 then (if S (3 * x.toNatClampNeg + 11) 2 = 0 then some cy_IS else if z ≤ cy_sm (S (3 * x.toNatClampNeg + 13)) 5 then none else some cy_IS) else some cy_IA)
  else (if cy_rIs x (nI nc) = 0 then some cy_IB else if cy_rIs y (nI nc) = 0 then some cy_IB else if x = y then some cy_IA else if z < 1 then some cy_IA else if z ≤ 60000 then (if S (3 * x.toNatClampNeg + 11) 2 = 0 then some cy_IS else if S (3 * y.toNatClampNeg + 11) 2 = 0 then some cy_IS else if z ≤ cy_sm (S (3 * x.toNatClampNeg + 13)) 5 then (if cy_sm (S (3 * y.toNatClampNeg + 13)) 5 + z ≤ S (3 * y.toNatClampNeg + 11) 1 then none else some cy_IS) else some cy_IS) else some cy_IA)
def cy_nRk (S : Nat → Nat → Int32) (x y z : Int32) : Nat → Nat → Int32 := if y = (-1) then cy_sMv (cy_sCf (cy_sCl S 12) 12) x.toNatClampNeg 12 z (cy_sm (S (3 * x.toNatClampNeg + 13)) 5) else cy_sMv (cy_sCf S y.toNatClampNeg) x.toNatClampNeg y.toNatClampNeg z (cy_sm (S (3 * x.toNatClampNeg + 13)) 5)
def cy_tSw (x : Int32) : Option String := if x < 0 then some cy_IA else if x ≤ 9 then none else some cy_IA
def cy_tPa (S : Nat → Nat → Int32) (x : Int32) : Option String := if x < 1 then some cy_IA else if x ≤ 60 then (if S 0 14 + x ≤ 1200 then none else some cy_IS) else some cy_IA
def cy_pm (S : Nat → Nat → Int32) (ns nc : Nat) : Nat → (Nat → Nat → Int32) × Int32
  | 0 => (S, 0)
  | i + 1 => (cy_sMo (cy_pm S ns nc i).1 ns nc, (cy_pm S ns nc i).2 + (cy_mS (cy_pm S ns nc i).1 ns nc).2)
theorem cy_pm_0 {S : Nat → Nat → Int32} {ns nc k : Nat} (h : k ≠ 14) : ∀ {i : Nat}, (cy_pm S ns nc i).1 0 k = S 0 k
  | 0 => rfl
  | i + 1 => by
    show cy_sMo (cy_pm S ns nc i).1 ns nc 0 k = _
    unfold cy_sMo
    rw [cy_us, pk_un h, cy_pm_0 h]
def cy_nPa (S : Nat → Nat → Int32) (ns nc k : Nat) : Nat → Nat → Int32 := va_up (cy_pm S ns nc k).1 0 (upd ((cy_pm S ns nc k).1 0) 15 ((cy_pm S ns nc k).1 0 15 + (cy_pm S ns nc k).2))
def cy_tCo (x : Int32) : Option String := if x < 0 then some cy_IB else if x < 10 then none else some cy_IB
def cy_cnt (S : Nat → Nat → Int32) (ns nc : Nat) : Nat → Int32
  | 0 => S 0 14
  | 1 => nI ns
  | 2 => cy_sa S (-1) ns
  | 3 => S 0 7
  | 4 => nI nc
  | 5 => cy_sq S nc
  | 6 => cy_ha S nc
  | 7 => cy_va S nc
  | 8 => S 0 15
  | _ => S 0 16
def cy_tFo (S : Nat → Nat → Int32) (x y z : Int32) (nc : Nat) : Option String := if cy_rIs x (nI nc) = 0 then some cy_IB else if z < 0 then some cy_IB else if z < 4 then (if y < 1 then some cy_IA else if y ≤ 60 then (if S 0 14 + y ≤ 1200 then none else some cy_IS) else some cy_IA) else some cy_IB
def cy_fe (S : Nat → Nat → Int32) (c : Nat) : Nat → Nat → Nat → Int32
  | 0 => cy_sCp S 12 c
  | i + 1 => cy_sLv (cy_fe S c i) 12 (S 0 16) (cy_hl (S 0 14 + nI i))
theorem cy_fe_n {S : Nat → Nat → Int32} {c j : Nat} (h : j < 47) : ∀ {i : Nat}, cy_fe S c i j = S j
  | 0 => by
    show cy_sCp S 12 c j = _
    unfold cy_sCp
    rw [cy_un (by omega), cy_un (by omega), cy_un (by omega)]
  | i + 1 => by
    show cy_sLv (cy_fe S c i) 12 _ _ j = _
    rw [cy_sLv_n (by omega) (by omega) (by omega), cy_fe_n h]
def cy_rFo (S : Nat → Nat → Int32) (c k : Nat) : Nat → Int32
  | 0 => cy_sm (cy_fe S c k (3 * 12 + 13)) 5
  | 1 => cy_fe S c k (3 * 12 + 13) 4
  | 2 => cy_fe S c k (3 * 12 + 11) 8
  | _ => cy_rLeak (cy_fe S c k) 12
def cy_tBl (x y : Int32) : Option String := if x < 0 then some cy_IA else if x ≤ 1000000 then (if y < 0 then some cy_IB else if y < 4 then none else some cy_IB) else some cy_IA
def cy_tRa (S : Nat → Nat → Int32) (Z : Nat → Int64) (x : Int32) (ns no nc : Nat) : Option String := if cy_rIs x (nI no) = 0 then some cy_IB else if nI nc < 12 then (if lg_cmp (cy_rFs S Z ns (cy_gi S x)) (-1) = 0 then some cy_IS else none) else some cy_IS
/-- the cask that is raised: its sort, room, soundness; then its hoops; then its staves -/
def cy_rA (S : Nat → Nat → Int32) (Z : Nat → Int64) (x : Int32) (ns nc : Nat) : Nat → Nat → Int32 := va_up (va_up S 9 (cy_fz S Z ns (cy_gi S x)).1) (3 * nc + 11) (upd (upd (upd (S (3 * nc + 11)) 0 x) 1 (S 5 x.toNatClampNeg)) 2 1)
def cy_rB (S : Nat → Nat → Int32) (Z : Nat → Int64) (x : Int32) (ns nc : Nat) : Nat → Nat → Int32 := cy_po (va_up (cy_rA S Z x ns nc) (3 * nc + 11) (upd (cy_rA S Z x ns nc (3 * nc + 11)) 4 (nI (S 6 x.toNatClampNeg).toNatClampNeg))) nc (S 6 x.toNatClampNeg).toNatClampNeg
def cy_rP (S : Nat → Nat → Int32) (Z : Nat → Int64) (x : Int32) (ns nc : Nat) : (Nat → Nat → Int32) × Int32 := cy_ps (cy_rB S Z x ns nc) (cy_rFs S Z ns (cy_gi S x)) (nI nc) ns
def cy_nRa (S : Nat → Nat → Int32) (Z : Nat → Int64) (x : Int32) (ns nc : Nat) : Nat → Nat → Int32 := va_up (va_up (cy_rP S Z x ns nc).1 (3 * nc + 11) (upd ((cy_rP S Z x ns nc).1 (3 * nc + 11)) 3 (cy_rP S Z x ns nc).2)) 0 (upd ((cy_rP S Z x ns nc).1 0) 9 (nI (nc + 1)))
theorem cy_rB_0 {S : Nat → Nat → Int32} {Z : Nat → Int64} {x : Int32} {ns nc j : Nat} (h : j < 9) : cy_rB S Z x ns nc j = S j := by
  unfold cy_rB cy_rA
  rw [cy_po_n (by omega), cy_un (by omega), cy_un (by omega), cy_un (by omega)]
def cy_sRa (S : Nat → Nat → Int32) (Z : Nat → Int64) (x : Int32) (ns no nc : Nat) : Nat → Nat → Int32 := if cy_rIs x (nI no) = 0 then S else if nI nc < 12 then (if lg_cmp (cy_rFs S Z ns (cy_gi S x)) (-1) = 0 then va_up S 9 (cy_fz S Z ns (cy_gi S x)).1 else cy_nRa S Z x ns nc) else S
def cy_zRa (S : Nat → Nat → Int32) (Z : Nat → Int64) (x : Int32) (ns no nc : Nat) : Nat → Int64 := if cy_rIs x (nI no) = 0 then Z else if nI nc < 12 then (cy_fz S Z ns (cy_gi S x)).2 else Z
