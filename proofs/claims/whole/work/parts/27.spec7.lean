/-! the reference: raising, choosing -/
def cq_gi (S : Nat → Nat → Int32) (x : Int32) : Nat := (S 4 x.toNatClampNeg).toNatClampNeg
def cq_Ch (S : Nat → Nat → Int32) (x y : Int32) (ns no : Nat) : (Nat → Nat → Int32) × Int32 := if cq_in x 0 (nI no - 1) = 0 then (cq_th S 1, 0) else if cq_in y 0 59 = 0 then (cq_th S 1, 0) else (cq_sFd (cq_rs S) ns (cq_gi S x), if cq_rFd (cq_rs S) ns (cq_gi S x) = 0 then (-1) else if cq_sFd (cq_rs S) ns (cq_gi S x) 0 23 ≤ y then (-1) else cq_sFd (cq_rs S) ns (cq_gi S x) 17 y.toNatClampNeg)
/-- the first k members go into the cask c -/
def cq_r2 (S : Nat → Nat → Int32) (C : Nat → Int32) (c : Nat) : Nat → Nat → Nat → Int32
  | 0 => S
  | k + 1 => va_up (va_up (cq_r2 S C c k) 3 (upd (cq_r2 S C c k 3) (C k).toNatClampNeg (nI c))) 9 (upd (cq_r2 S C c k 9) c (cq_r2 S C c k 9 c + (if 70 ≤ cq_r2 S C c k 2 (C k).toNatClampNeg then 0 else 1)))
theorem cq_r2_n {S : Nat → Nat → Int32} {C : Nat → Int32} {c j : Nat} (h : j ≠ 3) (h2 : j ≠ 9) : ∀ {k : Nat}, cq_r2 S C c k j = S j
  | 0 => rfl
  | k + 1 => by
    show va_up (va_up (cq_r2 S C c k) 3 _) 9 _ j = _
    rw [cy_un h2, cy_un h, cq_r2_n h h2]
def cq_r3 (S : Nat → Nat → Int32) (c h : Nat) : Nat → Nat → Nat → Int32
  | 0 => S
  | k + 1 => va_up (cq_r3 S c h k) 10 (upd (cq_r3 S c h k 10) (8 * c + k) (if nI h ≤ nI k then 0 else 3))
theorem cq_r3_n {S : Nat → Nat → Int32} {c j h : Nat} (h0 : j ≠ 10) : ∀ {k : Nat}, cq_r3 S c h k j = S j
  | 0 => rfl
  | k + 1 => by
    show va_up (cq_r3 S c h k) 10 _ j = _
    rw [cy_un h0, cq_r3_n h0]
def cq_ra (S : Nat → Nat → Int32) (ns g : Nat) (x : Int32) (c : Nat) : Nat → Nat → Int32 := va_up (va_up (va_up (cq_sFd (cq_rs S) ns g) 7 (upd (cq_sFd (cq_rs S) ns g 7) c x)) 8 (upd (cq_sFd (cq_rs S) ns g 8) c 1)) 9 (upd (cq_sFd (cq_rs S) ns g 9) c 0)
def cq_rb (S : Nat → Nat → Int32) (ns g : Nat) (x : Int32) (c : Nat) : Nat → Nat → Int32 := cq_r3 (cq_r2 (cq_ra S ns g x c) (cq_chs (cq_rs S) ns g).1 c (cq_chs (cq_rs S) ns g).2.1) c (S 6 x.toNatClampNeg).toNatClampNeg 8
def cq_rc (S : Nat → Nat → Int32) (ns g : Nat) (x : Int32) (c : Nat) : Nat → Nat → Int32 := va_up (va_up (va_up (va_up (va_up (cq_rb S ns g x c) 11 (upd (cq_rb S ns g x c 11) c 0)) 12 (upd (cq_rb S ns g x c 12) c 0)) 13 (upd (cq_rb S ns g x c 13) c 0)) 15 (upd (cq_rb S ns g x c 15) c 0)) 0 (upd (cq_rb S ns g x c 0) 12 (nI (c + 1)))
def cq_Ra (S : Nat → Nat → Int32) (x : Int32) (ns no nc : Nat) : (Nat → Nat → Int32) × Int32 := if cq_in x 0 (nI no - 1) = 0 then (cq_th S 1, 0) else if nI nc = 12 then (cq_th S 2, 0) else if cq_rFd (cq_rs S) ns (cq_gi S x) = 0 then (va_up (cq_sFd (cq_rs S) ns (cq_gi S x)) 0 (upd (cq_sFd (cq_rs S) ns (cq_gi S x) 0) 0 2), 0) else (cq_rc S ns (cq_gi S x) x nc, nI nc)
theorem cq_ch_ix {S : Nat → Nat → Int32} {ns g : Nat} {y : Int32} (h60 : ns ≤ 60) (h1 : ¬ cq_in y 0 59 = 0) (h2 : ¬ cq_sFd (cq_rs S) ns g 0 23 ≤ y) : ∃ k : Nat, k < 60 ∧ y = nI k := by
  obtain ⟨k, hk, e⟩ := cq_in_l (n := 59) (by decide) h1
  exact ⟨k, by omega, e⟩
theorem cq_sFd_0 {S : Nat → Nat → Int32} {ns g k : Nat} (h : k ≠ 23) : cq_sFd S ns g 0 k = S 0 k := by
  unfold cq_sFd
  split <;> rw [cy_us, pk_un h]
theorem cq_sFd_n {S : Nat → Nat → Int32} {ns g j : Nat} (h0 : j ≠ 0) (h1 : j ≠ 16) (h2 : j ≠ 17) : cq_sFd S ns g j = S j := by
  unfold cq_sFd
  split
  · rw [cy_un h0, cy_un h2, cy_un h1]
  · rw [cy_un h0, cy_un h1]
theorem cq_rFd_t {S : Nat → Nat → Int32} {ns g : Nat} (h : ¬ cq_rFd S ns g = 0) : ¬ cq_lft S ns g = (-1) := by
  intro q
  apply h
  unfold cq_rFd
  rw [if_neg (fun z => z q)]
theorem cq_sFd_23 {S : Nat → Nat → Int32} {ns g : Nat} (h : ¬ cq_rFd S ns g = 0) : cq_sFd S ns g 0 23 = nI (cq_chs S ns g).2.1 := by
  unfold cq_sFd
  rw [if_pos (cq_rFd_t h), cy_us, pk_us]
theorem cq_sFd_17 {S : Nat → Nat → Int32} {ns g : Nat} (h : ¬ cq_rFd S ns g = 0) : cq_sFd S ns g 17 = (cq_chs S ns g).1 := by
  unfold cq_sFd
  rw [if_pos (cq_rFd_t h), cy_un (by decide), cy_us]
theorem cq_chs_le {S : Nat → Nat → Int32} {ns g : Nat} : (cq_chs S ns g).2.1 ≤ ns := cq_ch_le.1
theorem cq_chs_nat {S : Nat → Nat → Int32} {ns g k : Nat} (h60 : ns ≤ 60) (h : k < (cq_chs S ns g).2.1) : ((cq_chs S ns g).1 k).toNatClampNeg < ns ∧ (cq_chs S ns g).1 k = nI ((cq_chs S ns g).1 k).toNatClampNeg := by
  obtain ⟨j, hj, e⟩ := cq_ch_mem h
  have e2 : (cq_chs S ns g).1 k = nI j := e
  rw [e2, nI_clamp (by omega)]
  exact ⟨hj, rfl⟩
theorem cq_ra_n {S : Nat → Nat → Int32} {ns g c j : Nat} {x : Int32} (h0 : j ≠ 0) (h7 : j ≠ 7) (h8 : j ≠ 8) (h9 : j ≠ 9) (h1 : j ≠ 16) (h2 : j ≠ 17) : cq_ra S ns g x c j = S j := by
  unfold cq_ra
  rw [cy_un h9, cy_un h8, cy_un h7, cq_sFd_n h0 h1 h2]
  exact cy_un h0
theorem cq_ra_0 {S : Nat → Nat → Int32} {ns g c k : Nat} {x : Int32} (h : k ≠ 23) (h0 : k ≠ 0) : cq_ra S ns g x c 0 k = S 0 k := by
  unfold cq_ra
  rw [cy_un (by decide), cy_un (by decide), cy_un (by decide), cq_sFd_0 h]
  unfold cq_rs
  rw [cy_us, pk_un h0]
theorem cq_ra_23 {S : Nat → Nat → Int32} {ns g c : Nat} {x : Int32} (h : ¬ cq_rFd (cq_rs S) ns g = 0) : cq_ra S ns g x c 0 23 = nI (cq_chs (cq_rs S) ns g).2.1 := by
  unfold cq_ra
  rw [cy_un (by decide), cy_un (by decide), cy_un (by decide), cq_sFd_23 h]
theorem cq_ra_17 {S : Nat → Nat → Int32} {ns g c : Nat} {x : Int32} (h : ¬ cq_rFd (cq_rs S) ns g = 0) : cq_ra S ns g x c 17 = (cq_chs (cq_rs S) ns g).1 := by
  unfold cq_ra
  rw [cy_un (by decide), cy_un (by decide), cy_un (by decide), cq_sFd_17 h]
