theorem cy_upd_3 {S : Nat → Nat → Int32} {i j k m : Nat} {f f2 g g2 g3 : Nat → Int32} (h : i ≠ j) (h2 : i ≠ k) (h3 : i ≠ m) : va_up (va_up (va_up (va_up (va_up S i f) j g) k g2) m g3) i f2 = va_up (va_up (va_up (va_up S j g) k g2) m g3) i f2 := by
  rw [cy_uc (i := i) (j := j) h, cy_upd_2 h2 h3]
/-! the reference: what its methods answer and leave. Its cells 1 to 6 are numbered as the yard's; 7 sort, 8 isSound, 9 flaws, 10 tension, 11 swelling, 12 fillings, 13 air, 14 holds, 15 grains, 16 fewest, 17 choice; of cell 0: 0 thrown, 1 month, 2 warmth, 3 lost, 4 staves, 8 sorts, 12 casks, 23 chosen -/
def cq_in (v lo hi : Int32) : Int32 := if v < lo then 0 else if hi < v then 0 else 1
theorem cq_in_b {v lo hi : Int32} : narrow .boolean (.int (cq_in v lo hi)) = .int (cq_in v lo hi) := by
  unfold cq_in
  repeat' split
  all_goals rfl
def cq_rs (S : Nat → Nat → Int32) : Nat → Nat → Int32 := va_up S 0 (upd (S 0) 0 0)
def cq_th (S : Nat → Nat → Int32) (k : Int32) : Nat → Nat → Int32 := va_up S 0 (upd (upd (S 0) 0 0) 0 k)
/-- a number in a row's bounds -/
theorem cq_in_t {x : Int32} {n : Nat} (hn : n < 2 ^ 31) (h : ¬ cq_in x 0 (nI n - 1) = 0) : ∃ j : Nat, j < n ∧ x = nI j := by
  unfold cq_in at h
  by_cases h1 : x < 0
  · rw [if_pos h1] at h; exact absurd rfl h
  · rw [if_neg h1] at h
    by_cases h2 : nI n - 1 < x
    · rw [if_pos h2] at h; exact absurd rfl h
    · obtain ⟨j, hj, rfl⟩ := nI_of h1
      refine ⟨j, ?_, rfl⟩
      cases n with
      | zero => exact absurd (Int32.lt_of_lt_of_le (by decide : nI 0 - 1 < 0) (nI_pos' hj)) h2
      | succ n =>
        rw [nI_pred] at h2
        have := cy_nlt (by omega) hj h2
        omega
theorem cq_in_l {x : Int32} {n : Nat} (hn : n < 2 ^ 31) (h : ¬ cq_in x 0 (nI n) = 0) : ∃ j : Nat, j < n + 1 ∧ x = nI j := by
  unfold cq_in at h
  by_cases h1 : x < 0
  · rw [if_pos h1] at h; exact absurd rfl h
  · rw [if_neg h1] at h
    by_cases h2 : nI n < x
    · rw [if_pos h2] at h; exact absurd rfl h
    · obtain ⟨j, hj, rfl⟩ := nI_of h1
      have := cy_nlt hn hj h2
      exact ⟨j, by omega, rfl⟩
theorem cq_in_l1 {x : Int32} {n : Nat} (hn : n < 2 ^ 31 - 1) (h : ¬ cq_in x 1 (nI n) = 0) : ∃ j : Nat, (1 ≤ j ∧ j ≤ n) ∧ x = nI j := by
  unfold cq_in at h
  by_cases h1 : x < 1
  · rw [if_pos h1] at h; exact absurd rfl h
  · rw [if_neg h1] at h
    by_cases h2 : nI n < x
    · rw [if_pos h2] at h; exact absurd rfl h
    · exact cy_rng1 hn h1 (Int32.not_lt.mp h2)
/-- the sorts of casks and their hoops are such as they can be -/
def cq_ok (S : Nat → Nat → Int32) : Prop := (∀ c, c < 12 → (S 7 c).toNatClampNeg < 6 ∧ S 7 c = nI (S 7 c).toNatClampNeg) ∧ ∀ j, j < 6 → (S 6 j).toNatClampNeg ≤ 8 ∧ S 6 j = nI (S 6 j).toNatClampNeg
theorem cq_ok_of {S S' : Nat → Nat → Int32} (h6 : S' 6 = S 6) (h7 : S' 7 = S 7) (h : cq_ok S) : cq_ok S' := by
  unfold cq_ok
  rw [h6, h7]
  exact h
def cq_so (S : Nat → Nat → Int32) (c : Nat) : Nat := (S 7 c).toNatClampNeg
def cq_hn (S : Nat → Nat → Int32) (c : Nat) : Nat := if S 8 c = 0 then 0 else (S 6 (cq_so S c)).toNatClampNeg
theorem cq_hn_le {S : Nat → Nat → Int32} (h : cq_ok S) {c : Nat} (hc : c < 12) : cq_hn S c ≤ 8 := by
  unfold cq_hn
  split
  · omega
  · exact (h.2 _ (h.1 c hc).1).1
def cq_tn (S : Nat → Nat → Int32) (c : Nat) : Int32 := cy_sm (fun k => S 10 (8 * c + k)) (cq_hn S c)
def cq_al (S : Nat → Nat → Int32) (c : Nat) : Int32 := cy_sm (fun k => S 14 (5 * c + k)) 5
def cq_lk (S : Nat → Nat → Int32) (c : Nat) : Int32 := cy_mx 0 (((30 + (10 * (S 9 c))) - (2 * (cq_tn S c))) - (S 11 c))
def cq_ls (S : Nat → Nat → Int32) (x : Int32) : Nat → Int32
  | 0 => (-1)
  | i + 1 => if ¬ S 3 i = x then cq_ls S x i else nI i
def cq_sa (S : Nat → Nat → Int32) (x : Int32) : Nat → Int32
  | 0 => 0
  | i + 1 => if ¬ S 3 i = x then cq_sa S x i + 0 else cq_sa S x i + 1
theorem cq_ls_c {S S' : Nat → Nat → Int32} {x : Int32} (h : S 3 = S' 3) : ∀ {n : Nat}, cq_ls S x n = cq_ls S' x n
  | 0 => rfl
  | n + 1 => by
    unfold cq_ls
    rw [h, cq_ls_c h]
theorem cq_sa_c {S S' : Nat → Nat → Int32} {x : Int32} (h : S 3 = S' 3) : ∀ {n : Nat}, cq_sa S x n = cq_sa S' x n
  | 0 => rfl
  | n + 1 => by
    unfold cq_sa
    rw [h, cq_sa_c h]
def cq_As (S : Nat → Nat → Int32) (x y : Int32) (ns : Nat) : (Nat → Nat → Int32) × Int32 := if cq_in x 20 120 = 0 then (cq_th S 1, 0) else if cq_in y 0 100 = 0 then (cq_th S 1, 0) else if ¬ nI ns = 60 then (va_up (va_up (va_up (va_up S 1 (upd (S 1) ns x)) 2 (upd (S 2) ns y)) 3 (upd (S 3) ns (-1))) 0 (upd (upd (S 0) 0 0) 4 (nI (ns + 1))), nI (ns + 1) - 1) else (cq_th S 2, 0)
def cq_tl (S : Nat → Nat → Int32) (i : Nat) (y : Int32) : Int32 := if ¬ y = 0 then (if ¬ y = 1 then S 3 i else S 2 i) else S 1 i
def cq_St (S : Nat → Nat → Int32) (x y : Int32) (ns : Nat) : (Nat → Nat → Int32) × Int32 := if cq_in x 0 (nI ns - 1) = 0 then (cq_th S 1, 0) else if cq_in y 0 2 = 0 then (cq_th S 1, 0) else (cq_rs S, cq_tl S x.toNatClampNeg y)
def cq_Ao (S : Nat → Nat → Int32) (x y z : Int32) (no : Nat) : (Nat → Nat → Int32) × Int32 := if cq_in x 300 1500 = 0 then (cq_th S 1, 0) else if cq_in y 100 60000 = 0 then (cq_th S 1, 0) else if cq_in z 2 8 = 0 then (cq_th S 1, 0) else if ¬ nI no = 6 then (va_up (va_up (va_up (va_up S 4 (upd (S 4) no x)) 5 (upd (S 5) no y)) 6 (upd (S 6) no z)) 0 (upd (upd (S 0) 0 0) 8 (nI (no + 1))), nI (no + 1) - 1) else (cq_th S 2, 0)
def cq_Dr (S : Nat → Nat → Int32) (x y z : Int32) (nc : Nat) : (Nat → Nat → Int32) × Int32 := if cq_in x 0 (nI nc - 1) = 0 then (cq_th S 1, 0) else if cq_in y 0 (nI (cq_hn S x.toNatClampNeg) - 1) = 0 then (cq_th S 1, 0) else if cq_in z 1 9 = 0 then (cq_th S 2, 0) else
  (if cq_tn (va_up (cq_rs S) 10 (upd (S 10) (8 * x.toNatClampNeg + y.toNatClampNeg) (cy_mn 9 (S 10 (8 * x.toNatClampNeg + y.toNatClampNeg) + z)))) x.toNatClampNeg ≤ 5 * nI (cq_hn S x.toNatClampNeg) then va_up (cq_rs S) 10 (upd (S 10) (8 * x.toNatClampNeg + y.toNatClampNeg) (cy_mn 9 (S 10 (8 * x.toNatClampNeg + y.toNatClampNeg) + z))) else va_up (va_up (cq_rs S) 10 (upd (S 10) (8 * x.toNatClampNeg + y.toNatClampNeg) (cy_mn 9 (S 10 (8 * x.toNatClampNeg + y.toNatClampNeg) + z)))) 9 (upd (S 9) x.toNatClampNeg (S 9 x.toNatClampNeg + 1)), cy_mn 9 (S 10 (8 * x.toNatClampNeg + y.toNatClampNeg) + z))
theorem cq_ls_in {S : Nat → Nat → Int32} {x : Int32} : ∀ {n : Nat}, cq_ls S x n = cy_lst S x n
  | 0 => rfl
  | n + 1 => by
    unfold cq_ls cy_lst
    rw [cq_ls_in]
def cq_Me (S : Nat → Nat → Int32) (x y : Int32) (ns nc : Nat) : (Nat → Nat → Int32) × Int32 := if cq_in x 0 (nI nc - 1) = 0 then (cq_th S 1, 0) else if cq_in y 0 (nI ns - 1) = 0 then (cq_th S 1, 0) else if S 8 x.toNatClampNeg = 0 then (cq_th S 2, 0) else if 0 < cq_al S x.toNatClampNeg then (cq_th S 2, 0) else if ¬ S 3 y.toNatClampNeg = (-1) then (cq_th S 2, 0) else if S 1 y.toNatClampNeg = S 1 (cq_ls S x ns).toNatClampNeg then (va_up (va_up (cq_rs S) 3 (upd (upd (S 3) (cq_ls S x ns).toNatClampNeg (-2)) y.toNatClampNeg x)) 9 (upd (S 9) x.toNatClampNeg (if 70 ≤ S 2 y.toNatClampNeg then 0 else 1)), S 9 x.toNatClampNeg) else (cq_th S 2, 0)
/-- a cask is emptied: its first k liquids -/
def cq_em (S : Nat → Nat → Int32) (c : Nat) : Nat → Nat → Nat → Int32
  | 0 => S
  | k + 1 => va_up (cq_em S c k) 14 (upd (cq_em S c k 14) (5 * c + k) 0)
theorem cq_em_n {S : Nat → Nat → Int32} {c j : Nat} (h : j ≠ 14) : ∀ {k : Nat}, cq_em S c k j = S j
  | 0 => rfl
  | k + 1 => by
    show va_up (cq_em S c k) 14 _ j = _
    rw [cy_un h, cq_em_n h]
def cq_bt (S : Nat → Nat → Int32) (x : Int32) : Nat → (Nat → Nat → Int32) × Int32
  | 0 => (S, 1)
  | i + 1 => if (cq_bt S x i).1 3 i = x then (va_up (va_up (cq_bt S x i).1 3 (upd ((cq_bt S x i).1 3) i (if (cq_bt S x i).2 = 0 then (-1) else (-2)))) 2 (upd ((cq_bt S x i).1 2) i (cy_mx 0 ((cq_bt S x i).1 2 i - 30))), 0) else cq_bt S x i
theorem cq_bt_n {S : Nat → Nat → Int32} {x : Int32} {j : Nat} (h : j ≠ 2) (h2 : j ≠ 3) : ∀ {i : Nat}, (cq_bt S x i).1 j = S j
  | 0 => rfl
  | i + 1 => by
    unfold cq_bt
    split
    · show va_up (va_up (cq_bt S x i).1 3 _) 2 _ j = _
      rw [cy_un h, cy_un h2, cq_bt_n h h2]
    · exact cq_bt_n h h2
def cq_b1 (S : Nat → Nat → Int32) (c : Nat) : Nat → Nat → Int32 := va_up (cq_em (cq_rs S) c 5) 15 (upd (cq_em (cq_rs S) c 5 15) c 0)
def cq_nBr (S : Nat → Nat → Int32) (c ns : Nat) : Nat → Nat → Int32 := va_up (cq_bt (cq_b1 S c) (nI c) ns).1 8 (upd ((cq_bt (cq_b1 S c) (nI c) ns).1 8) c 0)
def cq_Br (S : Nat → Nat → Int32) (x : Int32) (ns nc : Nat) : (Nat → Nat → Int32) × Int32 := if cq_in x 0 (nI nc - 1) = 0 then (cq_th S 1, 0) else if S 8 x.toNatClampNeg = 0 then (cq_th S 2, 0) else (cq_nBr S x.toNatClampNeg ns, cq_al S x.toNatClampNeg)
/-- what a cask tells -/
def cq_ct (S : Nat → Nat → Int32) (ns c : Nat) : Nat → Int32
  | 0 => S 7 c
  | 1 => if S 8 c = 0 then 0 else cq_sa S (nI c) ns
  | 2 => if S 8 c = 0 then 0 else S 9 c
  | 3 => if S 8 c = 0 then 0 else cq_tn S c
  | 4 => if S 8 c = 0 then 0 else S 11 c
  | 5 => if S 8 c = 0 then 0 else S 12 c
  | 6 => if S 8 c = 0 then 0 else S 13 c
  | 7 => if S 8 c = 0 then 0 else cq_al S c
  | 8 => if S 8 c = 0 then 0 else S 14 (5 * c + 0)
  | 9 => if S 8 c = 0 then 0 else S 14 (5 * c + 1)
  | 10 => if S 8 c = 0 then 0 else S 14 (5 * c + 2)
  | 11 => if S 8 c = 0 then 0 else S 14 (5 * c + 3)
  | 12 => if S 8 c = 0 then 0 else S 14 (5 * c + 4)
  | 13 => if S 8 c = 0 then 0 else S 15 c
  | 14 => if S 8 c = 0 then 0 else cq_lk S c
  | _ => if S 8 c = 0 then 0 else 1
theorem cq_ct_c {S S' : Nat → Nat → Int32} {ns c k : Nat} (h : ∀ j, 1 ≤ j → S j = S' j) : cq_ct S ns c k = cq_ct S' ns c k := by
  have e : cq_sa S (nI c) ns = cq_sa S' (nI c) ns := cq_sa_c (h 3 (by decide))
  have g : cq_tn S c = cq_tn S' c := by
    unfold cq_tn cq_hn cq_so
    rw [h 10 (by decide), h 8 (by decide), h 6 (by decide), h 7 (by decide)]
  have a : cq_al S c = cq_al S' c := by
    unfold cq_al
    rw [h 14 (by decide)]
  have lk : cq_lk S c = cq_lk S' c := by
    unfold cq_lk
    rw [g, h 9 (by decide), h 11 (by decide)]
  unfold cq_ct
  rw [e, g, a, lk, h 7 (by decide), h 8 (by decide), h 9 (by decide), h 11 (by decide), h 12 (by decide), h 13 (by decide), h 14 (by decide), h 15 (by decide)]
def cq_Ca (S : Nat → Nat → Int32) (x y : Int32) (ns nc : Nat) : (Nat → Nat → Int32) × Int32 := if cq_in x 0 (nI nc - 1) = 0 then (cq_th S 1, 0) else if cq_in y 0 15 = 0 then (cq_th S 1, 0) else (cq_rs S, cq_ct S ns x.toNatClampNeg y.toNatClampNeg)
def cq_bf (S : Nat → Nat → Int32) (c : Nat) : Nat → Nat → Int32 := va_up S 12 (upd (S 12) c (if cq_al S c = 0 then S 12 c + 1 else S 12 c + 0))
def cq_nFi (S : Nat → Nat → Int32) (c i : Nat) (z : Int32) : Nat → Nat → Int32 := va_up (cq_bf (cq_rs S) c) 14 (upd (cq_bf (cq_rs S) c 14) (5 * c + i) (cq_bf (cq_rs S) c 14 (5 * c + i) + z))
def cq_Fi (S : Nat → Nat → Int32) (x y z : Int32) (nc : Nat) : (Nat → Nat → Int32) × Int32 := if cq_in x 0 (nI nc - 1) = 0 then (cq_th S 1, 0) else if cq_in y 0 3 = 0 then (cq_th S 2, 0) else if cq_in z 1 60000 = 0 then (cq_th S 2, 0) else if S 8 x.toNatClampNeg = 0 then (cq_th S 3, 0) else if cq_al S x.toNatClampNeg + z ≤ S 5 (cq_so S x.toNatClampNeg) then (cq_nFi S x.toNatClampNeg y.toNatClampNeg z, cq_al (cq_nFi S x.toNatClampNeg y.toNatClampNeg z) x.toNatClampNeg) else (cq_th S 3, 0)
def cq_Sw (S : Nat → Nat → Int32) (x : Int32) : (Nat → Nat → Int32) × Int32 := if cq_in x 0 9 = 0 then (cq_th S 1, 0) else (va_up S 0 (upd (upd (S 0) 0 0) 2 x), S 0 2)
theorem cq_ls_k {S : Nat → Nat → Int32} {x : Int32} : ∀ {n : Nat}, (∃ i, i < n ∧ S 3 i = x) → ∃ k : Nat, k < n ∧ cq_ls S x n = nI k
  | 0, h => by
    obtain ⟨i, hi, -⟩ := h
    omega
  | n + 1, h => by
    unfold cq_ls
    split
    · next q =>
      obtain ⟨i, hi, e⟩ := h
      rcases Nat.lt_or_ge i n with g | g
      · obtain ⟨k, hk, e2⟩ := cq_ls_k ⟨i, g, e⟩
        exact ⟨k, by omega, e2⟩
      · have : i = n := by omega
        subst this
        exact absurd e q
    · exact ⟨n, by omega, rfl⟩
