/-! which cells the cask's methods leave alone -/
theorem cy_sCf_n {S : Nat → Nat → Int32} {c j : Nat} (h : j ≠ 3 * c + 11) : cy_sCf S c j = S j := by
  unfold cy_sCf
  split
  · rfl
  · rw [cy_un h]
theorem cy_sTk_n {S : Nat → Nat → Int32} {c j : Nat} (h : j ≠ 3 * c + 11) : cy_sTk S c j = S j := by
  unfold cy_sTk
  split
  · rfl
  · rw [cy_un h]
theorem cy_sSw_n {S : Nat → Nat → Int32} {c j : Nat} (h : j ≠ 3 * c + 11) : cy_sSw S c j = S j := by
  unfold cy_sSw
  split <;> rw [cy_un h]
theorem cy_lo_n {S : Nat → Nat → Int32} {c j : Nat} {th : Int32} (h : j ≠ 3 * c + 13) : ∀ {i : Nat}, (cy_lo S c th i).1 j = S j
  | 0 => rfl
  | i + 1 => by
    unfold cy_lo
    split
    · exact cy_lo_n h
    · show va_up (cy_lo S c th i).1 (3 * c + 13) _ j = _
      rw [cy_un h, cy_lo_n h]
theorem cy_sAir_n {S : Nat → Nat → Int32} {c j : Nat} (h : j ≠ 3 * c + 11) (h2 : j ≠ 3 * c + 13) : cy_sAir S c j = S j := by
  unfold cy_sAir
  split
  · rw [cy_un h]
  · rw [cy_un h, cy_un h2]
theorem cy_ln_n {S : Nat → Nat → Int32} {c j : Nat} (h : j ≠ 3 * c + 12) : ∀ {i : Nat}, cy_ln S c i j = S j
  | 0 => rfl
  | i + 1 => by
    show va_up (cy_ln S c i) (3 * c + 12) _ j = _
    rw [cy_un h, cy_ln_n h]
theorem cy_sLv_n {S : Nat → Nat → Int32} {c j : Nat} {w b : Int32} (h : j ≠ 3 * c + 11) (h2 : j ≠ 3 * c + 12) (h3 : j ≠ 3 * c + 13) : cy_sLv S c w b j = S j := by
  have q : (cy_lq S c w).1 j = S j := by
    unfold cy_lq cy_S2
    rw [cy_lo_n h3, cy_sSw_n h, cy_sTk_n h]
  unfold cy_sLv
  split
  · split
    · rw [cy_sAir_n h h3, q]
    · rw [cy_ln_n h2, cy_sAir_n h h3, q]
  · rfl
/-! the yard's private methods -/
def cy_rIs (x n : Int32) : Int32 := if x < 0 then 0 else if n ≤ x then 0 else 1
theorem cy_rIs_b {x n : Int32} : narrow .boolean (.int (cy_rIs x n)) = .int (cy_rIs x n) := by
  unfold cy_rIs
  repeat' split
  all_goals rfl
theorem cy_rIs_t {x : Int32} {n : Nat} (hn : n < 2 ^ 31) (h : ¬ cy_rIs x (nI n) = 0) : ∃ j : Nat, j < n ∧ x = nI j := by
  unfold cy_rIs at h
  by_cases h1 : x < 0
  · rw [if_pos h1] at h; exact absurd rfl h
  · rw [if_neg h1] at h
    by_cases h2 : nI n ≤ x
    · rw [if_pos h2] at h; exact absurd rfl h
    · rcases pk_ix x hn with q | q | q
      · exact absurd q h1
      · exact absurd q h2
      · exact q
def cy_rUs (S : Nat → Nat → Int32) (i : Nat) : Int32 := if ¬ S 3 i = (-1) then 0 else if S 2 i < 60 then 0 else 1
theorem cy_rUs_b {S : Nat → Nat → Int32} {i : Nat} : narrow .boolean (.int (cy_rUs S i)) = .int (cy_rUs S i) := by
  unfold cy_rUs
  repeat' split
  all_goals rfl
def cy_fw (S : Nat → Nat → Int32) (i : Nat) : Int32 := if 70 ≤ S 2 i then 0 else 1
def cy_sa (S : Nat → Nat → Int32) (x : Int32) : Nat → Int32
  | 0 => 0
  | i + 1 => if ¬ S 3 i = x then cy_sa S x i else cy_sa S x i + 1
def cy_lst (S : Nat → Nat → Int32) (x : Int32) : Nat → Int32
  | 0 => (-1)
  | k + 1 => if ¬ S 3 k = x then cy_lst S x k else nI k
theorem cy_dm (x : Int32) : x + Int32.ofInt (-1) = x - 1 := by
  rw [show Int32.ofInt (-1) = -1 from rfl, Int32.sub_eq_add_neg]
theorem cy_p1 {k : Nat} (hk : k < 2 ^ 31) (h : nI k - 1 < 0) : k = 0 := by
  cases k with
  | zero => rfl
  | succ j =>
    rw [nI_pred] at h
    exact absurd h (nI_pos (by omega))
theorem cy_p1' {k : Nat} (h : ¬ nI k - 1 < 0) : ∃ j, k = j + 1 := by
  cases k with
  | zero => exact absurd (by decide) h
  | succ j => exact ⟨j, rfl⟩
def cy_in (z : Int64) (i : Nat) : Int32 := if lg_cmp ((z.toUInt64 >>> ((nI i).toInt64.toUInt64 &&& Int64.toUInt64 63)).toInt64 &&& 1) 0 = 0 then 0 else 1
theorem cy_in_b {z : Int64} {i : Nat} : narrow .boolean (.int (cy_in z i)) = .int (cy_in z i) := by
  unfold cy_in
  repeat' split
  all_goals rfl
/-- which member of a set comes at a place: k staves are left, the next is i, b came before -/
def cy_mo (z : Int64) (x : Int32) : Nat → Nat → Int32 → Int32
  | 0, _, _ => (-1)
  | k + 1, i, b => if cy_in z i = 0 then cy_mo z x k (i + 1) b else if ¬ b = x then cy_mo z x k (i + 1) (b + 1) else nI i
def cy_ps (S : Nat → Nat → Int32) (z : Int64) (x : Int32) : Nat → (Nat → Nat → Int32) × Int32
  | 0 => (S, 0)
  | i + 1 => if cy_in z i = 0 then cy_ps S z x i else (va_up (cy_ps S z x i).1 3 (upd ((cy_ps S z x i).1 3) i x), (cy_ps S z x i).2 + cy_fw (va_up (cy_ps S z x i).1 3 (upd ((cy_ps S z x i).1 3) i x)) i)
theorem cy_ps_n {S : Nat → Nat → Int32} {z : Int64} {x : Int32} {j : Nat} (h : j ≠ 3) : ∀ {i : Nat}, (cy_ps S z x i).1 j = S j
  | 0 => rfl
  | i + 1 => by
    unfold cy_ps
    split
    · exact cy_ps_n h
    · show va_up (cy_ps S z x i).1 3 _ j = _
      rw [cy_un h, cy_ps_n h]
def cy_ts (S : Nat → Nat → Int32) (x : Int32) : Nat → (Nat → Nat → Int32) × Int32
  | 0 => (S, 1)
  | i + 1 => if ¬ (cy_ts S x i).1 3 i = x then cy_ts S x i else (va_up (va_up (cy_ts S x i).1 2 (upd ((cy_ts S x i).1 2) i (cy_mx 0 ((cy_ts S x i).1 2 i - 30)))) 3 (upd ((cy_ts S x i).1 3) i (if (cy_ts S x i).2 = 0 then (-1) else (-2))), 0)
theorem cy_ts_n {S : Nat → Nat → Int32} {x : Int32} {j : Nat} (h : j ≠ 2) (h2 : j ≠ 3) : ∀ {i : Nat}, (cy_ts S x i).1 j = S j
  | 0 => rfl
  | i + 1 => by
    unfold cy_ts
    split
    · exact cy_ts_n h h2
    · show va_up (va_up (cy_ts S x i).1 2 _) 3 _ j = _
      rw [cy_un h2, cy_un h, cy_ts_n h h2]
def cy_sq (S : Nat → Nat → Int32) : Nat → Int32
  | 0 => 0
  | i + 1 => if S (3 * i + 11) 2 = 0 then cy_sq S i else cy_sq S i + 1
def cy_ha (S : Nat → Nat → Int32) : Nat → Int32
  | 0 => 0
  | i + 1 => cy_ha S i + cy_sm (S (3 * i + 13)) 5
def cy_va (S : Nat → Nat → Int32) : Nat → Int32
  | 0 => 0
  | i + 1 => cy_va S i + S (3 * i + 13) 4
def cy_hl (x : Int32) : Int32 := if ¬ (x + 1) - (x + 1) / 12 * 12 = 0 then 0 else 1
theorem cy_hl_b {x : Int32} : narrow .boolean (.int (cy_hl x)) = .int (cy_hl x) := by
  unfold cy_hl
  repeat' split
  all_goals rfl
/-- the first i staves season -/
def cy_se (S : Nat → Nat → Int32) : Nat → Nat → Nat → Int32
  | 0 => S
  | i + 1 => if ¬ cy_se S i 3 i = (-1) then cy_se S i else va_up (cy_se S i) 2 (upd (cy_se S i 2) i (cy_mn 100 (cy_se S i 2 i + 4)))
theorem cy_se_n {S : Nat → Nat → Int32} {j : Nat} (h : j ≠ 2) : ∀ {i : Nat}, cy_se S i j = S j
  | 0 => rfl
  | i + 1 => by
    unfold cy_se
    split
    · exact cy_se_n h
    · rw [cy_un h, cy_se_n h]
/-- the first i casks live a month -/
def cy_lm (S : Nat → Nat → Int32) (w b : Int32) : Nat → (Nat → Nat → Int32) × Int32
  | 0 => (S, 0)
  | i + 1 => (cy_sLv (cy_lm S w b i).1 i w b, (cy_lm S w b i).2 + cy_rLv (cy_lm S w b i).1 i w)
theorem cy_lm_n {S : Nat → Nat → Int32} {w b : Int32} {j : Nat} (h : j < 11) : ∀ {i : Nat}, (cy_lm S w b i).1 j = S j
  | 0 => rfl
  | i + 1 => by
    show cy_sLv (cy_lm S w b i).1 i w b j = _
    rw [cy_sLv_n (by omega) (by omega) (by omega), cy_lm_n h]
def cy_mS (S : Nat → Nat → Int32) (ns nc : Nat) : (Nat → Nat → Int32) × Int32 := cy_lm (cy_se S ns) (S 0 16) (cy_hl (S 0 14)) nc
def cy_sMo (S : Nat → Nat → Int32) (ns nc : Nat) : Nat → Nat → Int32 := va_up (cy_mS S ns nc).1 0 (upd (S 0) 14 (S 0 14 + 1))
/-! the blend -/
def cy_sBc (S : Nat → Nat → Int32) : Nat → Nat → Int32 := va_up S 10 (upd (upd (upd (upd (upd (S 10) 0 (-1)) 1 (-1)) 2 (-1)) 3 (-1)) 4 0)
def cy_df (x t : Int32) : Int32 := if x - t < 0 then -(x - t) else x - t
def cy_ab (x : Int32) : Int32 := if 0 ≤ x then x else 0 - x
def cy_bu (S : Nat → Nat → Int32) (a b t m d : Int32) : Nat → Nat → Int32 := va_up S 10 (upd (upd (upd (upd (upd (S 10) 0 a) 1 b) 2 t) 3 m) 4 d)
def cy_sOf (S : Nat → Nat → Int32) (a b t m tg : Int32) : Nat → Nat → Int32 := if S 10 0 = (-1) then cy_bu S a b t m (cy_ab (m - tg)) else if S 10 4 ≤ cy_ab (m - tg) then S else cy_bu S a b t m (cy_ab (m - tg))
theorem cy_sOf_n {S : Nat → Nat → Int32} {a b t m tg : Int32} {j : Nat} (h : j ≠ 10) : cy_sOf S a b t m tg j = S j := by
  unfold cy_sOf cy_bu
  split
  · rw [cy_un h]
  · split
    · rfl
    · rw [cy_un h]
def cy_mi (ta tb t : Int32) : Int32 := ((t * ta) + ((10 - t) * tb)) / 10
def cy_ob (S : Nat → Nat → Int32) (a b : Nat) (ta tb tg : Int32) : Nat → Nat → Nat → Int32
  | 0 => S
  | k + 1 => cy_sOf (cy_ob S a b ta tb tg k) (nI a) (nI b) (nI (k + 1)) (cy_mi ta tb (nI (k + 1))) tg
theorem cy_ob_n {S : Nat → Nat → Int32} {a b : Nat} {ta tb tg : Int32} {j : Nat} (h : j ≠ 10) : ∀ {k : Nat}, cy_ob S a b ta tb tg k j = S j
  | 0 => rfl
  | k + 1 => by
    show cy_sOf (cy_ob S a b ta tb tg k) _ _ _ _ _ j = _
    rw [cy_sOf_n h, cy_ob_n h]
def cy_fi (S : Nat → Nat → Int32) (a : Nat) (tg : Int32) : Nat → Nat → Nat → Int32
  | 0 => S
  | k + 1 => if cy_rCan (cy_fi S a tg k) a = 0 then cy_fi S a tg k else if cy_rCan (cy_fi S a tg k) (a + 1 + k) = 0 then cy_fi S a tg k else cy_ob (cy_fi S a tg k) a (a + 1 + k) (cy_rOak (cy_fi S a tg k) a) (cy_rOak (cy_fi S a tg k) (a + 1 + k)) tg 9
theorem cy_fi_n {S : Nat → Nat → Int32} {a : Nat} {tg : Int32} {j : Nat} (h : j ≠ 10) : ∀ {k : Nat}, cy_fi S a tg k j = S j
  | 0 => rfl
  | k + 1 => by
    unfold cy_fi
    split
    · exact cy_fi_n h
    · split
      · exact cy_fi_n h
      · rw [cy_ob_n h, cy_fi_n h]
def cy_fo (S : Nat → Nat → Int32) (nc : Nat) (tg : Int32) : Nat → Nat → Nat → Int32
  | 0 => cy_sBc S
  | a + 1 => cy_fi (cy_fo S nc tg a) a tg (nc - (a + 1))
theorem cy_fo_n {S : Nat → Nat → Int32} {nc : Nat} {tg : Int32} {j : Nat} (h : j ≠ 10) : ∀ {a : Nat}, cy_fo S nc tg a j = S j
  | 0 => cy_un h
  | a + 1 => by
    show cy_fi (cy_fo S nc tg a) a tg _ j = _
    rw [cy_fi_n h, cy_fo_n h]
/-! what a cask tells, and its part of the checksum -/
def cy_tell (S : Nat → Nat → Int32) (ns c : Nat) : Nat → Int32
  | 0 => S (3 * c + 11) 0
  | 1 => cy_sa S (nI c) ns
  | 2 => S (3 * c + 11) 3
  | 3 => cy_sm (S (3 * c + 12)) 8
  | 4 => S (3 * c + 11) 5
  | 5 => S (3 * c + 11) 6
  | 6 => S (3 * c + 11) 7
  | 7 => cy_sm (S (3 * c + 13)) 5
  | 8 => S (3 * c + 13) 0
  | 9 => S (3 * c + 13) 1
  | 10 => S (3 * c + 13) 2
  | 11 => S (3 * c + 13) 3
  | 12 => S (3 * c + 13) 4
  | 13 => S (3 * c + 11) 8
  | 14 => cy_rLeak S c
  | _ => if S (3 * c + 11) 2 = 0 then 0 else 1
def cy_dt (S : Nat → Nat → Int32) (ns c : Nat) (d : Int64) : Nat → Int64
  | 0 => d
  | i + 1 => cy_dt S ns c d i * 31 + (cy_tell S ns c i).toInt64
def cy_du (f : Nat → Int32) (d : Int64) : Nat → Int64
  | 0 => d
  | i + 1 => cy_du f d i * 31 + (f i).toInt64
/-! the search: f the sizes, Z the sets -/
def cy_ad (f : Nat → Int32) (Z : Nat → Int64) (w i m : Nat) : Nat → (Nat → Int32) × (Nat → Int64)
  | 0 => (f, Z)
  | t + 1 => if (cy_ad f Z w i m t).1 (m - t) < (cy_ad f Z w i m t).1 (m - t - w) + 1 then cy_ad f Z w i m t else (upd (cy_ad f Z w i m t).1 (m - t) ((cy_ad f Z w i m t).1 (m - t - w) + 1), vp_updL (cy_ad f Z w i m t).2 (m - t) ((cy_ad f Z w i m t).2 (m - t - w) ||| (1 <<< ((nI i).toInt64 &&& 63))))
/-- the staves from the last one down: after t of them -/
def cy_fs (S : Nat → Nat → Int32) (ns m : Nat) (f : Nat → Int32) (Z : Nat → Int64) : Nat → (Nat → Int32) × (Nat → Int64)
  | 0 => (f, Z)
  | t + 1 => if cy_rUs S (ns - 1 - t) = 0 then cy_fs S ns m f Z t else cy_ad (cy_fs S ns m f Z t).1 (cy_fs S ns m f Z t).2 (S 1 (ns - 1 - t)).toNatClampNeg (ns - 1 - t) m (m + 1 - (S 1 (ns - 1 - t)).toNatClampNeg)
/-- the best of the sums: after k of the wider ones -/
def cy_bs (f : Nat → Int32) (g : Nat) : Nat → Nat
  | 0 => g
  | k + 1 => if f (cy_bs f g k) ≤ f (g + 1 + k) then cy_bs f g k else g + 1 + k
theorem cy_bs_le {f : Nat → Int32} {g : Nat} : ∀ {k : Nat}, cy_bs f g k ≤ g + k
  | 0 => Nat.le_refl _
  | k + 1 => by
    have q := cy_bs_le (f := f) (g := g) (k := k)
    unfold cy_bs
    split <;> omega
def cy_f0 (S : Nat → Nat → Int32) : Nat → Int32 := upd (cy_fl (S 9) 1000 1505) 0 0
def cy_Z0 (Z : Nat → Int64) : Nat → Int64 := vp_updL (cy_flL Z (-1) 1505) 0 0
def cy_fz (S : Nat → Nat → Int32) (Z : Nat → Int64) (ns g : Nat) : (Nat → Int32) × (Nat → Int64) := cy_fs S ns (g + 4) (cy_f0 S) (cy_Z0 Z) ns
def cy_rFs (S : Nat → Nat → Int32) (Z : Nat → Int64) (ns g : Nat) : Int64 := (cy_fz S Z ns g).2 (cy_bs (cy_fz S Z ns g).1 g 4)
theorem cy_p1t {ns t : Nat} (h : ¬ nI (ns - t) - 1 < 0) : t < ns := by
  obtain ⟨j, hj⟩ := cy_p1' h
  omega
theorem cy_pt1 {ns t : Nat} (h : t < ns) : nI (ns - t) - 1 = nI (ns - 1 - t) := by
  rw [show ns - t = (ns - 1 - t) + 1 by omega, nI_pred]
