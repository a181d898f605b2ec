/-! the reference: a month -/
theorem cq_hn_c {S S' : Nat → Nat → Int32} {c : Nat} (h6 : S 6 = S' 6) (h7 : S 7 = S' 7) (h8 : S 8 = S' 8) : cq_hn S c = cq_hn S' c := by
  unfold cq_hn cq_so
  rw [h6, h7, h8]
def cq_p1 (S : Nat → Nat → Int32) (c : Nat) : Nat → Nat → Int32 := if cq_al S c ≤ 0 then S else va_up S 15 (upd (S 15) c (S 15 c + (cq_al S c / 100) * cy_mx 0 (8 - S 12 c)))
theorem cq_p1_n {S : Nat → Nat → Int32} {c j : Nat} (h : j ≠ 15) : cq_p1 S c j = S j := by
  unfold cq_p1
  split
  · rfl
  · rw [cy_un h]
def cq_p2 (S : Nat → Nat → Int32) (c : Nat) : Nat → Nat → Int32 := va_up (cq_p1 S c) 11 (upd (cq_p1 S c 11) c (if 2 * cq_al S c < cq_p1 S c 5 (cq_so S c) then cy_mx 0 (cq_p1 S c 11 c - 3) else cy_mn 20 (cq_p1 S c 11 c + 5)))
theorem cq_p2_n {S : Nat → Nat → Int32} {c j : Nat} (h : j ≠ 11) (h2 : j ≠ 15) : cq_p2 S c j = S j := by
  unfold cq_p2
  rw [cy_un h, cq_p1_n h2]
def cq_by (S : Nat → Nat → Int32) (c : Nat) : Int32 := (cq_lk (cq_p2 S c) c + 3) + cq_p2 S c 0 2
def cq_ow (x th : Int32) : Int32 := if x = 0 then 0 else cy_ls x th
def cq_lo (S : Nat → Nat → Int32) (c : Nat) (th : Int32) : Nat → (Nat → Nat → Int32) × Int32
  | 0 => (S, 0)
  | i + 1 => (va_up (cq_lo S c th i).1 14 (upd ((cq_lo S c th i).1 14) (5 * c + i) ((cq_lo S c th i).1 14 (5 * c + i) - cq_ow ((cq_lo S c th i).1 14 (5 * c + i)) th)), (cq_lo S c th i).2 + cq_ow ((cq_lo S c th i).1 14 (5 * c + i)) th)
theorem cq_lo_n {S : Nat → Nat → Int32} {c j : Nat} {th : Int32} (h : j ≠ 14) : ∀ {i : Nat}, (cq_lo S c th i).1 j = S j
  | 0 => rfl
  | i + 1 => by
    show va_up (cq_lo S c th i).1 14 _ j = _
    rw [cy_un h, cq_lo_n h]
def cq_p3 (S : Nat → Nat → Int32) (c : Nat) : (Nat → Nat → Int32) × Int32 := cq_lo (cq_p2 S c) c (cq_by S c) 5
theorem cq_p3_n {S : Nat → Nat → Int32} {c j : Nat} (h : j ≠ 11) (h2 : j ≠ 14) (h3 : j ≠ 15) : (cq_p3 S c).1 j = S j := by
  unfold cq_p3
  rw [cq_lo_n h2, cq_p2_n h h3]
def cq_lf (S : Nat → Nat → Int32) (c : Nat) : Int32 := cq_al (cq_p3 S c).1 c
def cq_p4 (S : Nat → Nat → Int32) (c : Nat) : Nat → Nat → Int32 := va_up (cq_p3 S c).1 13 (upd ((cq_p3 S c).1 13) c (if cq_lf S c ≤ 0 then 0 else if 4 * (cq_p3 S c).1 5 (cq_so S c) ≤ 5 * cq_lf S c then 0 else (cq_p3 S c).1 13 c + 1))
def cq_vi (S : Nat → Nat → Int32) (c : Nat) (x : Int32) : Nat → Nat → Nat → Int32
  | 0 => S
  | k + 1 => va_up (cq_vi S c x k) 14 (upd (cq_vi S c x k 14) (5 * c + k) (if nI k = 4 then x else 0))
theorem cq_vi_n {S : Nat → Nat → Int32} {c j : Nat} {x : Int32} (h : j ≠ 14) : ∀ {k : Nat}, cq_vi S c x k j = S j
  | 0 => rfl
  | k + 1 => by
    show va_up (cq_vi S c x k) 14 _ j = _
    rw [cy_un h, cq_vi_n h]
def cq_p5 (S : Nat → Nat → Int32) (c : Nat) : Nat → Nat → Int32 := if cq_p4 S c 13 c = 6 then va_up (cq_vi (cq_p4 S c) c (cq_lf S c) 5) 13 (upd (cq_vi (cq_p4 S c) c (cq_lf S c) 5 13) c 0) else cq_p4 S c
theorem cq_p5_n {S : Nat → Nat → Int32} {c j : Nat} (h : j ≠ 11) (h2 : j ≠ 13) (h3 : j ≠ 14) (h4 : j ≠ 15) : cq_p5 S c j = S j := by
  have q : cq_p4 S c j = S j := by
    unfold cq_p4
    rw [cy_un h2, cq_p3_n h h3 h4]
  unfold cq_p5
  split
  · rw [cy_un h2, cq_vi_n h3, q]
  · exact q
def cq_ln (S : Nat → Nat → Int32) (c : Nat) : Nat → Nat → Nat → Int32
  | 0 => S
  | i + 1 => va_up (cq_ln S c i) 10 (upd (cq_ln S c i 10) (8 * c + i) (cy_mx 0 (cq_ln S c i 10 (8 * c + i) - 1)))
theorem cq_ln_n {S : Nat → Nat → Int32} {c j : Nat} (h : j ≠ 10) : ∀ {i : Nat}, cq_ln S c i j = S j
  | 0 => rfl
  | i + 1 => by
    show va_up (cq_ln S c i) 10 _ j = _
    rw [cy_un h, cq_ln_n h]
def cq_pc (S : Nat → Nat → Int32) (c : Nat) (x : Int32) : Nat → Nat → Int32 := if x - x / 12 * 12 = 0 then cq_ln (cq_p5 S c) c (cq_hn S c) else cq_p5 S c
theorem cq_pc_n {S : Nat → Nat → Int32} {c j : Nat} {x : Int32} (h : j ≠ 10) (h1 : j ≠ 11) (h2 : j ≠ 13) (h3 : j ≠ 14) (h4 : j ≠ 15) : cq_pc S c x j = S j := by
  unfold cq_pc
  split
  · rw [cq_ln_n h, cq_p5_n h1 h2 h3 h4]
  · exact cq_p5_n h1 h2 h3 h4
theorem cq_pc_e {S : Nat → Nat → Int32} {c i : Nat} {x : Int32} (he : i = 0 ∨ x - x / 12 * 12 = 0) (h : cq_hn S c ≤ i) (hi : i ≤ cq_hn S c) : cq_ln (cq_p5 S c) c i = cq_pc S c x := by
  have e : i = cq_hn S c := Nat.le_antisymm hi h
  unfold cq_pc
  rcases he with he | he
  · rw [← e, he]
    split <;> rfl
  · rw [if_pos he, e]
/-! a month of all; months -/
def cq_se (S : Nat → Nat → Int32) : Nat → Nat → Nat → Int32
  | 0 => S
  | i + 1 => if ¬ cq_se S i 3 i = (-1) then cq_se S i else va_up (cq_se S i) 2 (upd (cq_se S i 2) i (cy_mn 100 (cq_se S i 2 i + 4)))
theorem cq_se_n {S : Nat → Nat → Int32} {j : Nat} (h : j ≠ 2) : ∀ {i : Nat}, cq_se S i j = S j
  | 0 => rfl
  | i + 1 => by
    unfold cq_se
    split
    · exact cq_se_n h
    · rw [cy_un h, cq_se_n h]
def cq_lm (S : Nat → Nat → Int32) : Nat → Nat → Nat → Int32
  | 0 => S
  | i + 1 => if cq_lm S i 8 i = 0 then cq_lm S i else va_up (cq_pc (cq_lm S i) i (cq_lm S i 0 1 + 1)) 0 (upd (cq_pc (cq_lm S i) i (cq_lm S i 0 1 + 1) 0) 3 (cq_lm S i 0 3 + (cq_p3 (cq_lm S i) i).2))
theorem cq_lm_n {S : Nat → Nat → Int32} {j : Nat} (h0 : j ≠ 0) (h : j ≠ 10) (h1 : j ≠ 11) (h2 : j ≠ 13) (h3 : j ≠ 14) (h4 : j ≠ 15) : ∀ {i : Nat}, cq_lm S i j = S j
  | 0 => rfl
  | i + 1 => by
    unfold cq_lm
    split
    · exact cq_lm_n h0 h h1 h2 h3 h4
    · rw [cy_un h0, cq_pc_n h h1 h2 h3 h4, cq_lm_n h0 h h1 h2 h3 h4]
theorem cq_lm_0 {S : Nat → Nat → Int32} {k : Nat} (h : k ≠ 3) : ∀ {i : Nat}, cq_lm S i 0 k = S 0 k
  | 0 => rfl
  | i + 1 => by
    unfold cq_lm
    split
    · exact cq_lm_0 h
    · rw [cy_us, pk_un h, cq_pc_n (by decide) (by decide) (by decide) (by decide) (by decide), cq_lm_0 h]
def cq_mo (S : Nat → Nat → Int32) (ns nc : Nat) : Nat → Nat → Int32 := va_up (cq_lm (cq_se S ns) nc) 0 (upd (cq_lm (cq_se S ns) nc 0) 1 (cq_lm (cq_se S ns) nc 0 1 + 1))
def cq_pm (S : Nat → Nat → Int32) (ns nc : Nat) : Nat → Nat → Nat → Int32
  | 0 => S
  | i + 1 => cq_mo (cq_pm S ns nc i) ns nc
theorem cq_pm_n {S : Nat → Nat → Int32} {ns nc j : Nat} (h0 : j ≠ 0) (h02 : j ≠ 2) (h : j ≠ 10) (h1 : j ≠ 11) (h2 : j ≠ 13) (h3 : j ≠ 14) (h4 : j ≠ 15) : ∀ {i : Nat}, cq_pm S ns nc i j = S j
  | 0 => rfl
  | i + 1 => by
    show cq_mo (cq_pm S ns nc i) ns nc j = _
    unfold cq_mo
    rw [cy_un h0, cq_lm_n h0 h h1 h2 h3 h4, cq_se_n h02, cq_pm_n h0 h02 h h1 h2 h3 h4]
theorem cq_pm_0 {S : Nat → Nat → Int32} {ns nc k : Nat} (h : k ≠ 3) (h1 : k ≠ 1) : ∀ {i : Nat}, cq_pm S ns nc i 0 k = S 0 k
  | 0 => rfl
  | i + 1 => by
    show cq_mo (cq_pm S ns nc i) ns nc 0 k = _
    unfold cq_mo
    rw [cy_us, pk_un h1, cq_lm_0 h, cq_se_n (by decide), cq_pm_0 h h1]
def cq_Pa (S : Nat → Nat → Int32) (x : Int32) (ns nc : Nat) : (Nat → Nat → Int32) × Int32 := if cq_in x 1 60 = 0 then (cq_th S 1, 0) else if S 0 1 + x ≤ 1200 then (cq_pm (cq_rs S) ns nc x.toNatClampNeg, cq_pm (cq_rs S) ns nc x.toNatClampNeg 0 3 - S 0 3) else (cq_th S 2, 0)
def cq_fn (S : Nat → Nat → Int32) (c : Nat) (x : Int32) : Int32 := if x = 0 then cq_al S c else if x = 1 then S 14 (5 * c + 4) else if x = 2 then S 15 c else cq_lk S c
def cq_cb (S : Nat → Nat → Int32) (c : Nat) : Int32 := if S 8 c = 0 then 0 else if cq_al S c ≤ 0 then 0 else if ¬ S 14 (5 * c + 4) = 0 then 0 else 1
theorem cq_cb_b {S : Nat → Nat → Int32} {c : Nat} : narrow .boolean (.int (cq_cb S c)) = .int (cq_cb S c) := by
  unfold cq_cb
  repeat' split
  all_goals rfl
def cq_to (S : Nat → Nat → Int32) (c : Nat) : Int64 := cy_mnL 1000000 (((S 15 c).toInt64 * 1000) / (cq_al S c).toInt64)
def cq_sq (S : Nat → Nat → Int32) : Nat → Int32
  | 0 => 0
  | i + 1 => if S 8 i = 0 then cq_sq S i + 0 else cq_sq S i + 1
def cq_ha (S : Nat → Nat → Int32) : Nat → Int32
  | 0 => 0
  | i + 1 => cq_ha S i + cq_al S i
def cq_va (S : Nat → Nat → Int32) : Nat → Int32
  | 0 => 0
  | i + 1 => cq_va S i + S 14 (5 * i + 4)
def cq_cn (S : Nat → Nat → Int32) (ns nc : Nat) : Nat → Int32
  | 0 => S 0 1
  | 1 => nI ns
  | 2 => cq_sa S (-1) ns
  | 3 => S 0 8
  | 4 => nI nc
  | 5 => cq_sq S nc
  | 6 => cq_ha S nc
  | 7 => cq_va S nc
  | 8 => S 0 3
  | _ => S 0 2
def cq_Co (S : Nat → Nat → Int32) (x : Int32) (ns nc : Nat) : (Nat → Nat → Int32) × Int32 := if cq_in x 0 9 = 0 then (cq_th S 1, 0) else (cq_rs S, cq_cn (cq_rs S) ns nc x.toNatClampNeg)
