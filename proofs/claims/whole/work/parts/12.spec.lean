theorem cy_hC0 {kI kJ kC : ClassId} {ad : Nat → Nat} {Z : Nat → Int64} {c : Nat} {f : Nat → Int32} {v : Int32} : (.inr (1, (cy_fC (ad (3 * c + 12)) (ad (3 * c + 13)) f).set 0 (.int v)) : va_E) = cy_eY kI kJ kC ad Z (3 * c + 11) (upd f 0 v) := by
  rw [cy_eY_o]
  simp [cy_fC, upd]
theorem cy_hC1 {kI kJ kC : ClassId} {ad : Nat → Nat} {Z : Nat → Int64} {c : Nat} {f : Nat → Int32} {v : Int32} : (.inr (1, (cy_fC (ad (3 * c + 12)) (ad (3 * c + 13)) f).set 1 (.int v)) : va_E) = cy_eY kI kJ kC ad Z (3 * c + 11) (upd f 1 v) := by
  rw [cy_eY_o]
  simp [cy_fC, upd]
theorem cy_hC2 {kI kJ kC : ClassId} {ad : Nat → Nat} {Z : Nat → Int64} {c : Nat} {f : Nat → Int32} {v : Int32} : (.inr (1, (cy_fC (ad (3 * c + 12)) (ad (3 * c + 13)) f).set 2 (.int v)) : va_E) = cy_eY kI kJ kC ad Z (3 * c + 11) (upd f 2 v) := by
  rw [cy_eY_o]
  simp [cy_fC, upd]
theorem cy_hC3 {kI kJ kC : ClassId} {ad : Nat → Nat} {Z : Nat → Int64} {c : Nat} {f : Nat → Int32} {v : Int32} : (.inr (1, (cy_fC (ad (3 * c + 12)) (ad (3 * c + 13)) f).set 3 (.int v)) : va_E) = cy_eY kI kJ kC ad Z (3 * c + 11) (upd f 3 v) := by
  rw [cy_eY_o]
  simp [cy_fC, upd]
theorem cy_hC4 {kI kJ kC : ClassId} {ad : Nat → Nat} {Z : Nat → Int64} {c : Nat} {f : Nat → Int32} {v : Int32} : (.inr (1, (cy_fC (ad (3 * c + 12)) (ad (3 * c + 13)) f).set 4 (.int v)) : va_E) = cy_eY kI kJ kC ad Z (3 * c + 11) (upd f 4 v) := by
  rw [cy_eY_o]
  simp [cy_fC, upd]
theorem cy_hC5 {kI kJ kC : ClassId} {ad : Nat → Nat} {Z : Nat → Int64} {c : Nat} {f : Nat → Int32} {v : Int32} : (.inr (1, (cy_fC (ad (3 * c + 12)) (ad (3 * c + 13)) f).set 5 (.int v)) : va_E) = cy_eY kI kJ kC ad Z (3 * c + 11) (upd f 5 v) := by
  rw [cy_eY_o]
  simp [cy_fC, upd]
theorem cy_hC6 {kI kJ kC : ClassId} {ad : Nat → Nat} {Z : Nat → Int64} {c : Nat} {f : Nat → Int32} {v : Int32} : (.inr (1, (cy_fC (ad (3 * c + 12)) (ad (3 * c + 13)) f).set 6 (.int v)) : va_E) = cy_eY kI kJ kC ad Z (3 * c + 11) (upd f 6 v) := by
  rw [cy_eY_o]
  simp [cy_fC, upd]
theorem cy_hC7 {kI kJ kC : ClassId} {ad : Nat → Nat} {Z : Nat → Int64} {c : Nat} {f : Nat → Int32} {v : Int32} : (.inr (1, (cy_fC (ad (3 * c + 12)) (ad (3 * c + 13)) f).set 7 (.int v)) : va_E) = cy_eY kI kJ kC ad Z (3 * c + 11) (upd f 7 v) := by
  rw [cy_eY_o]
  simp [cy_fC, upd]
theorem cy_hC8 {kI kJ kC : ClassId} {ad : Nat → Nat} {Z : Nat → Int64} {c : Nat} {f : Nat → Int32} {v : Int32} : (.inr (1, (cy_fC (ad (3 * c + 12)) (ad (3 * c + 13)) f).set 8 (.int v)) : va_E) = cy_eY kI kJ kC ad Z (3 * c + 11) (upd f 8 v) := by
  rw [cy_eY_o]
  simp [cy_fC, upd]
theorem cy_hY3 {kI kJ kC : ClassId} {ad : Nat → Nat} {Z : Nat → Int64} {f : Nat → Int32} {v : Int32} : (.inr (2, (cy_fY ad f).set 3 (.int v)) : va_E) = cy_eY kI kJ kC ad Z 0 (upd f 3 v) := by
  simp [cy_eY, cy_fY, upd]
theorem cy_hY7 {kI kJ kC : ClassId} {ad : Nat → Nat} {Z : Nat → Int64} {f : Nat → Int32} {v : Int32} : (.inr (2, (cy_fY ad f).set 7 (.int v)) : va_E) = cy_eY kI kJ kC ad Z 0 (upd f 7 v) := by
  simp [cy_eY, cy_fY, upd]
theorem cy_hY9 {kI kJ kC : ClassId} {ad : Nat → Nat} {Z : Nat → Int64} {f : Nat → Int32} {v : Int32} : (.inr (2, (cy_fY ad f).set 9 (.int v)) : va_E) = cy_eY kI kJ kC ad Z 0 (upd f 9 v) := by
  simp [cy_eY, cy_fY, upd]
theorem cy_hY14 {kI kJ kC : ClassId} {ad : Nat → Nat} {Z : Nat → Int64} {f : Nat → Int32} {v : Int32} : (.inr (2, (cy_fY ad f).set 14 (.int v)) : va_E) = cy_eY kI kJ kC ad Z 0 (upd f 14 v) := by
  simp [cy_eY, cy_fY, upd]
theorem cy_hY15 {kI kJ kC : ClassId} {ad : Nat → Nat} {Z : Nat → Int64} {f : Nat → Int32} {v : Int32} : (.inr (2, (cy_fY ad f).set 15 (.int v)) : va_E) = cy_eY kI kJ kC ad Z 0 (upd f 15 v) := by
  simp [cy_eY, cy_fY, upd]
theorem cy_hY16 {kI kJ kC : ClassId} {ad : Nat → Nat} {Z : Nat → Int64} {f : Nat → Int32} {v : Int32} : (.inr (2, (cy_fY ad f).set 16 (.int v)) : va_E) = cy_eY kI kJ kC ad Z 0 (upd f 16 v) := by
  simp [cy_eY, cy_fY, upd]
theorem cy_hB0 {kI kJ kC : ClassId} {ad : Nat → Nat} {Z : Nat → Int64} {f : Nat → Int32} {v : Int32} : (.inr (0, (cy_fB f).set 0 (.int v)) : va_E) = cy_eY kI kJ kC ad Z 10 (upd f 0 v) := by
  simp [cy_eY, cy_fB, upd]
theorem cy_hB1 {kI kJ kC : ClassId} {ad : Nat → Nat} {Z : Nat → Int64} {f : Nat → Int32} {v : Int32} : (.inr (0, (cy_fB f).set 1 (.int v)) : va_E) = cy_eY kI kJ kC ad Z 10 (upd f 1 v) := by
  simp [cy_eY, cy_fB, upd]
theorem cy_hB2 {kI kJ kC : ClassId} {ad : Nat → Nat} {Z : Nat → Int64} {f : Nat → Int32} {v : Int32} : (.inr (0, (cy_fB f).set 2 (.int v)) : va_E) = cy_eY kI kJ kC ad Z 10 (upd f 2 v) := by
  simp [cy_eY, cy_fB, upd]
theorem cy_hB3 {kI kJ kC : ClassId} {ad : Nat → Nat} {Z : Nat → Int64} {f : Nat → Int32} {v : Int32} : (.inr (0, (cy_fB f).set 3 (.int v)) : va_E) = cy_eY kI kJ kC ad Z 10 (upd f 3 v) := by
  simp [cy_eY, cy_fB, upd]
theorem cy_hB4 {kI kJ kC : ClassId} {ad : Nat → Nat} {Z : Nat → Int64} {f : Nat → Int32} {v : Int32} : (.inr (0, (cy_fB f).set 4 (.int v)) : va_E) = cy_eY kI kJ kC ad Z 10 (upd f 4 v) := by
  simp [cy_eY, cy_fB, upd]
theorem cy_hM0 {kI kZ : ClassId} {ad : Nat → Nat} {f : Nat → Int32} {v : Int32} : (.inr (3, (cy_fM ad f).set 0 (.int v)) : va_E) = cy_eM kI kZ ad 0 (upd f 0 v) := by
  simp [cy_eM, cy_fM, upd]
theorem cy_hM1 {kI kZ : ClassId} {ad : Nat → Nat} {f : Nat → Int32} {v : Int32} : (.inr (3, (cy_fM ad f).set 1 (.int v)) : va_E) = cy_eM kI kZ ad 0 (upd f 1 v) := by
  simp [cy_eM, cy_fM, upd]
theorem cy_hM2 {kI kZ : ClassId} {ad : Nat → Nat} {f : Nat → Int32} {v : Int32} : (.inr (3, (cy_fM ad f).set 2 (.int v)) : va_E) = cy_eM kI kZ ad 0 (upd f 2 v) := by
  simp [cy_eM, cy_fM, upd]
theorem cy_hM3 {kI kZ : ClassId} {ad : Nat → Nat} {f : Nat → Int32} {v : Int32} : (.inr (3, (cy_fM ad f).set 3 (.int v)) : va_E) = cy_eM kI kZ ad 0 (upd f 3 v) := by
  simp [cy_eM, cy_fM, upd]
theorem cy_hM4 {kI kZ : ClassId} {ad : Nat → Nat} {f : Nat → Int32} {v : Int32} : (.inr (3, (cy_fM ad f).set 4 (.int v)) : va_E) = cy_eM kI kZ ad 0 (upd f 4 v) := by
  simp [cy_eM, cy_fM, upd]
theorem cy_hM8 {kI kZ : ClassId} {ad : Nat → Nat} {f : Nat → Int32} {v : Int32} : (.inr (3, (cy_fM ad f).set 8 (.int v)) : va_E) = cy_eM kI kZ ad 0 (upd f 8 v) := by
  simp [cy_eM, cy_fM, upd]
theorem cy_hM12 {kI kZ : ClassId} {ad : Nat → Nat} {f : Nat → Int32} {v : Int32} : (.inr (3, (cy_fM ad f).set 12 (.int v)) : va_E) = cy_eM kI kZ ad 0 (upd f 12 v) := by
  simp [cy_eM, cy_fM, upd]
theorem cy_hM23 {kI kZ : ClassId} {ad : Nat → Nat} {f : Nat → Int32} {v : Int32} : (.inr (3, (cy_fM ad f).set 23 (.int v)) : va_E) = cy_eM kI kZ ad 0 (upd f 23 v) := by
  simp [cy_eM, cy_fM, upd]
/-! what the cask's methods answer and leave: S is the yard's state (a cell's numbers by its place) -/
def cy_ls (x th : Int32) : Int32 := (cy_mnL x.toInt64 (cy_mxL 1 ((x.toInt64 * th.toInt64) / 1000))).toInt32
def cy_rLeak (S : Nat → Nat → Int32) (c : Nat) : Int32 := if ¬ S (3 * c + 11) 2 = 0 then cy_mx 0 (((30 + (10 * (S (3 * c + 11) 3))) - (2 * (cy_sm (S (3 * c + 12)) 8))) - (S (3 * c + 11) 5)) else 0
def cy_rOak (S : Nat → Nat → Int32) (c : Nat) : Int32 := if ¬ cy_sm (S (3 * c + 13)) 5 = 0 then (cy_mnL 1000000 (((S (3 * c + 11) 8).toInt64 * 1000) / (cy_sm (S (3 * c + 13)) 5).toInt64)).toInt32 else 0
def cy_rCan (S : Nat → Nat → Int32) (c : Nat) : Int32 := if S (3 * c + 11) 2 = 0 then 0 else if cy_sm (S (3 * c + 13)) 5 ≤ 0 then 0 else if ¬ S (3 * c + 13) 4 = 0 then 0 else 1
def cy_sCf (S : Nat → Nat → Int32) (c : Nat) : Nat → Nat → Int32 := if ¬ cy_sm (S (3 * c + 13)) 5 = 0 then S else va_up S (3 * c + 11) (upd (S (3 * c + 11)) 6 (S (3 * c + 11) 6 + 1))
def cy_gr (S : Nat → Nat → Int32) (c : Nat) : Int32 := (cy_sm (S (3 * c + 13)) 5 / 100) * (8 - S (3 * c + 11) 6)
def cy_sTk (S : Nat → Nat → Int32) (c : Nat) : Nat → Nat → Int32 := if cy_gr S c ≤ 0 then S else va_up S (3 * c + 11) (upd (S (3 * c + 11)) 8 (S (3 * c + 11) 8 + cy_gr S c))
def cy_sSw (S : Nat → Nat → Int32) (c : Nat) : Nat → Nat → Int32 := if 2 * cy_sm (S (3 * c + 13)) 5 < S (3 * c + 11) 1 then va_up S (3 * c + 11) (upd (S (3 * c + 11)) 5 (cy_mx 0 (S (3 * c + 11) 5 - 3))) else va_up S (3 * c + 11) (upd (S (3 * c + 11)) 5 (cy_mn 20 (S (3 * c + 11) 5 + 5)))
/-- the losses of the first i liquids -/
def cy_lo (S : Nat → Nat → Int32) (c : Nat) (th : Int32) : Nat → (Nat → Nat → Int32) × Int32
  | 0 => (S, 0)
  | i + 1 => if (cy_lo S c th i).1 (3 * c + 13) i ≤ 0 then cy_lo S c th i else (va_up (cy_lo S c th i).1 (3 * c + 13) (upd ((cy_lo S c th i).1 (3 * c + 13)) i ((cy_lo S c th i).1 (3 * c + 13) i - cy_ls ((cy_lo S c th i).1 (3 * c + 13) i) th)), (cy_lo S c th i).2 + cy_ls ((cy_lo S c th i).1 (3 * c + 13) i) th)
def cy_air (S : Nat → Nat → Int32) (c : Nat) : Int32 := if cy_sm (S (3 * c + 13)) 5 ≤ 0 then 0 else if 4 * S (3 * c + 11) 1 ≤ 5 * cy_sm (S (3 * c + 13)) 5 then 0 else S (3 * c + 11) 7 + 1
def cy_sAir (S : Nat → Nat → Int32) (c : Nat) : Nat → Nat → Int32 := if ¬ cy_air S c = 6 then va_up S (3 * c + 11) (upd (S (3 * c + 11)) 7 (cy_air S c)) else va_up (va_up S (3 * c + 13) (upd (cy_fl (S (3 * c + 13)) 0 5) 4 (cy_sm (S (3 * c + 13)) 5))) (3 * c + 11) (upd (upd (S (3 * c + 11)) 7 (cy_air S c)) 7 0)
def cy_ln (S : Nat → Nat → Int32) (c : Nat) : Nat → Nat → Nat → Int32
  | 0 => S
  | i + 1 => va_up (cy_ln S c i) (3 * c + 12) (upd (cy_ln S c i (3 * c + 12)) i (cy_mx 0 (cy_ln S c i (3 * c + 12) i - 1)))
def cy_po (S : Nat → Nat → Int32) (c : Nat) : Nat → Nat → Nat → Int32
  | 0 => S
  | i + 1 => va_up (cy_po S c i) (3 * c + 12) (upd (cy_po S c i (3 * c + 12)) i 3)
/-- a month of a cask: the numbers behind its air, and the loss -/
def cy_S2 (S : Nat → Nat → Int32) (c : Nat) : Nat → Nat → Int32 := cy_sSw (cy_sTk S c) c
def cy_lq (S : Nat → Nat → Int32) (c : Nat) (w : Int32) : (Nat → Nat → Int32) × Int32 := cy_lo (cy_S2 S c) c ((cy_rLeak (cy_S2 S c) c + 3) + w) 5
def cy_sLv (S : Nat → Nat → Int32) (c : Nat) (w b : Int32) : Nat → Nat → Int32 := if ¬ S (3 * c + 11) 2 = 0 then (if b = 0 then cy_sAir (cy_lq S c w).1 c else cy_ln (cy_sAir (cy_lq S c w).1 c) c 8) else S
def cy_rLv (S : Nat → Nat → Int32) (c : Nat) (w : Int32) : Int32 := if ¬ S (3 * c + 11) 2 = 0 then (cy_lq S c w).2 else 0
def cy_sMl (S : Nat → Nat → Int32) (c d i : Nat) (x : Int32) : Nat → Nat → Int32 := va_up (va_up S (3 * c + 13) (upd (S (3 * c + 13)) i (S (3 * c + 13) i - x))) (3 * d + 13) (upd (S (3 * d + 13)) i (S (3 * d + 13) i + x))
def cy_pt (S : Nat → Nat → Int32) (c i : Nat) (x all : Int32) : Int32 := (((S (3 * c + 13) i).toInt64 * x.toInt64) / all.toInt64).toInt32
def cy_m1 (S : Nat → Nat → Int32) (c d : Nat) (x all : Int32) : Nat → (Nat → Nat → Int32) × Int32
  | 0 => (S, 0)
  | i + 1 => (cy_sMl (cy_m1 S c d x all i).1 c d i (cy_pt (cy_m1 S c d x all i).1 c i x all), (cy_m1 S c d x all i).2 + cy_pt (cy_m1 S c d x all i).1 c i x all)
def cy_m2 (S : Nat → Nat → Int32) (c d : Nat) (x mv : Int32) : Nat → (Nat → Nat → Int32) × Int32
  | 0 => (S, mv)
  | i + 1 => if x ≤ (cy_m2 S c d x mv i).2 then cy_m2 S c d x mv i else if (cy_m2 S c d x mv i).1 (3 * c + 13) i ≤ 0 then cy_m2 S c d x mv i else (cy_sMl (cy_m2 S c d x mv i).1 c d i 1, (cy_m2 S c d x mv i).2 + 1)
theorem cy_m2_stop {S : Nat → Nat → Int32} {c d : Nat} {x mv : Int32} {i : Nat} (h : x ≤ (cy_m2 S c d x mv i).2) : ∀ k, cy_m2 S c d x mv (i + k) = cy_m2 S c d x mv i
  | 0 => rfl
  | k + 1 => by
    have q := cy_m2_stop h k
    have h2 : x ≤ (cy_m2 S c d x mv (i + k)).2 := by rw [q]; exact h
    exact (if_pos h2).trans q
def cy_mq (S : Nat → Nat → Int32) (c d : Nat) (x all : Int32) : Nat → Nat → Int32 := (cy_m2 (cy_m1 S c d x all 5).1 c d x (cy_m1 S c d x all 5).2 5).1
def cy_gp (S : Nat → Nat → Int32) (c : Nat) (x all : Int32) : Int32 := (((S (3 * c + 11) 8).toInt64 * x.toInt64) / all.toInt64).toInt32
def cy_sMv (S : Nat → Nat → Int32) (c d : Nat) (x all : Int32) : Nat → Nat → Int32 := va_up (va_up (cy_mq S c d x all) (3 * c + 11) (upd (cy_mq S c d x all (3 * c + 11)) 8 (cy_mq S c d x all (3 * c + 11) 8 - cy_gp (cy_mq S c d x all) c x all))) (3 * d + 11) (upd (cy_mq S c d x all (3 * d + 11)) 8 (cy_mq S c d x all (3 * d + 11) 8 + cy_gp (cy_mq S c d x all) c x all))
def cy_sCl (S : Nat → Nat → Int32) (c : Nat) : Nat → Nat → Int32 := va_up (va_up (va_up S (3 * c + 11) (upd (upd (upd (upd (upd (upd (upd (S (3 * c + 11)) 2 0) 3 0) 4 0) 5 0) 6 0) 7 0) 8 0)) (3 * c + 12) (cy_fl (S (3 * c + 12)) 0 8)) (3 * c + 13) (cy_fl (S (3 * c + 13)) 0 5)
def cy_cpf (f g : Nat → Int32) : Nat → Int32 := upd (upd (upd (upd (upd (upd (upd (upd (upd f 0 (g 0)) 1 (g 1)) 2 (g 2)) 3 (g 3)) 4 (g 4)) 5 (g 5)) 6 (g 6)) 7 (g 7)) 8 (g 8)
def cy_sCp (S : Nat → Nat → Int32) (c d : Nat) : Nat → Nat → Int32 := va_up (va_up (va_up S (3 * c + 11) (cy_cpf (S (3 * c + 11)) (S (3 * d + 11)))) (3 * c + 12) (va_cpy (S (3 * d + 12)) (S (3 * c + 12)) 0 0 8)) (3 * c + 13) (va_cpy (S (3 * d + 13)) (S (3 * c + 13)) 0 0 5)
theorem cy_l0 {x : Int32} (h : ¬ x = 0) : ¬ x.toInt64 = 0 := fun q => h (by
  have := congrArg Int64.toInt q
  rw [Int32.toInt_toInt64] at this
  exact Int32.toInt_inj.mp this)
theorem cy_rCan_b {S : Nat → Nat → Int32} {c : Nat} : narrow .boolean (.int (cy_rCan S c)) = .int (cy_rCan S c) := by
  unfold cy_rCan
  repeat' split
  all_goals rfl
theorem cy_po_n {S : Nat → Nat → Int32} {c j : Nat} (h : j ≠ 3 * c + 12) : ∀ {i : Nat}, cy_po S c i j = S j
  | 0 => rfl
  | i + 1 => by
    show va_up (cy_po S c i) (3 * c + 12) _ j = _
    rw [cy_un h, cy_po_n h]
theorem cy_bn {x : Int32} (h : x = 0 ∨ x = 1) : narrow .boolean (.int x) = .int x := by
  rcases h with h | h <;> (subst h; rfl)
theorem cy_bf {x : Int32} (h : x = 0 ∨ x = 1) : fits .boolean (.int x) = true := by
  rcases h with h | h <;> (subst h; rfl)
