/-! the reference's search -/
theorem cy_ff {f : Nat → Int32} {k : Nat} {a b : Int32} : upd (upd f k a) k b = upd f k b := by
  funext j
  unfold upd
  by_cases h : j = k <;> simp [h]
def cq_f1 (f : Nat → Int32) (b : Nat) : Nat → Nat → Int32
  | 0 => f
  | k + 1 => upd (cq_f1 f b k) (b + k) (if nI k = 0 then 0 else 1000)
def cq_wd (S : Nat → Nat → Int32) (s : Nat) : Nat := (S 1 s).toNatClampNeg
def cq_wi (S : Nat → Nat → Int32) (f : Nat → Int32) (s k : Nat) : Int32 := if cy_rUs S s = 0 then 1000 else if nI k < nI (cq_wd S s) then 1000 else f (((s + 1) * 1505) + k - cq_wd S s) + 1
def cq_f2 (S : Nat → Nat → Int32) (f : Nat → Int32) (s : Nat) : Nat → Nat → Int32
  | 0 => f
  | k + 1 => upd (cq_f2 S f s k) ((s * 1505) + k) (cy_mn (cq_f2 S f s k (((s + 1) * 1505) + k)) (cq_wi S (cq_f2 S f s k) s k))
def cq_f3 (S : Nat → Nat → Int32) (f : Nat → Int32) (ns : Nat) : Nat → Nat → Int32
  | 0 => f
  | t + 1 => cq_f2 S (cq_f3 S f ns t) (ns - 1 - t) 1505
def cq_F (S : Nat → Nat → Int32) (ns : Nat) : Nat → Int32 := cq_f3 S (cq_f1 (S 16) (ns * 1505) 1505) ns ns
/-- the best girth among the first k -/
def cq_lf2 (f : Nat → Int32) (g : Nat) : Nat → Int32
  | 0 => (-1)
  | k + 1 => if 1000 ≤ f (g + k) then cq_lf2 f g k else if cq_lf2 f g k = (-1) then nI (g + k) else if f (cq_lf2 f g k).toNatClampNeg ≤ f (g + k) then cq_lf2 f g k else nI (g + k)
theorem cq_lf2_in {f : Nat → Int32} {g : Nat} (hg : g ≤ 1500) : ∀ {k : Nat}, k ≤ 5 → ¬ cq_lf2 f g k = (-1) → (cq_lf2 f g k).toNatClampNeg < 1505 ∧ cq_lf2 f g k = nI (cq_lf2 f g k).toNatClampNeg
  | 0, _, h => absurd rfl h
  | k + 1, hk, h => by
    have new : (nI (g + k)).toNatClampNeg < 1505 ∧ nI (g + k) = nI (nI (g + k)).toNatClampNeg := by
      rw [nI_clamp (by omega)]
      exact ⟨by omega, rfl⟩
    unfold cq_lf2 at h ⊢
    split at h
    · next q => rw [if_pos q]; exact cq_lf2_in hg (by omega) h
    · next q =>
      rw [if_neg q]
      split at h
      · next q2 => rw [if_pos q2]; exact new
      · next q2 =>
        rw [if_neg q2]
        split at h
        · next q3 => rw [if_pos q3]; exact cq_lf2_in hg (by omega) h
        · next q3 => rw [if_neg q3]; exact new
/-- the choice: the row of members, how many, what is left of the girth -/
def cq_ch (S : Nat → Nat → Int32) (F : Nat → Int32) (n0 : Nat) : Nat → (Nat → Int32) × Nat × Nat
  | 0 => (S 17, 0, n0)
  | s + 1 => if (cq_ch S F n0 s).2.2 = 0 then cq_ch S F n0 s else if cy_rUs S s = 0 then cq_ch S F n0 s else if (cq_ch S F n0 s).2.2 < cq_wd S s then cq_ch S F n0 s else if F (((s + 1) * 1505) + (cq_ch S F n0 s).2.2 - cq_wd S s) + 1 = F ((s * 1505) + (cq_ch S F n0 s).2.2) then (upd (cq_ch S F n0 s).1 (cq_ch S F n0 s).2.1 (nI s), (cq_ch S F n0 s).2.1 + 1, (cq_ch S F n0 s).2.2 - cq_wd S s) else cq_ch S F n0 s
theorem cq_ch_le {S : Nat → Nat → Int32} {F : Nat → Int32} {n0 : Nat} : ∀ {s : Nat}, (cq_ch S F n0 s).2.1 ≤ s ∧ (cq_ch S F n0 s).2.2 ≤ n0
  | 0 => ⟨Nat.le_refl _, Nat.le_refl _⟩
  | s + 1 => by
    have h := cq_ch_le (S := S) (F := F) (n0 := n0) (s := s)
    have k : (cq_ch S F n0 s).2.1 ≤ s + 1 ∧ (cq_ch S F n0 s).2.2 ≤ n0 := ⟨by omega, h.2⟩
    unfold cq_ch
    split
    · exact k
    · split
      · exact k
      · split
        · exact k
        · split
          · exact ⟨Nat.succ_le_succ h.1, Nat.le_trans (Nat.sub_le _ _) h.2⟩
          · exact k
theorem cq_ch_stop {S : Nat → Nat → Int32} {F : Nat → Int32} {n0 s : Nat} (h : (cq_ch S F n0 s).2.2 = 0) : ∀ k, cq_ch S F n0 (s + k) = cq_ch S F n0 s
  | 0 => rfl
  | k + 1 => by
    have q := cq_ch_stop h k
    have h2 : (cq_ch S F n0 (s + k)).2.2 = 0 := by rw [q]; exact h
    exact (if_pos h2).trans q
theorem cq_ch_mem {S : Nat → Nat → Int32} {F : Nat → Int32} {n0 : Nat} : ∀ {s i : Nat}, i < (cq_ch S F n0 s).2.1 → ∃ j, j < s ∧ (cq_ch S F n0 s).1 i = nI j
  | 0, i, h => absurd h (Nat.not_lt_zero _)
  | s + 1, i, h => by
    have key : i < (cq_ch S F n0 s).2.1 → ∃ j, j < s + 1 ∧ (cq_ch S F n0 s).1 i = nI j := fun h => by
      obtain ⟨j, hj, e⟩ := cq_ch_mem h
      exact ⟨j, by omega, e⟩
    unfold cq_ch at h ⊢
    split at h
    · next q => rw [if_pos q]; exact key h
    · next q =>
      rw [if_neg q]
      split at h
      · next q2 => rw [if_pos q2]; exact key h
      · next q2 =>
        rw [if_neg q2]
        split at h
        · next q3 => rw [if_pos q3]; exact key h
        · next q3 =>
          rw [if_neg q3]
          split at h
          · next q4 =>
            rw [if_pos q4]
            by_cases g : i = (cq_ch S F n0 s).2.1
            · subst g
              exact ⟨s, by omega, pk_us⟩
            · show ∃ j, j < s + 1 ∧ upd (cq_ch S F n0 s).1 (cq_ch S F n0 s).2.1 (nI s) i = nI j
              rw [pk_un g]
              have h3 : i < (cq_ch S F n0 s).2.1 + 1 := h
              exact key (by omega)
          · next q4 => rw [if_neg q4]; exact key h
theorem cq_e17 {S : Nat → Nat → Int32} {F G : Nat → Int32} : va_up (va_up S 16 F) 0 G = va_up (va_up (va_up S 16 F) 17 (S 17)) 0 G := by
  have e : va_up (va_up S 16 F) 17 (S 17) = va_up S 16 F := by
    funext z
    by_cases h : z = 17
    · subst h; simp [va_up]
    · simp [va_up, h]
  rw [e]
def cq_lft (S : Nat → Nat → Int32) (ns g : Nat) : Int32 := cq_lf2 (cq_F S ns) g 5
def cq_chs (S : Nat → Nat → Int32) (ns g : Nat) : (Nat → Int32) × Nat × Nat := cq_ch S (cq_F S ns) (cq_lft S ns g).toNatClampNeg ns
def cq_sFd (S : Nat → Nat → Int32) (ns g : Nat) : Nat → Nat → Int32 := if ¬ cq_lft S ns g = (-1) then va_up (va_up (va_up S 16 (cq_F S ns)) 17 (cq_chs S ns g).1) 0 (upd (S 0) 23 (nI (cq_chs S ns g).2.1)) else va_up (va_up S 16 (cq_F S ns)) 0 (upd (S 0) 23 0)
def cq_rFd (S : Nat → Nat → Int32) (ns g : Nat) : Int32 := if ¬ cq_lft S ns g = (-1) then 1 else 0
theorem cq_rFd_b {S : Nat → Nat → Int32} {ns g : Nat} : narrow .boolean (.int (cq_rFd S ns g)) = .int (cq_rFd S ns g) := by
  unfold cq_rFd
  repeat' split
  all_goals rfl
