/-! what the relation gives to the contracts -/
section RelUse
variable {S M : Nat → Nat → Int32} {ns no nc mo t : Nat}
theorem Rel.wd (h : Rel S M ns no nc mo t) : ∀ i, i < ns → 1 ≤ (S 1 i).toNatClampNeg ∧ (S 1 i).toNatClampNeg ≤ 120 ∧ S 1 i = nI (S 1 i).toNatClampNeg := by
  intro i hi
  obtain ⟨-, ⟨w, h1, h2, e⟩, -⟩ := h.2.1 i hi
  obtain ⟨e1, e2⟩ := nI_self (by omega) e
  exact ⟨by omega, by omega, e2⟩
theorem Rel.wdM (h : Rel S M ns no nc mo t) : ∀ i, i < ns → 1 ≤ (M 1 i).toNatClampNeg ∧ (M 1 i).toNatClampNeg ≤ 120 ∧ M 1 i = nI (M 1 i).toNatClampNeg := by
  intro i hi
  rw [← (h.2.1 i hi).1.1]
  exact h.wd i hi
theorem Rel.gi (h : Rel S M ns no nc mo t) : ∀ j, j < no → 300 ≤ (S 4 j).toNatClampNeg ∧ (S 4 j).toNatClampNeg ≤ 1500 ∧ S 4 j = nI (S 4 j).toNatClampNeg := by
  intro j hj
  obtain ⟨-, ⟨w, h1, h2, e⟩, -⟩ := h.2.2.1.1 j hj
  obtain ⟨e1, e2⟩ := nI_self (by omega) e
  exact ⟨by omega, by omega, e2⟩
theorem Rel.giM (h : Rel S M ns no nc mo t) : ∀ j, j < no → 300 ≤ (M 4 j).toNatClampNeg ∧ (M 4 j).toNatClampNeg ≤ 1500 ∧ M 4 j = nI (M 4 j).toNatClampNeg := by
  intro j hj
  rw [← (h.2.2.1.1 j hj).1.1]
  exact h.gi j hj
theorem Rel.ho (h : Rel S M ns no nc mo t) : ∀ j, j < no → (S 6 j).toNatClampNeg ≤ 8 ∧ S 6 j = nI (S 6 j).toNatClampNeg := by
  intro j hj
  obtain ⟨-, -, -, w, h1, h2, e⟩ := h.2.2.1.1 j hj
  obtain ⟨e1, e2⟩ := nI_self (by omega) e
  exact ⟨by omega, e2⟩
theorem Rel.hc (h : Rel S M ns no nc mo t) : ∀ c, c < nc → (S (3 * c + 11) 4).toNatClampNeg ≤ 8 ∧ S (3 * c + 11) 4 = nI (S (3 * c + 11) 4).toNatClampNeg := by
  intro c hc
  have h12 := h.1.2.2.1.2.2
  rcases (h.2.2.2.1 c hc).2 with ⟨-, -, q⟩ | ⟨-, -, q⟩
  · rw [q.1.2.2.1]
    exact h.ok.2 _ (h.ok.1 c (by omega)).1
  · rw [q.1 4 (by decide) (by decide)]
    exact ⟨by decide, by decide⟩
theorem Rel.b2 (h : Rel S M ns no nc mo t) : ∀ c, c < nc → S (3 * c + 11) 2 = 0 ∨ S (3 * c + 11) 2 = 1 := by
  intro c hc
  rcases (h.2.2.2.1 c hc).2 with ⟨q, -⟩ | ⟨q, -⟩
  · exact Or.inr q
  · exact Or.inl q
theorem Rel.so (h : Rel S M ns no nc mo t) : ∀ c, c < nc → S (3 * c + 11) 2 = M 8 c := by
  intro c hc
  rcases (h.2.2.2.1 c hc).2 with ⟨q, q2, -⟩ | ⟨q, q2, -⟩ <;> rw [q, q2]
theorem Rel.st (h : Rel S M ns no nc mo t) : ∀ c, c < nc → ¬ M 8 c = 0 → ∃ i, i < ns ∧ M 3 i = nI c := by
  intro c hc h8
  rcases (h.2.2.2.1 c hc).2 with ⟨-, -, q⟩ | ⟨-, q2, -⟩
  · obtain ⟨i, hi, e⟩ := q.2.2.2.2
    exact ⟨i, hi, by rw [← (h.2.1 i hi).1.2.2]; exact e⟩
  · exact absurd q2 h8
theorem Rel.hd (h : Rel S M ns no nc mo t) : ∀ c, c < nc → cq_hH M c := by
  intro c hc
  rcases (h.2.2.2.1 c hc).2 with ⟨-, -, q⟩ | ⟨-, -, q⟩
  · exact q.2.1.2.1
  · intro k hk
    unfold cq_hN
    rw [(q.2.2.1 k hk).2]
    exact ⟨by decide, by decide⟩
/-- the reference's note of what was thrown is no part of it -/
theorem Rel.c0 {f : Nat → Int32} (hf : ∀ k, k ≠ 0 → f k = M 0 k) (h : Rel S M ns no nc mo t) : Rel S (va_up M 0 f) ns no nc mo t := by
  have e : ∀ j, j ≠ 0 → va_up M 0 f j = M j := fun j hj => cy_un hj
  have e0 : va_up M 0 f 0 = f := cy_us
  have g : ∀ n, R_gr (va_up M 0 f) n = R_gr M n := by
    intro n
    induction n with
    | zero => rfl
    | succ n ih =>
      show R_gr (va_up M 0 f) n + (va_up M 0 f 15 n).toNatClampNeg = R_gr M n + (M 15 n).toNatClampNeg
      rw [ih, e 15 (by decide)]
  unfold Rel R_n R_s1 R_o1 R_c1 R_cs R_cb cq_hH cq_hW cq_hN cq_so
  rw [g, e0, e 1 (by decide), e 2 (by decide), e 3 (by decide), e 4 (by decide), e 5 (by decide), e 6 (by decide), e 7 (by decide), e 8 (by decide), e 9 (by decide), e 10 (by decide), e 11 (by decide), e 12 (by decide), e 13 (by decide), e 14 (by decide), e 15 (by decide), hf 4 (by decide), hf 8 (by decide), hf 12 (by decide), hf 1 (by decide), hf 3 (by decide), hf 2 (by decide)]
  exact h
theorem Rel.rs (h : Rel S M ns no nc mo t) : Rel S (cq_rs M) ns no nc mo t := h.c0 (fun k hk => pk_un hk)
theorem Rel.th {k : Int32} (h : Rel S M ns no nc mo t) : Rel S (cq_th M k) ns no nc mo t := h.c0 (fun j hj => by rw [pk_un hj, pk_un hj])
end RelUse
