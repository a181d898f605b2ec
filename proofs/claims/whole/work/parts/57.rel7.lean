/-! sums that both sides make -/
theorem cy_sm_c {f g : Nat → Int32} : ∀ {n : Nat}, (∀ k, k < n → f k = g k) → cy_sm f n = cy_sm g n
  | 0, _ => rfl
  | n + 1, h => by
    show cy_sm f n + f n = cy_sm g n + g n
    rw [cy_sm_c (fun k hk => h k (by omega)), h n (by omega)]
theorem cy_sm_z {f : Nat → Int32} {n : Nat} : ∀ {m : Nat}, (∀ k, n ≤ k → k < n + m → f k = 0) → cy_sm f (n + m) = cy_sm f n
  | 0, _ => rfl
  | m + 1, h => by
    show cy_sm f (n + m) + f (n + m) = cy_sm f n
    rw [cy_sm_z (fun k h1 h2 => h k h1 (by omega)), h (n + m) (by omega) (by omega), Int32.add_zero]
/-- what a cask holds -/
theorem r_al {S M : Nat → Nat → Int32} {ns no nc mo t c : Nat} (h : Rel S M ns no nc mo t) (hc : c < nc) : cy_sm (S (3 * c + 13)) 5 = cq_al M c := by
  refine cy_sm_c (fun k hk => ?_)
  rcases (h.2.2.2.1 c hc).2 with ⟨-, -, q⟩ | ⟨-, -, q⟩
  · exact q.2.1.1 k hk
  · rw [(q.2.2.1 k hk).1, (q.2.2.1 k hk).2]
/-- the tensions of a sound cask's hoops -/
theorem r_tn {S M : Nat → Nat → Int32} {ns no nc mo t c : Nat} (h : Rel S M ns no nc mo t) (hc : c < nc) (h8 : ¬ M 8 c = 0) : cy_sm (S (3 * c + 12)) 8 = cq_tn M c := by
  have h12 := h.1.2.2.1.2.2
  have hle := cq_hn_le h.ok (show c < 12 by omega)
  rcases (h.2.2.2.1 c hc).2 with ⟨-, -, q⟩ | ⟨-, q2, -⟩
  · have e : cq_hn M c = (M 6 (cq_so M c)).toNatClampNeg := if_neg h8
    have e2 := cy_sm_z (f := S (3 * c + 12)) (n := cq_hn M c) (m := 8 - cq_hn M c) (fun k h1 h2 => q.2.2.1.2.1 k (by rw [← e]; exact h1) (by omega))
    rw [show cq_hn M c + (8 - cq_hn M c) = 8 by omega] at e2
    rw [e2]
    unfold cq_tn
    refine cy_sm_c (fun k hk => ?_)
    exact q.2.2.1.1 k (by rw [← e]; exact hk)
  · exact absurd q2 h8
