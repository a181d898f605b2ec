/-! what a cask tells -/
theorem r_sa {S M : Nat → Nat → Int32} {x : Int32} : ∀ {n : Nat}, (∀ i, i < n → S 3 i = M 3 i) → cy_sa S x n = cq_sa M x n
  | 0, _ => rfl
  | n + 1, h => by
    unfold cy_sa cq_sa
    rw [h n (by omega), r_sa (fun i hi => h i (by omega)), Int32.add_zero]
theorem r_sa0 {S : Nat → Nat → Int32} {x : Int32} : ∀ {n : Nat}, (∀ i, i < n → ¬ S 3 i = x) → cy_sa S x n = 0
  | 0, _ => rfl
  | n + 1, h => by
    unfold cy_sa
    rw [if_pos (h n (by omega)), r_sa0 (fun i hi => h i (by omega))]
theorem r_tell {S M : Nat → Nat → Int32} {ns no nc mo t c k : Nat} (h : Rel S M ns no nc mo t) (hc : c < nc) (hk : k < 16) : cy_tell S ns c k = cq_ct M ns c k := by
  have hal := r_al h hc
  have h7 := (h.2.2.2.1 c hc).1.1
  have hsa : cy_sa S (nI c) ns = cq_sa M (nI c) ns := r_sa (fun i hi => (h.2.1 i hi).1.2.2)
  have hk16 : k = 0 ∨ k = 1 ∨ k = 2 ∨ k = 3 ∨ k = 4 ∨ k = 5 ∨ k = 6 ∨ k = 7 ∨ k = 8 ∨ k = 9 ∨ k = 10 ∨ k = 11 ∨ k = 12 ∨ k = 13 ∨ k = 14 ∨ k = 15 := by omega
  rcases (h.2.2.2.1 c hc).2 with ⟨b1, b2, q⟩ | ⟨b1, b2, q⟩
  · have h8 : ¬ M 8 c = 0 := by rw [b2]; decide
    have htn := r_tn h hc h8
    have hb : ¬ S (3 * c + 11) 2 = 0 := by rw [b1]; decide
    have hlk : cy_rLeak S c = cq_lk M c := by
      unfold cy_rLeak cq_lk
      rw [if_pos hb, htn, q.1.2.1, q.1.2.2.2.1]
    rcases hk16 with rfl | rfl | rfl | rfl | rfl | rfl | rfl | rfl | rfl | rfl | rfl | rfl | rfl | rfl | rfl | rfl <;> simp only [cy_tell, cq_ct, if_neg h8, if_neg hb]
    · exact h7
    · exact hsa
    · exact q.1.2.1
    · exact htn
    · exact q.1.2.2.2.1
    · exact q.1.2.2.2.2.1
    · exact q.1.2.2.2.2.2.1
    · exact hal
    · exact q.2.1.1 0 (by decide)
    · exact q.2.1.1 1 (by decide)
    · exact q.2.1.1 2 (by decide)
    · exact q.2.1.1 3 (by decide)
    · exact q.2.1.1 4 (by decide)
    · exact q.1.2.2.2.2.2.2
    · exact hlk
  · have hz : cq_al M c = 0 := by
      show ((((0 + M 14 (5 * c + 0)) + M 14 (5 * c + 1)) + M 14 (5 * c + 2)) + M 14 (5 * c + 3)) + M 14 (5 * c + 4) = 0
      rw [(q.2.2.1 0 (by decide)).2, (q.2.2.1 1 (by decide)).2, (q.2.2.1 2 (by decide)).2, (q.2.2.1 3 (by decide)).2, (q.2.2.1 4 (by decide)).2]
      rfl
    have hs8 : cy_sm (S (3 * c + 12)) 8 = 0 := (cy_sm_z (f := S (3 * c + 12)) (n := 0) (m := 8) (fun k _ h2 => q.2.1 k (by omega)))
    rcases hk16 with rfl | rfl | rfl | rfl | rfl | rfl | rfl | rfl | rfl | rfl | rfl | rfl | rfl | rfl | rfl | rfl <;> simp only [cy_tell, cq_ct, if_pos b1, if_pos b2]
    · exact h7
    · exact r_sa0 q.2.2.2.2
    · exact q.1 3 (by decide) (by decide)
    · exact hs8
    · exact q.1 5 (by decide) (by decide)
    · exact q.1 6 (by decide) (by decide)
    · exact q.1 7 (by decide) (by decide)
    · rw [hal, hz]
    · exact (q.2.2.1 0 (by decide)).1
    · exact (q.2.2.1 1 (by decide)).1
    · exact (q.2.2.1 2 (by decide)).1
    · exact (q.2.2.1 3 (by decide)).1
    · exact (q.2.2.1 4 (by decide)).1
    · exact q.1 8 (by decide) (by decide)
    · unfold cy_rLeak
      rw [if_neg (fun z => z b1)]
