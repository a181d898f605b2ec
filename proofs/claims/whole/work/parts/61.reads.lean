/-! count, digest, taste -/
theorem r_sq {S M : Nat → Nat → Int32} {ns no nc mo t : Nat} (h : Rel S M ns no nc mo t) : ∀ {n : Nat}, n ≤ nc → cy_sq S n = cq_sq M n
  | 0, _ => rfl
  | n + 1, hn => by
    unfold cy_sq cq_sq
    rw [h.so n (by omega), r_sq h (n := n) (by omega), Int32.add_zero]
theorem r_ha {S M : Nat → Nat → Int32} {ns no nc mo t : Nat} (h : Rel S M ns no nc mo t) : ∀ {n : Nat}, n ≤ nc → cy_ha S n = cq_ha M n
  | 0, _ => rfl
  | n + 1, hn => by
    unfold cy_ha cq_ha
    rw [r_al h (by omega), r_ha h (n := n) (by omega)]
theorem r_am {S M : Nat → Nat → Int32} {ns no nc mo t c k : Nat} (h : Rel S M ns no nc mo t) (hc : c < nc) (hk : k < 5) : S (3 * c + 13) k = M 14 (5 * c + k) := by
  rcases (h.2.2.2.1 c hc).2 with ⟨-, -, q⟩ | ⟨-, -, q⟩
  · exact q.2.1.1 k hk
  · rw [(q.2.2.1 k hk).1, (q.2.2.1 k hk).2]
theorem r_va {S M : Nat → Nat → Int32} {ns no nc mo t : Nat} (h : Rel S M ns no nc mo t) : ∀ {n : Nat}, n ≤ nc → cy_va S n = cq_va M n
  | 0, _ => rfl
  | n + 1, hn => by
    unfold cy_va cq_va
    rw [r_am h (show n < nc by omega) (by decide), r_va h (n := n) (by omega)]
theorem r_cnt {S M : Nat → Nat → Int32} {ns no nc mo t k : Nat} (h : Rel S M ns no nc mo t) (hk : k < 10) : cy_cnt S ns nc k = cq_cn M ns nc k := by
  obtain ⟨n1, n2, n3, n4, n5, wa, w1, w2, w3⟩ := h.1
  have hk16 : k = 0 ∨ k = 1 ∨ k = 2 ∨ k = 3 ∨ k = 4 ∨ k = 5 ∨ k = 6 ∨ k = 7 ∨ k = 8 ∨ k = 9 := by omega
  rcases hk16 with rfl | rfl | rfl | rfl | rfl | rfl | rfl | rfl | rfl | rfl <;> simp only [cy_cnt, cq_cn]
  · rw [n4.1, n4.2.1]
  · exact r_sa (fun i hi => (h.2.1 i hi).1.2.2)
  · rw [n2.1, n2.2.1]
  · exact r_sq h (Nat.le_refl _)
  · exact r_ha h (Nat.le_refl _)
  · exact r_va h (Nat.le_refl _)
  · exact n5
  · rw [w2, w3]
theorem s_count {S M : Nat → Nat → Int32} {x : Int32} {ns no nc mo t : Nat} (h : Rel S M ns no nc mo t) : R_F cy_IB cy_IB (cy_tCo x) (cq_Co M x ns nc) (cy_cnt S ns nc x.toNatClampNeg) (cy_if (cy_tCo x) S S) (t + 1) := by
  rcases Classical.em (0 ≤ x ∧ x ≤ 9) with hx | hx
  · refine r_good (h.rs.mono (Nat.le_succ _)) (v := cq_cn (cq_rs M) ns nc x.toNatClampNeg) ?_ ?_ rfl ?_
    · unfold cy_tCo
      rw [if_neg (Int32.not_lt.mpr hx.1), if_pos ((cy_l3 (by decide)).mpr hx.2)]
    · unfold cq_Co
      rw [if_neg (fun q => (cq_in_i.mp q) hx)]
    · obtain ⟨k, -, hk, rfl⟩ := r_nat (a := 0) (b := 9) rfl rfl (by decide) (by decide) hx.1 hx.2
      rw [nI_clamp (by omega)]
      exact r_cnt h.rs (by omega)
  · refine r_bad h (E := cy_IB) (k := 1) ?_ ?_ rfl
    · unfold cy_tCo
      by_cases z : x < 0
      · rw [if_pos z]
      · rw [if_neg z, if_neg (fun q => hx ⟨Int32.not_lt.mp z, (cy_l3 (by decide)).mp q⟩)]
    · unfold cq_Co
      rw [if_pos (cq_in_i.mpr hx)]
theorem r_e1 {S M : Nat → Nat → Int32} {ns no nc mo t : Nat} (h : Rel S M ns no nc mo t) : ∀ {n : Nat}, n ≤ 10 → cy_e1 S ns nc n = cq_e1 M ns nc n
  | 0, _ => rfl
  | n + 1, hn => by
    unfold cy_e1 cq_e1
    rw [r_e1 h (n := n) (by omega), r_cnt h (by omega)]
theorem r_e2 {S M : Nat → Nat → Int32} {ns no nc mo t : Nat} {d : Int64} (h : Rel S M ns no nc mo t) : ∀ {n : Nat}, n ≤ ns → cy_e2 S d n = cq_e2 M d n
  | 0, _ => rfl
  | n + 1, hn => by
    obtain ⟨⟨g1, g2, g3⟩, -⟩ := h.2.1 n (by omega)
    unfold cy_e2 cq_e2
    rw [r_e2 h (n := n) (by omega), g1, g2, g3]
    rfl
theorem r_e3 {S M : Nat → Nat → Int32} {ns no nc mo t : Nat} {d : Int64} (h : Rel S M ns no nc mo t) : ∀ {n : Nat}, n ≤ no → cy_e3 S d n = cy_e3 M d n
  | 0, _ => rfl
  | n + 1, hn => by
    obtain ⟨⟨g1, g2, g3⟩, -⟩ := h.2.2.1.1 n (by omega)
    unfold cy_e3
    rw [r_e3 h (n := n) (by omega), g1, g2, g3]
theorem r_dt {S M : Nat → Nat → Int32} {ns no nc mo t c : Nat} {d : Int64} (h : Rel S M ns no nc mo t) (hc : c < nc) : ∀ {n : Nat}, n ≤ 16 → cy_dt S ns c d n = cq_e4i M ns c d n
  | 0, _ => rfl
  | n + 1, hn => by
    unfold cy_dt cq_e4i
    rw [r_dt h hc (n := n) (by omega), r_tell h hc (by omega)]
theorem r_du {f : Nat → Int32} {M : Nat → Nat → Int32} {c : Nat} {d : Int64} : ∀ {n : Nat}, (∀ k, k < n → f k = M 10 (8 * c + k)) → cy_du f d n = cq_e4t M c d n
  | 0, _ => rfl
  | n + 1, h => by
    unfold cy_du cq_e4t
    rw [r_du (n := n) (fun k hk => h k (by omega)), h n (by omega)]
theorem r_te {S M : Nat → Nat → Int32} {ns no nc mo t c k : Nat} (h : Rel S M ns no nc mo t) (hc : c < nc) (hk : k < cq_hn M c) : S (3 * c + 12) k = M 10 (8 * c + k) := by
  rcases (h.2.2.2.1 c hc).2 with ⟨b1, b2, q⟩ | ⟨b1, b2, q⟩
  · refine q.2.2.1.1 k ?_
    unfold cq_hn at hk
    rw [if_neg (by rw [b2]; decide)] at hk
    exact hk
  · unfold cq_hn at hk
    rw [if_pos b2] at hk
    exact absurd hk (Nat.not_lt_zero _)
theorem r_e4 {S M : Nat → Nat → Int32} {ns no nc mo t : Nat} {d : Int64} (h : Rel S M ns no nc mo t) : ∀ {n : Nat}, n ≤ nc → cy_e4 S ns d n = cq_e4 M ns d n
  | 0, _ => rfl
  | n + 1, hn => by
    have h12 := h.1.2.2.1.2.2
    have h8 := cq_hn_le h.ok (show n < 12 by omega)
    unfold cy_e4 cq_e4
    rw [r_e4 h (n := n) (by omega), r_dt h (by omega) (Nat.le_refl _), r_hn h (by omega), nI_clamp (by omega)]
    exact r_du (fun k hk => r_te h (by omega) hk)
theorem s_digest {S M : Nat → Nat → Int32} {ns no nc mo t : Nat} (h : Rel S M ns no nc mo t) : cy_rDi S ns no nc = cq_rDi (cq_rs M) ns no nc := by
  have g := h.rs
  unfold cy_rDi cq_rDi
  rw [r_e1 g (Nat.le_refl _), r_e2 g (Nat.le_refl _), r_e3 g (Nat.le_refl _), r_e4 g (Nat.le_refl _)]
/-! taste -/
theorem r_w {S M : Nat → Nat → Int32} {ns no nc mo t c : Nat} (h : Rel S M ns no nc mo t) (hc : c < nc) : cq_hW M c ≤ 60000 := by
  rcases (h.2.2.2.1 c hc) with ⟨⟨-, j, hj, e⟩, ⟨b1, b2, q⟩ | ⟨b1, b2, q⟩⟩
  · have h6 := h.1.2.1.2.2
    have hso : cq_so M c = j := by unfold cq_so; rw [e]; exact nI_clamp (by omega)
    obtain ⟨⟨-, e5, -⟩, -, ⟨w, w1, w2, w3⟩, -⟩ := h.2.2.1.1 j hj
    have q3 := q.2.1.2.2
    rw [hso, ← e5, w3, nI_clamp (by omega)] at q3
    omega
  · unfold cq_hW cq_hN
    rw [(q.2.2.1 0 (by decide)).2, (q.2.2.1 1 (by decide)).2, (q.2.2.1 2 (by decide)).2, (q.2.2.1 3 (by decide)).2, (q.2.2.1 4 (by decide)).2]
    decide
def R_H (M : Nat → Nat → Int32) : Nat → Nat
  | 0 => 0
  | n + 1 => R_H M n + cq_hW M n
theorem r_H {S M : Nat → Nat → Int32} {ns no nc mo t : Nat} (h : Rel S M ns no nc mo t) : ∀ {n : Nat}, n ≤ nc → cq_ha M n = nI (R_H M n) ∧ cq_hs M n = lN (R_H M n) ∧ R_H M n ≤ 60000 * n
  | 0, _ => ⟨rfl, rfl, Nat.le_refl _⟩
  | n + 1, hn => by
    obtain ⟨i1, i2, i3⟩ := r_H h (n := n) (by omega)
    have hw := r_w h (show n < nc by omega)
    have e := cq_al_n (h.hd n (by omega))
    unfold cq_ha cq_hs R_H
    rw [i1, i2, e, nI_add, nI_l (by omega), lN_add]
    exact ⟨rfl, rfl, by omega⟩
theorem r_gs {S M : Nat → Nat → Int32} {ns no nc mo t : Nat} (h : Rel S M ns no nc mo t) : ∀ {n : Nat}, n ≤ nc → cy_gs S n = cq_gs M n
  | 0, _ => rfl
  | n + 1, hn => by
    unfold cy_gs cq_gs
    rw [r_gs h (n := n) (by omega)]
    congr 2
    rcases (h.2.2.2.1 n (by omega)).2 with ⟨-, -, q⟩ | ⟨-, -, q⟩
    · exact q.1.2.2.2.2.2.2
    · rw [q.1 8 (by decide) (by decide), q.2.2.2.1]
theorem s_taste {S M : Nat → Nat → Int32} {ns no nc mo t : Nat} (h : Rel S M ns no nc mo t) : cy_rTa S nc = cq_rTa M nc := by
  have h12 := h.1.2.2.1.2.2
  obtain ⟨i1, i2, i3⟩ := r_H h (Nat.le_refl nc)
  unfold cy_rTa cq_rTa
  rw [r_ha h (Nat.le_refl _), r_gs h (Nat.le_refl _), i1, i2]
  by_cases q : R_H M nc = 0
  · rw [q, if_neg (by decide), if_neg (by decide)]
  · have e : ∀ x : Int32, FP.i2d x = FP.l2d x.toInt64 := fun x => FP.Core.i2d_l2d x
    rw [if_pos (nI_ne0 (by omega) (by omega)), if_pos (fun z => ?_), e, nI_l (by omega)]
    have z2 := (lg_cmp_eq _ _).mp z
    exact q ((lN_eq (b := 0) (by omega) (by decide)).mp z2)
