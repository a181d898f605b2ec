/-- a cask that is sound: t is a bound of its fillings -/
def R_cs (S M : Nat → Nat → Int32) (ns t c : Nat) : Prop :=
  (S (3 * c + 11) 1 = M 5 (cq_so M c) ∧ S (3 * c + 11) 3 = M 9 c ∧ S (3 * c + 11) 4 = M 6 (cq_so M c) ∧ S (3 * c + 11) 5 = M 11 c ∧ S (3 * c + 11) 6 = M 12 c ∧ S (3 * c + 11) 7 = M 13 c ∧ S (3 * c + 11) 8 = M 15 c) ∧
  ((∀ k, k < 5 → S (3 * c + 13) k = M 14 (5 * c + k)) ∧ cq_hH M c ∧ cq_hW M c ≤ (M 5 (cq_so M c)).toNatClampNeg) ∧
  ((∀ k, k < (M 6 (cq_so M c)).toNatClampNeg → S (3 * c + 12) k = M 10 (8 * c + k)) ∧ (∀ k, (M 6 (cq_so M c)).toNatClampNeg ≤ k → k < 8 → S (3 * c + 12) k = 0) ∧ ∀ k, k < 8 → ∃ w, w ≤ 9 ∧ S (3 * c + 12) k = nI w) ∧
  ((∃ w, w ≤ 20 ∧ M 11 c = nI w) ∧ (∃ w, w ≤ t ∧ M 12 c = nI w) ∧ (∃ w, w ≤ 5 ∧ M 13 c = nI w)) ∧ ∃ i, i < ns ∧ S 3 i = nI c
/-- a cask that is broken up -/
def R_cb (S M : Nat → Nat → Int32) (ns c : Nat) : Prop :=
  (∀ k, 3 ≤ k → k ≤ 8 → S (3 * c + 11) k = 0) ∧ (∀ k, k < 8 → S (3 * c + 12) k = 0) ∧ (∀ k, k < 5 → S (3 * c + 13) k = 0 ∧ M 14 (5 * c + k) = 0) ∧ M 15 c = 0 ∧ ∀ i, i < ns → ¬ S 3 i = nI c
def R_c1 (S M : Nat → Nat → Int32) (ns no t c : Nat) : Prop :=
  (S (3 * c + 11) 0 = M 7 c ∧ ∃ j, j < no ∧ M 7 c = nI j) ∧ ((S (3 * c + 11) 2 = 1 ∧ M 8 c = 1 ∧ R_cs S M ns t c) ∨ (S (3 * c + 11) 2 = 0 ∧ M 8 c = 0 ∧ R_cb S M ns c))
/-- the grains of the first n casks -/
def R_gr (M : Nat → Nat → Int32) : Nat → Nat
  | 0 => 0
  | n + 1 => R_gr M n + (M 15 n).toNatClampNeg
/-- what the two sides have in common after t calls -/
def Rel (S M : Nat → Nat → Int32) (ns no nc mo t : Nat) : Prop :=
  R_n S M ns no nc mo ∧ (∀ i, i < ns → R_s1 S M nc i) ∧ ((∀ j, j < no → R_o1 S M j) ∧ (∀ j, no ≤ j → M 6 j = 0) ∧ ∀ c, nc ≤ c → M 7 c = 0) ∧ (∀ c, c < nc → R_c1 S M ns no t c) ∧ (∀ c, c < nc → M 15 c = nI (M 15 c).toNatClampNeg) ∧ R_gr M nc ≤ 57600 * mo
theorem nI_self {x : Int32} {w : Nat} (hw : w < 2 ^ 31) (h : x = nI w) : x.toNatClampNeg = w ∧ x = nI x.toNatClampNeg := by
  subst h
  rw [nI_clamp hw]
  exact ⟨rfl, rfl⟩
theorem Rel.ok {S M : Nat → Nat → Int32} {ns no nc mo t : Nat} (h : Rel S M ns no nc mo t) : cq_ok M := by
  obtain ⟨⟨-, ⟨-, -, h6⟩, -⟩, -, ⟨ho, ho2, hc2⟩, hc, -⟩ := h
  refine ⟨fun c hc12 => ?_, fun j hj => ?_⟩
  · rcases Nat.lt_or_ge c nc with g | g
    · obtain ⟨⟨-, j, hj, e⟩, -⟩ := hc c g
      obtain ⟨e1, e2⟩ := nI_self (by omega) e
      exact ⟨by rw [e1]; omega, e2⟩
    · rw [hc2 c g]
      exact ⟨by decide, by decide⟩
  · rcases Nat.lt_or_ge j no with g | g
    · obtain ⟨⟨-, -, e6⟩, -, -, w, hw1, hw2, e⟩ := ho j g
      rw [← e6]
      obtain ⟨e1, e2⟩ := nI_self (by omega) e
      exact ⟨by rw [e1]; omega, e2⟩
    · rw [ho2 j g]
      exact ⟨by decide, by decide⟩
/-- at the start -/
theorem Rel.start : Rel cy_S0 cq_S0 0 0 0 0 0 := by
  refine ⟨⟨⟨rfl, rfl, by decide⟩, ⟨rfl, rfl, by decide⟩, ⟨rfl, rfl, by decide⟩, ⟨rfl, rfl, by decide⟩, rfl, 2, by decide, rfl, rfl⟩, fun i hi => absurd hi (Nat.not_lt_zero _), ⟨fun j hj => absurd hj (Nat.not_lt_zero _), fun j _ => rfl, fun c _ => rfl⟩, fun c hc => absurd hc (Nat.not_lt_zero _), fun c hc => absurd hc (Nat.not_lt_zero _), Nat.le_refl _⟩
