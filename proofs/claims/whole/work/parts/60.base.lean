/-! one call, both sides -/
def R_F (h1 h2 : String) (th : Option String) (r : (Nat → Nat → Int32) × Int32) (a : Int32) (S' : Nat → Nat → Int32) (k : Nat) : Prop := cy_cd h1 h2 th = r.1 0 0 ∧ (th = none → a = r.2) ∧ ∃ ns no nc mo, Rel S' r.1 ns no nc mo k
theorem r_bad {S S1 M : Nat → Nat → Int32} {ns no nc mo t : Nat} {th : Option String} {h1 h2 E : String} {r : (Nat → Nat → Int32) × Int32} {k a : Int32} (h : Rel S M ns no nc mo t) (e : th = some E) (f : r = (cq_th M k, 0)) (g : cy_cd h1 h2 (some E) = k) : R_F h1 h2 th r a (cy_if th S1 S) (t + 1) := by
  subst e
  subst f
  refine ⟨g.trans rfl, (fun q => nomatch q), ns, no, nc, mo, ?_⟩
  rw [cy_if_s rfl]
  exact h.th.mono (Nat.le_succ _)
theorem r_good {S S1 M1 : Nat → Nat → Int32} {ns no nc mo t : Nat} {th : Option String} {h1 h2 : String} {r : (Nat → Nat → Int32) × Int32} {a v : Int32} (h : Rel S1 M1 ns no nc mo (t + 1)) (e : th = none) (f : r = (M1, v)) (g : M1 0 0 = 0) (ga : a = v) : R_F h1 h2 th r a (cy_if th S1 S) (t + 1) := by
  subst e
  subst f
  refine ⟨g.symm, fun _ => ga, ns, no, nc, mo, ?_⟩
  rw [cy_if_n rfl]
  exact h
theorem cq_in_i {v lo hi : Int32} : cq_in v lo hi = 0 ↔ ¬ (lo ≤ v ∧ v ≤ hi) := by
  constructor
  · rintro h ⟨h1, h2⟩
    rw [cq_in_1 h1 h2] at h
    exact absurd h (by decide)
  · intro h
    refine cq_in_0 ?_
    rcases Classical.em (lo ≤ v) with q | q
    · exact Or.inr (fun z => h ⟨q, z⟩)
    · exact Or.inl q
theorem cy_l3 {y a b : Int32} (h : a.toInt + 1 = b.toInt) : y < b ↔ y ≤ a := by
  rw [Int32.lt_iff_toInt_lt, Int32.le_iff_toInt_le]
  omega
theorem r_hn {S M : Nat → Nat → Int32} {ns no nc mo t c : Nat} (h : Rel S M ns no nc mo t) (hc : c < nc) : S (3 * c + 11) 4 = nI (cq_hn M c) := by
  have h12 := h.1.2.2.1.2.2
  rcases (h.2.2.2.1 c hc).2 with ⟨b1, b2, q⟩ | ⟨b1, b2, q⟩
  · rw [q.1.2.2.1]
    unfold cq_hn
    rw [if_neg (by rw [b2]; decide)]
    exact (h.ok.2 _ (h.ok.1 c (by omega)).1).2
  · rw [q.1 4 (by decide) (by decide)]
    unfold cq_hn
    rw [if_pos b2]
    rfl
/-- a sound cask, the class's in the cells of d -/
def R_cd (S M : Nat → Nat → Int32) (t d c : Nat) : Prop :=
  (S (3 * d + 11) 1 = M 5 (cq_so M c) ∧ S (3 * d + 11) 3 = M 9 c ∧ S (3 * d + 11) 4 = M 6 (cq_so M c) ∧ S (3 * d + 11) 5 = M 11 c ∧ S (3 * d + 11) 6 = M 12 c ∧ S (3 * d + 11) 7 = M 13 c ∧ S (3 * d + 11) 8 = M 15 c) ∧
  ((∀ k, k < 5 → S (3 * d + 13) k = M 14 (5 * c + k)) ∧ cq_hH M c ∧ cq_hW M c ≤ (M 5 (cq_so M c)).toNatClampNeg) ∧
  ((∀ k, k < (M 6 (cq_so M c)).toNatClampNeg → S (3 * d + 12) k = M 10 (8 * c + k)) ∧ (∀ k, (M 6 (cq_so M c)).toNatClampNeg ≤ k → k < 8 → S (3 * d + 12) k = 0) ∧ ∀ k, k < 8 → ∃ w, w ≤ 9 ∧ S (3 * d + 12) k = nI w) ∧
  ((∃ w, w ≤ 20 ∧ M 11 c = nI w) ∧ (∃ w, w ≤ t ∧ M 12 c = nI w) ∧ (∃ w, w ≤ 5 ∧ M 13 c = nI w))
theorem R_cs_iff {S M : Nat → Nat → Int32} {ns t c : Nat} : R_cs S M ns t c ↔ R_cd S M t c c ∧ ∃ i, i < ns ∧ S 3 i = nI c :=
  ⟨fun ⟨a, b, c, d, e⟩ => ⟨⟨a, b, c, d⟩, e⟩, fun ⟨⟨a, b, c, d⟩, e⟩ => ⟨a, b, c, d, e⟩⟩
/-- what is told of the cask c is the same -/
def R_lo (S S' M M' : Nat → Nat → Int32) (c : Nat) : Prop := (S' (3 * c + 11) = S (3 * c + 11) ∧ S' (3 * c + 12) = S (3 * c + 12) ∧ S' (3 * c + 13) = S (3 * c + 13)) ∧ (M' 8 c = M 8 c ∧ M' 9 c = M 9 c ∧ M' 11 c = M 11 c ∧ M' 12 c = M 12 c ∧ M' 13 c = M 13 c ∧ M' 15 c = M 15 c) ∧ (∀ k, k < 8 → M' 10 (8 * c + k) = M 10 (8 * c + k)) ∧ ∀ k, k < 5 → M' 14 (5 * c + k) = M 14 (5 * c + k)
theorem cq_hN_e {M M' : Nat → Nat → Int32} {c k : Nat} (h : M' 14 (5 * c + k) = M 14 (5 * c + k)) : cq_hN M' c k = cq_hN M c k := by
  unfold cq_hN
  rw [h]
theorem cq_hW_e {M M' : Nat → Nat → Int32} {c : Nat} (h : ∀ k, k < 5 → M' 14 (5 * c + k) = M 14 (5 * c + k)) : cq_hW M' c = cq_hW M c := by
  unfold cq_hW
  rw [cq_hN_e (h 0 (by decide)), cq_hN_e (h 1 (by decide)), cq_hN_e (h 2 (by decide)), cq_hN_e (h 3 (by decide)), cq_hN_e (h 4 (by decide))]
theorem cq_hH_e {M M' : Nat → Nat → Int32} {c : Nat} (h : ∀ k, k < 5 → M' 14 (5 * c + k) = M 14 (5 * c + k)) (q : cq_hH M c) : cq_hH M' c := by
  intro k hk
  rw [cq_hN_e (h k hk), h k hk]
  exact q k hk
theorem R_c1.loc {S S' M M' : Nat → Nat → Int32} {ns no t t' c : Nat} (h : R_c1 S M ns no t c) (e : R_lo S S' M M' c) (m5 : M' 5 = M 5) (m6 : M' 6 = M 6) (m7 : M' 7 = M 7) (hst : ∀ i, i < ns → (S' 3 i = nI c ↔ S 3 i = nI c)) (ht : t ≤ t') (hno : no ≤ 6) (h8 : ∀ j, j < no → (M 6 j).toNatClampNeg ≤ 8) : R_c1 S' M' ns no t' c := by
  obtain ⟨⟨s1, s2, s3⟩, ⟨e8, e9, e11, e12, e13, e15⟩, e10, e14⟩ := e
  obtain ⟨⟨a1, j, hj, a2⟩, hb⟩ := h
  have hso : cq_so M c = j := by unfold cq_so; rw [a2]; exact nI_clamp (by omega)
  have hso' : cq_so M' c = j := by unfold cq_so; rw [m7, a2]; exact nI_clamp (by omega)
  have h8j := h8 j hj
  refine ⟨⟨by rw [s1, m7]; exact a1, j, hj, by rw [m7]; exact a2⟩, ?_⟩
  rcases hb with ⟨b1, b2, b3⟩ | ⟨b1, b2, b3⟩
  · refine Or.inl ⟨by rw [s1]; exact b1, by rw [e8]; exact b2, ?_⟩
    obtain ⟨c1, ⟨c2, c3, c4⟩, ⟨d1, d2, d3⟩, ⟨c6, ⟨w, c7, c8⟩, c9⟩, i, hi, c10⟩ := b3
    rw [hso] at c1 c4 d1 d2
    refine ⟨?_, ⟨?_, cq_hH_e e14 c3, ?_⟩, ⟨?_, ?_, ?_⟩, ⟨?_, ⟨w, by omega, by rw [e12]; exact c8⟩, ?_⟩, i, hi, (hst i hi).mpr c10⟩
    · rw [hso', s1, m5, m6, e9, e11, e12, e13, e15]
      exact c1
    · intro k hk
      rw [s3, e14 k hk]
      exact c2 k hk
    · rw [hso', m5, cq_hW_e e14]
      exact c4
    · intro k hk
      rw [hso', m6] at hk
      rw [s2, e10 k (by omega)]
      exact d1 k hk
    · intro k hk
      rw [hso', m6] at hk
      rw [s2]
      exact d2 k hk
    · rw [s2]
      exact d3
    · rw [e11]; exact c6
    · rw [e13]; exact c9
  · refine Or.inr ⟨by rw [s1]; exact b1, by rw [e8]; exact b2, ?_⟩
    obtain ⟨d1, d2, d3, d4, d5⟩ := b3
    refine ⟨by rw [s1]; exact d1, by rw [s2]; exact d2, fun k hk => ?_, by rw [e15]; exact d4, fun i hi q => d5 i hi ((hst i hi).mp q)⟩
    rw [s3, e14 k hk]
    exact d3 k hk
theorem R_n.rs {S M S' M' : Nat → Nat → Int32} {ns no nc mo : Nat} (h : R_n S M ns no nc mo) (hS : S' 0 = S 0) (hM : ∀ k, k ≠ 0 → M' 0 k = M 0 k) : R_n S' M' ns no nc mo := by
  unfold R_n
  rw [hS, hM 4 (by decide), hM 8 (by decide), hM 12 (by decide), hM 1 (by decide), hM 3 (by decide), hM 2 (by decide)]
  exact h
theorem Rel.h8 {S M : Nat → Nat → Int32} {ns no nc mo t : Nat} (h : Rel S M ns no nc mo t) : ∀ j, j < no → (M 6 j).toNatClampNeg ≤ 8 := fun j hj => (h.ok.2 j (by have := h.1.2.1.2.2; omega)).1
/-- some casks change -/
theorem Rel.mk1 {S M S' M' : Nat → Nat → Int32} {ns no nc mo mo' t t' : Nat} (h : Rel S M ns no nc mo t) (hn : R_n S' M' ns no nc mo') (hs : ∀ i, i < ns → R_s1 S' M' nc i) (e4 : S' 4 = S 4 ∧ S' 5 = S 5 ∧ S' 6 = S 6) (m4 : M' 4 = M 4 ∧ M' 5 = M 5 ∧ M' 6 = M 6 ∧ M' 7 = M 7) (ht : t ≤ t') (hc : ∀ d, d < nc → (R_lo S S' M M' d ∧ ∀ i, i < ns → (S' 3 i = nI d ↔ S 3 i = nI d)) ∨ R_c1 S' M' ns no t' d) (hg : ∀ c, c < nc → M' 15 c = nI (M' 15 c).toNatClampNeg) (hgr : R_gr M' nc ≤ 57600 * mo') : Rel S' M' ns no nc mo' t' := by
  have h8 := h.h8
  obtain ⟨n, hs0, ⟨ho, ho2, hc2⟩, hc0, hg0, hgr0⟩ := h
  refine ⟨hn, hs, ⟨fun j hj => ?_, ?_, ?_⟩, fun d hd => ?_, hg, hgr⟩
  · unfold R_o1
    rw [e4.1, e4.2.1, e4.2.2, m4.1, m4.2.1, m4.2.2.1]
    exact ho j hj
  · rw [m4.2.2.1]; exact ho2
  · rw [m4.2.2.2]; exact hc2
  · rcases hc d hd with ⟨q1, q2⟩ | q
    · exact (hc0 d hd).loc q1 m4.2.1 m4.2.2.1 m4.2.2.2 q2 ht n.2.1.2.2 h8
    · exact q
theorem R_gr_e {M M' : Nat → Nat → Int32} : ∀ {n : Nat}, (∀ d, d < n → M' 15 d = M 15 d) → R_gr M' n = R_gr M n
  | 0, _ => rfl
  | n + 1, h => by
    show R_gr M' n + (M' 15 n).toNatClampNeg = R_gr M n + (M 15 n).toNatClampNeg
    rw [R_gr_e (fun d hd => h d (by omega)), h n (by omega)]
theorem R_gr_1 {M M' : Nat → Nat → Int32} {c : Nat} : ∀ {n : Nat}, (∀ d, d < n → d ≠ c → M' 15 d = M 15 d) → c < n → R_gr M' n + (M 15 c).toNatClampNeg = R_gr M n + (M' 15 c).toNatClampNeg
  | 0, _, h => absurd h (Nat.not_lt_zero _)
  | n + 1, h, hc => by
    show R_gr M' n + (M' 15 n).toNatClampNeg + _ = R_gr M n + (M 15 n).toNatClampNeg + _
    by_cases q : c = n
    · subst q
      rw [R_gr_e (M := M) (M' := M') (fun d hd => h d (by omega) (by omega))]
      omega
    · have := R_gr_1 (M := M) (M' := M') (c := c) (n := n) (fun d hd => h d (by omega)) (by omega)
      rw [h n (by omega) (fun z => q z.symm)]
      omega
theorem R_s1.keep {S M S' M' : Nat → Nat → Int32} {nc i : Nat} (h : R_s1 S M nc i) (e : S' 1 = S 1 ∧ S' 2 = S 2 ∧ S' 3 = S 3) (m : M' 1 = M 1 ∧ M' 2 = M 2 ∧ M' 3 = M 3) : R_s1 S' M' nc i := by
  unfold R_s1
  rw [e.1, e.2.1, e.2.2, m.1, m.2.1, m.2.2]
  exact h
theorem cy_usf {f : Nat → Int32} {k : Nat} : upd f k (f k) = f := by
  funext j
  unfold upd
  by_cases h : j = k
  · rw [if_pos h, h]
  · rw [if_neg h]
/-- the sum of the tensions: what lies behind the hoops is 0 -/
theorem r_sum {f g : Nat → Int32} {n : Nat} (h8 : n ≤ 8) (h : ∀ k, k < n → f k = g k) (hz : ∀ k, n ≤ k → k < 8 → f k = 0) : cy_sm f 8 = cy_sm g n := by
  have e2 := cy_sm_z (f := f) (n := n) (m := 8 - n) (fun k h1 h2 => hz k h1 (by omega))
  rw [show n + (8 - n) = 8 by omega] at e2
  rw [e2]
  exact cy_sm_c h
