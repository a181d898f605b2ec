/-! months of all casks -/
def R_k (S M : Nat → Nat → Int32) (ns no nc B t : Nat) : Prop := (∀ i, i < ns → R_s1 S M nc i) ∧ ((∀ j, j < no → R_o1 S M j) ∧ (∀ j, no ≤ j → M 6 j = 0) ∧ ∀ c, nc ≤ c → M 7 c = 0) ∧ (∀ c, c < nc → R_c1 S M ns no t c) ∧ (∀ c, c < nc → M 15 c = nI (M 15 c).toNatClampNeg) ∧ R_gr M nc ≤ B
theorem R_k.z {S M : Nat → Nat → Int32} {f g : Nat → Int32} {ns no nc B t : Nat} (h : R_k S M ns no nc B t) (h6 : no ≤ 6) : R_k (va_up S 0 f) (va_up M 0 g) ns no nc B t := by
  have eS : ∀ j, j ≠ 0 → va_up S 0 f j = S j := fun j hj => cy_un hj
  have eM : ∀ j, j ≠ 0 → va_up M 0 g j = M j := fun j hj => cy_un hj
  obtain ⟨hs, ⟨ho, ho2, hc2⟩, hc, hg, hgr⟩ := h
  refine ⟨fun i hi => ?_, ⟨fun j hj => ?_, fun j hj => ?_, fun c hcc => ?_⟩, fun c hcc => ?_, fun c hcc => ?_, ?_⟩
  · unfold R_s1
    rw [eS 1 (by decide), eS 2 (by decide), eS 3 (by decide), eM 1 (by decide), eM 2 (by decide), eM 3 (by decide)]
    exact hs i hi
  · unfold R_o1
    rw [eS 4 (by decide), eS 5 (by decide), eS 6 (by decide), eM 4 (by decide), eM 5 (by decide), eM 6 (by decide)]
    exact ho j hj
  · rw [eM 6 (by decide)]; exact ho2 j hj
  · rw [eM 7 (by decide)]; exact hc2 c hcc
  · exact (hc c hcc).keep (fun j hj => eS j (by omega)) (fun j hj => eM j (by omega)) (fun j hj => by rw [eM 5 (by decide), eM 6 (by decide)]; exact ⟨rfl, rfl⟩) (fun i hi => by rw [eS 3 (by decide)]) (fun i h1 h2 => absurd h1 (by omega)) (Nat.le_refl _) (Nat.le_refl _) (Nat.le_refl _) h6
  · rw [eM 15 (by decide)]; exact hg c hcc
  · rw [R_gr_c (eM 15 (by decide))]; exact hgr
theorem R_c1.get {S M : Nat → Nat → Int32} {ns no t c : Nat} (h : R_c1 S M ns no t c) (h6 : no ≤ 6) (h8 : ¬ M 8 c = 0) : ∃ j, j < no ∧ M 7 c = nI j ∧ cq_so M c = j ∧ S (3 * c + 11) 0 = M 7 c ∧ S (3 * c + 11) 2 = 1 ∧ M 8 c = 1 ∧ R_cd S M t c c ∧ ∃ i, i < ns ∧ S 3 i = nI c := by
  obtain ⟨⟨a1, j, hj, a2⟩, hb⟩ := h
  rcases hb with ⟨b1, b2, b3⟩ | ⟨b1, b2, b3⟩
  · obtain ⟨q1, q2⟩ := R_cs_iff.mp b3
    exact ⟨j, hj, a2, by unfold cq_so; rw [a2]; exact nI_clamp (by omega), a1, b1, b2, q1, q2⟩
  · exact absurd b2 h8
theorem R_c1.two {S M : Nat → Nat → Int32} {ns no t c : Nat} (h : R_c1 S M ns no t c) : S (3 * c + 11) 2 = M 8 c := by
  rcases h.2 with ⟨q, q2, -⟩ | ⟨q, q2, -⟩ <;> rw [q, q2]
theorem R_o1.room {S M : Nat → Nat → Int32} {j : Nat} (h : R_o1 S M j) : (∃ w, w ≤ 60000 ∧ M 5 j = nI w) ∧ (M 6 j).toNatClampNeg ≤ 8 := by
  obtain ⟨⟨-, e5, e6⟩, -, ⟨w, w1, w2, w3⟩, v, v1, v2, v3⟩ := h
  refine ⟨⟨w, w2, by rw [← e5]; exact w3⟩, ?_⟩
  rw [← e6, v3, nI_clamp (by omega)]
  exact v2
theorem cy_se_v {S : Nat → Nat → Int32} {i : Nat} : ∀ {n : Nat}, cy_se S n 2 i = if i < n ∧ S 3 i = (-1) then cy_mn 100 (S 2 i + 4) else S 2 i
  | 0 => by rw [if_neg (fun q => absurd q.1 (Nat.not_lt_zero _))]; rfl
  | n + 1 => by
    have ih := cy_se_v (S := S) (i := i) (n := n)
    unfold cy_se
    rw [cy_se_n (by decide)]
    by_cases q : S 3 n = (-1)
    · rw [if_neg (fun z => z q), cy_us]
      by_cases e : i = n
      · subst e
        rw [pk_us, if_pos ⟨Nat.lt_succ_self _, q⟩, ih, if_neg (fun z => absurd z.1 (Nat.lt_irrefl _))]
      · rw [pk_un e, ih]
        by_cases z : i < n ∧ S 3 i = (-1)
        · rw [if_pos z, if_pos ⟨by omega, z.2⟩]
        · rw [if_neg z, if_neg (fun y => z ⟨by omega, y.2⟩)]
    · rw [if_pos q, ih]
      by_cases z : i < n ∧ S 3 i = (-1)
      · rw [if_pos z, if_pos ⟨by omega, z.2⟩]
      · rw [if_neg z, if_neg (fun y => z ⟨by
          rcases Nat.lt_or_ge i n with a | a
          · exact a
          · exact absurd (show S 3 n = (-1) by rw [show n = i by omega]; exact y.2) q, y.2⟩)]
theorem cq_se_c {S : Nat → Nat → Int32} : ∀ {n : Nat}, cq_se S n = cy_se S n
  | 0 => rfl
  | n + 1 => by
    unfold cq_se cy_se
    rw [cq_se_c]
theorem r_se {S M : Nat → Nat → Int32} {ns no nc B t : Nat} (h : R_k S M ns no nc B t) (h6 : no ≤ 6) : R_k (cy_se S ns) (cq_se M ns) ns no nc B t := by
  rw [cq_se_c]
  have eS : ∀ j, j ≠ 2 → cy_se S ns j = S j := fun j hj => cy_se_n hj
  have eM : ∀ j, j ≠ 2 → cy_se M ns j = M j := fun j hj => cy_se_n hj
  obtain ⟨hs, ⟨ho, ho2, hc2⟩, hc, hg, hgr⟩ := h
  refine ⟨fun i hi => ?_, ⟨fun j hj => ?_, fun j hj => ?_, fun c hcc => ?_⟩, fun c hcc => ?_, fun c hcc => ?_, ?_⟩
  · obtain ⟨⟨a1, a2, a3⟩, a4, ⟨d, a5, a6⟩, a7⟩ := hs i hi
    have e2 : cy_se S ns 2 i = cy_se M ns 2 i := by rw [cy_se_v, cy_se_v, a2, a3]
    refine ⟨⟨by rw [eS 1 (by decide), eM 1 (by decide)]; exact a1, e2, by rw [eS 3 (by decide), eM 3 (by decide)]; exact a3⟩, by rw [eS 1 (by decide)]; exact a4, ?_, by rw [eS 3 (by decide)]; exact a7⟩
    rw [cy_se_v]
    split
    · refine ⟨min 100 (d + 4), by omega, ?_⟩
      rw [a6, show nI d + 4 = nI (d + 4) from nI_add d 4]
      exact cy_mn_n (a := 100) (by decide) (by omega)
    · exact ⟨d, a5, a6⟩
  · unfold R_o1
    rw [eS 4 (by decide), eS 5 (by decide), eS 6 (by decide), eM 4 (by decide), eM 5 (by decide), eM 6 (by decide)]
    exact ho j hj
  · rw [eM 6 (by decide)]; exact ho2 j hj
  · rw [eM 7 (by decide)]; exact hc2 c hcc
  · exact (hc c hcc).keep (fun j hj => eS j (by omega)) (fun j hj => eM j (by omega)) (fun j hj => by rw [eM 5 (by decide), eM 6 (by decide)]; exact ⟨rfl, rfl⟩) (fun i hi => by rw [eS 3 (by decide)]) (fun i h1 h2 => absurd h1 (by omega)) (Nat.le_refl _) (Nat.le_refl _) (Nat.le_refl _) h6
  · rw [eM 15 (by decide)]; exact hg c hcc
  · rw [R_gr_c (eM 15 (by decide))]; exact hgr
theorem cy_hl_i {x : Int32} : cy_hl x = 0 ↔ ¬ (x + 1) - (x + 1) / 12 * 12 = 0 := by
  unfold cy_hl
  constructor
  · intro h
    split at h
    · assumption
    · exact absurd h (by decide)
  · intro h
    rw [if_pos h]
/-- the first n casks live a month -/
theorem r_lm {S M : Nat → Nat → Int32} {ns no nc B t : Nat} {mo w : Int32} (h : R_k S M ns no nc B t) (h6 : no ≤ 6) (ht : t ≤ 1000000) (hB : B + 4800 * nc < 2 ^ 31) (hm : M 0 1 = mo) (hw : M 0 2 = w) : ∀ {n : Nat}, n ≤ nc → cq_lm M n 0 3 = M 0 3 + (cy_lm S w (cy_hl mo) n).2 ∧ R_k (cy_lm S w (cy_hl mo) n).1 (cq_lm M n) ns no nc (B + 4800 * n) t
  | 0, _ => ⟨(Int32.add_zero _).symm, h⟩
  | n + 1, hn => by
    obtain ⟨i1, i2⟩ := r_lm h h6 ht hB hm hw (n := n) (by omega)
    have em : cq_lm M n 0 1 = mo := by rw [cq_lm_0 (by decide)]; exact hm
    have ew : cq_lm M n 0 2 = w := by rw [cq_lm_0 (by decide)]; exact hw
    unfold cy_lm cq_lm
    rw [em]
    generalize cy_lm S w (cy_hl mo) n = P at i1 i2
    generalize cq_lm M n = Q at i1 i2 ew
    obtain ⟨hs, ⟨ho, ho2, hc2⟩, hc, hg, hgr⟩ := i2
    have two := (hc n (by omega)).two
    by_cases z : Q 8 n = 0
    · have e1 : cy_sLv P.1 n w (cy_hl mo) = P.1 := by unfold cy_sLv; rw [if_neg (fun y => y (by rw [two]; exact z))]
      have e2 : cy_rLv P.1 n w = 0 := by unfold cy_rLv; rw [if_neg (fun y => y (by rw [two]; exact z))]
      rw [if_pos z, e1, e2]
      refine ⟨by rw [Int32.add_zero]; exact i1, hs, ⟨ho, ho2, hc2⟩, hc, hg, by omega⟩
    · obtain ⟨j, hj, s1, s2, s3, s4, s5, s6, s7⟩ := (hc n (by omega)).get h6 z
      obtain ⟨⟨r, r1, r2⟩, r3⟩ := (ho j hj).room
      have hh : cq_hn Q n ≤ 8 := by
        unfold cq_hn
        rw [if_neg z, s2]
        exact r3
      obtain ⟨⟨G, hG, m1⟩, m2, ⟨m3, m4⟩, m5, m6, m7, m8⟩ := r_mo (w := w) (b := cy_hl mo) (x := mo + 1) s6 (by rw [s2]; exact r2) r1 ht (hg n (by omega)) s4 s5 hh ew cy_hl_i
      rw [if_neg z]
      have pn : ∀ k, k ≠ 10 → k ≠ 11 → k ≠ 13 → k ≠ 14 → k ≠ 15 → cq_pc Q n (mo + 1) k = Q k := fun k a b d e f => cq_pc_n a b d e f
      have fin : R_k (cy_sLv P.1 n w (cy_hl mo)) (cq_pc Q n (mo + 1)) ns no nc (B + 4800 * (n + 1)) t := by
        have sn : ∀ k, k ≠ 3 * n + 11 → k ≠ 3 * n + 12 → k ≠ 3 * n + 13 → cy_sLv P.1 n w (cy_hl mo) k = P.1 k := fun k a b d => cy_sLv_n a b d
        have hgle : (Q 15 n).toNatClampNeg ≤ R_gr Q nc := by
          have aux : ∀ m, n < m → (Q 15 n).toNatClampNeg ≤ R_gr Q m := by
            intro m
            induction m with
            | zero => intro y; omega
            | succ m ih =>
              intro y
              show _ ≤ R_gr Q m + (Q 15 m).toNatClampNeg
              by_cases y2 : n = m
              · subst y2; omega
              · have := ih (by omega)
                omega
          exact aux nc (by omega)
        have m15 : (cq_pc Q n (mo + 1) 15 n).toNatClampNeg = (Q 15 n).toNatClampNeg + G := by
          rw [m1, nI_clamp (by omega)]
        refine ⟨fun i hi => (hs i hi).keep ⟨sn 1 (by omega) (by omega) (by omega), sn 2 (by omega) (by omega) (by omega), sn 3 (by omega) (by omega) (by omega)⟩ ⟨pn 1 (by decide) (by decide) (by decide) (by decide) (by decide), pn 2 (by decide) (by decide) (by decide) (by decide) (by decide), pn 3 (by decide) (by decide) (by decide) (by decide) (by decide)⟩, ⟨fun k hk => ?_, ?_, ?_⟩, fun c hcc => ?_, fun c hcc => ?_, ?_⟩
        · unfold R_o1
          rw [sn 4 (by omega) (by omega) (by omega), sn 5 (by omega) (by omega) (by omega), sn 6 (by omega) (by omega) (by omega), pn 4 (by decide) (by decide) (by decide) (by decide) (by decide), pn 5 (by decide) (by decide) (by decide) (by decide) (by decide), pn 6 (by decide) (by decide) (by decide) (by decide) (by decide)]
          exact ho k hk
        · rw [pn 6 (by decide) (by decide) (by decide) (by decide) (by decide)]; exact ho2
        · rw [pn 7 (by decide) (by decide) (by decide) (by decide) (by decide)]; exact hc2
        · by_cases e : c = n
          · subst e
            refine R_c1.sd hj (by rw [pn 7 (by decide) (by decide) (by decide) (by decide) (by decide)]; exact s1) (by rw [m3, pn 7 (by decide) (by decide) (by decide) (by decide) (by decide)]; exact s3) m4 (by rw [pn 8 (by decide) (by decide) (by decide) (by decide) (by decide)]; exact s5) m8 (by rw [sn 3 (by omega) (by omega) (by omega)]; exact s7)
          · refine (hc c hcc).loc ⟨⟨sn _ (by omega) (by omega) (by omega), sn _ (by omega) (by omega) (by omega), sn _ (by omega) (by omega) (by omega)⟩, ⟨?_, ?_, (m5 c e).1, ?_, (m5 c e).2.1, (m5 c e).2.2⟩, fun k hk => m6 _ (fun k' hk' => by omega), fun k hk => m7 _ (fun k' hk' => by omega)⟩ (pn 5 (by decide) (by decide) (by decide) (by decide) (by decide)) (pn 6 (by decide) (by decide) (by decide) (by decide) (by decide)) (pn 7 (by decide) (by decide) (by decide) (by decide) (by decide)) (fun i _ => by rw [sn 3 (by omega) (by omega) (by omega)]) (Nat.le_refl _) h6 (fun k hk => (ho k hk).room.2)
            · rw [pn 8 (by decide) (by decide) (by decide) (by decide) (by decide)]
            · rw [pn 9 (by decide) (by decide) (by decide) (by decide) (by decide)]
            · rw [pn 12 (by decide) (by decide) (by decide) (by decide) (by decide)]
        · by_cases e : c = n
          · subst e
            rw [m15, ← m1]
          · rw [(m5 c e).2.2]; exact hg c hcc
        · have q := R_gr_1 (M := Q) (M' := cq_pc Q n (mo + 1)) (c := n) (n := nc) (fun d _ g => (m5 d g).2.2) (by omega)
          rw [m15] at q
          omega
      refine ⟨?_, ?_⟩
      · show va_up (cq_pc Q n (mo + 1)) 0 _ 0 3 = _
        rw [cy_us, pk_us, i1, m2, Int32.add_assoc]
      · have y := fin.z (f := cy_sLv P.1 n w (cy_hl mo) 0) (g := upd (cq_pc Q n (mo + 1) 0) 3 (Q 0 3 + (cq_p3 Q n).2)) h6
        rw [cy_self] at y
        exact y
/-- a month -/
theorem r_month {S M : Nat → Nat → Int32} {ns no nc B t : Nat} (h : R_k S M ns no nc B t) (h6 : no ≤ 6) (ht : t ≤ 1000000) (hB : B + 4800 * nc < 2 ^ 31) (hm : S 0 14 = M 0 1) (hw : S 0 16 = M 0 2) : cq_mo M ns nc 0 3 = M 0 3 + (cy_mS S ns nc).2 ∧ cq_mo M ns nc 0 1 = M 0 1 + 1 ∧ cy_sMo S ns nc 0 14 = S 0 14 + 1 ∧ R_k (cy_sMo S ns nc) (cq_mo M ns nc) ns no nc (B + 4800 * nc) t := by
  obtain ⟨a1, a2⟩ := r_lm (mo := S 0 14) (w := S 0 16) (r_se h h6) h6 ht hB (by rw [cq_se_n (by decide)]; exact hm.symm) (by rw [cq_se_n (by decide)]; exact hw.symm) (Nat.le_refl nc)
  rw [cq_se_n (show (0 : Nat) ≠ 2 by decide)] at a1
  refine ⟨?_, ?_, ?_, ?_⟩
  · unfold cq_mo
    rw [cy_us, pk_un (by decide)]
    exact a1
  · unfold cq_mo
    rw [cy_us, pk_us, cq_lm_0 (by decide), cq_se_n (by decide)]
  · unfold cy_sMo
    rw [cy_us, pk_us]
  · exact a2.z h6
theorem cq_mo_0 {S : Nat → Nat → Int32} {ns nc k : Nat} (h : k ≠ 3) (h1 : k ≠ 1) : cq_mo S ns nc 0 k = S 0 k := by
  unfold cq_mo
  rw [cy_us, pk_un h1, cq_lm_0 h, cq_se_n (by decide)]
theorem r_pm {S M : Nat → Nat → Int32} {ns no nc B t mo : Nat} (h : R_k S M ns no nc B t) (h6 : no ≤ 6) (ht : t ≤ 1000000) (hS : S 0 14 = nI mo) (hM : M 0 1 = nI mo) (hw : S 0 16 = M 0 2) : ∀ {n : Nat}, B + 4800 * nc * n < 2 ^ 31 → cq_pm M ns nc n 0 3 = M 0 3 + (cy_pm S ns nc n).2 ∧ (cq_pm M ns nc n 0 1 = nI (mo + n) ∧ (cy_pm S ns nc n).1 0 14 = nI (mo + n)) ∧ R_k (cy_pm S ns nc n).1 (cq_pm M ns nc n) ns no nc (B + 4800 * nc * n) t
  | 0, _ => ⟨(Int32.add_zero _).symm, ⟨hM, hS⟩, h⟩
  | n + 1, hB => by
    rw [Nat.mul_succ] at hB
    obtain ⟨i1, ⟨i2, i3⟩, i4⟩ := r_pm h h6 ht hS hM hw (n := n) (by omega)
    obtain ⟨a1, a2, a3, a4⟩ := r_month i4 h6 ht (by omega) (by rw [i2, i3]) (by rw [cy_pm_0 (by decide), cq_pm_0 (by decide) (by decide)]; exact hw)
    refine ⟨?_, ⟨?_, ?_⟩, ?_⟩
    · show cq_mo (cq_pm M ns nc n) ns nc 0 3 = M 0 3 + ((cy_pm S ns nc n).2 + _)
      rw [a1, i1, Int32.add_assoc]
    · show cq_mo (cq_pm M ns nc n) ns nc 0 1 = _
      rw [a2, i2, nI_1, Nat.add_assoc]
    · show cy_sMo (cy_pm S ns nc n).1 ns nc 0 14 = _
      rw [a3, i3, nI_1, Nat.add_assoc]
    · rw [Nat.mul_succ, ← Nat.add_assoc]
      exact a4
theorem cy_acs {a b : Int32} : (a + b) - a = b := by
  rw [Int32.add_comm]
  exact Int32.add_sub_cancel _ _
theorem s_pass {S M : Nat → Nat → Int32} {x : Int32} {ns no nc mo t : Nat} (ht : t ≤ 1000000) (h : Rel S M ns no nc mo t) : R_F cy_IA cy_IS (cy_tPa S x) (cq_Pa M x ns nc) ((cy_pm S ns nc x.toNatClampNeg).2) (cy_if (cy_tPa S x) (cy_nPa S ns nc x.toNatClampNeg) S) (t + 1) := by
  have et : cy_tPa S x = if cq_in x 1 60 = 0 then some cy_IA else if S 0 14 + x ≤ 1200 then none else some cy_IS := by
    unfold cy_tPa
    rw [r_g1]
  have hr := h.rs
  obtain ⟨⟨n1, n2, n3⟩, ⟨o1, o2, o3⟩, ⟨c1, c2, c3⟩, ⟨m1, m2, m3⟩, l1, wa, w1, w2, w3⟩ := h.1
  by_cases h1 : cq_in x 1 60 = 0
  · exact r_bad h (E := cy_IA) (k := 1) (by rw [et, if_pos h1]) (by unfold cq_Pa; rw [if_pos h1]) rfl
  rw [if_neg h1] at et
  obtain ⟨k, ⟨hk1, hk2⟩, rfl⟩ := cq_in_l1 (n := 60) (by decide) h1
  have ek : (nI k).toNatClampNeg = k := nI_clamp (by omega)
  by_cases h2 : S 0 14 + nI k ≤ 1200
  case neg => exact r_bad h (E := cy_IS) (k := 2) (by rw [et, if_neg h2]) (by unfold cq_Pa; rw [if_neg h1, if_neg (by rw [m2, ← m1]; exact h2)]) rfl
  rw [if_pos h2] at et
  have hmk : mo + k ≤ 1200 := by
    rw [m1, nI_add] at h2
    exact cy_le (b := 1200) (by omega) (by decide) h2
  have f : cq_Pa M (nI k) ns nc = (cq_pm (cq_rs M) ns nc k, cq_pm (cq_rs M) ns nc k 0 3 - M 0 3) := by
    unfold cq_Pa
    rw [if_neg h1, if_pos (by rw [m2, ← m1]; exact h2), ek]
  have hB : 4800 * nc * k ≤ 57600 * k := Nat.mul_le_mul_right k (by omega)
  obtain ⟨q1, ⟨q2, q3⟩, q4⟩ := r_pm (B := 57600 * mo) (mo := mo) (n := k) (show R_k S (cq_rs M) ns no nc (57600 * mo) t from hr.2) o3 ht m1 m2 (by rw [w2]; exact w3.symm) (by omega)
  have q1' : cq_pm (cq_rs M) ns nc k 0 3 = M 0 3 + (cy_pm S ns nc k).2 := q1
  rw [ek]
  refine r_good (ns := ns) (no := no) (nc := nc) (mo := mo + k) ?_ et f ?_ ?_
  · have y := q4.z (f := upd ((cy_pm S ns nc k).1 0) 15 ((cy_pm S ns nc k).1 0 15 + (cy_pm S ns nc k).2)) (g := cq_pm (cq_rs M) ns nc k 0) o3
    rw [cy_self] at y
    have p0 : ∀ j, j ≠ 14 → (cy_pm S ns nc k).1 0 j = S 0 j := fun j hj => cy_pm_0 hj
    have pq : ∀ j, j ≠ 3 → j ≠ 1 → cq_pm (cq_rs M) ns nc k 0 j = cq_rs M 0 j := fun j a b => cq_pm_0 a b
    refine Rel.mono (t := t) ⟨?_, y.1, y.2.1, y.2.2.1, y.2.2.2.1, ?_⟩ (Nat.le_succ _)
    · unfold cy_nPa R_n
      rw [cy_us, pk_un (by decide), pk_un (by decide), pk_un (by decide), pk_un (by decide), pk_us, pk_un (by decide), p0 3 (by decide), p0 7 (by decide), p0 9 (by decide), p0 15 (by decide), p0 16 (by decide), q3, q2, q1', pq 4 (by decide) (by decide), pq 8 (by decide) (by decide), pq 12 (by decide) (by decide), pq 2 (by decide) (by decide)]
      exact ⟨⟨n1, n2, n3⟩, ⟨o1, o2, o3⟩, ⟨c1, c2, c3⟩, ⟨rfl, rfl, hmk⟩, by rw [l1], wa, w1, w2, w3⟩
    · have z := y.2.2.2.2
      have e : 57600 * (mo + k) = 57600 * mo + 57600 * k := Nat.mul_add _ _ _
      omega
  · rw [cq_pm_0 (by decide) (by decide)]
    rfl
  · rw [q1']
    exact cy_acs.symm
