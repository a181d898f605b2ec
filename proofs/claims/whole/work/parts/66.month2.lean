/-! the air -/
def cq_a4 (M : Nat → Nat → Int32) (c : Nat) : Nat → Nat → Int32 := va_up M 13 (upd (M 13) c (if cq_al M c ≤ 0 then 0 else if 4 * M 5 (cq_so M c) ≤ 5 * cq_al M c then 0 else M 13 c + 1))
def cq_a5 (M : Nat → Nat → Int32) (c : Nat) : Nat → Nat → Int32 := if cq_a4 M c 13 c = 6 then va_up (cq_vi (cq_a4 M c) c (cq_al M c) 5) 13 (upd (cq_vi (cq_a4 M c) c (cq_al M c) 5 13) c 0) else cq_a4 M c
theorem cq_p5_a {M : Nat → Nat → Int32} {c : Nat} : cq_p5 M c = cq_a5 (cq_p3 M c).1 c := by
  have e2 : cq_so M c = cq_so (cq_p3 M c).1 c := by unfold cq_so; rw [cq_p3_n (by decide) (by decide) (by decide)]
  unfold cq_p5 cq_a5 cq_p4 cq_a4 cq_lf
  rw [e2]
theorem cq_vi_v {S : Nat → Nat → Int32} {c : Nat} {x : Int32} : ∀ {n : Nat}, (∀ k, k < n → cq_vi S c x n 14 (5 * c + k) = if nI k = 4 then x else 0) ∧ ∀ j, (∀ k, k < n → j ≠ 5 * c + k) → cq_vi S c x n 14 j = S 14 j
  | 0 => ⟨fun k hk => absurd hk (Nat.not_lt_zero _), fun _ _ => rfl⟩
  | n + 1 => by
    obtain ⟨h1, h2⟩ := cq_vi_v (S := S) (c := c) (x := x) (n := n)
    unfold cq_vi
    rw [cy_us]
    refine ⟨fun k hk => ?_, fun j hj => ?_⟩
    · by_cases e : k = n
      · subst e; exact pk_us
      · rw [pk_un (by omega)]; exact h1 k (by omega)
    · rw [pk_un (hj n (by omega))]
      exact h2 j (fun k hk => hj k (by omega))
theorem r_m5 {S M : Nat → Nat → Int32} {t d c r : Nat} (q : R_cd S M t d c) (hr : M 5 (cq_so M c) = nI r) (hr2 : r ≤ 60000) : (∀ k, k ≠ 7 → cy_sAir S d (3 * d + 11) k = S (3 * d + 11) k) ∧ (∀ e, e ≠ c → cq_a5 M c 13 e = M 13 e) ∧ (∀ j, j ≠ 13 → j ≠ 14 → cq_a5 M c j = M j) ∧ (∀ j, (∀ k, k < 5 → j ≠ 5 * c + k) → cq_a5 M c 14 j = M 14 j) ∧ R_cd (cy_sAir S d) (cq_a5 M c) t d c := by
  obtain ⟨al1, al2⟩ := q.al
  obtain ⟨s, hs, hs2⟩ := q.2.2.2.1
  obtain ⟨f, hf, hf2⟩ := q.2.2.2.2.1
  obtain ⟨a, ha, ha2⟩ := q.2.2.2.2.2
  have hW : cq_hW M c ≤ r := by
    have z := q.2.1.2.2
    rw [hr, nI_clamp (by omega)] at z
    exact z
  have hS5 : S (3 * d + 11) 5 = nI s := by rw [q.1.2.2.2.1, hs2]
  have hS6 : S (3 * d + 11) 6 = nI f := by rw [q.1.2.2.2.2.1, hf2]
  have hS7 : S (3 * d + 11) 7 = nI a := by rw [q.1.2.2.2.2.2.1, ha2]
  obtain ⟨E, hE, hE6⟩ : ∃ E, (if cq_al M c ≤ 0 then (0 : Int32) else if 4 * M 5 (cq_so M c) ≤ 5 * cq_al M c then 0 else M 13 c + 1) = nI E ∧ E ≤ 6 := by
    split
    · exact ⟨0, rfl, by decide⟩
    · split
      · exact ⟨0, rfl, by decide⟩
      · exact ⟨a + 1, by rw [ha2, nI_1], by omega⟩
  have eS : cy_air S d = nI E := by
    unfold cy_air
    rw [al1, q.1.1, hS7, ← ha2]
    exact hE
  have eM : cq_a4 M c = va_up M 13 (upd (M 13) c (nI E)) := by unfold cq_a4; rw [hE]
  have eM13 : cq_a4 M c 13 c = nI E := by rw [eM, cy_us, pk_us]
  by_cases z : E = 6
  · subst z
    have e6 : (nI 6 : Int32) = 6 := rfl
    have eS' : cy_sAir S d = va_up (va_up S (3 * d + 13) (upd (cy_fl (S (3 * d + 13)) 0 5) 4 (cq_al M c))) (3 * d + 11) (upd (upd (S (3 * d + 11)) 7 (nI 6)) 7 0) := by
      unfold cy_sAir
      rw [eS, if_neg (fun y => y e6), al1]
    have eM' : cq_a5 M c = va_up (cq_vi (cq_a4 M c) c (cq_al M c) 5) 13 (upd (cq_vi (cq_a4 M c) c (cq_al M c) 5 13) c 0) := by
      unfold cq_a5
      rw [eM13, if_pos e6]
    have a11 : ∀ k, k ≠ 7 → cy_sAir S d (3 * d + 11) k = S (3 * d + 11) k := fun k hk => by rw [eS', cy_us, pk_un hk, pk_un hk]
    have a4n : ∀ j, j ≠ 13 → cq_a4 M c j = M j := fun j hj => by rw [eM, cy_un hj]
    have Mn : ∀ j, j ≠ 13 → j ≠ 14 → cq_a5 M c j = M j := fun j h1 h2 => by rw [eM', cy_un h1, cq_vi_n h2, a4n j h1]
    have M14 : cq_a5 M c 14 = cq_vi (cq_a4 M c) c (cq_al M c) 5 14 := by rw [eM', cy_un (by decide)]
    have M14o : ∀ j, (∀ k, k < 5 → j ≠ 5 * c + k) → cq_a5 M c 14 j = M 14 j := fun j hj => by
      rw [M14, (cq_vi_v (S := cq_a4 M c) (c := c) (x := cq_al M c) (n := 5)).2 j hj, a4n 14 (by decide)]
    have M13c : ∀ e, e ≠ c → cq_a5 M c 13 e = M 13 e := fun e he => by rw [eM', cy_us, pk_un he, cq_vi_n (by decide), eM, cy_us, pk_un he]
    have hN : ∀ k, k < 5 → (if nI k = 4 then cq_al M c else 0) = nI (if k = 4 then cq_hW M c else 0) := fun k hk => by
      have hk5 : k = 0 ∨ k = 1 ∨ k = 2 ∨ k = 3 ∨ k = 4 := by omega
      rcases hk5 with rfl | rfl | rfl | rfl | rfl
      · rfl
      · rfl
      · rfl
      · rfl
      · exact al2
    refine ⟨a11, M13c, Mn, M14o, ?_⟩
    have q1 : R_cd (va_up S (3 * d + 13) (upd (cy_fl (S (3 * d + 13)) 0 5) 4 (cq_al M c))) (va_up M 14 (cq_a5 M c 14)) t d c := by
      refine q.am (N := fun k => if k = 4 then cq_hW M c else 0) (w := r) (f := f) (fun k _ _ => by rw [cy_un (by omega)]) (cy_un (by omega)) (cy_un (by decide)) (cy_un (by decide)) (cy_un (by decide)) (cy_un (by decide)) (cy_un (by decide)) (cy_un (by decide)) (cy_un (by decide)) (by rw [cy_un (by omega)]; exact hS6) (by rw [cy_un (by decide)]; exact hf2) hf (by rw [cy_un (by omega), cy_un (by decide)]; exact q.1.2.2.2.2.2.2) (fun k hk => ?_) (fun k hk => ?_) ?_ hr hr2
      · rw [cy_us]
        by_cases y : k = 4
        · subst y
          rw [pk_us]
          exact al2
        · rw [pk_un y, show cy_fl (S (3 * d + 13)) 0 5 k = 0 from if_pos hk]
          show (0 : Int32) = nI (if k = 4 then _ else 0)
          rw [if_neg y]
          rfl
      · rw [cy_us, M14, (cq_vi_v (S := cq_a4 M c) (c := c) (x := cq_al M c) (n := 5)).1 k hk]
        exact hN k hk
      · show 0 + 0 + 0 + 0 + cq_hW M c ≤ r
        omega
    refine q1.sa (s := s) (a := 0) (fun k _ k7 => by rw [a11 k k7, cy_un (by omega)]) (by rw [eS', cy_un (by omega), cy_un (by omega)]) (by rw [eS', cy_un (by omega), cy_us]) (by rw [Mn 5 (by decide) (by decide), cy_un (by decide)]) (by rw [Mn 6 (by decide) (by decide), cy_un (by decide)]) (by rw [Mn 7 (by decide) (by decide), cy_un (by decide)]) (by rw [Mn 9 (by decide) (by decide), cy_un (by decide)]) (by rw [Mn 10 (by decide) (by decide), cy_un (by decide)]) (by rw [Mn 12 (by decide) (by decide), cy_un (by decide)]) (fun k _ => by rw [cy_us]) (by rw [Mn 15 (by decide) (by decide), cy_un (by decide)]) (by rw [a11 5 (by decide)]; exact hS5) (by rw [Mn 11 (by decide) (by decide)]; exact hs2) hs (by rw [eS', cy_us, pk_us]; rfl) (by rw [eM', cy_us, pk_us]; rfl) (by decide)
  · have e6 : ¬ (nI E : Int32) = 6 := fun y => z (cy_eq (b := 6) (by omega) (by decide) y)
    have eS' : cy_sAir S d = va_up S (3 * d + 11) (upd (S (3 * d + 11)) 7 (nI E)) := by
      unfold cy_sAir
      rw [eS, if_pos e6]
    have eM' : cq_a5 M c = va_up M 13 (upd (M 13) c (nI E)) := by
      unfold cq_a5
      rw [eM13, if_neg e6, eM]
    have a11 : ∀ k, k ≠ 7 → cy_sAir S d (3 * d + 11) k = S (3 * d + 11) k := fun k hk => by rw [eS', cy_us, pk_un hk]
    have Mn : ∀ j, j ≠ 13 → cq_a5 M c j = M j := fun j h1 => by rw [eM', cy_un h1]
    refine ⟨a11, fun e he => by rw [eM', cy_us, pk_un he], fun j h1 _ => Mn j h1, fun j _ => by rw [Mn 14 (by decide)], ?_⟩
    exact q.sa (s := s) (a := E) (fun k _ k7 => a11 k k7) (by rw [eS', cy_un (by omega)]) (by rw [eS', cy_un (by omega)]) (Mn 5 (by decide)) (Mn 6 (by decide)) (Mn 7 (by decide)) (Mn 9 (by decide)) (Mn 10 (by decide)) (Mn 12 (by decide)) (fun k _ => by rw [Mn 14 (by decide)]) (Mn 15 (by decide)) (by rw [a11 5 (by decide)]; exact hS5) (by rw [Mn 11 (by decide)]; exact hs2) hs (by rw [eS', cy_us, pk_us]) (by rw [eM', cy_us, pk_us]) (by omega)
/-! the hoops loosen -/
theorem cy_ln_v {S : Nat → Nat → Int32} {d : Nat} : ∀ {n k : Nat}, cy_ln S d n (3 * d + 12) k = if k < n then cy_mx 0 (S (3 * d + 12) k - 1) else S (3 * d + 12) k
  | 0, k => by rw [if_neg (Nat.not_lt_zero _)]; rfl
  | n + 1, k => by
    unfold cy_ln
    rw [cy_us]
    by_cases e : k = n
    · subst e
      rw [pk_us, cy_ln_v, if_neg (Nat.lt_irrefl _), if_pos (Nat.lt_succ_self _)]
    · rw [pk_un e, cy_ln_v]
      by_cases z : k < n
      · rw [if_pos z, if_pos (by omega)]
      · rw [if_neg z, if_neg (by omega)]
theorem cq_ln_v {S : Nat → Nat → Int32} {c : Nat} : ∀ {n : Nat}, (∀ k, k < n → cq_ln S c n 10 (8 * c + k) = cy_mx 0 (S 10 (8 * c + k) - 1)) ∧ ∀ j, (∀ k, k < n → j ≠ 8 * c + k) → cq_ln S c n 10 j = S 10 j
  | 0 => ⟨fun k hk => absurd hk (Nat.not_lt_zero _), fun _ _ => rfl⟩
  | n + 1 => by
    obtain ⟨h1, h2⟩ := cq_ln_v (S := S) (c := c) (n := n)
    unfold cq_ln
    rw [cy_us]
    refine ⟨fun k hk => ?_, fun j hj => ?_⟩
    · by_cases e : k = n
      · subst e
        rw [pk_us, h2 _ (fun k' hk' => by omega)]
      · rw [pk_un (by omega)]; exact h1 k (by omega)
    · rw [pk_un (hj n (by omega))]
      exact h2 j (fun k hk => hj k (by omega))
theorem r_m6 {S M : Nat → Nat → Int32} {t d c : Nat} (q : R_cd S M t d c) (h8 : ¬ M 8 c = 0) (hh : cq_hn M c ≤ 8) : R_cd (cy_ln S d 8) (cq_ln M c (cq_hn M c)) t d c := by
  have ehn := q.hn h8
  refine q.tf (Nat.le_refl _) (fun k _ => by rw [cy_ln_n (by omega)]) (cy_ln_n (by omega)) (cq_ln_n (by decide)) (cq_ln_n (by decide)) (cq_ln_n (by decide)) (cq_ln_n (by decide)) (cq_ln_n (by decide)) (cq_ln_n (by decide)) (cq_ln_n (by decide)) (cq_ln_n (by decide)) (by rw [cy_ln_n (by omega), cq_ln_n (by decide)]; exact q.1.2.1) (fun k hk => ?_) (fun k h1 h2 => ?_) (fun k hk => ?_)
  · rw [← ehn] at hk
    rw [cy_ln_v, if_pos (by omega), (cq_ln_v (S := M) (c := c) (n := cq_hn M c)).1 k hk, q.2.2.1.1 k (by rw [← ehn]; exact hk)]
  · rw [cy_ln_v, if_pos h2, q.2.2.1.2.1 k h1 h2]
    rfl
  · obtain ⟨v, hv, e⟩ := q.2.2.1.2.2 k hk
    rw [cy_ln_v, if_pos hk, e]
    exact ⟨v - 1, by omega, cy_mx_sub (b := 1) (by omega) (by decide)⟩
/-! a month of a sound cask -/
theorem r_mo {S M : Nat → Nat → Int32} {t d c r g : Nat} {w b x : Int32} (q : R_cd S M t d c) (hr : M 5 (cq_so M c) = nI r) (hr2 : r ≤ 60000) (ht : t ≤ 1000000) (hg : M 15 c = nI g) (h2 : S (3 * d + 11) 2 = 1) (h8 : M 8 c = 1) (hh : cq_hn M c ≤ 8) (hw : M 0 2 = w) (hb : b = 0 ↔ ¬ x - x / 12 * 12 = 0) :
    (∃ G, G ≤ 4800 ∧ cq_pc M c x 15 c = nI (g + G)) ∧ cy_rLv S d w = (cq_p3 M c).2 ∧ (cy_sLv S d w b (3 * d + 11) 0 = S (3 * d + 11) 0 ∧ cy_sLv S d w b (3 * d + 11) 2 = 1) ∧ (∀ e, e ≠ c → cq_pc M c x 11 e = M 11 e ∧ cq_pc M c x 13 e = M 13 e ∧ cq_pc M c x 15 e = M 15 e) ∧ (∀ j, (∀ k, k < 8 → j ≠ 8 * c + k) → cq_pc M c x 10 j = M 10 j) ∧ (∀ j, (∀ k, k < 5 → j ≠ 5 * c + k) → cq_pc M c x 14 j = M 14 j) ∧ R_cd (cy_sLv S d w b) (cq_pc M c x) t d c := by
  have h2' : ¬ S (3 * d + 11) 2 = 0 := by rw [h2]; decide
  obtain ⟨G, hG, g1, g2, g3, g4, q1⟩ := r_m1 q hr hr2 ht hg
  obtain ⟨k1, k2, q2⟩ := r_m2 q1
  rw [← cq_p2_sw] at k2 q2
  have e8 : ¬ cq_p2 M c 8 c = 0 := by rw [cq_p2_n (by decide) (by decide), h8]; decide
  have ehn2 : cq_hn (cq_p2 M c) c = cq_hn M c := cq_hn_c (cq_p2_n (by decide) (by decide)) (cq_p2_n (by decide) (by decide)) (cq_p2_n (by decide) (by decide))
  have eso2 : cq_so (cq_p2 M c) c = cq_so M c := by unfold cq_so; rw [cq_p2_n (by decide) (by decide)]
  have s22 : ¬ cy_S2 S d (3 * d + 11) 2 = 0 := by
    show ¬ cy_sSw (cy_sTk S d) d (3 * d + 11) 2 = 0
    rw [k1 2 (by decide), g3 2 (by decide)]
    exact h2'
  have elk : cy_rLeak (cy_S2 S d) d = cq_lk (cq_p2 M c) c := R_cd.lk q2 e8 (by rw [ehn2]; exact hh) s22
  have eth : (cy_rLeak (cy_S2 S d) d + 3) + w = cq_by M c := by
    unfold cq_by
    rw [elk, cq_p2_n (by decide) (by decide), hw]
  obtain ⟨l1, l2, q4⟩ := r_m4 (th := cq_by M c) q2 (by rw [eso2, cq_p2_n (by decide) (by decide)]; exact hr) hr2
  have elq : cy_lq S d w = cy_lo (cy_S2 S d) d (cq_by M c) 5 := by unfold cy_lq; rw [eth]
  have e3so : cq_so (cq_p3 M c).1 c = cq_so M c := by unfold cq_so; rw [cq_p3_n (by decide) (by decide) (by decide)]
  obtain ⟨a1, a2, a3, a4, q5⟩ := r_m5 (S := (cy_lq S d w).1) (M := (cq_p3 M c).1) (t := t) (d := d) (c := c) (r := r) (by rw [elq]; exact q4) (by rw [e3so, cq_p3_n (by decide) (by decide) (by decide)]; exact hr) hr2
  rw [← cq_p5_a] at a2 a3 a4 q5
  have hrv : cy_rLv S d w = (cq_p3 M c).2 := by
    unfold cy_rLv
    rw [if_pos h2', elq]
    exact l1
  -- the class's cask: its places 0 and 2
  have s02 : ∀ k, k ≠ 5 → k ≠ 7 → k ≠ 8 → cy_sAir (cy_lq S d w).1 d (3 * d + 11) k = S (3 * d + 11) k := fun k y5 y7 y8 => by
    rw [a1 k y7, elq, cy_lo_n (by omega)]
    show cy_sSw (cy_sTk S d) d (3 * d + 11) k = _
    rw [k1 k y5, g3 k y8]
  -- the reference's cells
  have p3 : ∀ j, j ≠ 14 → (cq_p3 M c).1 j = cq_p2 M c j := fun j y => cq_lo_n y
  have p11 : ∀ e, e ≠ c → cq_p5 M c 11 e = M 11 e := fun e he => by rw [a3 11 (by decide) (by decide), p3 11 (by decide), k2 e he, cq_p1_n (by decide)]
  have p13 : ∀ e, e ≠ c → cq_p5 M c 13 e = M 13 e := fun e he => by rw [a2 e he, p3 13 (by decide), cq_p2_n (by decide) (by decide)]
  have p15' : cq_p5 M c 15 = cq_p1 M c 15 := by
    rw [a3 15 (by decide) (by decide), p3 15 (by decide), cq_p2_sw]
    exact cy_un (by decide)
  have p14 : ∀ j, (∀ k, k < 5 → j ≠ 5 * c + k) → cq_p5 M c 14 j = M 14 j := fun j hj => by
    rw [a4 j hj]
    show (cq_lo (cq_p2 M c) c (cq_by M c) 5).1 14 j = _
    rw [l2 j hj, cq_p2_n (by decide) (by decide)]
  have p10 : cq_p5 M c 10 = M 10 := cq_p5_n (by decide) (by decide) (by decide) (by decide)
  have ehn5 : cq_hn (cq_p5 M c) c = cq_hn M c := cq_hn_c (cq_p5_n (by decide) (by decide) (by decide) (by decide)) (cq_p5_n (by decide) (by decide) (by decide) (by decide)) (cq_p5_n (by decide) (by decide) (by decide) (by decide))
  have e85 : ¬ cq_p5 M c 8 c = 0 := by rw [cq_p5_n (by decide) (by decide) (by decide) (by decide), h8]; decide
  by_cases z : x - x / 12 * 12 = 0
  · have zb : ¬ b = 0 := fun y => (hb.mp y) z
    have eS : cy_sLv S d w b = cy_ln (cy_sAir (cy_lq S d w).1 d) d 8 := by unfold cy_sLv; rw [if_pos h2', if_neg zb]
    have eM : cq_pc M c x = cq_ln (cq_p5 M c) c (cq_hn M c) := by unfold cq_pc; rw [if_pos z]
    have q6 := r_m6 q5 e85 (by rw [ehn5]; exact hh)
    rw [ehn5] at q6
    rw [eS, eM]
    have n : ∀ j, j ≠ 10 → cq_ln (cq_p5 M c) c (cq_hn M c) j = cq_p5 M c j := fun j hj => cq_ln_n hj
    refine ⟨⟨G, hG, by rw [n 15 (by decide), p15']; exact g2⟩, hrv, ⟨?_, ?_⟩, fun e he => ⟨by rw [n 11 (by decide)]; exact p11 e he, by rw [n 13 (by decide)]; exact p13 e he, by rw [n 15 (by decide), p15']; exact g4 e he⟩, fun j hj => ?_, fun j hj => by rw [n 14 (by decide)]; exact p14 j hj, q6⟩
    · rw [cy_ln_n (by omega), s02 0 (by decide) (by decide) (by decide)]
    · rw [cy_ln_n (by omega), s02 2 (by decide) (by decide) (by decide)]; exact h2
    · rw [(cq_ln_v (S := cq_p5 M c) (c := c) (n := cq_hn M c)).2 j (fun k hk => hj k (by omega)), p10]
  · have zb : b = 0 := hb.mpr z
    have eS : cy_sLv S d w b = cy_sAir (cy_lq S d w).1 d := by unfold cy_sLv; rw [if_pos h2', if_pos zb]
    have eM : cq_pc M c x = cq_p5 M c := by unfold cq_pc; rw [if_neg z]
    rw [eS, eM]
    refine ⟨⟨G, hG, by rw [p15']; exact g2⟩, hrv, ⟨s02 0 (by decide) (by decide) (by decide), by rw [s02 2 (by decide) (by decide) (by decide)]; exact h2⟩, fun e he => ⟨p11 e he, p13 e he, by rw [p15']; exact g4 e he⟩, fun j _ => by rw [p10], p14, q5⟩
