/-! the yard's constructor: the world at the head of its loop -/
def cy_S0 : Nat → Nat → Int32 := va_up (fun _ _ => 0) 0 (upd (fun _ => 0) 16 2)
def cy_cki (ad : Nat → Nat) (i : Nat) : Nat → Option Nat := fun c => if c < i then some (ad (3 * c + 11)) else none
def cy_eYi (kI kJ kC : ClassId) (i : Nat) (ad : Nat → Nat) (j : Nat) (f : Nat → Int32) : va_E := if j = 7 then .inl (kC, 12, .inr (.inr (.inr (.inr (cy_cki ad i))))) else cy_eY kI kJ kC ad (fun _ => 0) j f
def cy_sp (kI : ClassId) (ad : Nat → Nat) (n : Nat) : va_W := [(ad n, .inr (1, cy_fC (ad (n + 1)) (ad (n + 2)) (fun _ => 0))), (ad (n + 1), .inl (kI, 8, .inl (fun _ => 0))), (ad (n + 2), .inl (kI, 5, .inl (fun _ => 0)))]
def cy_Wi (kI kJ kC : ClassId) (i : Nat) (ad : Nat → Nat) (tl : va_W) : va_W := cy_w (3 * i + 11) ad (cy_eYi kI kJ kC i ad) cy_S0 (cy_sp kI ad 47 ++ tl)
def cy_adn (ad : Nat → Nat) (n q y1 y2 : Nat) : Nat → Nat := fun j => if j = n then q else if j = n + 1 then y1 else if j = n + 2 then y2 else ad j
theorem cy_adn_n {ad : Nat → Nat} {n q y1 y2 j : Nat} (h : j ≠ n) (h1 : j ≠ n + 1) (h2 : j ≠ n + 2) : cy_adn ad n q y1 y2 j = ad j := by
  unfold cy_adn
  rw [if_neg h, if_neg h1, if_neg h2]
theorem cy_perm3 {A B C t : va_W} : (A ++ (B ++ (C ++ t))).Perm (C ++ (A ++ (B ++ t))) := (List.Perm.append_left A (List.perm_append_comm_assoc _ _ _)).trans (List.perm_append_comm_assoc _ _ _)
theorem cy_G3 {n : Nat} {ad : Nat → Nat} {en : Nat → va_E} : cy_G (n + 3) ad en = cy_G n ad en ++ [(ad n, en n), (ad (n + 1), en (n + 1)), (ad (n + 2), en (n + 2))] := by
  unfold cy_G
  rw [List.range_succ, List.range_succ, List.range_succ]
  simp
theorem cy_G_congr {n : Nat} {ad ad' : Nat → Nat} {en en' : Nat → va_E} (h : ∀ j, j < n → ad j = ad' j ∧ en j = en' j) : cy_G n ad en = cy_G n ad' en' := by
  unfold cy_G
  apply List.map_congr_left
  intro j hj
  have := h j (List.mem_range.mp hj)
  rw [this.1, this.2]
theorem cy_eY_ad {kI kJ kC : ClassId} {ad ad' : Nat → Nat} {Z : Nat → Int64} {i j : Nat} {f : Nat → Int32} (hj : j < 3 * i + 11) (h7 : j ≠ 7) (h : ∀ k, k < 3 * i + 11 → ad k = ad' k) (h47 : ad 47 = ad' 47) : cy_eY kI kJ kC ad Z j f = cy_eY kI kJ kC ad' Z j f := by
  have g : ∀ k, k < 11 → ad k = ad' k := fun k hk => h k (by omega)
  by_cases h0 : j = 0
  · subst h0
    show (.inr (2, cy_fY ad f) : va_E) = .inr (2, cy_fY ad' f)
    unfold cy_fY
    rw [g 1 (by decide), g 2 (by decide), g 3 (by decide), g 4 (by decide), g 5 (by decide), g 6 (by decide), g 7 (by decide), g 8 (by decide), g 9 (by decide), g 10 (by decide), h47]
  · by_cases h11 : j < 11
    · have : j = 1 ∨ j = 2 ∨ j = 3 ∨ j = 4 ∨ j = 5 ∨ j = 6 ∨ j = 8 ∨ j = 9 ∨ j = 10 := by omega
      rcases this with rfl | rfl | rfl | rfl | rfl | rfl | rfl | rfl | rfl <;> rfl
    · obtain ⟨k, rfl⟩ : ∃ k, j = k + 11 := ⟨j - 11, by omega⟩
      show (if k % 3 = 0 then (.inr (1, cy_fC (ad (k + 12)) (ad (k + 13)) f) : va_E) else _) = (if k % 3 = 0 then .inr (1, cy_fC (ad' (k + 12)) (ad' (k + 13)) f) else _)
      by_cases hk : k % 3 = 0
      · rw [if_pos hk, if_pos hk, h (k + 12) (by omega), h (k + 13) (by omega)]
      · rw [if_neg hk, if_neg hk]
theorem cy_cki_s {ad : Nat → Nat} {i q y1 y2 : Nat} : va_up (cy_cki ad i) i (some q) = cy_cki (cy_adn ad (3 * i + 11) q y1 y2) (i + 1) := by
  funext c
  unfold cy_cki
  by_cases h : c = i
  · subst h
    rw [if_pos (by omega)]
    simp [va_up, cy_adn]
  · simp only [va_up, if_neg h]
    by_cases h2 : c < i
    · rw [if_pos h2, if_pos (by omega), cy_adn_n (by omega) (by omega) (by omega)]
    · rw [if_neg h2, if_neg (by omega)]
theorem cy_S0_0 {j : Nat} (h : j ≠ 0) : cy_S0 j = fun _ => 0 := by
  unfold cy_S0
  rw [cy_un h]
theorem cy_Wi_s {kI kJ kC : ClassId} {i q y1 y2 : Nat} {ad : Nat → Nat} {tl : va_W} (hi : i < 12) : (((q, .inr (1, cy_fC y1 y2 (fun _ => 0))) :: (y1, .inl (kI, 8, .inl (fun _ => 0))) :: (y2, .inl (kI, 5, .inl (fun _ => 0))) :: (cy_Wi kI kJ kC i ad tl)).set 10 (ad 7, .inl (kC, 12, .inr (.inr (.inr (.inr (va_up (cy_cki ad i) i (some q)))))))).Perm (cy_Wi kI kJ kC (i + 1) (cy_adn ad (3 * i + 11) q y1 y2) tl) := by
  have e1 : ((q, .inr (1, cy_fC y1 y2 (fun _ => 0))) :: (y1, .inl (kI, 8, .inl (fun _ => 0))) :: (y2, .inl (kI, 5, .inl (fun _ => 0))) :: (cy_Wi kI kJ kC i ad tl) : va_W).set 10 (ad 7, .inl (kC, 12, .inr (.inr (.inr (.inr (va_up (cy_cki ad i) i (some q))))))) = ([(q, .inr (1, cy_fC y1 y2 (fun _ => 0))), (y1, .inl (kI, 8, .inl (fun _ => 0))), (y2, .inl (kI, 5, .inl (fun _ => 0)))] : va_W) ++ (cy_Wi kI kJ kC i ad tl).set 7 (ad 7, .inl (kC, 12, .inr (.inr (.inr (.inr (va_up (cy_cki ad i) i (some q))))))) := rfl
  rw [e1]
  unfold cy_Wi cy_w
  rw [cy_G_set (by omega)]
  have e2 : cy_sp kI (cy_adn ad (3 * i + 11) q y1 y2) 47 = cy_sp kI ad 47 := by
    unfold cy_sp
    rw [cy_adn_n (by omega) (by omega) (by omega), cy_adn_n (by omega) (by omega) (by omega), cy_adn_n (by omega) (by omega) (by omega)]
  rw [e2, show 3 * (i + 1) + 11 = (3 * i + 11) + 3 by omega, cy_G3 (n := 3 * i + 11), List.append_assoc]
  have e3 : cy_G (3 * i + 11) ad (va_up (fun j => cy_eYi kI kJ kC i ad j (cy_S0 j)) 7 (.inl (kC, 12, .inr (.inr (.inr (.inr (va_up (cy_cki ad i) i (some q)))))))) = cy_G (3 * i + 11) (cy_adn ad (3 * i + 11) q y1 y2) (fun j => cy_eYi kI kJ kC (i + 1) (cy_adn ad (3 * i + 11) q y1 y2) j (cy_S0 j)) := by
    refine cy_G_congr fun j hj => ⟨(cy_adn_n (by omega) (by omega) (by omega)).symm, ?_⟩
    by_cases h7 : j = 7
    · subst h7
      show (.inl (kC, 12, .inr (.inr (.inr (.inr (va_up (cy_cki ad i) i (some q)))))) : va_E) = .inl (kC, 12, .inr (.inr (.inr (.inr (cy_cki (cy_adn ad (3 * i + 11) q y1 y2) (i + 1))))))
      rw [cy_cki_s]
    · simp only [va_up, if_neg h7, cy_eYi]
      exact cy_eY_ad hj h7 (fun k hk => (cy_adn_n (by omega) (by omega) (by omega)).symm) (cy_adn_n (by omega) (by omega) (by omega)).symm
  rw [e3]
  have a0 : cy_adn ad (3 * i + 11) q y1 y2 (3 * i + 11) = q := by simp [cy_adn]
  have a1 : cy_adn ad (3 * i + 11) q y1 y2 (3 * i + 11 + 1) = y1 := by simp [cy_adn]
  have a2 : cy_adn ad (3 * i + 11) q y1 y2 (3 * i + 11 + 2) = y2 := by simp [cy_adn]
  have b0 : cy_eYi kI kJ kC (i + 1) (cy_adn ad (3 * i + 11) q y1 y2) (3 * i + 11) (cy_S0 (3 * i + 11)) = .inr (1, cy_fC y1 y2 (fun _ => 0)) := by
    unfold cy_eYi
    rw [if_neg (by omega), cy_eY_o, cy_S0_0 (by omega), a1, a2]
  have b1 : cy_eYi kI kJ kC (i + 1) (cy_adn ad (3 * i + 11) q y1 y2) (3 * i + 11 + 1) (cy_S0 (3 * i + 11 + 1)) = .inl (kI, 8, .inl (fun _ => 0)) := by
    unfold cy_eYi
    rw [if_neg (by omega), show 3 * i + 11 + 1 = 3 * i + 12 from rfl, cy_eY_t, cy_S0_0 (by omega)]
  have b2 : cy_eYi kI kJ kC (i + 1) (cy_adn ad (3 * i + 11) q y1 y2) (3 * i + 11 + 2) (cy_S0 (3 * i + 11 + 2)) = .inl (kI, 5, .inl (fun _ => 0)) := by
    unfold cy_eYi
    rw [if_neg (by omega), show 3 * i + 11 + 2 = 3 * i + 13 from rfl, cy_eY_a, cy_S0_0 (by omega)]
  rw [b0, b1, b2, a0, a1, a2]
  exact List.perm_append_comm_assoc _ _ _
