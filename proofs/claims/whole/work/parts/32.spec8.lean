/-! the reference: what a cask will be; the blend -/
theorem cy_castF {D : va_G} {A : Nat → Prop} {H0 H : Heap} {n q N : Nat} {k : ClassId} {ad : Nat → Nat} {ef : Nat → (Nat → Int32) → va_E} {S : Nat → Nat → Int32} {f f' : Nat → Int32} {tl : va_W} {locs : List Loc} (h : f = f') (hW : cy_W D A H0 (cy_w n ad ef S ((q, .inl (k, N, .inl f)) :: tl)) H locs) : cy_W D A H0 (cy_w n ad ef S ((q, .inl (k, N, .inl f')) :: tl)) H locs := h ▸ hW
def cq_fl (S : Nat → Nat → Int32) (c : Nat) : Nat → Nat → Nat → Int32
  | 0 => cq_rs S
  | i + 1 => cq_pc (cq_fl S c i) c (S 0 1 + nI (i + 1))
theorem cq_fl_n {S : Nat → Nat → Int32} {c j : Nat} (h0 : j ≠ 0) (h : j ≠ 10) (h1 : j ≠ 11) (h2 : j ≠ 13) (h3 : j ≠ 14) (h4 : j ≠ 15) : ∀ {i : Nat}, cq_fl S c i j = S j
  | 0 => cy_un h0
  | i + 1 => by
    show cq_pc (cq_fl S c i) c _ j = _
    rw [cq_pc_n h h1 h2 h3 h4, cq_fl_n h0 h h1 h2 h3 h4]
theorem cq_fl_1 {S : Nat → Nat → Int32} {c : Nat} : ∀ {i : Nat}, cq_fl S c i 0 1 = S 0 1
  | 0 => rfl
  | i + 1 => by
    show cq_pc (cq_fl S c i) c _ 0 1 = _
    rw [cq_pc_n (by decide) (by decide) (by decide) (by decide) (by decide), cq_fl_1]
theorem cq_fl_ok {S : Nat → Nat → Int32} {c i : Nat} (h : cq_ok S) : cq_ok (cq_fl S c i) := cq_ok_of (cq_fl_n (by decide) (by decide) (by decide) (by decide) (by decide) (by decide)) (cq_fl_n (by decide) (by decide) (by decide) (by decide) (by decide) (by decide)) h
def cq_nFo (S : Nat → Nat → Int32) (c k : Nat) : Nat → Nat → Int32 := va_up (va_up (va_up (va_up (va_up (cq_fl S c k) 11 (upd (cq_fl S c k 11) c (S 11 c))) 13 (upd (cq_fl S c k 13) c (S 13 c))) 15 (upd (cq_fl S c k 15) c (S 15 c))) 14 (va_cpy (va_cpy (S 14) (fun _ => 0) (5 * c) 0 5) (cq_fl S c k 14) 0 (5 * c) 5)) 10 (va_cpy (va_cpy (S 10) (fun _ => 0) (8 * c) 0 8) (cq_fl S c k 10) 0 (8 * c) 8)
def cq_Fo (S : Nat → Nat → Int32) (x y z : Int32) (nc : Nat) : (Nat → Nat → Int32) × Int32 := if cq_in x 0 (nI nc - 1) = 0 then (cq_th S 1, 0) else if cq_in z 0 3 = 0 then (cq_th S 1, 0) else if cq_in y 1 60 = 0 then (cq_th S 2, 0) else if S 0 1 + y ≤ 1200 then (if S 8 x.toNatClampNeg = 0 then (cq_rs S, 0) else (cq_nFo S x.toNatClampNeg y.toNatClampNeg, cq_fn (cq_fl S x.toNatClampNeg y.toNatClampNeg) x.toNatClampNeg z)) else (cq_th S 3, 0)
/-- a blend of a and b, t tenths of a -/
def cq_bt1 (S : Nat → Nat → Int32) (a b t : Nat) : Int64 := (((nI (t + 1)).toInt64 * cq_to S a) + ((10 - nI (t + 1)).toInt64 * cq_to S b)) / 10
def cq_bt2 (S : Nat → Nat → Int32) (x : Int32) (a b t : Nat) : Int64 := cy_abL (cq_bt1 S a b t - x.toInt64)
def cq_bu (S : Nat → Nat → Int32) (x : Int32) (a b t : Nat) (f : Nat → Int32) : Int64 × (Nat → Int32) := (cq_bt2 S x a b t, upd (upd (upd (upd f 0 (nI a)) 1 (nI b)) 2 (nI (t + 1))) 3 (cq_bt1 S a b t).toInt32)
def cq_bi (S : Nat → Nat → Int32) (x : Int32) (a b : Nat) (B : Int64 × (Nat → Int32)) : Nat → Int64 × (Nat → Int32)
  | 0 => B
  | t + 1 => if lg_cmp (cq_bi S x a b B t).1 0 < 0 then cq_bu S x a b t (cq_bi S x a b B t).2 else if lg_cmp (cq_bt2 S x a b t) (cq_bi S x a b B t).1 < 0 then cq_bu S x a b t (cq_bi S x a b B t).2 else cq_bi S x a b B t
def cq_bN (S : Nat → Nat → Int32) (x : Int32) (a b : Nat) (B : Int64 × (Nat → Int32)) : Int64 × (Nat → Int32) := if cq_cb S a = 0 then B else if cq_cb S b = 0 then B else cq_bi S x a b B 9
def cq_bB (S : Nat → Nat → Int32) (x : Int32) (a : Nat) (B : Int64 × (Nat → Int32)) : Nat → Int64 × (Nat → Int32)
  | 0 => B
  | j + 1 => cq_bN S x a (a + 1 + j) (cq_bB S x a B j)
def cq_bA (S : Nat → Nat → Int32) (x : Int32) (nc : Nat) : Nat → Int64 × (Nat → Int32)
  | 0 => ((-1), upd (upd (upd (upd (fun _ => 0) 0 (-1)) 1 (-1)) 2 (-1)) 3 (-1))
  | a + 1 => cq_bB S x a (cq_bA S x nc a) (nc - (a + 1))
def cq_Bl (S : Nat → Nat → Int32) (x y : Int32) (nc : Nat) : (Nat → Nat → Int32) × Int32 := if cq_in x 0 1000000 = 0 then (cq_th S 1, 0) else if cq_in y 0 3 = 0 then (cq_th S 2, 0) else (cq_rs S, (cq_bA S x nc nc).2 y.toNatClampNeg)
theorem cq_cb_al {S : Nat → Nat → Int32} {c : Nat} (h : ¬ cq_cb S c = 0) : ¬ cq_al S c = 0 := by
  unfold cq_cb at h
  split at h
  · exact absurd rfl h
  · split at h
    · exact absurd rfl h
    · next q => exact fun e => q (by rw [e]; decide)
