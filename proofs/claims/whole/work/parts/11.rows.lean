/-! rows over worlds of places -/
def cy_w (n : Nat) (ad : Nat → Nat) (ef : Nat → (Nat → Int32) → va_E) (S : Nat → Nat → Int32) (tl : va_W) : va_W := cy_G n ad (fun j => ef j (S j)) ++ tl
theorem cy_w_at {n j : Nat} {ad : Nat → Nat} {ef : Nat → (Nat → Int32) → va_E} {S : Nat → Nat → Int32} {tl : va_W} (h : j < n) {x : va_E} (he : ef j (S j) = x) : (cy_w n ad ef S tl)[j]? = some (ad j, x) := by
  rw [← he]
  exact cy_G_at h
theorem cy_w_up {ef : Nat → (Nat → Int32) → va_E} {S : Nat → Nat → Int32} {j : Nat} {f : Nat → Int32} : va_up (fun j => ef j (S j)) j (ef j f) = fun i => ef i (va_up S j f i) := by
  funext i
  by_cases h : i = j
  · subst h
    simp [va_up]
  · simp [va_up, h]
theorem cy_w_set {n j : Nat} {ad : Nat → Nat} {ef : Nat → (Nat → Int32) → va_E} {S : Nat → Nat → Int32} {tl : va_W} {f : Nat → Int32} {x : va_E} (h : j < n) (he : x = ef j f) : (cy_w n ad ef S tl).set j (ad j, x) = cy_w n ad ef (va_up S j f) tl := by
  subst he
  unfold cy_w
  rw [cy_G_set h, cy_w_up]
theorem cy_w_tl {n i : Nat} {ad : Nat → Nat} {ef : Nat → (Nat → Int32) → va_E} {S : Nat → Nat → Int32} {tl : va_W} {x : Nat × va_E} (h : tl[i]? = some x) : (cy_w n ad ef S tl)[n + i]? = some x := by
  unfold cy_w
  rw [cy_G_tl]
  exact h
theorem cy_w_tlset {n i : Nat} {ad : Nat → Nat} {ef : Nat → (Nat → Int32) → va_E} {S : Nat → Nat → Int32} {tl tl' : va_W} {x : Nat × va_E} (h : tl.set i x = tl') : (cy_w n ad ef S tl).set (n + i) x = cy_w n ad ef S tl' := by
  unfold cy_w
  rw [cy_G_set_tl, h]
/-! the reference words of the walks -/
theorem cy_us {S : Nat → Nat → Int32} {j : Nat} {f : Nat → Int32} : va_up S j f j = f := by simp [va_up]
theorem cy_un {S : Nat → Nat → Int32} {i j : Nat} {f : Nat → Int32} (h : i ≠ j) : va_up S j f i = S i := by simp [va_up, h]
theorem cy_uu {S : Nat → Nat → Int32} {j : Nat} {f g : Nat → Int32} : va_up (va_up S j f) j g = va_up S j g := by
  funext k
  by_cases h : k = j <;> simp [va_up, h]
theorem cy_self {S : Nat → Nat → Int32} {j : Nat} : va_up S j (S j) = S := by
  funext k
  by_cases h : k = j
  · subst h; simp [va_up]
  · simp [va_up, h]
theorem cy_castS {D : va_G} {A : Nat → Prop} {H0 H : Heap} {n : Nat} {ad : Nat → Nat} {ef : Nat → (Nat → Int32) → va_E} {S S' : Nat → Nat → Int32} {tl : va_W} {locs : List Loc} (h : S = S') (hW : cy_W D A H0 (cy_w n ad ef S tl) H locs) : cy_W D A H0 (cy_w n ad ef S' tl) H locs := h ▸ hW
theorem cy_uc {S : Nat → Nat → Int32} {i j : Nat} {f g : Nat → Int32} (h : i ≠ j) : va_up (va_up S i f) j g = va_up (va_up S j g) i f := by
  funext k
  by_cases h1 : k = i <;> by_cases h2 : k = j <;> simp [va_up, h1, h2]
  · omega
  · intro q; omega
  · intro q; omega
theorem cy_upd_1 {S : Nat → Nat → Int32} {i j : Nat} {f f2 g : Nat → Int32} (h : i ≠ j) : va_up (va_up (va_up S i f) j g) i f2 = va_up (va_up S j g) i f2 := by
  rw [cy_uc (i := i) (j := j) h, cy_uu]
theorem cy_upd_2 {S : Nat → Nat → Int32} {i j k : Nat} {f f2 g g2 : Nat → Int32} (h : i ≠ j) (h2 : i ≠ k) : va_up (va_up (va_up (va_up S i f) j g) k g2) i f2 = va_up (va_up (va_up S j g) k g2) i f2 := by
  rw [cy_uc (i := i) (j := j) h, cy_upd_1 h2]
theorem cy_rd {ef : Nat → (Nat → Int32) → va_E} {S : Nat → Nat → Int32} {j : Nat} {f : Nat → Int32} {x : va_E} (h : S j = f) (he : ef j f = x) : ef j (S j) = x := by rw [h]; exact he
/-- a row whose first i places are filled -/
def cy_fl (f : Nat → Int32) (v : Int32) (i : Nat) : Nat → Int32 := fun k => if k < i then v else f k
theorem cy_fl_0 {f : Nat → Int32} {v : Int32} : cy_fl f v 0 = f := by funext k; simp [cy_fl]
theorem cy_fl_s {f : Nat → Int32} {v : Int32} {i : Nat} : upd (cy_fl f v i) i v = cy_fl f v (i + 1) := by
  funext k
  unfold upd cy_fl
  by_cases h : k = i
  · subst h; simp
  · by_cases h2 : k < i
    · rw [if_neg h, if_pos h2, if_pos (by omega)]
    · rw [if_neg h, if_neg h2, if_neg (by omega)]
def cy_flL (f : Nat → Int64) (v : Int64) (i : Nat) : Nat → Int64 := fun k => if k < i then v else f k
theorem cy_flL_0 {f : Nat → Int64} {v : Int64} : cy_flL f v 0 = f := by funext k; simp [cy_flL]
theorem cy_flL_s {f : Nat → Int64} {v : Int64} {i : Nat} : vp_updL (cy_flL f v i) i v = cy_flL f v (i + 1) := by
  funext k
  unfold vp_updL cy_flL
  by_cases h : k = i
  · subst h; simp
  · by_cases h2 : k < i
    · rw [if_neg h, if_pos h2, if_pos (by omega)]
    · rw [if_neg h, if_neg h2, if_neg (by omega)]
def cy_mx (x y : Int32) : Int32 := if x < y then y else x
def cy_mn (x y : Int32) : Int32 := if y < x then y else x
def cy_mxL (x y : Int64) : Int64 := if y < x then x else y
def cy_mnL (x y : Int64) : Int64 := if y < x then y else x
def cy_abL (x : Int64) : Int64 := if 0 < x then x else -x
/-- the sum of the first numbers of a row -/
def cy_sm (f : Nat → Int32) : Nat → Int32
  | 0 => 0
  | n + 1 => cy_sm f n + f n
theorem cy_dec {n k : Nat} (h : n = k + 1) : nI n + Int32.ofInt (-1) = nI k := by
  subst h
  exact pk_m1 k
theorem cy_eq2 {a b : Nat} (ha : a < 2 ^ 31) (hb : b < 2 ^ 31) (h : ¬ ¬ nI a = nI b) : a = b := (nI_eq ha hb).mp (Classical.not_not.mp h)
section CYR
variable {p : Program} {l : Launch} {e : Env} {R : Room} {s : State} {m : MethodId} {args : Array Value} {below : List Frame} {meth : Method} {c : Code} {H : Heap} {locs : List Loc} {cells slots : Nat} {Q : State → Prop}
variable {cc : ByteArray} {pc nL : Nat} {ls : Array Slot} {rest : List Value} {D : va_G} {A : Nat → Prop} {tys : List (ClassId × FieldType)} {Ts : List Cond} {own : String}
variable {n : Nat} {ad : Nat → Nat} {ef : Nat → (Nat → Int32) → va_E} {S : Nat → Nat → Int32} {tl : va_W}
theorem cy_top {x y : Int32} (h : x = y) (k : W p l e R s m args below meth c H locs cells slots Q (F0 m pc ls (.int y :: rest))) : W p l e R s m args below meth c H locs cells slots Q (F0 m pc ls (.int x :: rest)) := by
  subst h
  exact k
theorem cy_topv {x y : Value} (h : x = y) (k : W p l e R s m args below meth c H locs cells slots Q (F0 m pc ls (y :: rest))) : W p l e R s m args below meth c H locs cells slots Q (F0 m pc ls (x :: rest)) := by
  subst h
  exact k
theorem cy_ix {i N : Nat} (h : i < N) (hN : N < 2 ^ 31) : vp_in (nI i) N := vp_in_nI h hN
theorem cy_get (hC : cy_C p s m args c cc nL Ts own D tys A) (j : Nat) (hj : j < n) {ci N index : Nat} {ref CC : String} {T : u_T} {fs : List Value} (hin : ∀ w ∈ u_ws CC T N, w ∈ Ts) (hW : cy_W D A s.heap (cy_w n ad ef S tl) H locs) (he : ef j (S j) = .inr (ci, fs)) (hc : vwCl[ci]? = some (CC, T, N)) (k : Nat) (hk : k < N) (hlink : (Cond.fieldLink own index ref (T k).2.1 (T k).2.2.1).before args s = true) (hsame : ∀ x, s.fieldFound? (T k).1 (T k).2.1 (T k).2.2.1 = some x → s.fieldFound? ref (T k).2.1 (T k).2.2.1 = some x) {v : Value} (hv : fs[k]? = some v) (hdg : decode cc pc = .ok (.getfield index, 3))
    (kk : W p l e R s m args below meth c H locs cells slots Q (F0 m (pc + 3) ls (v :: rest))) : W p l e R s m args below meth c H locs cells slots Q (F0 m pc ls (.ref (ad j) :: rest)) :=
  va_get hC.1.1 hC.1.2.1 hC.1.2.2.2.2 hin hC.1.2.2.2.1 hC.2.1 hW.1 j (cy_w_at hj he) hc k hk hlink hsame hv hdg kk
theorem cy_put (hC : cy_C p s m args c cc nL Ts own D tys A) (j : Nat) (hj : j < n) {ci N index : Nat} {ref CC : String} {T : u_T} {fs : List Value} (hin : ∀ w ∈ u_ws CC T N, w ∈ Ts) (ty0 : Nat → FieldType) (hty : ∀ k, k < N → parseFieldDescriptor (T k).2.2.1 = some (ty0 k)) (hnm : ∀ a, a < N → ∀ b, b < N → a ≠ b → (T a).2.1 ≠ (T b).2.1) (hW : cy_W D A s.heap (cy_w n ad ef S tl) H locs) (he : ef j (S j) = .inr (ci, fs)) (hc : vwCl[ci]? = some (CC, T, N)) (k : Nat) (hk : k < N) (hlink : (Cond.fieldLink own index ref (T k).2.1 (T k).2.2.1).before args s = true) (hsame : ∀ x, s.fieldFound? (T k).1 (T k).2.1 (T k).2.2.1 = some x → s.fieldFound? ref (T k).2.1 (T k).2.2.1 = some x) (hfin : (T k).2.2.2 = false) {ty : FieldType} {v : Value} (hd : parseFieldDescriptor (T k).2.2.1 = some ty) (hn : narrow ty v = v) (hfit : fits ty v = true) (hl : k < fs.length) (f' : Nat → Int32) (hset : (.inr (ci, fs.set k v) : va_E) = ef j f') (S' : Nat → Nat → Int32) (hS' : va_up S j f' = S') (hdg : decode cc pc = .ok (.putfield index, 3))
    (kk : ∀ (H1 : Heap) (locs1 : List Loc), cy_W D A s.heap (cy_w n ad ef S' tl) H1 locs1 → W p l e R s m args below meth c H1 locs1 cells slots Q (F0 m (pc + 3) ls rest)) : W p l e R s m args below meth c H locs cells slots Q (F0 m pc ls (v :: .ref (ad j) :: rest)) := by
  subst hS'
  refine va_put hC.1.1 hC.1.2.1 hC.1.2.2.2.2 hin ty0 hty hnm hC.1.2.2.2.1 hC.2.1 hW.1 hW.2.1 hW.2.2 j (cy_w_at hj he) hc k hk hlink hsame hfin hd hn hfit hl hdg (fun H1 locs1 hP hD hS => ?_)
  rw [cy_w_set hj hset] at hP hD
  exact kk H1 locs1 ⟨hP, hD, hS⟩
theorem cy_iald (hC : cy_C p s m args c cc nL Ts own D tys A) (j : Nat) (hj : j < n) (hW : cy_W D A s.heap (cy_w n ad ef S tl) H locs) (t0 : Nat) {cA : ClassId} {N i : Nat} {f : Nat → Int32} (he : ef j (S j) = .inl (cA, N, .inl f)) (ht : tys[t0]? = some (cA, .int)) (hi : i < N) (hN : N < 2 ^ 31) (hdg : decode cc pc = .ok (.iaload, 1))
    (kk : W p l e R s m args below meth c H locs cells slots Q (F0 m (pc + 1) ls (.int (f i) :: rest))) : W p l e R s m args below meth c H locs cells slots Q (F0 m pc ls (.int (nI i) :: .ref (ad j) :: rest)) := by
  refine va_iald hC.1.1 hC.1.2.1 hC.2.1 hW.1 j t0 (cy_w_at hj he) ht (cy_ix hi hN) hdg ?_
  rw [nI_clamp (Nat.lt_trans hi hN)]
  exact kk
theorem cy_zald (hC : cy_C p s m args c cc nL Ts own D tys A) (j : Nat) (hj : j < n) (hW : cy_W D A s.heap (cy_w n ad ef S tl) H locs) (t0 : Nat) {cA : ClassId} {N i : Nat} {f : Nat → Int32} (he : ef j (S j) = .inl (cA, N, .inl f)) (ht : tys[t0]? = some (cA, .boolean)) (hi : i < N) (hN : N < 2 ^ 31) (hdg : decode cc pc = .ok (.baload, 1))
    (kk : W p l e R s m args below meth c H locs cells slots Q (F0 m (pc + 1) ls (.int (f i) :: rest))) : W p l e R s m args below meth c H locs cells slots Q (F0 m pc ls (.int (nI i) :: .ref (ad j) :: rest)) := by
  refine va_zald hC.1.1 hC.1.2.1 hC.2.1 hW.1 j t0 (cy_w_at hj he) ht (cy_ix hi hN) hdg ?_
  rw [nI_clamp (Nat.lt_trans hi hN)]
  exact kk
theorem cy_lald (hC : cy_C p s m args c cc nL Ts own D tys A) (j : Nat) (hj : j < n) (hW : cy_W D A s.heap (cy_w n ad ef S tl) H locs) (t0 : Nat) {cA : ClassId} {N i : Nat} {f : Nat → Int64} (he : ef j (S j) = .inl (cA, N, .inr (.inl f))) (ht : tys[t0]? = some (cA, .long)) (hi : i < N) (hN : N < 2 ^ 31) (hdg : decode cc pc = .ok (.laload, 1))
    (kk : W p l e R s m args below meth c H locs cells slots Q (F0 m (pc + 1) ls (.long (f i) :: rest))) : W p l e R s m args below meth c H locs cells slots Q (F0 m pc ls (.int (nI i) :: .ref (ad j) :: rest)) := by
  refine va_lald hC.1.1 hC.1.2.1 hC.2.1 hW.1 j t0 (cy_w_at hj he) ht (cy_ix hi hN) hdg ?_
  rw [nI_clamp (Nat.lt_trans hi hN)]
  exact kk
theorem cy_aald (hC : cy_C p s m args c cc nL Ts own D tys A) (j : Nat) (hj : j < n) (hW : cy_W D A s.heap (cy_w n ad ef S tl) H locs) (t0 : Nat) {cA : ClassId} {CC : String} {N i a : Nat} {f : Nat → Option Nat} (he : ef j (S j) = .inl (cA, N, .inr (.inr (.inr (.inr f))))) (ht : tys[t0]? = some (cA, .object CC)) (hi : i < N) (hN : N < 2 ^ 31) (ha : f i = some a) (hdg : decode cc pc = .ok (.aaload, 1))
    (kk : W p l e R s m args below meth c H locs cells slots Q (F0 m (pc + 1) ls (.ref a :: rest))) : W p l e R s m args below meth c H locs cells slots Q (F0 m pc ls (.int (nI i) :: .ref (ad j) :: rest)) := by
  refine va_aldq hC.1.1 hC.1.2.1 hC.2.1 hW.1 j t0 (cy_w_at hj he) ht (cy_ix hi hN) hdg ?_
  rw [nI_clamp (Nat.lt_trans hi hN), ha]
  exact kk
theorem cy_iast (hC : cy_C p s m args c cc nL Ts own D tys A) (j : Nat) (hj : j < n) (hW : cy_W D A s.heap (cy_w n ad ef S tl) H locs) (t0 : Nat) {cA : ClassId} {N i : Nat} {x : Int32} {f : Nat → Int32} (he : ef j (S j) = .inl (cA, N, .inl f)) (ht : tys[t0]? = some (cA, .int)) (hi : i < N) (hN : N < 2 ^ 31) (f' : Nat → Int32) (hset : (.inl (cA, N, .inl (upd f i x)) : va_E) = ef j f') (S' : Nat → Nat → Int32) (hS' : va_up S j f' = S') (hdg : decode cc pc = .ok (.iastore, 1))
    (kk : ∀ (H1 : Heap) (locs1 : List Loc), cy_W D A s.heap (cy_w n ad ef S' tl) H1 locs1 → W p l e R s m args below meth c H1 locs1 cells slots Q (F0 m (pc + 1) ls rest)) : W p l e R s m args below meth c H locs cells slots Q (F0 m pc ls (.int x :: .int (nI i) :: .ref (ad j) :: rest)) := by
  subst hS'
  refine va_iast hC.1.1 hC.1.2.1 hC.2.1 hW.1 hW.2.1 hW.2.2 j t0 (cy_w_at hj he) ht (cy_ix hi hN) hdg (fun H1 locs1 hP hD hS => ?_)
  rw [nI_clamp (Nat.lt_trans hi hN), cy_w_set hj hset] at hP hD
  exact kk H1 locs1 ⟨hP, hD, hS⟩
theorem cy_zast (hC : cy_C p s m args c cc nL Ts own D tys A) (j : Nat) (hj : j < n) (hW : cy_W D A s.heap (cy_w n ad ef S tl) H locs) (t0 : Nat) {cA : ClassId} {N i : Nat} {x x' : Int32} {f : Nat → Int32} (he : ef j (S j) = .inl (cA, N, .inl f)) (ht : tys[t0]? = some (cA, .boolean)) (hi : i < N) (hN : N < 2 ^ 31) (hx : vp_nar .boolean x = x') (f' : Nat → Int32) (hset : (.inl (cA, N, .inl (upd f i x')) : va_E) = ef j f') (S' : Nat → Nat → Int32) (hS' : va_up S j f' = S') (hdg : decode cc pc = .ok (.bastore, 1))
    (kk : ∀ (H1 : Heap) (locs1 : List Loc), cy_W D A s.heap (cy_w n ad ef S' tl) H1 locs1 → W p l e R s m args below meth c H1 locs1 cells slots Q (F0 m (pc + 1) ls rest)) : W p l e R s m args below meth c H locs cells slots Q (F0 m pc ls (.int x :: .int (nI i) :: .ref (ad j) :: rest)) := by
  subst hS'
  refine va_zast hC.1.1 hC.1.2.1 hC.2.1 hW.1 hW.2.1 hW.2.2 j t0 (cy_w_at hj he) ht (cy_ix hi hN) hdg (fun H1 locs1 hP hD hS => ?_)
  rw [nI_clamp (Nat.lt_trans hi hN), hx, cy_w_set hj hset] at hP hD
  exact kk H1 locs1 ⟨hP, hD, hS⟩
/-- a long array's cell: the whole world changes its words for what the cells hold -/
theorem cy_last {ef' : Nat → (Nat → Int32) → va_E} (hC : cy_C p s m args c cc nL Ts own D tys A) (j : Nat) (hj : j < n) (hW : cy_W D A s.heap (cy_w n ad ef S tl) H locs) (t0 : Nat) {cA : ClassId} {N i : Nat} {x : Int64} {f : Nat → Int64} (he : ef j (S j) = .inl (cA, N, .inr (.inl f))) (ht : tys[t0]? = some (cA, .long)) (hi : i < N) (hN : N < 2 ^ 31) (hset : va_up (fun k => ef k (S k)) j (.inl (cA, N, .inr (.inl (vp_updL f i x)))) = fun k => ef' k (S k)) (hdg : decode cc pc = .ok (.lastore, 1))
    (kk : ∀ (H1 : Heap) (locs1 : List Loc), cy_W D A s.heap (cy_w n ad ef' S tl) H1 locs1 → W p l e R s m args below meth c H1 locs1 cells slots Q (F0 m (pc + 1) ls rest)) : W p l e R s m args below meth c H locs cells slots Q (F0 m pc ls (.long x :: .int (nI i) :: .ref (ad j) :: rest)) := by
  refine va_last hC.1.1 hC.1.2.1 hC.2.1 hW.1 hW.2.1 hW.2.2 j t0 (cy_w_at hj he) ht (cy_ix hi hN) hdg (fun H1 locs1 hP hD hS => ?_)
  have e9 : (cy_w n ad ef S tl).set j (ad j, .inl (cA, N, .inr (.inl (vp_updL f i x)))) = cy_w n ad ef' S tl := by
    unfold cy_w
    rw [cy_G_set hj, hset]
  rw [nI_clamp (Nat.lt_trans hi hN), e9] at hP hD
  exact kk H1 locs1 ⟨hP, hD, hS⟩
/-- cells that were made on the way -/
theorem cy_tiald (hC : cy_C p s m args c cc nL Ts own D tys A) (j a : Nat) (hW : cy_W D A s.heap (cy_w n ad ef S tl) H locs) (t0 : Nat) {cA : ClassId} {N i : Nat} {f : Nat → Int32} (he : tl[j]? = some (a, .inl (cA, N, .inl f))) (ht : tys[t0]? = some (cA, .int)) (hi : i < N) (hN : N < 2 ^ 31) (hdg : decode cc pc = .ok (.iaload, 1))
    (kk : W p l e R s m args below meth c H locs cells slots Q (F0 m (pc + 1) ls (.int (f i) :: rest))) : W p l e R s m args below meth c H locs cells slots Q (F0 m pc ls (.int (nI i) :: .ref a :: rest)) := by
  refine va_iald hC.1.1 hC.1.2.1 hC.2.1 hW.1 (n + j) t0 (cy_w_tl he) ht (cy_ix hi hN) hdg ?_
  rw [nI_clamp (Nat.lt_trans hi hN)]
  exact kk
theorem cy_tiast {tl' : va_W} (hC : cy_C p s m args c cc nL Ts own D tys A) (j a : Nat) (hW : cy_W D A s.heap (cy_w n ad ef S tl) H locs) (t0 : Nat) {cA : ClassId} {N i : Nat} {x : Int32} {f : Nat → Int32} (he : tl[j]? = some (a, .inl (cA, N, .inl f))) (ht : tys[t0]? = some (cA, .int)) (hi : i < N) (hN : N < 2 ^ 31) (hset : tl.set j (a, .inl (cA, N, .inl (upd f i x))) = tl') (hdg : decode cc pc = .ok (.iastore, 1))
    (kk : ∀ (H1 : Heap) (locs1 : List Loc), cy_W D A s.heap (cy_w n ad ef S tl') H1 locs1 → W p l e R s m args below meth c H1 locs1 cells slots Q (F0 m (pc + 1) ls rest)) : W p l e R s m args below meth c H locs cells slots Q (F0 m pc ls (.int x :: .int (nI i) :: .ref a :: rest)) := by
  refine va_iast hC.1.1 hC.1.2.1 hC.2.1 hW.1 hW.2.1 hW.2.2 (n + j) t0 (cy_w_tl he) ht (cy_ix hi hN) hdg (fun H1 locs1 hP hD hS => ?_)
  rw [nI_clamp (Nat.lt_trans hi hN), cy_w_tlset hset] at hP hD
  exact kk H1 locs1 ⟨hP, hD, hS⟩
theorem cy_alen (hC : cy_C p s m args c cc nL Ts own D tys A) (j : Nat) (hj : j < n) (hW : cy_W D A s.heap (cy_w n ad ef S tl) H locs) (t0 : Nat) {cA : ClassId} {N : Nat} {f : Nat → Int32} (he : ef j (S j) = .inl (cA, N, .inl f)) {ty : FieldType} (ht : tys[t0]? = some (cA, ty)) (hdg : decode cc pc = .ok (.arraylength, 1))
    (kk : W p l e R s m args below meth c H locs cells slots Q (F0 m (pc + 1) ls (.int (nI N) :: rest))) : W p l e R s m args below meth c H locs cells slots Q (F0 m pc ls (.ref (ad j) :: rest)) :=
  va_alen hC.1.1 hC.1.2.1 hC.2.1 hW.1 j t0 (cy_w_at hj he) ht rfl hdg kk
theorem cy_alenL (hC : cy_C p s m args c cc nL Ts own D tys A) (j : Nat) (hj : j < n) (hW : cy_W D A s.heap (cy_w n ad ef S tl) H locs) (t0 : Nat) {cA : ClassId} {N : Nat} {f : Nat → Int64} (he : ef j (S j) = .inl (cA, N, .inr (.inl f))) {ty : FieldType} (ht : tys[t0]? = some (cA, ty)) (hdg : decode cc pc = .ok (.arraylength, 1))
    (kk : W p l e R s m args below meth c H locs cells slots Q (F0 m (pc + 1) ls (.int (nI N) :: rest))) : W p l e R s m args below meth c H locs cells slots Q (F0 m pc ls (.ref (ad j) :: rest)) :=
  va_alen hC.1.1 hC.1.2.1 hC.2.1 hW.1 j t0 (cy_w_at hj he) ht rfl hdg kk
/-- System.arraycopy between two rows of ints of a world -/
theorem cy_copy {w w' : va_W} (hC : cy_C p s m args c cc nL Ts own D tys A) (hml : c.maxLocals = ls.size) {index : Nat} (hlink : (Cond.methodLink own index arraycopyName).before args s = true) (hnat : (Cond.native arraycopyName).before args s = true) (hstat : (Cond.static arraycopyName).before args s = true) (hini : (Cond.initialized "java/lang/System").before args s = true)
    (hW : cy_W D A s.heap w H locs) (q0 q1 : Nat) {a0 a1 n0 n1 sp dp k : Nat} {cA : ClassId} {f g : Nat → Int32} (ht : tys[0]? = some (cA, .int)) (ha0 : w[q0]? = some (a0, .inl (cA, n0, .inl f))) (ha1 : w[q1]? = some (a1, .inl (cA, n1, .inl g))) (h4 : sp + k ≤ n0) (h5 : dp + k ≤ n1) (hn0 : n0 < 2 ^ 31) (hn1 : n1 < 2 ^ 31)
    (hset : w.set q1 (a1, .inl (cA, n1, .inl (va_cpy f g sp dp k))) = w') (hframes : 1 ≤ R.frames) (hlocals : (rest.map fun v => v.category).sum + (nativeFrameWords "java/lang/System" "arraycopy" 5 + 11) ≤ R.locals) (hdg : decode cc pc = .ok (.invokestatic index, 3))
    (kk : ∀ (H1 : Heap) (locs1 : List Loc), cy_W D A s.heap w' H1 locs1 → W p l e R s m args below meth c H1 locs1 cells slots Q (F0 m (pc + 3) ls rest)) : W p l e R s m args below meth c H locs cells slots Q (F0 m pc ls (.int (nI k) :: .int (nI dp) :: .ref a1 :: .int (nI sp) :: .ref a0 :: rest)) := by
  have e1 : (nI k).toNatClampNeg = k := nI_clamp (by omega)
  have e2 : (nI sp).toNatClampNeg = sp := nI_clamp (by omega)
  have e3 : (nI dp).toNatClampNeg = dp := nI_clamp (by omega)
  refine va_copyi hC.1.1 hC.1.2.1 hml hC.1.2.2.2.1 hlink hnat hstat hini hC.2.1 hW.1 hW.2.1 hW.2.2 q0 q1 0 0 ha0 ha1 ht ht rfl (nI_pos (by omega)) (nI_pos (by omega)) (nI_pos (by omega)) (by rw [e1, e2]; exact h4) (by rw [e1, e3]; exact h5) (fun _ _ => rfl) hframes hlocals hdg (fun H1 locs1 hP hD hS => ?_)
  rw [e1, e2, e3, hset] at hP hD
  exact kk H1 locs1 ⟨hP, hD, hS⟩
end CYR
/-! a measure that falls -/
theorem cy_lt {a b : Nat} (ha : a < 2 ^ 31) (hb : b < 2 ^ 31) (h : nI a < nI b) : a < b := (nI_ltI ha hb).mp h
theorem cy_nlt {a b : Nat} (ha : a < 2 ^ 31) (hb : b < 2 ^ 31) (h : ¬ nI a < nI b) : b ≤ a := Nat.le_of_not_lt fun q => h ((nI_ltI ha hb).mpr q)
theorem cy_le {a b : Nat} (ha : a < 2 ^ 31) (hb : b < 2 ^ 31) (h : nI a ≤ nI b) : a ≤ b := (nI_leI ha hb).mp h
theorem cy_nle {a b : Nat} (ha : a < 2 ^ 31) (hb : b < 2 ^ 31) (h : ¬ nI a ≤ nI b) : b < a := Nat.lt_of_not_le fun q => h ((nI_leI ha hb).mpr q)
theorem cy_eq {a b : Nat} (ha : a < 2 ^ 31) (hb : b < 2 ^ 31) (h : nI a = nI b) : a = b := (nI_eq ha hb).mp h
theorem cy_ne {a b : Nat} (_ : a < 2 ^ 31) (_ : b < 2 ^ 31) (h : ¬ nI a = nI b) : a ≠ b := fun q => h (by rw [q])
/-! the worlds of the yard -/
def cy_fC (a1 a2 : Nat) (f : Nat → Int32) : List Value := [.int (f 0), .int (f 1), .int (f 2), .int (f 3), .int (f 4), .int (f 5), .int (f 6), .int (f 7), .int (f 8), .ref a1, .ref a2]
def cy_fB (f : Nat → Int32) : List Value := [.int (f 0), .int (f 1), .int (f 2), .int (f 3), .int (f 4)]
def cy_fY (ad : Nat → Nat) (f : Nat → Int32) : List Value := [.ref (ad 1), .ref (ad 2), .ref (ad 3), .int (f 3), .ref (ad 4), .ref (ad 5), .ref (ad 6), .int (f 7), .ref (ad 7), .int (f 9), .ref (ad 47), .ref (ad 8), .ref (ad 9), .ref (ad 10), .int (f 14), .int (f 15), .int (f 16)]
/-- the cells of the yard: 0 itself, 1 to 6 its rows of numbers, 7 the casks, 8 and 9 the search's rows, 10 the blend; a cask c has 3 * c + 11, 12, 13 (the spare one is 12) -/
def cy_eY (kI kJ kC : ClassId) (ad : Nat → Nat) (Z : Nat → Int64) (j : Nat) (f : Nat → Int32) : va_E :=
  match j with
  | 0 => .inr (2, cy_fY ad f)
  | 1 => .inl (kI, 60, .inl f)
  | 2 => .inl (kI, 60, .inl f)
  | 3 => .inl (kI, 60, .inl f)
  | 4 => .inl (kI, 6, .inl f)
  | 5 => .inl (kI, 6, .inl f)
  | 6 => .inl (kI, 6, .inl f)
  | 7 => .inl (kC, 12, .inr (.inr (.inr (.inr (fun c => some (ad (3 * c + 11)))))))
  | 8 => .inl (kJ, 1505, .inr (.inl Z))
  | 9 => .inl (kI, 1505, .inl f)
  | 10 => .inr (0, cy_fB f)
  | j + 11 => if j % 3 = 0 then .inr (1, cy_fC (ad (j + 12)) (ad (j + 13)) f) else if j % 3 = 1 then .inl (kI, 8, .inl f) else .inl (kI, 5, .inl f)
theorem cy_eY_o {kI kJ kC : ClassId} {ad : Nat → Nat} {Z : Nat → Int64} {c : Nat} {f : Nat → Int32} : cy_eY kI kJ kC ad Z (3 * c + 11) f = .inr (1, cy_fC (ad (3 * c + 12)) (ad (3 * c + 13)) f) := by
  show (if (3 * c) % 3 = 0 then _ else _) = _
  rw [if_pos (by omega)]
theorem cy_eY_t {kI kJ kC : ClassId} {ad : Nat → Nat} {Z : Nat → Int64} {c : Nat} {f : Nat → Int32} : cy_eY kI kJ kC ad Z (3 * c + 12) f = .inl (kI, 8, .inl f) := by
  show (if (3 * c + 1) % 3 = 0 then _ else if (3 * c + 1) % 3 = 1 then _ else _) = _
  rw [if_neg (by omega), if_pos (by omega)]
theorem cy_eY_a {kI kJ kC : ClassId} {ad : Nat → Nat} {Z : Nat → Int64} {c : Nat} {f : Nat → Int32} : cy_eY kI kJ kC ad Z (3 * c + 13) f = .inl (kI, 5, .inl f) := by
  show (if (3 * c + 2) % 3 = 0 then _ else if (3 * c + 2) % 3 = 1 then _ else _) = _
  rw [if_neg (by omega), if_neg (by omega)]
theorem cy_eY_Z {kI kJ kC : ClassId} {ad : Nat → Nat} {Z Z' : Nat → Int64} {S : Nat → Nat → Int32} : va_up (fun j => cy_eY kI kJ kC ad Z j (S j)) 8 (.inl (kJ, 1505, .inr (.inl Z'))) = fun j => cy_eY kI kJ kC ad Z' j (S j) := by
  funext j
  by_cases h : j = 8
  · subst h
    simp [va_up, cy_eY]
  · simp only [va_up, if_neg h]
    unfold cy_eY
    split <;> first | rfl | exact absurd rfl h
/-- the reference's cells: 0 itself, 1 to 17 its rows -/
def cy_fM (ad : Nat → Nat) (f : Nat → Int32) : List Value := [.int (f 0), .int (f 1), .int (f 2), .int (f 3), .int (f 4), .ref (ad 1), .ref (ad 2), .ref (ad 3), .int (f 8), .ref (ad 4), .ref (ad 5), .ref (ad 6), .int (f 12), .ref (ad 7), .ref (ad 8), .ref (ad 9), .ref (ad 10), .ref (ad 11), .ref (ad 12), .ref (ad 13), .ref (ad 14), .ref (ad 15), .ref (ad 16), .int (f 23), .ref (ad 17)]
def cy_eM (kI kZ : ClassId) (ad : Nat → Nat) (j : Nat) (f : Nat → Int32) : va_E :=
  match j with
  | 0 => .inr (3, cy_fM ad f)
  | 1 => .inl (kI, 60, .inl f)
  | 2 => .inl (kI, 60, .inl f)
  | 3 => .inl (kI, 60, .inl f)
  | 4 => .inl (kI, 6, .inl f)
  | 5 => .inl (kI, 6, .inl f)
  | 6 => .inl (kI, 6, .inl f)
  | 7 => .inl (kI, 12, .inl f)
  | 8 => .inl (kZ, 12, .inl f)
  | 9 => .inl (kI, 12, .inl f)
  | 10 => .inl (kI, 96, .inl f)
  | 11 => .inl (kI, 12, .inl f)
  | 12 => .inl (kI, 12, .inl f)
  | 13 => .inl (kI, 12, .inl f)
  | 14 => .inl (kI, 60, .inl f)
  | 15 => .inl (kI, 12, .inl f)
  | 16 => .inl (kI, 91805, .inl f)
  | _ => .inl (kI, 60, .inl f)
abbrev cy_tys (kI kJ kZ kC : ClassId) : List (ClassId × FieldType) := [(kI, .int), (kJ, .long), (kZ, .boolean), (kC, .object RX1)]
/-- the world of the class (state S, the row of sets Z) ahead of other cells, and that of the reference -/
abbrev cy_Y (kI kJ kC : ClassId) (ad : Nat → Nat) (S : Nat → Nat → Int32) (Z : Nat → Int64) (tl : va_W) : va_W := cy_w 50 ad (cy_eY kI kJ kC ad Z) S tl
abbrev cy_Mw (kI kZ : ClassId) (ad : Nat → Nat) (S : Nat → Nat → Int32) (tl : va_W) : va_W := cy_w 18 ad (cy_eM kI kZ ad) S tl
theorem cy_castZ {kI kJ kC : ClassId} {D : va_G} {A : Nat → Prop} {H0 H : Heap} {ad : Nat → Nat} {S : Nat → Nat → Int32} {Z Z' : Nat → Int64} {tl : va_W} {locs : List Loc} (h : Z = Z') (hW : cy_W D A H0 (cy_Y kI kJ kC ad S Z tl) H locs) : cy_W D A H0 (cy_Y kI kJ kC ad S Z' tl) H locs := h ▸ hW
