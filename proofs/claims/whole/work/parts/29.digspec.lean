/-! a method that may throw, called where it doesn't -/
section CYX
variable {p : Program} {l : Launch} {e : Env} {R : Room} {s : State} {m : MethodId} {args : Array Value} {below : List Frame} {meth : Method} {c : Code} {H : Heap} {locs : List Loc} {cells slots : Nat} {Q : State → Prop}
variable {cc : ByteArray} {pc nL : Nat} {ls : Array Slot} {rest : List Value} {D : va_G} {A : Nat → Prop} {a : Nat} {tys : List (ClassId × FieldType)} {Ts : List Cond} {own : String} {w0 w1 : va_W} {rv : Option Value} {th : Option String}
variable {y : MethodName} {ws : List Cond} {rm : Room}
theorem cy_X_M {av : List Value} (hl0 : l.stackTraces = false) (hth : th = none) (hM : cy_X l y ws rm D tys av w0 th rv w1) (sz : Nat) : Met l y ws rm (va_Pc av (cy_PreX D tys sz w0)) (cy_Post D sz w0 rv w1) rm.cells rm.slots (va_A w0 sz) := by
  refine MetFree.mono (hM hl0 sz) (fun _ _ h => h) (fun _ _ _ _ _ h => h) (fun a st o t _ h => ?_)
  rcases h with ⟨h1, h2⟩ | ⟨q, -, E, ce, L, hx, -⟩
  · exact ⟨h1.2, h2⟩
  · have h3 := hx.1
    rw [hth] at h3
    cases h3
theorem cy_callVX {n index maxL q0 ci N : Nat} {T : u_T} {CC : String} {bytes : ByteArray} {ret : Option FieldType} {b : Addr} {fs As st0 : List Value} (hl0 : l.stackTraces = false) (hth : th = none) (hTh : cy_Th A s s.heap) (C : CallFix p m c cc nL s args Ts own) (hK : va_K D vwCl tys s) (hA : ∀ q, s.heap.size ≤ q → A q) (hW : cy_W D A s.heap w0 H locs)
    (hM : cy_X l y ws rm D tys (.ref b :: As) w0 th rv w1) (cw : CallW R s args own CC index y bytes maxL ret ws rm rm.cells rm.slots n) (he : w0[q0]? = some (b, .inr (ci, fs))) (hc : vwCl[ci]? = some (CC, T, N))
    (hn : As.length = n) (hl : ls.size = nL) (hst : st0 = As.reverse ++ .ref b :: rest) (hroom : (rest.map fun v => v.category).sum ≤ 8) (hdg : decode cc pc = .ok (.invokevirtual index, 3)) (hf : cells + rm.cells ≤ R.cells ∧ slots + rm.slots ≤ R.slots) {k' n' : Nat} (hk' : cells + rm.cells = k') (hn' : slots + rm.slots = n')
    (kk : ∀ (H1 : Heap) (locs1 : List Loc), cy_W D A s.heap w1 H1 locs1 → W p l e R s m args below meth c H1 locs1 k' n' Q (F0 m (pc + 3) ls (rv.toList ++ rest))) : W p l e R s m args below meth c H locs cells slots Q (F0 m pc ls st0) := by
  subst hk'; subst hn'
  refine cy_back hA hW (va_runV (As := As) (rest := rest) C (cy_X_M hl0 hth hM H.size) cw ⟨cy_blindX, va_recv hK hW.1 hc he, fun U hU hWm => ⟨rfl, ⟨by rw [hU], by rw [hU]; exact hW.1, va_K.moved hWm.alike hK, hW.2.1.weaken (fun _ _ _ _ => trivial)⟩, by rw [hU]; exact hTh.warm hWm (fun q h1 h2 => hW.2.2.2.1 q h1 h2) (cy_free hA hW)⟩⟩ rfl hn hl hst (lv_room hroom) hdg hf) kk
end CYX
/-! the checksums -/
def cy_e1 (S : Nat → Nat → Int32) (ns nc : Nat) : Nat → Int64
  | 0 => 487
  | i + 1 => cy_e1 S ns nc i * 31 + (cy_cnt S ns nc i).toInt64
def cy_e2 (S : Nat → Nat → Int32) (d : Int64) : Nat → Int64
  | 0 => d
  | s + 1 => ((cy_e2 S d s * 31 + (S 1 s).toInt64) * 31 + (S 2 s).toInt64) * 31 + (S 3 s).toInt64
def cy_e3 (S : Nat → Nat → Int32) (d : Int64) : Nat → Int64
  | 0 => d
  | s + 1 => ((cy_e3 S d s * 31 + (S 4 s).toInt64) * 31 + (S 5 s).toInt64) * 31 + (S 6 s).toInt64
def cy_e4 (S : Nat → Nat → Int32) (ns : Nat) (d : Int64) : Nat → Int64
  | 0 => d
  | c + 1 => cy_du (S (3 * c + 12)) (cy_dt S ns c (cy_e4 S ns d c) 16) (S (3 * c + 11) 4).toNatClampNeg
def cy_rDi (S : Nat → Nat → Int32) (ns no nc : Nat) : Int64 := cy_e4 S ns (cy_e3 S (cy_e2 S (cy_e1 S ns nc 10) ns) no) nc
def cq_e1 (S : Nat → Nat → Int32) (ns nc : Nat) : Nat → Int64
  | 0 => 487
  | i + 1 => cq_e1 S ns nc i * 31 + (cq_cn S ns nc i).toInt64
def cq_e2i (S : Nat → Nat → Int32) (s : Nat) (d : Int64) : Nat → Int64
  | 0 => d
  | k + 1 => cq_e2i S s d k * 31 + (cq_tl S s (nI k)).toInt64
def cq_e2 (S : Nat → Nat → Int32) (d : Int64) : Nat → Int64
  | 0 => d
  | s + 1 => cq_e2i S s (cq_e2 S d s) 3
def cq_e4i (S : Nat → Nat → Int32) (ns c : Nat) (d : Int64) : Nat → Int64
  | 0 => d
  | k + 1 => cq_e4i S ns c d k * 31 + (cq_ct S ns c k).toInt64
def cq_e4t (S : Nat → Nat → Int32) (c : Nat) (d : Int64) : Nat → Int64
  | 0 => d
  | k + 1 => cq_e4t S c d k * 31 + (S 10 (8 * c + k)).toInt64
def cq_e4 (S : Nat → Nat → Int32) (ns : Nat) (d : Int64) : Nat → Int64
  | 0 => d
  | c + 1 => cq_e4t S c (cq_e4i S ns c (cq_e4 S ns d c) 16) (cq_hn S c)
def cq_rDi (S : Nat → Nat → Int32) (ns no nc : Nat) : Int64 := cq_e4 S ns (cy_e3 S (cq_e2 S (cq_e1 S ns nc 10) ns) no) nc
theorem cy_tCo_n {i : Nat} (h : i < 10) : cy_tCo (nI i) = none := by
  unfold cy_tCo
  rw [if_neg (nI_pos (by omega)), if_pos (show nI i < (10 : Int32) from nI_lt (b := 10) h (by decide))]
