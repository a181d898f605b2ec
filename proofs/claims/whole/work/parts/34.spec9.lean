/-! the taste: a division that makes no NaN -/
theorem cy_endD {l : Launch} {rm : Room} {cc : ByteArray} {v : UInt64} : ∀ (p : Program) (e : Env) (s : State) (m : MethodId) (args : Array Value) (below : List Frame) (meth : Method) (c : Code) (A : Nat → Prop) (Qc : Array Value → State → Outcome → State → Prop), p.tables.exec = Jvm.exec → c.code = cc → meth.sig.returnType = some .double → meth.locks = false →
      ∀ (H : Heap) (locs : List Loc) (cells slots pc : Nat) (ls : Array Slot), (∀ t : State, t.heap = H → s.WarmedH t.vm → Qc args s (.returned (some (.double v))) t) → (∀ q ∈ locs, A q.base) → decode cc pc = .ok (.dreturn, 1) → W p l e rm s m args below meth c H locs cells slots (MQ below Qc args s cells slots A) (F0 m pc ls (some (Value.double v)).toList) :=
  fun p e s m args below meth c A Qc hx hb hr hlk H locs cells slots pc ls hq hf hdg => W.dret hx hb hr hq hf hdg hlk
theorem cy_n64 {a b : UInt64} (ha : FP.Core.dIsNaN a = false) (hb : FP.Core.DFin b) (hz : b.toNat % 2 ^ 63 ≠ 0) : vf_n64 (FP.ddiv a b) := by
  have h : FP.Core.dIsNaN (FP.Core.ddiv a b) = false := FP.Core.ddiv_out ha hb (fun q => hz ((FP.Core.zero_bits2 b).mp q))
  have h2 := (FP.Core.ne_nan _).mp ((FP.Core.notNaN_iff _).mp h)
  unfold vf_n64
  rw [UInt64.le_iff_toNat_le]
  show (FP.Core.ddiv a b &&& 0x7fffffffffffffff).toNat ≤ _
  rw [FP.Core.mask_toNat]
  exact h2
theorem cy_nL {x : Int64} {y : Int32} (h : ¬ y = 0) : vf_n64 (FP.ddiv (FP.l2d x) (FP.i2d y)) := cy_n64 (FP.Core.l2d_notNaN x) (FP.Core.i2d_fin y) (FP.Core.i2d_ne_zero h)
theorem cy_nLL {x y : Int64} (h : ¬ lg_cmp y 0 = 0) : vf_n64 (FP.ddiv (FP.l2d x) (FP.l2d y)) := cy_n64 (FP.Core.l2d_notNaN x) (FP.Core.l2d_fin y) (FP.Core.l2d_ne_zero (fun q => h (by rw [q]; decide)))
def cy_gs (S : Nat → Nat → Int32) : Nat → Int64
  | 0 => 0
  | i + 1 => cy_gs S i + (S (3 * i + 11) 8).toInt64
def cy_rTa (S : Nat → Nat → Int32) (nc : Nat) : UInt64 := if ¬ cy_ha S nc = 0 then FP.ddiv (FP.l2d (cy_gs S nc)) (FP.i2d (cy_ha S nc)) else FP.dconst0
def cq_gs (S : Nat → Nat → Int32) : Nat → Int64
  | 0 => 0
  | i + 1 => cq_gs S i + (S 15 i).toInt64
def cq_hs (S : Nat → Nat → Int32) : Nat → Int64
  | 0 => 0
  | i + 1 => cq_hs S i + (cq_al S i).toInt64
def cq_rTa (S : Nat → Nat → Int32) (nc : Nat) : UInt64 := if ¬ lg_cmp (cq_hs S nc) 0 = 0 then FP.ddiv (FP.l2d (cq_gs S nc)) (FP.l2d (cq_hs S nc)) else FP.dconst0
