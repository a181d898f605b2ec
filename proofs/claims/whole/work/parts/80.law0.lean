/-! the law: its end, and what its arms need (the rows lw_closed to lw_At are the skeleton's) -/
def R_law : String := "CaskYardLaw"
def lw_P (b : Addr) (xs : List Int32) (args : Array Value) (s : State) : Prop := args = #[.ref b] ∧ s.IntsAt b xs ∧ xs.length ≤ 2048 ∧ (Jvm.Cond.and given_1 narrow_1).before args s = true
theorem lw_closed {s t : State} {o : Outcome} {d0 : Drawn} {L : List Loc} {k n : Nat} (hd0 : s.drawn.sameBut d0 lw_cs) (hv : ∃ v, o = .returned v) (hW : (s.setDrawn d0).WarmedH t.vm) (hs : (s.setDrawn d0).sameButNew ({ t with vm := s.vm } : State) L k n) : State.butDraws s t lw_cs (fun t1 => Framed s o t1 L k n) := by
  have h2 : t.drawn = d0 := congrArg State.drawn hs.1
  refine ⟨⟨hv, hW, State.sameButNew.setDrawn hs s.drawn⟩, ?_, by decide⟩
  rw [h2]
  exact hd0
def lw_Q (_ : Array Value) (s : State) (o : Outcome) (t : State) : Prop := o = .returned (some (.int 1)) ∧ State.butDraws s t lw_cs (fun t1 => Framed s o t1 [] 601024 7293034)
def lw_Z (below : List Frame) (a : Array Value) (s : State) : State → Prop := fun t => ∃ o, t.status = .running ∧ Ended t below o ∧ lw_Q a s o t
theorem lw_ret {p : Program} {l : Launch} {e : Env} {s : State} {m : MethodId} {below : List Frame} {meth : Method} {c : Code} {b : Nat} {d0 : Drawn} (hd0 : s.drawn.sameBut d0 lw_cs) (hx : p.tables.exec = Jvm.exec) (hb : c.code = code) (hr : meth.sig.returnType = ret) (hlocks : meth.locks = false) {pc : Nat} {H : Heap} {ls : Array Slot} (hdg : decode code pc = .ok (.ireturn, 1)) : W p l e room_1 (s.setDrawn d0) m #[Value.ref b] below meth c H [] 601024 7293034 (lw_Z below #[Value.ref b] s) (F0 m pc ls [.int 1]) := by
  intro T hT X
  obtain ⟨fs, hret, hrun, hended, hW, hframe⟩ := X.leave (v := some (.int 1)) (hlocks := hlocks) (fun h => by rw [hr] at h; cases h)
  have hmeth' : T.vm.method? m = some meth := X.method'
  refine ⟨T.setFrames fs, ?_, .returned (some (.int 1)), hrun, hended, rfl, lw_closed hd0 ⟨_, rfl⟩ hW hframe⟩
  jvm_step X.here [X.here.top, hx, hb, hdg, hmeth', hr, ret, narrow_b1]
  (try refine ⟨rfl, ?_⟩); (try refine ⟨rfl, ?_⟩)
  first | (intro acts; rw [hret _ acts rfl rfl rfl]) | rw [hret _ _ rfl rfl rfl]
  exact Steps.refl _
def lw_At (p : Program) (s : State) (m : MethodId) (meth : Method) (c : Code) (b L : Nat) (xs : Nat → Int32) : Prop :=
  p.tables.exec = Jvm.exec ∧ c.code = code ∧ meth.sig.returnType = ret ∧ c.maxLocals = 9 ∧ s.vm.findClass R_law = some m.cls ∧ (∀ w ∈ lw_tbl, w.before #[Value.ref b] s = true) ∧ va_X b L xs s s.heap ∧ b < s.heap.size ∧ meth.locks = false ∧ (Jvm.Cond.and given_1 narrow_1).before #[Value.ref b] s = true
/-! the arms' surroundings -/
abbrev lw_A (s : State) : Nat → Prop := fun q => s.heap.size ≤ q
def lw_In (p : Program) (l : Launch) (_ : Env) (s : State) (m : MethodId) (c : Code) (b L : Nat) (xs : Nat → Int32) (D : va_G) (kI kJ kZ kC : ClassId) : Prop :=
  cy_C p s m #[Value.ref b] c cL_law 9 wsL_law RL D (cy_tys kI kJ kZ kC) (lw_A s) ∧ cy_Th (lw_A s) s s.heap ∧ cy_Nx s ∧ va_X b L xs s s.heap ∧ b < s.heap.size ∧ l.stackTraces = false
def lw_E (p : Program) (l : Launch) (e : Env) (s : State) (m : MethodId) (below : List Frame) (meth : Method) (c : Code) (b : Nat) (D : va_G) (kI kJ kZ kC : ClassId) (ad ad2 : Nat → Nat) (ao k cells slots : Nat) : Prop :=
  ∀ (S M : Nat → Nat → Int32) (Z : Nat → Int64) (g : Nat → Int64) (H : Heap) (locs : List Loc) (cells' slots' : Nat) (ls : Array Slot), cells' ≤ cells + 300 → slots' ≤ slots + 2000 → R_I S M (k + 1) → cy_W D (lw_A s) s.heap (cy_Y kI kJ kC ad S Z ((ao, .inl (kJ, 1, .inr (.inl g))) :: cy_Mw kI kZ ad2 M [])) H locs → lv_has ls 9 [(0, .ref b), (1, .ref (ad 0)), (2, .ref (ad2 0)), (3, .ref ao), (4, .int (nI (4 * k)))] → W p l e room_1 s m #[Value.ref b] below meth c H locs cells' slots' (lw_Z below #[Value.ref b] s) (F0 m 1267 ls [])
theorem cy_cd_0 {h1 h2 : String} {th : Option String} (h : cy_cd h1 h2 th = 0) : th = none := by
  unfold cy_cd at h
  split at h
  · assumption
  · split at h
    · exact absurd h (by decide)
    · split at h
      · exact absurd h (by decide)
      · exact absurd h (by decide)
theorem lw_z {x : Int32} (h : ¬ ¬ x = 0) : x = 0 := Classical.not_not.mp h
theorem lw_cmp {th : Option String} {g : Nat → Int64} {v b : Int32} (hth : th = none) (h : v = b) : lg_cmp (cy_ou th g v 0) b.toInt64 = 0 := by
  subst h
  rw [lg_cmp_eq]
  unfold cy_ou
  rw [if_pos hth, pk_uLs]
section CYTL
variable {p : Program} {l : Launch} {e : Env} {R : Room} {s : State} {m : MethodId} {args : Array Value} {below : List Frame} {meth : Method} {c : Code} {H : Heap} {locs : List Loc} {cells slots : Nat} {Q : State → Prop}
variable {cc : ByteArray} {pc nL : Nat} {ls : Array Slot} {rest : List Value} {D : va_G} {A : Nat → Prop} {tys : List (ClassId × FieldType)} {Ts : List Cond} {own : String}
variable {n : Nat} {ad : Nat → Nat} {ef : Nat → (Nat → Int32) → va_E} {S : Nat → Nat → Int32} {tl : va_W}
theorem cy_tlald (hC : cy_C p s m args c cc nL Ts own D tys A) (j a : Nat) (hW : cy_W D A s.heap (cy_w n ad ef S tl) H locs) (t0 : Nat) {cA : ClassId} {N i : Nat} {f : Nat → Int64} (he : tl[j]? = some (a, .inl (cA, N, .inr (.inl f)))) (ht : tys[t0]? = some (cA, .long)) (hi : i < N) (hN : N < 2 ^ 31) (hdg : decode cc pc = .ok (.laload, 1))
    (kk : W p l e R s m args below meth c H locs cells slots Q (F0 m (pc + 1) ls (.long (f i) :: rest))) : W p l e R s m args below meth c H locs cells slots Q (F0 m pc ls (.int (nI i) :: .ref a :: rest)) := by
  refine va_lald hC.1.1 hC.1.2.1 hC.2.1 hW.1 (n + j) t0 (cy_w_tl he) ht (cy_ix hi hN) hdg ?_
  rw [nI_clamp (Nat.lt_trans hi hN)]
  exact kk
end CYTL
