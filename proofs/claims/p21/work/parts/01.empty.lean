/-! WHAT IS WRONG WITH THE STATEMENT OF p21 AS IT IS PRINTED (no part of a proof of it): the word of the law's own entry says that its method has no exception table; the law's method has one of three rows. -/
/-- the law's class file doesn't hold what the first word of the Statement says of the law's method -/
theorem em_no : classFile.hasCode x code maxLocals ret = false := by decide +kernel
/-- .. for one ground alone: the method's exception table isn't empty; with its three rows told, the same word holds -/
theorem em_with : classFile.hasCodeWith x code maxLocals ret [(143, 421, 675, 72), (422, 595, 675, 72), (596, 671, 675, 72)] = true := by decide +kernel
/-- the word is among those that the Statement asks of a launch -/
theorem em_in : (x, code, maxLocals, ret) ∈ (headSpec (Cond.code x code maxLocals ret :: tables_1) room_1).pre.codes ++ (headSpec (Cond.code x code maxLocals ret :: tables_1) room_1).post.codes := List.mem_append_left _ (List.mem_of_getElem? (i := 0) rfl)
theorem em_bad (o : Option ClassFile.Facts.File) (h : (o.any fun f => f.hasCode x code maxLocals ret) = true) (ho : o = some classFile) : False := by
  subst ho
  simp only [Option.any_some] at h
  exact Bool.false_ne_true (em_no.symm.trans h)
/-- no launch whatever meets the Statement's premises about the launch: what is claimed of all such launches is claimed of none -/
theorem em_none (l : Jvm.Launch) : ¬ Lists l classFile x code maxLocals ret tables_1 room_1 := fun ⟨_, hf, ⟨hc, _⟩, _⟩ => em_bad _ (hc _ em_in) hf
set_option maxRecDepth 20000 in
/-- every other code word of the Statement is as the launch's files have it -/
theorem em_rest : (((headSpec (Cond.code x code maxLocals ret :: tables_1) room_1).pre.codes ++ (headSpec (Cond.code x code maxLocals ret :: tables_1) room_1).post.codes).drop 1).all (fun y => (launch0.file? y.1.cls).any fun f => f.hasCode y.1 y.2.1 y.2.2.1 y.2.2.2) = true := by decide +kernel
/-- so the Statement as printed is true for want of a launch, and says NOTHING of the class or of the property: this row is evidence of that, no proof of p21, and isn't handed in (hence not the owed name) -/
theorem em_claims : Claimed_1_1 ∧ Claimed_1_2 := ⟨fun l _ hL _ => absurd hL (em_none l), fun l _ hL _ => absurd hL (em_none l)⟩
