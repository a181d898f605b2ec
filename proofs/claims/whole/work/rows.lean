section
-- ===== PART A: goes FIRST, ahead of the names: the tables' words, and 'selects' of the private methods out of them =====
/-- a private method of a class that the tables say can be made, by its rows of tables_1 -/
def lw_okq (q : MethodName × Nat) : Prop := (q.1.cls ≠ "java/lang/invoke/MethodHandle" ∧ q.1.cls ≠ "java/lang/invoke/VarHandle") ∧ Cond.instantiable q.1.cls q.2 ∈ tables_1 ∧ Cond.privateMethod q.1 ∈ tables_1 ∧ Cond.instanceMethod q.1 ∈ tables_1
theorem lw_p0 : lw_okq (⟨"CaskYard", "heldByAll", "()I"⟩, 17) := ⟨⟨by decide +kernel, by decide +kernel⟩, List.mem_of_getElem? (i := 15) (by decide +kernel), List.mem_of_getElem? (i := 159) (by decide +kernel), List.mem_of_getElem? (i := 160) (by decide +kernel)⟩
theorem lw_p1 : lw_okq (⟨"java/lang/Throwable", "fillInStackTrace", "(I)Ljava/lang/Throwable;"⟩, 6) := ⟨⟨by decide +kernel, by decide +kernel⟩, List.mem_of_getElem? (i := 215) (by decide +kernel), List.mem_of_getElem? (i := 213) (by decide +kernel), List.mem_of_getElem? (i := 214) (by decide +kernel)⟩
theorem lw_p2 : lw_okq (⟨"CaskYard", "stavesAt", "(I)I"⟩, 17) := ⟨⟨by decide +kernel, by decide +kernel⟩, List.mem_of_getElem? (i := 15) (by decide +kernel), List.mem_of_getElem? (i := 245) (by decide +kernel), List.mem_of_getElem? (i := 246) (by decide +kernel)⟩
theorem lw_p3 : lw_okq (⟨"CaskYard", "soundCasks", "()I"⟩, 17) := ⟨⟨by decide +kernel, by decide +kernel⟩, List.mem_of_getElem? (i := 15) (by decide +kernel), List.mem_of_getElem? (i := 249) (by decide +kernel), List.mem_of_getElem? (i := 250) (by decide +kernel)⟩
theorem lw_p4 : lw_okq (⟨"CaskYard", "vinegarOfAll", "()I"⟩, 17) := ⟨⟨by decide +kernel, by decide +kernel⟩, List.mem_of_getElem? (i := 15) (by decide +kernel), List.mem_of_getElem? (i := 253) (by decide +kernel), List.mem_of_getElem? (i := 254) (by decide +kernel)⟩
theorem lw_p5 : lw_okq (⟨"CaskYard", "digestCask", "(JI)J"⟩, 17) := ⟨⟨by decide +kernel, by decide +kernel⟩, List.mem_of_getElem? (i := 15) (by decide +kernel), List.mem_of_getElem? (i := 257) (by decide +kernel), List.mem_of_getElem? (i := 258) (by decide +kernel)⟩
theorem lw_p6 : lw_okq (⟨"CaskYard", "tellOfCask", "(II)I"⟩, 17) := ⟨⟨by decide +kernel, by decide +kernel⟩, List.mem_of_getElem? (i := 15) (by decide +kernel), List.mem_of_getElem? (i := 261) (by decide +kernel), List.mem_of_getElem? (i := 262) (by decide +kernel)⟩
theorem lw_p7 : lw_okq (⟨"CaskYard", "isStave", "(I)Z"⟩, 17) := ⟨⟨by decide +kernel, by decide +kernel⟩, List.mem_of_getElem? (i := 15) (by decide +kernel), List.mem_of_getElem? (i := 327) (by decide +kernel), List.mem_of_getElem? (i := 328) (by decide +kernel)⟩
theorem lw_p8 : lw_okq (⟨"CaskYard", "isSort", "(I)Z"⟩, 17) := ⟨⟨by decide +kernel, by decide +kernel⟩, List.mem_of_getElem? (i := 15) (by decide +kernel), List.mem_of_getElem? (i := 352) (by decide +kernel), List.mem_of_getElem? (i := 353) (by decide +kernel)⟩
theorem lw_p9 : lw_okq (⟨"CaskYard", "findSet", "(I)J"⟩, 17) := ⟨⟨by decide +kernel, by decide +kernel⟩, List.mem_of_getElem? (i := 15) (by decide +kernel), List.mem_of_getElem? (i := 358) (by decide +kernel), List.mem_of_getElem? (i := 359) (by decide +kernel)⟩
theorem lw_p10 : lw_okq (⟨"CaskYard", "isUsable", "(I)Z"⟩, 17) := ⟨⟨by decide +kernel, by decide +kernel⟩, List.mem_of_getElem? (i := 15) (by decide +kernel), List.mem_of_getElem? (i := 369) (by decide +kernel), List.mem_of_getElem? (i := 370) (by decide +kernel)⟩
theorem lw_p11 : lw_okq (⟨"CaskYard", "addToSets", "(II)V"⟩, 17) := ⟨⟨by decide +kernel, by decide +kernel⟩, List.mem_of_getElem? (i := 15) (by decide +kernel), List.mem_of_getElem? (i := 373) (by decide +kernel), List.mem_of_getElem? (i := 374) (by decide +kernel)⟩
theorem lw_p12 : lw_okq (⟨"CaskYard", "memberOf", "(JI)I"⟩, 17) := ⟨⟨by decide +kernel, by decide +kernel⟩, List.mem_of_getElem? (i := 15) (by decide +kernel), List.mem_of_getElem? (i := 377) (by decide +kernel), List.mem_of_getElem? (i := 378) (by decide +kernel)⟩
theorem lw_p13 : lw_okq (⟨"CaskYard", "putStavesIn", "(JI)I"⟩, 17) := ⟨⟨by decide +kernel, by decide +kernel⟩, List.mem_of_getElem? (i := 15) (by decide +kernel), List.mem_of_getElem? (i := 397) (by decide +kernel), List.mem_of_getElem? (i := 398) (by decide +kernel)⟩
theorem lw_p14 : lw_okq (⟨"CaskYard", "flawsOf", "(I)I"⟩, 17) := ⟨⟨by decide +kernel, by decide +kernel⟩, List.mem_of_getElem? (i := 15) (by decide +kernel), List.mem_of_getElem? (i := 401) (by decide +kernel), List.mem_of_getElem? (i := 402) (by decide +kernel)⟩
theorem lw_p15 : lw_okq (⟨"CaskYard", "isCask", "(I)Z"⟩, 17) := ⟨⟨by decide +kernel, by decide +kernel⟩, List.mem_of_getElem? (i := 15) (by decide +kernel), List.mem_of_getElem? (i := 412) (by decide +kernel), List.mem_of_getElem? (i := 413) (by decide +kernel)⟩
def lw_privs_1 : List (MethodName × Nat) := [(⟨"CaskYard", "heldByAll", "()I"⟩, 17), (⟨"java/lang/Throwable", "fillInStackTrace", "(I)Ljava/lang/Throwable;"⟩, 6), (⟨"CaskYard", "stavesAt", "(I)I"⟩, 17), (⟨"CaskYard", "soundCasks", "()I"⟩, 17), (⟨"CaskYard", "vinegarOfAll", "()I"⟩, 17), (⟨"CaskYard", "digestCask", "(JI)J"⟩, 17), (⟨"CaskYard", "tellOfCask", "(II)I"⟩, 17), (⟨"CaskYard", "isStave", "(I)Z"⟩, 17), (⟨"CaskYard", "isSort", "(I)Z"⟩, 17), (⟨"CaskYard", "findSet", "(I)J"⟩, 17), (⟨"CaskYard", "isUsable", "(I)Z"⟩, 17), (⟨"CaskYard", "addToSets", "(II)V"⟩, 17), (⟨"CaskYard", "memberOf", "(JI)I"⟩, 17), (⟨"CaskYard", "putStavesIn", "(JI)I"⟩, 17), (⟨"CaskYard", "flawsOf", "(I)I"⟩, 17), (⟨"CaskYard", "isCask", "(I)Z"⟩, 17)]
theorem lw_r1 : ∀ q ∈ lw_privs_1, lw_okq q := List.forall_mem_cons.mpr ⟨lw_p0, List.forall_mem_cons.mpr ⟨lw_p1, List.forall_mem_cons.mpr ⟨lw_p2, List.forall_mem_cons.mpr ⟨lw_p3, List.forall_mem_cons.mpr ⟨lw_p4, List.forall_mem_cons.mpr ⟨lw_p5, List.forall_mem_cons.mpr ⟨lw_p6, List.forall_mem_cons.mpr ⟨lw_p7, List.forall_mem_cons.mpr ⟨lw_p8, List.forall_mem_cons.mpr ⟨lw_p9, List.forall_mem_cons.mpr ⟨lw_p10, List.forall_mem_cons.mpr ⟨lw_p11, List.forall_mem_cons.mpr ⟨lw_p12, List.forall_mem_cons.mpr ⟨lw_p13, List.forall_mem_cons.mpr ⟨lw_p14, List.forall_mem_cons.mpr ⟨lw_p15, fun _ h => absurd h List.not_mem_nil⟩⟩⟩⟩⟩⟩⟩⟩⟩⟩⟩⟩⟩⟩⟩⟩
theorem lw_p16 : lw_okq (⟨"CaskYard", "lastStaveIn", "(I)I"⟩, 17) := ⟨⟨by decide +kernel, by decide +kernel⟩, List.mem_of_getElem? (i := 15) (by decide +kernel), List.mem_of_getElem? (i := 429) (by decide +kernel), List.mem_of_getElem? (i := 430) (by decide +kernel)⟩
theorem lw_p17 : lw_okq (⟨"CaskYard", "takeStavesOutOf", "(I)V"⟩, 17) := ⟨⟨by decide +kernel, by decide +kernel⟩, List.mem_of_getElem? (i := 15) (by decide +kernel), List.mem_of_getElem? (i := 445) (by decide +kernel), List.mem_of_getElem? (i := 446) (by decide +kernel)⟩
theorem lw_p18 : lw_okq (⟨"CaskYard$Cask", "moveLiquid", "(LCaskYard$Cask;II)V"⟩, 11) := ⟨⟨by decide +kernel, by decide +kernel⟩, List.mem_of_getElem? (i := 24) (by decide +kernel), List.mem_of_getElem? (i := 493) (by decide +kernel), List.mem_of_getElem? (i := 494) (by decide +kernel)⟩
theorem lw_p19 : lw_okq (⟨"CaskYard", "liveMonth", "()I"⟩, 17) := ⟨⟨by decide +kernel, by decide +kernel⟩, List.mem_of_getElem? (i := 15) (by decide +kernel), List.mem_of_getElem? (i := 514) (by decide +kernel), List.mem_of_getElem? (i := 515) (by decide +kernel)⟩
theorem lw_p20 : lw_okq (⟨"CaskYard$Cask", "takeOak", "()V"⟩, 11) := ⟨⟨by decide +kernel, by decide +kernel⟩, List.mem_of_getElem? (i := 24) (by decide +kernel), List.mem_of_getElem? (i := 525) (by decide +kernel), List.mem_of_getElem? (i := 526) (by decide +kernel)⟩
theorem lw_p21 : lw_okq (⟨"CaskYard$Cask", "swell", "()V"⟩, 11) := ⟨⟨by decide +kernel, by decide +kernel⟩, List.mem_of_getElem? (i := 24) (by decide +kernel), List.mem_of_getElem? (i := 529) (by decide +kernel), List.mem_of_getElem? (i := 530) (by decide +kernel)⟩
theorem lw_p22 : lw_okq (⟨"CaskYard$Cask", "lose", "(I)I"⟩, 11) := ⟨⟨by decide +kernel, by decide +kernel⟩, List.mem_of_getElem? (i := 24) (by decide +kernel), List.mem_of_getElem? (i := 535) (by decide +kernel), List.mem_of_getElem? (i := 536) (by decide +kernel)⟩
theorem lw_p23 : lw_okq (⟨"CaskYard$Cask", "takeAir", "()V"⟩, 11) := ⟨⟨by decide +kernel, by decide +kernel⟩, List.mem_of_getElem? (i := 24) (by decide +kernel), List.mem_of_getElem? (i := 546) (by decide +kernel), List.mem_of_getElem? (i := 547) (by decide +kernel)⟩
theorem lw_p24 : lw_okq (⟨"CaskYard$Cask", "loosen", "()V"⟩, 11) := ⟨⟨by decide +kernel, by decide +kernel⟩, List.mem_of_getElem? (i := 24) (by decide +kernel), List.mem_of_getElem? (i := 550) (by decide +kernel), List.mem_of_getElem? (i := 551) (by decide +kernel)⟩
theorem lw_p25 : lw_okq (⟨"CaskYard", "findBestBlend", "(I)V"⟩, 17) := ⟨⟨by decide +kernel, by decide +kernel⟩, List.mem_of_getElem? (i := 15) (by decide +kernel), List.mem_of_getElem? (i := 582) (by decide +kernel), List.mem_of_getElem? (i := 583) (by decide +kernel)⟩
theorem lw_p26 : lw_okq (⟨"CaskYard", "offerBlends", "(III)V"⟩, 17) := ⟨⟨by decide +kernel, by decide +kernel⟩, List.mem_of_getElem? (i := 15) (by decide +kernel), List.mem_of_getElem? (i := 594) (by decide +kernel), List.mem_of_getElem? (i := 595) (by decide +kernel)⟩
theorem lw_p27 : lw_okq (⟨"CaskYardModel", "no", "(I)I"⟩, 25) := ⟨⟨by decide +kernel, by decide +kernel⟩, List.mem_of_getElem? (i := 610) (by decide +kernel), List.mem_of_getElem? (i := 705) (by decide +kernel), List.mem_of_getElem? (i := 706) (by decide +kernel)⟩
theorem lw_p28 : lw_okq (⟨"CaskYardModel", "isStave", "(I)Z"⟩, 25) := ⟨⟨by decide +kernel, by decide +kernel⟩, List.mem_of_getElem? (i := 610) (by decide +kernel), List.mem_of_getElem? (i := 713) (by decide +kernel), List.mem_of_getElem? (i := 714) (by decide +kernel)⟩
theorem lw_p29 : lw_okq (⟨"CaskYardModel", "staveTold", "(II)I"⟩, 25) := ⟨⟨by decide +kernel, by decide +kernel⟩, List.mem_of_getElem? (i := 610) (by decide +kernel), List.mem_of_getElem? (i := 717) (by decide +kernel), List.mem_of_getElem? (i := 718) (by decide +kernel)⟩
theorem lw_p30 : lw_okq (⟨"CaskYardModel", "isSort", "(I)Z"⟩, 25) := ⟨⟨by decide +kernel, by decide +kernel⟩, List.mem_of_getElem? (i := 610) (by decide +kernel), List.mem_of_getElem? (i := 730) (by decide +kernel), List.mem_of_getElem? (i := 731) (by decide +kernel)⟩
theorem lw_p31 : lw_okq (⟨"CaskYardModel", "find", "(I)Z"⟩, 25) := ⟨⟨by decide +kernel, by decide +kernel⟩, List.mem_of_getElem? (i := 610) (by decide +kernel), List.mem_of_getElem? (i := 734) (by decide +kernel), List.mem_of_getElem? (i := 735) (by decide +kernel)⟩
def lw_privs_2 : List (MethodName × Nat) := [(⟨"CaskYard", "lastStaveIn", "(I)I"⟩, 17), (⟨"CaskYard", "takeStavesOutOf", "(I)V"⟩, 17), (⟨"CaskYard$Cask", "moveLiquid", "(LCaskYard$Cask;II)V"⟩, 11), (⟨"CaskYard", "liveMonth", "()I"⟩, 17), (⟨"CaskYard$Cask", "takeOak", "()V"⟩, 11), (⟨"CaskYard$Cask", "swell", "()V"⟩, 11), (⟨"CaskYard$Cask", "lose", "(I)I"⟩, 11), (⟨"CaskYard$Cask", "takeAir", "()V"⟩, 11), (⟨"CaskYard$Cask", "loosen", "()V"⟩, 11), (⟨"CaskYard", "findBestBlend", "(I)V"⟩, 17), (⟨"CaskYard", "offerBlends", "(III)V"⟩, 17), (⟨"CaskYardModel", "no", "(I)I"⟩, 25), (⟨"CaskYardModel", "isStave", "(I)Z"⟩, 25), (⟨"CaskYardModel", "staveTold", "(II)I"⟩, 25), (⟨"CaskYardModel", "isSort", "(I)Z"⟩, 25), (⟨"CaskYardModel", "find", "(I)Z"⟩, 25)]
theorem lw_r2 : ∀ q ∈ lw_privs_2, lw_okq q := List.forall_mem_cons.mpr ⟨lw_p16, List.forall_mem_cons.mpr ⟨lw_p17, List.forall_mem_cons.mpr ⟨lw_p18, List.forall_mem_cons.mpr ⟨lw_p19, List.forall_mem_cons.mpr ⟨lw_p20, List.forall_mem_cons.mpr ⟨lw_p21, List.forall_mem_cons.mpr ⟨lw_p22, List.forall_mem_cons.mpr ⟨lw_p23, List.forall_mem_cons.mpr ⟨lw_p24, List.forall_mem_cons.mpr ⟨lw_p25, List.forall_mem_cons.mpr ⟨lw_p26, List.forall_mem_cons.mpr ⟨lw_p27, List.forall_mem_cons.mpr ⟨lw_p28, List.forall_mem_cons.mpr ⟨lw_p29, List.forall_mem_cons.mpr ⟨lw_p30, List.forall_mem_cons.mpr ⟨lw_p31, fun _ h => absurd h List.not_mem_nil⟩⟩⟩⟩⟩⟩⟩⟩⟩⟩⟩⟩⟩⟩⟩⟩
theorem lw_p32 : lw_okq (⟨"CaskYardModel", "isReady", "(I)Z"⟩, 25) := ⟨⟨by decide +kernel, by decide +kernel⟩, List.mem_of_getElem? (i := 610) (by decide +kernel), List.mem_of_getElem? (i := 738) (by decide +kernel), List.mem_of_getElem? (i := 739) (by decide +kernel)⟩
theorem lw_p33 : lw_okq (⟨"CaskYardModel", "isCask", "(I)Z"⟩, 25) := ⟨⟨by decide +kernel, by decide +kernel⟩, List.mem_of_getElem? (i := 610) (by decide +kernel), List.mem_of_getElem? (i := 751) (by decide +kernel), List.mem_of_getElem? (i := 752) (by decide +kernel)⟩
theorem lw_p34 : lw_okq (⟨"CaskYardModel", "hoopsOf", "(I)I"⟩, 25) := ⟨⟨by decide +kernel, by decide +kernel⟩, List.mem_of_getElem? (i := 610) (by decide +kernel), List.mem_of_getElem? (i := 755) (by decide +kernel), List.mem_of_getElem? (i := 756) (by decide +kernel)⟩
theorem lw_p35 : lw_okq (⟨"CaskYardModel", "tensions", "(I)I"⟩, 25) := ⟨⟨by decide +kernel, by decide +kernel⟩, List.mem_of_getElem? (i := 610) (by decide +kernel), List.mem_of_getElem? (i := 759) (by decide +kernel), List.mem_of_getElem? (i := 760) (by decide +kernel)⟩
theorem lw_p36 : lw_okq (⟨"CaskYardModel", "all", "(I)I"⟩, 25) := ⟨⟨by decide +kernel, by decide +kernel⟩, List.mem_of_getElem? (i := 610) (by decide +kernel), List.mem_of_getElem? (i := 767) (by decide +kernel), List.mem_of_getElem? (i := 768) (by decide +kernel)⟩
theorem lw_p37 : lw_okq (⟨"CaskYardModel", "lastStave", "(I)I"⟩, 25) := ⟨⟨by decide +kernel, by decide +kernel⟩, List.mem_of_getElem? (i := 610) (by decide +kernel), List.mem_of_getElem? (i := 771) (by decide +kernel), List.mem_of_getElem? (i := 772) (by decide +kernel)⟩
theorem lw_p38 : lw_okq (⟨"CaskYardModel", "caskTold", "(II)I"⟩, 25) := ⟨⟨by decide +kernel, by decide +kernel⟩, List.mem_of_getElem? (i := 610) (by decide +kernel), List.mem_of_getElem? (i := 784) (by decide +kernel), List.mem_of_getElem? (i := 785) (by decide +kernel)⟩
theorem lw_p39 : lw_okq (⟨"CaskYardModel", "leak", "(I)I"⟩, 25) := ⟨⟨by decide +kernel, by decide +kernel⟩, List.mem_of_getElem? (i := 610) (by decide +kernel), List.mem_of_getElem? (i := 788) (by decide +kernel), List.mem_of_getElem? (i := 789) (by decide +kernel)⟩
theorem lw_p40 : lw_okq (⟨"CaskYardModel", "stavesOf", "(I)I"⟩, 25) := ⟨⟨by decide +kernel, by decide +kernel⟩, List.mem_of_getElem? (i := 610) (by decide +kernel), List.mem_of_getElem? (i := 792) (by decide +kernel), List.mem_of_getElem? (i := 793) (by decide +kernel)⟩
theorem lw_p41 : lw_okq (⟨"CaskYardModel", "beginFilling", "(I)V"⟩, 25) := ⟨⟨by decide +kernel, by decide +kernel⟩, List.mem_of_getElem? (i := 610) (by decide +kernel), List.mem_of_getElem? (i := 800) (by decide +kernel), List.mem_of_getElem? (i := 801) (by decide +kernel)⟩
theorem lw_p42 : lw_okq (⟨"CaskYardModel", "pass", "(II)I"⟩, 25) := ⟨⟨by decide +kernel, by decide +kernel⟩, List.mem_of_getElem? (i := 610) (by decide +kernel), List.mem_of_getElem? (i := 816) (by decide +kernel), List.mem_of_getElem? (i := 817) (by decide +kernel)⟩
theorem lw_p43 : lw_okq (⟨"CaskYardModel", "counted", "(I)I"⟩, 25) := ⟨⟨by decide +kernel, by decide +kernel⟩, List.mem_of_getElem? (i := 610) (by decide +kernel), List.mem_of_getElem? (i := 827) (by decide +kernel), List.mem_of_getElem? (i := 828) (by decide +kernel)⟩
theorem lw_p44 : lw_okq (⟨"CaskYardModel", "foreseen", "(II)I"⟩, 25) := ⟨⟨by decide +kernel, by decide +kernel⟩, List.mem_of_getElem? (i := 610) (by decide +kernel), List.mem_of_getElem? (i := 836) (by decide +kernel), List.mem_of_getElem? (i := 837) (by decide +kernel)⟩
theorem lw_p45 : lw_okq (⟨"CaskYardModel", "canBlend", "(I)Z"⟩, 25) := ⟨⟨by decide +kernel, by decide +kernel⟩, List.mem_of_getElem? (i := 610) (by decide +kernel), List.mem_of_getElem? (i := 846) (by decide +kernel), List.mem_of_getElem? (i := 847) (by decide +kernel)⟩
theorem lw_p46 : lw_okq (⟨"CaskYardModel", "tasteOf", "(I)J"⟩, 25) := ⟨⟨by decide +kernel, by decide +kernel⟩, List.mem_of_getElem? (i := 610) (by decide +kernel), List.mem_of_getElem? (i := 850) (by decide +kernel), List.mem_of_getElem? (i := 851) (by decide +kernel)⟩
def lw_privs_3 : List (MethodName × Nat) := [(⟨"CaskYardModel", "isReady", "(I)Z"⟩, 25), (⟨"CaskYardModel", "isCask", "(I)Z"⟩, 25), (⟨"CaskYardModel", "hoopsOf", "(I)I"⟩, 25), (⟨"CaskYardModel", "tensions", "(I)I"⟩, 25), (⟨"CaskYardModel", "all", "(I)I"⟩, 25), (⟨"CaskYardModel", "lastStave", "(I)I"⟩, 25), (⟨"CaskYardModel", "caskTold", "(II)I"⟩, 25), (⟨"CaskYardModel", "leak", "(I)I"⟩, 25), (⟨"CaskYardModel", "stavesOf", "(I)I"⟩, 25), (⟨"CaskYardModel", "beginFilling", "(I)V"⟩, 25), (⟨"CaskYardModel", "pass", "(II)I"⟩, 25), (⟨"CaskYardModel", "counted", "(I)I"⟩, 25), (⟨"CaskYardModel", "foreseen", "(II)I"⟩, 25), (⟨"CaskYardModel", "canBlend", "(I)Z"⟩, 25), (⟨"CaskYardModel", "tasteOf", "(I)J"⟩, 25)]
theorem lw_r3 : ∀ q ∈ lw_privs_3, lw_okq q := List.forall_mem_cons.mpr ⟨lw_p32, List.forall_mem_cons.mpr ⟨lw_p33, List.forall_mem_cons.mpr ⟨lw_p34, List.forall_mem_cons.mpr ⟨lw_p35, List.forall_mem_cons.mpr ⟨lw_p36, List.forall_mem_cons.mpr ⟨lw_p37, List.forall_mem_cons.mpr ⟨lw_p38, List.forall_mem_cons.mpr ⟨lw_p39, List.forall_mem_cons.mpr ⟨lw_p40, List.forall_mem_cons.mpr ⟨lw_p41, List.forall_mem_cons.mpr ⟨lw_p42, List.forall_mem_cons.mpr ⟨lw_p43, List.forall_mem_cons.mpr ⟨lw_p44, List.forall_mem_cons.mpr ⟨lw_p45, List.forall_mem_cons.mpr ⟨lw_p46, fun _ h => absurd h List.not_mem_nil⟩⟩⟩⟩⟩⟩⟩⟩⟩⟩⟩⟩⟩⟩⟩
def lw_privs : List (MethodName × Nat) := lw_privs_1 ++ (lw_privs_2 ++ (lw_privs_3))
def lw_tbl : List Cond := k2_sels lw_privs ++ tables_1
theorem lw_privs_ok : ∀ q ∈ lw_privs, lw_okq q := by
  show ∀ q ∈ lw_privs_1 ++ (lw_privs_2 ++ (lw_privs_3)), lw_okq q
  exact List.forall_mem_append.mpr ⟨lw_r1, List.forall_mem_append.mpr ⟨lw_r2, lw_r3⟩⟩
/-- the streams that the claim lets the run draw from -/
abbrev lw_cs : List Choice := [Jvm.Choice.named "NaN.bits"]
theorem lw_bits : nanBits ∈ lw_cs := by first | decide | exact List.mem_cons_self | simp [lw_cs, nanBits]
-- ===== end of PART A; then your names; then what follows =====
end
section
/-! ===== BEGIN words of one list among another's, by their places ===== -/
theorem goodIn_r {big : List Cond} (ws : List Cond) (ps : List Nat) (hp : ws = ps.filterMap (fun i => big[i]?)) (h : ws.all goodWord = true) : GoodIn big ws := by
  intro w hw
  have h1 := List.all_eq_true.mp h w hw
  rw [hp] at hw
  obtain ⟨i, -, hi⟩ := List.mem_filterMap.mp hw
  have hm : w ∈ big := by first | exact List.mem_of_getElem? hi | exact List.getElem?_mem hi
  exact ⟨hm, good_of_word h1⟩
theorem goodIn_app {big a b : List Cond} (ha : GoodIn big a) (hb : GoodIn big b) : GoodIn big (a ++ b) := fun w h => (List.mem_append.mp h).elim (ha w) (hb w)
theorem goodIn_ca {big a b : List Cond} {c : Cond} (ha : GoodIn big (c :: a)) (hb : GoodIn big b) : GoodIn big (c :: (a ++ b)) := fun w h => (List.mem_cons.mp h).elim (fun e => ha w (List.mem_cons.mpr (Or.inl e))) (fun h => (List.mem_append.mp h).elim (fun h => ha w (List.mem_cons.mpr (Or.inr h))) (hb w))
theorem goodIn_sub {big ws : List Cond} (hm : ∀ w ∈ ws, w ∈ big) (h : ws.all goodWord = true) : GoodIn big ws := fun w hw => ⟨hm w hw, good_of_word (List.all_eq_true.mp h w hw)⟩
/-! ===== END ===== -/

/-! ===== BEGIN exceptions that leave a method, and their catching by the caller (launches without stack traces) ===== -/
section VXA
/-! The laws vx_back, vx_callV, vx_callS, vx_callSW, vx_throw0, vx_throwS follow proofs of the library, with one case more: JvmDerived/Free/Laws.lean (Back.of_free), Shelf42/LK1.lean (callV, callS), Shelf/KitTraced.lean (throwNew0V, throwNewS). -/
/-- where a method has thrown q: the class by its name, the cell, what was written, the world -/
def vx_T (XC : String → State → State → Prop) (st : State) (q : Addr) (t : State) (mc ms : Nat) (free : Addr → Prop) : Prop :=
  ∃ (E : String) (ce : Cell) (L : List Loc), XC E st t ∧ t.heap[q]? = some ce ∧ ce.vm = .none ∧ st.vm.findClass E = some ce.cls ∧ st.WarmedH t.vm ∧ st.sameButNew ({ t with vm := st.vm } : State) L mc ms ∧ ∀ z ∈ L, free z.base
def vx_Q (Qc : Array Value → State → Outcome → State → Prop) (XC : String → State → State → Prop) (mc ms : Nat) (free : Addr → Prop) : Array Value → State → Outcome → State → Prop := fun a st o t =>
  (Qc a st o t ∧ ∃ L, FrameEnd st o t L mc ms ∧ ∀ q ∈ L, free q.base) ∨ ∃ q, o = .threw q ∧ vx_T XC st q t mc ms free
/-- a callee that returns or throws -/
def vx_Met (l : Launch) (y : MethodName) (ws : List Cond) (rm : Room) (Pc : Array Value → State → Prop) (Qc : Array Value → State → Outcome → State → Prop) (XC : String → State → State → Prop) (mc ms : Nat) (free : Addr → Prop) : Prop :=
  MetFree l y (headSpec ws rm) Pc (fun _ _ _ _ _ => True) (vx_Q Qc XC mc ms free)
def vx_Post (XC : String → State → State → Prop) (mc ms : Nat) (free : Addr → Prop) : Pt → Array Value → Addr → Pt → Prop := fun A a q B =>
  ∃ (g : JFrame) (mk : MethodId) (t : State) (L : List Loc) (E : String) (ce : Cell), B.U.heap = t.heap ∧ B.U.vm = t.vm ∧ XC E (A.U.calling g mk a) t ∧ t.heap[q]? = some ce ∧ ce.vm = .none ∧ A.U.vm.findClass E = some ce.cls ∧ B.locs = A.locs ++ L ∧ (∀ z ∈ L, free z.base) ∧ B.cells = A.cells + mc ∧ B.slots = A.slots + ms
def vx_Back (l : Launch) (R : Room) (p : Program) (e : Env) (below : List Frame) (s : State) (sargs : Array Value) (y : MethodName) (len W9 : Nat)
    (Pre : Pt → Array Value → Prop) (Post : Pt → Array Value → Option Value → Pt → Prop) (PostX : Pt → Array Value → Addr → Pt → Prop) : Prop :=
  ∀ (m : MethodId) (meth : Method) (c : Code) (A : Pt) (g : JFrame) (ig : Instr) (mk : MethodId) (a : Array Value),
    Stand p l e R s m sargs below meth c A.U A.locs A.cells A.slots → g.method = m → g.locals.size = c.maxLocals → decode c.code g.pc = .ok (ig, len) →
    2 * g.monitorRoom + (g.stack.map fun v => v.category).sum ≤ W9 → A.U.methodNamed? y = some mk → Pre A a →
    (∃ (v : Option Value) (B : Pt), Stand p l e R s m sargs below meth c B.U B.locs B.cells B.slots ∧ Post A a v B ∧
      Steps p.tables e below (doInvoke e (A.U.setTop g) [] mk a).1 (B.U.setTop { g with pc := g.pc + len, stack := v.toList ++ g.stack })) ∨
    (∃ (q : Addr) (B : Pt), Stand p l e R s m sargs below meth c B.U B.locs B.cells B.slots ∧ PostX A a q B ∧
      Steps p.tables e below (doInvoke e (A.U.setTop g) [] mk a).1 ((B.U.setTop g).pushFrame (.throwing q)))
section Payer
variable {l : Launch} {R : Room} {p : Program} {e : Env} {below : List Frame} {s : State} {sargs : Array Value} {y : MethodName} {len W9 : Nat}
theorem vx_back {ws : List Cond} {rm : Room} {Pc : Array Value → State → Prop} {Qc : Array Value → State → Outcome → State → Prop} {XC : String → State → State → Prop} {mc ms : Nat} {free : Addr → Prop} {bytes : ByteArray} {maxL : Nat} {ret : Option FieldType}
    (hM : vx_Met l y ws rm Pc Qc XC mc ms free) (hblind : FrameBlind Pc) (hrc : rm.cells = mc) (hrs : rm.slots = ms)
    (hframes : rm.frames + 1 ≤ R.frames) (hlocals : W9 + (maxL + 11) + rm.locals ≤ R.locals)
    (hws : ∀ w ∈ ws, ∀ a' U, s.WarmedH U.vm → w.before a' U = true) (hcode : Cond.code y bytes maxL ret ∈ ws) (hinit : ∀ a' U, s.WarmedH U.vm → (Cond.initialized y.cls).before a' U = true) :
    vx_Back l R p e below s sargs y len W9 (PreOf R mc ms Pc) (PostOf Qc mc ms free) (vx_Post XC mc ms free) := by
  intro m meth c A g ig mk a X hg hsize hdg hW hn hp
  have h1 : (headSpec ws rm).pre.before a A.U = true := atoms_intro fun w hw => hws w hw _ _ X.warmed
  have h2 : (Cond.code y bytes maxL ret).before a A.U = true := hws _ hcode _ _ X.warmed
  have h3 : (Cond.initialized y.cls).before a A.U = true := hinit _ _ X.warmed
  have h4 : A.cells + (headSpec ws rm).room.cells ≤ R.cells := by rw [show (headSpec ws rm).room.cells = mc from hrc]; exact hp.1
  have h5 : A.slots + (headSpec ws rm).room.slots ≤ R.slots := by rw [show (headSpec ws rm).room.slots = ms from hrs]; exact hp.2.1
  have hPc : Pc a (A.U.calling g mk a) := hblind _ _ _ _ hp.2.2
  obtain ⟨U, Ls, c0, s0⟩ := A
  dsimp only [Pt.U, Pt.locs, Pt.cells, Pt.slots] at h1 h2 h3 h4 h5 X hn hPc ⊢
  obtain ⟨methY, cY, hmY, hcY, -, hlY, -, -, -, -⟩ := Cond.code_spec hn h2
  obtain ⟨kY, hkY, -⟩ := className_of_methodNamed hn
  have hinitY : kY.init = .initialized := Cond.initialized_spec (findClass_of_methodNamed hn) hkY h3
  have h : At U g.method c below := by rw [hg]; exact X.here
  have hlocals9 : W9 + (maxL + 11) + (headSpec ws rm).room.locals ≤ R.locals := hlocals
  have happ : (headSpec ws rm).appliesLoose y e.platform (U.calling g mk a) = true :=
    Spec.appliesLoose_calling (g := g) h hdg hn hkY hinitY
      (X.room_calling (g := g) (R' := (headSpec ws rm).room) hsize hmY hcY hframes (by rw [hlY]; omega) h4 h5) h1
  obtain ⟨mid, hmid⟩ := h.above
  have hfr : (U.setTop g).frames = (.java g :: mid) ++ below := by rw [State.frames_setTop' g h.top, hmid]; rfl
  obtain ⟨o, s₂, hsteps, -, hend, hq⟩ := Steps.callFree hM p X.admits X.cas X.clock (acts := []) hfr happ hPc trivial
  have hq' : vx_Q Qc XC mc ms free a (U.calling g mk a) o s₂ := hq
  rw [State.frames_setTop' g h.top] at hend
  obtain ⟨g₀, hg0⟩ := Option.isSome_iff_exists.mp h.top
  obtain ⟨r, hr⟩ := State.topJava?_eq_some.mp hg0
  have hr' : (({ U with heap := s₂.heap, slotsUsed := s₂.slotsUsed } : State).setVm s₂.vm).frames = .java g₀ :: r := hr
  rcases hq' with ⟨hqc, L, hfe, hL⟩ | ⟨q, rfl, E, ce, L, hx, hce, hcv, hcl, hW₂, hsm, hL⟩
  · obtain ⟨⟨v, rfl⟩, hW₂, e2, q2, q3, q4, q5, q6⟩ := id hfe
    have e3 : s₂ = ({ (U.calling g mk a).setFrames s₂.frames with heap := s₂.heap, slotsUsed := s₂.slotsUsed } : State).setVm s₂.vm := by
      have : s₂ = ({ s₂ with vm := (U.calling g mk a).vm } : State).setVm s₂.vm := rfl
      rw [e2] at this
      exact this
    obtain ⟨c₂, i₂, len₂, hc₂, hd₂, hf₂⟩ := hend
    have hW' : U.WarmedH s₂.vm := hW₂
    have hcc : c₂ = c := by
      have h1 : s₂.code? g.method = U.code? g.method := by
        rw [State.code?_eq, State.code?_eq, hW'.alike.method?]
      exact Option.some.inj (hc₂.symm.trans (h1.trans h.code))
    subst hcc
    have hlen : len₂ = len := by rw [hdg] at hd₂; cases hd₂; rfl
    subst hlen
    have hs₂ : s₂ = (({ U with heap := s₂.heap, slotsUsed := s₂.slotsUsed } : State).setVm s₂.vm).setTop { g with pc := g.pc + len₂, stack := v.toList ++ g.stack } := by
      refine e3.trans ?_
      rw [hf₂, State.calling_eq h.top, State.setFrames_setFrames, State.setTop_of_frames _ hr', hr]
      rfl
    have hsame : U.sameButNew ({ U with heap := s₂.heap, slotsUsed := s₂.slotsUsed } : State) L mc ms := by
      refine ⟨?_, q2, q3, q4, q5, q6⟩
      obtain ⟨t, ht, -⟩ := State.frames_cons hr
      show ({ U with heap := s₂.heap, slotsUsed := s₂.slotsUsed } : State) = { U.setFrames U.frames with heap := s₂.heap, slotsUsed := s₂.slotsUsed }
      rw [State.setFrames_self ht]
    subst hg
    refine Or.inl ⟨v, ⟨(({ U with heap := s₂.heap, slotsUsed := s₂.slotsUsed } : State).setVm s₂.vm), Ls ++ L, c0 + mc, s0 + ms⟩,
      ⟨X.admits, X.cas, X.clock, X.frames, X.room, X.hears, X.method, X.code, (X.here.setHeapUsed s₂.heap s₂.slotsUsed).setVm hW'.alike, X.tail, State.WarmedH.trans X.warmed hW', X.limits, X.bytes, X.same.trans (hsame.setVm s.vm)⟩,
      ⟨g, mk, s₂, L, rfl, rfl, hqc, rfl, hL, rfl, rfl⟩, ?_⟩
    show Steps p.tables e below _ ((({ U with heap := s₂.heap, slotsUsed := s₂.slotsUsed } : State).setVm s₂.vm).setTop { g with pc := g.pc + len₂, stack := v.toList ++ g.stack })
    rw [← hs₂]
    exact hsteps
  · obtain ⟨e2, q2, q3, q4, q5, q6⟩ := id hsm
    have e3 : s₂ = ({ (U.calling g mk a).setFrames s₂.frames with heap := s₂.heap, slotsUsed := s₂.slotsUsed } : State).setVm s₂.vm := by
      have : s₂ = ({ s₂ with vm := (U.calling g mk a).vm } : State).setVm s₂.vm := rfl
      rw [e2] at this
      exact this
    have hf₂ : s₂.frames = .throwing q :: .java g :: U.frames.tail := hend
    have hW' : U.WarmedH s₂.vm := hW₂
    have hs₂ : s₂ = ((({ U with heap := s₂.heap, slotsUsed := s₂.slotsUsed } : State).setVm s₂.vm).setTop g).pushFrame (.throwing q) := by
      refine e3.trans ?_
      rw [hf₂, State.calling_eq h.top, State.setFrames_setFrames, State.pushFrame, State.frames_setTop _ hr', State.setTop_of_frames _ hr', State.setFrames_setFrames, hr]
      rfl
    have hsame : U.sameButNew ({ U with heap := s₂.heap, slotsUsed := s₂.slotsUsed } : State) L mc ms := by
      refine ⟨?_, q2, q3, q4, q5, q6⟩
      obtain ⟨t, ht, -⟩ := State.frames_cons hr
      show ({ U with heap := s₂.heap, slotsUsed := s₂.slotsUsed } : State) = { U.setFrames U.frames with heap := s₂.heap, slotsUsed := s₂.slotsUsed }
      rw [State.setFrames_self ht]
    subst hg
    refine Or.inr ⟨q, ⟨(({ U with heap := s₂.heap, slotsUsed := s₂.slotsUsed } : State).setVm s₂.vm), Ls ++ L, c0 + mc, s0 + ms⟩,
      ⟨X.admits, X.cas, X.clock, X.frames, X.room, X.hears, X.method, X.code, (X.here.setHeapUsed s₂.heap s₂.slotsUsed).setVm hW'.alike, X.tail, State.WarmedH.trans X.warmed hW', X.limits, X.bytes, X.same.trans (hsame.setVm s.vm)⟩,
      ⟨g, mk, s₂, L, E, ce, rfl, rfl, hx, hce, hcv, hcl, rfl, hL, rfl, rfl⟩, ?_⟩
    show Steps p.tables e below _ (((({ U with heap := s₂.heap, slotsUsed := s₂.slotsUsed } : State).setVm s₂.vm).setTop g).pushFrame (.throwing q))
    rw [← hs₂]
    exact hsteps
end Payer
section Calls
variable {p : Program} {l : Launch} {e : Env} {R : Room} {s : State} {m : MethodId} {args : Array Value} {below : List Frame} {meth : Method} {c : Code} {T : State} {locs : List Loc} {cells slots : Nat}
theorem vx_callV (X : Stand p l e R s m args below meth c T locs cells slots) (hexec : p.tables.exec = Jvm.exec) {own C : String} {index : Nat} {y : MethodName} {bytes : ByteArray} {maxL : Nat} {ret : Option FieldType}
    (hown : s.vm.findClass own = some m.cls) (hlink : (Cond.methodLink own index y).before args s = true) (hinst : (Cond.instanceMethod y).before args s = true) (hsel : (Cond.selects C y y).before args s = true)
    (hcode : (Cond.code y bytes maxL ret).before args s = true) (hy : y.cls ≠ "java/lang/invoke/MethodHandle" ∧ y.cls ≠ "java/lang/invoke/VarHandle")
    {W9 : Nat} {Pre : Pt → Array Value → Prop} {Post : Pt → Array Value → Option Value → Pt → Prop} {PostX : Pt → Array Value → Addr → Pt → Prop} (hK : vx_Back l R p e below s args y 3 W9 Pre Post PostX)
    {b : Addr} {cellB : Cell} (hcell : T.heap[b]? = some cellB) (hobj : cellB.vm.isStatics = false) (hcls : s.vm.findClass C = some cellB.cls)
    {g : JFrame} (hg : g.method = m) (hsize : g.locals.size = c.maxLocals) {argsL rest : List Value} (hlen : ∀ sig, parseMethodDescriptor y.desc = some sig → argsL.length = sig.parameters.length)
    (hstack : g.stack = argsL.reverse ++ .ref b :: rest) (hW : 2 * g.monitorRoom + (rest.map fun v => v.category).sum ≤ W9) (hdg : decode c.code g.pc = .ok (.invokevirtual index, 3))
    (hpre : ∀ vm₁, s.WarmedH vm₁ → Pre ⟨T.setVm vm₁, locs, cells, slots⟩ (Value.ref b :: argsL).toArray) :
    (∃ (v : Option Value) (vm₁ : Vm) (B : Pt), s.WarmedH vm₁ ∧ Stand p l e R s m args below meth c B.U B.locs B.cells B.slots ∧ Post ⟨T.setVm vm₁, locs, cells, slots⟩ (Value.ref b :: argsL).toArray v B ∧
      ∀ target, Steps p.tables e below (B.U.setTop { g with pc := g.pc + 3, stack := v.toList ++ rest }) target → Steps p.tables e below (T.setTop g) target) ∨
    (∃ (q : Addr) (vm₁ : Vm) (B : Pt), s.WarmedH vm₁ ∧ Stand p l e R s m args below meth c B.U B.locs B.cells B.slots ∧ PostX ⟨T.setVm vm₁, locs, cells, slots⟩ (Value.ref b :: argsL).toArray q B ∧
      Steps p.tables e below (T.setTop g) ((B.U.setTop { g with stack := rest }).pushFrame (.throwing q))) := by
  obtain ⟨mk, methM, hnamed, hmethM, hstM, habM⟩ := Cond.instanceMethod_spec hinst
  obtain ⟨methM', cM, hmethM', -, -, -, -, -, -, hsigM⟩ := Cond.code_spec hnamed hcode
  cases hmethM.symm.trans hmethM'
  obtain ⟨c2, r2, m2, q1, q2, q3, q4, kP, hkP, hkPi⟩ := Cond.selects_spec hsel
  cases hcls.symm.trans q1
  cases (State.methodFound?_of_named hnamed hy).symm.trans q2
  cases hnamed.symm.trans q3
  have hselP : selectMethod e.platform s.vm cellB.cls mk = .method mk := by rw [Launch.admits_selectMethod X.admits]; exact q4
  obtain ⟨vm₁, X₁, hstep₁⟩ := X.invokevirtual hexec hown hlink hnamed hmethM hstM hkP hkPi hy (a := b) (cell := cellB) hcell
    (fun z h => by rw [h] at hobj; cases hobj) hselP hmethM habM hkP hkPi (g := g) hg (argsL := argsL) (rest := rest) (hlen _ hsigM) hstack hdg
  rcases hK m meth c ⟨T.setVm vm₁, locs, cells, slots⟩ { g with stack := rest } (.invokevirtual index) mk (Value.ref b :: argsL).toArray X₁ hg hsize hdg hW (X₁.named hnamed) (hpre vm₁ X₁.warmed) with ⟨v, B, X', hpost, hsteps⟩ | ⟨q, B, X', hpost, hsteps⟩
  · exact Or.inl ⟨v, vm₁, B, X₁.warmed, X', hpost, fun target h => hstep₁ _ fun acts => by rw [doInvoke_state]; exact hsteps.trans h⟩
  · exact Or.inr ⟨q, vm₁, B, X₁.warmed, X', hpost, hstep₁ _ fun acts => by rw [doInvoke_state]; exact hsteps⟩
theorem vx_callS (X : Stand p l e R s m args below meth c T locs cells slots) (hexec : p.tables.exec = Jvm.exec) {own : String} {index : Nat} {y : MethodName} {bytes : ByteArray} {maxL : Nat} {ret : Option FieldType}
    (hown : s.vm.findClass own = some m.cls) (hlink : (Cond.methodLink own index y).before args s = true) (hstat : (Cond.static y).before args s = true) (hinit : (Cond.initialized y.cls).before args s = true)
    (hcode : (Cond.code y bytes maxL ret).before args s = true) (hy : y.cls ≠ "java/lang/invoke/MethodHandle" ∧ y.cls ≠ "java/lang/invoke/VarHandle")
    {W9 : Nat} {Pre : Pt → Array Value → Prop} {Post : Pt → Array Value → Option Value → Pt → Prop} {PostX : Pt → Array Value → Addr → Pt → Prop} (hK : vx_Back l R p e below s args y 3 W9 Pre Post PostX)
    {g : JFrame} (hg : g.method = m) (hsize : g.locals.size = c.maxLocals) {argsL rest : List Value} (hlen : ∀ sig, parseMethodDescriptor y.desc = some sig → argsL.length = sig.parameters.length)
    (hstack : g.stack = argsL.reverse ++ rest) (hW : 2 * g.monitorRoom + (rest.map fun v => v.category).sum ≤ W9) (hdg : decode c.code g.pc = .ok (.invokestatic index, 3))
    (hpre : ∀ vm₁, s.WarmedH vm₁ → Pre ⟨T.setVm vm₁, locs, cells, slots⟩ argsL.toArray) :
    (∃ (v : Option Value) (vm₁ : Vm) (B : Pt), s.WarmedH vm₁ ∧ Stand p l e R s m args below meth c B.U B.locs B.cells B.slots ∧ Post ⟨T.setVm vm₁, locs, cells, slots⟩ argsL.toArray v B ∧
      ∀ target, Steps p.tables e below (B.U.setTop { g with pc := g.pc + 3, stack := v.toList ++ rest }) target → Steps p.tables e below (T.setTop g) target) ∨
    (∃ (q : Addr) (vm₁ : Vm) (B : Pt), s.WarmedH vm₁ ∧ Stand p l e R s m args below meth c B.U B.locs B.cells B.slots ∧ PostX ⟨T.setVm vm₁, locs, cells, slots⟩ argsL.toArray q B ∧
      Steps p.tables e below (T.setTop g) ((B.U.setTop { g with stack := rest }).pushFrame (.throwing q))) := by
  obtain ⟨mk, hnamed⟩ := Cond.code_named hcode
  obtain ⟨methM, cM, hmethM, -, -, -, -, -, -, hsigM⟩ := Cond.code_spec hnamed hcode
  have hstatic : methM.isStatic = true := Cond.static_spec hnamed hmethM hstat
  obtain ⟨kP, hkP, -⟩ := className_of_methodNamed hnamed
  have hinitP : kP.init = .initialized := Cond.initialized_spec (findClass_of_methodNamed hnamed) hkP hinit
  obtain ⟨vm₁, X₁, hstep₁⟩ := X.invokestatic hexec hown hlink hnamed hmethM hstatic hkP hinitP hy (g := g) hg (argsL := argsL) (rest := rest) (hlen _ hsigM) hstack hdg
  rcases hK m meth c ⟨T.setVm vm₁, locs, cells, slots⟩ { g with stack := rest } (.invokestatic index) mk argsL.toArray X₁ hg hsize hdg hW (X₁.named hnamed) (hpre vm₁ X₁.warmed) with ⟨v, B, X', hpost, hsteps⟩ | ⟨q, B, X', hpost, hsteps⟩
  · exact Or.inl ⟨v, vm₁, B, X₁.warmed, X', hpost, fun target h => hstep₁ _ fun acts => by rw [doInvoke_state]; exact hsteps.trans h⟩
  · exact Or.inr ⟨q, vm₁, B, X₁.warmed, X', hpost, hstep₁ _ fun acts => by rw [doInvoke_state]; exact hsteps⟩
end Calls
theorem vx_cls {s : State} {T : State} {vm₁ : Vm} {E : String} {k : ClassId} (hW : s.WarmedH vm₁) (h : (T.setVm vm₁).vm.findClass E = some k) : s.vm.findClass E = some k := by
  have h1 : vm₁.findClass E = some k := h
  rw [hW.alike.findClass] at h1
  exact h1
/-- the method's frame g, with q thrown over it -/
def vx_W (p : Program) (l : Launch) (e : Env) (R : Room) (s : State) (m : MethodId) (args : Array Value) (below : List Frame) (meth : Method) (c : Code) (H : Heap) (locs : List Loc) (cells slots : Nat) (Q : State → Prop) (g : JFrame) (q : Addr) : Prop :=
  ∀ T : State, T.heap = H → Stand p l e R s m args below meth c T locs cells slots → ∃ t, Steps p.tables e below ((T.setTop g).pushFrame (.throwing q)) t ∧ Q t
def vx_Run (p : Program) (l : Launch) (e : Env) (R : Room) (s : State) (m : MethodId) (args : Array Value) (below : List Frame) (meth : Method) (c : Code) (H : Heap) (locs : List Loc) (cells slots mc ms : Nat) (g : JFrame) (rest : List Value) (Qa : State → Outcome → State → Prop) (XC : String → State → State → Prop) (free : Addr → Prop) : Prop :=
  ∀ T : State, T.heap = H → Stand p l e R s m args below meth c T locs cells slots →
    (∃ (v : Option Value) (st₀ t T' : State) (L : List Loc), st₀.heap = H ∧ Stand p l e R s m args below meth c T' (locs ++ L) (cells + mc) (slots + ms) ∧ (∀ q ∈ L, free q.base) ∧ T'.heap = t.heap ∧ T'.vm = t.vm ∧ Qa st₀ (.returned v) t ∧
      Goes p e below T g T' { g with pc := g.pc + 3, stack := v.toList ++ rest }) ∨
    (∃ (q : Addr) (st₀ t T' : State) (L : List Loc) (E : String) (ce : Cell), st₀.heap = H ∧ Stand p l e R s m args below meth c T' (locs ++ L) (cells + mc) (slots + ms) ∧ (∀ z ∈ L, free z.base) ∧ T'.heap = t.heap ∧ T'.vm = t.vm ∧ XC E st₀ t ∧ t.heap[q]? = some ce ∧ ce.vm = .none ∧ s.vm.findClass E = some ce.cls ∧
      Steps p.tables e below (T.setTop g) ((T'.setTop { g with stack := rest }).pushFrame (.throwing q)))
def vx_X {S : Type} (px : S → Prop) (B : String → S → State → Prop) (A : Nat → Prop) : String → State → State → Prop := fun E st t => ∃ u : S, px u ∧ B E u t ∧ va_F A st t
section Runs
variable {p : Program} {l : Launch} {e : Env} {R : Room} {s : State} {m : MethodId} {args : Array Value} {below : List Frame} {meth : Method} {c : Code} {H : Heap} {locs : List Loc} {cells slots : Nat}
variable {y : MethodName} {bytes cc : ByteArray} {maxL nL mc ms n index : Nat} {ret : Option FieldType} {ws : List Cond} {rm : Room} {Pc : Array Value → State → Prop} {Qc : Array Value → State → Outcome → State → Prop} {XC : String → State → State → Prop} {free : Addr → Prop} {Ts : List Cond} {own C : String} {b : Addr} {As rest : List Value} {g : JFrame}
theorem vx_callBack (cb : CallB R s args own index y bytes maxL ret ws rm mc ms n) (hM : vx_Met l y ws rm Pc Qc XC mc ms free) (hbl : FrameBlind Pc) : vx_Back l R p e below s args y 3 8 (PreOf R mc ms Pc) (PostOf Qc mc ms free) (vx_Post XC mc ms free) := by
  obtain ⟨hrc, hrs, hfr, hlo, hws, hcw, -, hini, -⟩ := cb
  exact vx_back (bytes := bytes) (maxL := maxL) (ret := ret) hM hbl hrc hrs hfr hlo hws hcw (fun a' U hW => word_at hW (Or.inl (by first | rfl | simp [Cond.onTables, Cond.keeps, Cond.steady])) hini)
theorem vx_runV (S : CallFix p m c cc nL s args Ts own) (hM : vx_Met l y ws rm Pc Qc XC mc ms free) (cw : CallW R s args own C index y bytes maxL ret ws rm mc ms n) (hp : PreV s H C b Pc As)
    (hg : g.method = m) (hn : As.length = n) (hsize : g.locals.size = nL) (hstack : g.stack = As.reverse ++ .ref b :: rest) (hW : 2 * g.monitorRoom + (rest.map fun v => v.category).sum ≤ 8) (hdg : decode cc g.pc = .ok (.invokevirtual index, 3)) (hf : cells + mc ≤ R.cells ∧ slots + ms ≤ R.slots) :
    vx_Run p l e R s m args below meth c H locs cells slots mc ms g rest (Qc (Value.ref b :: As).toArray) XC free := by
  have hK : vx_Back l R p e below s args y 3 8 (PreOf R mc ms Pc) (PostOf Qc mc ms free) (vx_Post XC mc ms free) := vx_callBack cw.1 hM hp.1
  obtain ⟨⟨-, -, -, -, -, -, hcode, -, hy, hlen, hl⟩, hin, hse⟩ := cw
  obtain ⟨hx, hb, hml, ho, -⟩ := S
  obtain ⟨-, ⟨cellB, hcB, hoB, hclB⟩, hPc⟩ := hp
  intro T hT X
  rcases vx_callV X hx (C := C) (bytes := bytes) (maxL := maxL) (ret := ret) ho hl hin hse hcode hy hK (by rw [hT]; exact hcB) hoB hclB hg (hsize.trans hml.symm) (argsL := As) (rest := rest) (fun sig h => hn.trans (hlen sig h)) hstack hW (by rw [hb]; exact hdg)
    (fun vm₁ hW₁ => ⟨hf.1, hf.2, hPc (T.setVm vm₁) hT hW₁⟩) with ⟨v, vm₁, ⟨U', l2, c2, s2⟩, hW₁, X', ⟨g', mk, t, L, e1, e2, hq, h1, hL, h2, h3⟩, st⟩ | ⟨q, vm₁, ⟨U', l2, c2, s2⟩, hW₁, X', ⟨g', mk, t, L, E, ce, e1, e2, hq, hce, hcv, hcl, h1, hL, h2, h3⟩, st⟩
  · dsimp only [Pt.U, Pt.locs, Pt.cells, Pt.slots] at X' e1 e2 h1 h2 h3 st
    subst h1; subst h2; subst h3
    exact Or.inl ⟨v, (T.setVm vm₁).calling g' mk (Value.ref b :: As).toArray, t, U', L, hT, X', hL, e1, e2, hq, st⟩
  · dsimp only [Pt.U, Pt.locs, Pt.cells, Pt.slots] at X' e1 e2 h1 h2 h3 st hcl
    subst h1; subst h2; subst h3
    exact Or.inr ⟨q, (T.setVm vm₁).calling g' mk (Value.ref b :: As).toArray, t, U', L, E, ce, hT, X', hL, e1, e2, hq, hce, hcv, vx_cls hW₁ hcl, st⟩
theorem vx_runS (S : CallFix p m c cc nL s args Ts own) (hM : vx_Met l y ws rm Pc Qc XC mc ms free) (cw : CallB R s args own index y bytes maxL ret ws rm mc ms n ∧ (Cond.static y).before args s = true) (hp : PreS s H Pc As)
    (hg : g.method = m) (hn : As.length = n) (hsize : g.locals.size = nL) (hstack : g.stack = As.reverse ++ rest) (hW : 2 * g.monitorRoom + (rest.map fun v => v.category).sum ≤ 8) (hdg : decode cc g.pc = .ok (.invokestatic index, 3)) (hf : cells + mc ≤ R.cells ∧ slots + ms ≤ R.slots) :
    vx_Run p l e R s m args below meth c H locs cells slots mc ms g rest (Qc As.toArray) XC free := by
  have hK : vx_Back l R p e below s args y 3 8 (PreOf R mc ms Pc) (PostOf Qc mc ms free) (vx_Post XC mc ms free) := vx_callBack cw.1 hM hp.1
  obtain ⟨⟨-, -, -, -, -, -, hcode, hini, hy, hlen, hl⟩, hstt⟩ := cw
  obtain ⟨hx, hb, hml, ho, -⟩ := S
  intro T hT X
  rcases vx_callS X hx (bytes := bytes) (maxL := maxL) (ret := ret) ho hl hstt hini hcode hy hK hg (hsize.trans hml.symm) (argsL := As) (rest := rest) (fun sig h => hn.trans (hlen sig h)) hstack hW (by rw [hb]; exact hdg)
    (fun vm₁ hW₁ => ⟨hf.1, hf.2, hp.2 (T.setVm vm₁) hT hW₁⟩) with ⟨v, vm₁, ⟨U', l2, c2, s2⟩, hW₁, X', ⟨g', mk, t, L, e1, e2, hq, h1, hL, h2, h3⟩, st⟩ | ⟨q, vm₁, ⟨U', l2, c2, s2⟩, hW₁, X', ⟨g', mk, t, L, E, ce, e1, e2, hq, hce, hcv, hcl, h1, hL, h2, h3⟩, st⟩
  · dsimp only [Pt.U, Pt.locs, Pt.cells, Pt.slots] at X' e1 e2 h1 h2 h3 st
    subst h1; subst h2; subst h3
    exact Or.inl ⟨v, (T.setVm vm₁).calling g' mk As.toArray, t, U', L, hT, X', hL, e1, e2, hq, st⟩
  · dsimp only [Pt.U, Pt.locs, Pt.cells, Pt.slots] at X' e1 e2 h1 h2 h3 st hcl
    subst h1; subst h2; subst h3
    exact Or.inr ⟨q, (T.setVm vm₁).calling g' mk As.toArray, t, U', L, E, ce, hT, X', hL, e1, e2, hq, hce, hcv, vx_cls hW₁ hcl, st⟩
end Runs
section Rows
variable {p : Program} {l : Launch} {e : Env} {R : Room} {s : State} {m : MethodId} {args : Array Value} {below : List Frame} {meth : Method} {c : Code} {H : Heap} {locs : List Loc} {cells slots : Nat} {Q : State → Prop}
variable {mc ms : Nat} {free : Addr → Prop} {A0 A1 : Nat → Prop} {H0 : Heap} {a : Array Value} {pc : Nat} {ls : Array Slot} {st0 rest : List Value}
theorem vx_keep {st₀ t T' : State} {L : List Loc} (h0 : st₀.heap = H) (e1 : T'.heap = t.heap) (hS : va_S A0 H0 H locs) (hA : ∀ q, q < H.size → A1 q → A0 q) (hf : ∀ q, free q → A0 q) (hL : ∀ q ∈ L, free q.base) (hF : va_F A1 st₀ t) :
    H.size ≤ T'.heap.size ∧ (∀ q : Nat, q < H.size → ¬ A1 q → T'.heap[q]? = H[q]?) ∧ va_S A0 H0 T'.heap (locs ++ L) := by
  obtain ⟨hz, hk⟩ := hF
  rw [h0] at hz hk
  exact ⟨by rw [e1]; exact hz, fun q h1 h2 => by rw [e1]; exact hk q h1 h2,
    ⟨Nat.le_trans hS.1 (by rw [e1]; exact hz), fun q h1 h2 => by rw [e1, hk q (Nat.lt_of_lt_of_le h1 hS.1) (fun z => h2 (hA q (Nat.lt_of_lt_of_le h1 hS.1) z))]; exact hS.2.1 q h1 h2, fun q hq => by
      rcases List.mem_append.mp hq with h | h
      · exact hS.2.2 q h
      · exact hf _ (hL q h)⟩⟩
theorem vx_calli {S SX : Type} {post : Int32 → S → Prop} {px : SX → Prop} {B : S → State → Prop} {BX : String → SX → State → Prop} {AX : Nat → Prop} (hr : vx_Run p l e R s m args below meth c H locs cells slots mc ms (F0 m pc ls st0) rest (va_Qi post B A1 a) (vx_X px BX AX) free) (hS : va_S A0 H0 H locs) (hA : ∀ q, q < H.size → A1 q → A0 q) (hf : ∀ q, free q → A0 q) (hAX : ∀ q, q < H.size → AX q → A0 q)
    (kx : ∀ (E : String) (ce : Cell) (q9 : Addr) (u : SX) (t : State) (H1 : Heap) (locs1 : List Loc), t.heap = H1 → s.vm.Alike t.vm → px u → BX E u t → H.size ≤ H1.size → (∀ q : Nat, q < H.size → ¬ AX q → H1[q]? = H[q]?) → va_S A0 H0 H1 locs1 → H1[q9]? = some ce → ce.vm = .none → s.vm.findClass E = some ce.cls → vx_W p l e R s m args below meth c H1 locs1 (cells + mc) (slots + ms) Q (F0 m pc ls rest) q9)
    (kk : ∀ (r : Int32) (u : S) (t : State) (H1 : Heap) (locs1 : List Loc), t.heap = H1 → s.vm.Alike t.vm → post r u → B u t → H.size ≤ H1.size → (∀ q : Nat, q < H.size → ¬ A1 q → H1[q]? = H[q]?) → va_S A0 H0 H1 locs1 → W p l e R s m args below meth c H1 locs1 (cells + mc) (slots + ms) Q (F0 m (pc + 3) ls (.int r :: rest))) : W p l e R s m args below meth c H locs cells slots Q (F0 m pc ls st0) := by
  intro T hT X
  rcases hr T hT X with ⟨v, st₀, t, T', L, h0, X', hL, e1, e2, ⟨⟨r, u, hv, hp, hb⟩, hF⟩, st⟩ | ⟨q, st₀, t, T', L, E, ce, h0, X', hL, e1, e2, ⟨u, hp, hb, hF⟩, hce, hcv, hcl, st⟩
  · cases hv
    obtain ⟨k1, k2, k3⟩ := vx_keep h0 e1 hS hA hf hL hF
    obtain ⟨t2, a1, b1⟩ := kk r u t T'.heap (locs ++ L) e1.symm (by rw [← e2]; exact X'.warmed.alike) hp hb k1 k2 k3 T' rfl X'
    exact ⟨t2, st t2 a1, b1⟩
  · obtain ⟨k1, k2, k3⟩ := vx_keep h0 e1 hS hAX hf hL hF
    obtain ⟨t2, a1, b1⟩ := kx E ce q u t T'.heap (locs ++ L) e1.symm (by rw [← e2]; exact X'.warmed.alike) hp hb k1 k2 k3 (by rw [e1]; exact hce) hcv hcl T' rfl X'
    exact ⟨t2, st.trans a1, b1⟩
theorem vx_calll {S SX : Type} {post : Int64 → S → Prop} {px : SX → Prop} {B : S → State → Prop} {BX : String → SX → State → Prop} {AX : Nat → Prop} (hr : vx_Run p l e R s m args below meth c H locs cells slots mc ms (F0 m pc ls st0) rest (va_Ql post B A1 a) (vx_X px BX AX) free) (hS : va_S A0 H0 H locs) (hA : ∀ q, q < H.size → A1 q → A0 q) (hf : ∀ q, free q → A0 q) (hAX : ∀ q, q < H.size → AX q → A0 q)
    (kx : ∀ (E : String) (ce : Cell) (q9 : Addr) (u : SX) (t : State) (H1 : Heap) (locs1 : List Loc), t.heap = H1 → s.vm.Alike t.vm → px u → BX E u t → H.size ≤ H1.size → (∀ q : Nat, q < H.size → ¬ AX q → H1[q]? = H[q]?) → va_S A0 H0 H1 locs1 → H1[q9]? = some ce → ce.vm = .none → s.vm.findClass E = some ce.cls → vx_W p l e R s m args below meth c H1 locs1 (cells + mc) (slots + ms) Q (F0 m pc ls rest) q9)
    (kk : ∀ (r : Int64) (u : S) (t : State) (H1 : Heap) (locs1 : List Loc), t.heap = H1 → s.vm.Alike t.vm → post r u → B u t → H.size ≤ H1.size → (∀ q : Nat, q < H.size → ¬ A1 q → H1[q]? = H[q]?) → va_S A0 H0 H1 locs1 → W p l e R s m args below meth c H1 locs1 (cells + mc) (slots + ms) Q (F0 m (pc + 3) ls (.long r :: rest))) : W p l e R s m args below meth c H locs cells slots Q (F0 m pc ls st0) := by
  intro T hT X
  rcases hr T hT X with ⟨v, st₀, t, T', L, h0, X', hL, e1, e2, ⟨⟨r, u, hv, hp, hb⟩, hF⟩, st⟩ | ⟨q, st₀, t, T', L, E, ce, h0, X', hL, e1, e2, ⟨u, hp, hb, hF⟩, hce, hcv, hcl, st⟩
  · cases hv
    obtain ⟨k1, k2, k3⟩ := vx_keep h0 e1 hS hA hf hL hF
    obtain ⟨t2, a1, b1⟩ := kk r u t T'.heap (locs ++ L) e1.symm (by rw [← e2]; exact X'.warmed.alike) hp hb k1 k2 k3 T' rfl X'
    exact ⟨t2, st t2 a1, b1⟩
  · obtain ⟨k1, k2, k3⟩ := vx_keep h0 e1 hS hAX hf hL hF
    obtain ⟨t2, a1, b1⟩ := kx E ce q u t T'.heap (locs ++ L) e1.symm (by rw [← e2]; exact X'.warmed.alike) hp hb k1 k2 k3 (by rw [e1]; exact hce) hcv hcl T' rfl X'
    exact ⟨t2, st.trans a1, b1⟩
theorem vx_callf {S SX : Type} {post : UInt32 → S → Prop} {px : SX → Prop} {B : S → State → Prop} {BX : String → SX → State → Prop} {AX : Nat → Prop} (hr : vx_Run p l e R s m args below meth c H locs cells slots mc ms (F0 m pc ls st0) rest (va_Qf post B A1 a) (vx_X px BX AX) free) (hS : va_S A0 H0 H locs) (hA : ∀ q, q < H.size → A1 q → A0 q) (hf : ∀ q, free q → A0 q) (hAX : ∀ q, q < H.size → AX q → A0 q)
    (kx : ∀ (E : String) (ce : Cell) (q9 : Addr) (u : SX) (t : State) (H1 : Heap) (locs1 : List Loc), t.heap = H1 → s.vm.Alike t.vm → px u → BX E u t → H.size ≤ H1.size → (∀ q : Nat, q < H.size → ¬ AX q → H1[q]? = H[q]?) → va_S A0 H0 H1 locs1 → H1[q9]? = some ce → ce.vm = .none → s.vm.findClass E = some ce.cls → vx_W p l e R s m args below meth c H1 locs1 (cells + mc) (slots + ms) Q (F0 m pc ls rest) q9)
    (kk : ∀ (r : UInt32) (u : S) (t : State) (H1 : Heap) (locs1 : List Loc), t.heap = H1 → s.vm.Alike t.vm → post r u → B u t → H.size ≤ H1.size → (∀ q : Nat, q < H.size → ¬ A1 q → H1[q]? = H[q]?) → va_S A0 H0 H1 locs1 → W p l e R s m args below meth c H1 locs1 (cells + mc) (slots + ms) Q (F0 m (pc + 3) ls (.float r :: rest))) : W p l e R s m args below meth c H locs cells slots Q (F0 m pc ls st0) := by
  intro T hT X
  rcases hr T hT X with ⟨v, st₀, t, T', L, h0, X', hL, e1, e2, ⟨⟨r, u, hv, hp, hb⟩, hF⟩, st⟩ | ⟨q, st₀, t, T', L, E, ce, h0, X', hL, e1, e2, ⟨u, hp, hb, hF⟩, hce, hcv, hcl, st⟩
  · cases hv
    obtain ⟨k1, k2, k3⟩ := vx_keep h0 e1 hS hA hf hL hF
    obtain ⟨t2, a1, b1⟩ := kk r u t T'.heap (locs ++ L) e1.symm (by rw [← e2]; exact X'.warmed.alike) hp hb k1 k2 k3 T' rfl X'
    exact ⟨t2, st t2 a1, b1⟩
  · obtain ⟨k1, k2, k3⟩ := vx_keep h0 e1 hS hAX hf hL hF
    obtain ⟨t2, a1, b1⟩ := kx E ce q u t T'.heap (locs ++ L) e1.symm (by rw [← e2]; exact X'.warmed.alike) hp hb k1 k2 k3 (by rw [e1]; exact hce) hcv hcl T' rfl X'
    exact ⟨t2, st.trans a1, b1⟩
theorem vx_calld {S SX : Type} {post : UInt64 → S → Prop} {px : SX → Prop} {B : S → State → Prop} {BX : String → SX → State → Prop} {AX : Nat → Prop} (hr : vx_Run p l e R s m args below meth c H locs cells slots mc ms (F0 m pc ls st0) rest (va_Qd post B A1 a) (vx_X px BX AX) free) (hS : va_S A0 H0 H locs) (hA : ∀ q, q < H.size → A1 q → A0 q) (hf : ∀ q, free q → A0 q) (hAX : ∀ q, q < H.size → AX q → A0 q)
    (kx : ∀ (E : String) (ce : Cell) (q9 : Addr) (u : SX) (t : State) (H1 : Heap) (locs1 : List Loc), t.heap = H1 → s.vm.Alike t.vm → px u → BX E u t → H.size ≤ H1.size → (∀ q : Nat, q < H.size → ¬ AX q → H1[q]? = H[q]?) → va_S A0 H0 H1 locs1 → H1[q9]? = some ce → ce.vm = .none → s.vm.findClass E = some ce.cls → vx_W p l e R s m args below meth c H1 locs1 (cells + mc) (slots + ms) Q (F0 m pc ls rest) q9)
    (kk : ∀ (r : UInt64) (u : S) (t : State) (H1 : Heap) (locs1 : List Loc), t.heap = H1 → s.vm.Alike t.vm → post r u → B u t → H.size ≤ H1.size → (∀ q : Nat, q < H.size → ¬ A1 q → H1[q]? = H[q]?) → va_S A0 H0 H1 locs1 → W p l e R s m args below meth c H1 locs1 (cells + mc) (slots + ms) Q (F0 m (pc + 3) ls (.double r :: rest))) : W p l e R s m args below meth c H locs cells slots Q (F0 m pc ls st0) := by
  intro T hT X
  rcases hr T hT X with ⟨v, st₀, t, T', L, h0, X', hL, e1, e2, ⟨⟨r, u, hv, hp, hb⟩, hF⟩, st⟩ | ⟨q, st₀, t, T', L, E, ce, h0, X', hL, e1, e2, ⟨u, hp, hb, hF⟩, hce, hcv, hcl, st⟩
  · cases hv
    obtain ⟨k1, k2, k3⟩ := vx_keep h0 e1 hS hA hf hL hF
    obtain ⟨t2, a1, b1⟩ := kk r u t T'.heap (locs ++ L) e1.symm (by rw [← e2]; exact X'.warmed.alike) hp hb k1 k2 k3 T' rfl X'
    exact ⟨t2, st t2 a1, b1⟩
  · obtain ⟨k1, k2, k3⟩ := vx_keep h0 e1 hS hAX hf hL hF
    obtain ⟨t2, a1, b1⟩ := kx E ce q u t T'.heap (locs ++ L) e1.symm (by rw [← e2]; exact X'.warmed.alike) hp hb k1 k2 k3 (by rw [e1]; exact hce) hcv hcl T' rfl X'
    exact ⟨t2, st.trans a1, b1⟩
theorem vx_callv {S SX : Type} {post : S → Prop} {px : SX → Prop} {B : S → State → Prop} {BX : String → SX → State → Prop} {AX : Nat → Prop} (hr : vx_Run p l e R s m args below meth c H locs cells slots mc ms (F0 m pc ls st0) rest (va_Qv post B A1 a) (vx_X px BX AX) free) (hS : va_S A0 H0 H locs) (hA : ∀ q, q < H.size → A1 q → A0 q) (hf : ∀ q, free q → A0 q) (hAX : ∀ q, q < H.size → AX q → A0 q)
    (kx : ∀ (E : String) (ce : Cell) (q9 : Addr) (u : SX) (t : State) (H1 : Heap) (locs1 : List Loc), t.heap = H1 → s.vm.Alike t.vm → px u → BX E u t → H.size ≤ H1.size → (∀ q : Nat, q < H.size → ¬ AX q → H1[q]? = H[q]?) → va_S A0 H0 H1 locs1 → H1[q9]? = some ce → ce.vm = .none → s.vm.findClass E = some ce.cls → vx_W p l e R s m args below meth c H1 locs1 (cells + mc) (slots + ms) Q (F0 m pc ls rest) q9)
    (kk : ∀ (u : S) (t : State) (H1 : Heap) (locs1 : List Loc), t.heap = H1 → s.vm.Alike t.vm → post u → B u t → H.size ≤ H1.size → (∀ q : Nat, q < H.size → ¬ A1 q → H1[q]? = H[q]?) → va_S A0 H0 H1 locs1 → W p l e R s m args below meth c H1 locs1 (cells + mc) (slots + ms) Q (F0 m (pc + 3) ls (rest))) : W p l e R s m args below meth c H locs cells slots Q (F0 m pc ls st0) := by
  intro T hT X
  rcases hr T hT X with ⟨v, st₀, t, T', L, h0, X', hL, e1, e2, ⟨⟨u, hv, hp, hb⟩, hF⟩, st⟩ | ⟨q, st₀, t, T', L, E, ce, h0, X', hL, e1, e2, ⟨u, hp, hb, hF⟩, hce, hcv, hcl, st⟩
  · cases hv
    obtain ⟨k1, k2, k3⟩ := vx_keep h0 e1 hS hA hf hL hF
    obtain ⟨t2, a1, b1⟩ := kk u t T'.heap (locs ++ L) e1.symm (by rw [← e2]; exact X'.warmed.alike) hp hb k1 k2 k3 T' rfl X'
    exact ⟨t2, st t2 a1, b1⟩
  · obtain ⟨k1, k2, k3⟩ := vx_keep h0 e1 hS hAX hf hL hF
    obtain ⟨t2, a1, b1⟩ := kx E ce q u t T'.heap (locs ++ L) e1.symm (by rw [← e2]; exact X'.warmed.alike) hp hb k1 k2 k3 (by rw [e1]; exact hce) hcv hcl T' rfl X'
    exact ⟨t2, st.trans a1, b1⟩
/-- caught by the row x of this method's table; the rows ahead don't take it -/
theorem vx_catch {own name : String} {E : String} {ce : Cell} {q : Addr} (hown : s.vm.findClass own = some m.cls) (pre : List ExceptionTableEntry) (x : ExceptionTableEntry) (suf : List ExceptionTableEntry) (hsplit : c.exceptionTable.toList = pre ++ x :: suf)
    (hpass : ∀ z ∈ pre, covers z pc = false ∨ (z.catchType ≠ 0 ∧ ∃ nm : String, (Cond.classLink own z.catchType nm).before args s = true ∧ va_Nc E nm s)) (hx : covers x pc = true) (h0 : x.catchType ≠ 0)
    (hlink : (Cond.classLink own x.catchType name).before args s = true) (hcast : (Cond.castable E name).before args s = true) (hcell : H[q]? = some ce) (hv : ce.vm = .none) (hcl : s.vm.findClass E = some ce.cls)
    (kk : W p l e R s m args below meth c H locs cells slots Q (F0 m x.handlerPc ls [.ref q])) : vx_W p l e R s m args below meth c H locs cells slots Q (F0 m pc ls rest) q := by
  intro T hT X
  have hpl : e.platform.magicAccessors = ({} : Platform).magicAccessors := by rw [X.admits.platform]
  obtain ⟨c3, c4, hc3, hc4, hasg⟩ := Cond.castable_spec hcast
  cases Option.some.inj (hc3.symm.trans hcl)
  obtain ⟨c5, hc5, hcl5⟩ := Cond.classLink_spec hown hlink e.platform hpl
  cases Option.some.inj (hc4.symm.trans hc5)
  obtain ⟨vm', X', st⟩ := X.thenCaughtThrough q (g := F0 m pc ls rest) rfl (Steps.refl _) (by rw [hT]; exact hcell) (by rw [hv]; rfl) (by obtain ⟨k9, h9, -⟩ := Vm.findClass_spec hcl; exact ⟨k9, h9⟩) pre x suf hsplit
    (fun z hz => by
      rcases hpass z hz with h | ⟨hz0, nm, hl1, hn1⟩
      · exact Or.inl h
      · obtain ⟨c6, hc6, hcl6⟩ := Cond.classLink_spec hown hl1 e.platform hpl
        obtain ⟨a8, b8, h1, h2, h3⟩ := hn1
        cases Option.some.inj (h1.symm.trans hcl)
        cases Option.some.inj (h2.symm.trans hc6)
        exact Or.inr ⟨hz0, _, hcl6, h3⟩) hx (Or.inr ⟨h0, c4, hcl5, hasg⟩)
  obtain ⟨t, a1, b1⟩ := kk (T.setVm vm') hT X'
  exact ⟨t, st.trans a1, b1⟩
end Rows
section Ends
variable {p : Program} {l : Launch} {e : Env} {R : Room} {s : State} {m : MethodId} {args : Array Value} {below : List Frame} {meth : Method} {c : Code} {H : Heap} {locs : List Loc} {cells slots : Nat} {Q : State → Prop}
variable {mc ms : Nat} {free : Addr → Prop} {A0 A1 : Nat → Prop} {H0 : Heap} {a : Array Value} {ls : Array Slot} {st0 rest : List Value}
variable {Qc : Array Value → State → Outcome → State → Prop} {XC : String → State → State → Prop}
/-- what a body that may throw owes at its end -/
def vx_MQ (below : List Frame) (Qc : Array Value → State → Outcome → State → Prop) (XC : String → State → State → Prop) (a : Array Value) (s : State) (mc ms : Nat) (free : Addr → Prop) : State → Prop := fun t =>
  ∃ o, t.status = .running ∧ Ended t below o ∧ vx_Q Qc XC mc ms free a s o t
theorem vx_ret {g : JFrame} {mc ms : Nat} (k : W p l e R s m args below meth c H locs cells slots (MQ below Qc args s mc ms free) g) : W p l e R s m args below meth c H locs cells slots (vx_MQ below Qc XC args s mc ms free) g := by
  intro T hT X
  obtain ⟨t, a1, o, b1, b2, b3, b4⟩ := k T hT X
  exact ⟨t, a1, o, b1, b2, Or.inl ⟨b3, b4⟩⟩
/-- not caught here: it goes on to the caller -/
theorem vx_widen {g : JFrame} {q : Addr} {k n : Nat} (h1 : cells ≤ k) (h2 : slots ≤ n) (kk : vx_W p l e R s m args below meth c H locs k n Q g q) : vx_W p l e R s m args below meth c H locs cells slots Q g q := fun T hT X => kk T hT (stand_widen X h1 h2)
theorem vx_out {pc : Nat} {E : String} {ce : Cell} {q : Addr} {mc ms : Nat} (hout : ∀ x ∈ c.exceptionTable.toList, covers x pc = false) (hlocks : meth.locks = false) (hcell : H[q]? = some ce) (hv : ce.vm = .none) (hcl : s.vm.findClass E = some ce.cls)
    (hx : ∀ t : State, t.heap = H → s.vm.Alike t.vm → XC E s t) (hf : ∀ z ∈ locs, free z.base) (hc : cells ≤ mc) (hs : slots ≤ ms) :
    vx_W p l e R s m args below meth c H locs cells slots (vx_MQ below Qc XC args s mc ms free) (F0 m pc ls rest) q := by
  intro T hT X
  obtain ⟨st1, hrun, hend, hW, hsm⟩ := X.leaveThrown q (g := F0 m pc ls rest) rfl rfl rfl hout hlocks
  have hcell9 : (T.setFrames (.throwing q :: below)).heap[q]? = some ce := by
    show T.heap[q]? = some ce
    rw [hT]; exact hcell
  exact ⟨_, st1, .threw q, hrun, hend, Or.inr ⟨q, rfl, E, ce, locs, hx _ hT hW.alike, hcell9, hv, hcl, hW, hsm.mono hc hs, hf⟩⟩
theorem vx_frame {U : State} {k n : Nat} (h : s.sameButNew ({ U with vm := s.vm } : State) locs k n) : s.heap.size ≤ U.heap.size ∧ ∀ q : Nat, q < s.heap.size → (∀ z ∈ locs, z.base ≠ q) → U.heap[q]? = s.heap[q]? := by
  obtain ⟨-, h2, -, -, -, h6⟩ := h
  refine ⟨h2, fun q hq hz => ?_⟩
  obtain ⟨c9, e1, e2, e3, e4⟩ := h6 q _ (Array.getElem?_eq_getElem hq)
  have hs : c9.slots = (s.heap[q]).slots := Array.ext_getElem? fun i => e4 i fun hm => hz _ hm rfl
  have h9 : c9 = s.heap[q] := by
    rw [hs] at e2
    exact e2
  have e5 : U.heap[q]? = some c9 := e1
  rw [e5, h9, Array.getElem?_eq_getElem hq]
/-- the words of a throw but the four that speak of the heap -/
def vx_no (w : Cond) : Bool := decide (w ≠ .isRef (.static Bundle.tN "UNASSIGNED_STACK" Bundle.steD)) && decide (w ≠ .isRef (.static Bundle.tN "SUPPRESSED_SENTINEL" Bundle.listD)) && decide (w ≠ .laysStatic Bundle.tN "UNASSIGNED_STACK" Bundle.steD) && decide (w ≠ .laysStatic Bundle.tN "SUPPRESSED_SENTINEL" Bundle.listD)
def vx_at0 (own : String) (ic : Nat) (X : String) (names : List String) : List Cond := (Bundle.ownAtoms0 own ic X names).filter vx_no
def vx_atS (own : String) (ic : Nat) (X : String) (names : List String) : List Cond := (Bundle.ownAtoms own ic X names).filter vx_no
/-- a word that the tables alone decide, or a good one -/
def vx_ot (w : Cond) : Bool := w.onTables || goodWord w
theorem vx_ot_at {args a' : Array Value} {s U : State} {w : Cond} (hW : s.WarmedH U.vm) (hvm : s.vm = U.vm) (hg : vx_ot w = true) (h : w.before args s = true) : w.before a' U = true := by
  simp only [vx_ot, Bool.or_eq_true] at hg
  rcases hg with hg | hg
  · exact va_tabs hg hvm h
  · exact word_at hW (good_of_word hg) h
/-- a list's words: the good ones out of the method's own list, the others by premises of their own -/
theorem vx_hat {args : Array Value} {s : State} {L B : List Cond} (h1 : ∀ w ∈ L.filter goodWord, w.before args s = true) (h2 : ∀ w ∈ L.filter (fun w => !goodWord w), w ∈ B) (h3 : ∀ w ∈ B, w.before args s = true) : ∀ w ∈ L, w.before args s = true := by
  intro w hw
  by_cases g : goodWord w = true
  · exact h1 w (List.mem_filter.mpr ⟨hw, g⟩)
  · refine h3 w (h2 w (List.mem_filter.mpr ⟨hw, ?_⟩))
    show (!goodWord w) = true
    cases hgw : goodWord w
    · rfl
    · exact absurd hgw g
theorem vx_c {args : Array Value} {s : State} {w : Cond} {B : List Cond} (h : w.before args s = true) (t : ∀ w ∈ B, w.before args s = true) : ∀ w' ∈ w :: B, w'.before args s = true := fun w' h' => (List.mem_cons.mp h').elim (fun e => by rw [e]; exact h) (t w')
theorem vx_n {args : Array Value} {s : State} : ∀ w ∈ ([] : List Cond), w.before args s = true := fun _ h => nomatch h
theorem vx_own {args : Array Value} {s : State} {L : List Cond} (h1 : ∀ w ∈ L.filter vx_no, w.before args s = true)
    (hU : (Cond.isRef (.static Bundle.tN "UNASSIGNED_STACK" Bundle.steD)).before args s = true) (hN : (Cond.isRef (.static Bundle.tN "SUPPRESSED_SENTINEL" Bundle.listD)).before args s = true)
    (lU : (Cond.laysStatic Bundle.tN "UNASSIGNED_STACK" Bundle.steD).before args s = true) (lN : (Cond.laysStatic Bundle.tN "SUPPRESSED_SENTINEL" Bundle.listD).before args s = true) : ∀ w ∈ L, w.before args s = true := by
  intro w hw
  by_cases e1 : w = .isRef (.static Bundle.tN "UNASSIGNED_STACK" Bundle.steD)
  · rw [e1]; exact hU
  · by_cases e2 : w = .isRef (.static Bundle.tN "SUPPRESSED_SENTINEL" Bundle.listD)
    · rw [e2]; exact hN
    · by_cases e3 : w = .laysStatic Bundle.tN "UNASSIGNED_STACK" Bundle.steD
      · rw [e3]; exact lU
      · by_cases e4 : w = .laysStatic Bundle.tN "SUPPRESSED_SENTINEL" Bundle.listD
        · rw [e4]; exact lN
        · exact h1 w (List.mem_filter.mpr ⟨hw, by unfold vx_no; rw [decide_eq_true e1, decide_eq_true e2, decide_eq_true e3, decide_eq_true e4]; rfl⟩)
/-- where a static field lies, its class's statics cell in H -/
def vx_L (C n d : String) (A : Nat → Prop) (U : State) (H : Heap) : Prop := ∃ (c : ClassId) (k : Class) (i : Nat) (f : Field) (a : Nat) (cell : Cell), U.vm.findClass C = some c ∧ U.fieldFound? C n d = some (c, k, i, f) ∧ f.isStatic = true ∧ k.statics = some a ∧ H[a]? = some cell ∧ cell.vm.isStatics = true ∧ cell.cls = c ∧ f.slot < cell.slots.size ∧ k.staticTypes[f.slot]? = some f.type ∧ ¬ A a
theorem vx_L.moved {C n d : String} {A : Nat → Prop} {u U : State} {H : Heap} (hvm : u.vm.Alike U.vm) (h : vx_L C n d A u H) : vx_L C n d A U H := by
  obtain ⟨c, k, i, f, a, cell, h1, h2, h3, h4, h5, h6, h7, h8, h9, h10⟩ := h
  obtain ⟨k', hi', he⟩ := State.fieldFound?_setVm hvm h2
  exact ⟨c, k', i, f, a, cell, by rw [hvm.findClass]; exact h1, hi', h3, by rw [he]; exact h4, h5, h6, h7, h8, by rw [he]; exact h9, h10⟩
theorem vx_L.kept {C n d : String} {A : Nat → Prop} {U : State} {H H1 : Heap} (h : vx_L C n d A U H) (hq : ∀ a : Nat, a < H.size → ¬ A a → H1[a]? = H[a]?) : vx_L C n d A U H1 := by
  obtain ⟨c, k, i, f, a, cell, h1, h2, h3, h4, h5, h6, h7, h8, h9, h10⟩ := h
  exact ⟨c, k, i, f, a, cell, h1, h2, h3, h4, by rw [hq a (Array.getElem?_eq_some_iff.mp h5).1 h10]; exact h5, h6, h7, h8, h9, h10⟩
theorem vx_L.narrow {C n d : String} {A B : Nat → Prop} {U : State} {H : Heap} (h : vx_L C n d A U H) (hAB : ∀ q, B q → A q) : vx_L C n d B U H := by
  obtain ⟨c, k, i, f, a, cell, h1, h2, h3, h4, h5, h6, h7, h8, h9, h10⟩ := h
  exact ⟨c, k, i, f, a, cell, h1, h2, h3, h4, h5, h6, h7, h8, h9, fun z => h10 (hAB _ z)⟩
theorem vx_L.word {C n d : String} {A : Nat → Prop} {s : State} {args : Array Value} (h : vx_L C n d A s s.heap) : (Cond.laysStatic C n d).before args s = true := by
  obtain ⟨c, k, i, f, a, cell, h1, h2, h3, h4, h5, h6, h7, h8, h9, -⟩ := h
  show (Cond.laysStatic C n d).holds args s none s [] = true
  exact Cond.laysStatic_of h1 h2 h3 h4 h5 h6 h7 h8 h9
/-- .. and what it holds: null or some reference -/
def vx_Zq (C n d : String) (A : Nat → Prop) (U : State) (H : Heap) : Prop := va_Zq C n d A U H ∧ vx_L C n d A U H
theorem vx_Zq.moved {C n d : String} {A : Nat → Prop} {u U : State} {H : Heap} (hvm : u.vm.Alike U.vm) (h : vx_Zq C n d A u H) : vx_Zq C n d A U H := ⟨va_Zq.moved hvm h.1, vx_L.moved hvm h.2⟩
theorem vx_Zq.kept {C n d : String} {A : Nat → Prop} {U : State} {H H1 : Heap} (h : vx_Zq C n d A U H) (hq : ∀ a : Nat, a < H.size → ¬ A a → H1[a]? = H[a]?) : vx_Zq C n d A U H1 := ⟨va_Zq.kept h.1 hq, vx_L.kept h.2 hq⟩
theorem vx_Zq.narrow {C n d : String} {A B : Nat → Prop} {U : State} {H : Heap} (h : vx_Zq C n d A U H) (hAB : ∀ q, B q → A q) : vx_Zq C n d B U H := ⟨va_Zq.narrow h.1 hAB, vx_L.narrow h.2 hAB⟩
theorem vx_Zqof {args : Array Value} {s : State} {C n d : String} {A : Nat → Prop} (hl : (Cond.laysStatic C n d).before args s = true) (hini : (Cond.initialized C).before args s = true) (h : (Cond.isRef (.static C n d)).before args s = true) (hA : ∀ a : Nat, a < s.heap.size → ¬ A a) : vx_Zq C n d A s s.heap := by
  refine ⟨va_Zqof hl hini h hA, ?_⟩
  obtain ⟨c, k, i, f, a, cell, h1, h2, h3, h4, h5, h6, h7, h8, h9⟩ := Cond.laysStatic_spec hl
  exact ⟨c, k, i, f, a, cell, h1, h2, h3, h4, h5, h6, h7, h8, h9, hA a (Array.getElem?_eq_some_iff.mp h5).1⟩
theorem vx_isRef {C n d : String} {v : Value} {A : Nat → Prop} {s : State} {args : Array Value} (h : va_Z C n d v A s s.heap) (hv : v.isRef = true) : (Cond.isRef (.static C n d)).before args s = true := by
  obtain ⟨cf, kf, fi, f, a, cell, h1, h2, h3, h4, h5, h6, h7, -⟩ := h
  have he : (Term.static C n d).eval args s none [] s = some v := by
    simp [Term.eval, State.fieldNamed?, h1, h2, h4, h5, h6, h7]
  simp only [Cond.before, Cond.holds, Cond.value, he]
  cases v <;> simp_all [Value.isRef]
theorem vx_isRefq {C n d : String} {A : Nat → Prop} {s : State} {args : Array Value} (h : va_Zq C n d A s s.heap) : (Cond.isRef (.static C n d)).before args s = true := by
  rcases h with h | ⟨t, h⟩
  · exact vx_isRef h rfl
  · exact vx_isRef h rfl
/-- the same frame, seen from here: as if the method were called anew in this heap -/
theorem vx_rebase {T : State} (X : Stand p l e R s m args below meth c T locs cells slots) {R' : Room} (hf : R'.frames ≤ R.frames) (hl : R'.locals ≤ R.locals) (hc : cells + R'.cells ≤ R.cells) (hs : slots + R'.slots ≤ R.slots) :
    Stand p l e R' ((T.setVm s.vm).setFrames (.invoking m args :: below)) m args below meth c T [] 0 0 := by
  have htop : (T.setVm s.vm).topJava?.isSome := X.here.top
  have hF : ((T.setVm s.vm).setFrames (.invoking m args :: below)).frames = .invoking m args :: below := State.frames_setFrames _ (State.cur_lt_of_top htop)
  obtain ⟨g₀, hg0⟩ := Option.isSome_iff_exists.mp htop
  obtain ⟨r, hr⟩ := State.topJava?_eq_some.mp hg0
  have hl9 : e.platform.stackLimits (T.setVm s.vm).me = e.platform.stackLimits s.me := X.limits
  have hb9 : (T.setVm s.vm).me.stackBytes = s.me.stackBytes := X.bytes
  refine ⟨X.admits, X.cas, X.clock, hF, ?_, X.hears, X.method, X.code, X.here, X.tail, X.warmed, ?_, ?_, ?_⟩
  · have h := X.room
    have hU : ((T.setVm s.vm).setFrames (.invoking m args :: below)).localsInUse = s.localsInUse := by
      rw [State.localsInUse_invoking hF (meth := meth) (c := c) X.method X.code, State.localsInUse_invoking X.frames X.method X.code]
    simp only [State.hasRoom, Bool.and_eq_true, decide_eq_true_eq] at h ⊢
    obtain ⟨⟨⟨⟨h1, h2, h3, h4, h5, h6⟩, h7⟩, h8⟩, h9⟩ := h
    rw [X.frames, List.length_cons] at h2 h3
    have q1 := X.heapSize
    have q2 := X.used
    simp only [hF, hU, List.length_cons, State.stackLimits_setFrames, State.stackBytes_setFrames, hl9, hb9]
    refine ⟨⟨⟨⟨by omega, by omega, by omega, by omega, by omega, h6⟩, ?_⟩, ?_⟩, X.book⟩
    · show T.heap.size + R'.cells ≤ e.platform.maxCells
      omega
    · show T.slotsUsed + R'.slots ≤ e.platform.maxSlots
      omega
  · rw [State.stackLimits_setFrames]; rfl
  · rw [State.stackBytes_setFrames]; rfl
  · refine ⟨?_, Nat.le_refl _, Nat.le_refl _, ?_, ?_, fun a c9 h9 => ⟨c9, h9, rfl, rfl, fun _ _ => rfl⟩⟩
    · obtain ⟨t, ht, -⟩ := State.frames_cons hr
      show T.setVm s.vm = { ((T.setVm s.vm).setFrames (.invoking m args :: below)).setFrames (T.setVm s.vm).frames with heap := T.heap, slotsUsed := T.slotsUsed }
      rw [State.setFrames_setFrames, State.setFrames_self ht]
      rfl
    · show T.slotsUsed = T.slotsUsed + ((T.heap.toList.drop T.heap.size).map (·.slots.size)).sum
      rw [List.drop_eq_nil_of_le (Nat.le_of_eq Array.length_toList)]
      rfl
    · show ((T.heap.toList.drop T.heap.size).map (·.slots.size)).sum ≤ 0
      rw [List.drop_eq_nil_of_le (Nat.le_of_eq Array.length_toList)]
      exact Nat.le_refl _
/-- 'throw new E()': new; dup; invokespecial; athrow -/
theorem vx_throw0 {cc : ByteArray} {pc : Nat} (hexec : p.tables.exec = Jvm.exec) (hb : c.code = cc) (hl : l.stackTraces = false) {own cls : String} {names : List String} {ik ic mc ms : Nat} {A : Nat → Prop}
    (hown : s.vm.findClass own = some m.cls) (hcls : Bundle.fit cls = true) (hnames : ∀ n ∈ names, Bundle.fit n = true)
    (hk : (Cond.classLink own ik cls).before args s = true) (hini : (Cond.initialized cls).before args s = true) (hat : ∀ w ∈ vx_at0 own ic cls names, w.before args s = true)
    (hgood : ∀ w ∈ Cond.classLink own ik cls :: Cond.initialized cls :: vx_at0 own ic cls names, vx_ot w = true)
    (hU : vx_Zq Bundle.tN "UNASSIGNED_STACK" Bundle.steD A s s.heap) (hN : vx_Zq Bundle.tN "SUPPRESSED_SENTINEL" Bundle.listD A s s.heap) (hS : va_S A s.heap H locs) (hsize : ls.size = c.maxLocals)
    (d0 : decode cc pc = .ok (.new ik, 3)) (d3 : decode cc (pc + 3) = .ok (.dup, 1)) (d4 : decode cc (pc + 4) = .ok (.invokespecial ic, 3)) (d7 : decode cc (pc + 7) = .ok (.athrow, 1))
    (hout : ∀ x ∈ c.exceptionTable.toList, covers x (pc + 7) = false)
    (hRframes : names.length + 3 < R.frames) (hRlocals : (rest.map fun v => v.category).sum + (13 * (names.length + 1) + 42) ≤ R.locals) (hRcells : cells + 1 ≤ R.cells) (hRslots : slots + 6 ≤ R.slots) (hlocks : meth.locks = false)
    (hx : ∀ t : State, s.vm.Alike t.vm → H.size ≤ t.heap.size → (∀ q : Nat, q < H.size → t.heap[q]? = H[q]?) → XC cls s t)
    (hf : ∀ z ∈ locs, free z.base) (hc : cells + 1 ≤ mc) (hs : slots + 6 ≤ ms) :
    W p l e R s m args below meth c H locs cells slots (vx_MQ below Qc XC args s mc ms free) (F0 m pc ls rest) := by
  intro T hT X
  have htr : e.platform.stackTraces = false := (show e.platform.stackTraces = l.stackTraces by rw [X.admits.platform]).trans hl
  have Y := vx_rebase X (R' := { frames := R.frames, locals := R.locals, cells := 1, slots := 6 }) (Nat.le_refl _) (Nat.le_refl _) hRcells hRslots
  obtain ⟨s', hA⟩ : ∃ z, z = (T.setVm s.vm).setFrames (.invoking m args :: below) := ⟨_, rfl⟩
  rw [← hA] at Y
  have hvm : s'.vm = s.vm := by rw [hA]; rfl
  have hhp : s'.heap = H := by rw [hA]; exact hT
  have hW0 : s.WarmedH s'.vm := by rw [hvm]; exact State.WarmedH.refl s
  have hat' : ∀ w ∈ vx_at0 own ic cls names, w.before args s' = true := fun w hw => vx_ot_at hW0 hvm.symm (hgood w (List.mem_cons_of_mem _ (List.mem_cons_of_mem _ hw))) (hat w hw)
  have hk' : (Cond.classLink own ik cls).before args s' = true := vx_ot_at hW0 hvm.symm (hgood _ List.mem_cons_self) hk
  have hini' : (Cond.initialized cls).before args s' = true := vx_ot_at hW0 hvm.symm (hgood _ (List.mem_cons_of_mem _ List.mem_cons_self)) hini
  have hU' : vx_Zq Bundle.tN "UNASSIGNED_STACK" Bundle.steD A s' s'.heap := by rw [hhp]; exact vx_Zq.moved hW0.alike (hU.kept hS.2.1)
  have hN' : vx_Zq Bundle.tN "SUPPRESSED_SENTINEL" Bundle.listD A s' s'.heap := by rw [hhp]; exact vx_Zq.moved hW0.alike (hN.kept hS.2.1)
  have h : ∀ w ∈ Bundle.ownAtoms0 own ic cls names, w.before args s' = true := vx_own hat' (vx_isRefq hU'.1) (vx_isRefq hN'.1) hU'.2.word hN'.2.word
  have hown' : s'.vm.findClass own = some m.cls := by rw [hvm]; exact hown
  have hins : (Cond.instantiable cls 6).before args s' = true := h _ (by simp [Bundle.ownAtoms0])
  obtain ⟨vm₁, cX, kX, hfX, hkX, -, -, X₁, st1⟩ := Y.newCold hexec (own := own) (C := cls) (index := ik) (n := 6) hown' hk' hins hini'
    (g := F0 m pc ls rest) rfl (by rw [hb]; exact d0) (Nat.le_refl _) (Nat.le_refl _)
  generalize hT1 : (T.setVm vm₁).pushCell { cls := cX, slots := kX.instanceTypes.map defaultValue, vm := .none } = T1 at X₁ st1
  have hcat : (Value.ref T.heap.size).category = 1 := rfl
  have hcellA : T1.heap[T.heap.size]? = some (freshCell cX kX) := by rw [← hT1]; exact State.heap_pushCell_size _ _
  have d3' : decode c.code (pc + 3) = .ok (.dup, 1) := by rw [hb]; exact d3
  obtain ⟨U, hsteps, hrun, hend, hW, hsame, ce, hce, hO⟩ := X₁.ctorThrow0 hexec htr (own := own) (cls := cls) (names := names) (ic := ic) hown' hcls hnames h (fun x hx => nomatch hx) hfX hkX hcellA (by rw [hhp, hT]; exact Nat.le_refl _)
    (g := { method := m, pc := pc + 4, locals := ls, stack := .ref T.heap.size :: .ref T.heap.size :: rest, locked := none }) rfl hsize rfl rfl (rest := rest) rfl
    (by rw [hb]; exact d4) (by rw [hb]; exact d7) hout hRframes (by simp only [List.map_cons, List.sum_cons, hcat]; omega) hlocks
  obtain ⟨f1, f2⟩ := vx_frame hsame
  rw [hhp] at f1 f2
  have hWs : s.WarmedH U.vm := State.WarmedH.trans hW0 hW
  have hcl : s.vm.findClass cls = some ce.cls := by
    have h9 := hO.cls
    rw [hvm] at h9
    exact h9
  have hall : s.sameButNew ({ U with vm := s.vm } : State) locs mc ms := by
    subst hA
    obtain ⟨e1, e2⟩ := hsame
    rw [State.setFrames_setFrames] at e1
    have h2 : (T.setVm s.vm).sameButNew ({ U with vm := s.vm } : State) [] (0 + 1) (0 + 6) := ⟨e1, e2⟩
    have h3 := X.same.trans h2
    rw [List.append_nil] at h3
    exact h3.mono hc hs
  refine ⟨U, ?_, .threw T.heap.size, hrun, hend, Or.inr ⟨T.heap.size, rfl, cls, ce, locs, hx U hWs.alike f1 (fun q hq => f2 q hq (fun z hz => nomatch hz)), hce, hO.vm, hcl, hWs, hall, hf⟩⟩
  refine st1 _ ?_
  show Steps p.tables e below (T1.setTop { method := m, pc := pc + 3, locals := ls, stack := .ref T.heap.size :: rest, locked := none }) _
  jvm_step X₁.here [X₁.here.top, hexec, d3', Value.category]
  exact hsteps
/-- 'throw new E("text")': new; dup; ldc; invokespecial; athrow -/
theorem vx_throwS {cc : ByteArray} {pc : Nat} (hexec : p.tables.exec = Jvm.exec) (hb : c.code = cc) (hl : l.stackTraces = false) {own cls text : String} {names : List String} {ik is ic mc ms sa : Nat} {A : Nat → Prop}
    (hown : s.vm.findClass own = some m.cls) (hcls : Bundle.fit cls = true) (hnames : ∀ n ∈ names, Bundle.fit n = true)
    (hk : (Cond.classLink own ik cls).before args s = true) (hini : (Cond.initialized cls).before args s = true) (hstr : vk_R own is text sa s) (hat : ∀ w ∈ vx_atS own ic cls names, w.before args s = true)
    (hgood : ∀ w ∈ Cond.classLink own ik cls :: Cond.initialized cls :: vx_atS own ic cls names, vx_ot w = true)
    (hU : vx_Zq Bundle.tN "UNASSIGNED_STACK" Bundle.steD A s s.heap) (hN : vx_Zq Bundle.tN "SUPPRESSED_SENTINEL" Bundle.listD A s s.heap) (hS : va_S A s.heap H locs) (hsize : ls.size = c.maxLocals)
    (d0 : decode cc pc = .ok (.new ik, 3)) (d3 : decode cc (pc + 3) = .ok (.dup, 1)) (d4 : decode cc (pc + 4) = .ok (.ldc is, 2)) (d6 : decode cc (pc + 6) = .ok (.invokespecial ic, 3)) (d9 : decode cc (pc + 9) = .ok (.athrow, 1))
    (hout : ∀ x ∈ c.exceptionTable.toList, covers x (pc + 9) = false)
    (hRframes : names.length + 3 < R.frames) (hRlocals : (rest.map fun v => v.category).sum + (13 * (names.length + 1) + 43) ≤ R.locals) (hRcells : cells + 1 ≤ R.cells) (hRslots : slots + 6 ≤ R.slots) (hlocks : meth.locks = false)
    (hx : ∀ t : State, s.vm.Alike t.vm → H.size ≤ t.heap.size → (∀ q : Nat, q < H.size → t.heap[q]? = H[q]?) → XC cls s t)
    (hf : ∀ z ∈ locs, free z.base) (hc : cells + 1 ≤ mc) (hs : slots + 6 ≤ ms) :
    W p l e R s m args below meth c H locs cells slots (vx_MQ below Qc XC args s mc ms free) (F0 m pc ls rest) := by
  intro T hT X
  have htr : e.platform.stackTraces = false := (show e.platform.stackTraces = l.stackTraces by rw [X.admits.platform]).trans hl
  have Y := vx_rebase X (R' := { frames := R.frames, locals := R.locals, cells := 1, slots := 6 }) (Nat.le_refl _) (Nat.le_refl _) hRcells hRslots
  obtain ⟨s', hA⟩ : ∃ z, z = (T.setVm s.vm).setFrames (.invoking m args :: below) := ⟨_, rfl⟩
  rw [← hA] at Y
  have hvm : s'.vm = s.vm := by rw [hA]; rfl
  have hhp : s'.heap = H := by rw [hA]; exact hT
  have hW0 : s.WarmedH s'.vm := by rw [hvm]; exact State.WarmedH.refl s
  have hat' : ∀ w ∈ vx_atS own ic cls names, w.before args s' = true := fun w hw => vx_ot_at hW0 hvm.symm (hgood w (List.mem_cons_of_mem _ (List.mem_cons_of_mem _ hw))) (hat w hw)
  have hk' : (Cond.classLink own ik cls).before args s' = true := vx_ot_at hW0 hvm.symm (hgood _ List.mem_cons_self) hk
  have hini' : (Cond.initialized cls).before args s' = true := vx_ot_at hW0 hvm.symm (hgood _ (List.mem_cons_of_mem _ List.mem_cons_self)) hini
  have hU' : vx_Zq Bundle.tN "UNASSIGNED_STACK" Bundle.steD A s' s'.heap := by rw [hhp]; exact vx_Zq.moved hW0.alike (hU.kept hS.2.1)
  have hN' : vx_Zq Bundle.tN "SUPPRESSED_SENTINEL" Bundle.listD A s' s'.heap := by rw [hhp]; exact vx_Zq.moved hW0.alike (hN.kept hS.2.1)
  have h : ∀ w ∈ Bundle.ownAtoms own ic cls names, w.before args s' = true := vx_own hat' (vx_isRefq hU'.1) (vx_isRefq hN'.1) hU'.2.word hN'.2.word
  have hown' : s'.vm.findClass own = some m.cls := by rw [hvm]; exact hown
  have hins : (Cond.instantiable cls 6).before args s' = true := h _ (by simp [Bundle.ownAtoms])
  obtain ⟨vm₁, cX, kX, hfX, hkX, -, -, X₁, st1⟩ := Y.newCold hexec (own := own) (C := cls) (index := ik) (n := 6) hown' hk' hins hini'
    (g := F0 m pc ls rest) rfl (by rw [hb]; exact d0) (Nat.le_refl _) (Nat.le_refl _)
  generalize hT1 : (T.setVm vm₁).pushCell { cls := cX, slots := kX.instanceTypes.map defaultValue, vm := .none } = T1 at X₁ st1
  have hcat : (Value.ref T.heap.size).category = 1 := rfl
  have hcellA : T1.heap[T.heap.size]? = some (freshCell cX kX) := by rw [← hT1]; exact State.heap_pushCell_size _ _
  have d3' : decode c.code (pc + 3) = .ok (.dup, 1) := by rw [hb]; exact d3
  have d4' : decode c.code (pc + 4) = .ok (.ldc is, 2) := by rw [hb]; exact d4
  have hstr' : vk_R own is text sa s' := vk_R.warm hW0 hstr
  obtain ⟨U, hsteps, hrun, hend, hW, hsame, ce, hce, hO⟩ := X₁.ctorThrowS hexec htr (own := own) (cls := cls) (names := names) (ic := ic) hown' hcls hnames h (fun x hx => nomatch hx) hfX hkX hcellA (by rw [hhp, hT]; exact Nat.le_refl _) (msg := .ref sa) rfl
    (g := { method := m, pc := pc + 6, locals := ls, stack := .ref sa :: .ref T.heap.size :: .ref T.heap.size :: rest, locked := none }) rfl hsize rfl rfl (rest := rest) rfl
    (by rw [hb]; exact d6) (by rw [hb]; exact d9) hout hRframes (by simp only [List.map_cons, List.sum_cons, hcat]; omega) hlocks
  obtain ⟨f1, f2⟩ := vx_frame hsame
  rw [hhp] at f1 f2
  have hWs : s.WarmedH U.vm := State.WarmedH.trans hW0 hW
  have hcl : s.vm.findClass cls = some ce.cls := by
    have h9 := hO.cls
    rw [hvm] at h9
    exact h9
  have hall : s.sameButNew ({ U with vm := s.vm } : State) locs mc ms := by
    subst hA
    obtain ⟨e1, e2⟩ := hsame
    rw [State.setFrames_setFrames] at e1
    have h2 : (T.setVm s.vm).sameButNew ({ U with vm := s.vm } : State) [] (0 + 1) (0 + 6) := ⟨e1, e2⟩
    have h3 := X.same.trans h2
    rw [List.append_nil] at h3
    exact h3.mono hc hs
  refine ⟨U, ?_, .threw T.heap.size, hrun, hend, Or.inr ⟨T.heap.size, rfl, cls, ce, locs, hx U hWs.alike f1 (fun q hq => f2 q hq (fun z hz => nomatch hz)), hce, hO.vm, hcl, hWs, hall, hf⟩⟩
  refine st1 _ ?_
  show Steps p.tables e below (T1.setTop { method := m, pc := pc + 3, locals := ls, stack := .ref T.heap.size :: rest, locked := none }) _
  jvm_step X₁.here [X₁.here.top, hexec, d3', Value.category]
  exact X₁.ldcString hexec (own := own) (text := text) (index := is) (a := sa) hown' hstr'.1 hstr'.2
    (g := { method := m, pc := pc + 4, locals := ls, stack := .ref T.heap.size :: .ref T.heap.size :: rest, locked := none }) rfl d4' _ hsteps
/-- 'throw new E("text")', the text by a wide index -/
theorem vx_throwSW {cc : ByteArray} {pc : Nat} (hexec : p.tables.exec = Jvm.exec) (hb : c.code = cc) (hl : l.stackTraces = false) {own cls text : String} {names : List String} {ik is ic mc ms sa : Nat} {A : Nat → Prop}
    (hown : s.vm.findClass own = some m.cls) (hcls : Bundle.fit cls = true) (hnames : ∀ n ∈ names, Bundle.fit n = true)
    (hk : (Cond.classLink own ik cls).before args s = true) (hini : (Cond.initialized cls).before args s = true) (hstr : vk_R own is text sa s) (hat : ∀ w ∈ vx_atS own ic cls names, w.before args s = true)
    (hgood : ∀ w ∈ Cond.classLink own ik cls :: Cond.initialized cls :: vx_atS own ic cls names, vx_ot w = true)
    (hU : vx_Zq Bundle.tN "UNASSIGNED_STACK" Bundle.steD A s s.heap) (hN : vx_Zq Bundle.tN "SUPPRESSED_SENTINEL" Bundle.listD A s s.heap) (hS : va_S A s.heap H locs) (hsize : ls.size = c.maxLocals)
    (d0 : decode cc pc = .ok (.new ik, 3)) (d3 : decode cc (pc + 3) = .ok (.dup, 1)) (d4 : decode cc (pc + 4) = .ok (.ldc_w is, 3)) (d7 : decode cc (pc + 7) = .ok (.invokespecial ic, 3)) (d10 : decode cc (pc + 10) = .ok (.athrow, 1))
    (hout : ∀ x ∈ c.exceptionTable.toList, covers x (pc + 10) = false)
    (hRframes : names.length + 3 < R.frames) (hRlocals : (rest.map fun v => v.category).sum + (13 * (names.length + 1) + 43) ≤ R.locals) (hRcells : cells + 1 ≤ R.cells) (hRslots : slots + 6 ≤ R.slots) (hlocks : meth.locks = false)
    (hx : ∀ t : State, s.vm.Alike t.vm → H.size ≤ t.heap.size → (∀ q : Nat, q < H.size → t.heap[q]? = H[q]?) → XC cls s t)
    (hf : ∀ z ∈ locs, free z.base) (hc : cells + 1 ≤ mc) (hs : slots + 6 ≤ ms) :
    W p l e R s m args below meth c H locs cells slots (vx_MQ below Qc XC args s mc ms free) (F0 m pc ls rest) := by
  intro T hT X
  have htr : e.platform.stackTraces = false := (show e.platform.stackTraces = l.stackTraces by rw [X.admits.platform]).trans hl
  have Y := vx_rebase X (R' := { frames := R.frames, locals := R.locals, cells := 1, slots := 6 }) (Nat.le_refl _) (Nat.le_refl _) hRcells hRslots
  obtain ⟨s', hA⟩ : ∃ z, z = (T.setVm s.vm).setFrames (.invoking m args :: below) := ⟨_, rfl⟩
  rw [← hA] at Y
  have hvm : s'.vm = s.vm := by rw [hA]; rfl
  have hhp : s'.heap = H := by rw [hA]; exact hT
  have hW0 : s.WarmedH s'.vm := by rw [hvm]; exact State.WarmedH.refl s
  have hat' : ∀ w ∈ vx_atS own ic cls names, w.before args s' = true := fun w hw => vx_ot_at hW0 hvm.symm (hgood w (List.mem_cons_of_mem _ (List.mem_cons_of_mem _ hw))) (hat w hw)
  have hk' : (Cond.classLink own ik cls).before args s' = true := vx_ot_at hW0 hvm.symm (hgood _ List.mem_cons_self) hk
  have hini' : (Cond.initialized cls).before args s' = true := vx_ot_at hW0 hvm.symm (hgood _ (List.mem_cons_of_mem _ List.mem_cons_self)) hini
  have hU' : vx_Zq Bundle.tN "UNASSIGNED_STACK" Bundle.steD A s' s'.heap := by rw [hhp]; exact vx_Zq.moved hW0.alike (hU.kept hS.2.1)
  have hN' : vx_Zq Bundle.tN "SUPPRESSED_SENTINEL" Bundle.listD A s' s'.heap := by rw [hhp]; exact vx_Zq.moved hW0.alike (hN.kept hS.2.1)
  have h : ∀ w ∈ Bundle.ownAtoms own ic cls names, w.before args s' = true := vx_own hat' (vx_isRefq hU'.1) (vx_isRefq hN'.1) hU'.2.word hN'.2.word
  have hown' : s'.vm.findClass own = some m.cls := by rw [hvm]; exact hown
  have hins : (Cond.instantiable cls 6).before args s' = true := h _ (by simp [Bundle.ownAtoms])
  obtain ⟨vm₁, cX, kX, hfX, hkX, -, -, X₁, st1⟩ := Y.newCold hexec (own := own) (C := cls) (index := ik) (n := 6) hown' hk' hins hini'
    (g := F0 m pc ls rest) rfl (by rw [hb]; exact d0) (Nat.le_refl _) (Nat.le_refl _)
  generalize hT1 : (T.setVm vm₁).pushCell { cls := cX, slots := kX.instanceTypes.map defaultValue, vm := .none } = T1 at X₁ st1
  have hcat : (Value.ref T.heap.size).category = 1 := rfl
  have hcellA : T1.heap[T.heap.size]? = some (freshCell cX kX) := by rw [← hT1]; exact State.heap_pushCell_size _ _
  have d3' : decode c.code (pc + 3) = .ok (.dup, 1) := by rw [hb]; exact d3
  have d4' : decode c.code (pc + 4) = .ok (.ldc_w is, 3) := by rw [hb]; exact d4
  have hstr' : vk_R own is text sa s' := vk_R.warm hW0 hstr
  obtain ⟨U, hsteps, hrun, hend, hW, hsame, ce, hce, hO⟩ := X₁.ctorThrowS hexec htr (own := own) (cls := cls) (names := names) (ic := ic) hown' hcls hnames h (fun x hx => nomatch hx) hfX hkX hcellA (by rw [hhp, hT]; exact Nat.le_refl _) (msg := .ref sa) rfl
    (g := { method := m, pc := pc + 7, locals := ls, stack := .ref sa :: .ref T.heap.size :: .ref T.heap.size :: rest, locked := none }) rfl hsize rfl rfl (rest := rest) rfl
    (by rw [hb]; exact d7) (by rw [hb]; exact d10) hout hRframes (by simp only [List.map_cons, List.sum_cons, hcat]; omega) hlocks
  obtain ⟨f1, f2⟩ := vx_frame hsame
  rw [hhp] at f1 f2
  have hWs : s.WarmedH U.vm := State.WarmedH.trans hW0 hW
  have hcl : s.vm.findClass cls = some ce.cls := by
    have h9 := hO.cls
    rw [hvm] at h9
    exact h9
  have hall : s.sameButNew ({ U with vm := s.vm } : State) locs mc ms := by
    subst hA
    obtain ⟨e1, e2⟩ := hsame
    rw [State.setFrames_setFrames] at e1
    have h2 : (T.setVm s.vm).sameButNew ({ U with vm := s.vm } : State) [] (0 + 1) (0 + 6) := ⟨e1, e2⟩
    have h3 := X.same.trans h2
    rw [List.append_nil] at h3
    exact h3.mono hc hs
  refine ⟨U, ?_, .threw T.heap.size, hrun, hend, Or.inr ⟨T.heap.size, rfl, cls, ce, locs, hx U hWs.alike f1 (fun q hq => f2 q hq (fun z hz => nomatch hz)), hce, hO.vm, hcl, hWs, hall, hf⟩⟩
  refine st1 _ ?_
  show Steps p.tables e below (T1.setTop { method := m, pc := pc + 3, locals := ls, stack := .ref T.heap.size :: rest, locked := none }) _
  jvm_step X₁.here [X₁.here.top, hexec, d3', Value.category]
  exact X₁.ldcStringW hexec (own := own) (text := text) (index := is) (a := sa) hown' hstr'.1 hstr'.2
    (g := { method := m, pc := pc + 4, locals := ls, stack := .ref T.heap.size :: .ref T.heap.size :: rest, locked := none }) rfl d4' _ hsteps
end Ends
section Bodies
variable {l : Launch}
theorem vx_ofW {y : MethodName} {ws ws' : List Cond} {rm : Room} {Pc : Array Value → State → Prop} {Qc : Array Value → State → Outcome → State → Prop} {XC : String → State → State → Prop} {mc ms : Nat} {free : Addr → Prop} {cc : ByteArray} {maxL : Nat} {ret : Option FieldType}
    (hy : plainName y.cls = true) (hw : ws = Cond.code y cc maxL ret :: ws')
    (body : ∀ p e s m args below meth c s₁, BodyLoose p l y (headSpec ws rm) cc maxL ret e s m args below meth c s₁ → c.maxLocals = maxL → (∀ x ∈ c.exceptionTable.toList, False) → Pc args s →
      W p l e (headSpec ws rm).room s m args below meth c s.heap [] 0 0 (vx_MQ below Qc XC args s mc ms free) (entryFrame m args maxL)) : vx_Met l y ws rm Pc Qc XC mc ms free := by
  refine MetFree.of_bodyS (code := cc) (maxLocals := maxL) (ret := ret) hy ?_ ?_
  · intro args s m h hn
    obtain ⟨meth, c, h1, h2, h3, h4, h5, h6, -, -⟩ := Cond.code_spec hn (atoms_spec (ws := ws) h _ (by rw [hw]; exact List.mem_cons_self))
    exact ⟨meth, c, h1, h2, h3, h4, h5, h6⟩
  · intro p e s m args below meth c s₁ B hml hP _
    have hh0 : s₁.heap = s.heap := by rw [B.state]; rfl
    have ht : ∀ x ∈ c.exceptionTable.toList, False := by
      obtain ⟨meth9, c9, h1, h2, -, -, -, -, h7, -⟩ := Cond.code_spec B.named (atoms_spec (ws := ws) B.pre _ (by rw [hw]; exact List.mem_cons_self))
      cases Option.some.inj (h1.symm.trans B.method)
      cases Option.some.inj (h2.symm.trans (Stand.of_body B).code)
      intro x hx
      rw [Array.isEmpty_iff.mp h7] at hx
      cases hx
    obtain ⟨t, a1, o, b1, b2, b3⟩ := body p e s m args below meth c s₁ B hml ht hP s₁ hh0 (Stand.of_body B)
    exact ⟨t, o, a1, b1, b2, b3⟩
/-- the table of a body with handlers -/
theorem vx_table {p : Program} {x y : MethodName} {S : Spec} {cc bytes : ByteArray} {maxL maxL' : Nat} {ret ret' : Option FieldType} {e : Env} {s s₁ : State} {m : MethodId} {args : Array Value} {below : List Frame} {meth : Method} {c : Code} {hh : List (Nat × Nat × Nat × Nat)}
    (B : BodyLoose p l y S cc maxL ret e s m args below meth c s₁) (h : (Cond.codeWith y bytes maxL' ret' hh).before args s = true) : c.exceptionTable.toList = tableOf hh := by
  obtain ⟨m9, meth9, c9, hn9, h1, h2, -, -, h6, -⟩ := Cond.codeWith_spec h
  cases Option.some.inj (hn9.symm.trans B.named)
  cases Option.some.inj (h1.symm.trans B.method)
  cases Option.some.inj (h2.symm.trans (Stand.of_body B).code)
  rw [← h6, table_eq]
end Bodies
end VXA
/-! ===== END ===== -/
/-! ===== BEGIN a static call of a method with an exception table ===== -/
section VXS
variable {p : Program} {l : Launch} {e : Env} {R : Room} {s : State} {m : MethodId} {args : Array Value} {below : List Frame} {meth : Method} {c : Code} {T : State} {H : Heap} {locs : List Loc} {cells slots : Nat}
abbrev vx_CSW (R : Room) (s : State) (args : Array Value) (own : String) (index : Nat) (y : MethodName) (bytes : ByteArray) (maxL : Nat) (ret : Option FieldType) (hh : List (Nat × Nat × Nat × Nat)) (ws : List Cond) (rm : Room) (mc ms n : Nat) : Prop :=
  (rm.cells = mc ∧ rm.slots = ms ∧ rm.frames + 1 ≤ R.frames ∧ 8 + (maxL + 11) + rm.locals ≤ R.locals ∧ (∀ w ∈ ws, ∀ (a' : Array Value) (U : State), s.WarmedH U.vm → w.before a' U = true) ∧ Cond.codeWith y bytes maxL ret hh ∈ ws) ∧
  (Cond.codeWith y bytes maxL ret hh).before args s = true ∧ (Cond.initialized y.cls).before args s = true ∧ (y.cls ≠ "java/lang/invoke/MethodHandle" ∧ y.cls ≠ "java/lang/invoke/VarHandle") ∧
  (∀ sig, parseMethodDescriptor y.desc = some sig → n = sig.parameters.length) ∧ (Cond.methodLink own index y).before args s = true ∧ (Cond.static y).before args s = true
theorem vx_cwSW {own : String} {index maxL mc ms : Nat} {y : MethodName} {bytes : ByteArray} {ret : Option FieldType} {hh : List (Nat × Nat × Nat × Nat)} {Ts ws ws' : List Cond} {rm : Room} (n : Nat) (ht : ∀ w ∈ Ts, w.before args s = true) (hT : GoodIn Ts (va_wsS own index y ws)) (hw : ws = Cond.codeWith y bytes maxL ret hh :: ws') (hrc : rm.cells = mc) (hrs : rm.slots = ms)
    (hd : y.cls ≠ "java/lang/invoke/MethodHandle" ∧ y.cls ≠ "java/lang/invoke/VarHandle" ∧ (parseMethodDescriptor y.desc).map (fun d => d.parameters.length) = some n) (hR : rm.frames + 1 ≤ R.frames ∧ 8 + (maxL + 11) + rm.locals ≤ R.locals) :
    vx_CSW R s args own index y bytes maxL ret hh ws rm mc ms n := by
  have ok : ∀ w ∈ va_wsS own index y ws, w.before args s = true := fun w h => ht w (hT w h).1
  have hG : GoodIn Ts ws := fun w h => hT w (by unfold va_wsS; exact List.mem_append_right _ h)
  have hc : Cond.codeWith y bytes maxL ret hh ∈ ws := by rw [hw]; exact List.mem_cons_self
  refine ⟨⟨hrc, hrs, hR.1, hR.2, pay_in ht hG, hc⟩, ht _ (hG _ hc).1, ok _ (by simp [va_wsS]), ⟨hd.1, hd.2.1⟩, fun sig h => ?_, ok _ (by simp [va_wsS]), ok _ (by simp [va_wsS])⟩
  have h2 := hd.2.2
  rw [h] at h2
  exact (Option.some.inj h2).symm
theorem vx_callSW (X : Stand p l e R s m args below meth c T locs cells slots) (hexec : p.tables.exec = Jvm.exec) {own : String} {index : Nat} {y : MethodName} {bytes : ByteArray} {maxL : Nat} {ret : Option FieldType} {hh : List (Nat × Nat × Nat × Nat)}
    (hown : s.vm.findClass own = some m.cls) (hlink : (Cond.methodLink own index y).before args s = true) (hstat : (Cond.static y).before args s = true) (hinit : (Cond.initialized y.cls).before args s = true)
    (hcode : (Cond.codeWith y bytes maxL ret hh).before args s = true) (hy : y.cls ≠ "java/lang/invoke/MethodHandle" ∧ y.cls ≠ "java/lang/invoke/VarHandle")
    {W9 : Nat} {Pre : Pt → Array Value → Prop} {Post : Pt → Array Value → Option Value → Pt → Prop} (hK : Back l R p e below s args y 3 W9 Pre Post)
    {g : JFrame} (hg : g.method = m) (hsize : g.locals.size = c.maxLocals) {argsL rest : List Value} (hlen : ∀ sig, parseMethodDescriptor y.desc = some sig → argsL.length = sig.parameters.length)
    (hstack : g.stack = argsL.reverse ++ rest) (hW : 2 * g.monitorRoom + (rest.map fun v => v.category).sum ≤ W9) (hdg : decode c.code g.pc = .ok (.invokestatic index, 3))
    (hpre : ∀ vm₁, s.WarmedH vm₁ → Pre ⟨T.setVm vm₁, locs, cells, slots⟩ argsL.toArray) :
    ∃ (v : Option Value) (vm₁ : Vm) (B : Pt), s.WarmedH vm₁ ∧ Stand p l e R s m args below meth c B.U B.locs B.cells B.slots ∧ Post ⟨T.setVm vm₁, locs, cells, slots⟩ argsL.toArray v B ∧
      ∀ target, Steps p.tables e below (B.U.setTop { g with pc := g.pc + 3, stack := v.toList ++ rest }) target → Steps p.tables e below (T.setTop g) target := by
  obtain ⟨mk, methM, cM, hnamed, hmethM, -, -, -, -, -, -, hsigM⟩ := Cond.codeWith_spec hcode
  have hstatic : methM.isStatic = true := Cond.static_spec hnamed hmethM hstat
  obtain ⟨kP, hkP, -⟩ := className_of_methodNamed hnamed
  have hinitP : kP.init = .initialized := Cond.initialized_spec (findClass_of_methodNamed hnamed) hkP hinit
  obtain ⟨vm₁, X₁, hstep₁⟩ := X.invokestatic hexec hown hlink hnamed hmethM hstatic hkP hinitP hy (g := g) hg (argsL := argsL) (rest := rest) (hlen _ hsigM) hstack hdg
  obtain ⟨v, B, X', hpost, hsteps⟩ := hK m meth c ⟨T.setVm vm₁, locs, cells, slots⟩ { g with stack := rest } (.invokestatic index) mk argsL.toArray X₁ hg hsize hdg hW (X₁.named hnamed) (hpre vm₁ X₁.warmed)
  exact ⟨v, vm₁, B, X₁.warmed, X', hpost, fun target h => hstep₁ _ fun acts => by rw [doInvoke_state]; exact hsteps.trans h⟩
theorem vx_runSW {y : MethodName} {bytes cc : ByteArray} {maxL nL mc ms n index : Nat} {ret : Option FieldType} {hh : List (Nat × Nat × Nat × Nat)} {ws : List Cond} {rm : Room} {Pc : Array Value → State → Prop} {Qc : Array Value → State → Outcome → State → Prop} {free : Addr → Prop} {Ts : List Cond} {own : String} {As rest : List Value} {g : JFrame}
    (S : CallFix p m c cc nL s args Ts own) (hM : Met l y ws rm Pc Qc mc ms free) (cw : vx_CSW R s args own index y bytes maxL ret hh ws rm mc ms n) (hp : PreS s H Pc As)
    (hg : g.method = m) (hn : As.length = n) (hsize : g.locals.size = nL) (hstack : g.stack = As.reverse ++ rest) (hW : 2 * g.monitorRoom + (rest.map fun v => v.category).sum ≤ 8) (hdg : decode cc g.pc = .ok (.invokestatic index, 3)) (hf : cells + mc ≤ R.cells ∧ slots + ms ≤ R.slots) :
    va_Run p l e R s m args below meth c H locs cells slots mc ms g rest (Qc As.toArray) (free) := by
  obtain ⟨⟨hrc, hrs, hfr, hlo, hws, hcw⟩, hcode, hini, hy, hlen, hl, hstt⟩ := cw
  have hK : Back l R p e below s args y 3 8 (PreOf R mc ms Pc) (PostOf Qc mc ms free) := va_backW (hh := hh) (bytes := bytes) (maxL := maxL) (ret := ret) hM hp.1 hrc hrs hfr hlo hws hcw (fun a' U hW => word_at hW (Or.inl (by first | rfl | simp [Cond.onTables, Cond.keeps, Cond.steady])) hini)
  obtain ⟨hx, hb, hml, ho, -⟩ := S
  intro T hT X
  obtain ⟨v, vm₁, ⟨U', l2, c2, s2⟩, hW₁, X', ⟨g', mk, t, L, e1, e2, hq, h1, hL, h2, h3⟩, st⟩ := vx_callSW X hx (hh := hh) (bytes := bytes) (maxL := maxL) (ret := ret) ho hl hstt hini hcode hy hK hg (hsize.trans hml.symm) (argsL := As) (rest := rest) (fun sig h => hn.trans (hlen sig h)) hstack hW (by rw [hb]; exact hdg)
    (fun vm₁ hW₁ => ⟨hf.1, hf.2, hp.2 (T.setVm vm₁) hT hW₁⟩)
  dsimp only [Pt.U, Pt.locs, Pt.cells, Pt.slots] at X' e1 e2 h1 h2 h3 st
  subst h1; subst h2; subst h3
  exact ⟨v, (T.setVm vm₁).calling g' mk As.toArray, t, U', L, hT, X', hL, e1, e2, hq, st⟩
/-- not caught here, past rows that name other classes: it goes on to the caller -/
theorem vx_outP {p : Program} {l : Launch} {e : Env} {R : Room} {s : State} {m : MethodId} {args : Array Value} {below : List Frame} {meth : Method} {c : Code} {H : Heap} {locs : List Loc} {cells slots : Nat} {free : Addr → Prop} {ls : Array Slot} {rest : List Value} {Qc : Array Value → State → Outcome → State → Prop} {XC : String → State → State → Prop}
    {pc : Nat} {own E : String} {ce : Cell} {q : Addr} {mc ms : Nat} (hown : s.vm.findClass own = some m.cls) (hlocks : meth.locks = false)
    (hpass : ∀ z ∈ c.exceptionTable.toList, covers z pc = false ∨ (z.catchType ≠ 0 ∧ ∃ nm : String, (Cond.classLink own z.catchType nm).before args s = true ∧ va_Nc E nm s)) (hcell : H[q]? = some ce) (hv : ce.vm = .none) (hcl : s.vm.findClass E = some ce.cls)
    (hx : ∀ t : State, t.heap = H → s.vm.Alike t.vm → XC E s t) (hf : ∀ z ∈ locs, free z.base) (hc : cells ≤ mc) (hs : slots ≤ ms) :
    vx_W p l e R s m args below meth c H locs cells slots (vx_MQ below Qc XC args s mc ms free) (F0 m pc ls rest) q := by
  intro T hT X
  have hpl : e.platform.magicAccessors = ({} : Platform).magicAccessors := by rw [X.admits.platform]
  obtain ⟨vm', hW', X', st⟩ := X.outThrough hlocks q (g := F0 m pc ls rest) rfl rfl rfl (cell := ce) (by rw [hT]; exact hcell) (by rw [hv]; rfl)
    (by obtain ⟨k9, h9, -⟩ := Vm.findClass_spec hcl; exact ⟨k9, h9⟩) (fun z hz => by
      rcases hpass z hz with h | ⟨hz0, nm, hl1, hn1⟩
      · exact Or.inl h
      · obtain ⟨c6, hc6, hcl6⟩ := Cond.classLink_spec hown hl1 e.platform hpl
        obtain ⟨a8, b8, h1, h2, h3⟩ := hn1
        cases Option.some.inj (h1.symm.trans hcl)
        cases Option.some.inj (h2.symm.trans hc6)
        exact Or.inr ⟨hz0, _, hcl6, h3⟩)
  obtain ⟨g₀, hfr⟩ := X'.frames_eq
  have hcell9 : ((T.setVm vm').setFrames (.throwing q :: below)).heap[q]? = some ce := by
    show T.heap[q]? = some ce
    rw [hT]; exact hcell
  have hend : Ended ((T.setVm vm').setFrames (.throwing q :: below)) below (.threw q) := State.frames_setFrames _ (State.cur_lt_of_frames hfr)
  refine ⟨(T.setVm vm').setFrames (.throwing q :: below), ?_, .threw q, X'.here.running, hend, Or.inr ⟨q, rfl, E, ce, locs, hx _ hT (X'.ends _).1.alike, hcell9, hv, hcl, (X'.ends _).1, (X'.ends _).2.mono hc hs, hf⟩⟩
  rw [X.pushThrowing_eq]
  exact st
/-- a thing of a world lies in the heap -/
theorem vx_lt {D : va_G} {cl : List vw_C} {ws : va_W} {H1 : Heap} (h : va_P D cl ws H1) {k : Nat} {q : Nat × va_E} (hk : ws[k]? = some q) : q.1 < H1.size := (h k q hk).lt
end VXS
/-! ===== END ===== -/
/-! ===== BEGIN methods with a table of their own: called by a name, returning or throwing ===== -/
section VXH
/-! vx_backW, vx_callVX, vx_callSX, vx_callVW, vx_runVW, vx_runVX, vx_runSX, vx_ofWH follow the same proofs as their sisters above (Free/Laws.lean, Shelf42/LK1.lean); vx_outP calls Shelf42/NT130.lean (outThrough). -/
section
variable {l : Launch} {R : Room} {p : Program} {e : Env} {below : List Frame} {s : State} {sargs : Array Value} {y : MethodName} {len W9 : Nat}
theorem vx_backW {ws : List Cond} {rm : Room} {Pc : Array Value → State → Prop} {Qc : Array Value → State → Outcome → State → Prop} {XC : String → State → State → Prop} {mc ms : Nat} {free : Addr → Prop} {bytes : ByteArray} {maxL : Nat} {ret : Option FieldType} {hh : List (Nat × Nat × Nat × Nat)}
    (hM : vx_Met l y ws rm Pc Qc XC mc ms free) (hblind : FrameBlind Pc) (hrc : rm.cells = mc) (hrs : rm.slots = ms)
    (hframes : rm.frames + 1 ≤ R.frames) (hlocals : W9 + (maxL + 11) + rm.locals ≤ R.locals)
    (hws : ∀ w ∈ ws, ∀ a' U, s.WarmedH U.vm → w.before a' U = true) (hcode : Cond.codeWith y bytes maxL ret hh ∈ ws) (hinit : ∀ a' U, s.WarmedH U.vm → (Cond.initialized y.cls).before a' U = true) :
    vx_Back l R p e below s sargs y len W9 (PreOf R mc ms Pc) (PostOf Qc mc ms free) (vx_Post XC mc ms free) := by
  intro m meth c A g ig mk a X hg hsize hdg hW hn hp
  have h1 : (headSpec ws rm).pre.before a A.U = true := atoms_intro fun w hw => hws w hw _ _ X.warmed
  have h2 : (Cond.codeWith y bytes maxL ret hh).before a A.U = true := hws _ hcode _ _ X.warmed
  have h3 : (Cond.initialized y.cls).before a A.U = true := hinit _ _ X.warmed
  have h4 : A.cells + (headSpec ws rm).room.cells ≤ R.cells := by rw [show (headSpec ws rm).room.cells = mc from hrc]; exact hp.1
  have h5 : A.slots + (headSpec ws rm).room.slots ≤ R.slots := by rw [show (headSpec ws rm).room.slots = ms from hrs]; exact hp.2.1
  have hPc : Pc a (A.U.calling g mk a) := hblind _ _ _ _ hp.2.2
  obtain ⟨U, Ls, c0, s0⟩ := A
  dsimp only [Pt.U, Pt.locs, Pt.cells, Pt.slots] at h1 h2 h3 h4 h5 X hn hPc ⊢
  obtain ⟨m9, methY, cY, hn9, hmY, hcY, -, hlY, -⟩ := Cond.codeWith_spec h2
  cases Option.some.inj (hn9.symm.trans hn)
  obtain ⟨kY, hkY, -⟩ := className_of_methodNamed hn
  have hinitY : kY.init = .initialized := Cond.initialized_spec (findClass_of_methodNamed hn) hkY h3
  have h : At U g.method c below := by rw [hg]; exact X.here
  have hlocals9 : W9 + (maxL + 11) + (headSpec ws rm).room.locals ≤ R.locals := hlocals
  have happ : (headSpec ws rm).appliesLoose y e.platform (U.calling g mk a) = true :=
    Spec.appliesLoose_calling (g := g) h hdg hn hkY hinitY
      (X.room_calling (g := g) (R' := (headSpec ws rm).room) hsize hmY hcY hframes (by rw [hlY]; omega) h4 h5) h1
  obtain ⟨mid, hmid⟩ := h.above
  have hfr : (U.setTop g).frames = (.java g :: mid) ++ below := by rw [State.frames_setTop' g h.top, hmid]; rfl
  obtain ⟨o, s₂, hsteps, -, hend, hq⟩ := Steps.callFree hM p X.admits X.cas X.clock (acts := []) hfr happ hPc trivial
  have hq' : vx_Q Qc XC mc ms free a (U.calling g mk a) o s₂ := hq
  rw [State.frames_setTop' g h.top] at hend
  obtain ⟨g₀, hg0⟩ := Option.isSome_iff_exists.mp h.top
  obtain ⟨r, hr⟩ := State.topJava?_eq_some.mp hg0
  have hr' : (({ U with heap := s₂.heap, slotsUsed := s₂.slotsUsed } : State).setVm s₂.vm).frames = .java g₀ :: r := hr
  rcases hq' with ⟨hqc, L, hfe, hL⟩ | ⟨q, rfl, E, ce, L, hx, hce, hcv, hcl, hW₂, hsm, hL⟩
  · obtain ⟨⟨v, rfl⟩, hW₂, e2, q2, q3, q4, q5, q6⟩ := id hfe
    have e3 : s₂ = ({ (U.calling g mk a).setFrames s₂.frames with heap := s₂.heap, slotsUsed := s₂.slotsUsed } : State).setVm s₂.vm := by
      have : s₂ = ({ s₂ with vm := (U.calling g mk a).vm } : State).setVm s₂.vm := rfl
      rw [e2] at this
      exact this
    obtain ⟨c₂, i₂, len₂, hc₂, hd₂, hf₂⟩ := hend
    have hW' : U.WarmedH s₂.vm := hW₂
    have hcc : c₂ = c := by
      have h1 : s₂.code? g.method = U.code? g.method := by
        rw [State.code?_eq, State.code?_eq, hW'.alike.method?]
      exact Option.some.inj (hc₂.symm.trans (h1.trans h.code))
    subst hcc
    have hlen : len₂ = len := by rw [hdg] at hd₂; cases hd₂; rfl
    subst hlen
    have hs₂ : s₂ = (({ U with heap := s₂.heap, slotsUsed := s₂.slotsUsed } : State).setVm s₂.vm).setTop { g with pc := g.pc + len₂, stack := v.toList ++ g.stack } := by
      refine e3.trans ?_
      rw [hf₂, State.calling_eq h.top, State.setFrames_setFrames, State.setTop_of_frames _ hr', hr]
      rfl
    have hsame : U.sameButNew ({ U with heap := s₂.heap, slotsUsed := s₂.slotsUsed } : State) L mc ms := by
      refine ⟨?_, q2, q3, q4, q5, q6⟩
      obtain ⟨t, ht, -⟩ := State.frames_cons hr
      show ({ U with heap := s₂.heap, slotsUsed := s₂.slotsUsed } : State) = { U.setFrames U.frames with heap := s₂.heap, slotsUsed := s₂.slotsUsed }
      rw [State.setFrames_self ht]
    subst hg
    refine Or.inl ⟨v, ⟨(({ U with heap := s₂.heap, slotsUsed := s₂.slotsUsed } : State).setVm s₂.vm), Ls ++ L, c0 + mc, s0 + ms⟩,
      ⟨X.admits, X.cas, X.clock, X.frames, X.room, X.hears, X.method, X.code, (X.here.setHeapUsed s₂.heap s₂.slotsUsed).setVm hW'.alike, X.tail, State.WarmedH.trans X.warmed hW', X.limits, X.bytes, X.same.trans (hsame.setVm s.vm)⟩,
      ⟨g, mk, s₂, L, rfl, rfl, hqc, rfl, hL, rfl, rfl⟩, ?_⟩
    show Steps p.tables e below _ ((({ U with heap := s₂.heap, slotsUsed := s₂.slotsUsed } : State).setVm s₂.vm).setTop { g with pc := g.pc + len₂, stack := v.toList ++ g.stack })
    rw [← hs₂]
    exact hsteps
  · obtain ⟨e2, q2, q3, q4, q5, q6⟩ := id hsm
    have e3 : s₂ = ({ (U.calling g mk a).setFrames s₂.frames with heap := s₂.heap, slotsUsed := s₂.slotsUsed } : State).setVm s₂.vm := by
      have : s₂ = ({ s₂ with vm := (U.calling g mk a).vm } : State).setVm s₂.vm := rfl
      rw [e2] at this
      exact this
    have hf₂ : s₂.frames = .throwing q :: .java g :: U.frames.tail := hend
    have hW' : U.WarmedH s₂.vm := hW₂
    have hs₂ : s₂ = ((({ U with heap := s₂.heap, slotsUsed := s₂.slotsUsed } : State).setVm s₂.vm).setTop g).pushFrame (.throwing q) := by
      refine e3.trans ?_
      rw [hf₂, State.calling_eq h.top, State.setFrames_setFrames, State.pushFrame, State.frames_setTop _ hr', State.setTop_of_frames _ hr', State.setFrames_setFrames, hr]
      rfl
    have hsame : U.sameButNew ({ U with heap := s₂.heap, slotsUsed := s₂.slotsUsed } : State) L mc ms := by
      refine ⟨?_, q2, q3, q4, q5, q6⟩
      obtain ⟨t, ht, -⟩ := State.frames_cons hr
      show ({ U with heap := s₂.heap, slotsUsed := s₂.slotsUsed } : State) = { U.setFrames U.frames with heap := s₂.heap, slotsUsed := s₂.slotsUsed }
      rw [State.setFrames_self ht]
    subst hg
    refine Or.inr ⟨q, ⟨(({ U with heap := s₂.heap, slotsUsed := s₂.slotsUsed } : State).setVm s₂.vm), Ls ++ L, c0 + mc, s0 + ms⟩,
      ⟨X.admits, X.cas, X.clock, X.frames, X.room, X.hears, X.method, X.code, (X.here.setHeapUsed s₂.heap s₂.slotsUsed).setVm hW'.alike, X.tail, State.WarmedH.trans X.warmed hW', X.limits, X.bytes, X.same.trans (hsame.setVm s.vm)⟩,
      ⟨g, mk, s₂, L, E, ce, rfl, rfl, hx, hce, hcv, hcl, rfl, hL, rfl, rfl⟩, ?_⟩
    show Steps p.tables e below _ (((({ U with heap := s₂.heap, slotsUsed := s₂.slotsUsed } : State).setVm s₂.vm).setTop g).pushFrame (.throwing q))
    rw [← hs₂]
    exact hsteps
end
variable {p : Program} {l : Launch} {e : Env} {R : Room} {s : State} {m : MethodId} {args : Array Value} {below : List Frame} {meth : Method} {c : Code} {T : State} {H : Heap} {locs : List Loc} {cells slots : Nat}
theorem vx_callVX (X : Stand p l e R s m args below meth c T locs cells slots) (hexec : p.tables.exec = Jvm.exec) {own C : String} {index : Nat} {y : MethodName} {bytes : ByteArray} {maxL : Nat} {ret : Option FieldType} {hh : List (Nat × Nat × Nat × Nat)}
    (hown : s.vm.findClass own = some m.cls) (hlink : (Cond.methodLink own index y).before args s = true) (hinst : (Cond.instanceMethod y).before args s = true) (hsel : (Cond.selects C y y).before args s = true)
    (hcode : (Cond.codeWith y bytes maxL ret hh).before args s = true) (hy : y.cls ≠ "java/lang/invoke/MethodHandle" ∧ y.cls ≠ "java/lang/invoke/VarHandle")
    {W9 : Nat} {Pre : Pt → Array Value → Prop} {Post : Pt → Array Value → Option Value → Pt → Prop} {PostX : Pt → Array Value → Addr → Pt → Prop} (hK : vx_Back l R p e below s args y 3 W9 Pre Post PostX)
    {b : Addr} {cellB : Cell} (hcell : T.heap[b]? = some cellB) (hobj : cellB.vm.isStatics = false) (hcls : s.vm.findClass C = some cellB.cls)
    {g : JFrame} (hg : g.method = m) (hsize : g.locals.size = c.maxLocals) {argsL rest : List Value} (hlen : ∀ sig, parseMethodDescriptor y.desc = some sig → argsL.length = sig.parameters.length)
    (hstack : g.stack = argsL.reverse ++ .ref b :: rest) (hW : 2 * g.monitorRoom + (rest.map fun v => v.category).sum ≤ W9) (hdg : decode c.code g.pc = .ok (.invokevirtual index, 3))
    (hpre : ∀ vm₁, s.WarmedH vm₁ → Pre ⟨T.setVm vm₁, locs, cells, slots⟩ (Value.ref b :: argsL).toArray) :
    (∃ (v : Option Value) (vm₁ : Vm) (B : Pt), s.WarmedH vm₁ ∧ Stand p l e R s m args below meth c B.U B.locs B.cells B.slots ∧ Post ⟨T.setVm vm₁, locs, cells, slots⟩ (Value.ref b :: argsL).toArray v B ∧
      ∀ target, Steps p.tables e below (B.U.setTop { g with pc := g.pc + 3, stack := v.toList ++ rest }) target → Steps p.tables e below (T.setTop g) target) ∨
    (∃ (q : Addr) (vm₁ : Vm) (B : Pt), s.WarmedH vm₁ ∧ Stand p l e R s m args below meth c B.U B.locs B.cells B.slots ∧ PostX ⟨T.setVm vm₁, locs, cells, slots⟩ (Value.ref b :: argsL).toArray q B ∧
      Steps p.tables e below (T.setTop g) ((B.U.setTop { g with stack := rest }).pushFrame (.throwing q))) := by
  obtain ⟨mk, methM, hnamed, hmethM, hstM, habM⟩ := Cond.instanceMethod_spec hinst
  obtain ⟨m8, methM', cM, hn8, hmethM', -, -, -, -, -, -, hsigM⟩ := Cond.codeWith_spec hcode
  cases Option.some.inj (hn8.symm.trans hnamed)
  cases hmethM.symm.trans hmethM'
  obtain ⟨c2, r2, m2, q1, q2, q3, q4, kP, hkP, hkPi⟩ := Cond.selects_spec hsel
  cases hcls.symm.trans q1
  cases (State.methodFound?_of_named hnamed hy).symm.trans q2
  cases hnamed.symm.trans q3
  have hselP : selectMethod e.platform s.vm cellB.cls mk = .method mk := by rw [Launch.admits_selectMethod X.admits]; exact q4
  obtain ⟨vm₁, X₁, hstep₁⟩ := X.invokevirtual hexec hown hlink hnamed hmethM hstM hkP hkPi hy (a := b) (cell := cellB) hcell
    (fun z h => by rw [h] at hobj; cases hobj) hselP hmethM habM hkP hkPi (g := g) hg (argsL := argsL) (rest := rest) (hlen _ hsigM) hstack hdg
  rcases hK m meth c ⟨T.setVm vm₁, locs, cells, slots⟩ { g with stack := rest } (.invokevirtual index) mk (Value.ref b :: argsL).toArray X₁ hg hsize hdg hW (X₁.named hnamed) (hpre vm₁ X₁.warmed) with ⟨v, B, X', hpost, hsteps⟩ | ⟨q, B, X', hpost, hsteps⟩
  · exact Or.inl ⟨v, vm₁, B, X₁.warmed, X', hpost, fun target h => hstep₁ _ fun acts => by rw [doInvoke_state]; exact hsteps.trans h⟩
  · exact Or.inr ⟨q, vm₁, B, X₁.warmed, X', hpost, hstep₁ _ fun acts => by rw [doInvoke_state]; exact hsteps⟩
theorem vx_callSX (X : Stand p l e R s m args below meth c T locs cells slots) (hexec : p.tables.exec = Jvm.exec) {own : String} {index : Nat} {y : MethodName} {bytes : ByteArray} {maxL : Nat} {ret : Option FieldType} {hh : List (Nat × Nat × Nat × Nat)}
    (hown : s.vm.findClass own = some m.cls) (hlink : (Cond.methodLink own index y).before args s = true) (hstat : (Cond.static y).before args s = true) (hinit : (Cond.initialized y.cls).before args s = true)
    (hcode : (Cond.codeWith y bytes maxL ret hh).before args s = true) (hy : y.cls ≠ "java/lang/invoke/MethodHandle" ∧ y.cls ≠ "java/lang/invoke/VarHandle")
    {W9 : Nat} {Pre : Pt → Array Value → Prop} {Post : Pt → Array Value → Option Value → Pt → Prop} {PostX : Pt → Array Value → Addr → Pt → Prop} (hK : vx_Back l R p e below s args y 3 W9 Pre Post PostX)
    {g : JFrame} (hg : g.method = m) (hsize : g.locals.size = c.maxLocals) {argsL rest : List Value} (hlen : ∀ sig, parseMethodDescriptor y.desc = some sig → argsL.length = sig.parameters.length)
    (hstack : g.stack = argsL.reverse ++ rest) (hW : 2 * g.monitorRoom + (rest.map fun v => v.category).sum ≤ W9) (hdg : decode c.code g.pc = .ok (.invokestatic index, 3))
    (hpre : ∀ vm₁, s.WarmedH vm₁ → Pre ⟨T.setVm vm₁, locs, cells, slots⟩ argsL.toArray) :
    (∃ (v : Option Value) (vm₁ : Vm) (B : Pt), s.WarmedH vm₁ ∧ Stand p l e R s m args below meth c B.U B.locs B.cells B.slots ∧ Post ⟨T.setVm vm₁, locs, cells, slots⟩ argsL.toArray v B ∧
      ∀ target, Steps p.tables e below (B.U.setTop { g with pc := g.pc + 3, stack := v.toList ++ rest }) target → Steps p.tables e below (T.setTop g) target) ∨
    (∃ (q : Addr) (vm₁ : Vm) (B : Pt), s.WarmedH vm₁ ∧ Stand p l e R s m args below meth c B.U B.locs B.cells B.slots ∧ PostX ⟨T.setVm vm₁, locs, cells, slots⟩ argsL.toArray q B ∧
      Steps p.tables e below (T.setTop g) ((B.U.setTop { g with stack := rest }).pushFrame (.throwing q))) := by
  obtain ⟨mk, methM, cM, hnamed, hmethM, -, -, -, -, -, -, hsigM⟩ := Cond.codeWith_spec hcode
  have hstatic : methM.isStatic = true := Cond.static_spec hnamed hmethM hstat
  obtain ⟨kP, hkP, -⟩ := className_of_methodNamed hnamed
  have hinitP : kP.init = .initialized := Cond.initialized_spec (findClass_of_methodNamed hnamed) hkP hinit
  obtain ⟨vm₁, X₁, hstep₁⟩ := X.invokestatic hexec hown hlink hnamed hmethM hstatic hkP hinitP hy (g := g) hg (argsL := argsL) (rest := rest) (hlen _ hsigM) hstack hdg
  rcases hK m meth c ⟨T.setVm vm₁, locs, cells, slots⟩ { g with stack := rest } (.invokestatic index) mk argsL.toArray X₁ hg hsize hdg hW (X₁.named hnamed) (hpre vm₁ X₁.warmed) with ⟨v, B, X', hpost, hsteps⟩ | ⟨q, B, X', hpost, hsteps⟩
  · exact Or.inl ⟨v, vm₁, B, X₁.warmed, X', hpost, fun target h => hstep₁ _ fun acts => by rw [doInvoke_state]; exact hsteps.trans h⟩
  · exact Or.inr ⟨q, vm₁, B, X₁.warmed, X', hpost, hstep₁ _ fun acts => by rw [doInvoke_state]; exact hsteps⟩
theorem vx_callVW (X : Stand p l e R s m args below meth c T locs cells slots) (hexec : p.tables.exec = Jvm.exec) {own C : String} {index : Nat} {y : MethodName} {bytes : ByteArray} {maxL : Nat} {ret : Option FieldType} {hh : List (Nat × Nat × Nat × Nat)}
    (hown : s.vm.findClass own = some m.cls) (hlink : (Cond.methodLink own index y).before args s = true) (hinst : (Cond.instanceMethod y).before args s = true) (hsel : (Cond.selects C y y).before args s = true)
    (hcode : (Cond.codeWith y bytes maxL ret hh).before args s = true) (hy : y.cls ≠ "java/lang/invoke/MethodHandle" ∧ y.cls ≠ "java/lang/invoke/VarHandle")
    {W9 : Nat} {Pre : Pt → Array Value → Prop} {Post : Pt → Array Value → Option Value → Pt → Prop} (hK : Back l R p e below s args y 3 W9 Pre Post)
    {b : Addr} {cellB : Cell} (hcell : T.heap[b]? = some cellB) (hobj : cellB.vm.isStatics = false) (hcls : s.vm.findClass C = some cellB.cls)
    {g : JFrame} (hg : g.method = m) (hsize : g.locals.size = c.maxLocals) {argsL rest : List Value} (hlen : ∀ sig, parseMethodDescriptor y.desc = some sig → argsL.length = sig.parameters.length)
    (hstack : g.stack = argsL.reverse ++ .ref b :: rest) (hW : 2 * g.monitorRoom + (rest.map fun v => v.category).sum ≤ W9) (hdg : decode c.code g.pc = .ok (.invokevirtual index, 3))
    (hpre : ∀ vm₁, s.WarmedH vm₁ → Pre ⟨T.setVm vm₁, locs, cells, slots⟩ (Value.ref b :: argsL).toArray) :
    ∃ (v : Option Value) (vm₁ : Vm) (B : Pt), s.WarmedH vm₁ ∧ Stand p l e R s m args below meth c B.U B.locs B.cells B.slots ∧ Post ⟨T.setVm vm₁, locs, cells, slots⟩ (Value.ref b :: argsL).toArray v B ∧
      ∀ target, Steps p.tables e below (B.U.setTop { g with pc := g.pc + 3, stack := v.toList ++ rest }) target → Steps p.tables e below (T.setTop g) target := by
  obtain ⟨mk, methM, hnamed, hmethM, hstM, habM⟩ := Cond.instanceMethod_spec hinst
  obtain ⟨m8, methM', cM, hn8, hmethM', -, -, -, -, -, -, hsigM⟩ := Cond.codeWith_spec hcode
  cases Option.some.inj (hn8.symm.trans hnamed)
  cases hmethM.symm.trans hmethM'
  obtain ⟨c2, r2, m2, q1, q2, q3, q4, kP, hkP, hkPi⟩ := Cond.selects_spec hsel
  cases hcls.symm.trans q1
  cases (State.methodFound?_of_named hnamed hy).symm.trans q2
  cases hnamed.symm.trans q3
  have hselP : selectMethod e.platform s.vm cellB.cls mk = .method mk := by rw [Launch.admits_selectMethod X.admits]; exact q4
  obtain ⟨vm₁, X₁, hstep₁⟩ := X.invokevirtual hexec hown hlink hnamed hmethM hstM hkP hkPi hy (a := b) (cell := cellB) hcell
    (fun z h => by rw [h] at hobj; cases hobj) hselP hmethM habM hkP hkPi (g := g) hg (argsL := argsL) (rest := rest) (hlen _ hsigM) hstack hdg
  obtain ⟨v, B, X', hpost, hsteps⟩ := hK m meth c ⟨T.setVm vm₁, locs, cells, slots⟩ { g with stack := rest } (.invokevirtual index) mk (Value.ref b :: argsL).toArray X₁ hg hsize hdg hW (X₁.named hnamed) (hpre vm₁ X₁.warmed)
  exact ⟨v, vm₁, B, X₁.warmed, X', hpost, fun target h => hstep₁ _ fun acts => by rw [doInvoke_state]; exact hsteps.trans h⟩
abbrev vx_CVW (R : Room) (s : State) (args : Array Value) (own C : String) (index : Nat) (y : MethodName) (bytes : ByteArray) (maxL : Nat) (ret : Option FieldType) (hh : List (Nat × Nat × Nat × Nat)) (ws : List Cond) (rm : Room) (mc ms n : Nat) : Prop :=
  (rm.cells = mc ∧ rm.slots = ms ∧ rm.frames + 1 ≤ R.frames ∧ 8 + (maxL + 11) + rm.locals ≤ R.locals ∧ (∀ w ∈ ws, ∀ (a' : Array Value) (U : State), s.WarmedH U.vm → w.before a' U = true) ∧ Cond.codeWith y bytes maxL ret hh ∈ ws) ∧
  (Cond.codeWith y bytes maxL ret hh).before args s = true ∧ (Cond.initialized y.cls).before args s = true ∧ (y.cls ≠ "java/lang/invoke/MethodHandle" ∧ y.cls ≠ "java/lang/invoke/VarHandle") ∧
  (∀ sig, parseMethodDescriptor y.desc = some sig → n = sig.parameters.length) ∧ (Cond.methodLink own index y).before args s = true ∧ (Cond.instanceMethod y).before args s = true ∧ (Cond.selects C y y).before args s = true
theorem vx_cwVW {own C : String} {index maxL mc ms : Nat} {y : MethodName} {bytes : ByteArray} {ret : Option FieldType} {hh : List (Nat × Nat × Nat × Nat)} {Ts ws ws' : List Cond} {rm : Room} (n : Nat) (ht : ∀ w ∈ Ts, w.before args s = true) (hT : GoodIn Ts (wsV own index C y ws)) (hw : ws = Cond.codeWith y bytes maxL ret hh :: ws') (hrc : rm.cells = mc) (hrs : rm.slots = ms)
    (hd : y.cls = C ∧ y.cls ≠ "java/lang/invoke/MethodHandle" ∧ y.cls ≠ "java/lang/invoke/VarHandle" ∧ (parseMethodDescriptor y.desc).map (fun d => d.parameters.length) = some n) (hR : rm.frames + 1 ≤ R.frames ∧ 8 + (maxL + 11) + rm.locals ≤ R.locals) :
    vx_CVW R s args own C index y bytes maxL ret hh ws rm mc ms n := by
  obtain ⟨hC, hd⟩ := hd
  subst hC
  have ok : ∀ w ∈ wsV own index y.cls y ws, w.before args s = true := fun w h => ht w (hT w h).1
  have hG : GoodIn Ts ws := fun w h => hT w (by unfold wsV; exact List.mem_append_right _ h)
  have hc : Cond.codeWith y bytes maxL ret hh ∈ ws := by rw [hw]; exact List.mem_cons_self
  refine ⟨⟨hrc, hrs, hR.1, hR.2, pay_in ht hG, hc⟩, ht _ (hG _ hc).1, ok _ (by simp [wsV]), ⟨hd.1, hd.2.1⟩, fun sig h => ?_, ok _ (by simp [wsV]), ok _ (by simp [wsV]), ok _ (by simp [wsV])⟩
  have h2 := hd.2.2
  rw [h] at h2
  exact (Option.some.inj h2).symm
theorem vx_runVW {y : MethodName} {bytes cc : ByteArray} {maxL nL mc ms n index : Nat} {ret : Option FieldType} {hh : List (Nat × Nat × Nat × Nat)} {ws : List Cond} {rm : Room} {Pc : Array Value → State → Prop} {Qc : Array Value → State → Outcome → State → Prop} {free : Addr → Prop} {Ts : List Cond} {own C : String} {b : Addr} {As rest : List Value} {g : JFrame}
    (S : CallFix p m c cc nL s args Ts own) (hM : Met l y ws rm Pc Qc mc ms free) (cw : vx_CVW R s args own C index y bytes maxL ret hh ws rm mc ms n) (hp : PreV s H C b Pc As)
    (hg : g.method = m) (hn : As.length = n) (hsize : g.locals.size = nL) (hstack : g.stack = As.reverse ++ .ref b :: rest) (hW : 2 * g.monitorRoom + (rest.map fun v => v.category).sum ≤ 8) (hdg : decode cc g.pc = .ok (.invokevirtual index, 3)) (hf : cells + mc ≤ R.cells ∧ slots + ms ≤ R.slots) :
    va_Run p l e R s m args below meth c H locs cells slots mc ms g rest (Qc (Value.ref b :: As).toArray) free := by
  obtain ⟨⟨hrc, hrs, hfr, hlo, hws, hcw⟩, hcode, hini, hy, hlen, hl, hin, hse⟩ := cw
  have hK : Back l R p e below s args y 3 8 (PreOf R mc ms Pc) (PostOf Qc mc ms free) := va_backW (hh := hh) (bytes := bytes) (maxL := maxL) (ret := ret) hM hp.1 hrc hrs hfr hlo hws hcw (fun a' U hW => word_at hW (Or.inl (by first | rfl | simp [Cond.onTables, Cond.keeps, Cond.steady])) hini)
  obtain ⟨hx, hb, hml, ho, -⟩ := S
  obtain ⟨-, ⟨cellB, hcB, hoB, hclB⟩, hPc⟩ := hp
  intro T hT X
  obtain ⟨v, vm₁, ⟨U', l2, c2, s2⟩, hW₁, X', ⟨g', mk, t, L, e1, e2, hq, h1, hL, h2, h3⟩, st⟩ := vx_callVW X hx (C := C) (hh := hh) (bytes := bytes) (maxL := maxL) (ret := ret) ho hl hin hse hcode hy hK (by rw [hT]; exact hcB) hoB hclB hg (hsize.trans hml.symm) (argsL := As) (rest := rest) (fun sig h => hn.trans (hlen sig h)) hstack hW (by rw [hb]; exact hdg)
    (fun vm₁ hW₁ => ⟨hf.1, hf.2, hPc (T.setVm vm₁) hT hW₁⟩)
  dsimp only [Pt.U, Pt.locs, Pt.cells, Pt.slots] at X' e1 e2 h1 h2 h3 st
  subst h1; subst h2; subst h3
  exact ⟨v, (T.setVm vm₁).calling g' mk (Value.ref b :: As).toArray, t, U', L, hT, X', hL, e1, e2, hq, st⟩
section
variable {y : MethodName} {bytes cc : ByteArray} {maxL nL mc ms n index : Nat} {ret : Option FieldType} {ws : List Cond} {rm : Room} {Pc : Array Value → State → Prop} {Qc : Array Value → State → Outcome → State → Prop} {XC : String → State → State → Prop} {free : Addr → Prop} {Ts : List Cond} {own C : String} {b : Addr} {As rest : List Value} {g : JFrame}
theorem vx_runVX {hh : List (Nat × Nat × Nat × Nat)} (S : CallFix p m c cc nL s args Ts own) (hM : vx_Met l y ws rm Pc Qc XC mc ms free) (cw : vx_CVW R s args own C index y bytes maxL ret hh ws rm mc ms n) (hp : PreV s H C b Pc As)
    (hg : g.method = m) (hn : As.length = n) (hsize : g.locals.size = nL) (hstack : g.stack = As.reverse ++ .ref b :: rest) (hW : 2 * g.monitorRoom + (rest.map fun v => v.category).sum ≤ 8) (hdg : decode cc g.pc = .ok (.invokevirtual index, 3)) (hf : cells + mc ≤ R.cells ∧ slots + ms ≤ R.slots) :
    vx_Run p l e R s m args below meth c H locs cells slots mc ms g rest (Qc (Value.ref b :: As).toArray) XC free := by
  obtain ⟨⟨hrc, hrs, hfr, hlo, hws, hcw⟩, hcode, hini, hy, hlen, hl, hin, hse⟩ := cw
  have hK : vx_Back l R p e below s args y 3 8 (PreOf R mc ms Pc) (PostOf Qc mc ms free) (vx_Post XC mc ms free) := vx_backW (hh := hh) (bytes := bytes) (maxL := maxL) (ret := ret) hM hp.1 hrc hrs hfr hlo hws hcw (fun a' U hW => word_at hW (Or.inl (by first | rfl | simp [Cond.onTables, Cond.keeps, Cond.steady])) hini)
  obtain ⟨hx, hb, hml, ho, -⟩ := S
  obtain ⟨-, ⟨cellB, hcB, hoB, hclB⟩, hPc⟩ := hp
  intro T hT X
  rcases vx_callVX X hx (C := C) (hh := hh) (bytes := bytes) (maxL := maxL) (ret := ret) ho hl hin hse hcode hy hK (by rw [hT]; exact hcB) hoB hclB hg (hsize.trans hml.symm) (argsL := As) (rest := rest) (fun sig h => hn.trans (hlen sig h)) hstack hW (by rw [hb]; exact hdg)
    (fun vm₁ hW₁ => ⟨hf.1, hf.2, hPc (T.setVm vm₁) hT hW₁⟩) with ⟨v, vm₁, ⟨U', l2, c2, s2⟩, hW₁, X', ⟨g', mk, t, L, e1, e2, hq, h1, hL, h2, h3⟩, st⟩ | ⟨q, vm₁, ⟨U', l2, c2, s2⟩, hW₁, X', ⟨g', mk, t, L, E, ce, e1, e2, hq, hce, hcv, hcl, h1, hL, h2, h3⟩, st⟩
  · dsimp only [Pt.U, Pt.locs, Pt.cells, Pt.slots] at X' e1 e2 h1 h2 h3 st
    subst h1; subst h2; subst h3
    exact Or.inl ⟨v, (T.setVm vm₁).calling g' mk (Value.ref b :: As).toArray, t, U', L, hT, X', hL, e1, e2, hq, st⟩
  · dsimp only [Pt.U, Pt.locs, Pt.cells, Pt.slots] at X' e1 e2 h1 h2 h3 st hcl
    subst h1; subst h2; subst h3
    exact Or.inr ⟨q, (T.setVm vm₁).calling g' mk (Value.ref b :: As).toArray, t, U', L, E, ce, hT, X', hL, e1, e2, hq, hce, hcv, vx_cls hW₁ hcl, st⟩
theorem vx_runSX {hh : List (Nat × Nat × Nat × Nat)} (S : CallFix p m c cc nL s args Ts own) (hM : vx_Met l y ws rm Pc Qc XC mc ms free) (cw : vx_CSW R s args own index y bytes maxL ret hh ws rm mc ms n) (hp : PreS s H Pc As)
    (hg : g.method = m) (hn : As.length = n) (hsize : g.locals.size = nL) (hstack : g.stack = As.reverse ++ rest) (hW : 2 * g.monitorRoom + (rest.map fun v => v.category).sum ≤ 8) (hdg : decode cc g.pc = .ok (.invokestatic index, 3)) (hf : cells + mc ≤ R.cells ∧ slots + ms ≤ R.slots) :
    vx_Run p l e R s m args below meth c H locs cells slots mc ms g rest (Qc As.toArray) XC free := by
  obtain ⟨⟨hrc, hrs, hfr, hlo, hws, hcw⟩, hcode, hini, hy, hlen, hl, hstt⟩ := cw
  have hK : vx_Back l R p e below s args y 3 8 (PreOf R mc ms Pc) (PostOf Qc mc ms free) (vx_Post XC mc ms free) := vx_backW (hh := hh) (bytes := bytes) (maxL := maxL) (ret := ret) hM hp.1 hrc hrs hfr hlo hws hcw (fun a' U hW => word_at hW (Or.inl (by first | rfl | simp [Cond.onTables, Cond.keeps, Cond.steady])) hini)
  obtain ⟨hx, hb, hml, ho, -⟩ := S
  intro T hT X
  rcases vx_callSX X hx (hh := hh) (bytes := bytes) (maxL := maxL) (ret := ret) ho hl hstt hini hcode hy hK hg (hsize.trans hml.symm) (argsL := As) (rest := rest) (fun sig h => hn.trans (hlen sig h)) hstack hW (by rw [hb]; exact hdg)
    (fun vm₁ hW₁ => ⟨hf.1, hf.2, hp.2 (T.setVm vm₁) hT hW₁⟩) with ⟨v, vm₁, ⟨U', l2, c2, s2⟩, hW₁, X', ⟨g', mk, t, L, e1, e2, hq, h1, hL, h2, h3⟩, st⟩ | ⟨q, vm₁, ⟨U', l2, c2, s2⟩, hW₁, X', ⟨g', mk, t, L, E, ce, e1, e2, hq, hce, hcv, hcl, h1, hL, h2, h3⟩, st⟩
  · dsimp only [Pt.U, Pt.locs, Pt.cells, Pt.slots] at X' e1 e2 h1 h2 h3 st
    subst h1; subst h2; subst h3
    exact Or.inl ⟨v, (T.setVm vm₁).calling g' mk As.toArray, t, U', L, hT, X', hL, e1, e2, hq, st⟩
  · dsimp only [Pt.U, Pt.locs, Pt.cells, Pt.slots] at X' e1 e2 h1 h2 h3 st hcl
    subst h1; subst h2; subst h3
    exact Or.inr ⟨q, (T.setVm vm₁).calling g' mk As.toArray, t, U', L, E, ce, hT, X', hL, e1, e2, hq, hce, hcv, vx_cls hW₁ hcl, st⟩
end
end VXH
theorem vx_ofWH {l : Launch} {y : MethodName} {ws ws' : List Cond} {rm : Room} {Pc : Array Value → State → Prop} {Qc : Array Value → State → Outcome → State → Prop} {XC : String → State → State → Prop} {mc ms : Nat} {free : Addr → Prop} {cc : ByteArray} {maxL : Nat} {ret : Option FieldType} {hh : List (Nat × Nat × Nat × Nat)}
    (hy : plainName y.cls = true) (hw : ws = Cond.codeWith y cc maxL ret hh :: ws')
    (body : ∀ p e s m args below meth c s₁, BodyLoose p l y (headSpec ws rm) cc maxL ret e s m args below meth c s₁ → c.maxLocals = maxL → Pc args s →
      W p l e (headSpec ws rm).room s m args below meth c s.heap [] 0 0 (vx_MQ below Qc XC args s mc ms free) (entryFrame m args maxL)) : vx_Met l y ws rm Pc Qc XC mc ms free := by
  refine MetFree.of_bodyS (code := cc) (maxLocals := maxL) (ret := ret) hy ?_ ?_
  · intro args s m h hn
    obtain ⟨m9, meth, c, hn9, h1, h2, h3, h4, -, h5, h6, -⟩ := Cond.codeWith_spec (atoms_spec (ws := ws) h _ (by rw [hw]; exact List.mem_cons_self))
    cases hn.symm.trans hn9
    exact ⟨meth, c, h1, h2, h3, h4, h5, h6⟩
  · intro p e s m args below meth c s₁ B hml hP _
    have hh0 : s₁.heap = s.heap := by rw [B.state]; rfl
    obtain ⟨t, a1, o, b1, b2, b3⟩ := body p e s m args below meth c s₁ B hml hP s₁ hh0 (Stand.of_body B)
    exact ⟨t, o, a1, b1, b2, b3⟩
/-! ===== END ===== -/

/-! ===== BEGIN printed: names, fields, word lists, decode rows ===== -/
end
section
def RX0 : String := "CaskYard$Blend"
def TX0 : u_T := fun k => match k with
  | 0 => ("CaskYard$Blend", "a", "I", false)
  | 1 => ("CaskYard$Blend", "b", "I", false)
  | 2 => ("CaskYard$Blend", "tenths", "I", false)
  | 3 => ("CaskYard$Blend", "mixedTaste", "I", false)
  | _ => ("CaskYard$Blend", "difference", "I", false)
def tyX0 : Nat → FieldType := fun k => match k with
  | 0 => .int
  | 1 => .int
  | 2 => .int
  | 3 => .int
  | _ => .int
abbrev wsX00 : List Cond := u_ws RX0 TX0 5
theorem nmX0 : ∀ a, a < 5 → ∀ b, b < 5 → a ≠ b → (TX0 a).2.1 ≠ (TX0 b).2.1 := by decide +kernel
theorem tyX0_ok : ∀ k, k < 5 → parseFieldDescriptor (TX0 k).2.2.1 = some (tyX0 k) := by decide +kernel
abbrev cX0_init : ByteArray := prog_2_method_1_code
def yX0_init : MethodName := ⟨RX0, "<init>", "()V"⟩
abbrev cX0_clear : ByteArray := prog_2_method_2_code
def yX0_clear : MethodName := ⟨RX0, "clear", "()V"⟩
abbrev cX0_offer : ByteArray := prog_2_method_3_code
def yX0_offer : MethodName := ⟨RX0, "offer", "(IIIII)V"⟩
def RX1 : String := "CaskYard$Cask"
def TX1 : u_T := fun k => match k with
  | 0 => ("CaskYard$Cask", "sort", "I", false)
  | 1 => ("CaskYard$Cask", "room", "I", false)
  | 2 => ("CaskYard$Cask", "sound", "Z", false)
  | 3 => ("CaskYard$Cask", "flaws", "I", false)
  | 4 => ("CaskYard$Cask", "hoops", "I", false)
  | 5 => ("CaskYard$Cask", "swelling", "I", false)
  | 6 => ("CaskYard$Cask", "fillings", "I", false)
  | 7 => ("CaskYard$Cask", "airMonths", "I", false)
  | 8 => ("CaskYard$Cask", "grains", "I", false)
  | 9 => ("CaskYard$Cask", "tensions", "[I", true)
  | _ => ("CaskYard$Cask", "amounts", "[I", true)
def tyX1 : Nat → FieldType := fun k => match k with
  | 0 => .int
  | 1 => .int
  | 2 => .boolean
  | 3 => .int
  | 4 => .int
  | 5 => .int
  | 6 => .int
  | 7 => .int
  | 8 => .int
  | 9 => .array .int
  | _ => .array .int
abbrev wsX10 : List Cond := u_ws RX1 TX1 11
theorem nmX1 : ∀ a, a < 11 → ∀ b, b < 11 → a ≠ b → (TX1 a).2.1 ≠ (TX1 b).2.1 := by decide +kernel
theorem tyX1_ok : ∀ k, k < 11 → parseFieldDescriptor (TX1 k).2.2.1 = some (tyX1 k) := by decide +kernel
abbrev cX1_init : ByteArray := prog_3_method_1_code
def yX1_init : MethodName := ⟨RX1, "<init>", "()V"⟩
abbrev cX1_clear : ByteArray := prog_3_method_2_code
def yX1_clear : MethodName := ⟨RX1, "clear", "()V"⟩
abbrev cX1_copyFrom : ByteArray := prog_3_method_3_code
def yX1_copyFrom : MethodName := ⟨RX1, "copyFrom", "(LCaskYard$Cask;)V"⟩
abbrev cX1_putOnHoops : ByteArray := prog_3_method_4_code
def yX1_putOnHoops : MethodName := ⟨RX1, "putOnHoops", "(I)V"⟩
abbrev cX1_held : ByteArray := prog_3_method_5_code
def yX1_held : MethodName := ⟨RX1, "held", "()I"⟩
abbrev cX1_allTensions : ByteArray := prog_3_method_6_code
def yX1_allTensions : MethodName := ⟨RX1, "allTensions", "()I"⟩
abbrev cX1_leak : ByteArray := prog_3_method_7_code
def yX1_leak : MethodName := ⟨RX1, "leak", "()I"⟩
abbrev cX1_tasteOfOak : ByteArray := prog_3_method_8_code
def yX1_tasteOfOak : MethodName := ⟨RX1, "tasteOfOak", "()I"⟩
abbrev cX1_canBeBlended : ByteArray := prog_3_method_9_code
def yX1_canBeBlended : MethodName := ⟨RX1, "canBeBlended", "()Z"⟩
abbrev cX1_countFilling : ByteArray := prog_3_method_10_code
def yX1_countFilling : MethodName := ⟨RX1, "countFilling", "()V"⟩
abbrev cX1_live : ByteArray := prog_3_method_11_code
def yX1_live : MethodName := ⟨RX1, "live", "(IZ)I"⟩
abbrev cX1_takeOak : ByteArray := prog_3_method_12_code
def yX1_takeOak : MethodName := ⟨RX1, "takeOak", "()V"⟩
abbrev cX1_swell : ByteArray := prog_3_method_13_code
def yX1_swell : MethodName := ⟨RX1, "swell", "()V"⟩
abbrev cX1_lose : ByteArray := prog_3_method_14_code
def yX1_lose : MethodName := ⟨RX1, "lose", "(I)I"⟩
abbrev cX1_takeAir : ByteArray := prog_3_method_15_code
def yX1_takeAir : MethodName := ⟨RX1, "takeAir", "()V"⟩
abbrev cX1_loosen : ByteArray := prog_3_method_16_code
def yX1_loosen : MethodName := ⟨RX1, "loosen", "()V"⟩
abbrev cX1_moveTo : ByteArray := prog_3_method_17_code
def yX1_moveTo : MethodName := ⟨RX1, "moveTo", "(LCaskYard$Cask;II)V"⟩
abbrev cX1_moveLiquid : ByteArray := prog_3_method_18_code
def yX1_moveLiquid : MethodName := ⟨RX1, "moveLiquid", "(LCaskYard$Cask;II)V"⟩
def RX2 : String := "CaskYard"
def TX2 : u_T := fun k => match k with
  | 0 => ("CaskYard", "widths", "[I", true)
  | 1 => ("CaskYard", "drynesses", "[I", true)
  | 2 => ("CaskYard", "places", "[I", true)
  | 3 => ("CaskYard", "staveCount", "I", false)
  | 4 => ("CaskYard", "girths", "[I", true)
  | 5 => ("CaskYard", "rooms", "[I", true)
  | 6 => ("CaskYard", "hoopNumbers", "[I", true)
  | 7 => ("CaskYard", "sortCount", "I", false)
  | 8 => ("CaskYard", "casks", "[LCaskYard$Cask;", true)
  | 9 => ("CaskYard", "caskCount", "I", false)
  | 10 => ("CaskYard", "spare", "LCaskYard$Cask;", true)
  | 11 => ("CaskYard", "sets", "[J", true)
  | 12 => ("CaskYard", "sizes", "[I", true)
  | 13 => ("CaskYard", "best", "LCaskYard$Blend;", true)
  | 14 => ("CaskYard", "month", "I", false)
  | 15 => ("CaskYard", "lostInAll", "I", false)
  | _ => ("CaskYard", "warmthNow", "I", false)
def tyX2 : Nat → FieldType := fun k => match k with
  | 0 => .array .int
  | 1 => .array .int
  | 2 => .array .int
  | 3 => .int
  | 4 => .array .int
  | 5 => .array .int
  | 6 => .array .int
  | 7 => .int
  | 8 => .array (.object "CaskYard$Cask")
  | 9 => .int
  | 10 => .object "CaskYard$Cask"
  | 11 => .array .long
  | 12 => .array .int
  | 13 => .object "CaskYard$Blend"
  | 14 => .int
  | 15 => .int
  | _ => .int
abbrev wsX20 : List Cond := u_ws RX2 TX2 17
theorem nmX2 : ∀ a, a < 17 → ∀ b, b < 17 → a ≠ b → (TX2 a).2.1 ≠ (TX2 b).2.1 := by decide +kernel
theorem tyX2_ok : ∀ k, k < 17 → parseFieldDescriptor (TX2 k).2.2.1 = some (tyX2 k) := by decide +kernel
abbrev cX2_init : ByteArray := prog_1_method_1_code
def yX2_init : MethodName := ⟨RX2, "<init>", "()V"⟩
abbrev cX2_addStave : ByteArray := prog_1_method_2_code
def yX2_addStave : MethodName := ⟨RX2, "addStave", "(II)I"⟩
abbrev cX2_stave : ByteArray := prog_1_method_3_code
def yX2_stave : MethodName := ⟨RX2, "stave", "(II)I"⟩
abbrev cX2_addSort : ByteArray := prog_1_method_4_code
def yX2_addSort : MethodName := ⟨RX2, "addSort", "(III)I"⟩
abbrev cX2_choose : ByteArray := prog_1_method_5_code
def yX2_choose : MethodName := ⟨RX2, "choose", "(II)I"⟩
abbrev cX2_raise : ByteArray := prog_1_method_6_code
def yX2_raise : MethodName := ⟨RX2, "raise", "(I)I"⟩
abbrev cX2_drive : ByteArray := prog_1_method_7_code
def yX2_drive : MethodName := ⟨RX2, "drive", "(III)I"⟩
abbrev cX2_mend : ByteArray := prog_1_method_8_code
def yX2_mend : MethodName := ⟨RX2, "mend", "(II)I"⟩
abbrev cX2_breakUp : ByteArray := prog_1_method_9_code
def yX2_breakUp : MethodName := ⟨RX2, "breakUp", "(I)I"⟩
abbrev cX2_cask : ByteArray := prog_1_method_10_code
def yX2_cask : MethodName := ⟨RX2, "cask", "(II)I"⟩
abbrev cX2_fill : ByteArray := prog_1_method_11_code
def yX2_fill : MethodName := ⟨RX2, "fill", "(III)I"⟩
abbrev cX2_rack : ByteArray := prog_1_method_12_code
def yX2_rack : MethodName := ⟨RX2, "rack", "(III)I"⟩
abbrev cX2_setWarmth : ByteArray := prog_1_method_13_code
def yX2_setWarmth : MethodName := ⟨RX2, "setWarmth", "(I)I"⟩
abbrev cX2_pass : ByteArray := prog_1_method_14_code
def yX2_pass : MethodName := ⟨RX2, "pass", "(I)I"⟩
abbrev cX2_count : ByteArray := prog_1_method_15_code
def yX2_count : MethodName := ⟨RX2, "count", "(I)I"⟩
abbrev cX2_foresee : ByteArray := prog_1_method_16_code
def yX2_foresee : MethodName := ⟨RX2, "foresee", "(III)I"⟩
abbrev cX2_blend : ByteArray := prog_1_method_17_code
def yX2_blend : MethodName := ⟨RX2, "blend", "(II)I"⟩
abbrev cX2_taste : ByteArray := prog_1_method_18_code
def yX2_taste : MethodName := ⟨RX2, "taste", "()D"⟩
abbrev cX2_digest : ByteArray := prog_1_method_19_code
def yX2_digest : MethodName := ⟨RX2, "digest", "()J"⟩
abbrev cX2_isStave : ByteArray := prog_1_method_20_code
def yX2_isStave : MethodName := ⟨RX2, "isStave", "(I)Z"⟩
abbrev cX2_isSort : ByteArray := prog_1_method_21_code
def yX2_isSort : MethodName := ⟨RX2, "isSort", "(I)Z"⟩
abbrev cX2_isCask : ByteArray := prog_1_method_22_code
def yX2_isCask : MethodName := ⟨RX2, "isCask", "(I)Z"⟩
abbrev cX2_isUsable : ByteArray := prog_1_method_23_code
def yX2_isUsable : MethodName := ⟨RX2, "isUsable", "(I)Z"⟩
abbrev cX2_flawsOf : ByteArray := prog_1_method_24_code
def yX2_flawsOf : MethodName := ⟨RX2, "flawsOf", "(I)I"⟩
abbrev cX2_stavesAt : ByteArray := prog_1_method_25_code
def yX2_stavesAt : MethodName := ⟨RX2, "stavesAt", "(I)I"⟩
abbrev cX2_lastStaveIn : ByteArray := prog_1_method_26_code
def yX2_lastStaveIn : MethodName := ⟨RX2, "lastStaveIn", "(I)I"⟩
abbrev cX2_findSet : ByteArray := prog_1_method_27_code
def yX2_findSet : MethodName := ⟨RX2, "findSet", "(I)J"⟩
abbrev cX2_addToSets : ByteArray := prog_1_method_28_code
def yX2_addToSets : MethodName := ⟨RX2, "addToSets", "(II)V"⟩
abbrev cX2_memberOf : ByteArray := prog_1_method_29_code
def yX2_memberOf : MethodName := ⟨RX2, "memberOf", "(JI)I"⟩
abbrev cX2_isIn : ByteArray := prog_1_method_30_code
def yX2_isIn : MethodName := ⟨RX2, "isIn", "(JI)Z"⟩
abbrev cX2_putStavesIn : ByteArray := prog_1_method_31_code
def yX2_putStavesIn : MethodName := ⟨RX2, "putStavesIn", "(JI)I"⟩
abbrev cX2_takeStavesOutOf : ByteArray := prog_1_method_32_code
def yX2_takeStavesOutOf : MethodName := ⟨RX2, "takeStavesOutOf", "(I)V"⟩
abbrev cX2_tellOfCask : ByteArray := prog_1_method_33_code
def yX2_tellOfCask : MethodName := ⟨RX2, "tellOfCask", "(II)I"⟩
abbrev cX2_soundCasks : ByteArray := prog_1_method_34_code
def yX2_soundCasks : MethodName := ⟨RX2, "soundCasks", "()I"⟩
abbrev cX2_heldByAll : ByteArray := prog_1_method_35_code
def yX2_heldByAll : MethodName := ⟨RX2, "heldByAll", "()I"⟩
abbrev cX2_vinegarOfAll : ByteArray := prog_1_method_36_code
def yX2_vinegarOfAll : MethodName := ⟨RX2, "vinegarOfAll", "()I"⟩
abbrev cX2_hoopsLoosenIn : ByteArray := prog_1_method_37_code
def yX2_hoopsLoosenIn : MethodName := ⟨RX2, "hoopsLoosenIn", "(I)Z"⟩
abbrev cX2_liveMonth : ByteArray := prog_1_method_38_code
def yX2_liveMonth : MethodName := ⟨RX2, "liveMonth", "()I"⟩
abbrev cX2_findBestBlend : ByteArray := prog_1_method_39_code
def yX2_findBestBlend : MethodName := ⟨RX2, "findBestBlend", "(I)V"⟩
abbrev cX2_offerBlends : ByteArray := prog_1_method_40_code
def yX2_offerBlends : MethodName := ⟨RX2, "offerBlends", "(III)V"⟩
abbrev cX2_digestCask : ByteArray := prog_1_method_41_code
def yX2_digestCask : MethodName := ⟨RX2, "digestCask", "(JI)J"⟩
def RX3 : String := "CaskYardModel"
def TX3 : u_T := fun k => match k with
  | 0 => ("CaskYardModel", "thrown", "I", false)
  | 1 => ("CaskYardModel", "month", "I", false)
  | 2 => ("CaskYardModel", "warmth", "I", false)
  | 3 => ("CaskYardModel", "lost", "I", false)
  | 4 => ("CaskYardModel", "staves", "I", false)
  | 5 => ("CaskYardModel", "width", "[I", true)
  | 6 => ("CaskYardModel", "dryness", "[I", true)
  | 7 => ("CaskYardModel", "where", "[I", true)
  | 8 => ("CaskYardModel", "sorts", "I", false)
  | 9 => ("CaskYardModel", "girth", "[I", true)
  | 10 => ("CaskYardModel", "room", "[I", true)
  | 11 => ("CaskYardModel", "hoops", "[I", true)
  | 12 => ("CaskYardModel", "casks", "I", false)
  | 13 => ("CaskYardModel", "sort", "[I", true)
  | 14 => ("CaskYardModel", "isSound", "[Z", true)
  | 15 => ("CaskYardModel", "flaws", "[I", true)
  | 16 => ("CaskYardModel", "tension", "[I", true)
  | 17 => ("CaskYardModel", "swelling", "[I", true)
  | 18 => ("CaskYardModel", "fillings", "[I", true)
  | 19 => ("CaskYardModel", "air", "[I", true)
  | 20 => ("CaskYardModel", "holds", "[I", true)
  | 21 => ("CaskYardModel", "grains", "[I", true)
  | 22 => ("CaskYardModel", "fewest", "[I", true)
  | 23 => ("CaskYardModel", "chosen", "I", false)
  | _ => ("CaskYardModel", "choice", "[I", true)
def tyX3 : Nat → FieldType := fun k => match k with
  | 0 => .int
  | 1 => .int
  | 2 => .int
  | 3 => .int
  | 4 => .int
  | 5 => .array .int
  | 6 => .array .int
  | 7 => .array .int
  | 8 => .int
  | 9 => .array .int
  | 10 => .array .int
  | 11 => .array .int
  | 12 => .int
  | 13 => .array .int
  | 14 => .array .boolean
  | 15 => .array .int
  | 16 => .array .int
  | 17 => .array .int
  | 18 => .array .int
  | 19 => .array .int
  | 20 => .array .int
  | 21 => .array .int
  | 22 => .array .int
  | 23 => .int
  | _ => .array .int
abbrev wsX30 : List Cond := u_ws RX3 TX3 25
theorem nmX3 : ∀ a, a < 25 → ∀ b, b < 25 → a ≠ b → (TX3 a).2.1 ≠ (TX3 b).2.1 := by decide +kernel
theorem tyX3_ok : ∀ k, k < 25 → parseFieldDescriptor (TX3 k).2.2.1 = some (tyX3 k) := by decide +kernel
abbrev cX3_init : ByteArray := prog_5_method_1_code
def yX3_init : MethodName := ⟨RX3, "<init>", "()V"⟩
abbrev cX3_thrown : ByteArray := prog_5_method_2_code
def yX3_thrown : MethodName := ⟨RX3, "thrown", "()I"⟩
abbrev cX3_no : ByteArray := prog_5_method_3_code
def yX3_no : MethodName := ⟨RX3, "no", "(I)I"⟩
abbrev cX3_isIn : ByteArray := prog_5_method_4_code
def yX3_isIn : MethodName := ⟨RX3, "isIn", "(III)Z"⟩
abbrev cX3_addStave : ByteArray := prog_5_method_5_code
def yX3_addStave : MethodName := ⟨RX3, "addStave", "(II)I"⟩
abbrev cX3_isStave : ByteArray := prog_5_method_6_code
def yX3_isStave : MethodName := ⟨RX3, "isStave", "(I)Z"⟩
abbrev cX3_staveTold : ByteArray := prog_5_method_7_code
def yX3_staveTold : MethodName := ⟨RX3, "staveTold", "(II)I"⟩
abbrev cX3_stave : ByteArray := prog_5_method_8_code
def yX3_stave : MethodName := ⟨RX3, "stave", "(II)I"⟩
abbrev cX3_addSort : ByteArray := prog_5_method_9_code
def yX3_addSort : MethodName := ⟨RX3, "addSort", "(III)I"⟩
abbrev cX3_isSort : ByteArray := prog_5_method_10_code
def yX3_isSort : MethodName := ⟨RX3, "isSort", "(I)Z"⟩
abbrev cX3_isReady : ByteArray := prog_5_method_11_code
def yX3_isReady : MethodName := ⟨RX3, "isReady", "(I)Z"⟩
abbrev cX3_find : ByteArray := prog_5_method_12_code
def yX3_find : MethodName := ⟨RX3, "find", "(I)Z"⟩
abbrev cX3_choose : ByteArray := prog_5_method_13_code
def yX3_choose : MethodName := ⟨RX3, "choose", "(II)I"⟩
abbrev cX3_raise : ByteArray := prog_5_method_14_code
def yX3_raise : MethodName := ⟨RX3, "raise", "(I)I"⟩
abbrev cX3_isCask : ByteArray := prog_5_method_15_code
def yX3_isCask : MethodName := ⟨RX3, "isCask", "(I)Z"⟩
abbrev cX3_hoopsOf : ByteArray := prog_5_method_16_code
def yX3_hoopsOf : MethodName := ⟨RX3, "hoopsOf", "(I)I"⟩
abbrev cX3_tensions : ByteArray := prog_5_method_17_code
def yX3_tensions : MethodName := ⟨RX3, "tensions", "(I)I"⟩
abbrev cX3_all : ByteArray := prog_5_method_18_code
def yX3_all : MethodName := ⟨RX3, "all", "(I)I"⟩
abbrev cX3_drive : ByteArray := prog_5_method_19_code
def yX3_drive : MethodName := ⟨RX3, "drive", "(III)I"⟩
abbrev cX3_lastStave : ByteArray := prog_5_method_20_code
def yX3_lastStave : MethodName := ⟨RX3, "lastStave", "(I)I"⟩
abbrev cX3_mend : ByteArray := prog_5_method_21_code
def yX3_mend : MethodName := ⟨RX3, "mend", "(II)I"⟩
abbrev cX3_breakUp : ByteArray := prog_5_method_22_code
def yX3_breakUp : MethodName := ⟨RX3, "breakUp", "(I)I"⟩
abbrev cX3_stavesOf : ByteArray := prog_5_method_23_code
def yX3_stavesOf : MethodName := ⟨RX3, "stavesOf", "(I)I"⟩
abbrev cX3_leak : ByteArray := prog_5_method_24_code
def yX3_leak : MethodName := ⟨RX3, "leak", "(I)I"⟩
abbrev cX3_caskTold : ByteArray := prog_5_method_25_code
def yX3_caskTold : MethodName := ⟨RX3, "caskTold", "(II)I"⟩
abbrev cX3_cask : ByteArray := prog_5_method_26_code
def yX3_cask : MethodName := ⟨RX3, "cask", "(II)I"⟩
abbrev cX3_beginFilling : ByteArray := prog_5_method_27_code
def yX3_beginFilling : MethodName := ⟨RX3, "beginFilling", "(I)V"⟩
abbrev cX3_fill : ByteArray := prog_5_method_28_code
def yX3_fill : MethodName := ⟨RX3, "fill", "(III)I"⟩
abbrev cX3_rack : ByteArray := prog_5_method_29_code
def yX3_rack : MethodName := ⟨RX3, "rack", "(III)I"⟩
abbrev cX3_setWarmth : ByteArray := prog_5_method_30_code
def yX3_setWarmth : MethodName := ⟨RX3, "setWarmth", "(I)I"⟩
abbrev cX3_pass : ByteArray := prog_5_method_31_code
def yX3_pass : MethodName := ⟨RX3, "pass", "(II)I"⟩
abbrev cX3_pass_ : ByteArray := prog_5_method_32_code
def yX3_pass_ : MethodName := ⟨RX3, "pass", "(I)I"⟩
abbrev cX3_counted : ByteArray := prog_5_method_33_code
def yX3_counted : MethodName := ⟨RX3, "counted", "(I)I"⟩
abbrev cX3_count : ByteArray := prog_5_method_34_code
def yX3_count : MethodName := ⟨RX3, "count", "(I)I"⟩
abbrev cX3_foreseen : ByteArray := prog_5_method_35_code
def yX3_foreseen : MethodName := ⟨RX3, "foreseen", "(II)I"⟩
abbrev cX3_foresee : ByteArray := prog_5_method_36_code
def yX3_foresee : MethodName := ⟨RX3, "foresee", "(III)I"⟩
abbrev cX3_canBlend : ByteArray := prog_5_method_37_code
def yX3_canBlend : MethodName := ⟨RX3, "canBlend", "(I)Z"⟩
abbrev cX3_tasteOf : ByteArray := prog_5_method_38_code
def yX3_tasteOf : MethodName := ⟨RX3, "tasteOf", "(I)J"⟩
abbrev cX3_blend : ByteArray := prog_5_method_39_code
def yX3_blend : MethodName := ⟨RX3, "blend", "(II)I"⟩
abbrev cX3_taste : ByteArray := prog_5_method_40_code
def yX3_taste : MethodName := ⟨RX3, "taste", "()D"⟩
abbrev cX3_digest : ByteArray := prog_5_method_41_code
def yX3_digest : MethodName := ⟨RX3, "digest", "()J"⟩
def RJx145de : String := "java/io/Serializable"
def TJx145de : u_T := fun k => match k with
  | _ => ("", "", "", false)
def tyJx145de : Nat → FieldType := fun k => match k with
  | _ => .int
abbrev wsJx145de0 : List Cond := u_ws RJx145de TJx145de 0
theorem nmJx145de : ∀ a, a < 0 → ∀ b, b < 0 → a ≠ b → (TJx145de a).2.1 ≠ (TJx145de b).2.1 := by decide +kernel
theorem tyJx145de_ok : ∀ k, k < 0 → parseFieldDescriptor (TJx145de k).2.2.1 = some (tyJx145de k) := by decide +kernel
def RJ9 : String := "java/lang/Math"
def TJ9 : u_T := fun k => match k with
  | _ => ("", "", "", false)
def tyJ9 : Nat → FieldType := fun k => match k with
  | _ => .int
abbrev wsJ90 : List Cond := u_ws RJ9 TJ9 0
theorem nmJ9 : ∀ a, a < 0 → ∀ b, b < 0 → a ≠ b → (TJ9 a).2.1 ≠ (TJ9 b).2.1 := by decide +kernel
theorem tyJ9_ok : ∀ k, k < 0 → parseFieldDescriptor (TJ9 k).2.2.1 = some (tyJ9 k) := by decide +kernel
abbrev cJ9_abs_0f7a4 : ByteArray := prog_10_method_59_code
def yJ9_abs_0f7a4 : MethodName := ⟨RJ9, "abs", "(I)I"⟩
abbrev cJ9_abs_067f4 : ByteArray := prog_10_method_61_code
def yJ9_abs_067f4 : MethodName := ⟨RJ9, "abs", "(J)J"⟩
abbrev cJ9_max_7cf53 : ByteArray := prog_10_method_65_code
def yJ9_max_7cf53 : MethodName := ⟨RJ9, "max", "(II)I"⟩
abbrev cJ9_max_f86c9 : ByteArray := prog_10_method_66_code
def yJ9_max_f86c9 : MethodName := ⟨RJ9, "max", "(JJ)J"⟩
abbrev cJ9_min_7cf53 : ByteArray := prog_10_method_69_code
def yJ9_min_7cf53 : MethodName := ⟨RJ9, "min", "(II)I"⟩
abbrev cJ9_min_f86c9 : ByteArray := prog_10_method_70_code
def yJ9_min_f86c9 : MethodName := ⟨RJ9, "min", "(JJ)J"⟩
def RJ0 : String := "java/lang/String"
def TJ0 : u_T := fun k => match k with
  | _ => ("", "", "", false)
def tyJ0 : Nat → FieldType := fun k => match k with
  | _ => .int
abbrev wsJ00 : List Cond := u_ws RJ0 TJ0 0
theorem nmJ0 : ∀ a, a < 0 → ∀ b, b < 0 → a ≠ b → (TJ0 a).2.1 ≠ (TJ0 b).2.1 := by decide +kernel
theorem tyJ0_ok : ∀ k, k < 0 → parseFieldDescriptor (TJ0 k).2.2.1 = some (tyJ0 k) := by decide +kernel
def RJ10 : String := "java/lang/System"
def TJ10 : u_T := fun k => match k with
  | _ => ("", "", "", false)
def tyJ10 : Nat → FieldType := fun k => match k with
  | _ => .int
abbrev wsJ100 : List Cond := u_ws RJ10 TJ10 0
theorem nmJ10 : ∀ a, a < 0 → ∀ b, b < 0 → a ≠ b → (TJ10 a).2.1 ≠ (TJ10 b).2.1 := by decide +kernel
theorem tyJ10_ok : ∀ k, k < 0 → parseFieldDescriptor (TJ10 k).2.2.1 = some (tyJ10 k) := by decide +kernel
def RJ7 : String := "java/util/Arrays"
def TJ7 : u_T := fun k => match k with
  | _ => ("", "", "", false)
def tyJ7 : Nat → FieldType := fun k => match k with
  | _ => .int
abbrev wsJ70 : List Cond := u_ws RJ7 TJ7 0
theorem nmJ7 : ∀ a, a < 0 → ∀ b, b < 0 → a ≠ b → (TJ7 a).2.1 ≠ (TJ7 b).2.1 := by decide +kernel
theorem tyJ7_ok : ∀ k, k < 0 → parseFieldDescriptor (TJ7 k).2.2.1 = some (tyJ7 k) := by decide +kernel
abbrev cJ7_fill_d0a16 : ByteArray := prog_15_method_101_code
def yJ7_fill_d0a16 : MethodName := ⟨RJ7, "fill", "([JJ)V"⟩
abbrev cJ7_fill_53178 : ByteArray := prog_15_method_103_code
def yJ7_fill_53178 : MethodName := ⟨RJ7, "fill", "([II)V"⟩
def RL : String := "CaskYardLaw"
abbrev cL_addStave : ByteArray := method_3_code
def yL_addStave : MethodName := ⟨RL, "addStave", "(LCaskYard;II[J)I"⟩
abbrev cL_stave : ByteArray := method_4_code
def yL_stave : MethodName := ⟨RL, "stave", "(LCaskYard;II[J)I"⟩
abbrev cL_addSort : ByteArray := method_5_code
def yL_addSort : MethodName := ⟨RL, "addSort", "(LCaskYard;III[J)I"⟩
abbrev cL_choose : ByteArray := method_6_code
def yL_choose : MethodName := ⟨RL, "choose", "(LCaskYard;II[J)I"⟩
abbrev cL_raise : ByteArray := method_7_code
def yL_raise : MethodName := ⟨RL, "raise", "(LCaskYard;I[J)I"⟩
abbrev cL_drive : ByteArray := method_8_code
def yL_drive : MethodName := ⟨RL, "drive", "(LCaskYard;III[J)I"⟩
abbrev cL_mend : ByteArray := method_9_code
def yL_mend : MethodName := ⟨RL, "mend", "(LCaskYard;II[J)I"⟩
abbrev cL_breakUp : ByteArray := method_10_code
def yL_breakUp : MethodName := ⟨RL, "breakUp", "(LCaskYard;I[J)I"⟩
abbrev cL_cask : ByteArray := method_11_code
def yL_cask : MethodName := ⟨RL, "cask", "(LCaskYard;II[J)I"⟩
abbrev cL_fill : ByteArray := method_12_code
def yL_fill : MethodName := ⟨RL, "fill", "(LCaskYard;III[J)I"⟩
abbrev cL_rack : ByteArray := method_13_code
def yL_rack : MethodName := ⟨RL, "rack", "(LCaskYard;III[J)I"⟩
abbrev cL_setWarmth : ByteArray := method_14_code
def yL_setWarmth : MethodName := ⟨RL, "setWarmth", "(LCaskYard;I[J)I"⟩
abbrev cL_pass : ByteArray := method_15_code
def yL_pass : MethodName := ⟨RL, "pass", "(LCaskYard;I[J)I"⟩
abbrev cL_count : ByteArray := method_16_code
def yL_count : MethodName := ⟨RL, "count", "(LCaskYard;I[J)I"⟩
abbrev cL_foresee : ByteArray := method_17_code
def yL_foresee : MethodName := ⟨RL, "foresee", "(LCaskYard;III[J)I"⟩
abbrev cL_blend : ByteArray := method_18_code
def yL_blend : MethodName := ⟨RL, "blend", "(LCaskYard;II[J)I"⟩
abbrev cL_law : ByteArray := code
def yL_law : MethodName := ⟨RL, "law", "([I)Z"⟩
def wsX0_init : List Cond := .code yX0_init cX0_init 1 none :: ([.methodLink RX0 3 objectInit, .instanceMethod objectInit, .code objectInit ⟨#[0xb1]⟩ 1 none])
def wsX0_clear : List Cond := .code yX0_clear cX0_clear 1 none :: ([.fieldLink RX0 9 "CaskYard$Blend" "a" "I", .fieldLink RX0 15 "CaskYard$Blend" "b" "I", .fieldLink RX0 18 "CaskYard$Blend" "tenths" "I", .fieldLink RX0 21 "CaskYard$Blend" "mixedTaste" "I", .fieldLink RX0 24 "CaskYard$Blend" "difference" "I"] ++ wsX00)
def wsX0_offer : List Cond := .code yX0_offer cX0_offer 7 none :: ([.methodLink RX0 27 Lib.Math.abs.name, .static Lib.Math.abs.name, .initialized "java/lang/Math", .code Lib.Math.abs.name Lib.Math.abs.code 1 (some .int), .fieldLink RX0 9 "CaskYard$Blend" "a" "I", .fieldLink RX0 24 "CaskYard$Blend" "difference" "I", .fieldLink RX0 15 "CaskYard$Blend" "b" "I", .fieldLink RX0 18 "CaskYard$Blend" "tenths" "I", .fieldLink RX0 21 "CaskYard$Blend" "mixedTaste" "I"] ++ wsX00)
def wsX1_init : List Cond := .code yX1_init cX1_init 1 none :: ([.methodLink RX1 3 objectInit, .instanceMethod objectInit, .code objectInit ⟨#[0xb1]⟩ 1 none, .arrayClass .int, .fieldLink RX1 9 "CaskYard$Cask" "tensions" "[I", .fieldLink RX1 15 "CaskYard$Cask" "amounts" "[I"] ++ wsX10)
def wsJ7_fill_53178 : List Cond := .code yJ7_fill_53178 cJ7_fill_53178 4 none :: ([])
def wsX1_clear : List Cond := .code yX1_clear cX1_clear 1 none :: ([.fieldLink RX1 18 "CaskYard$Cask" "sound" "Z", .fieldLink RX1 22 "CaskYard$Cask" "flaws" "I", .fieldLink RX1 26 "CaskYard$Cask" "hoops" "I", .fieldLink RX1 29 "CaskYard$Cask" "swelling" "I", .fieldLink RX1 32 "CaskYard$Cask" "fillings" "I", .fieldLink RX1 35 "CaskYard$Cask" "airMonths" "I", .fieldLink RX1 38 "CaskYard$Cask" "grains" "I", .fieldLink RX1 9 "CaskYard$Cask" "tensions" "[I", .fieldLink RX1 15 "CaskYard$Cask" "amounts" "[I", .methodLink RX1 41 yJ7_fill_53178, .static yJ7_fill_53178, .initialized RJ7, .code yJ7_fill_53178 cJ7_fill_53178 4 none] ++ wsX10)
def wsX1_copyFrom : List Cond := .code yX1_copyFrom cX1_copyFrom 2 none :: ([.fieldLink RX1 47 "CaskYard$Cask" "sort" "I", .fieldLink RX1 50 "CaskYard$Cask" "room" "I", .fieldLink RX1 18 "CaskYard$Cask" "sound" "Z", .fieldLink RX1 22 "CaskYard$Cask" "flaws" "I", .fieldLink RX1 26 "CaskYard$Cask" "hoops" "I", .fieldLink RX1 29 "CaskYard$Cask" "swelling" "I", .fieldLink RX1 32 "CaskYard$Cask" "fillings" "I", .fieldLink RX1 35 "CaskYard$Cask" "airMonths" "I", .fieldLink RX1 38 "CaskYard$Cask" "grains" "I", .fieldLink RX1 9 "CaskYard$Cask" "tensions" "[I", .methodLink RX1 53 arraycopyName, .native arraycopyName, .static arraycopyName, .initialized "java/lang/System", .fieldLink RX1 15 "CaskYard$Cask" "amounts" "[I"] ++ wsX10)
def wsX1_putOnHoops : List Cond := .code yX1_putOnHoops cX1_putOnHoops 3 none :: ([.fieldLink RX1 26 "CaskYard$Cask" "hoops" "I", .fieldLink RX1 9 "CaskYard$Cask" "tensions" "[I"] ++ wsX10)
def wsX1_held : List Cond := .code yX1_held cX1_held 3 (some .int) :: ([.fieldLink RX1 15 "CaskYard$Cask" "amounts" "[I"] ++ wsX10)
def wsX1_allTensions : List Cond := .code yX1_allTensions cX1_allTensions 3 (some .int) :: ([.fieldLink RX1 9 "CaskYard$Cask" "tensions" "[I"] ++ wsX10)
def wsX1_leak : List Cond := .code yX1_leak cX1_leak 1 (some .int) :: ([.fieldLink RX1 18 "CaskYard$Cask" "sound" "Z", .fieldLink RX1 22 "CaskYard$Cask" "flaws" "I", .fieldLink RX1 29 "CaskYard$Cask" "swelling" "I", .methodLink RX1 63 Lib.Math.max.name, .static Lib.Math.max.name, .initialized "java/lang/Math", .code Lib.Math.max.name Lib.Math.max.code 2 (some .int), .methodLink RX1 59 yX1_allTensions, .instanceMethod yX1_allTensions, .selects RX1 yX1_allTensions yX1_allTensions, .initialized RX1, .code yX1_allTensions cX1_allTensions 3 (some .int), .fieldLink RX1 9 "CaskYard$Cask" "tensions" "[I"] ++ wsX10)
def wsX1_tasteOfOak : List Cond := .code yX1_tasteOfOak cX1_tasteOfOak 2 (some .int) :: ([.constantLong RX1 72 (1000000), .fieldLink RX1 38 "CaskYard$Cask" "grains" "I", .constantLong RX1 74 (1000), .methodLink RX1 76 Lib.MathLoose.min_long.x, .static Lib.MathLoose.min_long.x, .initialized "java/lang/Math", .code Lib.MathLoose.min_long.x Lib.MathLoose.min_long.code 4 (some .long), .methodLink RX1 69 yX1_held, .instanceMethod yX1_held, .selects RX1 yX1_held yX1_held, .initialized RX1, .code yX1_held cX1_held 3 (some .int), .fieldLink RX1 15 "CaskYard$Cask" "amounts" "[I"] ++ wsX10)
def wsX1_canBeBlended : List Cond := .code yX1_canBeBlended cX1_canBeBlended 1 (some .boolean) :: ([.fieldLink RX1 18 "CaskYard$Cask" "sound" "Z", .fieldLink RX1 15 "CaskYard$Cask" "amounts" "[I", .methodLink RX1 69 yX1_held, .instanceMethod yX1_held, .selects RX1 yX1_held yX1_held, .initialized RX1, .code yX1_held cX1_held 3 (some .int)] ++ wsX10)
def wsX1_countFilling : List Cond := .code yX1_countFilling cX1_countFilling 1 none :: ([.fieldLink RX1 32 "CaskYard$Cask" "fillings" "I", .methodLink RX1 69 yX1_held, .instanceMethod yX1_held, .selects RX1 yX1_held yX1_held, .initialized RX1, .code yX1_held cX1_held 3 (some .int), .fieldLink RX1 15 "CaskYard$Cask" "amounts" "[I"] ++ wsX10)
def wsX1_takeOak : List Cond := .code yX1_takeOak cX1_takeOak 2 none :: ([.fieldLink RX1 32 "CaskYard$Cask" "fillings" "I", .fieldLink RX1 38 "CaskYard$Cask" "grains" "I", .methodLink RX1 69 yX1_held, .instanceMethod yX1_held, .selects RX1 yX1_held yX1_held, .initialized RX1, .code yX1_held cX1_held 3 (some .int), .fieldLink RX1 15 "CaskYard$Cask" "amounts" "[I"] ++ wsX10)
def wsX1_swell : List Cond := .code yX1_swell cX1_swell 1 none :: ([.fieldLink RX1 50 "CaskYard$Cask" "room" "I", .fieldLink RX1 29 "CaskYard$Cask" "swelling" "I", .methodLink RX1 99 Lib.Math.min.name, .static Lib.Math.min.name, .initialized "java/lang/Math", .code Lib.Math.min.name Lib.Math.min.code 2 (some .int), .methodLink RX1 63 Lib.Math.max.name, .static Lib.Math.max.name, .code Lib.Math.max.name Lib.Math.max.code 2 (some .int), .methodLink RX1 69 yX1_held, .instanceMethod yX1_held, .selects RX1 yX1_held yX1_held, .initialized RX1, .code yX1_held cX1_held 3 (some .int), .fieldLink RX1 15 "CaskYard$Cask" "amounts" "[I"] ++ wsX10)
def wsX1_lose : List Cond := .code yX1_lose cX1_lose 8 (some .int) :: ([.fieldLink RX1 15 "CaskYard$Cask" "amounts" "[I", .constantLong RX1 74 (1000), .methodLink RX1 101 Lib.MathLoose.max_long.x, .static Lib.MathLoose.max_long.x, .initialized "java/lang/Math", .code Lib.MathLoose.max_long.x Lib.MathLoose.max_long.code 4 (some .long), .methodLink RX1 76 Lib.MathLoose.min_long.x, .static Lib.MathLoose.min_long.x, .code Lib.MathLoose.min_long.x Lib.MathLoose.min_long.code 4 (some .long)] ++ wsX10)
def wsX1_takeAir : List Cond := .code yX1_takeAir cX1_takeAir 2 none :: ([.fieldLink RX1 50 "CaskYard$Cask" "room" "I", .fieldLink RX1 35 "CaskYard$Cask" "airMonths" "I", .fieldLink RX1 15 "CaskYard$Cask" "amounts" "[I", .methodLink RX1 69 yX1_held, .instanceMethod yX1_held, .selects RX1 yX1_held yX1_held, .initialized RX1, .code yX1_held cX1_held 3 (some .int), .methodLink RX1 41 yJ7_fill_53178, .static yJ7_fill_53178, .initialized RJ7, .code yJ7_fill_53178 cJ7_fill_53178 4 none] ++ wsX10)
def wsX1_loosen : List Cond := .code yX1_loosen cX1_loosen 2 none :: ([.fieldLink RX1 9 "CaskYard$Cask" "tensions" "[I", .methodLink RX1 63 Lib.Math.max.name, .static Lib.Math.max.name, .initialized "java/lang/Math", .code Lib.Math.max.name Lib.Math.max.code 2 (some .int)] ++ wsX10)
def wsX1_live_r1 : List Cond := [Cond.fieldLink RX1 18 "CaskYard$Cask" "sound" "Z", Cond.methodLink RX1 80 yX1_takeOak, Cond.instanceMethod yX1_takeOak, Cond.selects RX1 yX1_takeOak yX1_takeOak, Cond.initialized RX1, Cond.code yX1_takeOak cX1_takeOak 2 none, Cond.fieldLink RX1 32 "CaskYard$Cask" "fillings" "I", Cond.fieldLink RX1 38 "CaskYard$Cask" "grains" "I", Cond.methodLink RX1 69 yX1_held, Cond.instanceMethod yX1_held, Cond.selects RX1 yX1_held yX1_held, Cond.code yX1_held cX1_held 3 (some .int), Cond.fieldLink RX1 15 "CaskYard$Cask" "amounts" "[I", Cond.methodLink RX1 83 yX1_swell, Cond.instanceMethod yX1_swell, Cond.selects RX1 yX1_swell yX1_swell, Cond.code yX1_swell cX1_swell 1 none, Cond.fieldLink RX1 50 "CaskYard$Cask" "room" "I", Cond.fieldLink RX1 29 "CaskYard$Cask" "swelling" "I", Cond.methodLink RX1 99 Lib.Math.min.name, Cond.static Lib.Math.min.name, Cond.initialized "java/lang/Math", Cond.code Lib.Math.min.name Lib.Math.min.code 2 (some .int), Cond.methodLink RX1 63 Lib.Math.max.name]
def wsX1_live_r2 : List Cond := [Cond.static Lib.Math.max.name, Cond.code Lib.Math.max.name Lib.Math.max.code 2 (some .int), Cond.methodLink RX1 86 yX1_leak, Cond.instanceMethod yX1_leak, Cond.selects RX1 yX1_leak yX1_leak, Cond.code yX1_leak cX1_leak 1 (some .int), Cond.fieldLink RX1 22 "CaskYard$Cask" "flaws" "I", Cond.methodLink RX1 59 yX1_allTensions, Cond.instanceMethod yX1_allTensions, Cond.selects RX1 yX1_allTensions yX1_allTensions, Cond.code yX1_allTensions cX1_allTensions 3 (some .int), Cond.fieldLink RX1 9 "CaskYard$Cask" "tensions" "[I", Cond.methodLink RX1 89 yX1_lose, Cond.instanceMethod yX1_lose, Cond.selects RX1 yX1_lose yX1_lose, Cond.code yX1_lose cX1_lose 8 (some .int), Cond.constantLong RX1 74 (1000), Cond.methodLink RX1 101 Lib.MathLoose.max_long.x, Cond.static Lib.MathLoose.max_long.x, Cond.code Lib.MathLoose.max_long.x Lib.MathLoose.max_long.code 4 (some .long), Cond.methodLink RX1 76 Lib.MathLoose.min_long.x, Cond.static Lib.MathLoose.min_long.x, Cond.code Lib.MathLoose.min_long.x Lib.MathLoose.min_long.code 4 (some .long), Cond.methodLink RX1 93 yX1_takeAir]
def wsX1_live_r3 : List Cond := [Cond.instanceMethod yX1_takeAir, Cond.selects RX1 yX1_takeAir yX1_takeAir, Cond.code yX1_takeAir cX1_takeAir 2 none, Cond.fieldLink RX1 35 "CaskYard$Cask" "airMonths" "I", Cond.methodLink RX1 41 yJ7_fill_53178, Cond.static yJ7_fill_53178, Cond.initialized RJ7, Cond.code yJ7_fill_53178 cJ7_fill_53178 4 none, Cond.methodLink RX1 96 yX1_loosen, Cond.instanceMethod yX1_loosen, Cond.selects RX1 yX1_loosen yX1_loosen, Cond.code yX1_loosen cX1_loosen 2 none]
def wsX1_live : List Cond := .code yX1_live cX1_live 4 (some .int) :: ((wsX1_live_r1 ++ (wsX1_live_r2 ++ wsX1_live_r3)) ++ wsX10)
def wsX1_moveLiquid : List Cond := .code yX1_moveLiquid cX1_moveLiquid 4 none :: ([.fieldLink RX1 15 "CaskYard$Cask" "amounts" "[I"] ++ wsX10)
def wsX1_moveTo : List Cond := .code yX1_moveTo cX1_moveTo 7 none :: ([.fieldLink RX1 15 "CaskYard$Cask" "amounts" "[I", .fieldLink RX1 38 "CaskYard$Cask" "grains" "I", .methodLink RX1 103 yX1_moveLiquid, .instanceMethod yX1_moveLiquid, .selects RX1 yX1_moveLiquid yX1_moveLiquid, .initialized RX1, .code yX1_moveLiquid cX1_moveLiquid 4 none] ++ wsX10)
def wsX2_init_r1 : List Cond := [Cond.methodLink RX2 1 objectInit, Cond.instanceMethod objectInit, Cond.code objectInit ⟨#[0xb1]⟩ 1 none, Cond.arrayClass .int, Cond.fieldLink RX2 9 "CaskYard" "widths" "[I", Cond.fieldLink RX2 13 "CaskYard" "drynesses" "[I", Cond.fieldLink RX2 16 "CaskYard" "places" "[I", Cond.fieldLink RX2 19 "CaskYard" "girths" "[I", Cond.fieldLink RX2 22 "CaskYard" "rooms" "[I", Cond.fieldLink RX2 25 "CaskYard" "hoopNumbers" "[I", Cond.classLink RX2 28 RX1, Cond.fieldLink RX2 30 "CaskYard" "casks" "[LCaskYard$Cask;", Cond.instantiable RX1 11, Cond.initialized RX1, Cond.fieldLink RX2 35 "CaskYard" "spare" "LCaskYard$Cask;", Cond.arrayClass .long, Cond.fieldLink RX2 39 "CaskYard" "sets" "[J", Cond.fieldLink RX2 43 "CaskYard" "sizes" "[I", Cond.classLink RX2 46 RX0, Cond.instantiable RX0 5, Cond.initialized RX0, Cond.fieldLink RX2 49 "CaskYard" "best" "LCaskYard$Blend;", Cond.fieldLink RX2 53 "CaskYard" "warmthNow" "I", Cond.instanceMethod yX1_init]
def wsX2_init_r2 : List Cond := [Cond.code yX1_init cX1_init 1 none, Cond.methodLink RX1 3 objectInit, Cond.fieldLink RX1 9 "CaskYard$Cask" "tensions" "[I", Cond.fieldLink RX1 15 "CaskYard$Cask" "amounts" "[I", Cond.instanceMethod yX0_init, Cond.code yX0_init cX0_init 1 none, Cond.methodLink RX0 3 objectInit]
def wsX2_init : List Cond := .code yX2_init cX2_init 2 none :: ((wsX2_init_r1 ++ wsX2_init_r2) ++ wsX20 ++ wsX10 ++ wsX00)
def wsX2_addStave : List Cond := .code yX2_addStave cX2_addStave 3 (some .int) :: ([.classLink RX2 57 "java/lang/IllegalArgumentException", .initialized "java/lang/IllegalArgumentException", .classLink RX2 69 "java/lang/IllegalStateException", .initialized "java/lang/IllegalStateException", .fieldLink RX2 66 "CaskYard" "staveCount" "I", .fieldLink RX2 9 "CaskYard" "widths" "[I", .fieldLink RX2 13 "CaskYard" "drynesses" "[I", .fieldLink RX2 16 "CaskYard" "places" "[I"] ++ wsX20 ++ (vx_atS RX2 61 "java/lang/IllegalArgumentException" ["java/lang/RuntimeException", "java/lang/Exception"]).filter goodWord ++ (vx_atS RX2 73 "java/lang/IllegalStateException" ["java/lang/RuntimeException", "java/lang/Exception"]).filter goodWord)
def wsX2_isStave : List Cond := .code yX2_isStave cX2_isStave 2 (some .boolean) :: ([.fieldLink RX2 66 "CaskYard" "staveCount" "I"] ++ wsX20)
def wsX2_stave : List Cond := .code yX2_stave cX2_stave 3 (some .int) :: ([.classLink RX2 78 "java/lang/IndexOutOfBoundsException", .initialized "java/lang/IndexOutOfBoundsException", .fieldLink RX2 9 "CaskYard" "widths" "[I", .fieldLink RX2 13 "CaskYard" "drynesses" "[I", .fieldLink RX2 16 "CaskYard" "places" "[I", .methodLink RX2 74 yX2_isStave, .instanceMethod yX2_isStave, .selects RX2 yX2_isStave yX2_isStave, .initialized RX2, .code yX2_isStave cX2_isStave 2 (some .boolean), .fieldLink RX2 66 "CaskYard" "staveCount" "I"] ++ wsX20 ++ (vx_atS RX2 82 "java/lang/IndexOutOfBoundsException" ["java/lang/RuntimeException", "java/lang/Exception"]).filter goodWord)
def wsX2_addSort : List Cond := .code yX2_addSort cX2_addSort 4 (some .int) :: ([.classLink RX2 57 "java/lang/IllegalArgumentException", .initialized "java/lang/IllegalArgumentException", .classLink RX2 69 "java/lang/IllegalStateException", .initialized "java/lang/IllegalStateException", .constant RX2 87 (60000), .fieldLink RX2 92 "CaskYard" "sortCount" "I", .fieldLink RX2 19 "CaskYard" "girths" "[I", .fieldLink RX2 22 "CaskYard" "rooms" "[I", .fieldLink RX2 25 "CaskYard" "hoopNumbers" "[I"] ++ wsX20 ++ (vx_atS RX2 61 "java/lang/IllegalArgumentException" ["java/lang/RuntimeException", "java/lang/Exception"]).filter goodWord ++ (vx_atS RX2 73 "java/lang/IllegalStateException" ["java/lang/RuntimeException", "java/lang/Exception"]).filter goodWord)
def wsX2_isSort : List Cond := .code yX2_isSort cX2_isSort 2 (some .boolean) :: ([.fieldLink RX2 92 "CaskYard" "sortCount" "I"] ++ wsX20)
def wsJ7_fill_d0a16 : List Cond := .code yJ7_fill_d0a16 cJ7_fill_d0a16 5 none :: ([])
def wsX2_isUsable : List Cond := .code yX2_isUsable cX2_isUsable 2 (some .boolean) :: ([.fieldLink RX2 16 "CaskYard" "places" "[I", .fieldLink RX2 13 "CaskYard" "drynesses" "[I"] ++ wsX20)
def wsX2_addToSets : List Cond := .code yX2_addToSets cX2_addToSets 6 none :: ([.fieldLink RX2 9 "CaskYard" "widths" "[I", .fieldLink RX2 43 "CaskYard" "sizes" "[I", .fieldLink RX2 39 "CaskYard" "sets" "[J"] ++ wsX20)
def wsX2_findSet : List Cond := .code yX2_findSet cX2_findSet 5 (some .long) :: ([.fieldLink RX2 39 "CaskYard" "sets" "[J", .constantLong RX2 108 (-1), .fieldLink RX2 43 "CaskYard" "sizes" "[I", .fieldLink RX2 66 "CaskYard" "staveCount" "I", .methodLink RX2 298 yJ7_fill_d0a16, .static yJ7_fill_d0a16, .initialized RJ7, .code yJ7_fill_d0a16 cJ7_fill_d0a16 5 none, .methodLink RX2 304 yJ7_fill_53178, .static yJ7_fill_53178, .code yJ7_fill_53178 cJ7_fill_53178 4 none, .methodLink RX2 307 yX2_isUsable, .instanceMethod yX2_isUsable, .selects RX2 yX2_isUsable yX2_isUsable, .initialized RX2, .code yX2_isUsable cX2_isUsable 2 (some .boolean), .fieldLink RX2 16 "CaskYard" "places" "[I", .fieldLink RX2 13 "CaskYard" "drynesses" "[I", .methodLink RX2 310 yX2_addToSets, .instanceMethod yX2_addToSets, .selects RX2 yX2_addToSets yX2_addToSets, .code yX2_addToSets cX2_addToSets 6 none, .fieldLink RX2 9 "CaskYard" "widths" "[I"] ++ wsX20)
def wsX2_isIn : List Cond := .code yX2_isIn cX2_isIn 3 (some .boolean) :: ([])
def wsX2_memberOf : List Cond := .code yX2_memberOf cX2_memberOf 6 (some .int) :: ([.fieldLink RX2 66 "CaskYard" "staveCount" "I", .methodLink RX2 314 yX2_isIn, .static yX2_isIn, .initialized RX2, .code yX2_isIn cX2_isIn 3 (some .boolean)] ++ wsX20)
def wsX2_choose_r1 : List Cond := [Cond.classLink RX2 78 "java/lang/IndexOutOfBoundsException", Cond.initialized "java/lang/IndexOutOfBoundsException", Cond.fieldLink RX2 19 "CaskYard" "girths" "[I", Cond.constantLong RX2 108 (-1), Cond.methodLink RX2 97 yX2_isSort, Cond.instanceMethod yX2_isSort, Cond.selects RX2 yX2_isSort yX2_isSort, Cond.initialized RX2, Cond.code yX2_isSort cX2_isSort 2 (some .boolean), Cond.fieldLink RX2 92 "CaskYard" "sortCount" "I", Cond.methodLink RX2 104 yX2_findSet, Cond.instanceMethod yX2_findSet, Cond.selects RX2 yX2_findSet yX2_findSet, Cond.code yX2_findSet cX2_findSet 5 (some .long), Cond.fieldLink RX2 39 "CaskYard" "sets" "[J", Cond.fieldLink RX2 43 "CaskYard" "sizes" "[I", Cond.fieldLink RX2 66 "CaskYard" "staveCount" "I", Cond.methodLink RX2 298 yJ7_fill_d0a16, Cond.static yJ7_fill_d0a16, Cond.initialized RJ7, Cond.code yJ7_fill_d0a16 cJ7_fill_d0a16 5 none, Cond.methodLink RX2 304 yJ7_fill_53178, Cond.static yJ7_fill_53178, Cond.code yJ7_fill_53178 cJ7_fill_53178 4 none]
def wsX2_choose_r2 : List Cond := [Cond.methodLink RX2 307 yX2_isUsable, Cond.instanceMethod yX2_isUsable, Cond.selects RX2 yX2_isUsable yX2_isUsable, Cond.code yX2_isUsable cX2_isUsable 2 (some .boolean), Cond.fieldLink RX2 16 "CaskYard" "places" "[I", Cond.fieldLink RX2 13 "CaskYard" "drynesses" "[I", Cond.methodLink RX2 310 yX2_addToSets, Cond.instanceMethod yX2_addToSets, Cond.selects RX2 yX2_addToSets yX2_addToSets, Cond.code yX2_addToSets cX2_addToSets 6 none, Cond.fieldLink RX2 9 "CaskYard" "widths" "[I", Cond.methodLink RX2 110 yX2_memberOf, Cond.instanceMethod yX2_memberOf, Cond.selects RX2 yX2_memberOf yX2_memberOf, Cond.code yX2_memberOf cX2_memberOf 6 (some .int), Cond.methodLink RX2 314 yX2_isIn, Cond.static yX2_isIn, Cond.code yX2_isIn cX2_isIn 3 (some .boolean)]
def wsX2_choose : List Cond := .code yX2_choose cX2_choose 5 (some .int) :: ((wsX2_choose_r1 ++ wsX2_choose_r2) ++ wsX20 ++ (vx_atS RX2 82 "java/lang/IndexOutOfBoundsException" ["java/lang/RuntimeException", "java/lang/Exception"]).filter goodWord)
def wsX2_flawsOf : List Cond := .code yX2_flawsOf cX2_flawsOf 2 (some .int) :: ([.fieldLink RX2 13 "CaskYard" "drynesses" "[I"] ++ wsX20)
def wsX2_putStavesIn : List Cond := .code yX2_putStavesIn cX2_putStavesIn 6 (some .int) :: ([.fieldLink RX2 66 "CaskYard" "staveCount" "I", .fieldLink RX2 16 "CaskYard" "places" "[I", .methodLink RX2 314 yX2_isIn, .static yX2_isIn, .initialized RX2, .code yX2_isIn cX2_isIn 3 (some .boolean), .methodLink RX2 181 yX2_flawsOf, .instanceMethod yX2_flawsOf, .selects RX2 yX2_flawsOf yX2_flawsOf, .code yX2_flawsOf cX2_flawsOf 2 (some .int), .fieldLink RX2 13 "CaskYard" "drynesses" "[I"] ++ wsX20)
def wsX2_raise_r1 : List Cond := [Cond.classLink RX2 78 "java/lang/IndexOutOfBoundsException", Cond.initialized "java/lang/IndexOutOfBoundsException", Cond.classLink RX2 69 "java/lang/IllegalStateException", Cond.initialized "java/lang/IllegalStateException", Cond.fieldLink RX2 114 "CaskYard" "caskCount" "I", Cond.fieldLink RX2 19 "CaskYard" "girths" "[I", Cond.constantLong RX2 108 (-1), Cond.fieldLink RX2 30 "CaskYard" "casks" "[LCaskYard$Cask;", Cond.fieldLink RX2 121 "CaskYard$Cask" "sort" "I", Cond.fieldLink RX2 22 "CaskYard" "rooms" "[I", Cond.fieldLink RX2 124 "CaskYard$Cask" "room" "I", Cond.fieldLink RX2 127 "CaskYard$Cask" "sound" "Z", Cond.fieldLink RX2 25 "CaskYard" "hoopNumbers" "[I", Cond.fieldLink RX2 138 "CaskYard$Cask" "flaws" "I", Cond.methodLink RX2 97 yX2_isSort, Cond.instanceMethod yX2_isSort, Cond.selects RX2 yX2_isSort yX2_isSort, Cond.initialized RX2, Cond.code yX2_isSort cX2_isSort 2 (some .boolean), Cond.fieldLink RX2 92 "CaskYard" "sortCount" "I", Cond.methodLink RX2 104 yX2_findSet, Cond.instanceMethod yX2_findSet, Cond.selects RX2 yX2_findSet yX2_findSet, Cond.code yX2_findSet cX2_findSet 5 (some .long)]
def wsX2_raise_r2 : List Cond := [Cond.fieldLink RX2 39 "CaskYard" "sets" "[J", Cond.fieldLink RX2 43 "CaskYard" "sizes" "[I", Cond.fieldLink RX2 66 "CaskYard" "staveCount" "I", Cond.methodLink RX2 298 yJ7_fill_d0a16, Cond.static yJ7_fill_d0a16, Cond.initialized RJ7, Cond.code yJ7_fill_d0a16 cJ7_fill_d0a16 5 none, Cond.methodLink RX2 304 yJ7_fill_53178, Cond.static yJ7_fill_53178, Cond.code yJ7_fill_53178 cJ7_fill_53178 4 none, Cond.methodLink RX2 307 yX2_isUsable, Cond.instanceMethod yX2_isUsable, Cond.selects RX2 yX2_isUsable yX2_isUsable, Cond.code yX2_isUsable cX2_isUsable 2 (some .boolean), Cond.fieldLink RX2 16 "CaskYard" "places" "[I", Cond.fieldLink RX2 13 "CaskYard" "drynesses" "[I", Cond.methodLink RX2 310 yX2_addToSets, Cond.instanceMethod yX2_addToSets, Cond.selects RX2 yX2_addToSets yX2_addToSets, Cond.code yX2_addToSets cX2_addToSets 6 none, Cond.fieldLink RX2 9 "CaskYard" "widths" "[I", Cond.methodLink RX2 131 yX1_putOnHoops, Cond.instanceMethod yX1_putOnHoops, Cond.selects RX1 yX1_putOnHoops yX1_putOnHoops]
def wsX2_raise_r3 : List Cond := [Cond.initialized RX1, Cond.code yX1_putOnHoops cX1_putOnHoops 3 none, Cond.fieldLink RX1 26 "CaskYard$Cask" "hoops" "I", Cond.fieldLink RX1 9 "CaskYard$Cask" "tensions" "[I", Cond.methodLink RX2 135 yX2_putStavesIn, Cond.instanceMethod yX2_putStavesIn, Cond.selects RX2 yX2_putStavesIn yX2_putStavesIn, Cond.code yX2_putStavesIn cX2_putStavesIn 6 (some .int), Cond.methodLink RX2 314 yX2_isIn, Cond.static yX2_isIn, Cond.code yX2_isIn cX2_isIn 3 (some .boolean), Cond.methodLink RX2 181 yX2_flawsOf, Cond.instanceMethod yX2_flawsOf, Cond.selects RX2 yX2_flawsOf yX2_flawsOf, Cond.code yX2_flawsOf cX2_flawsOf 2 (some .int)]
def wsX2_raise : List Cond := .code yX2_raise cX2_raise 5 (some .int) :: ((wsX2_raise_r1 ++ (wsX2_raise_r2 ++ wsX2_raise_r3)) ++ wsX20 ++ wsX10 ++ (vx_atS RX2 82 "java/lang/IndexOutOfBoundsException" ["java/lang/RuntimeException", "java/lang/Exception"]).filter goodWord ++ (vx_atS RX2 73 "java/lang/IllegalStateException" ["java/lang/RuntimeException", "java/lang/Exception"]).filter goodWord)
def wsX2_isCask : List Cond := .code yX2_isCask cX2_isCask 2 (some .boolean) :: ([.fieldLink RX2 114 "CaskYard" "caskCount" "I"] ++ wsX20)
def wsX2_drive : List Cond := .code yX2_drive cX2_drive 5 (some .int) :: ([.classLink RX2 78 "java/lang/IndexOutOfBoundsException", .initialized "java/lang/IndexOutOfBoundsException", .classLink RX2 57 "java/lang/IllegalArgumentException", .initialized "java/lang/IllegalArgumentException", .fieldLink RX2 30 "CaskYard" "casks" "[LCaskYard$Cask;", .fieldLink RX2 146 "CaskYard$Cask" "hoops" "I", .fieldLink RX2 153 "CaskYard$Cask" "tensions" "[I", .methodLink RX2 156 Lib.Math.min.name, .static Lib.Math.min.name, .initialized "java/lang/Math", .code Lib.Math.min.name Lib.Math.min.code 2 (some .int), .fieldLink RX2 138 "CaskYard$Cask" "flaws" "I", .methodLink RX2 141 yX2_isCask, .instanceMethod yX2_isCask, .selects RX2 yX2_isCask yX2_isCask, .initialized RX2, .code yX2_isCask cX2_isCask 2 (some .boolean), .fieldLink RX2 114 "CaskYard" "caskCount" "I", .methodLink RX2 162 yX1_allTensions, .instanceMethod yX1_allTensions, .selects RX1 yX1_allTensions yX1_allTensions, .initialized RX1, .code yX1_allTensions cX1_allTensions 3 (some .int), .fieldLink RX1 9 "CaskYard$Cask" "tensions" "[I"] ++ wsX20 ++ wsX10 ++ (vx_atS RX2 82 "java/lang/IndexOutOfBoundsException" ["java/lang/RuntimeException", "java/lang/Exception"]).filter goodWord ++ (vx_atS RX2 61 "java/lang/IllegalArgumentException" ["java/lang/RuntimeException", "java/lang/Exception"]).filter goodWord)
def wsX2_lastStaveIn : List Cond := .code yX2_lastStaveIn cX2_lastStaveIn 3 (some .int) :: ([.fieldLink RX2 66 "CaskYard" "staveCount" "I", .fieldLink RX2 16 "CaskYard" "places" "[I"] ++ wsX20)
def wsX2_mend_r1 : List Cond := [Cond.classLink RX2 78 "java/lang/IndexOutOfBoundsException", Cond.initialized "java/lang/IndexOutOfBoundsException", Cond.classLink RX2 69 "java/lang/IllegalStateException", Cond.initialized "java/lang/IllegalStateException", Cond.fieldLink RX2 30 "CaskYard" "casks" "[LCaskYard$Cask;", Cond.fieldLink RX2 127 "CaskYard$Cask" "sound" "Z", Cond.fieldLink RX2 16 "CaskYard" "places" "[I", Cond.fieldLink RX2 9 "CaskYard" "widths" "[I", Cond.fieldLink RX2 138 "CaskYard$Cask" "flaws" "I", Cond.methodLink RX2 141 yX2_isCask, Cond.instanceMethod yX2_isCask, Cond.selects RX2 yX2_isCask yX2_isCask, Cond.initialized RX2, Cond.code yX2_isCask cX2_isCask 2 (some .boolean), Cond.fieldLink RX2 114 "CaskYard" "caskCount" "I", Cond.methodLink RX2 74 yX2_isStave, Cond.instanceMethod yX2_isStave, Cond.selects RX2 yX2_isStave yX2_isStave, Cond.code yX2_isStave cX2_isStave 2 (some .boolean), Cond.fieldLink RX2 66 "CaskYard" "staveCount" "I", Cond.methodLink RX2 166 yX2_lastStaveIn, Cond.instanceMethod yX2_lastStaveIn, Cond.selects RX2 yX2_lastStaveIn yX2_lastStaveIn, Cond.code yX2_lastStaveIn cX2_lastStaveIn 3 (some .int)]
def wsX2_mend_r2 : List Cond := [Cond.methodLink RX2 172 yX1_held, Cond.instanceMethod yX1_held, Cond.selects RX1 yX1_held yX1_held, Cond.initialized RX1, Cond.code yX1_held cX1_held 3 (some .int), Cond.fieldLink RX1 15 "CaskYard$Cask" "amounts" "[I", Cond.methodLink RX2 181 yX2_flawsOf, Cond.instanceMethod yX2_flawsOf, Cond.selects RX2 yX2_flawsOf yX2_flawsOf, Cond.code yX2_flawsOf cX2_flawsOf 2 (some .int), Cond.fieldLink RX2 13 "CaskYard" "drynesses" "[I"]
def wsX2_mend : List Cond := .code yX2_mend cX2_mend 6 (some .int) :: ((wsX2_mend_r1 ++ wsX2_mend_r2) ++ wsX20 ++ wsX10 ++ (vx_atS RX2 82 "java/lang/IndexOutOfBoundsException" ["java/lang/RuntimeException", "java/lang/Exception"]).filter goodWord ++ (vx_atS RX2 73 "java/lang/IllegalStateException" ["java/lang/RuntimeException", "java/lang/Exception"]).filter goodWord)
def wsX2_takeStavesOutOf : List Cond := .code yX2_takeStavesOutOf cX2_takeStavesOutOf 4 none :: ([.fieldLink RX2 66 "CaskYard" "staveCount" "I", .fieldLink RX2 16 "CaskYard" "places" "[I", .fieldLink RX2 13 "CaskYard" "drynesses" "[I", .methodLink RX2 318 Lib.Math.max.name, .static Lib.Math.max.name, .initialized "java/lang/Math", .code Lib.Math.max.name Lib.Math.max.code 2 (some .int)] ++ wsX20)
def wsX2_breakUp_r1 : List Cond := [Cond.classLink RX2 78 "java/lang/IndexOutOfBoundsException", Cond.initialized "java/lang/IndexOutOfBoundsException", Cond.classLink RX2 69 "java/lang/IllegalStateException", Cond.initialized "java/lang/IllegalStateException", Cond.fieldLink RX2 30 "CaskYard" "casks" "[LCaskYard$Cask;", Cond.fieldLink RX2 127 "CaskYard$Cask" "sound" "Z", Cond.methodLink RX2 141 yX2_isCask, Cond.instanceMethod yX2_isCask, Cond.selects RX2 yX2_isCask yX2_isCask, Cond.initialized RX2, Cond.code yX2_isCask cX2_isCask 2 (some .boolean), Cond.fieldLink RX2 114 "CaskYard" "caskCount" "I", Cond.methodLink RX2 172 yX1_held, Cond.instanceMethod yX1_held, Cond.selects RX1 yX1_held yX1_held, Cond.initialized RX1, Cond.code yX1_held cX1_held 3 (some .int), Cond.fieldLink RX1 15 "CaskYard$Cask" "amounts" "[I", Cond.methodLink RX2 186 yX2_takeStavesOutOf, Cond.instanceMethod yX2_takeStavesOutOf, Cond.selects RX2 yX2_takeStavesOutOf yX2_takeStavesOutOf, Cond.code yX2_takeStavesOutOf cX2_takeStavesOutOf 4 none, Cond.fieldLink RX2 66 "CaskYard" "staveCount" "I", Cond.fieldLink RX2 16 "CaskYard" "places" "[I"]
def wsX2_breakUp_r2 : List Cond := [Cond.fieldLink RX2 13 "CaskYard" "drynesses" "[I", Cond.methodLink RX2 318 Lib.Math.max.name, Cond.static Lib.Math.max.name, Cond.initialized "java/lang/Math", Cond.code Lib.Math.max.name Lib.Math.max.code 2 (some .int), Cond.methodLink RX2 189 yX1_clear, Cond.instanceMethod yX1_clear, Cond.selects RX1 yX1_clear yX1_clear, Cond.code yX1_clear cX1_clear 1 none, Cond.fieldLink RX1 18 "CaskYard$Cask" "sound" "Z", Cond.fieldLink RX1 22 "CaskYard$Cask" "flaws" "I", Cond.fieldLink RX1 26 "CaskYard$Cask" "hoops" "I", Cond.fieldLink RX1 29 "CaskYard$Cask" "swelling" "I", Cond.fieldLink RX1 32 "CaskYard$Cask" "fillings" "I", Cond.fieldLink RX1 35 "CaskYard$Cask" "airMonths" "I", Cond.fieldLink RX1 38 "CaskYard$Cask" "grains" "I", Cond.fieldLink RX1 9 "CaskYard$Cask" "tensions" "[I", Cond.methodLink RX1 41 yJ7_fill_53178, Cond.static yJ7_fill_53178, Cond.initialized RJ7, Cond.code yJ7_fill_53178 cJ7_fill_53178 4 none]
def wsX2_breakUp : List Cond := .code yX2_breakUp cX2_breakUp 4 (some .int) :: ((wsX2_breakUp_r1 ++ wsX2_breakUp_r2) ++ wsX20 ++ wsX10 ++ (vx_atS RX2 82 "java/lang/IndexOutOfBoundsException" ["java/lang/RuntimeException", "java/lang/Exception"]).filter goodWord ++ (vx_atS RX2 73 "java/lang/IllegalStateException" ["java/lang/RuntimeException", "java/lang/Exception"]).filter goodWord)
def wsX2_stavesAt : List Cond := .code yX2_stavesAt cX2_stavesAt 4 (some .int) :: ([.fieldLink RX2 66 "CaskYard" "staveCount" "I", .fieldLink RX2 16 "CaskYard" "places" "[I"] ++ wsX20)
def wsX2_tellOfCask_r1 : List Cond := [Cond.fieldLink RX2 30 "CaskYard" "casks" "[LCaskYard$Cask;", Cond.fieldLink RX2 206 "CaskYard$Cask" "amounts" "[I", Cond.fieldLink RX2 121 "CaskYard$Cask" "sort" "I", Cond.fieldLink RX2 138 "CaskYard$Cask" "flaws" "I", Cond.fieldLink RX2 321 "CaskYard$Cask" "swelling" "I", Cond.fieldLink RX2 324 "CaskYard$Cask" "fillings" "I", Cond.fieldLink RX2 327 "CaskYard$Cask" "airMonths" "I", Cond.fieldLink RX2 263 "CaskYard$Cask" "grains" "I", Cond.fieldLink RX2 127 "CaskYard$Cask" "sound" "Z", Cond.methodLink RX2 238 yX2_stavesAt, Cond.instanceMethod yX2_stavesAt, Cond.selects RX2 yX2_stavesAt yX2_stavesAt, Cond.initialized RX2, Cond.code yX2_stavesAt cX2_stavesAt 4 (some .int), Cond.fieldLink RX2 66 "CaskYard" "staveCount" "I", Cond.fieldLink RX2 16 "CaskYard" "places" "[I", Cond.methodLink RX2 162 yX1_allTensions, Cond.instanceMethod yX1_allTensions, Cond.selects RX1 yX1_allTensions yX1_allTensions, Cond.initialized RX1, Cond.code yX1_allTensions cX1_allTensions 3 (some .int), Cond.fieldLink RX1 9 "CaskYard$Cask" "tensions" "[I", Cond.methodLink RX2 172 yX1_held, Cond.instanceMethod yX1_held]
def wsX2_tellOfCask_r2 : List Cond := [Cond.selects RX1 yX1_held yX1_held, Cond.code yX1_held cX1_held 3 (some .int), Cond.fieldLink RX1 15 "CaskYard$Cask" "amounts" "[I", Cond.methodLink RX2 266 yX1_leak, Cond.instanceMethod yX1_leak, Cond.selects RX1 yX1_leak yX1_leak, Cond.code yX1_leak cX1_leak 1 (some .int), Cond.fieldLink RX1 18 "CaskYard$Cask" "sound" "Z", Cond.fieldLink RX1 22 "CaskYard$Cask" "flaws" "I", Cond.fieldLink RX1 29 "CaskYard$Cask" "swelling" "I", Cond.methodLink RX1 63 Lib.Math.max.name, Cond.static Lib.Math.max.name, Cond.initialized "java/lang/Math", Cond.code Lib.Math.max.name Lib.Math.max.code 2 (some .int), Cond.methodLink RX1 59 yX1_allTensions]
def wsX2_tellOfCask : List Cond := .code yX2_tellOfCask cX2_tellOfCask 5 (some .int) :: ((wsX2_tellOfCask_r1 ++ wsX2_tellOfCask_r2) ++ wsX20 ++ wsX10)
def wsX2_cask_r1 : List Cond := [Cond.classLink RX2 78 "java/lang/IndexOutOfBoundsException", Cond.initialized "java/lang/IndexOutOfBoundsException", Cond.methodLink RX2 141 yX2_isCask, Cond.instanceMethod yX2_isCask, Cond.selects RX2 yX2_isCask yX2_isCask, Cond.initialized RX2, Cond.code yX2_isCask cX2_isCask 2 (some .boolean), Cond.fieldLink RX2 114 "CaskYard" "caskCount" "I", Cond.methodLink RX2 194 yX2_tellOfCask, Cond.instanceMethod yX2_tellOfCask, Cond.selects RX2 yX2_tellOfCask yX2_tellOfCask, Cond.code yX2_tellOfCask cX2_tellOfCask 5 (some .int), Cond.fieldLink RX2 30 "CaskYard" "casks" "[LCaskYard$Cask;", Cond.fieldLink RX2 206 "CaskYard$Cask" "amounts" "[I", Cond.fieldLink RX2 121 "CaskYard$Cask" "sort" "I", Cond.fieldLink RX2 138 "CaskYard$Cask" "flaws" "I", Cond.fieldLink RX2 321 "CaskYard$Cask" "swelling" "I", Cond.fieldLink RX2 324 "CaskYard$Cask" "fillings" "I", Cond.fieldLink RX2 327 "CaskYard$Cask" "airMonths" "I", Cond.fieldLink RX2 263 "CaskYard$Cask" "grains" "I", Cond.fieldLink RX2 127 "CaskYard$Cask" "sound" "Z", Cond.methodLink RX2 238 yX2_stavesAt, Cond.instanceMethod yX2_stavesAt, Cond.selects RX2 yX2_stavesAt yX2_stavesAt]
def wsX2_cask_r2 : List Cond := [Cond.code yX2_stavesAt cX2_stavesAt 4 (some .int), Cond.fieldLink RX2 66 "CaskYard" "staveCount" "I", Cond.fieldLink RX2 16 "CaskYard" "places" "[I", Cond.methodLink RX2 162 yX1_allTensions, Cond.instanceMethod yX1_allTensions, Cond.selects RX1 yX1_allTensions yX1_allTensions, Cond.initialized RX1, Cond.code yX1_allTensions cX1_allTensions 3 (some .int), Cond.fieldLink RX1 9 "CaskYard$Cask" "tensions" "[I", Cond.methodLink RX2 172 yX1_held, Cond.instanceMethod yX1_held, Cond.selects RX1 yX1_held yX1_held, Cond.code yX1_held cX1_held 3 (some .int), Cond.fieldLink RX1 15 "CaskYard$Cask" "amounts" "[I", Cond.methodLink RX2 266 yX1_leak, Cond.instanceMethod yX1_leak, Cond.selects RX1 yX1_leak yX1_leak, Cond.code yX1_leak cX1_leak 1 (some .int), Cond.fieldLink RX1 18 "CaskYard$Cask" "sound" "Z", Cond.fieldLink RX1 22 "CaskYard$Cask" "flaws" "I", Cond.fieldLink RX1 29 "CaskYard$Cask" "swelling" "I", Cond.methodLink RX1 63 Lib.Math.max.name, Cond.static Lib.Math.max.name, Cond.initialized "java/lang/Math"]
def wsX2_cask_r3 : List Cond := [Cond.code Lib.Math.max.name Lib.Math.max.code 2 (some .int), Cond.methodLink RX1 59 yX1_allTensions]
def wsX2_cask : List Cond := .code yX2_cask cX2_cask 3 (some .int) :: ((wsX2_cask_r1 ++ (wsX2_cask_r2 ++ wsX2_cask_r3)) ++ wsX20 ++ wsX10 ++ (vx_atS RX2 82 "java/lang/IndexOutOfBoundsException" ["java/lang/RuntimeException", "java/lang/Exception"]).filter goodWord)
def wsX2_fill_r1 : List Cond := [Cond.classLink RX2 78 "java/lang/IndexOutOfBoundsException", Cond.initialized "java/lang/IndexOutOfBoundsException", Cond.classLink RX2 57 "java/lang/IllegalArgumentException", Cond.initialized "java/lang/IllegalArgumentException", Cond.classLink RX2 69 "java/lang/IllegalStateException", Cond.initialized "java/lang/IllegalStateException", Cond.constant RX2 87 (60000), Cond.fieldLink RX2 30 "CaskYard" "casks" "[LCaskYard$Cask;", Cond.fieldLink RX2 127 "CaskYard$Cask" "sound" "Z", Cond.fieldLink RX2 124 "CaskYard$Cask" "room" "I", Cond.fieldLink RX2 206 "CaskYard$Cask" "amounts" "[I", Cond.methodLink RX2 141 yX2_isCask, Cond.instanceMethod yX2_isCask, Cond.selects RX2 yX2_isCask yX2_isCask, Cond.initialized RX2, Cond.code yX2_isCask cX2_isCask 2 (some .boolean), Cond.fieldLink RX2 114 "CaskYard" "caskCount" "I", Cond.methodLink RX2 172 yX1_held, Cond.instanceMethod yX1_held, Cond.selects RX1 yX1_held yX1_held, Cond.initialized RX1, Cond.code yX1_held cX1_held 3 (some .int), Cond.fieldLink RX1 15 "CaskYard$Cask" "amounts" "[I", Cond.methodLink RX2 203 yX1_countFilling]
def wsX2_fill_r2 : List Cond := [Cond.instanceMethod yX1_countFilling, Cond.selects RX1 yX1_countFilling yX1_countFilling, Cond.code yX1_countFilling cX1_countFilling 1 none, Cond.fieldLink RX1 32 "CaskYard$Cask" "fillings" "I", Cond.methodLink RX1 69 yX1_held]
def wsX2_fill : List Cond := .code yX2_fill cX2_fill 5 (some .int) :: ((wsX2_fill_r1 ++ wsX2_fill_r2) ++ wsX20 ++ wsX10 ++ (vx_atS RX2 82 "java/lang/IndexOutOfBoundsException" ["java/lang/RuntimeException", "java/lang/Exception"]).filter goodWord ++ (vx_atS RX2 61 "java/lang/IllegalArgumentException" ["java/lang/RuntimeException", "java/lang/Exception"]).filter goodWord ++ (vx_atS RX2 73 "java/lang/IllegalStateException" ["java/lang/RuntimeException", "java/lang/Exception"]).filter goodWord)
def wsX2_rack_r1 : List Cond := [Cond.classLink RX2 78 "java/lang/IndexOutOfBoundsException", Cond.initialized "java/lang/IndexOutOfBoundsException", Cond.classLink RX2 57 "java/lang/IllegalArgumentException", Cond.initialized "java/lang/IllegalArgumentException", Cond.classLink RX2 69 "java/lang/IllegalStateException", Cond.initialized "java/lang/IllegalStateException", Cond.constant RX2 87 (60000), Cond.fieldLink RX2 30 "CaskYard" "casks" "[LCaskYard$Cask;", Cond.fieldLink RX2 35 "CaskYard" "spare" "LCaskYard$Cask;", Cond.fieldLink RX2 127 "CaskYard$Cask" "sound" "Z", Cond.fieldLink RX2 124 "CaskYard$Cask" "room" "I", Cond.methodLink RX2 141 yX2_isCask, Cond.instanceMethod yX2_isCask, Cond.selects RX2 yX2_isCask yX2_isCask, Cond.initialized RX2, Cond.code yX2_isCask cX2_isCask 2 (some .boolean), Cond.fieldLink RX2 114 "CaskYard" "caskCount" "I", Cond.methodLink RX2 172 yX1_held, Cond.instanceMethod yX1_held, Cond.selects RX1 yX1_held yX1_held, Cond.initialized RX1, Cond.code yX1_held cX1_held 3 (some .int), Cond.fieldLink RX1 15 "CaskYard$Cask" "amounts" "[I", Cond.methodLink RX2 189 yX1_clear]
def wsX2_rack_r2 : List Cond := [Cond.instanceMethod yX1_clear, Cond.selects RX1 yX1_clear yX1_clear, Cond.code yX1_clear cX1_clear 1 none, Cond.fieldLink RX1 18 "CaskYard$Cask" "sound" "Z", Cond.fieldLink RX1 22 "CaskYard$Cask" "flaws" "I", Cond.fieldLink RX1 26 "CaskYard$Cask" "hoops" "I", Cond.fieldLink RX1 29 "CaskYard$Cask" "swelling" "I", Cond.fieldLink RX1 32 "CaskYard$Cask" "fillings" "I", Cond.fieldLink RX1 35 "CaskYard$Cask" "airMonths" "I", Cond.fieldLink RX1 38 "CaskYard$Cask" "grains" "I", Cond.fieldLink RX1 9 "CaskYard$Cask" "tensions" "[I", Cond.methodLink RX1 41 yJ7_fill_53178, Cond.static yJ7_fill_53178, Cond.initialized RJ7, Cond.code yJ7_fill_53178 cJ7_fill_53178 4 none, Cond.methodLink RX2 203 yX1_countFilling, Cond.instanceMethod yX1_countFilling, Cond.selects RX1 yX1_countFilling yX1_countFilling, Cond.code yX1_countFilling cX1_countFilling 1 none, Cond.methodLink RX1 69 yX1_held, Cond.methodLink RX2 217 yX1_moveTo, Cond.instanceMethod yX1_moveTo, Cond.selects RX1 yX1_moveTo yX1_moveTo, Cond.code yX1_moveTo cX1_moveTo 7 none]
def wsX2_rack_r3 : List Cond := [Cond.methodLink RX1 103 yX1_moveLiquid, Cond.instanceMethod yX1_moveLiquid, Cond.selects RX1 yX1_moveLiquid yX1_moveLiquid, Cond.code yX1_moveLiquid cX1_moveLiquid 4 none]
def wsX2_rack : List Cond := .code yX2_rack cX2_rack 8 (some .int) :: ((wsX2_rack_r1 ++ (wsX2_rack_r2 ++ wsX2_rack_r3)) ++ wsX20 ++ wsX10 ++ (vx_atS RX2 82 "java/lang/IndexOutOfBoundsException" ["java/lang/RuntimeException", "java/lang/Exception"]).filter goodWord ++ (vx_atS RX2 61 "java/lang/IllegalArgumentException" ["java/lang/RuntimeException", "java/lang/Exception"]).filter goodWord ++ (vx_atS RX2 73 "java/lang/IllegalStateException" ["java/lang/RuntimeException", "java/lang/Exception"]).filter goodWord)
def wsX2_setWarmth : List Cond := .code yX2_setWarmth cX2_setWarmth 3 (some .int) :: ([.classLink RX2 57 "java/lang/IllegalArgumentException", .initialized "java/lang/IllegalArgumentException", .fieldLink RX2 53 "CaskYard" "warmthNow" "I"] ++ wsX20 ++ (vx_atS RX2 61 "java/lang/IllegalArgumentException" ["java/lang/RuntimeException", "java/lang/Exception"]).filter goodWord)
def wsX2_hoopsLoosenIn : List Cond := .code yX2_hoopsLoosenIn cX2_hoopsLoosenIn 1 (some .boolean) :: ([])
def wsX2_liveMonth_r1 : List Cond := [Cond.fieldLink RX2 66 "CaskYard" "staveCount" "I", Cond.fieldLink RX2 16 "CaskYard" "places" "[I", Cond.fieldLink RX2 13 "CaskYard" "drynesses" "[I", Cond.methodLink RX2 156 Lib.Math.min.name, Cond.static Lib.Math.min.name, Cond.initialized "java/lang/Math", Cond.code Lib.Math.min.name Lib.Math.min.code 2 (some .int), Cond.fieldLink RX2 114 "CaskYard" "caskCount" "I", Cond.fieldLink RX2 30 "CaskYard" "casks" "[LCaskYard$Cask;", Cond.fieldLink RX2 53 "CaskYard" "warmthNow" "I", Cond.fieldLink RX2 225 "CaskYard" "month" "I", Cond.methodLink RX2 256 yX2_hoopsLoosenIn, Cond.static yX2_hoopsLoosenIn, Cond.initialized RX2, Cond.code yX2_hoopsLoosenIn cX2_hoopsLoosenIn 1 (some .boolean), Cond.methodLink RX2 259 yX1_live, Cond.instanceMethod yX1_live, Cond.selects RX1 yX1_live yX1_live, Cond.initialized RX1, Cond.code yX1_live cX1_live 4 (some .int), Cond.fieldLink RX1 18 "CaskYard$Cask" "sound" "Z", Cond.methodLink RX1 80 yX1_takeOak, Cond.instanceMethod yX1_takeOak, Cond.selects RX1 yX1_takeOak yX1_takeOak]
def wsX2_liveMonth_r2 : List Cond := [Cond.code yX1_takeOak cX1_takeOak 2 none, Cond.fieldLink RX1 32 "CaskYard$Cask" "fillings" "I", Cond.fieldLink RX1 38 "CaskYard$Cask" "grains" "I", Cond.methodLink RX1 69 yX1_held, Cond.instanceMethod yX1_held, Cond.selects RX1 yX1_held yX1_held, Cond.code yX1_held cX1_held 3 (some .int), Cond.fieldLink RX1 15 "CaskYard$Cask" "amounts" "[I", Cond.methodLink RX1 83 yX1_swell, Cond.instanceMethod yX1_swell, Cond.selects RX1 yX1_swell yX1_swell, Cond.code yX1_swell cX1_swell 1 none, Cond.fieldLink RX1 50 "CaskYard$Cask" "room" "I", Cond.fieldLink RX1 29 "CaskYard$Cask" "swelling" "I", Cond.methodLink RX1 99 Lib.Math.min.name, Cond.methodLink RX1 63 Lib.Math.max.name, Cond.static Lib.Math.max.name, Cond.code Lib.Math.max.name Lib.Math.max.code 2 (some .int), Cond.methodLink RX1 86 yX1_leak, Cond.instanceMethod yX1_leak, Cond.selects RX1 yX1_leak yX1_leak, Cond.code yX1_leak cX1_leak 1 (some .int), Cond.fieldLink RX1 22 "CaskYard$Cask" "flaws" "I", Cond.methodLink RX1 59 yX1_allTensions]
def wsX2_liveMonth_r3 : List Cond := [Cond.instanceMethod yX1_allTensions, Cond.selects RX1 yX1_allTensions yX1_allTensions, Cond.code yX1_allTensions cX1_allTensions 3 (some .int), Cond.fieldLink RX1 9 "CaskYard$Cask" "tensions" "[I", Cond.methodLink RX1 89 yX1_lose, Cond.instanceMethod yX1_lose, Cond.selects RX1 yX1_lose yX1_lose, Cond.code yX1_lose cX1_lose 8 (some .int), Cond.constantLong RX1 74 (1000), Cond.methodLink RX1 101 Lib.MathLoose.max_long.x, Cond.static Lib.MathLoose.max_long.x, Cond.code Lib.MathLoose.max_long.x Lib.MathLoose.max_long.code 4 (some .long), Cond.methodLink RX1 76 Lib.MathLoose.min_long.x, Cond.static Lib.MathLoose.min_long.x, Cond.code Lib.MathLoose.min_long.x Lib.MathLoose.min_long.code 4 (some .long), Cond.methodLink RX1 93 yX1_takeAir, Cond.instanceMethod yX1_takeAir, Cond.selects RX1 yX1_takeAir yX1_takeAir, Cond.code yX1_takeAir cX1_takeAir 2 none, Cond.fieldLink RX1 35 "CaskYard$Cask" "airMonths" "I", Cond.methodLink RX1 41 yJ7_fill_53178, Cond.static yJ7_fill_53178, Cond.initialized RJ7, Cond.code yJ7_fill_53178 cJ7_fill_53178 4 none]
def wsX2_liveMonth_r4 : List Cond := [Cond.methodLink RX1 96 yX1_loosen, Cond.instanceMethod yX1_loosen, Cond.selects RX1 yX1_loosen yX1_loosen, Cond.code yX1_loosen cX1_loosen 2 none]
def wsX2_liveMonth : List Cond := .code yX2_liveMonth cX2_liveMonth 3 (some .int) :: ((wsX2_liveMonth_r1 ++ (wsX2_liveMonth_r2 ++ (wsX2_liveMonth_r3 ++ wsX2_liveMonth_r4))) ++ wsX20 ++ wsX10)
def wsX2_pass_r1 : List Cond := [Cond.classLink RX2 57 "java/lang/IllegalArgumentException", Cond.initialized "java/lang/IllegalArgumentException", Cond.classLink RX2 69 "java/lang/IllegalStateException", Cond.initialized "java/lang/IllegalStateException", Cond.fieldLink RX2 225 "CaskYard" "month" "I", Cond.fieldLink RX2 233 "CaskYard" "lostInAll" "I", Cond.methodLink RX2 230 yX2_liveMonth, Cond.instanceMethod yX2_liveMonth, Cond.selects RX2 yX2_liveMonth yX2_liveMonth, Cond.initialized RX2, Cond.code yX2_liveMonth cX2_liveMonth 3 (some .int), Cond.fieldLink RX2 66 "CaskYard" "staveCount" "I", Cond.fieldLink RX2 16 "CaskYard" "places" "[I", Cond.fieldLink RX2 13 "CaskYard" "drynesses" "[I", Cond.methodLink RX2 156 Lib.Math.min.name, Cond.static Lib.Math.min.name, Cond.initialized "java/lang/Math", Cond.code Lib.Math.min.name Lib.Math.min.code 2 (some .int), Cond.fieldLink RX2 114 "CaskYard" "caskCount" "I", Cond.fieldLink RX2 30 "CaskYard" "casks" "[LCaskYard$Cask;", Cond.fieldLink RX2 53 "CaskYard" "warmthNow" "I", Cond.methodLink RX2 256 yX2_hoopsLoosenIn, Cond.static yX2_hoopsLoosenIn, Cond.code yX2_hoopsLoosenIn cX2_hoopsLoosenIn 1 (some .boolean)]
def wsX2_pass_r2 : List Cond := [Cond.methodLink RX2 259 yX1_live, Cond.instanceMethod yX1_live, Cond.selects RX1 yX1_live yX1_live, Cond.initialized RX1, Cond.code yX1_live cX1_live 4 (some .int), Cond.fieldLink RX1 18 "CaskYard$Cask" "sound" "Z", Cond.methodLink RX1 80 yX1_takeOak, Cond.instanceMethod yX1_takeOak, Cond.selects RX1 yX1_takeOak yX1_takeOak, Cond.code yX1_takeOak cX1_takeOak 2 none, Cond.fieldLink RX1 32 "CaskYard$Cask" "fillings" "I", Cond.fieldLink RX1 38 "CaskYard$Cask" "grains" "I", Cond.methodLink RX1 69 yX1_held, Cond.instanceMethod yX1_held, Cond.selects RX1 yX1_held yX1_held, Cond.code yX1_held cX1_held 3 (some .int), Cond.fieldLink RX1 15 "CaskYard$Cask" "amounts" "[I", Cond.methodLink RX1 83 yX1_swell, Cond.instanceMethod yX1_swell, Cond.selects RX1 yX1_swell yX1_swell, Cond.code yX1_swell cX1_swell 1 none, Cond.fieldLink RX1 50 "CaskYard$Cask" "room" "I", Cond.fieldLink RX1 29 "CaskYard$Cask" "swelling" "I", Cond.methodLink RX1 99 Lib.Math.min.name]
def wsX2_pass_r3 : List Cond := [Cond.methodLink RX1 63 Lib.Math.max.name, Cond.static Lib.Math.max.name, Cond.code Lib.Math.max.name Lib.Math.max.code 2 (some .int), Cond.methodLink RX1 86 yX1_leak, Cond.instanceMethod yX1_leak, Cond.selects RX1 yX1_leak yX1_leak, Cond.code yX1_leak cX1_leak 1 (some .int), Cond.fieldLink RX1 22 "CaskYard$Cask" "flaws" "I", Cond.methodLink RX1 59 yX1_allTensions, Cond.instanceMethod yX1_allTensions, Cond.selects RX1 yX1_allTensions yX1_allTensions, Cond.code yX1_allTensions cX1_allTensions 3 (some .int), Cond.fieldLink RX1 9 "CaskYard$Cask" "tensions" "[I", Cond.methodLink RX1 89 yX1_lose, Cond.instanceMethod yX1_lose, Cond.selects RX1 yX1_lose yX1_lose, Cond.code yX1_lose cX1_lose 8 (some .int), Cond.constantLong RX1 74 (1000), Cond.methodLink RX1 101 Lib.MathLoose.max_long.x, Cond.static Lib.MathLoose.max_long.x, Cond.code Lib.MathLoose.max_long.x Lib.MathLoose.max_long.code 4 (some .long), Cond.methodLink RX1 76 Lib.MathLoose.min_long.x, Cond.static Lib.MathLoose.min_long.x, Cond.code Lib.MathLoose.min_long.x Lib.MathLoose.min_long.code 4 (some .long)]
def wsX2_pass_r4 : List Cond := [Cond.methodLink RX1 93 yX1_takeAir, Cond.instanceMethod yX1_takeAir, Cond.selects RX1 yX1_takeAir yX1_takeAir, Cond.code yX1_takeAir cX1_takeAir 2 none, Cond.fieldLink RX1 35 "CaskYard$Cask" "airMonths" "I", Cond.methodLink RX1 41 yJ7_fill_53178, Cond.static yJ7_fill_53178, Cond.initialized RJ7, Cond.code yJ7_fill_53178 cJ7_fill_53178 4 none, Cond.methodLink RX1 96 yX1_loosen, Cond.instanceMethod yX1_loosen, Cond.selects RX1 yX1_loosen yX1_loosen, Cond.code yX1_loosen cX1_loosen 2 none]
def wsX2_pass : List Cond := .code yX2_pass cX2_pass 4 (some .int) :: ((wsX2_pass_r1 ++ (wsX2_pass_r2 ++ (wsX2_pass_r3 ++ wsX2_pass_r4))) ++ wsX20 ++ wsX10 ++ (vx_atS RX2 61 "java/lang/IllegalArgumentException" ["java/lang/RuntimeException", "java/lang/Exception"]).filter goodWord ++ (vx_atS RX2 73 "java/lang/IllegalStateException" ["java/lang/RuntimeException", "java/lang/Exception"]).filter goodWord)
def wsX2_soundCasks : List Cond := .code yX2_soundCasks cX2_soundCasks 3 (some .int) :: ([.fieldLink RX2 114 "CaskYard" "caskCount" "I", .fieldLink RX2 30 "CaskYard" "casks" "[LCaskYard$Cask;", .fieldLink RX2 127 "CaskYard$Cask" "sound" "Z"] ++ wsX20 ++ wsX10)
def wsX2_heldByAll : List Cond := .code yX2_heldByAll cX2_heldByAll 3 (some .int) :: ([.fieldLink RX2 114 "CaskYard" "caskCount" "I", .fieldLink RX2 30 "CaskYard" "casks" "[LCaskYard$Cask;", .methodLink RX2 172 yX1_held, .instanceMethod yX1_held, .selects RX1 yX1_held yX1_held, .initialized RX1, .code yX1_held cX1_held 3 (some .int), .fieldLink RX1 15 "CaskYard$Cask" "amounts" "[I"] ++ wsX20 ++ wsX10)
def wsX2_vinegarOfAll : List Cond := .code yX2_vinegarOfAll cX2_vinegarOfAll 3 (some .int) :: ([.fieldLink RX2 114 "CaskYard" "caskCount" "I", .fieldLink RX2 30 "CaskYard" "casks" "[LCaskYard$Cask;", .fieldLink RX2 206 "CaskYard$Cask" "amounts" "[I"] ++ wsX20 ++ wsX10)
def wsX2_count_r1 : List Cond := [Cond.classLink RX2 78 "java/lang/IndexOutOfBoundsException", Cond.initialized "java/lang/IndexOutOfBoundsException", Cond.fieldLink RX2 225 "CaskYard" "month" "I", Cond.fieldLink RX2 66 "CaskYard" "staveCount" "I", Cond.fieldLink RX2 92 "CaskYard" "sortCount" "I", Cond.fieldLink RX2 114 "CaskYard" "caskCount" "I", Cond.fieldLink RX2 233 "CaskYard" "lostInAll" "I", Cond.fieldLink RX2 53 "CaskYard" "warmthNow" "I", Cond.methodLink RX2 238 yX2_stavesAt, Cond.instanceMethod yX2_stavesAt, Cond.selects RX2 yX2_stavesAt yX2_stavesAt, Cond.initialized RX2, Cond.code yX2_stavesAt cX2_stavesAt 4 (some .int), Cond.fieldLink RX2 16 "CaskYard" "places" "[I", Cond.methodLink RX2 241 yX2_soundCasks, Cond.instanceMethod yX2_soundCasks, Cond.selects RX2 yX2_soundCasks yX2_soundCasks, Cond.code yX2_soundCasks cX2_soundCasks 3 (some .int), Cond.fieldLink RX2 30 "CaskYard" "casks" "[LCaskYard$Cask;", Cond.fieldLink RX2 127 "CaskYard$Cask" "sound" "Z", Cond.methodLink RX2 244 yX2_heldByAll, Cond.instanceMethod yX2_heldByAll, Cond.selects RX2 yX2_heldByAll yX2_heldByAll, Cond.code yX2_heldByAll cX2_heldByAll 3 (some .int)]
def wsX2_count_r2 : List Cond := [Cond.methodLink RX2 172 yX1_held, Cond.instanceMethod yX1_held, Cond.selects RX1 yX1_held yX1_held, Cond.initialized RX1, Cond.code yX1_held cX1_held 3 (some .int), Cond.fieldLink RX1 15 "CaskYard$Cask" "amounts" "[I", Cond.methodLink RX2 247 yX2_vinegarOfAll, Cond.instanceMethod yX2_vinegarOfAll, Cond.selects RX2 yX2_vinegarOfAll yX2_vinegarOfAll, Cond.code yX2_vinegarOfAll cX2_vinegarOfAll 3 (some .int), Cond.fieldLink RX2 206 "CaskYard$Cask" "amounts" "[I"]
def wsX2_count : List Cond := .code yX2_count cX2_count 2 (some .int) :: ((wsX2_count_r1 ++ wsX2_count_r2) ++ wsX20 ++ wsX10 ++ (vx_atS RX2 82 "java/lang/IndexOutOfBoundsException" ["java/lang/RuntimeException", "java/lang/Exception"]).filter goodWord)
def wsX2_foresee_r1 : List Cond := [Cond.classLink RX2 78 "java/lang/IndexOutOfBoundsException", Cond.initialized "java/lang/IndexOutOfBoundsException", Cond.classLink RX2 57 "java/lang/IllegalArgumentException", Cond.initialized "java/lang/IllegalArgumentException", Cond.classLink RX2 69 "java/lang/IllegalStateException", Cond.initialized "java/lang/IllegalStateException", Cond.fieldLink RX2 225 "CaskYard" "month" "I", Cond.fieldLink RX2 35 "CaskYard" "spare" "LCaskYard$Cask;", Cond.fieldLink RX2 30 "CaskYard" "casks" "[LCaskYard$Cask;", Cond.fieldLink RX2 53 "CaskYard" "warmthNow" "I", Cond.fieldLink RX2 206 "CaskYard$Cask" "amounts" "[I", Cond.fieldLink RX2 263 "CaskYard$Cask" "grains" "I", Cond.methodLink RX2 141 yX2_isCask, Cond.instanceMethod yX2_isCask, Cond.selects RX2 yX2_isCask yX2_isCask, Cond.initialized RX2, Cond.code yX2_isCask cX2_isCask 2 (some .boolean), Cond.fieldLink RX2 114 "CaskYard" "caskCount" "I", Cond.methodLink RX2 252 yX1_copyFrom, Cond.instanceMethod yX1_copyFrom, Cond.selects RX1 yX1_copyFrom yX1_copyFrom, Cond.initialized RX1, Cond.code yX1_copyFrom cX1_copyFrom 2 none, Cond.fieldLink RX1 47 "CaskYard$Cask" "sort" "I"]
def wsX2_foresee_r2 : List Cond := [Cond.fieldLink RX1 50 "CaskYard$Cask" "room" "I", Cond.fieldLink RX1 18 "CaskYard$Cask" "sound" "Z", Cond.fieldLink RX1 22 "CaskYard$Cask" "flaws" "I", Cond.fieldLink RX1 26 "CaskYard$Cask" "hoops" "I", Cond.fieldLink RX1 29 "CaskYard$Cask" "swelling" "I", Cond.fieldLink RX1 32 "CaskYard$Cask" "fillings" "I", Cond.fieldLink RX1 35 "CaskYard$Cask" "airMonths" "I", Cond.fieldLink RX1 38 "CaskYard$Cask" "grains" "I", Cond.fieldLink RX1 9 "CaskYard$Cask" "tensions" "[I", Cond.methodLink RX1 53 arraycopyName, Cond.native arraycopyName, Cond.static arraycopyName, Cond.initialized "java/lang/System", Cond.fieldLink RX1 15 "CaskYard$Cask" "amounts" "[I", Cond.methodLink RX2 256 yX2_hoopsLoosenIn, Cond.static yX2_hoopsLoosenIn, Cond.code yX2_hoopsLoosenIn cX2_hoopsLoosenIn 1 (some .boolean), Cond.methodLink RX2 259 yX1_live, Cond.instanceMethod yX1_live, Cond.selects RX1 yX1_live yX1_live, Cond.code yX1_live cX1_live 4 (some .int), Cond.methodLink RX1 80 yX1_takeOak, Cond.instanceMethod yX1_takeOak, Cond.selects RX1 yX1_takeOak yX1_takeOak]
def wsX2_foresee_r3 : List Cond := [Cond.code yX1_takeOak cX1_takeOak 2 none, Cond.methodLink RX1 69 yX1_held, Cond.instanceMethod yX1_held, Cond.selects RX1 yX1_held yX1_held, Cond.code yX1_held cX1_held 3 (some .int), Cond.methodLink RX1 83 yX1_swell, Cond.instanceMethod yX1_swell, Cond.selects RX1 yX1_swell yX1_swell, Cond.code yX1_swell cX1_swell 1 none, Cond.methodLink RX1 99 Lib.Math.min.name, Cond.static Lib.Math.min.name, Cond.initialized "java/lang/Math", Cond.code Lib.Math.min.name Lib.Math.min.code 2 (some .int), Cond.methodLink RX1 63 Lib.Math.max.name, Cond.static Lib.Math.max.name, Cond.code Lib.Math.max.name Lib.Math.max.code 2 (some .int), Cond.methodLink RX1 86 yX1_leak, Cond.instanceMethod yX1_leak, Cond.selects RX1 yX1_leak yX1_leak, Cond.code yX1_leak cX1_leak 1 (some .int), Cond.methodLink RX1 59 yX1_allTensions, Cond.instanceMethod yX1_allTensions, Cond.selects RX1 yX1_allTensions yX1_allTensions, Cond.code yX1_allTensions cX1_allTensions 3 (some .int)]
def wsX2_foresee_r4 : List Cond := [Cond.methodLink RX1 89 yX1_lose, Cond.instanceMethod yX1_lose, Cond.selects RX1 yX1_lose yX1_lose, Cond.code yX1_lose cX1_lose 8 (some .int), Cond.constantLong RX1 74 (1000), Cond.methodLink RX1 101 Lib.MathLoose.max_long.x, Cond.static Lib.MathLoose.max_long.x, Cond.code Lib.MathLoose.max_long.x Lib.MathLoose.max_long.code 4 (some .long), Cond.methodLink RX1 76 Lib.MathLoose.min_long.x, Cond.static Lib.MathLoose.min_long.x, Cond.code Lib.MathLoose.min_long.x Lib.MathLoose.min_long.code 4 (some .long), Cond.methodLink RX1 93 yX1_takeAir, Cond.instanceMethod yX1_takeAir, Cond.selects RX1 yX1_takeAir yX1_takeAir, Cond.code yX1_takeAir cX1_takeAir 2 none, Cond.methodLink RX1 41 yJ7_fill_53178, Cond.static yJ7_fill_53178, Cond.initialized RJ7, Cond.code yJ7_fill_53178 cJ7_fill_53178 4 none, Cond.methodLink RX1 96 yX1_loosen, Cond.instanceMethod yX1_loosen, Cond.selects RX1 yX1_loosen yX1_loosen, Cond.code yX1_loosen cX1_loosen 2 none, Cond.methodLink RX2 172 yX1_held]
def wsX2_foresee_r5 : List Cond := [Cond.methodLink RX2 266 yX1_leak]
def wsX2_foresee : List Cond := .code yX2_foresee cX2_foresee 5 (some .int) :: ((wsX2_foresee_r1 ++ (wsX2_foresee_r2 ++ (wsX2_foresee_r3 ++ (wsX2_foresee_r4 ++ wsX2_foresee_r5)))) ++ wsX20 ++ wsX10 ++ (vx_atS RX2 82 "java/lang/IndexOutOfBoundsException" ["java/lang/RuntimeException", "java/lang/Exception"]).filter goodWord ++ (vx_atS RX2 61 "java/lang/IllegalArgumentException" ["java/lang/RuntimeException", "java/lang/Exception"]).filter goodWord ++ (vx_atS RX2 73 "java/lang/IllegalStateException" ["java/lang/RuntimeException", "java/lang/Exception"]).filter goodWord)
def wsX2_offerBlends_r1 : List Cond := [Cond.fieldLink RX2 30 "CaskYard" "casks" "[LCaskYard$Cask;", Cond.fieldLink RX2 49 "CaskYard" "best" "LCaskYard$Blend;", Cond.methodLink RX2 339 yX1_tasteOfOak, Cond.instanceMethod yX1_tasteOfOak, Cond.selects RX1 yX1_tasteOfOak yX1_tasteOfOak, Cond.initialized RX1, Cond.code yX1_tasteOfOak cX1_tasteOfOak 2 (some .int), Cond.constantLong RX1 72 (1000000), Cond.fieldLink RX1 38 "CaskYard$Cask" "grains" "I", Cond.constantLong RX1 74 (1000), Cond.methodLink RX1 76 Lib.MathLoose.min_long.x, Cond.static Lib.MathLoose.min_long.x, Cond.initialized "java/lang/Math", Cond.code Lib.MathLoose.min_long.x Lib.MathLoose.min_long.code 4 (some .long), Cond.methodLink RX1 69 yX1_held, Cond.instanceMethod yX1_held, Cond.selects RX1 yX1_held yX1_held, Cond.code yX1_held cX1_held 3 (some .int), Cond.fieldLink RX1 15 "CaskYard$Cask" "amounts" "[I", Cond.methodLink RX2 342 yX0_offer, Cond.instanceMethod yX0_offer, Cond.selects RX0 yX0_offer yX0_offer, Cond.initialized RX0, Cond.code yX0_offer cX0_offer 7 none]
def wsX2_offerBlends_r2 : List Cond := [Cond.methodLink RX0 27 Lib.Math.abs.name, Cond.static Lib.Math.abs.name, Cond.code Lib.Math.abs.name Lib.Math.abs.code 1 (some .int), Cond.fieldLink RX0 9 "CaskYard$Blend" "a" "I", Cond.fieldLink RX0 24 "CaskYard$Blend" "difference" "I", Cond.fieldLink RX0 15 "CaskYard$Blend" "b" "I", Cond.fieldLink RX0 18 "CaskYard$Blend" "tenths" "I", Cond.fieldLink RX0 21 "CaskYard$Blend" "mixedTaste" "I"]
def wsX2_offerBlends : List Cond := .code yX2_offerBlends cX2_offerBlends 8 none :: ((wsX2_offerBlends_r1 ++ wsX2_offerBlends_r2) ++ wsX20 ++ wsX10 ++ wsX00)
def wsX2_findBestBlend_r1 : List Cond := [Cond.fieldLink RX2 49 "CaskYard" "best" "LCaskYard$Blend;", Cond.fieldLink RX2 114 "CaskYard" "caskCount" "I", Cond.fieldLink RX2 30 "CaskYard" "casks" "[LCaskYard$Cask;", Cond.methodLink RX2 330 yX0_clear, Cond.instanceMethod yX0_clear, Cond.selects RX0 yX0_clear yX0_clear, Cond.initialized RX0, Cond.code yX0_clear cX0_clear 1 none, Cond.fieldLink RX0 9 "CaskYard$Blend" "a" "I", Cond.fieldLink RX0 15 "CaskYard$Blend" "b" "I", Cond.fieldLink RX0 18 "CaskYard$Blend" "tenths" "I", Cond.fieldLink RX0 21 "CaskYard$Blend" "mixedTaste" "I", Cond.fieldLink RX0 24 "CaskYard$Blend" "difference" "I", Cond.methodLink RX2 331 yX1_canBeBlended, Cond.instanceMethod yX1_canBeBlended, Cond.selects RX1 yX1_canBeBlended yX1_canBeBlended, Cond.initialized RX1, Cond.code yX1_canBeBlended cX1_canBeBlended 1 (some .boolean), Cond.fieldLink RX1 18 "CaskYard$Cask" "sound" "Z", Cond.fieldLink RX1 15 "CaskYard$Cask" "amounts" "[I", Cond.methodLink RX1 69 yX1_held, Cond.instanceMethod yX1_held, Cond.selects RX1 yX1_held yX1_held, Cond.code yX1_held cX1_held 3 (some .int)]
def wsX2_findBestBlend_r2 : List Cond := [Cond.methodLink RX2 335 yX2_offerBlends, Cond.instanceMethod yX2_offerBlends, Cond.selects RX2 yX2_offerBlends yX2_offerBlends, Cond.initialized RX2, Cond.code yX2_offerBlends cX2_offerBlends 8 none, Cond.methodLink RX2 339 yX1_tasteOfOak, Cond.instanceMethod yX1_tasteOfOak, Cond.selects RX1 yX1_tasteOfOak yX1_tasteOfOak, Cond.code yX1_tasteOfOak cX1_tasteOfOak 2 (some .int), Cond.constantLong RX1 72 (1000000), Cond.fieldLink RX1 38 "CaskYard$Cask" "grains" "I", Cond.constantLong RX1 74 (1000), Cond.methodLink RX1 76 Lib.MathLoose.min_long.x, Cond.static Lib.MathLoose.min_long.x, Cond.initialized "java/lang/Math", Cond.code Lib.MathLoose.min_long.x Lib.MathLoose.min_long.code 4 (some .long), Cond.methodLink RX2 342 yX0_offer, Cond.instanceMethod yX0_offer, Cond.selects RX0 yX0_offer yX0_offer, Cond.code yX0_offer cX0_offer 7 none, Cond.methodLink RX0 27 Lib.Math.abs.name, Cond.static Lib.Math.abs.name, Cond.code Lib.Math.abs.name Lib.Math.abs.code 1 (some .int)]
def wsX2_findBestBlend : List Cond := .code yX2_findBestBlend cX2_findBestBlend 4 none :: ((wsX2_findBestBlend_r1 ++ wsX2_findBestBlend_r2) ++ wsX20 ++ wsX00 ++ wsX10)
def wsX2_blend_r1 : List Cond := [Cond.classLink RX2 57 "java/lang/IllegalArgumentException", Cond.initialized "java/lang/IllegalArgumentException", Cond.classLink RX2 78 "java/lang/IndexOutOfBoundsException", Cond.initialized "java/lang/IndexOutOfBoundsException", Cond.constant RX2 269 (1000000), Cond.fieldLink RX2 49 "CaskYard" "best" "LCaskYard$Blend;", Cond.fieldLink RX2 275 "CaskYard$Blend" "a" "I", Cond.fieldLink RX2 278 "CaskYard$Blend" "b" "I", Cond.fieldLink RX2 281 "CaskYard$Blend" "tenths" "I", Cond.fieldLink RX2 284 "CaskYard$Blend" "mixedTaste" "I", Cond.methodLink RX2 272 yX2_findBestBlend, Cond.instanceMethod yX2_findBestBlend, Cond.selects RX2 yX2_findBestBlend yX2_findBestBlend, Cond.initialized RX2, Cond.code yX2_findBestBlend cX2_findBestBlend 4 none, Cond.fieldLink RX2 114 "CaskYard" "caskCount" "I", Cond.fieldLink RX2 30 "CaskYard" "casks" "[LCaskYard$Cask;", Cond.methodLink RX2 330 yX0_clear, Cond.instanceMethod yX0_clear, Cond.selects RX0 yX0_clear yX0_clear, Cond.initialized RX0, Cond.code yX0_clear cX0_clear 1 none, Cond.fieldLink RX0 9 "CaskYard$Blend" "a" "I", Cond.fieldLink RX0 15 "CaskYard$Blend" "b" "I"]
def wsX2_blend_r2 : List Cond := [Cond.fieldLink RX0 18 "CaskYard$Blend" "tenths" "I", Cond.fieldLink RX0 21 "CaskYard$Blend" "mixedTaste" "I", Cond.fieldLink RX0 24 "CaskYard$Blend" "difference" "I", Cond.methodLink RX2 331 yX1_canBeBlended, Cond.instanceMethod yX1_canBeBlended, Cond.selects RX1 yX1_canBeBlended yX1_canBeBlended, Cond.initialized RX1, Cond.code yX1_canBeBlended cX1_canBeBlended 1 (some .boolean), Cond.fieldLink RX1 18 "CaskYard$Cask" "sound" "Z", Cond.fieldLink RX1 15 "CaskYard$Cask" "amounts" "[I", Cond.methodLink RX1 69 yX1_held, Cond.instanceMethod yX1_held, Cond.selects RX1 yX1_held yX1_held, Cond.code yX1_held cX1_held 3 (some .int), Cond.methodLink RX2 335 yX2_offerBlends, Cond.instanceMethod yX2_offerBlends, Cond.selects RX2 yX2_offerBlends yX2_offerBlends, Cond.code yX2_offerBlends cX2_offerBlends 8 none, Cond.methodLink RX2 339 yX1_tasteOfOak, Cond.instanceMethod yX1_tasteOfOak, Cond.selects RX1 yX1_tasteOfOak yX1_tasteOfOak, Cond.code yX1_tasteOfOak cX1_tasteOfOak 2 (some .int), Cond.constantLong RX1 72 (1000000), Cond.fieldLink RX1 38 "CaskYard$Cask" "grains" "I"]
def wsX2_blend_r3 : List Cond := [Cond.constantLong RX1 74 (1000), Cond.methodLink RX1 76 Lib.MathLoose.min_long.x, Cond.static Lib.MathLoose.min_long.x, Cond.initialized "java/lang/Math", Cond.code Lib.MathLoose.min_long.x Lib.MathLoose.min_long.code 4 (some .long), Cond.methodLink RX2 342 yX0_offer, Cond.instanceMethod yX0_offer, Cond.selects RX0 yX0_offer yX0_offer, Cond.code yX0_offer cX0_offer 7 none, Cond.methodLink RX0 27 Lib.Math.abs.name, Cond.static Lib.Math.abs.name, Cond.code Lib.Math.abs.name Lib.Math.abs.code 1 (some .int)]
def wsX2_blend : List Cond := .code yX2_blend cX2_blend 3 (some .int) :: ((wsX2_blend_r1 ++ (wsX2_blend_r2 ++ wsX2_blend_r3)) ++ wsX20 ++ wsX00 ++ wsX10 ++ (vx_atS RX2 61 "java/lang/IllegalArgumentException" ["java/lang/RuntimeException", "java/lang/Exception"]).filter goodWord ++ (vx_atS RX2 82 "java/lang/IndexOutOfBoundsException" ["java/lang/RuntimeException", "java/lang/Exception"]).filter goodWord)
def wsX2_taste : List Cond := .code yX2_taste cX2_taste 5 (some .double) :: ([.fieldLink RX2 114 "CaskYard" "caskCount" "I", .fieldLink RX2 30 "CaskYard" "casks" "[LCaskYard$Cask;", .fieldLink RX2 263 "CaskYard$Cask" "grains" "I", .methodLink RX2 244 yX2_heldByAll, .instanceMethod yX2_heldByAll, .selects RX2 yX2_heldByAll yX2_heldByAll, .initialized RX2, .code yX2_heldByAll cX2_heldByAll 3 (some .int), .methodLink RX2 172 yX1_held, .instanceMethod yX1_held, .selects RX1 yX1_held yX1_held, .initialized RX1, .code yX1_held cX1_held 3 (some .int), .fieldLink RX1 15 "CaskYard$Cask" "amounts" "[I"] ++ wsX20 ++ wsX10)
def wsX2_digestCask_r1 : List Cond := [Cond.constantLong RX2 289 (31), Cond.fieldLink RX2 30 "CaskYard" "casks" "[LCaskYard$Cask;", Cond.fieldLink RX2 146 "CaskYard$Cask" "hoops" "I", Cond.fieldLink RX2 153 "CaskYard$Cask" "tensions" "[I", Cond.methodLink RX2 194 yX2_tellOfCask, Cond.instanceMethod yX2_tellOfCask, Cond.selects RX2 yX2_tellOfCask yX2_tellOfCask, Cond.initialized RX2, Cond.code yX2_tellOfCask cX2_tellOfCask 5 (some .int), Cond.fieldLink RX2 206 "CaskYard$Cask" "amounts" "[I", Cond.fieldLink RX2 121 "CaskYard$Cask" "sort" "I", Cond.fieldLink RX2 138 "CaskYard$Cask" "flaws" "I", Cond.fieldLink RX2 321 "CaskYard$Cask" "swelling" "I", Cond.fieldLink RX2 324 "CaskYard$Cask" "fillings" "I", Cond.fieldLink RX2 327 "CaskYard$Cask" "airMonths" "I", Cond.fieldLink RX2 263 "CaskYard$Cask" "grains" "I", Cond.fieldLink RX2 127 "CaskYard$Cask" "sound" "Z", Cond.methodLink RX2 238 yX2_stavesAt, Cond.instanceMethod yX2_stavesAt, Cond.selects RX2 yX2_stavesAt yX2_stavesAt, Cond.code yX2_stavesAt cX2_stavesAt 4 (some .int), Cond.fieldLink RX2 66 "CaskYard" "staveCount" "I", Cond.fieldLink RX2 16 "CaskYard" "places" "[I", Cond.methodLink RX2 162 yX1_allTensions]
def wsX2_digestCask_r2 : List Cond := [Cond.instanceMethod yX1_allTensions, Cond.selects RX1 yX1_allTensions yX1_allTensions, Cond.initialized RX1, Cond.code yX1_allTensions cX1_allTensions 3 (some .int), Cond.fieldLink RX1 9 "CaskYard$Cask" "tensions" "[I", Cond.methodLink RX2 172 yX1_held, Cond.instanceMethod yX1_held, Cond.selects RX1 yX1_held yX1_held, Cond.code yX1_held cX1_held 3 (some .int), Cond.fieldLink RX1 15 "CaskYard$Cask" "amounts" "[I", Cond.methodLink RX2 266 yX1_leak, Cond.instanceMethod yX1_leak, Cond.selects RX1 yX1_leak yX1_leak, Cond.code yX1_leak cX1_leak 1 (some .int), Cond.fieldLink RX1 18 "CaskYard$Cask" "sound" "Z", Cond.fieldLink RX1 22 "CaskYard$Cask" "flaws" "I", Cond.fieldLink RX1 29 "CaskYard$Cask" "swelling" "I", Cond.methodLink RX1 63 Lib.Math.max.name, Cond.static Lib.Math.max.name, Cond.initialized "java/lang/Math", Cond.code Lib.Math.max.name Lib.Math.max.code 2 (some .int), Cond.methodLink RX1 59 yX1_allTensions]
def wsX2_digestCask : List Cond := .code yX2_digestCask cX2_digestCask 8 (some .long) :: ((wsX2_digestCask_r1 ++ wsX2_digestCask_r2) ++ wsX20 ++ wsX10)
def wsX2_digest_r1 : List Cond := [Cond.constantLong RX2 287 (487), Cond.constantLong RX2 289 (31), Cond.fieldLink RX2 66 "CaskYard" "staveCount" "I", Cond.fieldLink RX2 9 "CaskYard" "widths" "[I", Cond.fieldLink RX2 13 "CaskYard" "drynesses" "[I", Cond.fieldLink RX2 16 "CaskYard" "places" "[I", Cond.fieldLink RX2 92 "CaskYard" "sortCount" "I", Cond.fieldLink RX2 19 "CaskYard" "girths" "[I", Cond.fieldLink RX2 22 "CaskYard" "rooms" "[I", Cond.fieldLink RX2 25 "CaskYard" "hoopNumbers" "[I", Cond.fieldLink RX2 114 "CaskYard" "caskCount" "I", Cond.methodLink RX2 291 yX2_count, Cond.instanceMethod yX2_count, Cond.selects RX2 yX2_count yX2_count, Cond.initialized RX2, Cond.code yX2_count cX2_count 2 (some .int), Cond.classLink RX2 78 "java/lang/IndexOutOfBoundsException", Cond.initialized "java/lang/IndexOutOfBoundsException", Cond.fieldLink RX2 225 "CaskYard" "month" "I", Cond.fieldLink RX2 233 "CaskYard" "lostInAll" "I", Cond.fieldLink RX2 53 "CaskYard" "warmthNow" "I", Cond.methodLink RX2 238 yX2_stavesAt, Cond.instanceMethod yX2_stavesAt, Cond.selects RX2 yX2_stavesAt yX2_stavesAt]
def wsX2_digest_r2 : List Cond := [Cond.code yX2_stavesAt cX2_stavesAt 4 (some .int), Cond.methodLink RX2 241 yX2_soundCasks, Cond.instanceMethod yX2_soundCasks, Cond.selects RX2 yX2_soundCasks yX2_soundCasks, Cond.code yX2_soundCasks cX2_soundCasks 3 (some .int), Cond.fieldLink RX2 30 "CaskYard" "casks" "[LCaskYard$Cask;", Cond.fieldLink RX2 127 "CaskYard$Cask" "sound" "Z", Cond.methodLink RX2 244 yX2_heldByAll, Cond.instanceMethod yX2_heldByAll, Cond.selects RX2 yX2_heldByAll yX2_heldByAll, Cond.code yX2_heldByAll cX2_heldByAll 3 (some .int), Cond.methodLink RX2 172 yX1_held, Cond.instanceMethod yX1_held, Cond.selects RX1 yX1_held yX1_held, Cond.initialized RX1, Cond.code yX1_held cX1_held 3 (some .int), Cond.fieldLink RX1 15 "CaskYard$Cask" "amounts" "[I", Cond.methodLink RX2 247 yX2_vinegarOfAll, Cond.instanceMethod yX2_vinegarOfAll, Cond.selects RX2 yX2_vinegarOfAll yX2_vinegarOfAll, Cond.code yX2_vinegarOfAll cX2_vinegarOfAll 3 (some .int), Cond.fieldLink RX2 206 "CaskYard$Cask" "amounts" "[I", Cond.methodLink RX2 294 yX2_digestCask, Cond.instanceMethod yX2_digestCask]
def wsX2_digest_r3 : List Cond := [Cond.selects RX2 yX2_digestCask yX2_digestCask, Cond.code yX2_digestCask cX2_digestCask 8 (some .long), Cond.fieldLink RX2 146 "CaskYard$Cask" "hoops" "I", Cond.fieldLink RX2 153 "CaskYard$Cask" "tensions" "[I", Cond.methodLink RX2 194 yX2_tellOfCask, Cond.instanceMethod yX2_tellOfCask, Cond.selects RX2 yX2_tellOfCask yX2_tellOfCask, Cond.code yX2_tellOfCask cX2_tellOfCask 5 (some .int), Cond.fieldLink RX2 121 "CaskYard$Cask" "sort" "I", Cond.fieldLink RX2 138 "CaskYard$Cask" "flaws" "I", Cond.fieldLink RX2 321 "CaskYard$Cask" "swelling" "I", Cond.fieldLink RX2 324 "CaskYard$Cask" "fillings" "I", Cond.fieldLink RX2 327 "CaskYard$Cask" "airMonths" "I", Cond.fieldLink RX2 263 "CaskYard$Cask" "grains" "I", Cond.methodLink RX2 162 yX1_allTensions, Cond.instanceMethod yX1_allTensions, Cond.selects RX1 yX1_allTensions yX1_allTensions, Cond.code yX1_allTensions cX1_allTensions 3 (some .int), Cond.fieldLink RX1 9 "CaskYard$Cask" "tensions" "[I", Cond.methodLink RX2 266 yX1_leak, Cond.instanceMethod yX1_leak, Cond.selects RX1 yX1_leak yX1_leak, Cond.code yX1_leak cX1_leak 1 (some .int), Cond.fieldLink RX1 18 "CaskYard$Cask" "sound" "Z"]
def wsX2_digest_r4 : List Cond := [Cond.fieldLink RX1 22 "CaskYard$Cask" "flaws" "I", Cond.fieldLink RX1 29 "CaskYard$Cask" "swelling" "I", Cond.methodLink RX1 63 Lib.Math.max.name, Cond.static Lib.Math.max.name, Cond.initialized "java/lang/Math", Cond.code Lib.Math.max.name Lib.Math.max.code 2 (some .int), Cond.methodLink RX1 59 yX1_allTensions]
def wsX2_digest : List Cond := .code yX2_digest cX2_digest 4 (some .long) :: ((wsX2_digest_r1 ++ (wsX2_digest_r2 ++ (wsX2_digest_r3 ++ wsX2_digest_r4))) ++ wsX20 ++ wsX10 ++ (vx_atS RX2 82 "java/lang/IndexOutOfBoundsException" ["java/lang/RuntimeException", "java/lang/Exception"]).filter goodWord)
def wsX3_init : List Cond := .code yX3_init cX3_init 1 none :: ([.methodLink RX3 1 objectInit, .instanceMethod objectInit, .code objectInit ⟨#[0xb1]⟩ 1 none, .fieldLink RX3 7 "CaskYardModel" "warmth" "I", .arrayClass .int, .fieldLink RX3 13 "CaskYardModel" "width" "[I", .fieldLink RX3 17 "CaskYardModel" "dryness" "[I", .fieldLink RX3 20 "CaskYardModel" "where" "[I", .fieldLink RX3 23 "CaskYardModel" "girth" "[I", .fieldLink RX3 26 "CaskYardModel" "room" "[I", .fieldLink RX3 29 "CaskYardModel" "hoops" "[I", .fieldLink RX3 32 "CaskYardModel" "sort" "[I", .arrayClass .boolean, .fieldLink RX3 35 "CaskYardModel" "isSound" "[Z", .fieldLink RX3 39 "CaskYardModel" "flaws" "[I", .fieldLink RX3 42 "CaskYardModel" "tension" "[I", .fieldLink RX3 45 "CaskYardModel" "swelling" "[I", .fieldLink RX3 48 "CaskYardModel" "fillings" "[I", .fieldLink RX3 51 "CaskYardModel" "air" "[I", .fieldLink RX3 54 "CaskYardModel" "holds" "[I", .fieldLink RX3 57 "CaskYardModel" "grains" "[I", .constant RX3 60 (91805), .fieldLink RX3 61 "CaskYardModel" "fewest" "[I", .fieldLink RX3 64 "CaskYardModel" "choice" "[I"] ++ wsX30)
def wsX3_thrown : List Cond := .code yX3_thrown cX3_thrown 1 (some .int) :: ([.fieldLink RX3 67 "CaskYardModel" "thrown" "I"] ++ wsX30)
def wsX3_no : List Cond := .code yX3_no cX3_no 2 (some .int) :: ([.fieldLink RX3 67 "CaskYardModel" "thrown" "I"] ++ wsX30)
def wsX3_isIn : List Cond := .code yX3_isIn cX3_isIn 3 (some .boolean) :: ([])
def wsX3_addStave : List Cond := .code yX3_addStave cX3_addStave 3 (some .int) :: ([.fieldLink RX3 67 "CaskYardModel" "thrown" "I", .fieldLink RX3 78 "CaskYardModel" "staves" "I", .fieldLink RX3 13 "CaskYardModel" "width" "[I", .fieldLink RX3 17 "CaskYardModel" "dryness" "[I", .fieldLink RX3 20 "CaskYardModel" "where" "[I", .methodLink RX3 70 yX3_isIn, .static yX3_isIn, .initialized RX3, .code yX3_isIn cX3_isIn 3 (some .boolean), .methodLink RX3 74 yX3_no, .instanceMethod yX3_no, .selects RX3 yX3_no yX3_no, .code yX3_no cX3_no 2 (some .int)] ++ wsX30)
def wsX3_isStave : List Cond := .code yX3_isStave cX3_isStave 2 (some .boolean) :: ([.fieldLink RX3 78 "CaskYardModel" "staves" "I", .methodLink RX3 70 yX3_isIn, .static yX3_isIn, .initialized RX3, .code yX3_isIn cX3_isIn 3 (some .boolean)] ++ wsX30)
def wsX3_staveTold : List Cond := .code yX3_staveTold cX3_staveTold 3 (some .int) :: ([.fieldLink RX3 13 "CaskYardModel" "width" "[I", .fieldLink RX3 17 "CaskYardModel" "dryness" "[I", .fieldLink RX3 20 "CaskYardModel" "where" "[I"] ++ wsX30)
def wsX3_stave : List Cond := .code yX3_stave cX3_stave 3 (some .int) :: ([.fieldLink RX3 67 "CaskYardModel" "thrown" "I", .methodLink RX3 81 yX3_isStave, .instanceMethod yX3_isStave, .selects RX3 yX3_isStave yX3_isStave, .initialized RX3, .code yX3_isStave cX3_isStave 2 (some .boolean), .fieldLink RX3 78 "CaskYardModel" "staves" "I", .methodLink RX3 70 yX3_isIn, .static yX3_isIn, .code yX3_isIn cX3_isIn 3 (some .boolean), .methodLink RX3 85 yX3_staveTold, .instanceMethod yX3_staveTold, .selects RX3 yX3_staveTold yX3_staveTold, .code yX3_staveTold cX3_staveTold 3 (some .int), .fieldLink RX3 13 "CaskYardModel" "width" "[I", .fieldLink RX3 17 "CaskYardModel" "dryness" "[I", .fieldLink RX3 20 "CaskYardModel" "where" "[I", .methodLink RX3 74 yX3_no, .instanceMethod yX3_no, .selects RX3 yX3_no yX3_no, .code yX3_no cX3_no 2 (some .int)] ++ wsX30)
def wsX3_addSort : List Cond := .code yX3_addSort cX3_addSort 4 (some .int) :: ([.fieldLink RX3 67 "CaskYardModel" "thrown" "I", .constant RX3 89 (60000), .fieldLink RX3 90 "CaskYardModel" "sorts" "I", .fieldLink RX3 23 "CaskYardModel" "girth" "[I", .fieldLink RX3 26 "CaskYardModel" "room" "[I", .fieldLink RX3 29 "CaskYardModel" "hoops" "[I", .methodLink RX3 70 yX3_isIn, .static yX3_isIn, .initialized RX3, .code yX3_isIn cX3_isIn 3 (some .boolean), .methodLink RX3 74 yX3_no, .instanceMethod yX3_no, .selects RX3 yX3_no yX3_no, .code yX3_no cX3_no 2 (some .int)] ++ wsX30)
def wsX3_isSort : List Cond := .code yX3_isSort cX3_isSort 2 (some .boolean) :: ([.fieldLink RX3 90 "CaskYardModel" "sorts" "I", .methodLink RX3 70 yX3_isIn, .static yX3_isIn, .initialized RX3, .code yX3_isIn cX3_isIn 3 (some .boolean)] ++ wsX30)
def wsX3_isReady : List Cond := .code yX3_isReady cX3_isReady 2 (some .boolean) :: ([.fieldLink RX3 20 "CaskYardModel" "where" "[I", .fieldLink RX3 17 "CaskYardModel" "dryness" "[I"] ++ wsX30)
def wsX3_find : List Cond := .code yX3_find cX3_find 6 (some .boolean) :: ([.fieldLink RX3 61 "CaskYardModel" "fewest" "[I", .fieldLink RX3 78 "CaskYardModel" "staves" "I", .fieldLink RX3 13 "CaskYardModel" "width" "[I", .methodLink RX3 96 Lib.Math.min.name, .static Lib.Math.min.name, .initialized "java/lang/Math", .code Lib.Math.min.name Lib.Math.min.code 2 (some .int), .fieldLink RX3 101 "CaskYardModel" "chosen" "I", .fieldLink RX3 23 "CaskYardModel" "girth" "[I", .fieldLink RX3 64 "CaskYardModel" "choice" "[I", .methodLink RX3 93 yX3_isReady, .instanceMethod yX3_isReady, .selects RX3 yX3_isReady yX3_isReady, .initialized RX3, .code yX3_isReady cX3_isReady 2 (some .boolean), .fieldLink RX3 20 "CaskYardModel" "where" "[I", .fieldLink RX3 17 "CaskYardModel" "dryness" "[I"] ++ wsX30)
def wsX3_choose_r1 : List Cond := [Cond.fieldLink RX3 67 "CaskYardModel" "thrown" "I", Cond.fieldLink RX3 101 "CaskYardModel" "chosen" "I", Cond.fieldLink RX3 64 "CaskYardModel" "choice" "[I", Cond.methodLink RX3 104 yX3_isSort, Cond.instanceMethod yX3_isSort, Cond.selects RX3 yX3_isSort yX3_isSort, Cond.initialized RX3, Cond.code yX3_isSort cX3_isSort 2 (some .boolean), Cond.fieldLink RX3 90 "CaskYardModel" "sorts" "I", Cond.methodLink RX3 70 yX3_isIn, Cond.static yX3_isIn, Cond.code yX3_isIn cX3_isIn 3 (some .boolean), Cond.methodLink RX3 74 yX3_no, Cond.instanceMethod yX3_no, Cond.selects RX3 yX3_no yX3_no, Cond.code yX3_no cX3_no 2 (some .int), Cond.methodLink RX3 107 yX3_find, Cond.instanceMethod yX3_find, Cond.selects RX3 yX3_find yX3_find, Cond.code yX3_find cX3_find 6 (some .boolean), Cond.fieldLink RX3 61 "CaskYardModel" "fewest" "[I", Cond.fieldLink RX3 78 "CaskYardModel" "staves" "I", Cond.fieldLink RX3 13 "CaskYardModel" "width" "[I", Cond.methodLink RX3 96 Lib.Math.min.name]
def wsX3_choose_r2 : List Cond := [Cond.static Lib.Math.min.name, Cond.initialized "java/lang/Math", Cond.code Lib.Math.min.name Lib.Math.min.code 2 (some .int), Cond.fieldLink RX3 23 "CaskYardModel" "girth" "[I", Cond.methodLink RX3 93 yX3_isReady, Cond.instanceMethod yX3_isReady, Cond.selects RX3 yX3_isReady yX3_isReady, Cond.code yX3_isReady cX3_isReady 2 (some .boolean), Cond.fieldLink RX3 20 "CaskYardModel" "where" "[I", Cond.fieldLink RX3 17 "CaskYardModel" "dryness" "[I"]
def wsX3_choose : List Cond := .code yX3_choose cX3_choose 3 (some .int) :: ((wsX3_choose_r1 ++ wsX3_choose_r2) ++ wsX30)
def wsX3_raise_r1 : List Cond := [Cond.fieldLink RX3 67 "CaskYardModel" "thrown" "I", Cond.fieldLink RX3 110 "CaskYardModel" "casks" "I", Cond.fieldLink RX3 32 "CaskYardModel" "sort" "[I", Cond.fieldLink RX3 35 "CaskYardModel" "isSound" "[Z", Cond.fieldLink RX3 39 "CaskYardModel" "flaws" "[I", Cond.fieldLink RX3 101 "CaskYardModel" "chosen" "I", Cond.fieldLink RX3 20 "CaskYardModel" "where" "[I", Cond.fieldLink RX3 64 "CaskYardModel" "choice" "[I", Cond.fieldLink RX3 17 "CaskYardModel" "dryness" "[I", Cond.fieldLink RX3 42 "CaskYardModel" "tension" "[I", Cond.fieldLink RX3 29 "CaskYardModel" "hoops" "[I", Cond.fieldLink RX3 45 "CaskYardModel" "swelling" "[I", Cond.fieldLink RX3 48 "CaskYardModel" "fillings" "[I", Cond.fieldLink RX3 51 "CaskYardModel" "air" "[I", Cond.fieldLink RX3 57 "CaskYardModel" "grains" "[I", Cond.methodLink RX3 104 yX3_isSort, Cond.instanceMethod yX3_isSort, Cond.selects RX3 yX3_isSort yX3_isSort, Cond.initialized RX3, Cond.code yX3_isSort cX3_isSort 2 (some .boolean), Cond.fieldLink RX3 90 "CaskYardModel" "sorts" "I", Cond.methodLink RX3 70 yX3_isIn, Cond.static yX3_isIn, Cond.code yX3_isIn cX3_isIn 3 (some .boolean)]
def wsX3_raise_r2 : List Cond := [Cond.methodLink RX3 74 yX3_no, Cond.instanceMethod yX3_no, Cond.selects RX3 yX3_no yX3_no, Cond.code yX3_no cX3_no 2 (some .int), Cond.methodLink RX3 107 yX3_find, Cond.instanceMethod yX3_find, Cond.selects RX3 yX3_find yX3_find, Cond.code yX3_find cX3_find 6 (some .boolean), Cond.fieldLink RX3 61 "CaskYardModel" "fewest" "[I", Cond.fieldLink RX3 78 "CaskYardModel" "staves" "I", Cond.fieldLink RX3 13 "CaskYardModel" "width" "[I", Cond.methodLink RX3 96 Lib.Math.min.name, Cond.static Lib.Math.min.name, Cond.initialized "java/lang/Math", Cond.code Lib.Math.min.name Lib.Math.min.code 2 (some .int), Cond.fieldLink RX3 23 "CaskYardModel" "girth" "[I", Cond.methodLink RX3 93 yX3_isReady, Cond.instanceMethod yX3_isReady, Cond.selects RX3 yX3_isReady yX3_isReady, Cond.code yX3_isReady cX3_isReady 2 (some .boolean)]
def wsX3_raise : List Cond := .code yX3_raise cX3_raise 4 (some .int) :: ((wsX3_raise_r1 ++ wsX3_raise_r2) ++ wsX30)
def wsX3_isCask : List Cond := .code yX3_isCask cX3_isCask 2 (some .boolean) :: ([.fieldLink RX3 110 "CaskYardModel" "casks" "I", .methodLink RX3 70 yX3_isIn, .static yX3_isIn, .initialized RX3, .code yX3_isIn cX3_isIn 3 (some .boolean)] ++ wsX30)
def wsX3_hoopsOf : List Cond := .code yX3_hoopsOf cX3_hoopsOf 2 (some .int) :: ([.fieldLink RX3 35 "CaskYardModel" "isSound" "[Z", .fieldLink RX3 29 "CaskYardModel" "hoops" "[I", .fieldLink RX3 32 "CaskYardModel" "sort" "[I"] ++ wsX30)
def wsX3_tensions : List Cond := .code yX3_tensions cX3_tensions 4 (some .int) :: ([.fieldLink RX3 42 "CaskYardModel" "tension" "[I", .methodLink RX3 113 yX3_hoopsOf, .instanceMethod yX3_hoopsOf, .selects RX3 yX3_hoopsOf yX3_hoopsOf, .initialized RX3, .code yX3_hoopsOf cX3_hoopsOf 2 (some .int), .fieldLink RX3 35 "CaskYardModel" "isSound" "[Z", .fieldLink RX3 29 "CaskYardModel" "hoops" "[I", .fieldLink RX3 32 "CaskYardModel" "sort" "[I"] ++ wsX30)
def wsX3_all : List Cond := .code yX3_all cX3_all 4 (some .int) :: ([.fieldLink RX3 54 "CaskYardModel" "holds" "[I"] ++ wsX30)
def wsX3_drive_r1 : List Cond := [Cond.fieldLink RX3 67 "CaskYardModel" "thrown" "I", Cond.fieldLink RX3 42 "CaskYardModel" "tension" "[I", Cond.methodLink RX3 96 Lib.Math.min.name, Cond.static Lib.Math.min.name, Cond.initialized "java/lang/Math", Cond.code Lib.Math.min.name Lib.Math.min.code 2 (some .int), Cond.fieldLink RX3 39 "CaskYardModel" "flaws" "[I", Cond.methodLink RX3 116 yX3_isCask, Cond.instanceMethod yX3_isCask, Cond.selects RX3 yX3_isCask yX3_isCask, Cond.initialized RX3, Cond.code yX3_isCask cX3_isCask 2 (some .boolean), Cond.fieldLink RX3 110 "CaskYardModel" "casks" "I", Cond.methodLink RX3 70 yX3_isIn, Cond.static yX3_isIn, Cond.code yX3_isIn cX3_isIn 3 (some .boolean), Cond.methodLink RX3 113 yX3_hoopsOf, Cond.instanceMethod yX3_hoopsOf, Cond.selects RX3 yX3_hoopsOf yX3_hoopsOf, Cond.code yX3_hoopsOf cX3_hoopsOf 2 (some .int), Cond.fieldLink RX3 35 "CaskYardModel" "isSound" "[Z", Cond.fieldLink RX3 29 "CaskYardModel" "hoops" "[I", Cond.fieldLink RX3 32 "CaskYardModel" "sort" "[I", Cond.methodLink RX3 74 yX3_no]
def wsX3_drive_r2 : List Cond := [Cond.instanceMethod yX3_no, Cond.selects RX3 yX3_no yX3_no, Cond.code yX3_no cX3_no 2 (some .int), Cond.methodLink RX3 119 yX3_tensions, Cond.instanceMethod yX3_tensions, Cond.selects RX3 yX3_tensions yX3_tensions, Cond.code yX3_tensions cX3_tensions 4 (some .int)]
def wsX3_drive : List Cond := .code yX3_drive cX3_drive 5 (some .int) :: ((wsX3_drive_r1 ++ wsX3_drive_r2) ++ wsX30)
def wsX3_lastStave : List Cond := .code yX3_lastStave cX3_lastStave 4 (some .int) :: ([.fieldLink RX3 78 "CaskYardModel" "staves" "I", .fieldLink RX3 20 "CaskYardModel" "where" "[I"] ++ wsX30)
def wsX3_mend_r1 : List Cond := [Cond.fieldLink RX3 67 "CaskYardModel" "thrown" "I", Cond.fieldLink RX3 35 "CaskYardModel" "isSound" "[Z", Cond.fieldLink RX3 20 "CaskYardModel" "where" "[I", Cond.fieldLink RX3 13 "CaskYardModel" "width" "[I", Cond.fieldLink RX3 39 "CaskYardModel" "flaws" "[I", Cond.fieldLink RX3 17 "CaskYardModel" "dryness" "[I", Cond.methodLink RX3 116 yX3_isCask, Cond.instanceMethod yX3_isCask, Cond.selects RX3 yX3_isCask yX3_isCask, Cond.initialized RX3, Cond.code yX3_isCask cX3_isCask 2 (some .boolean), Cond.fieldLink RX3 110 "CaskYardModel" "casks" "I", Cond.methodLink RX3 70 yX3_isIn, Cond.static yX3_isIn, Cond.code yX3_isIn cX3_isIn 3 (some .boolean), Cond.methodLink RX3 81 yX3_isStave, Cond.instanceMethod yX3_isStave, Cond.selects RX3 yX3_isStave yX3_isStave, Cond.code yX3_isStave cX3_isStave 2 (some .boolean), Cond.fieldLink RX3 78 "CaskYardModel" "staves" "I", Cond.methodLink RX3 74 yX3_no, Cond.instanceMethod yX3_no, Cond.selects RX3 yX3_no yX3_no, Cond.code yX3_no cX3_no 2 (some .int)]
def wsX3_mend_r2 : List Cond := [Cond.methodLink RX3 122 yX3_all, Cond.instanceMethod yX3_all, Cond.selects RX3 yX3_all yX3_all, Cond.code yX3_all cX3_all 4 (some .int), Cond.fieldLink RX3 54 "CaskYardModel" "holds" "[I", Cond.methodLink RX3 125 yX3_lastStave, Cond.instanceMethod yX3_lastStave, Cond.selects RX3 yX3_lastStave yX3_lastStave, Cond.code yX3_lastStave cX3_lastStave 4 (some .int)]
def wsX3_mend : List Cond := .code yX3_mend cX3_mend 4 (some .int) :: ((wsX3_mend_r1 ++ wsX3_mend_r2) ++ wsX30)
def wsX3_breakUp_r1 : List Cond := [Cond.fieldLink RX3 67 "CaskYardModel" "thrown" "I", Cond.fieldLink RX3 35 "CaskYardModel" "isSound" "[Z", Cond.fieldLink RX3 54 "CaskYardModel" "holds" "[I", Cond.fieldLink RX3 57 "CaskYardModel" "grains" "[I", Cond.fieldLink RX3 78 "CaskYardModel" "staves" "I", Cond.fieldLink RX3 20 "CaskYardModel" "where" "[I", Cond.fieldLink RX3 17 "CaskYardModel" "dryness" "[I", Cond.methodLink RX3 128 Lib.Math.max.name, Cond.static Lib.Math.max.name, Cond.initialized "java/lang/Math", Cond.code Lib.Math.max.name Lib.Math.max.code 2 (some .int), Cond.methodLink RX3 116 yX3_isCask, Cond.instanceMethod yX3_isCask, Cond.selects RX3 yX3_isCask yX3_isCask, Cond.initialized RX3, Cond.code yX3_isCask cX3_isCask 2 (some .boolean), Cond.fieldLink RX3 110 "CaskYardModel" "casks" "I", Cond.methodLink RX3 70 yX3_isIn, Cond.static yX3_isIn, Cond.code yX3_isIn cX3_isIn 3 (some .boolean), Cond.methodLink RX3 74 yX3_no, Cond.instanceMethod yX3_no, Cond.selects RX3 yX3_no yX3_no, Cond.code yX3_no cX3_no 2 (some .int)]
def wsX3_breakUp_r2 : List Cond := [Cond.methodLink RX3 122 yX3_all, Cond.instanceMethod yX3_all, Cond.selects RX3 yX3_all yX3_all, Cond.code yX3_all cX3_all 4 (some .int)]
def wsX3_breakUp : List Cond := .code yX3_breakUp cX3_breakUp 5 (some .int) :: ((wsX3_breakUp_r1 ++ wsX3_breakUp_r2) ++ wsX30)
def wsX3_stavesOf : List Cond := .code yX3_stavesOf cX3_stavesOf 4 (some .int) :: ([.fieldLink RX3 78 "CaskYardModel" "staves" "I", .fieldLink RX3 20 "CaskYardModel" "where" "[I"] ++ wsX30)
def wsX3_leak : List Cond := .code yX3_leak cX3_leak 2 (some .int) :: ([.fieldLink RX3 39 "CaskYardModel" "flaws" "[I", .fieldLink RX3 45 "CaskYardModel" "swelling" "[I", .methodLink RX3 128 Lib.Math.max.name, .static Lib.Math.max.name, .initialized "java/lang/Math", .code Lib.Math.max.name Lib.Math.max.code 2 (some .int), .methodLink RX3 119 yX3_tensions, .instanceMethod yX3_tensions, .selects RX3 yX3_tensions yX3_tensions, .initialized RX3, .code yX3_tensions cX3_tensions 4 (some .int), .fieldLink RX3 42 "CaskYardModel" "tension" "[I", .methodLink RX3 113 yX3_hoopsOf, .instanceMethod yX3_hoopsOf, .selects RX3 yX3_hoopsOf yX3_hoopsOf, .code yX3_hoopsOf cX3_hoopsOf 2 (some .int), .fieldLink RX3 35 "CaskYardModel" "isSound" "[Z", .fieldLink RX3 29 "CaskYardModel" "hoops" "[I", .fieldLink RX3 32 "CaskYardModel" "sort" "[I"] ++ wsX30)
def wsX3_caskTold_r1 : List Cond := [Cond.fieldLink RX3 32 "CaskYardModel" "sort" "[I", Cond.fieldLink RX3 35 "CaskYardModel" "isSound" "[Z", Cond.fieldLink RX3 54 "CaskYardModel" "holds" "[I", Cond.fieldLink RX3 57 "CaskYardModel" "grains" "[I", Cond.arrayClass .int, Cond.fieldLink RX3 39 "CaskYardModel" "flaws" "[I", Cond.fieldLink RX3 45 "CaskYardModel" "swelling" "[I", Cond.fieldLink RX3 48 "CaskYardModel" "fillings" "[I", Cond.fieldLink RX3 51 "CaskYardModel" "air" "[I", Cond.methodLink RX3 131 yX3_leak, Cond.instanceMethod yX3_leak, Cond.selects RX3 yX3_leak yX3_leak, Cond.initialized RX3, Cond.code yX3_leak cX3_leak 2 (some .int), Cond.methodLink RX3 128 Lib.Math.max.name, Cond.static Lib.Math.max.name, Cond.initialized "java/lang/Math", Cond.code Lib.Math.max.name Lib.Math.max.code 2 (some .int), Cond.methodLink RX3 119 yX3_tensions, Cond.instanceMethod yX3_tensions, Cond.selects RX3 yX3_tensions yX3_tensions, Cond.code yX3_tensions cX3_tensions 4 (some .int), Cond.fieldLink RX3 42 "CaskYardModel" "tension" "[I", Cond.methodLink RX3 113 yX3_hoopsOf]
def wsX3_caskTold_r2 : List Cond := [Cond.instanceMethod yX3_hoopsOf, Cond.selects RX3 yX3_hoopsOf yX3_hoopsOf, Cond.code yX3_hoopsOf cX3_hoopsOf 2 (some .int), Cond.fieldLink RX3 29 "CaskYardModel" "hoops" "[I", Cond.methodLink RX3 134 yX3_stavesOf, Cond.instanceMethod yX3_stavesOf, Cond.selects RX3 yX3_stavesOf yX3_stavesOf, Cond.code yX3_stavesOf cX3_stavesOf 4 (some .int), Cond.fieldLink RX3 78 "CaskYardModel" "staves" "I", Cond.fieldLink RX3 20 "CaskYardModel" "where" "[I", Cond.methodLink RX3 122 yX3_all, Cond.instanceMethod yX3_all, Cond.selects RX3 yX3_all yX3_all, Cond.code yX3_all cX3_all 4 (some .int)]
def wsX3_caskTold : List Cond := .code yX3_caskTold cX3_caskTold 4 (some .int) :: ((wsX3_caskTold_r1 ++ wsX3_caskTold_r2) ++ wsX30)
def wsX3_cask_r1 : List Cond := [Cond.fieldLink RX3 67 "CaskYardModel" "thrown" "I", Cond.methodLink RX3 116 yX3_isCask, Cond.instanceMethod yX3_isCask, Cond.selects RX3 yX3_isCask yX3_isCask, Cond.initialized RX3, Cond.code yX3_isCask cX3_isCask 2 (some .boolean), Cond.fieldLink RX3 110 "CaskYardModel" "casks" "I", Cond.methodLink RX3 70 yX3_isIn, Cond.static yX3_isIn, Cond.code yX3_isIn cX3_isIn 3 (some .boolean), Cond.methodLink RX3 137 yX3_caskTold, Cond.instanceMethod yX3_caskTold, Cond.selects RX3 yX3_caskTold yX3_caskTold, Cond.code yX3_caskTold cX3_caskTold 4 (some .int), Cond.fieldLink RX3 32 "CaskYardModel" "sort" "[I", Cond.fieldLink RX3 35 "CaskYardModel" "isSound" "[Z", Cond.fieldLink RX3 54 "CaskYardModel" "holds" "[I", Cond.fieldLink RX3 57 "CaskYardModel" "grains" "[I", Cond.arrayClass .int, Cond.fieldLink RX3 39 "CaskYardModel" "flaws" "[I", Cond.fieldLink RX3 45 "CaskYardModel" "swelling" "[I", Cond.fieldLink RX3 48 "CaskYardModel" "fillings" "[I", Cond.fieldLink RX3 51 "CaskYardModel" "air" "[I", Cond.methodLink RX3 131 yX3_leak]
def wsX3_cask_r2 : List Cond := [Cond.instanceMethod yX3_leak, Cond.selects RX3 yX3_leak yX3_leak, Cond.code yX3_leak cX3_leak 2 (some .int), Cond.methodLink RX3 128 Lib.Math.max.name, Cond.static Lib.Math.max.name, Cond.initialized "java/lang/Math", Cond.code Lib.Math.max.name Lib.Math.max.code 2 (some .int), Cond.methodLink RX3 119 yX3_tensions, Cond.instanceMethod yX3_tensions, Cond.selects RX3 yX3_tensions yX3_tensions, Cond.code yX3_tensions cX3_tensions 4 (some .int), Cond.fieldLink RX3 42 "CaskYardModel" "tension" "[I", Cond.methodLink RX3 113 yX3_hoopsOf, Cond.instanceMethod yX3_hoopsOf, Cond.selects RX3 yX3_hoopsOf yX3_hoopsOf, Cond.code yX3_hoopsOf cX3_hoopsOf 2 (some .int), Cond.fieldLink RX3 29 "CaskYardModel" "hoops" "[I", Cond.methodLink RX3 134 yX3_stavesOf, Cond.instanceMethod yX3_stavesOf, Cond.selects RX3 yX3_stavesOf yX3_stavesOf, Cond.code yX3_stavesOf cX3_stavesOf 4 (some .int), Cond.fieldLink RX3 78 "CaskYardModel" "staves" "I", Cond.fieldLink RX3 20 "CaskYardModel" "where" "[I", Cond.methodLink RX3 122 yX3_all]
def wsX3_cask_r3 : List Cond := [Cond.instanceMethod yX3_all, Cond.selects RX3 yX3_all yX3_all, Cond.code yX3_all cX3_all 4 (some .int), Cond.methodLink RX3 74 yX3_no, Cond.instanceMethod yX3_no, Cond.selects RX3 yX3_no yX3_no, Cond.code yX3_no cX3_no 2 (some .int)]
def wsX3_cask : List Cond := .code yX3_cask cX3_cask 3 (some .int) :: ((wsX3_cask_r1 ++ (wsX3_cask_r2 ++ wsX3_cask_r3)) ++ wsX30)
def wsX3_beginFilling : List Cond := .code yX3_beginFilling cX3_beginFilling 2 none :: ([.fieldLink RX3 48 "CaskYardModel" "fillings" "[I", .methodLink RX3 122 yX3_all, .instanceMethod yX3_all, .selects RX3 yX3_all yX3_all, .initialized RX3, .code yX3_all cX3_all 4 (some .int), .fieldLink RX3 54 "CaskYardModel" "holds" "[I"] ++ wsX30)
def wsX3_fill_r1 : List Cond := [Cond.fieldLink RX3 67 "CaskYardModel" "thrown" "I", Cond.constant RX3 89 (60000), Cond.fieldLink RX3 35 "CaskYardModel" "isSound" "[Z", Cond.fieldLink RX3 26 "CaskYardModel" "room" "[I", Cond.fieldLink RX3 32 "CaskYardModel" "sort" "[I", Cond.fieldLink RX3 54 "CaskYardModel" "holds" "[I", Cond.methodLink RX3 116 yX3_isCask, Cond.instanceMethod yX3_isCask, Cond.selects RX3 yX3_isCask yX3_isCask, Cond.initialized RX3, Cond.code yX3_isCask cX3_isCask 2 (some .boolean), Cond.fieldLink RX3 110 "CaskYardModel" "casks" "I", Cond.methodLink RX3 70 yX3_isIn, Cond.static yX3_isIn, Cond.code yX3_isIn cX3_isIn 3 (some .boolean), Cond.methodLink RX3 74 yX3_no, Cond.instanceMethod yX3_no, Cond.selects RX3 yX3_no yX3_no, Cond.code yX3_no cX3_no 2 (some .int), Cond.methodLink RX3 122 yX3_all, Cond.instanceMethod yX3_all, Cond.selects RX3 yX3_all yX3_all, Cond.code yX3_all cX3_all 4 (some .int), Cond.methodLink RX3 140 yX3_beginFilling]
def wsX3_fill_r2 : List Cond := [Cond.instanceMethod yX3_beginFilling, Cond.selects RX3 yX3_beginFilling yX3_beginFilling, Cond.code yX3_beginFilling cX3_beginFilling 2 none, Cond.fieldLink RX3 48 "CaskYardModel" "fillings" "[I"]
def wsX3_fill : List Cond := .code yX3_fill cX3_fill 4 (some .int) :: ((wsX3_fill_r1 ++ wsX3_fill_r2) ++ wsX30)
def wsX3_rack_r1 : List Cond := [Cond.fieldLink RX3 67 "CaskYardModel" "thrown" "I", Cond.constant RX3 89 (60000), Cond.fieldLink RX3 35 "CaskYardModel" "isSound" "[Z", Cond.fieldLink RX3 26 "CaskYardModel" "room" "[I", Cond.fieldLink RX3 32 "CaskYardModel" "sort" "[I", Cond.arrayClass .int, Cond.fieldLink RX3 54 "CaskYardModel" "holds" "[I", Cond.fieldLink RX3 57 "CaskYardModel" "grains" "[I", Cond.methodLink RX3 116 yX3_isCask, Cond.instanceMethod yX3_isCask, Cond.selects RX3 yX3_isCask yX3_isCask, Cond.initialized RX3, Cond.code yX3_isCask cX3_isCask 2 (some .boolean), Cond.fieldLink RX3 110 "CaskYardModel" "casks" "I", Cond.methodLink RX3 70 yX3_isIn, Cond.static yX3_isIn, Cond.code yX3_isIn cX3_isIn 3 (some .boolean), Cond.methodLink RX3 74 yX3_no, Cond.instanceMethod yX3_no, Cond.selects RX3 yX3_no yX3_no, Cond.code yX3_no cX3_no 2 (some .int), Cond.methodLink RX3 122 yX3_all, Cond.instanceMethod yX3_all, Cond.selects RX3 yX3_all yX3_all]
def wsX3_rack_r2 : List Cond := [Cond.code yX3_all cX3_all 4 (some .int), Cond.methodLink RX3 140 yX3_beginFilling, Cond.instanceMethod yX3_beginFilling, Cond.selects RX3 yX3_beginFilling yX3_beginFilling, Cond.code yX3_beginFilling cX3_beginFilling 2 none, Cond.fieldLink RX3 48 "CaskYardModel" "fillings" "[I"]
def wsX3_rack : List Cond := .code yX3_rack cX3_rack 10 (some .int) :: ((wsX3_rack_r1 ++ wsX3_rack_r2) ++ wsX30)
def wsX3_setWarmth : List Cond := .code yX3_setWarmth cX3_setWarmth 3 (some .int) :: ([.fieldLink RX3 67 "CaskYardModel" "thrown" "I", .fieldLink RX3 7 "CaskYardModel" "warmth" "I", .methodLink RX3 70 yX3_isIn, .static yX3_isIn, .initialized RX3, .code yX3_isIn cX3_isIn 3 (some .boolean), .methodLink RX3 74 yX3_no, .instanceMethod yX3_no, .selects RX3 yX3_no yX3_no, .code yX3_no cX3_no 2 (some .int)] ++ wsX30)
def wsX3_pass_r1 : List Cond := [Cond.fieldLink RX3 57 "CaskYardModel" "grains" "[I", Cond.fieldLink RX3 48 "CaskYardModel" "fillings" "[I", Cond.methodLink RX3 128 Lib.Math.max.name, Cond.static Lib.Math.max.name, Cond.initialized "java/lang/Math", Cond.code Lib.Math.max.name Lib.Math.max.code 2 (some .int), Cond.fieldLink RX3 45 "CaskYardModel" "swelling" "[I", Cond.fieldLink RX3 26 "CaskYardModel" "room" "[I", Cond.fieldLink RX3 32 "CaskYardModel" "sort" "[I", Cond.methodLink RX3 96 Lib.Math.min.name, Cond.static Lib.Math.min.name, Cond.code Lib.Math.min.name Lib.Math.min.code 2 (some .int), Cond.fieldLink RX3 7 "CaskYardModel" "warmth" "I", Cond.fieldLink RX3 54 "CaskYardModel" "holds" "[I", Cond.constantLong RX3 144 (1000), Cond.methodLink RX3 146 Lib.MathLoose.max_long.x, Cond.static Lib.MathLoose.max_long.x, Cond.code Lib.MathLoose.max_long.x Lib.MathLoose.max_long.code 4 (some .long), Cond.methodLink RX3 149 Lib.MathLoose.min_long.x, Cond.static Lib.MathLoose.min_long.x, Cond.code Lib.MathLoose.min_long.x Lib.MathLoose.min_long.code 4 (some .long), Cond.fieldLink RX3 51 "CaskYardModel" "air" "[I", Cond.fieldLink RX3 42 "CaskYardModel" "tension" "[I", Cond.methodLink RX3 122 yX3_all]
def wsX3_pass_r2 : List Cond := [Cond.instanceMethod yX3_all, Cond.selects RX3 yX3_all yX3_all, Cond.initialized RX3, Cond.code yX3_all cX3_all 4 (some .int), Cond.methodLink RX3 131 yX3_leak, Cond.instanceMethod yX3_leak, Cond.selects RX3 yX3_leak yX3_leak, Cond.code yX3_leak cX3_leak 2 (some .int), Cond.fieldLink RX3 39 "CaskYardModel" "flaws" "[I", Cond.methodLink RX3 119 yX3_tensions, Cond.instanceMethod yX3_tensions, Cond.selects RX3 yX3_tensions yX3_tensions, Cond.code yX3_tensions cX3_tensions 4 (some .int), Cond.methodLink RX3 113 yX3_hoopsOf, Cond.instanceMethod yX3_hoopsOf, Cond.selects RX3 yX3_hoopsOf yX3_hoopsOf, Cond.code yX3_hoopsOf cX3_hoopsOf 2 (some .int), Cond.fieldLink RX3 35 "CaskYardModel" "isSound" "[Z", Cond.fieldLink RX3 29 "CaskYardModel" "hoops" "[I"]
def wsX3_pass : List Cond := .code yX3_pass cX3_pass 8 (some .int) :: ((wsX3_pass_r1 ++ wsX3_pass_r2) ++ wsX30)
def wsX3_pass__r1 : List Cond := [Cond.fieldLink RX3 67 "CaskYardModel" "thrown" "I", Cond.fieldLink RX3 151 "CaskYardModel" "month" "I", Cond.fieldLink RX3 154 "CaskYardModel" "lost" "I", Cond.fieldLink RX3 78 "CaskYardModel" "staves" "I", Cond.fieldLink RX3 20 "CaskYardModel" "where" "[I", Cond.fieldLink RX3 17 "CaskYardModel" "dryness" "[I", Cond.methodLink RX3 96 Lib.Math.min.name, Cond.static Lib.Math.min.name, Cond.initialized "java/lang/Math", Cond.code Lib.Math.min.name Lib.Math.min.code 2 (some .int), Cond.fieldLink RX3 110 "CaskYardModel" "casks" "I", Cond.fieldLink RX3 35 "CaskYardModel" "isSound" "[Z", Cond.methodLink RX3 70 yX3_isIn, Cond.static yX3_isIn, Cond.initialized RX3, Cond.code yX3_isIn cX3_isIn 3 (some .boolean), Cond.methodLink RX3 74 yX3_no, Cond.instanceMethod yX3_no, Cond.selects RX3 yX3_no yX3_no, Cond.code yX3_no cX3_no 2 (some .int), Cond.methodLink RX3 157 yX3_pass, Cond.instanceMethod yX3_pass, Cond.selects RX3 yX3_pass yX3_pass, Cond.code yX3_pass cX3_pass 8 (some .int)]
def wsX3_pass__r2 : List Cond := [Cond.fieldLink RX3 57 "CaskYardModel" "grains" "[I", Cond.fieldLink RX3 48 "CaskYardModel" "fillings" "[I", Cond.methodLink RX3 128 Lib.Math.max.name, Cond.static Lib.Math.max.name, Cond.code Lib.Math.max.name Lib.Math.max.code 2 (some .int), Cond.fieldLink RX3 45 "CaskYardModel" "swelling" "[I", Cond.fieldLink RX3 26 "CaskYardModel" "room" "[I", Cond.fieldLink RX3 32 "CaskYardModel" "sort" "[I", Cond.fieldLink RX3 7 "CaskYardModel" "warmth" "I", Cond.fieldLink RX3 54 "CaskYardModel" "holds" "[I", Cond.constantLong RX3 144 (1000), Cond.methodLink RX3 146 Lib.MathLoose.max_long.x, Cond.static Lib.MathLoose.max_long.x, Cond.code Lib.MathLoose.max_long.x Lib.MathLoose.max_long.code 4 (some .long), Cond.methodLink RX3 149 Lib.MathLoose.min_long.x, Cond.static Lib.MathLoose.min_long.x, Cond.code Lib.MathLoose.min_long.x Lib.MathLoose.min_long.code 4 (some .long), Cond.fieldLink RX3 51 "CaskYardModel" "air" "[I", Cond.fieldLink RX3 42 "CaskYardModel" "tension" "[I", Cond.methodLink RX3 122 yX3_all, Cond.instanceMethod yX3_all, Cond.selects RX3 yX3_all yX3_all, Cond.code yX3_all cX3_all 4 (some .int), Cond.methodLink RX3 131 yX3_leak]
def wsX3_pass__r3 : List Cond := [Cond.instanceMethod yX3_leak, Cond.selects RX3 yX3_leak yX3_leak, Cond.code yX3_leak cX3_leak 2 (some .int), Cond.fieldLink RX3 39 "CaskYardModel" "flaws" "[I", Cond.methodLink RX3 119 yX3_tensions, Cond.instanceMethod yX3_tensions, Cond.selects RX3 yX3_tensions yX3_tensions, Cond.code yX3_tensions cX3_tensions 4 (some .int), Cond.methodLink RX3 113 yX3_hoopsOf, Cond.instanceMethod yX3_hoopsOf, Cond.selects RX3 yX3_hoopsOf yX3_hoopsOf, Cond.code yX3_hoopsOf cX3_hoopsOf 2 (some .int), Cond.fieldLink RX3 29 "CaskYardModel" "hoops" "[I"]
def wsX3_pass_ : List Cond := .code yX3_pass_ cX3_pass_ 5 (some .int) :: ((wsX3_pass__r1 ++ (wsX3_pass__r2 ++ wsX3_pass__r3)) ++ wsX30)
def wsX3_counted : List Cond := .code yX3_counted cX3_counted 7 (some .int) :: ([.fieldLink RX3 78 "CaskYardModel" "staves" "I", .fieldLink RX3 20 "CaskYardModel" "where" "[I", .fieldLink RX3 110 "CaskYardModel" "casks" "I", .fieldLink RX3 35 "CaskYardModel" "isSound" "[Z", .fieldLink RX3 54 "CaskYardModel" "holds" "[I", .arrayClass .int, .fieldLink RX3 151 "CaskYardModel" "month" "I", .fieldLink RX3 90 "CaskYardModel" "sorts" "I", .fieldLink RX3 154 "CaskYardModel" "lost" "I", .fieldLink RX3 7 "CaskYardModel" "warmth" "I", .methodLink RX3 122 yX3_all, .instanceMethod yX3_all, .selects RX3 yX3_all yX3_all, .initialized RX3, .code yX3_all cX3_all 4 (some .int)] ++ wsX30)
def wsX3_count_r1 : List Cond := [Cond.fieldLink RX3 67 "CaskYardModel" "thrown" "I", Cond.methodLink RX3 70 yX3_isIn, Cond.static yX3_isIn, Cond.initialized RX3, Cond.code yX3_isIn cX3_isIn 3 (some .boolean), Cond.methodLink RX3 160 yX3_counted, Cond.instanceMethod yX3_counted, Cond.selects RX3 yX3_counted yX3_counted, Cond.code yX3_counted cX3_counted 7 (some .int), Cond.fieldLink RX3 78 "CaskYardModel" "staves" "I", Cond.fieldLink RX3 20 "CaskYardModel" "where" "[I", Cond.fieldLink RX3 110 "CaskYardModel" "casks" "I", Cond.fieldLink RX3 35 "CaskYardModel" "isSound" "[Z", Cond.fieldLink RX3 54 "CaskYardModel" "holds" "[I", Cond.arrayClass .int, Cond.fieldLink RX3 151 "CaskYardModel" "month" "I", Cond.fieldLink RX3 90 "CaskYardModel" "sorts" "I", Cond.fieldLink RX3 154 "CaskYardModel" "lost" "I", Cond.fieldLink RX3 7 "CaskYardModel" "warmth" "I", Cond.methodLink RX3 122 yX3_all, Cond.instanceMethod yX3_all, Cond.selects RX3 yX3_all yX3_all, Cond.code yX3_all cX3_all 4 (some .int), Cond.methodLink RX3 74 yX3_no]
def wsX3_count_r2 : List Cond := [Cond.instanceMethod yX3_no, Cond.selects RX3 yX3_no yX3_no, Cond.code yX3_no cX3_no 2 (some .int)]
def wsX3_count : List Cond := .code yX3_count cX3_count 2 (some .int) :: ((wsX3_count_r1 ++ wsX3_count_r2) ++ wsX30)
def wsX3_foreseen_r1 : List Cond := [Cond.fieldLink RX3 54 "CaskYardModel" "holds" "[I", Cond.fieldLink RX3 57 "CaskYardModel" "grains" "[I", Cond.methodLink RX3 122 yX3_all, Cond.instanceMethod yX3_all, Cond.selects RX3 yX3_all yX3_all, Cond.initialized RX3, Cond.code yX3_all cX3_all 4 (some .int), Cond.methodLink RX3 131 yX3_leak, Cond.instanceMethod yX3_leak, Cond.selects RX3 yX3_leak yX3_leak, Cond.code yX3_leak cX3_leak 2 (some .int), Cond.fieldLink RX3 39 "CaskYardModel" "flaws" "[I", Cond.fieldLink RX3 45 "CaskYardModel" "swelling" "[I", Cond.methodLink RX3 128 Lib.Math.max.name, Cond.static Lib.Math.max.name, Cond.initialized "java/lang/Math", Cond.code Lib.Math.max.name Lib.Math.max.code 2 (some .int), Cond.methodLink RX3 119 yX3_tensions, Cond.instanceMethod yX3_tensions, Cond.selects RX3 yX3_tensions yX3_tensions, Cond.code yX3_tensions cX3_tensions 4 (some .int), Cond.fieldLink RX3 42 "CaskYardModel" "tension" "[I", Cond.methodLink RX3 113 yX3_hoopsOf, Cond.instanceMethod yX3_hoopsOf]
def wsX3_foreseen_r2 : List Cond := [Cond.selects RX3 yX3_hoopsOf yX3_hoopsOf, Cond.code yX3_hoopsOf cX3_hoopsOf 2 (some .int), Cond.fieldLink RX3 35 "CaskYardModel" "isSound" "[Z", Cond.fieldLink RX3 29 "CaskYardModel" "hoops" "[I", Cond.fieldLink RX3 32 "CaskYardModel" "sort" "[I"]
def wsX3_foreseen : List Cond := .code yX3_foreseen cX3_foreseen 3 (some .int) :: ((wsX3_foreseen_r1 ++ wsX3_foreseen_r2) ++ wsX30)
def wsX3_foresee_r1 : List Cond := [Cond.fieldLink RX3 67 "CaskYardModel" "thrown" "I", Cond.fieldLink RX3 151 "CaskYardModel" "month" "I", Cond.fieldLink RX3 35 "CaskYardModel" "isSound" "[Z", Cond.arrayClass .int, Cond.fieldLink RX3 45 "CaskYardModel" "swelling" "[I", Cond.fieldLink RX3 51 "CaskYardModel" "air" "[I", Cond.fieldLink RX3 57 "CaskYardModel" "grains" "[I", Cond.fieldLink RX3 54 "CaskYardModel" "holds" "[I", Cond.methodLink RX3 163 arraycopyName, Cond.native arraycopyName, Cond.static arraycopyName, Cond.initialized "java/lang/System", Cond.fieldLink RX3 42 "CaskYardModel" "tension" "[I", Cond.methodLink RX3 116 yX3_isCask, Cond.instanceMethod yX3_isCask, Cond.selects RX3 yX3_isCask yX3_isCask, Cond.initialized RX3, Cond.code yX3_isCask cX3_isCask 2 (some .boolean), Cond.fieldLink RX3 110 "CaskYardModel" "casks" "I", Cond.methodLink RX3 70 yX3_isIn, Cond.static yX3_isIn, Cond.code yX3_isIn cX3_isIn 3 (some .boolean), Cond.methodLink RX3 74 yX3_no, Cond.instanceMethod yX3_no]
def wsX3_foresee_r2 : List Cond := [Cond.selects RX3 yX3_no yX3_no, Cond.code yX3_no cX3_no 2 (some .int), Cond.methodLink RX3 157 yX3_pass, Cond.instanceMethod yX3_pass, Cond.selects RX3 yX3_pass yX3_pass, Cond.code yX3_pass cX3_pass 8 (some .int), Cond.fieldLink RX3 48 "CaskYardModel" "fillings" "[I", Cond.methodLink RX3 128 Lib.Math.max.name, Cond.static Lib.Math.max.name, Cond.initialized "java/lang/Math", Cond.code Lib.Math.max.name Lib.Math.max.code 2 (some .int), Cond.fieldLink RX3 26 "CaskYardModel" "room" "[I", Cond.fieldLink RX3 32 "CaskYardModel" "sort" "[I", Cond.methodLink RX3 96 Lib.Math.min.name, Cond.static Lib.Math.min.name, Cond.code Lib.Math.min.name Lib.Math.min.code 2 (some .int), Cond.fieldLink RX3 7 "CaskYardModel" "warmth" "I", Cond.constantLong RX3 144 (1000), Cond.methodLink RX3 146 Lib.MathLoose.max_long.x, Cond.static Lib.MathLoose.max_long.x, Cond.code Lib.MathLoose.max_long.x Lib.MathLoose.max_long.code 4 (some .long), Cond.methodLink RX3 149 Lib.MathLoose.min_long.x, Cond.static Lib.MathLoose.min_long.x, Cond.code Lib.MathLoose.min_long.x Lib.MathLoose.min_long.code 4 (some .long)]
def wsX3_foresee_r3 : List Cond := [Cond.methodLink RX3 122 yX3_all, Cond.instanceMethod yX3_all, Cond.selects RX3 yX3_all yX3_all, Cond.code yX3_all cX3_all 4 (some .int), Cond.methodLink RX3 131 yX3_leak, Cond.instanceMethod yX3_leak, Cond.selects RX3 yX3_leak yX3_leak, Cond.code yX3_leak cX3_leak 2 (some .int), Cond.fieldLink RX3 39 "CaskYardModel" "flaws" "[I", Cond.methodLink RX3 119 yX3_tensions, Cond.instanceMethod yX3_tensions, Cond.selects RX3 yX3_tensions yX3_tensions, Cond.code yX3_tensions cX3_tensions 4 (some .int), Cond.methodLink RX3 113 yX3_hoopsOf, Cond.instanceMethod yX3_hoopsOf, Cond.selects RX3 yX3_hoopsOf yX3_hoopsOf, Cond.code yX3_hoopsOf cX3_hoopsOf 2 (some .int), Cond.fieldLink RX3 29 "CaskYardModel" "hoops" "[I", Cond.methodLink RX3 169 yX3_foreseen, Cond.instanceMethod yX3_foreseen, Cond.selects RX3 yX3_foreseen yX3_foreseen, Cond.code yX3_foreseen cX3_foreseen 3 (some .int)]
def wsX3_foresee : List Cond := .code yX3_foresee cX3_foresee 8 (some .int) :: ((wsX3_foresee_r1 ++ (wsX3_foresee_r2 ++ wsX3_foresee_r3)) ++ wsX30)
def wsX3_canBlend : List Cond := .code yX3_canBlend cX3_canBlend 2 (some .boolean) :: ([.fieldLink RX3 35 "CaskYardModel" "isSound" "[Z", .fieldLink RX3 54 "CaskYardModel" "holds" "[I", .methodLink RX3 122 yX3_all, .instanceMethod yX3_all, .selects RX3 yX3_all yX3_all, .initialized RX3, .code yX3_all cX3_all 4 (some .int)] ++ wsX30)
def wsX3_tasteOf : List Cond := .code yX3_tasteOf cX3_tasteOf 2 (some .long) :: ([.constantLong RX3 172 (1000000), .fieldLink RX3 57 "CaskYardModel" "grains" "[I", .constantLong RX3 144 (1000), .methodLink RX3 149 Lib.MathLoose.min_long.x, .static Lib.MathLoose.min_long.x, .initialized "java/lang/Math", .code Lib.MathLoose.min_long.x Lib.MathLoose.min_long.code 4 (some .long), .methodLink RX3 122 yX3_all, .instanceMethod yX3_all, .selects RX3 yX3_all yX3_all, .initialized RX3, .code yX3_all cX3_all 4 (some .int), .fieldLink RX3 54 "CaskYardModel" "holds" "[I"] ++ wsX30)
def wsX3_blend_r1 : List Cond := [Cond.fieldLink RX3 67 "CaskYardModel" "thrown" "I", Cond.constant RX3 174 (1000000), Cond.arrayClass .int, Cond.constantLong RX3 175 (-1), Cond.fieldLink RX3 110 "CaskYardModel" "casks" "I", Cond.constantLong RX3 184 (10), Cond.methodLink RX3 186 Lib.MathLoose.abs_long.x, Cond.static Lib.MathLoose.abs_long.x, Cond.initialized "java/lang/Math", Cond.code Lib.MathLoose.abs_long.x Lib.MathLoose.abs_long.code 2 (some .long), Cond.methodLink RX3 70 yX3_isIn, Cond.static yX3_isIn, Cond.initialized RX3, Cond.code yX3_isIn cX3_isIn 3 (some .boolean), Cond.methodLink RX3 74 yX3_no, Cond.instanceMethod yX3_no, Cond.selects RX3 yX3_no yX3_no, Cond.code yX3_no cX3_no 2 (some .int), Cond.methodLink RX3 177 yX3_canBlend, Cond.instanceMethod yX3_canBlend, Cond.selects RX3 yX3_canBlend yX3_canBlend, Cond.code yX3_canBlend cX3_canBlend 2 (some .boolean), Cond.fieldLink RX3 35 "CaskYardModel" "isSound" "[Z", Cond.fieldLink RX3 54 "CaskYardModel" "holds" "[I"]
def wsX3_blend_r2 : List Cond := [Cond.methodLink RX3 122 yX3_all, Cond.instanceMethod yX3_all, Cond.selects RX3 yX3_all yX3_all, Cond.code yX3_all cX3_all 4 (some .int), Cond.methodLink RX3 180 yX3_tasteOf, Cond.instanceMethod yX3_tasteOf, Cond.selects RX3 yX3_tasteOf yX3_tasteOf, Cond.code yX3_tasteOf cX3_tasteOf 2 (some .long), Cond.constantLong RX3 172 (1000000), Cond.fieldLink RX3 57 "CaskYardModel" "grains" "[I", Cond.constantLong RX3 144 (1000), Cond.methodLink RX3 149 Lib.MathLoose.min_long.x, Cond.static Lib.MathLoose.min_long.x, Cond.code Lib.MathLoose.min_long.x Lib.MathLoose.min_long.code 4 (some .long)]
def wsX3_blend : List Cond := .code yX3_blend cX3_blend 13 (some .int) :: ((wsX3_blend_r1 ++ wsX3_blend_r2) ++ wsX30)
def wsX3_taste : List Cond := .code yX3_taste cX3_taste 6 (some .double) :: ([.fieldLink RX3 67 "CaskYardModel" "thrown" "I", .fieldLink RX3 110 "CaskYardModel" "casks" "I", .fieldLink RX3 57 "CaskYardModel" "grains" "[I", .methodLink RX3 122 yX3_all, .instanceMethod yX3_all, .selects RX3 yX3_all yX3_all, .initialized RX3, .code yX3_all cX3_all 4 (some .int), .fieldLink RX3 54 "CaskYardModel" "holds" "[I"] ++ wsX30)
def wsX3_digest_r1 : List Cond := [Cond.fieldLink RX3 67 "CaskYardModel" "thrown" "I", Cond.constantLong RX3 190 (487), Cond.constantLong RX3 192 (31), Cond.fieldLink RX3 78 "CaskYardModel" "staves" "I", Cond.fieldLink RX3 90 "CaskYardModel" "sorts" "I", Cond.fieldLink RX3 23 "CaskYardModel" "girth" "[I", Cond.fieldLink RX3 26 "CaskYardModel" "room" "[I", Cond.fieldLink RX3 29 "CaskYardModel" "hoops" "[I", Cond.fieldLink RX3 110 "CaskYardModel" "casks" "I", Cond.fieldLink RX3 42 "CaskYardModel" "tension" "[I", Cond.methodLink RX3 160 yX3_counted, Cond.instanceMethod yX3_counted, Cond.selects RX3 yX3_counted yX3_counted, Cond.initialized RX3, Cond.code yX3_counted cX3_counted 7 (some .int), Cond.fieldLink RX3 20 "CaskYardModel" "where" "[I", Cond.fieldLink RX3 35 "CaskYardModel" "isSound" "[Z", Cond.fieldLink RX3 54 "CaskYardModel" "holds" "[I", Cond.arrayClass .int, Cond.fieldLink RX3 151 "CaskYardModel" "month" "I", Cond.fieldLink RX3 154 "CaskYardModel" "lost" "I", Cond.fieldLink RX3 7 "CaskYardModel" "warmth" "I", Cond.methodLink RX3 122 yX3_all, Cond.instanceMethod yX3_all]
def wsX3_digest_r2 : List Cond := [Cond.selects RX3 yX3_all yX3_all, Cond.code yX3_all cX3_all 4 (some .int), Cond.methodLink RX3 85 yX3_staveTold, Cond.instanceMethod yX3_staveTold, Cond.selects RX3 yX3_staveTold yX3_staveTold, Cond.code yX3_staveTold cX3_staveTold 3 (some .int), Cond.fieldLink RX3 13 "CaskYardModel" "width" "[I", Cond.fieldLink RX3 17 "CaskYardModel" "dryness" "[I", Cond.methodLink RX3 137 yX3_caskTold, Cond.instanceMethod yX3_caskTold, Cond.selects RX3 yX3_caskTold yX3_caskTold, Cond.code yX3_caskTold cX3_caskTold 4 (some .int), Cond.fieldLink RX3 32 "CaskYardModel" "sort" "[I", Cond.fieldLink RX3 57 "CaskYardModel" "grains" "[I", Cond.fieldLink RX3 39 "CaskYardModel" "flaws" "[I", Cond.fieldLink RX3 45 "CaskYardModel" "swelling" "[I", Cond.fieldLink RX3 48 "CaskYardModel" "fillings" "[I", Cond.fieldLink RX3 51 "CaskYardModel" "air" "[I", Cond.methodLink RX3 131 yX3_leak, Cond.instanceMethod yX3_leak, Cond.selects RX3 yX3_leak yX3_leak, Cond.code yX3_leak cX3_leak 2 (some .int), Cond.methodLink RX3 128 Lib.Math.max.name, Cond.static Lib.Math.max.name]
def wsX3_digest_r3 : List Cond := [Cond.initialized "java/lang/Math", Cond.code Lib.Math.max.name Lib.Math.max.code 2 (some .int), Cond.methodLink RX3 119 yX3_tensions, Cond.instanceMethod yX3_tensions, Cond.selects RX3 yX3_tensions yX3_tensions, Cond.code yX3_tensions cX3_tensions 4 (some .int), Cond.methodLink RX3 113 yX3_hoopsOf, Cond.instanceMethod yX3_hoopsOf, Cond.selects RX3 yX3_hoopsOf yX3_hoopsOf, Cond.code yX3_hoopsOf cX3_hoopsOf 2 (some .int), Cond.methodLink RX3 134 yX3_stavesOf, Cond.instanceMethod yX3_stavesOf, Cond.selects RX3 yX3_stavesOf yX3_stavesOf, Cond.code yX3_stavesOf cX3_stavesOf 4 (some .int)]
def wsX3_digest : List Cond := .code yX3_digest cX3_digest 5 (some .long) :: ((wsX3_digest_r1 ++ (wsX3_digest_r2 ++ wsX3_digest_r3)) ++ wsX30)
def wsJ9_abs_0f7a4 : List Cond := .code yJ9_abs_0f7a4 cJ9_abs_0f7a4 1 (some .int) :: ([])
def wsJ9_abs_067f4 : List Cond := .code yJ9_abs_067f4 cJ9_abs_067f4 2 (some .long) :: ([])
def wsJ9_max_7cf53 : List Cond := .code yJ9_max_7cf53 cJ9_max_7cf53 2 (some .int) :: ([])
def wsJ9_max_f86c9 : List Cond := .code yJ9_max_f86c9 cJ9_max_f86c9 4 (some .long) :: ([])
def wsJ9_min_7cf53 : List Cond := .code yJ9_min_7cf53 cJ9_min_7cf53 2 (some .int) :: ([])
def wsJ9_min_f86c9 : List Cond := .code yJ9_min_f86c9 cJ9_min_f86c9 4 (some .long) :: ([])
def wsL_addStave : List Cond := .codeWith yL_addStave cL_addStave 5 (some .int) [(0, 10, 13, 13), (0, 10, 17, 15)] :: ([.classLink RL 13 "java/lang/IllegalArgumentException", .classLink RL 15 "java/lang/IllegalStateException", .methodLink RL 7 yX2_addStave, .instanceMethod yX2_addStave, .selects RX2 yX2_addStave yX2_addStave, .initialized RX2, .code yX2_addStave cX2_addStave 3 (some .int), .classLink RX2 57 "java/lang/IllegalArgumentException", .initialized "java/lang/IllegalArgumentException", .classLink RX2 69 "java/lang/IllegalStateException", .initialized "java/lang/IllegalStateException", .fieldLink RX2 66 "CaskYard" "staveCount" "I", .fieldLink RX2 9 "CaskYard" "widths" "[I", .fieldLink RX2 13 "CaskYard" "drynesses" "[I", .fieldLink RX2 16 "CaskYard" "places" "[I"] ++ wsX20 ++ (vx_atS RX2 61 "java/lang/IllegalArgumentException" ["java/lang/RuntimeException", "java/lang/Exception"]).filter goodWord ++ (vx_atS RX2 73 "java/lang/IllegalStateException" ["java/lang/RuntimeException", "java/lang/Exception"]).filter goodWord)
def wsL_stave : List Cond := .codeWith yL_stave cL_stave 5 (some .int) [(0, 10, 13, 20)] :: ([.classLink RL 20 "java/lang/IndexOutOfBoundsException", .methodLink RL 17 yX2_stave, .instanceMethod yX2_stave, .selects RX2 yX2_stave yX2_stave, .initialized RX2, .code yX2_stave cX2_stave 3 (some .int), .classLink RX2 78 "java/lang/IndexOutOfBoundsException", .initialized "java/lang/IndexOutOfBoundsException", .fieldLink RX2 9 "CaskYard" "widths" "[I", .fieldLink RX2 13 "CaskYard" "drynesses" "[I", .fieldLink RX2 16 "CaskYard" "places" "[I", .methodLink RX2 74 yX2_isStave, .instanceMethod yX2_isStave, .selects RX2 yX2_isStave yX2_isStave, .code yX2_isStave cX2_isStave 2 (some .boolean), .fieldLink RX2 66 "CaskYard" "staveCount" "I"] ++ wsX20 ++ (vx_atS RX2 82 "java/lang/IndexOutOfBoundsException" ["java/lang/RuntimeException", "java/lang/Exception"]).filter goodWord)
def wsL_addSort : List Cond := .codeWith yL_addSort cL_addSort 6 (some .int) [(0, 12, 15, 13), (0, 12, 19, 15)] :: ([.classLink RL 13 "java/lang/IllegalArgumentException", .classLink RL 15 "java/lang/IllegalStateException", .methodLink RL 22 yX2_addSort, .instanceMethod yX2_addSort, .selects RX2 yX2_addSort yX2_addSort, .initialized RX2, .code yX2_addSort cX2_addSort 4 (some .int), .classLink RX2 57 "java/lang/IllegalArgumentException", .initialized "java/lang/IllegalArgumentException", .classLink RX2 69 "java/lang/IllegalStateException", .initialized "java/lang/IllegalStateException", .constant RX2 87 (60000), .fieldLink RX2 92 "CaskYard" "sortCount" "I", .fieldLink RX2 19 "CaskYard" "girths" "[I", .fieldLink RX2 22 "CaskYard" "rooms" "[I", .fieldLink RX2 25 "CaskYard" "hoopNumbers" "[I"] ++ wsX20 ++ (vx_atS RX2 61 "java/lang/IllegalArgumentException" ["java/lang/RuntimeException", "java/lang/Exception"]).filter goodWord ++ (vx_atS RX2 73 "java/lang/IllegalStateException" ["java/lang/RuntimeException", "java/lang/Exception"]).filter goodWord)
def wsL_choose_r1 : List Cond := [Cond.classLink RL 20 "java/lang/IndexOutOfBoundsException", Cond.methodLink RL 26 yX2_choose, Cond.instanceMethod yX2_choose, Cond.selects RX2 yX2_choose yX2_choose, Cond.initialized RX2, Cond.code yX2_choose cX2_choose 5 (some .int), Cond.classLink RX2 78 "java/lang/IndexOutOfBoundsException", Cond.initialized "java/lang/IndexOutOfBoundsException", Cond.fieldLink RX2 19 "CaskYard" "girths" "[I", Cond.constantLong RX2 108 (-1), Cond.methodLink RX2 97 yX2_isSort, Cond.instanceMethod yX2_isSort, Cond.selects RX2 yX2_isSort yX2_isSort, Cond.code yX2_isSort cX2_isSort 2 (some .boolean), Cond.fieldLink RX2 92 "CaskYard" "sortCount" "I", Cond.methodLink RX2 104 yX2_findSet, Cond.instanceMethod yX2_findSet, Cond.selects RX2 yX2_findSet yX2_findSet, Cond.code yX2_findSet cX2_findSet 5 (some .long), Cond.fieldLink RX2 39 "CaskYard" "sets" "[J", Cond.fieldLink RX2 43 "CaskYard" "sizes" "[I", Cond.fieldLink RX2 66 "CaskYard" "staveCount" "I", Cond.methodLink RX2 298 yJ7_fill_d0a16, Cond.static yJ7_fill_d0a16]
def wsL_choose_r2 : List Cond := [Cond.initialized RJ7, Cond.code yJ7_fill_d0a16 cJ7_fill_d0a16 5 none, Cond.methodLink RX2 304 yJ7_fill_53178, Cond.static yJ7_fill_53178, Cond.code yJ7_fill_53178 cJ7_fill_53178 4 none, Cond.methodLink RX2 307 yX2_isUsable, Cond.instanceMethod yX2_isUsable, Cond.selects RX2 yX2_isUsable yX2_isUsable, Cond.code yX2_isUsable cX2_isUsable 2 (some .boolean), Cond.fieldLink RX2 16 "CaskYard" "places" "[I", Cond.fieldLink RX2 13 "CaskYard" "drynesses" "[I", Cond.methodLink RX2 310 yX2_addToSets, Cond.instanceMethod yX2_addToSets, Cond.selects RX2 yX2_addToSets yX2_addToSets, Cond.code yX2_addToSets cX2_addToSets 6 none, Cond.fieldLink RX2 9 "CaskYard" "widths" "[I", Cond.methodLink RX2 110 yX2_memberOf, Cond.instanceMethod yX2_memberOf, Cond.selects RX2 yX2_memberOf yX2_memberOf, Cond.code yX2_memberOf cX2_memberOf 6 (some .int), Cond.methodLink RX2 314 yX2_isIn, Cond.static yX2_isIn, Cond.code yX2_isIn cX2_isIn 3 (some .boolean)]
def wsL_choose : List Cond := .codeWith yL_choose cL_choose 5 (some .int) [(0, 10, 13, 20)] :: ((wsL_choose_r1 ++ wsL_choose_r2) ++ wsX20 ++ (vx_atS RX2 82 "java/lang/IndexOutOfBoundsException" ["java/lang/RuntimeException", "java/lang/Exception"]).filter goodWord)
def wsL_raise_r1 : List Cond := [Cond.classLink RL 20 "java/lang/IndexOutOfBoundsException", Cond.classLink RL 15 "java/lang/IllegalStateException", Cond.methodLink RL 29 yX2_raise, Cond.instanceMethod yX2_raise, Cond.selects RX2 yX2_raise yX2_raise, Cond.initialized RX2, Cond.code yX2_raise cX2_raise 5 (some .int), Cond.classLink RX2 78 "java/lang/IndexOutOfBoundsException", Cond.initialized "java/lang/IndexOutOfBoundsException", Cond.classLink RX2 69 "java/lang/IllegalStateException", Cond.initialized "java/lang/IllegalStateException", Cond.fieldLink RX2 114 "CaskYard" "caskCount" "I", Cond.fieldLink RX2 19 "CaskYard" "girths" "[I", Cond.constantLong RX2 108 (-1), Cond.fieldLink RX2 30 "CaskYard" "casks" "[LCaskYard$Cask;", Cond.fieldLink RX2 121 "CaskYard$Cask" "sort" "I", Cond.fieldLink RX2 22 "CaskYard" "rooms" "[I", Cond.fieldLink RX2 124 "CaskYard$Cask" "room" "I", Cond.fieldLink RX2 127 "CaskYard$Cask" "sound" "Z", Cond.fieldLink RX2 25 "CaskYard" "hoopNumbers" "[I", Cond.fieldLink RX2 138 "CaskYard$Cask" "flaws" "I", Cond.methodLink RX2 97 yX2_isSort, Cond.instanceMethod yX2_isSort, Cond.selects RX2 yX2_isSort yX2_isSort]
def wsL_raise_r2 : List Cond := [Cond.code yX2_isSort cX2_isSort 2 (some .boolean), Cond.fieldLink RX2 92 "CaskYard" "sortCount" "I", Cond.methodLink RX2 104 yX2_findSet, Cond.instanceMethod yX2_findSet, Cond.selects RX2 yX2_findSet yX2_findSet, Cond.code yX2_findSet cX2_findSet 5 (some .long), Cond.fieldLink RX2 39 "CaskYard" "sets" "[J", Cond.fieldLink RX2 43 "CaskYard" "sizes" "[I", Cond.fieldLink RX2 66 "CaskYard" "staveCount" "I", Cond.methodLink RX2 298 yJ7_fill_d0a16, Cond.static yJ7_fill_d0a16, Cond.initialized RJ7, Cond.code yJ7_fill_d0a16 cJ7_fill_d0a16 5 none, Cond.methodLink RX2 304 yJ7_fill_53178, Cond.static yJ7_fill_53178, Cond.code yJ7_fill_53178 cJ7_fill_53178 4 none, Cond.methodLink RX2 307 yX2_isUsable, Cond.instanceMethod yX2_isUsable, Cond.selects RX2 yX2_isUsable yX2_isUsable, Cond.code yX2_isUsable cX2_isUsable 2 (some .boolean), Cond.fieldLink RX2 16 "CaskYard" "places" "[I", Cond.fieldLink RX2 13 "CaskYard" "drynesses" "[I", Cond.methodLink RX2 310 yX2_addToSets, Cond.instanceMethod yX2_addToSets]
def wsL_raise_r3 : List Cond := [Cond.selects RX2 yX2_addToSets yX2_addToSets, Cond.code yX2_addToSets cX2_addToSets 6 none, Cond.fieldLink RX2 9 "CaskYard" "widths" "[I", Cond.methodLink RX2 131 yX1_putOnHoops, Cond.instanceMethod yX1_putOnHoops, Cond.selects RX1 yX1_putOnHoops yX1_putOnHoops, Cond.initialized RX1, Cond.code yX1_putOnHoops cX1_putOnHoops 3 none, Cond.fieldLink RX1 26 "CaskYard$Cask" "hoops" "I", Cond.fieldLink RX1 9 "CaskYard$Cask" "tensions" "[I", Cond.methodLink RX2 135 yX2_putStavesIn, Cond.instanceMethod yX2_putStavesIn, Cond.selects RX2 yX2_putStavesIn yX2_putStavesIn, Cond.code yX2_putStavesIn cX2_putStavesIn 6 (some .int), Cond.methodLink RX2 314 yX2_isIn, Cond.static yX2_isIn, Cond.code yX2_isIn cX2_isIn 3 (some .boolean), Cond.methodLink RX2 181 yX2_flawsOf, Cond.instanceMethod yX2_flawsOf, Cond.selects RX2 yX2_flawsOf yX2_flawsOf, Cond.code yX2_flawsOf cX2_flawsOf 2 (some .int)]
def wsL_raise : List Cond := .codeWith yL_raise cL_raise 4 (some .int) [(0, 9, 12, 20), (0, 9, 15, 15)] :: ((wsL_raise_r1 ++ (wsL_raise_r2 ++ wsL_raise_r3)) ++ wsX20 ++ wsX10 ++ (vx_atS RX2 82 "java/lang/IndexOutOfBoundsException" ["java/lang/RuntimeException", "java/lang/Exception"]).filter goodWord ++ (vx_atS RX2 73 "java/lang/IllegalStateException" ["java/lang/RuntimeException", "java/lang/Exception"]).filter goodWord)
def wsL_drive_r1 : List Cond := [Cond.classLink RL 20 "java/lang/IndexOutOfBoundsException", Cond.classLink RL 13 "java/lang/IllegalArgumentException", Cond.methodLink RL 33 yX2_drive, Cond.instanceMethod yX2_drive, Cond.selects RX2 yX2_drive yX2_drive, Cond.initialized RX2, Cond.code yX2_drive cX2_drive 5 (some .int), Cond.classLink RX2 78 "java/lang/IndexOutOfBoundsException", Cond.initialized "java/lang/IndexOutOfBoundsException", Cond.classLink RX2 57 "java/lang/IllegalArgumentException", Cond.initialized "java/lang/IllegalArgumentException", Cond.fieldLink RX2 30 "CaskYard" "casks" "[LCaskYard$Cask;", Cond.fieldLink RX2 146 "CaskYard$Cask" "hoops" "I", Cond.fieldLink RX2 153 "CaskYard$Cask" "tensions" "[I", Cond.methodLink RX2 156 Lib.Math.min.name, Cond.static Lib.Math.min.name, Cond.initialized "java/lang/Math", Cond.code Lib.Math.min.name Lib.Math.min.code 2 (some .int), Cond.fieldLink RX2 138 "CaskYard$Cask" "flaws" "I", Cond.methodLink RX2 141 yX2_isCask, Cond.instanceMethod yX2_isCask, Cond.selects RX2 yX2_isCask yX2_isCask, Cond.code yX2_isCask cX2_isCask 2 (some .boolean), Cond.fieldLink RX2 114 "CaskYard" "caskCount" "I"]
def wsL_drive_r2 : List Cond := [Cond.methodLink RX2 162 yX1_allTensions, Cond.instanceMethod yX1_allTensions, Cond.selects RX1 yX1_allTensions yX1_allTensions, Cond.initialized RX1, Cond.code yX1_allTensions cX1_allTensions 3 (some .int), Cond.fieldLink RX1 9 "CaskYard$Cask" "tensions" "[I"]
def wsL_drive : List Cond := .codeWith yL_drive cL_drive 6 (some .int) [(0, 12, 15, 20), (0, 12, 19, 13)] :: ((wsL_drive_r1 ++ wsL_drive_r2) ++ wsX20 ++ wsX10 ++ (vx_atS RX2 82 "java/lang/IndexOutOfBoundsException" ["java/lang/RuntimeException", "java/lang/Exception"]).filter goodWord ++ (vx_atS RX2 61 "java/lang/IllegalArgumentException" ["java/lang/RuntimeException", "java/lang/Exception"]).filter goodWord)
def wsL_mend_r1 : List Cond := [Cond.classLink RL 20 "java/lang/IndexOutOfBoundsException", Cond.classLink RL 15 "java/lang/IllegalStateException", Cond.methodLink RL 36 yX2_mend, Cond.instanceMethod yX2_mend, Cond.selects RX2 yX2_mend yX2_mend, Cond.initialized RX2, Cond.code yX2_mend cX2_mend 6 (some .int), Cond.classLink RX2 78 "java/lang/IndexOutOfBoundsException", Cond.initialized "java/lang/IndexOutOfBoundsException", Cond.classLink RX2 69 "java/lang/IllegalStateException", Cond.initialized "java/lang/IllegalStateException", Cond.fieldLink RX2 30 "CaskYard" "casks" "[LCaskYard$Cask;", Cond.fieldLink RX2 127 "CaskYard$Cask" "sound" "Z", Cond.fieldLink RX2 16 "CaskYard" "places" "[I", Cond.fieldLink RX2 9 "CaskYard" "widths" "[I", Cond.fieldLink RX2 138 "CaskYard$Cask" "flaws" "I", Cond.methodLink RX2 141 yX2_isCask, Cond.instanceMethod yX2_isCask, Cond.selects RX2 yX2_isCask yX2_isCask, Cond.code yX2_isCask cX2_isCask 2 (some .boolean), Cond.fieldLink RX2 114 "CaskYard" "caskCount" "I", Cond.methodLink RX2 74 yX2_isStave, Cond.instanceMethod yX2_isStave, Cond.selects RX2 yX2_isStave yX2_isStave]
def wsL_mend_r2 : List Cond := [Cond.code yX2_isStave cX2_isStave 2 (some .boolean), Cond.fieldLink RX2 66 "CaskYard" "staveCount" "I", Cond.methodLink RX2 166 yX2_lastStaveIn, Cond.instanceMethod yX2_lastStaveIn, Cond.selects RX2 yX2_lastStaveIn yX2_lastStaveIn, Cond.code yX2_lastStaveIn cX2_lastStaveIn 3 (some .int), Cond.methodLink RX2 172 yX1_held, Cond.instanceMethod yX1_held, Cond.selects RX1 yX1_held yX1_held, Cond.initialized RX1, Cond.code yX1_held cX1_held 3 (some .int), Cond.fieldLink RX1 15 "CaskYard$Cask" "amounts" "[I", Cond.methodLink RX2 181 yX2_flawsOf, Cond.instanceMethod yX2_flawsOf, Cond.selects RX2 yX2_flawsOf yX2_flawsOf, Cond.code yX2_flawsOf cX2_flawsOf 2 (some .int), Cond.fieldLink RX2 13 "CaskYard" "drynesses" "[I"]
def wsL_mend : List Cond := .codeWith yL_mend cL_mend 5 (some .int) [(0, 10, 13, 20), (0, 10, 17, 15)] :: ((wsL_mend_r1 ++ wsL_mend_r2) ++ wsX20 ++ wsX10 ++ (vx_atS RX2 82 "java/lang/IndexOutOfBoundsException" ["java/lang/RuntimeException", "java/lang/Exception"]).filter goodWord ++ (vx_atS RX2 73 "java/lang/IllegalStateException" ["java/lang/RuntimeException", "java/lang/Exception"]).filter goodWord)
def wsL_breakUp_r1 : List Cond := [Cond.classLink RL 20 "java/lang/IndexOutOfBoundsException", Cond.classLink RL 15 "java/lang/IllegalStateException", Cond.methodLink RL 39 yX2_breakUp, Cond.instanceMethod yX2_breakUp, Cond.selects RX2 yX2_breakUp yX2_breakUp, Cond.initialized RX2, Cond.code yX2_breakUp cX2_breakUp 4 (some .int), Cond.classLink RX2 78 "java/lang/IndexOutOfBoundsException", Cond.initialized "java/lang/IndexOutOfBoundsException", Cond.classLink RX2 69 "java/lang/IllegalStateException", Cond.initialized "java/lang/IllegalStateException", Cond.fieldLink RX2 30 "CaskYard" "casks" "[LCaskYard$Cask;", Cond.fieldLink RX2 127 "CaskYard$Cask" "sound" "Z", Cond.methodLink RX2 141 yX2_isCask, Cond.instanceMethod yX2_isCask, Cond.selects RX2 yX2_isCask yX2_isCask, Cond.code yX2_isCask cX2_isCask 2 (some .boolean), Cond.fieldLink RX2 114 "CaskYard" "caskCount" "I", Cond.methodLink RX2 172 yX1_held, Cond.instanceMethod yX1_held, Cond.selects RX1 yX1_held yX1_held, Cond.initialized RX1, Cond.code yX1_held cX1_held 3 (some .int), Cond.fieldLink RX1 15 "CaskYard$Cask" "amounts" "[I"]
def wsL_breakUp_r2 : List Cond := [Cond.methodLink RX2 186 yX2_takeStavesOutOf, Cond.instanceMethod yX2_takeStavesOutOf, Cond.selects RX2 yX2_takeStavesOutOf yX2_takeStavesOutOf, Cond.code yX2_takeStavesOutOf cX2_takeStavesOutOf 4 none, Cond.fieldLink RX2 66 "CaskYard" "staveCount" "I", Cond.fieldLink RX2 16 "CaskYard" "places" "[I", Cond.fieldLink RX2 13 "CaskYard" "drynesses" "[I", Cond.methodLink RX2 318 Lib.Math.max.name, Cond.static Lib.Math.max.name, Cond.initialized "java/lang/Math", Cond.code Lib.Math.max.name Lib.Math.max.code 2 (some .int), Cond.methodLink RX2 189 yX1_clear, Cond.instanceMethod yX1_clear, Cond.selects RX1 yX1_clear yX1_clear, Cond.code yX1_clear cX1_clear 1 none, Cond.fieldLink RX1 18 "CaskYard$Cask" "sound" "Z", Cond.fieldLink RX1 22 "CaskYard$Cask" "flaws" "I", Cond.fieldLink RX1 26 "CaskYard$Cask" "hoops" "I", Cond.fieldLink RX1 29 "CaskYard$Cask" "swelling" "I", Cond.fieldLink RX1 32 "CaskYard$Cask" "fillings" "I", Cond.fieldLink RX1 35 "CaskYard$Cask" "airMonths" "I", Cond.fieldLink RX1 38 "CaskYard$Cask" "grains" "I", Cond.fieldLink RX1 9 "CaskYard$Cask" "tensions" "[I", Cond.methodLink RX1 41 yJ7_fill_53178]
def wsL_breakUp_r3 : List Cond := [Cond.static yJ7_fill_53178, Cond.initialized RJ7, Cond.code yJ7_fill_53178 cJ7_fill_53178 4 none]
def wsL_breakUp : List Cond := .codeWith yL_breakUp cL_breakUp 4 (some .int) [(0, 9, 12, 20), (0, 9, 15, 15)] :: ((wsL_breakUp_r1 ++ (wsL_breakUp_r2 ++ wsL_breakUp_r3)) ++ wsX20 ++ wsX10 ++ (vx_atS RX2 82 "java/lang/IndexOutOfBoundsException" ["java/lang/RuntimeException", "java/lang/Exception"]).filter goodWord ++ (vx_atS RX2 73 "java/lang/IllegalStateException" ["java/lang/RuntimeException", "java/lang/Exception"]).filter goodWord)
def wsL_cask_r1 : List Cond := [Cond.classLink RL 20 "java/lang/IndexOutOfBoundsException", Cond.methodLink RL 42 yX2_cask, Cond.instanceMethod yX2_cask, Cond.selects RX2 yX2_cask yX2_cask, Cond.initialized RX2, Cond.code yX2_cask cX2_cask 3 (some .int), Cond.classLink RX2 78 "java/lang/IndexOutOfBoundsException", Cond.initialized "java/lang/IndexOutOfBoundsException", Cond.methodLink RX2 141 yX2_isCask, Cond.instanceMethod yX2_isCask, Cond.selects RX2 yX2_isCask yX2_isCask, Cond.code yX2_isCask cX2_isCask 2 (some .boolean), Cond.fieldLink RX2 114 "CaskYard" "caskCount" "I", Cond.methodLink RX2 194 yX2_tellOfCask, Cond.instanceMethod yX2_tellOfCask, Cond.selects RX2 yX2_tellOfCask yX2_tellOfCask, Cond.code yX2_tellOfCask cX2_tellOfCask 5 (some .int), Cond.fieldLink RX2 30 "CaskYard" "casks" "[LCaskYard$Cask;", Cond.fieldLink RX2 206 "CaskYard$Cask" "amounts" "[I", Cond.fieldLink RX2 121 "CaskYard$Cask" "sort" "I", Cond.fieldLink RX2 138 "CaskYard$Cask" "flaws" "I", Cond.fieldLink RX2 321 "CaskYard$Cask" "swelling" "I", Cond.fieldLink RX2 324 "CaskYard$Cask" "fillings" "I", Cond.fieldLink RX2 327 "CaskYard$Cask" "airMonths" "I"]
def wsL_cask_r2 : List Cond := [Cond.fieldLink RX2 263 "CaskYard$Cask" "grains" "I", Cond.fieldLink RX2 127 "CaskYard$Cask" "sound" "Z", Cond.methodLink RX2 238 yX2_stavesAt, Cond.instanceMethod yX2_stavesAt, Cond.selects RX2 yX2_stavesAt yX2_stavesAt, Cond.code yX2_stavesAt cX2_stavesAt 4 (some .int), Cond.fieldLink RX2 66 "CaskYard" "staveCount" "I", Cond.fieldLink RX2 16 "CaskYard" "places" "[I", Cond.methodLink RX2 162 yX1_allTensions, Cond.instanceMethod yX1_allTensions, Cond.selects RX1 yX1_allTensions yX1_allTensions, Cond.initialized RX1, Cond.code yX1_allTensions cX1_allTensions 3 (some .int), Cond.fieldLink RX1 9 "CaskYard$Cask" "tensions" "[I", Cond.methodLink RX2 172 yX1_held, Cond.instanceMethod yX1_held, Cond.selects RX1 yX1_held yX1_held, Cond.code yX1_held cX1_held 3 (some .int), Cond.fieldLink RX1 15 "CaskYard$Cask" "amounts" "[I", Cond.methodLink RX2 266 yX1_leak, Cond.instanceMethod yX1_leak, Cond.selects RX1 yX1_leak yX1_leak, Cond.code yX1_leak cX1_leak 1 (some .int), Cond.fieldLink RX1 18 "CaskYard$Cask" "sound" "Z"]
def wsL_cask_r3 : List Cond := [Cond.fieldLink RX1 22 "CaskYard$Cask" "flaws" "I", Cond.fieldLink RX1 29 "CaskYard$Cask" "swelling" "I", Cond.methodLink RX1 63 Lib.Math.max.name, Cond.static Lib.Math.max.name, Cond.initialized "java/lang/Math", Cond.code Lib.Math.max.name Lib.Math.max.code 2 (some .int), Cond.methodLink RX1 59 yX1_allTensions]
def wsL_cask : List Cond := .codeWith yL_cask cL_cask 5 (some .int) [(0, 10, 13, 20)] :: ((wsL_cask_r1 ++ (wsL_cask_r2 ++ wsL_cask_r3)) ++ wsX20 ++ wsX10 ++ (vx_atS RX2 82 "java/lang/IndexOutOfBoundsException" ["java/lang/RuntimeException", "java/lang/Exception"]).filter goodWord)
def wsL_fill_r1 : List Cond := [Cond.classLink RL 20 "java/lang/IndexOutOfBoundsException", Cond.classLink RL 13 "java/lang/IllegalArgumentException", Cond.classLink RL 15 "java/lang/IllegalStateException", Cond.methodLink RL 45 yX2_fill, Cond.instanceMethod yX2_fill, Cond.selects RX2 yX2_fill yX2_fill, Cond.initialized RX2, Cond.code yX2_fill cX2_fill 5 (some .int), Cond.classLink RX2 78 "java/lang/IndexOutOfBoundsException", Cond.initialized "java/lang/IndexOutOfBoundsException", Cond.classLink RX2 57 "java/lang/IllegalArgumentException", Cond.initialized "java/lang/IllegalArgumentException", Cond.classLink RX2 69 "java/lang/IllegalStateException", Cond.initialized "java/lang/IllegalStateException", Cond.constant RX2 87 (60000), Cond.fieldLink RX2 30 "CaskYard" "casks" "[LCaskYard$Cask;", Cond.fieldLink RX2 127 "CaskYard$Cask" "sound" "Z", Cond.fieldLink RX2 124 "CaskYard$Cask" "room" "I", Cond.fieldLink RX2 206 "CaskYard$Cask" "amounts" "[I", Cond.methodLink RX2 141 yX2_isCask, Cond.instanceMethod yX2_isCask, Cond.selects RX2 yX2_isCask yX2_isCask, Cond.code yX2_isCask cX2_isCask 2 (some .boolean), Cond.fieldLink RX2 114 "CaskYard" "caskCount" "I"]
def wsL_fill_r2 : List Cond := [Cond.methodLink RX2 172 yX1_held, Cond.instanceMethod yX1_held, Cond.selects RX1 yX1_held yX1_held, Cond.initialized RX1, Cond.code yX1_held cX1_held 3 (some .int), Cond.fieldLink RX1 15 "CaskYard$Cask" "amounts" "[I", Cond.methodLink RX2 203 yX1_countFilling, Cond.instanceMethod yX1_countFilling, Cond.selects RX1 yX1_countFilling yX1_countFilling, Cond.code yX1_countFilling cX1_countFilling 1 none, Cond.fieldLink RX1 32 "CaskYard$Cask" "fillings" "I", Cond.methodLink RX1 69 yX1_held]
def wsL_fill : List Cond := .codeWith yL_fill cL_fill 6 (some .int) [(0, 12, 15, 20), (0, 12, 19, 13), (0, 12, 23, 15)] :: ((wsL_fill_r1 ++ wsL_fill_r2) ++ wsX20 ++ wsX10 ++ (vx_atS RX2 82 "java/lang/IndexOutOfBoundsException" ["java/lang/RuntimeException", "java/lang/Exception"]).filter goodWord ++ (vx_atS RX2 61 "java/lang/IllegalArgumentException" ["java/lang/RuntimeException", "java/lang/Exception"]).filter goodWord ++ (vx_atS RX2 73 "java/lang/IllegalStateException" ["java/lang/RuntimeException", "java/lang/Exception"]).filter goodWord)
def wsL_rack_r1 : List Cond := [Cond.classLink RL 20 "java/lang/IndexOutOfBoundsException", Cond.classLink RL 13 "java/lang/IllegalArgumentException", Cond.classLink RL 15 "java/lang/IllegalStateException", Cond.methodLink RL 48 yX2_rack, Cond.instanceMethod yX2_rack, Cond.selects RX2 yX2_rack yX2_rack, Cond.initialized RX2, Cond.code yX2_rack cX2_rack 8 (some .int), Cond.classLink RX2 78 "java/lang/IndexOutOfBoundsException", Cond.initialized "java/lang/IndexOutOfBoundsException", Cond.classLink RX2 57 "java/lang/IllegalArgumentException", Cond.initialized "java/lang/IllegalArgumentException", Cond.classLink RX2 69 "java/lang/IllegalStateException", Cond.initialized "java/lang/IllegalStateException", Cond.constant RX2 87 (60000), Cond.fieldLink RX2 30 "CaskYard" "casks" "[LCaskYard$Cask;", Cond.fieldLink RX2 35 "CaskYard" "spare" "LCaskYard$Cask;", Cond.fieldLink RX2 127 "CaskYard$Cask" "sound" "Z", Cond.fieldLink RX2 124 "CaskYard$Cask" "room" "I", Cond.methodLink RX2 141 yX2_isCask, Cond.instanceMethod yX2_isCask, Cond.selects RX2 yX2_isCask yX2_isCask, Cond.code yX2_isCask cX2_isCask 2 (some .boolean), Cond.fieldLink RX2 114 "CaskYard" "caskCount" "I"]
def wsL_rack_r2 : List Cond := [Cond.methodLink RX2 172 yX1_held, Cond.instanceMethod yX1_held, Cond.selects RX1 yX1_held yX1_held, Cond.initialized RX1, Cond.code yX1_held cX1_held 3 (some .int), Cond.fieldLink RX1 15 "CaskYard$Cask" "amounts" "[I", Cond.methodLink RX2 189 yX1_clear, Cond.instanceMethod yX1_clear, Cond.selects RX1 yX1_clear yX1_clear, Cond.code yX1_clear cX1_clear 1 none, Cond.fieldLink RX1 18 "CaskYard$Cask" "sound" "Z", Cond.fieldLink RX1 22 "CaskYard$Cask" "flaws" "I", Cond.fieldLink RX1 26 "CaskYard$Cask" "hoops" "I", Cond.fieldLink RX1 29 "CaskYard$Cask" "swelling" "I", Cond.fieldLink RX1 32 "CaskYard$Cask" "fillings" "I", Cond.fieldLink RX1 35 "CaskYard$Cask" "airMonths" "I", Cond.fieldLink RX1 38 "CaskYard$Cask" "grains" "I", Cond.fieldLink RX1 9 "CaskYard$Cask" "tensions" "[I", Cond.methodLink RX1 41 yJ7_fill_53178, Cond.static yJ7_fill_53178, Cond.initialized RJ7, Cond.code yJ7_fill_53178 cJ7_fill_53178 4 none, Cond.methodLink RX2 203 yX1_countFilling, Cond.instanceMethod yX1_countFilling]
def wsL_rack_r3 : List Cond := [Cond.selects RX1 yX1_countFilling yX1_countFilling, Cond.code yX1_countFilling cX1_countFilling 1 none, Cond.methodLink RX1 69 yX1_held, Cond.methodLink RX2 217 yX1_moveTo, Cond.instanceMethod yX1_moveTo, Cond.selects RX1 yX1_moveTo yX1_moveTo, Cond.code yX1_moveTo cX1_moveTo 7 none, Cond.methodLink RX1 103 yX1_moveLiquid, Cond.instanceMethod yX1_moveLiquid, Cond.selects RX1 yX1_moveLiquid yX1_moveLiquid, Cond.code yX1_moveLiquid cX1_moveLiquid 4 none]
def wsL_rack : List Cond := .codeWith yL_rack cL_rack 6 (some .int) [(0, 12, 15, 20), (0, 12, 19, 13), (0, 12, 23, 15)] :: ((wsL_rack_r1 ++ (wsL_rack_r2 ++ wsL_rack_r3)) ++ wsX20 ++ wsX10 ++ (vx_atS RX2 82 "java/lang/IndexOutOfBoundsException" ["java/lang/RuntimeException", "java/lang/Exception"]).filter goodWord ++ (vx_atS RX2 61 "java/lang/IllegalArgumentException" ["java/lang/RuntimeException", "java/lang/Exception"]).filter goodWord ++ (vx_atS RX2 73 "java/lang/IllegalStateException" ["java/lang/RuntimeException", "java/lang/Exception"]).filter goodWord)
def wsL_setWarmth : List Cond := .codeWith yL_setWarmth cL_setWarmth 4 (some .int) [(0, 9, 12, 13)] :: ([.classLink RL 13 "java/lang/IllegalArgumentException", .methodLink RL 51 yX2_setWarmth, .instanceMethod yX2_setWarmth, .selects RX2 yX2_setWarmth yX2_setWarmth, .initialized RX2, .code yX2_setWarmth cX2_setWarmth 3 (some .int), .classLink RX2 57 "java/lang/IllegalArgumentException", .initialized "java/lang/IllegalArgumentException", .fieldLink RX2 53 "CaskYard" "warmthNow" "I"] ++ wsX20 ++ (vx_atS RX2 61 "java/lang/IllegalArgumentException" ["java/lang/RuntimeException", "java/lang/Exception"]).filter goodWord)
def wsL_pass_r1 : List Cond := [Cond.classLink RL 13 "java/lang/IllegalArgumentException", Cond.classLink RL 15 "java/lang/IllegalStateException", Cond.methodLink RL 54 yX2_pass, Cond.instanceMethod yX2_pass, Cond.selects RX2 yX2_pass yX2_pass, Cond.initialized RX2, Cond.code yX2_pass cX2_pass 4 (some .int), Cond.classLink RX2 57 "java/lang/IllegalArgumentException", Cond.initialized "java/lang/IllegalArgumentException", Cond.classLink RX2 69 "java/lang/IllegalStateException", Cond.initialized "java/lang/IllegalStateException", Cond.fieldLink RX2 225 "CaskYard" "month" "I", Cond.fieldLink RX2 233 "CaskYard" "lostInAll" "I", Cond.methodLink RX2 230 yX2_liveMonth, Cond.instanceMethod yX2_liveMonth, Cond.selects RX2 yX2_liveMonth yX2_liveMonth, Cond.code yX2_liveMonth cX2_liveMonth 3 (some .int), Cond.fieldLink RX2 66 "CaskYard" "staveCount" "I", Cond.fieldLink RX2 16 "CaskYard" "places" "[I", Cond.fieldLink RX2 13 "CaskYard" "drynesses" "[I", Cond.methodLink RX2 156 Lib.Math.min.name, Cond.static Lib.Math.min.name, Cond.initialized "java/lang/Math", Cond.code Lib.Math.min.name Lib.Math.min.code 2 (some .int)]
def wsL_pass_r2 : List Cond := [Cond.fieldLink RX2 114 "CaskYard" "caskCount" "I", Cond.fieldLink RX2 30 "CaskYard" "casks" "[LCaskYard$Cask;", Cond.fieldLink RX2 53 "CaskYard" "warmthNow" "I", Cond.methodLink RX2 256 yX2_hoopsLoosenIn, Cond.static yX2_hoopsLoosenIn, Cond.code yX2_hoopsLoosenIn cX2_hoopsLoosenIn 1 (some .boolean), Cond.methodLink RX2 259 yX1_live, Cond.instanceMethod yX1_live, Cond.selects RX1 yX1_live yX1_live, Cond.initialized RX1, Cond.code yX1_live cX1_live 4 (some .int), Cond.fieldLink RX1 18 "CaskYard$Cask" "sound" "Z", Cond.methodLink RX1 80 yX1_takeOak, Cond.instanceMethod yX1_takeOak, Cond.selects RX1 yX1_takeOak yX1_takeOak, Cond.code yX1_takeOak cX1_takeOak 2 none, Cond.fieldLink RX1 32 "CaskYard$Cask" "fillings" "I", Cond.fieldLink RX1 38 "CaskYard$Cask" "grains" "I", Cond.methodLink RX1 69 yX1_held, Cond.instanceMethod yX1_held, Cond.selects RX1 yX1_held yX1_held, Cond.code yX1_held cX1_held 3 (some .int), Cond.fieldLink RX1 15 "CaskYard$Cask" "amounts" "[I", Cond.methodLink RX1 83 yX1_swell]
def wsL_pass_r3 : List Cond := [Cond.instanceMethod yX1_swell, Cond.selects RX1 yX1_swell yX1_swell, Cond.code yX1_swell cX1_swell 1 none, Cond.fieldLink RX1 50 "CaskYard$Cask" "room" "I", Cond.fieldLink RX1 29 "CaskYard$Cask" "swelling" "I", Cond.methodLink RX1 99 Lib.Math.min.name, Cond.methodLink RX1 63 Lib.Math.max.name, Cond.static Lib.Math.max.name, Cond.code Lib.Math.max.name Lib.Math.max.code 2 (some .int), Cond.methodLink RX1 86 yX1_leak, Cond.instanceMethod yX1_leak, Cond.selects RX1 yX1_leak yX1_leak, Cond.code yX1_leak cX1_leak 1 (some .int), Cond.fieldLink RX1 22 "CaskYard$Cask" "flaws" "I", Cond.methodLink RX1 59 yX1_allTensions, Cond.instanceMethod yX1_allTensions, Cond.selects RX1 yX1_allTensions yX1_allTensions, Cond.code yX1_allTensions cX1_allTensions 3 (some .int), Cond.fieldLink RX1 9 "CaskYard$Cask" "tensions" "[I", Cond.methodLink RX1 89 yX1_lose, Cond.instanceMethod yX1_lose, Cond.selects RX1 yX1_lose yX1_lose, Cond.code yX1_lose cX1_lose 8 (some .int), Cond.constantLong RX1 74 (1000)]
def wsL_pass_r4 : List Cond := [Cond.methodLink RX1 101 Lib.MathLoose.max_long.x, Cond.static Lib.MathLoose.max_long.x, Cond.code Lib.MathLoose.max_long.x Lib.MathLoose.max_long.code 4 (some .long), Cond.methodLink RX1 76 Lib.MathLoose.min_long.x, Cond.static Lib.MathLoose.min_long.x, Cond.code Lib.MathLoose.min_long.x Lib.MathLoose.min_long.code 4 (some .long), Cond.methodLink RX1 93 yX1_takeAir, Cond.instanceMethod yX1_takeAir, Cond.selects RX1 yX1_takeAir yX1_takeAir, Cond.code yX1_takeAir cX1_takeAir 2 none, Cond.fieldLink RX1 35 "CaskYard$Cask" "airMonths" "I", Cond.methodLink RX1 41 yJ7_fill_53178, Cond.static yJ7_fill_53178, Cond.initialized RJ7, Cond.code yJ7_fill_53178 cJ7_fill_53178 4 none, Cond.methodLink RX1 96 yX1_loosen, Cond.instanceMethod yX1_loosen, Cond.selects RX1 yX1_loosen yX1_loosen, Cond.code yX1_loosen cX1_loosen 2 none]
def wsL_pass : List Cond := .codeWith yL_pass cL_pass 4 (some .int) [(0, 9, 12, 13), (0, 9, 15, 15)] :: ((wsL_pass_r1 ++ (wsL_pass_r2 ++ (wsL_pass_r3 ++ wsL_pass_r4))) ++ wsX20 ++ wsX10 ++ (vx_atS RX2 61 "java/lang/IllegalArgumentException" ["java/lang/RuntimeException", "java/lang/Exception"]).filter goodWord ++ (vx_atS RX2 73 "java/lang/IllegalStateException" ["java/lang/RuntimeException", "java/lang/Exception"]).filter goodWord)
def wsL_count_r1 : List Cond := [Cond.classLink RL 20 "java/lang/IndexOutOfBoundsException", Cond.methodLink RL 57 yX2_count, Cond.instanceMethod yX2_count, Cond.selects RX2 yX2_count yX2_count, Cond.initialized RX2, Cond.code yX2_count cX2_count 2 (some .int), Cond.classLink RX2 78 "java/lang/IndexOutOfBoundsException", Cond.initialized "java/lang/IndexOutOfBoundsException", Cond.fieldLink RX2 225 "CaskYard" "month" "I", Cond.fieldLink RX2 66 "CaskYard" "staveCount" "I", Cond.fieldLink RX2 92 "CaskYard" "sortCount" "I", Cond.fieldLink RX2 114 "CaskYard" "caskCount" "I", Cond.fieldLink RX2 233 "CaskYard" "lostInAll" "I", Cond.fieldLink RX2 53 "CaskYard" "warmthNow" "I", Cond.methodLink RX2 238 yX2_stavesAt, Cond.instanceMethod yX2_stavesAt, Cond.selects RX2 yX2_stavesAt yX2_stavesAt, Cond.code yX2_stavesAt cX2_stavesAt 4 (some .int), Cond.fieldLink RX2 16 "CaskYard" "places" "[I", Cond.methodLink RX2 241 yX2_soundCasks, Cond.instanceMethod yX2_soundCasks, Cond.selects RX2 yX2_soundCasks yX2_soundCasks, Cond.code yX2_soundCasks cX2_soundCasks 3 (some .int), Cond.fieldLink RX2 30 "CaskYard" "casks" "[LCaskYard$Cask;"]
def wsL_count_r2 : List Cond := [Cond.fieldLink RX2 127 "CaskYard$Cask" "sound" "Z", Cond.methodLink RX2 244 yX2_heldByAll, Cond.instanceMethod yX2_heldByAll, Cond.selects RX2 yX2_heldByAll yX2_heldByAll, Cond.code yX2_heldByAll cX2_heldByAll 3 (some .int), Cond.methodLink RX2 172 yX1_held, Cond.instanceMethod yX1_held, Cond.selects RX1 yX1_held yX1_held, Cond.initialized RX1, Cond.code yX1_held cX1_held 3 (some .int), Cond.fieldLink RX1 15 "CaskYard$Cask" "amounts" "[I", Cond.methodLink RX2 247 yX2_vinegarOfAll, Cond.instanceMethod yX2_vinegarOfAll, Cond.selects RX2 yX2_vinegarOfAll yX2_vinegarOfAll, Cond.code yX2_vinegarOfAll cX2_vinegarOfAll 3 (some .int), Cond.fieldLink RX2 206 "CaskYard$Cask" "amounts" "[I"]
def wsL_count : List Cond := .codeWith yL_count cL_count 4 (some .int) [(0, 9, 12, 20)] :: ((wsL_count_r1 ++ wsL_count_r2) ++ wsX20 ++ wsX10 ++ (vx_atS RX2 82 "java/lang/IndexOutOfBoundsException" ["java/lang/RuntimeException", "java/lang/Exception"]).filter goodWord)
def wsL_foresee_r1 : List Cond := [Cond.classLink RL 20 "java/lang/IndexOutOfBoundsException", Cond.classLink RL 13 "java/lang/IllegalArgumentException", Cond.classLink RL 15 "java/lang/IllegalStateException", Cond.methodLink RL 60 yX2_foresee, Cond.instanceMethod yX2_foresee, Cond.selects RX2 yX2_foresee yX2_foresee, Cond.initialized RX2, Cond.code yX2_foresee cX2_foresee 5 (some .int), Cond.classLink RX2 78 "java/lang/IndexOutOfBoundsException", Cond.initialized "java/lang/IndexOutOfBoundsException", Cond.classLink RX2 57 "java/lang/IllegalArgumentException", Cond.initialized "java/lang/IllegalArgumentException", Cond.classLink RX2 69 "java/lang/IllegalStateException", Cond.initialized "java/lang/IllegalStateException", Cond.fieldLink RX2 225 "CaskYard" "month" "I", Cond.fieldLink RX2 35 "CaskYard" "spare" "LCaskYard$Cask;", Cond.fieldLink RX2 30 "CaskYard" "casks" "[LCaskYard$Cask;", Cond.fieldLink RX2 53 "CaskYard" "warmthNow" "I", Cond.fieldLink RX2 206 "CaskYard$Cask" "amounts" "[I", Cond.fieldLink RX2 263 "CaskYard$Cask" "grains" "I", Cond.methodLink RX2 141 yX2_isCask, Cond.instanceMethod yX2_isCask, Cond.selects RX2 yX2_isCask yX2_isCask, Cond.code yX2_isCask cX2_isCask 2 (some .boolean)]
def wsL_foresee_r2 : List Cond := [Cond.fieldLink RX2 114 "CaskYard" "caskCount" "I", Cond.methodLink RX2 252 yX1_copyFrom, Cond.instanceMethod yX1_copyFrom, Cond.selects RX1 yX1_copyFrom yX1_copyFrom, Cond.initialized RX1, Cond.code yX1_copyFrom cX1_copyFrom 2 none, Cond.fieldLink RX1 47 "CaskYard$Cask" "sort" "I", Cond.fieldLink RX1 50 "CaskYard$Cask" "room" "I", Cond.fieldLink RX1 18 "CaskYard$Cask" "sound" "Z", Cond.fieldLink RX1 22 "CaskYard$Cask" "flaws" "I", Cond.fieldLink RX1 26 "CaskYard$Cask" "hoops" "I", Cond.fieldLink RX1 29 "CaskYard$Cask" "swelling" "I", Cond.fieldLink RX1 32 "CaskYard$Cask" "fillings" "I", Cond.fieldLink RX1 35 "CaskYard$Cask" "airMonths" "I", Cond.fieldLink RX1 38 "CaskYard$Cask" "grains" "I", Cond.fieldLink RX1 9 "CaskYard$Cask" "tensions" "[I", Cond.methodLink RX1 53 arraycopyName, Cond.native arraycopyName, Cond.static arraycopyName, Cond.initialized "java/lang/System", Cond.fieldLink RX1 15 "CaskYard$Cask" "amounts" "[I", Cond.methodLink RX2 256 yX2_hoopsLoosenIn, Cond.static yX2_hoopsLoosenIn, Cond.code yX2_hoopsLoosenIn cX2_hoopsLoosenIn 1 (some .boolean)]
def wsL_foresee_r3 : List Cond := [Cond.methodLink RX2 259 yX1_live, Cond.instanceMethod yX1_live, Cond.selects RX1 yX1_live yX1_live, Cond.code yX1_live cX1_live 4 (some .int), Cond.methodLink RX1 80 yX1_takeOak, Cond.instanceMethod yX1_takeOak, Cond.selects RX1 yX1_takeOak yX1_takeOak, Cond.code yX1_takeOak cX1_takeOak 2 none, Cond.methodLink RX1 69 yX1_held, Cond.instanceMethod yX1_held, Cond.selects RX1 yX1_held yX1_held, Cond.code yX1_held cX1_held 3 (some .int), Cond.methodLink RX1 83 yX1_swell, Cond.instanceMethod yX1_swell, Cond.selects RX1 yX1_swell yX1_swell, Cond.code yX1_swell cX1_swell 1 none, Cond.methodLink RX1 99 Lib.Math.min.name, Cond.static Lib.Math.min.name, Cond.initialized "java/lang/Math", Cond.code Lib.Math.min.name Lib.Math.min.code 2 (some .int), Cond.methodLink RX1 63 Lib.Math.max.name, Cond.static Lib.Math.max.name, Cond.code Lib.Math.max.name Lib.Math.max.code 2 (some .int), Cond.methodLink RX1 86 yX1_leak]
def wsL_foresee_r4 : List Cond := [Cond.instanceMethod yX1_leak, Cond.selects RX1 yX1_leak yX1_leak, Cond.code yX1_leak cX1_leak 1 (some .int), Cond.methodLink RX1 59 yX1_allTensions, Cond.instanceMethod yX1_allTensions, Cond.selects RX1 yX1_allTensions yX1_allTensions, Cond.code yX1_allTensions cX1_allTensions 3 (some .int), Cond.methodLink RX1 89 yX1_lose, Cond.instanceMethod yX1_lose, Cond.selects RX1 yX1_lose yX1_lose, Cond.code yX1_lose cX1_lose 8 (some .int), Cond.constantLong RX1 74 (1000), Cond.methodLink RX1 101 Lib.MathLoose.max_long.x, Cond.static Lib.MathLoose.max_long.x, Cond.code Lib.MathLoose.max_long.x Lib.MathLoose.max_long.code 4 (some .long), Cond.methodLink RX1 76 Lib.MathLoose.min_long.x, Cond.static Lib.MathLoose.min_long.x, Cond.code Lib.MathLoose.min_long.x Lib.MathLoose.min_long.code 4 (some .long), Cond.methodLink RX1 93 yX1_takeAir, Cond.instanceMethod yX1_takeAir, Cond.selects RX1 yX1_takeAir yX1_takeAir, Cond.code yX1_takeAir cX1_takeAir 2 none, Cond.methodLink RX1 41 yJ7_fill_53178, Cond.static yJ7_fill_53178]
def wsL_foresee_r5 : List Cond := [Cond.initialized RJ7, Cond.code yJ7_fill_53178 cJ7_fill_53178 4 none, Cond.methodLink RX1 96 yX1_loosen, Cond.instanceMethod yX1_loosen, Cond.selects RX1 yX1_loosen yX1_loosen, Cond.code yX1_loosen cX1_loosen 2 none, Cond.methodLink RX2 172 yX1_held, Cond.methodLink RX2 266 yX1_leak]
def wsL_foresee : List Cond := .codeWith yL_foresee cL_foresee 6 (some .int) [(0, 12, 15, 20), (0, 12, 19, 13), (0, 12, 23, 15)] :: ((wsL_foresee_r1 ++ (wsL_foresee_r2 ++ (wsL_foresee_r3 ++ (wsL_foresee_r4 ++ wsL_foresee_r5)))) ++ wsX20 ++ wsX10 ++ (vx_atS RX2 82 "java/lang/IndexOutOfBoundsException" ["java/lang/RuntimeException", "java/lang/Exception"]).filter goodWord ++ (vx_atS RX2 61 "java/lang/IllegalArgumentException" ["java/lang/RuntimeException", "java/lang/Exception"]).filter goodWord ++ (vx_atS RX2 73 "java/lang/IllegalStateException" ["java/lang/RuntimeException", "java/lang/Exception"]).filter goodWord)
def wsL_blend_r1 : List Cond := [Cond.classLink RL 13 "java/lang/IllegalArgumentException", Cond.classLink RL 20 "java/lang/IndexOutOfBoundsException", Cond.methodLink RL 63 yX2_blend, Cond.instanceMethod yX2_blend, Cond.selects RX2 yX2_blend yX2_blend, Cond.initialized RX2, Cond.code yX2_blend cX2_blend 3 (some .int), Cond.classLink RX2 57 "java/lang/IllegalArgumentException", Cond.initialized "java/lang/IllegalArgumentException", Cond.classLink RX2 78 "java/lang/IndexOutOfBoundsException", Cond.initialized "java/lang/IndexOutOfBoundsException", Cond.constant RX2 269 (1000000), Cond.fieldLink RX2 49 "CaskYard" "best" "LCaskYard$Blend;", Cond.fieldLink RX2 275 "CaskYard$Blend" "a" "I", Cond.fieldLink RX2 278 "CaskYard$Blend" "b" "I", Cond.fieldLink RX2 281 "CaskYard$Blend" "tenths" "I", Cond.fieldLink RX2 284 "CaskYard$Blend" "mixedTaste" "I", Cond.methodLink RX2 272 yX2_findBestBlend, Cond.instanceMethod yX2_findBestBlend, Cond.selects RX2 yX2_findBestBlend yX2_findBestBlend, Cond.code yX2_findBestBlend cX2_findBestBlend 4 none, Cond.fieldLink RX2 114 "CaskYard" "caskCount" "I", Cond.fieldLink RX2 30 "CaskYard" "casks" "[LCaskYard$Cask;", Cond.methodLink RX2 330 yX0_clear]
def wsL_blend_r2 : List Cond := [Cond.instanceMethod yX0_clear, Cond.selects RX0 yX0_clear yX0_clear, Cond.initialized RX0, Cond.code yX0_clear cX0_clear 1 none, Cond.fieldLink RX0 9 "CaskYard$Blend" "a" "I", Cond.fieldLink RX0 15 "CaskYard$Blend" "b" "I", Cond.fieldLink RX0 18 "CaskYard$Blend" "tenths" "I", Cond.fieldLink RX0 21 "CaskYard$Blend" "mixedTaste" "I", Cond.fieldLink RX0 24 "CaskYard$Blend" "difference" "I", Cond.methodLink RX2 331 yX1_canBeBlended, Cond.instanceMethod yX1_canBeBlended, Cond.selects RX1 yX1_canBeBlended yX1_canBeBlended, Cond.initialized RX1, Cond.code yX1_canBeBlended cX1_canBeBlended 1 (some .boolean), Cond.fieldLink RX1 18 "CaskYard$Cask" "sound" "Z", Cond.fieldLink RX1 15 "CaskYard$Cask" "amounts" "[I", Cond.methodLink RX1 69 yX1_held, Cond.instanceMethod yX1_held, Cond.selects RX1 yX1_held yX1_held, Cond.code yX1_held cX1_held 3 (some .int), Cond.methodLink RX2 335 yX2_offerBlends, Cond.instanceMethod yX2_offerBlends, Cond.selects RX2 yX2_offerBlends yX2_offerBlends, Cond.code yX2_offerBlends cX2_offerBlends 8 none]
def wsL_blend_r3 : List Cond := [Cond.methodLink RX2 339 yX1_tasteOfOak, Cond.instanceMethod yX1_tasteOfOak, Cond.selects RX1 yX1_tasteOfOak yX1_tasteOfOak, Cond.code yX1_tasteOfOak cX1_tasteOfOak 2 (some .int), Cond.constantLong RX1 72 (1000000), Cond.fieldLink RX1 38 "CaskYard$Cask" "grains" "I", Cond.constantLong RX1 74 (1000), Cond.methodLink RX1 76 Lib.MathLoose.min_long.x, Cond.static Lib.MathLoose.min_long.x, Cond.initialized "java/lang/Math", Cond.code Lib.MathLoose.min_long.x Lib.MathLoose.min_long.code 4 (some .long), Cond.methodLink RX2 342 yX0_offer, Cond.instanceMethod yX0_offer, Cond.selects RX0 yX0_offer yX0_offer, Cond.code yX0_offer cX0_offer 7 none, Cond.methodLink RX0 27 Lib.Math.abs.name, Cond.static Lib.Math.abs.name, Cond.code Lib.Math.abs.name Lib.Math.abs.code 1 (some .int)]
def wsL_blend : List Cond := .codeWith yL_blend cL_blend 5 (some .int) [(0, 10, 13, 13), (0, 10, 17, 20)] :: ((wsL_blend_r1 ++ (wsL_blend_r2 ++ wsL_blend_r3)) ++ wsX20 ++ wsX00 ++ wsX10 ++ (vx_atS RX2 61 "java/lang/IllegalArgumentException" ["java/lang/RuntimeException", "java/lang/Exception"]).filter goodWord ++ (vx_atS RX2 82 "java/lang/IndexOutOfBoundsException" ["java/lang/RuntimeException", "java/lang/Exception"]).filter goodWord)
def wsL_law0_r1 : List Cond := [Cond.classLink RL 8 RX2, Cond.instantiable RX2 17, Cond.initialized RX2, Cond.classLink RL 67 RX3, Cond.instantiable RX3 25, Cond.initialized RX3, Cond.arrayClass .long, Cond.methodLink RL 66 yX2_init, Cond.instanceMethod yX2_init, Cond.code yX2_init cX2_init 2 none, Cond.methodLink RX2 1 objectInit, Cond.instanceMethod objectInit, Cond.code objectInit ⟨#[0xb1]⟩ 1 none, Cond.arrayClass .int, Cond.fieldLink RX2 9 "CaskYard" "widths" "[I", Cond.fieldLink RX2 13 "CaskYard" "drynesses" "[I", Cond.fieldLink RX2 16 "CaskYard" "places" "[I", Cond.fieldLink RX2 19 "CaskYard" "girths" "[I", Cond.fieldLink RX2 22 "CaskYard" "rooms" "[I", Cond.fieldLink RX2 25 "CaskYard" "hoopNumbers" "[I", Cond.classLink RX2 28 RX1, Cond.fieldLink RX2 30 "CaskYard" "casks" "[LCaskYard$Cask;", Cond.instantiable RX1 11, Cond.initialized RX1]
def wsL_law0_r2 : List Cond := [Cond.fieldLink RX2 35 "CaskYard" "spare" "LCaskYard$Cask;", Cond.fieldLink RX2 39 "CaskYard" "sets" "[J", Cond.fieldLink RX2 43 "CaskYard" "sizes" "[I", Cond.classLink RX2 46 RX0, Cond.instantiable RX0 5, Cond.initialized RX0, Cond.fieldLink RX2 49 "CaskYard" "best" "LCaskYard$Blend;", Cond.fieldLink RX2 53 "CaskYard" "warmthNow" "I", Cond.instanceMethod yX1_init, Cond.code yX1_init cX1_init 1 none, Cond.methodLink RX1 3 objectInit, Cond.fieldLink RX1 9 "CaskYard$Cask" "tensions" "[I", Cond.fieldLink RX1 15 "CaskYard$Cask" "amounts" "[I", Cond.instanceMethod yX0_init, Cond.code yX0_init cX0_init 1 none, Cond.methodLink RX0 3 objectInit, Cond.methodLink RL 69 yX3_init, Cond.instanceMethod yX3_init, Cond.code yX3_init cX3_init 1 none, Cond.methodLink RX3 1 objectInit, Cond.fieldLink RX3 7 "CaskYardModel" "warmth" "I", Cond.fieldLink RX3 13 "CaskYardModel" "width" "[I", Cond.fieldLink RX3 17 "CaskYardModel" "dryness" "[I", Cond.fieldLink RX3 20 "CaskYardModel" "where" "[I"]
def wsL_law0_r3 : List Cond := [Cond.fieldLink RX3 23 "CaskYardModel" "girth" "[I", Cond.fieldLink RX3 26 "CaskYardModel" "room" "[I", Cond.fieldLink RX3 29 "CaskYardModel" "hoops" "[I", Cond.fieldLink RX3 32 "CaskYardModel" "sort" "[I", Cond.arrayClass .boolean, Cond.fieldLink RX3 35 "CaskYardModel" "isSound" "[Z", Cond.fieldLink RX3 39 "CaskYardModel" "flaws" "[I", Cond.fieldLink RX3 42 "CaskYardModel" "tension" "[I", Cond.fieldLink RX3 45 "CaskYardModel" "swelling" "[I", Cond.fieldLink RX3 48 "CaskYardModel" "fillings" "[I", Cond.fieldLink RX3 51 "CaskYardModel" "air" "[I", Cond.fieldLink RX3 54 "CaskYardModel" "holds" "[I", Cond.fieldLink RX3 57 "CaskYardModel" "grains" "[I", Cond.constant RX3 60 (91805), Cond.fieldLink RX3 61 "CaskYardModel" "fewest" "[I", Cond.fieldLink RX3 64 "CaskYardModel" "choice" "[I", Cond.methodLink RL 70 yL_addStave, Cond.static yL_addStave, Cond.initialized RL, Cond.codeWith yL_addStave cL_addStave 5 (some .int) [(0, 10, 13, 13), (0, 10, 17, 15)], Cond.classLink RL 13 "java/lang/IllegalArgumentException", Cond.classLink RL 15 "java/lang/IllegalStateException", Cond.methodLink RL 7 yX2_addStave, Cond.instanceMethod yX2_addStave]
def wsL_law0_r4 : List Cond := [Cond.selects RX2 yX2_addStave yX2_addStave, Cond.code yX2_addStave cX2_addStave 3 (some .int), Cond.classLink RX2 57 "java/lang/IllegalArgumentException", Cond.initialized "java/lang/IllegalArgumentException", Cond.classLink RX2 69 "java/lang/IllegalStateException", Cond.initialized "java/lang/IllegalStateException", Cond.fieldLink RX2 66 "CaskYard" "staveCount" "I", Cond.methodLink RL 75 yX3_addStave, Cond.instanceMethod yX3_addStave, Cond.selects RX3 yX3_addStave yX3_addStave, Cond.code yX3_addStave cX3_addStave 3 (some .int), Cond.fieldLink RX3 67 "CaskYardModel" "thrown" "I", Cond.fieldLink RX3 78 "CaskYardModel" "staves" "I", Cond.methodLink RX3 70 yX3_isIn, Cond.static yX3_isIn, Cond.code yX3_isIn cX3_isIn 3 (some .boolean), Cond.methodLink RX3 74 yX3_no, Cond.instanceMethod yX3_no, Cond.selects RX3 yX3_no yX3_no, Cond.code yX3_no cX3_no 2 (some .int), Cond.methodLink RL 76 yX3_thrown, Cond.instanceMethod yX3_thrown, Cond.selects RX3 yX3_thrown yX3_thrown, Cond.code yX3_thrown cX3_thrown 1 (some .int)]
def wsL_law0_r5 : List Cond := [Cond.methodLink RL 80 yL_stave, Cond.static yL_stave, Cond.codeWith yL_stave cL_stave 5 (some .int) [(0, 10, 13, 20)], Cond.classLink RL 20 "java/lang/IndexOutOfBoundsException", Cond.methodLink RL 17 yX2_stave, Cond.instanceMethod yX2_stave, Cond.selects RX2 yX2_stave yX2_stave, Cond.code yX2_stave cX2_stave 3 (some .int), Cond.classLink RX2 78 "java/lang/IndexOutOfBoundsException", Cond.initialized "java/lang/IndexOutOfBoundsException", Cond.methodLink RX2 74 yX2_isStave, Cond.instanceMethod yX2_isStave, Cond.selects RX2 yX2_isStave yX2_isStave, Cond.code yX2_isStave cX2_isStave 2 (some .boolean), Cond.methodLink RL 82 yX3_stave, Cond.instanceMethod yX3_stave, Cond.selects RX3 yX3_stave yX3_stave, Cond.code yX3_stave cX3_stave 3 (some .int), Cond.methodLink RX3 81 yX3_isStave, Cond.instanceMethod yX3_isStave, Cond.selects RX3 yX3_isStave yX3_isStave, Cond.code yX3_isStave cX3_isStave 2 (some .boolean), Cond.methodLink RX3 85 yX3_staveTold, Cond.instanceMethod yX3_staveTold]
def wsL_law0_r6 : List Cond := [Cond.selects RX3 yX3_staveTold yX3_staveTold, Cond.code yX3_staveTold cX3_staveTold 3 (some .int), Cond.methodLink RL 83 yL_addSort, Cond.static yL_addSort, Cond.codeWith yL_addSort cL_addSort 6 (some .int) [(0, 12, 15, 13), (0, 12, 19, 15)], Cond.methodLink RL 22 yX2_addSort, Cond.instanceMethod yX2_addSort, Cond.selects RX2 yX2_addSort yX2_addSort, Cond.code yX2_addSort cX2_addSort 4 (some .int), Cond.constant RX2 87 (60000), Cond.fieldLink RX2 92 "CaskYard" "sortCount" "I", Cond.methodLink RL 86 yX3_addSort, Cond.instanceMethod yX3_addSort, Cond.selects RX3 yX3_addSort yX3_addSort, Cond.code yX3_addSort cX3_addSort 4 (some .int), Cond.constant RX3 89 (60000), Cond.fieldLink RX3 90 "CaskYardModel" "sorts" "I", Cond.methodLink RL 87 yL_choose, Cond.static yL_choose, Cond.codeWith yL_choose cL_choose 5 (some .int) [(0, 10, 13, 20)], Cond.methodLink RL 26 yX2_choose, Cond.instanceMethod yX2_choose, Cond.selects RX2 yX2_choose yX2_choose, Cond.code yX2_choose cX2_choose 5 (some .int)]
def wsL_law0_r7 : List Cond := [Cond.constantLong RX2 108 (-1), Cond.methodLink RX2 97 yX2_isSort, Cond.instanceMethod yX2_isSort, Cond.selects RX2 yX2_isSort yX2_isSort, Cond.code yX2_isSort cX2_isSort 2 (some .boolean), Cond.methodLink RX2 104 yX2_findSet, Cond.instanceMethod yX2_findSet, Cond.selects RX2 yX2_findSet yX2_findSet, Cond.code yX2_findSet cX2_findSet 5 (some .long), Cond.methodLink RX2 298 yJ7_fill_d0a16, Cond.static yJ7_fill_d0a16, Cond.initialized RJ7, Cond.code yJ7_fill_d0a16 cJ7_fill_d0a16 5 none, Cond.methodLink RX2 304 yJ7_fill_53178, Cond.static yJ7_fill_53178, Cond.code yJ7_fill_53178 cJ7_fill_53178 4 none, Cond.methodLink RX2 307 yX2_isUsable, Cond.instanceMethod yX2_isUsable, Cond.selects RX2 yX2_isUsable yX2_isUsable, Cond.code yX2_isUsable cX2_isUsable 2 (some .boolean), Cond.methodLink RX2 310 yX2_addToSets, Cond.instanceMethod yX2_addToSets, Cond.selects RX2 yX2_addToSets yX2_addToSets, Cond.code yX2_addToSets cX2_addToSets 6 none]
def wsL_law0_r8 : List Cond := [Cond.methodLink RX2 110 yX2_memberOf, Cond.instanceMethod yX2_memberOf, Cond.selects RX2 yX2_memberOf yX2_memberOf, Cond.code yX2_memberOf cX2_memberOf 6 (some .int), Cond.methodLink RX2 314 yX2_isIn, Cond.static yX2_isIn, Cond.code yX2_isIn cX2_isIn 3 (some .boolean), Cond.methodLink RL 89 yX3_choose, Cond.instanceMethod yX3_choose, Cond.selects RX3 yX3_choose yX3_choose, Cond.code yX3_choose cX3_choose 3 (some .int), Cond.fieldLink RX3 101 "CaskYardModel" "chosen" "I", Cond.methodLink RX3 104 yX3_isSort, Cond.instanceMethod yX3_isSort, Cond.selects RX3 yX3_isSort yX3_isSort, Cond.code yX3_isSort cX3_isSort 2 (some .boolean), Cond.methodLink RX3 107 yX3_find, Cond.instanceMethod yX3_find, Cond.selects RX3 yX3_find yX3_find, Cond.code yX3_find cX3_find 6 (some .boolean), Cond.methodLink RX3 96 Lib.Math.min.name, Cond.static Lib.Math.min.name, Cond.initialized "java/lang/Math", Cond.code Lib.Math.min.name Lib.Math.min.code 2 (some .int)]
def wsL_law0_r9 : List Cond := [Cond.methodLink RX3 93 yX3_isReady, Cond.instanceMethod yX3_isReady, Cond.selects RX3 yX3_isReady yX3_isReady, Cond.code yX3_isReady cX3_isReady 2 (some .boolean), Cond.methodLink RL 90 yL_raise, Cond.static yL_raise, Cond.codeWith yL_raise cL_raise 4 (some .int) [(0, 9, 12, 20), (0, 9, 15, 15)], Cond.methodLink RL 29 yX2_raise, Cond.instanceMethod yX2_raise, Cond.selects RX2 yX2_raise yX2_raise, Cond.code yX2_raise cX2_raise 5 (some .int), Cond.fieldLink RX2 114 "CaskYard" "caskCount" "I", Cond.fieldLink RX2 121 "CaskYard$Cask" "sort" "I", Cond.fieldLink RX2 124 "CaskYard$Cask" "room" "I", Cond.fieldLink RX2 127 "CaskYard$Cask" "sound" "Z", Cond.fieldLink RX2 138 "CaskYard$Cask" "flaws" "I", Cond.methodLink RX2 131 yX1_putOnHoops, Cond.instanceMethod yX1_putOnHoops, Cond.selects RX1 yX1_putOnHoops yX1_putOnHoops, Cond.code yX1_putOnHoops cX1_putOnHoops 3 none, Cond.fieldLink RX1 26 "CaskYard$Cask" "hoops" "I", Cond.methodLink RX2 135 yX2_putStavesIn, Cond.instanceMethod yX2_putStavesIn, Cond.selects RX2 yX2_putStavesIn yX2_putStavesIn]
def wsL_law0_r10 : List Cond := [Cond.code yX2_putStavesIn cX2_putStavesIn 6 (some .int), Cond.methodLink RX2 181 yX2_flawsOf, Cond.instanceMethod yX2_flawsOf, Cond.selects RX2 yX2_flawsOf yX2_flawsOf, Cond.code yX2_flawsOf cX2_flawsOf 2 (some .int), Cond.methodLink RL 93 yX3_raise, Cond.instanceMethod yX3_raise, Cond.selects RX3 yX3_raise yX3_raise, Cond.code yX3_raise cX3_raise 4 (some .int), Cond.fieldLink RX3 110 "CaskYardModel" "casks" "I", Cond.methodLink RL 94 yL_drive, Cond.static yL_drive, Cond.codeWith yL_drive cL_drive 6 (some .int) [(0, 12, 15, 20), (0, 12, 19, 13)], Cond.methodLink RL 33 yX2_drive, Cond.instanceMethod yX2_drive, Cond.selects RX2 yX2_drive yX2_drive, Cond.code yX2_drive cX2_drive 5 (some .int), Cond.fieldLink RX2 146 "CaskYard$Cask" "hoops" "I", Cond.fieldLink RX2 153 "CaskYard$Cask" "tensions" "[I", Cond.methodLink RX2 156 Lib.Math.min.name, Cond.methodLink RX2 141 yX2_isCask, Cond.instanceMethod yX2_isCask, Cond.selects RX2 yX2_isCask yX2_isCask, Cond.code yX2_isCask cX2_isCask 2 (some .boolean)]
def wsL_law0_r11 : List Cond := [Cond.methodLink RX2 162 yX1_allTensions, Cond.instanceMethod yX1_allTensions, Cond.selects RX1 yX1_allTensions yX1_allTensions, Cond.code yX1_allTensions cX1_allTensions 3 (some .int), Cond.methodLink RL 96 yX3_drive, Cond.instanceMethod yX3_drive, Cond.selects RX3 yX3_drive yX3_drive, Cond.code yX3_drive cX3_drive 5 (some .int), Cond.methodLink RX3 116 yX3_isCask, Cond.instanceMethod yX3_isCask, Cond.selects RX3 yX3_isCask yX3_isCask, Cond.code yX3_isCask cX3_isCask 2 (some .boolean), Cond.methodLink RX3 113 yX3_hoopsOf, Cond.instanceMethod yX3_hoopsOf, Cond.selects RX3 yX3_hoopsOf yX3_hoopsOf, Cond.code yX3_hoopsOf cX3_hoopsOf 2 (some .int), Cond.methodLink RX3 119 yX3_tensions, Cond.instanceMethod yX3_tensions, Cond.selects RX3 yX3_tensions yX3_tensions, Cond.code yX3_tensions cX3_tensions 4 (some .int), Cond.methodLink RL 97 yL_mend, Cond.static yL_mend, Cond.codeWith yL_mend cL_mend 5 (some .int) [(0, 10, 13, 20), (0, 10, 17, 15)], Cond.methodLink RL 36 yX2_mend]
def wsL_law0_r12 : List Cond := [Cond.instanceMethod yX2_mend, Cond.selects RX2 yX2_mend yX2_mend, Cond.code yX2_mend cX2_mend 6 (some .int), Cond.methodLink RX2 166 yX2_lastStaveIn, Cond.instanceMethod yX2_lastStaveIn, Cond.selects RX2 yX2_lastStaveIn yX2_lastStaveIn, Cond.code yX2_lastStaveIn cX2_lastStaveIn 3 (some .int), Cond.methodLink RX2 172 yX1_held, Cond.instanceMethod yX1_held, Cond.selects RX1 yX1_held yX1_held, Cond.code yX1_held cX1_held 3 (some .int), Cond.methodLink RL 99 yX3_mend, Cond.instanceMethod yX3_mend, Cond.selects RX3 yX3_mend yX3_mend, Cond.code yX3_mend cX3_mend 4 (some .int), Cond.methodLink RX3 122 yX3_all, Cond.instanceMethod yX3_all, Cond.selects RX3 yX3_all yX3_all, Cond.code yX3_all cX3_all 4 (some .int), Cond.methodLink RX3 125 yX3_lastStave, Cond.instanceMethod yX3_lastStave, Cond.selects RX3 yX3_lastStave yX3_lastStave, Cond.code yX3_lastStave cX3_lastStave 4 (some .int), Cond.methodLink RL 100 yL_breakUp]
def wsL_law0_r13 : List Cond := [Cond.static yL_breakUp, Cond.codeWith yL_breakUp cL_breakUp 4 (some .int) [(0, 9, 12, 20), (0, 9, 15, 15)], Cond.methodLink RL 39 yX2_breakUp, Cond.instanceMethod yX2_breakUp, Cond.selects RX2 yX2_breakUp yX2_breakUp, Cond.code yX2_breakUp cX2_breakUp 4 (some .int), Cond.methodLink RX2 186 yX2_takeStavesOutOf, Cond.instanceMethod yX2_takeStavesOutOf, Cond.selects RX2 yX2_takeStavesOutOf yX2_takeStavesOutOf, Cond.code yX2_takeStavesOutOf cX2_takeStavesOutOf 4 none, Cond.methodLink RX2 318 Lib.Math.max.name, Cond.static Lib.Math.max.name, Cond.code Lib.Math.max.name Lib.Math.max.code 2 (some .int), Cond.methodLink RX2 189 yX1_clear, Cond.instanceMethod yX1_clear, Cond.selects RX1 yX1_clear yX1_clear, Cond.code yX1_clear cX1_clear 1 none, Cond.fieldLink RX1 18 "CaskYard$Cask" "sound" "Z", Cond.fieldLink RX1 22 "CaskYard$Cask" "flaws" "I", Cond.fieldLink RX1 29 "CaskYard$Cask" "swelling" "I", Cond.fieldLink RX1 32 "CaskYard$Cask" "fillings" "I", Cond.fieldLink RX1 35 "CaskYard$Cask" "airMonths" "I", Cond.fieldLink RX1 38 "CaskYard$Cask" "grains" "I", Cond.methodLink RX1 41 yJ7_fill_53178]
def wsL_law0_r14 : List Cond := [Cond.methodLink RL 102 yX3_breakUp, Cond.instanceMethod yX3_breakUp, Cond.selects RX3 yX3_breakUp yX3_breakUp, Cond.code yX3_breakUp cX3_breakUp 5 (some .int), Cond.methodLink RX3 128 Lib.Math.max.name, Cond.methodLink RL 103 yL_cask, Cond.static yL_cask, Cond.codeWith yL_cask cL_cask 5 (some .int) [(0, 10, 13, 20)], Cond.methodLink RL 42 yX2_cask, Cond.instanceMethod yX2_cask, Cond.selects RX2 yX2_cask yX2_cask, Cond.code yX2_cask cX2_cask 3 (some .int), Cond.methodLink RX2 194 yX2_tellOfCask, Cond.instanceMethod yX2_tellOfCask, Cond.selects RX2 yX2_tellOfCask yX2_tellOfCask, Cond.code yX2_tellOfCask cX2_tellOfCask 5 (some .int), Cond.fieldLink RX2 206 "CaskYard$Cask" "amounts" "[I", Cond.fieldLink RX2 321 "CaskYard$Cask" "swelling" "I", Cond.fieldLink RX2 324 "CaskYard$Cask" "fillings" "I", Cond.fieldLink RX2 327 "CaskYard$Cask" "airMonths" "I", Cond.fieldLink RX2 263 "CaskYard$Cask" "grains" "I", Cond.methodLink RX2 238 yX2_stavesAt, Cond.instanceMethod yX2_stavesAt, Cond.selects RX2 yX2_stavesAt yX2_stavesAt]
def wsL_law0_r15 : List Cond := [Cond.code yX2_stavesAt cX2_stavesAt 4 (some .int), Cond.methodLink RX2 266 yX1_leak, Cond.instanceMethod yX1_leak, Cond.selects RX1 yX1_leak yX1_leak, Cond.code yX1_leak cX1_leak 1 (some .int), Cond.methodLink RX1 63 Lib.Math.max.name, Cond.methodLink RX1 59 yX1_allTensions, Cond.methodLink RL 105 yX3_cask, Cond.instanceMethod yX3_cask, Cond.selects RX3 yX3_cask yX3_cask, Cond.code yX3_cask cX3_cask 3 (some .int), Cond.methodLink RX3 137 yX3_caskTold, Cond.instanceMethod yX3_caskTold, Cond.selects RX3 yX3_caskTold yX3_caskTold, Cond.code yX3_caskTold cX3_caskTold 4 (some .int), Cond.methodLink RX3 131 yX3_leak, Cond.instanceMethod yX3_leak, Cond.selects RX3 yX3_leak yX3_leak, Cond.code yX3_leak cX3_leak 2 (some .int), Cond.methodLink RX3 134 yX3_stavesOf, Cond.instanceMethod yX3_stavesOf, Cond.selects RX3 yX3_stavesOf yX3_stavesOf, Cond.code yX3_stavesOf cX3_stavesOf 4 (some .int), Cond.methodLink RL 106 yL_fill]
def wsL_law0_r16 : List Cond := [Cond.static yL_fill, Cond.codeWith yL_fill cL_fill 6 (some .int) [(0, 12, 15, 20), (0, 12, 19, 13), (0, 12, 23, 15)], Cond.methodLink RL 45 yX2_fill, Cond.instanceMethod yX2_fill, Cond.selects RX2 yX2_fill yX2_fill, Cond.code yX2_fill cX2_fill 5 (some .int), Cond.methodLink RX2 203 yX1_countFilling, Cond.instanceMethod yX1_countFilling, Cond.selects RX1 yX1_countFilling yX1_countFilling, Cond.code yX1_countFilling cX1_countFilling 1 none, Cond.methodLink RX1 69 yX1_held, Cond.methodLink RL 108 yX3_fill, Cond.instanceMethod yX3_fill, Cond.selects RX3 yX3_fill yX3_fill, Cond.code yX3_fill cX3_fill 4 (some .int), Cond.methodLink RX3 140 yX3_beginFilling, Cond.instanceMethod yX3_beginFilling, Cond.selects RX3 yX3_beginFilling yX3_beginFilling, Cond.code yX3_beginFilling cX3_beginFilling 2 none, Cond.methodLink RL 109 yL_rack, Cond.static yL_rack, Cond.codeWith yL_rack cL_rack 6 (some .int) [(0, 12, 15, 20), (0, 12, 19, 13), (0, 12, 23, 15)], Cond.methodLink RL 48 yX2_rack, Cond.instanceMethod yX2_rack]
def wsL_law0_r17 : List Cond := [Cond.selects RX2 yX2_rack yX2_rack, Cond.code yX2_rack cX2_rack 8 (some .int), Cond.methodLink RX2 217 yX1_moveTo, Cond.instanceMethod yX1_moveTo, Cond.selects RX1 yX1_moveTo yX1_moveTo, Cond.code yX1_moveTo cX1_moveTo 7 none, Cond.methodLink RX1 103 yX1_moveLiquid, Cond.instanceMethod yX1_moveLiquid, Cond.selects RX1 yX1_moveLiquid yX1_moveLiquid, Cond.code yX1_moveLiquid cX1_moveLiquid 4 none, Cond.methodLink RL 111 yX3_rack, Cond.instanceMethod yX3_rack, Cond.selects RX3 yX3_rack yX3_rack, Cond.code yX3_rack cX3_rack 10 (some .int), Cond.methodLink RL 112 yL_setWarmth, Cond.static yL_setWarmth, Cond.codeWith yL_setWarmth cL_setWarmth 4 (some .int) [(0, 9, 12, 13)], Cond.methodLink RL 51 yX2_setWarmth, Cond.instanceMethod yX2_setWarmth, Cond.selects RX2 yX2_setWarmth yX2_setWarmth, Cond.code yX2_setWarmth cX2_setWarmth 3 (some .int), Cond.methodLink RL 114 yX3_setWarmth, Cond.instanceMethod yX3_setWarmth, Cond.selects RX3 yX3_setWarmth yX3_setWarmth]
def wsL_law0_r18 : List Cond := [Cond.code yX3_setWarmth cX3_setWarmth 3 (some .int), Cond.methodLink RL 115 yL_pass, Cond.static yL_pass, Cond.codeWith yL_pass cL_pass 4 (some .int) [(0, 9, 12, 13), (0, 9, 15, 15)], Cond.methodLink RL 54 yX2_pass, Cond.instanceMethod yX2_pass, Cond.selects RX2 yX2_pass yX2_pass, Cond.code yX2_pass cX2_pass 4 (some .int), Cond.fieldLink RX2 225 "CaskYard" "month" "I", Cond.fieldLink RX2 233 "CaskYard" "lostInAll" "I", Cond.methodLink RX2 230 yX2_liveMonth, Cond.instanceMethod yX2_liveMonth, Cond.selects RX2 yX2_liveMonth yX2_liveMonth, Cond.code yX2_liveMonth cX2_liveMonth 3 (some .int), Cond.methodLink RX2 256 yX2_hoopsLoosenIn, Cond.static yX2_hoopsLoosenIn, Cond.code yX2_hoopsLoosenIn cX2_hoopsLoosenIn 1 (some .boolean), Cond.methodLink RX2 259 yX1_live, Cond.instanceMethod yX1_live, Cond.selects RX1 yX1_live yX1_live, Cond.code yX1_live cX1_live 4 (some .int), Cond.methodLink RX1 80 yX1_takeOak, Cond.instanceMethod yX1_takeOak, Cond.selects RX1 yX1_takeOak yX1_takeOak]
def wsL_law0_r19 : List Cond := [Cond.code yX1_takeOak cX1_takeOak 2 none, Cond.methodLink RX1 83 yX1_swell, Cond.instanceMethod yX1_swell, Cond.selects RX1 yX1_swell yX1_swell, Cond.code yX1_swell cX1_swell 1 none, Cond.fieldLink RX1 50 "CaskYard$Cask" "room" "I", Cond.methodLink RX1 99 Lib.Math.min.name, Cond.methodLink RX1 86 yX1_leak, Cond.methodLink RX1 89 yX1_lose, Cond.instanceMethod yX1_lose, Cond.selects RX1 yX1_lose yX1_lose, Cond.code yX1_lose cX1_lose 8 (some .int), Cond.constantLong RX1 74 (1000), Cond.methodLink RX1 101 Lib.MathLoose.max_long.x, Cond.static Lib.MathLoose.max_long.x, Cond.code Lib.MathLoose.max_long.x Lib.MathLoose.max_long.code 4 (some .long), Cond.methodLink RX1 76 Lib.MathLoose.min_long.x, Cond.static Lib.MathLoose.min_long.x, Cond.code Lib.MathLoose.min_long.x Lib.MathLoose.min_long.code 4 (some .long), Cond.methodLink RX1 93 yX1_takeAir, Cond.instanceMethod yX1_takeAir, Cond.selects RX1 yX1_takeAir yX1_takeAir, Cond.code yX1_takeAir cX1_takeAir 2 none, Cond.methodLink RX1 96 yX1_loosen]
def wsL_law0_r20 : List Cond := [Cond.instanceMethod yX1_loosen, Cond.selects RX1 yX1_loosen yX1_loosen, Cond.code yX1_loosen cX1_loosen 2 none, Cond.methodLink RL 117 yX3_pass_, Cond.instanceMethod yX3_pass_, Cond.selects RX3 yX3_pass_ yX3_pass_, Cond.code yX3_pass_ cX3_pass_ 5 (some .int), Cond.fieldLink RX3 151 "CaskYardModel" "month" "I", Cond.fieldLink RX3 154 "CaskYardModel" "lost" "I", Cond.methodLink RX3 157 yX3_pass, Cond.instanceMethod yX3_pass, Cond.selects RX3 yX3_pass yX3_pass, Cond.code yX3_pass cX3_pass 8 (some .int), Cond.constantLong RX3 144 (1000), Cond.methodLink RX3 146 Lib.MathLoose.max_long.x, Cond.methodLink RX3 149 Lib.MathLoose.min_long.x, Cond.methodLink RL 118 yL_count, Cond.static yL_count, Cond.codeWith yL_count cL_count 4 (some .int) [(0, 9, 12, 20)], Cond.methodLink RL 57 yX2_count, Cond.instanceMethod yX2_count, Cond.selects RX2 yX2_count yX2_count, Cond.code yX2_count cX2_count 2 (some .int), Cond.methodLink RX2 241 yX2_soundCasks]
def wsL_law0_r21 : List Cond := [Cond.instanceMethod yX2_soundCasks, Cond.selects RX2 yX2_soundCasks yX2_soundCasks, Cond.code yX2_soundCasks cX2_soundCasks 3 (some .int), Cond.methodLink RX2 244 yX2_heldByAll, Cond.instanceMethod yX2_heldByAll, Cond.selects RX2 yX2_heldByAll yX2_heldByAll, Cond.code yX2_heldByAll cX2_heldByAll 3 (some .int), Cond.methodLink RX2 247 yX2_vinegarOfAll, Cond.instanceMethod yX2_vinegarOfAll, Cond.selects RX2 yX2_vinegarOfAll yX2_vinegarOfAll, Cond.code yX2_vinegarOfAll cX2_vinegarOfAll 3 (some .int), Cond.methodLink RL 120 yX3_count, Cond.instanceMethod yX3_count, Cond.selects RX3 yX3_count yX3_count, Cond.code yX3_count cX3_count 2 (some .int), Cond.methodLink RX3 160 yX3_counted, Cond.instanceMethod yX3_counted, Cond.selects RX3 yX3_counted yX3_counted, Cond.code yX3_counted cX3_counted 7 (some .int), Cond.methodLink RL 121 yL_foresee, Cond.static yL_foresee, Cond.codeWith yL_foresee cL_foresee 6 (some .int) [(0, 12, 15, 20), (0, 12, 19, 13), (0, 12, 23, 15)], Cond.methodLink RL 60 yX2_foresee, Cond.instanceMethod yX2_foresee]
def wsL_law0_r22 : List Cond := [Cond.selects RX2 yX2_foresee yX2_foresee, Cond.code yX2_foresee cX2_foresee 5 (some .int), Cond.methodLink RX2 252 yX1_copyFrom, Cond.instanceMethod yX1_copyFrom, Cond.selects RX1 yX1_copyFrom yX1_copyFrom, Cond.code yX1_copyFrom cX1_copyFrom 2 none, Cond.fieldLink RX1 47 "CaskYard$Cask" "sort" "I", Cond.methodLink RX1 53 arraycopyName, Cond.native arraycopyName, Cond.static arraycopyName, Cond.initialized "java/lang/System", Cond.methodLink RL 123 yX3_foresee, Cond.instanceMethod yX3_foresee, Cond.selects RX3 yX3_foresee yX3_foresee, Cond.code yX3_foresee cX3_foresee 8 (some .int), Cond.methodLink RX3 163 arraycopyName, Cond.methodLink RX3 169 yX3_foreseen, Cond.instanceMethod yX3_foreseen, Cond.selects RX3 yX3_foreseen yX3_foreseen, Cond.code yX3_foreseen cX3_foreseen 3 (some .int), Cond.methodLink RL 124 yL_blend, Cond.static yL_blend, Cond.codeWith yL_blend cL_blend 5 (some .int) [(0, 10, 13, 13), (0, 10, 17, 20)], Cond.methodLink RL 63 yX2_blend]
def wsL_law0_r23 : List Cond := [Cond.instanceMethod yX2_blend, Cond.selects RX2 yX2_blend yX2_blend, Cond.code yX2_blend cX2_blend 3 (some .int), Cond.constant RX2 269 (1000000), Cond.fieldLink RX2 275 "CaskYard$Blend" "a" "I", Cond.fieldLink RX2 278 "CaskYard$Blend" "b" "I", Cond.fieldLink RX2 281 "CaskYard$Blend" "tenths" "I", Cond.fieldLink RX2 284 "CaskYard$Blend" "mixedTaste" "I", Cond.methodLink RX2 272 yX2_findBestBlend, Cond.instanceMethod yX2_findBestBlend, Cond.selects RX2 yX2_findBestBlend yX2_findBestBlend, Cond.code yX2_findBestBlend cX2_findBestBlend 4 none, Cond.methodLink RX2 330 yX0_clear, Cond.instanceMethod yX0_clear, Cond.selects RX0 yX0_clear yX0_clear, Cond.code yX0_clear cX0_clear 1 none, Cond.fieldLink RX0 9 "CaskYard$Blend" "a" "I", Cond.fieldLink RX0 15 "CaskYard$Blend" "b" "I", Cond.fieldLink RX0 18 "CaskYard$Blend" "tenths" "I", Cond.fieldLink RX0 21 "CaskYard$Blend" "mixedTaste" "I", Cond.fieldLink RX0 24 "CaskYard$Blend" "difference" "I", Cond.methodLink RX2 331 yX1_canBeBlended, Cond.instanceMethod yX1_canBeBlended, Cond.selects RX1 yX1_canBeBlended yX1_canBeBlended]
def wsL_law0_r24 : List Cond := [Cond.code yX1_canBeBlended cX1_canBeBlended 1 (some .boolean), Cond.methodLink RX2 335 yX2_offerBlends, Cond.instanceMethod yX2_offerBlends, Cond.selects RX2 yX2_offerBlends yX2_offerBlends, Cond.code yX2_offerBlends cX2_offerBlends 8 none, Cond.methodLink RX2 339 yX1_tasteOfOak, Cond.instanceMethod yX1_tasteOfOak, Cond.selects RX1 yX1_tasteOfOak yX1_tasteOfOak, Cond.code yX1_tasteOfOak cX1_tasteOfOak 2 (some .int), Cond.constantLong RX1 72 (1000000), Cond.methodLink RX2 342 yX0_offer, Cond.instanceMethod yX0_offer, Cond.selects RX0 yX0_offer yX0_offer, Cond.code yX0_offer cX0_offer 7 none, Cond.methodLink RX0 27 Lib.Math.abs.name, Cond.static Lib.Math.abs.name, Cond.code Lib.Math.abs.name Lib.Math.abs.code 1 (some .int), Cond.methodLink RL 126 yX3_blend, Cond.instanceMethod yX3_blend, Cond.selects RX3 yX3_blend yX3_blend, Cond.code yX3_blend cX3_blend 13 (some .int), Cond.constant RX3 174 (1000000), Cond.constantLong RX3 175 (-1), Cond.constantLong RX3 184 (10)]
def wsL_law0_r25 : List Cond := [Cond.methodLink RX3 186 Lib.MathLoose.abs_long.x, Cond.static Lib.MathLoose.abs_long.x, Cond.code Lib.MathLoose.abs_long.x Lib.MathLoose.abs_long.code 2 (some .long), Cond.methodLink RX3 177 yX3_canBlend, Cond.instanceMethod yX3_canBlend, Cond.selects RX3 yX3_canBlend yX3_canBlend, Cond.code yX3_canBlend cX3_canBlend 2 (some .boolean), Cond.methodLink RX3 180 yX3_tasteOf, Cond.instanceMethod yX3_tasteOf, Cond.selects RX3 yX3_tasteOf yX3_tasteOf, Cond.code yX3_tasteOf cX3_tasteOf 2 (some .long), Cond.constantLong RX3 172 (1000000), Cond.methodLink RL 127 yX2_taste, Cond.instanceMethod yX2_taste, Cond.selects RX2 yX2_taste yX2_taste, Cond.code yX2_taste cX2_taste 5 (some .double), Cond.methodLink RL 131 yX3_taste, Cond.instanceMethod yX3_taste, Cond.selects RX3 yX3_taste yX3_taste, Cond.code yX3_taste cX3_taste 6 (some .double), Cond.methodLink RL 132 yX2_digest, Cond.instanceMethod yX2_digest, Cond.selects RX2 yX2_digest yX2_digest, Cond.code yX2_digest cX2_digest 4 (some .long)]
def wsL_law0_r26 : List Cond := [Cond.constantLong RX2 287 (487), Cond.constantLong RX2 289 (31), Cond.methodLink RX2 291 yX2_count, Cond.methodLink RX2 294 yX2_digestCask, Cond.instanceMethod yX2_digestCask, Cond.selects RX2 yX2_digestCask yX2_digestCask, Cond.code yX2_digestCask cX2_digestCask 8 (some .long), Cond.methodLink RL 136 yX3_digest, Cond.instanceMethod yX3_digest, Cond.selects RX3 yX3_digest yX3_digest, Cond.code yX3_digest cX3_digest 5 (some .long), Cond.constantLong RX3 190 (487), Cond.constantLong RX3 192 (31)]
def wsL_law0 : List Cond := (wsL_law0_r1 ++ (wsL_law0_r2 ++ (wsL_law0_r3 ++ (wsL_law0_r4 ++ (wsL_law0_r5 ++ (wsL_law0_r6 ++ (wsL_law0_r7 ++ (wsL_law0_r8 ++ (wsL_law0_r9 ++ (wsL_law0_r10 ++ (wsL_law0_r11 ++ (wsL_law0_r12 ++ (wsL_law0_r13 ++ (wsL_law0_r14 ++ (wsL_law0_r15 ++ (wsL_law0_r16 ++ (wsL_law0_r17 ++ (wsL_law0_r18 ++ (wsL_law0_r19 ++ (wsL_law0_r20 ++ (wsL_law0_r21 ++ (wsL_law0_r22 ++ (wsL_law0_r23 ++ (wsL_law0_r24 ++ (wsL_law0_r25 ++ wsL_law0_r26))))))))))))))))))))))))) ++ wsX20 ++ wsX30 ++ wsX10 ++ wsX00 ++ ([] : List Cond)
def wsL_law : List Cond := wsL_law0 ++ (vx_atS RX2 61 "java/lang/IllegalArgumentException" ["java/lang/RuntimeException", "java/lang/Exception"]).filter goodWord ++ (vx_atS RX2 73 "java/lang/IllegalStateException" ["java/lang/RuntimeException", "java/lang/Exception"]).filter goodWord ++ (vx_atS RX2 82 "java/lang/IndexOutOfBoundsException" ["java/lang/RuntimeException", "java/lang/Exception"]).filter goodWord
end
section
set_option maxRecDepth 20000 in
theorem wsL_law0_r1_in : ∀ w ∈ wsL_law0_r1, w ∈ lw_tbl := fun w h => (goodIn_p wsL_law0_r1 [65, 68] (by decide +kernel) (by decide +kernel) w h).1
set_option maxRecDepth 20000 in
theorem wsL_law0_r2_in : ∀ w ∈ wsL_law0_r2, w ∈ lw_tbl := fun w h => (goodIn_p wsL_law0_r2 [74, 126, 660] (by decide +kernel) (by decide +kernel) w h).1
set_option maxRecDepth 20000 in
theorem wsL_law0_r3_in : ∀ w ∈ wsL_law0_r3, w ∈ lw_tbl := fun w h => (goodIn_p wsL_law0_r3 [] (by decide +kernel) (by decide +kernel) w h).1
set_option maxRecDepth 20000 in
theorem wsL_law0_r4_in : ∀ w ∈ wsL_law0_r4, w ∈ lw_tbl := fun w h => (goodIn_p wsL_law0_r4 [331, 747, 750, 754, 743] (by decide +kernel) (by decide +kernel) w h).1
set_option maxRecDepth 20000 in
theorem wsL_law0_r5_in : ∀ w ∈ wsL_law0_r5, w ∈ lw_tbl := fun w h => (goodIn_p wsL_law0_r5 [372, 376, 758, 762] (by decide +kernel) (by decide +kernel) w h).1
set_option maxRecDepth 20000 in
theorem wsL_law0_r6_in : ∀ w ∈ wsL_law0_r6, w ∈ lw_tbl := fun w h => (goodIn_p wsL_law0_r6 [766, 385, 770, 397] (by decide +kernel) (by decide +kernel) w h).1
set_option maxRecDepth 20000 in
theorem wsL_law0_r7_in : ∀ w ∈ wsL_law0_r7, w ∈ lw_tbl := fun w h => (goodIn_p wsL_law0_r7 [401, 407, 411, 414, 418, 422] (by decide +kernel) (by decide +kernel) w h).1
set_option maxRecDepth 20000 in
theorem wsL_law0_r8_in : ∀ w ∈ wsL_law0_r8, w ∈ lw_tbl := fun w h => (goodIn_p wsL_law0_r8 [426, 429, 775, 779, 783, 467] (by decide +kernel) (by decide +kernel) w h).1
set_option maxRecDepth 20000 in
theorem wsL_law0_r9_in : ∀ w ∈ wsL_law0_r9, w ∈ lw_tbl := fun w h => (goodIn_p wsL_law0_r9 [787, 436, 442] (by decide +kernel) (by decide +kernel) w h).1
set_option maxRecDepth 20000 in
theorem wsL_law0_r10_in : ∀ w ∈ wsL_law0_r10, w ∈ lw_tbl := fun w h => (goodIn_p wsL_law0_r10 [446, 450, 792, 457, 461] (by decide +kernel) (by decide +kernel) w h).1
set_option maxRecDepth 20000 in
theorem wsL_law0_r11_in : ∀ w ∈ wsL_law0_r11, w ∈ lw_tbl := fun w h => (goodIn_p wsL_law0_r11 [314, 796, 800, 804, 808] (by decide +kernel) (by decide +kernel) w h).1
set_option maxRecDepth 20000 in
theorem wsL_law0_r12_in : ∀ w ∈ wsL_law0_r12, w ∈ lw_tbl := fun w h => (goodIn_p wsL_law0_r12 [474, 478, 212, 812, 816, 820] (by decide +kernel) (by decide +kernel) w h).1
set_option maxRecDepth 20000 in
theorem wsL_law0_r13_in : ∀ w ∈ wsL_law0_r13, w ∈ lw_tbl := fun w h => (goodIn_p wsL_law0_r13 [489, 494, 322, 499] (by decide +kernel) (by decide +kernel) w h).1
set_option maxRecDepth 20000 in
theorem wsL_law0_r14_in : ∀ w ∈ wsL_law0_r14, w ∈ lw_tbl := fun w h => (goodIn_p wsL_law0_r14 [824, 507, 310] (by decide +kernel) (by decide +kernel) w h).1
set_option maxRecDepth 20000 in
theorem wsL_law0_r15_in : ∀ w ∈ wsL_law0_r15, w ∈ lw_tbl := fun w h => (goodIn_p wsL_law0_r15 [294, 318, 829, 833, 837, 841] (by decide +kernel) (by decide +kernel) w h).1
set_option maxRecDepth 20000 in
theorem wsL_law0_r16_in : ∀ w ∈ wsL_law0_r16, w ∈ lw_tbl := fun w h => (goodIn_p wsL_law0_r16 [515, 522, 845, 849] (by decide +kernel) (by decide +kernel) w h).1
set_option maxRecDepth 20000 in
theorem wsL_law0_r17_in : ∀ w ∈ wsL_law0_r17, w ∈ lw_tbl := fun w h => (goodIn_p wsL_law0_r17 [530, 538, 542, 853, 549] (by decide +kernel) (by decide +kernel) w h).1
set_option maxRecDepth 20000 in
theorem wsL_law0_r18_in : ∀ w ∈ wsL_law0_r18, w ∈ lw_tbl := fun w h => (goodIn_p wsL_law0_r18 [857, 557, 563, 566, 570] (by decide +kernel) (by decide +kernel) w h).1
set_option maxRecDepth 20000 in
theorem wsL_law0_r19_in : ∀ w ∈ wsL_law0_r19, w ∈ lw_tbl := fun w h => (goodIn_p wsL_law0_r19 [574, 578, 584, 588, 591, 595] (by decide +kernel) (by decide +kernel) w h).1
set_option maxRecDepth 20000 in
theorem wsL_law0_r20_in : ∀ w ∈ wsL_law0_r20, w ∈ lw_tbl := fun w h => (goodIn_p wsL_law0_r20 [599, 861, 865, 222] (by decide +kernel) (by decide +kernel) w h).1
set_option maxRecDepth 20000 in
theorem wsL_law0_r21_in : ∀ w ∈ wsL_law0_r21, w ∈ lw_tbl := fun w h => (goodIn_p wsL_law0_r21 [298, 208, 302, 872, 876] (by decide +kernel) (by decide +kernel) w h).1
set_option maxRecDepth 20000 in
theorem wsL_law0_r22_in : ∀ w ∈ wsL_law0_r22, w ∈ lw_tbl := fun w h => (goodIn_p wsL_law0_r22 [610, 615, 880, 885] (by decide +kernel) (by decide +kernel) w h).1
set_option maxRecDepth 20000 in
theorem wsL_law0_r23_in : ∀ w ∈ wsL_law0_r23, w ∈ lw_tbl := fun w h => (goodIn_p wsL_law0_r23 [625, 631, 635] (by decide +kernel) (by decide +kernel) w h).1
set_option maxRecDepth 20000 in
theorem wsL_law0_r24_in : ∀ w ∈ wsL_law0_r24, w ∈ lw_tbl := fun w h => (goodIn_p wsL_law0_r24 [639, 643, 647, 652, 655, 889] (by decide +kernel) (by decide +kernel) w h).1
set_option maxRecDepth 20000 in
theorem wsL_law0_r25_in : ∀ w ∈ wsL_law0_r25, w ∈ lw_tbl := fun w h => (goodIn_p wsL_law0_r25 [904, 895, 899, 204, 908, 216] (by decide +kernel) (by decide +kernel) w h).1
set_option maxRecDepth 20000 in
theorem wsL_law0_r26_in : ∀ w ∈ wsL_law0_r26, w ∈ lw_tbl := fun w h => (goodIn_p wsL_law0_r26 [306, 912] (by decide +kernel) (by decide +kernel) w h).1
set_option maxRecDepth 20000 in
theorem cy_wsX20_in : ∀ w ∈ wsX20, w ∈ lw_tbl := by decide +kernel
set_option maxRecDepth 20000 in
theorem cy_wsX30_in : ∀ w ∈ wsX30, w ∈ lw_tbl := by decide +kernel
set_option maxRecDepth 20000 in
theorem cy_wsX10_in : ∀ w ∈ wsX10, w ∈ lw_tbl := by decide +kernel
set_option maxRecDepth 20000 in
theorem cy_wsX00_in : ∀ w ∈ wsX00, w ∈ lw_tbl := by decide +kernel
theorem cy_elim {P : Cond → Prop} {a b : List Cond} (ha : ∀ w ∈ a, P w) (hb : ∀ w ∈ b, P w) : ∀ w ∈ a ++ b, P w := fun w h => (List.mem_append.mp h).elim (ha w) (hb w)
theorem wsL_law_in0 : ∀ w ∈ wsL_law0, w ∈ lw_tbl := cy_elim (cy_elim (cy_elim (cy_elim (cy_elim (cy_elim wsL_law0_r1_in (cy_elim wsL_law0_r2_in (cy_elim wsL_law0_r3_in (cy_elim wsL_law0_r4_in (cy_elim wsL_law0_r5_in (cy_elim wsL_law0_r6_in (cy_elim wsL_law0_r7_in (cy_elim wsL_law0_r8_in (cy_elim wsL_law0_r9_in (cy_elim wsL_law0_r10_in (cy_elim wsL_law0_r11_in (cy_elim wsL_law0_r12_in (cy_elim wsL_law0_r13_in (cy_elim wsL_law0_r14_in (cy_elim wsL_law0_r15_in (cy_elim wsL_law0_r16_in (cy_elim wsL_law0_r17_in (cy_elim wsL_law0_r18_in (cy_elim wsL_law0_r19_in (cy_elim wsL_law0_r20_in (cy_elim wsL_law0_r21_in (cy_elim wsL_law0_r22_in (cy_elim wsL_law0_r23_in (cy_elim wsL_law0_r24_in (cy_elim wsL_law0_r25_in wsL_law0_r26_in))))))))))))))))))))))))) cy_wsX20_in) cy_wsX30_in) cy_wsX10_in) cy_wsX00_in) (fun _ h => absurd h List.not_mem_nil)
theorem wsL_law_x0 : ∀ w ∈ (vx_atS RX2 61 "java/lang/IllegalArgumentException" ["java/lang/RuntimeException", "java/lang/Exception"]).filter goodWord, w ∈ lw_tbl := by decide +kernel
theorem wsL_law_x1 : ∀ w ∈ (vx_atS RX2 73 "java/lang/IllegalStateException" ["java/lang/RuntimeException", "java/lang/Exception"]).filter goodWord, w ∈ lw_tbl := by decide +kernel
theorem wsL_law_x2 : ∀ w ∈ (vx_atS RX2 82 "java/lang/IndexOutOfBoundsException" ["java/lang/RuntimeException", "java/lang/Exception"]).filter goodWord, w ∈ lw_tbl := by decide +kernel
theorem wsL_law_in : ∀ w ∈ wsL_law, w ∈ lw_tbl := fun w h => (List.mem_append.mp h).elim (fun h => (List.mem_append.mp h).elim (fun h => (List.mem_append.mp h).elim (fun h => wsL_law_in0 w h) (fun h => wsL_law_x0 w h)) (fun h => wsL_law_x1 w h)) (fun h => wsL_law_x2 w h)
theorem inlX0 : ∀ w ∈ wsX00, w ∈ wsL_law := fun _ h => List.mem_append_left _ (List.mem_append_left _ (List.mem_append_left _ (List.mem_append_left _ (List.mem_append_right _ h))))
theorem inX0 : ∀ w ∈ wsX00, w ∈ lw_tbl := fun w h => wsL_law_in w (inlX0 w h)
theorem inlX1 : ∀ w ∈ wsX10, w ∈ wsL_law := fun _ h => List.mem_append_left _ (List.mem_append_left _ (List.mem_append_left _ (List.mem_append_left _ (List.mem_append_left _ (List.mem_append_right _ h)))))
theorem inX1 : ∀ w ∈ wsX10, w ∈ lw_tbl := fun w h => wsL_law_in w (inlX1 w h)
theorem inlX2 : ∀ w ∈ wsX20, w ∈ wsL_law := fun _ h => List.mem_append_left _ (List.mem_append_left _ (List.mem_append_left _ (List.mem_append_left _ (List.mem_append_left _ (List.mem_append_left _ (List.mem_append_left _ (List.mem_append_right _ h)))))))
theorem inX2 : ∀ w ∈ wsX20, w ∈ lw_tbl := fun w h => wsL_law_in w (inlX2 w h)
theorem inlX3 : ∀ w ∈ wsX30, w ∈ wsL_law := fun _ h => List.mem_append_left _ (List.mem_append_left _ (List.mem_append_left _ (List.mem_append_left _ (List.mem_append_left _ (List.mem_append_left _ (List.mem_append_right _ h))))))
theorem inX3 : ∀ w ∈ wsX30, w ∈ lw_tbl := fun w h => wsL_law_in w (inlX3 w h)
theorem inJx145de : ∀ w ∈ wsJx145de0, w ∈ lw_tbl := by decide +kernel
theorem inJ9 : ∀ w ∈ wsJ90, w ∈ lw_tbl := by decide +kernel
theorem inJ0 : ∀ w ∈ wsJ00, w ∈ lw_tbl := by decide +kernel
theorem inJ10 : ∀ w ∈ wsJ100, w ∈ lw_tbl := by decide +kernel
theorem inJ7 : ∀ w ∈ wsJ70, w ∈ lw_tbl := by decide +kernel
theorem dX0_init_0 : decode cX0_init 0 = .ok (.aload_n 0, 1) := by decide +kernel
theorem dX0_init_1 : decode cX0_init 1 = .ok (.invokespecial 3, 3) := by decide +kernel
theorem dX0_init_4 : decode cX0_init 4 = .ok (.return_, 1) := by decide +kernel
theorem dX0_clear_0 : decode cX0_clear 0 = .ok (.aload_n 0, 1) := by decide +kernel
theorem dX0_clear_1 : decode cX0_clear 1 = .ok (.iconst (-1), 1) := by decide +kernel
theorem dX0_clear_2 : decode cX0_clear 2 = .ok (.putfield 9, 3) := by decide +kernel
theorem dX0_clear_5 : decode cX0_clear 5 = .ok (.aload_n 0, 1) := by decide +kernel
theorem dX0_clear_6 : decode cX0_clear 6 = .ok (.iconst (-1), 1) := by decide +kernel
theorem dX0_clear_7 : decode cX0_clear 7 = .ok (.putfield 15, 3) := by decide +kernel
theorem dX0_clear_10 : decode cX0_clear 10 = .ok (.aload_n 0, 1) := by decide +kernel
theorem dX0_clear_11 : decode cX0_clear 11 = .ok (.iconst (-1), 1) := by decide +kernel
theorem dX0_clear_12 : decode cX0_clear 12 = .ok (.putfield 18, 3) := by decide +kernel
theorem dX0_clear_15 : decode cX0_clear 15 = .ok (.aload_n 0, 1) := by decide +kernel
theorem dX0_clear_16 : decode cX0_clear 16 = .ok (.iconst (-1), 1) := by decide +kernel
theorem dX0_clear_17 : decode cX0_clear 17 = .ok (.putfield 21, 3) := by decide +kernel
theorem dX0_clear_20 : decode cX0_clear 20 = .ok (.aload_n 0, 1) := by decide +kernel
theorem dX0_clear_21 : decode cX0_clear 21 = .ok (.iconst 0, 1) := by decide +kernel
theorem dX0_clear_22 : decode cX0_clear 22 = .ok (.putfield 24, 3) := by decide +kernel
theorem dX0_clear_25 : decode cX0_clear 25 = .ok (.return_, 1) := by decide +kernel
theorem dX0_offer_0 : decode cX0_offer 0 = .ok (.iload 4, 2) := by decide +kernel
theorem dX0_offer_2 : decode cX0_offer 2 = .ok (.iload 5, 2) := by decide +kernel
theorem dX0_offer_4 : decode cX0_offer 4 = .ok (.isub, 1) := by decide +kernel
theorem dX0_offer_5 : decode cX0_offer 5 = .ok (.invokestatic 27, 3) := by decide +kernel
theorem dX0_offer_8 : decode cX0_offer 8 = .ok (.istore 6, 2) := by decide +kernel
theorem dX0_offer_10 : decode cX0_offer 10 = .ok (.aload_n 0, 1) := by decide +kernel
theorem dX0_offer_11 : decode cX0_offer 11 = .ok (.getfield 9, 3) := by decide +kernel
theorem dX0_offer_14 : decode cX0_offer 14 = .ok (.iconst (-1), 1) := by decide +kernel
theorem dX0_offer_15 : decode cX0_offer 15 = .ok (.if_icmp .eq 12, 3) := by decide +kernel
theorem dX0_offer_18 : decode cX0_offer 18 = .ok (.iload 6, 2) := by decide +kernel
theorem dX0_offer_20 : decode cX0_offer 20 = .ok (.aload_n 0, 1) := by decide +kernel
theorem dX0_offer_21 : decode cX0_offer 21 = .ok (.getfield 24, 3) := by decide +kernel
theorem dX0_offer_24 : decode cX0_offer 24 = .ok (.if_icmp .ge 30, 3) := by decide +kernel
theorem dX0_offer_27 : decode cX0_offer 27 = .ok (.aload_n 0, 1) := by decide +kernel
theorem dX0_offer_28 : decode cX0_offer 28 = .ok (.iload_n 1, 1) := by decide +kernel
theorem dX0_offer_29 : decode cX0_offer 29 = .ok (.putfield 9, 3) := by decide +kernel
theorem dX0_offer_32 : decode cX0_offer 32 = .ok (.aload_n 0, 1) := by decide +kernel
theorem dX0_offer_33 : decode cX0_offer 33 = .ok (.iload_n 2, 1) := by decide +kernel
theorem dX0_offer_34 : decode cX0_offer 34 = .ok (.putfield 15, 3) := by decide +kernel
theorem dX0_offer_37 : decode cX0_offer 37 = .ok (.aload_n 0, 1) := by decide +kernel
theorem dX0_offer_38 : decode cX0_offer 38 = .ok (.iload_n 3, 1) := by decide +kernel
theorem dX0_offer_39 : decode cX0_offer 39 = .ok (.putfield 18, 3) := by decide +kernel
theorem dX0_offer_42 : decode cX0_offer 42 = .ok (.aload_n 0, 1) := by decide +kernel
theorem dX0_offer_43 : decode cX0_offer 43 = .ok (.iload 4, 2) := by decide +kernel
theorem dX0_offer_45 : decode cX0_offer 45 = .ok (.putfield 21, 3) := by decide +kernel
theorem dX0_offer_48 : decode cX0_offer 48 = .ok (.aload_n 0, 1) := by decide +kernel
theorem dX0_offer_49 : decode cX0_offer 49 = .ok (.iload 6, 2) := by decide +kernel
theorem dX0_offer_51 : decode cX0_offer 51 = .ok (.putfield 24, 3) := by decide +kernel
theorem dX0_offer_54 : decode cX0_offer 54 = .ok (.return_, 1) := by decide +kernel
theorem dX1_init_0 : decode cX1_init 0 = .ok (.aload_n 0, 1) := by decide +kernel
theorem dX1_init_1 : decode cX1_init 1 = .ok (.invokespecial 3, 3) := by decide +kernel
theorem dX1_init_4 : decode cX1_init 4 = .ok (.aload_n 0, 1) := by decide +kernel
theorem dX1_init_5 : decode cX1_init 5 = .ok (.bipush 8, 2) := by decide +kernel
theorem dX1_init_7 : decode cX1_init 7 = .ok (.newarray .int, 2) := by decide +kernel
theorem dX1_init_9 : decode cX1_init 9 = .ok (.putfield 9, 3) := by decide +kernel
theorem dX1_init_12 : decode cX1_init 12 = .ok (.aload_n 0, 1) := by decide +kernel
theorem dX1_init_13 : decode cX1_init 13 = .ok (.iconst 5, 1) := by decide +kernel
theorem dX1_init_14 : decode cX1_init 14 = .ok (.newarray .int, 2) := by decide +kernel
theorem dX1_init_16 : decode cX1_init 16 = .ok (.putfield 15, 3) := by decide +kernel
theorem dX1_init_19 : decode cX1_init 19 = .ok (.return_, 1) := by decide +kernel
set_option maxRecDepth 20000 in
theorem ggX1_clear_J7_fill_53178 : GoodIn wsX1_clear wsJ7_fill_53178 := goodIn_r _ [13] (by decide +kernel) (by decide +kernel)
set_option maxRecDepth 20000 in
theorem gX1_clear_J7_fill_53178 : GoodIn wsX1_clear (va_wsS RX1 41 yJ7_fill_53178 wsJ7_fill_53178) := goodIn_app (goodIn_of _ (by decide +kernel)) ggX1_clear_J7_fill_53178
theorem dX1_clear_0 : decode cX1_clear 0 = .ok (.aload_n 0, 1) := by decide +kernel
theorem dX1_clear_1 : decode cX1_clear 1 = .ok (.iconst 0, 1) := by decide +kernel
theorem dX1_clear_2 : decode cX1_clear 2 = .ok (.putfield 18, 3) := by decide +kernel
theorem dX1_clear_5 : decode cX1_clear 5 = .ok (.aload_n 0, 1) := by decide +kernel
theorem dX1_clear_6 : decode cX1_clear 6 = .ok (.iconst 0, 1) := by decide +kernel
theorem dX1_clear_7 : decode cX1_clear 7 = .ok (.putfield 22, 3) := by decide +kernel
theorem dX1_clear_10 : decode cX1_clear 10 = .ok (.aload_n 0, 1) := by decide +kernel
theorem dX1_clear_11 : decode cX1_clear 11 = .ok (.iconst 0, 1) := by decide +kernel
theorem dX1_clear_12 : decode cX1_clear 12 = .ok (.putfield 26, 3) := by decide +kernel
theorem dX1_clear_15 : decode cX1_clear 15 = .ok (.aload_n 0, 1) := by decide +kernel
theorem dX1_clear_16 : decode cX1_clear 16 = .ok (.iconst 0, 1) := by decide +kernel
theorem dX1_clear_17 : decode cX1_clear 17 = .ok (.putfield 29, 3) := by decide +kernel
theorem dX1_clear_20 : decode cX1_clear 20 = .ok (.aload_n 0, 1) := by decide +kernel
theorem dX1_clear_21 : decode cX1_clear 21 = .ok (.iconst 0, 1) := by decide +kernel
theorem dX1_clear_22 : decode cX1_clear 22 = .ok (.putfield 32, 3) := by decide +kernel
theorem dX1_clear_25 : decode cX1_clear 25 = .ok (.aload_n 0, 1) := by decide +kernel
theorem dX1_clear_26 : decode cX1_clear 26 = .ok (.iconst 0, 1) := by decide +kernel
theorem dX1_clear_27 : decode cX1_clear 27 = .ok (.putfield 35, 3) := by decide +kernel
theorem dX1_clear_30 : decode cX1_clear 30 = .ok (.aload_n 0, 1) := by decide +kernel
theorem dX1_clear_31 : decode cX1_clear 31 = .ok (.iconst 0, 1) := by decide +kernel
theorem dX1_clear_32 : decode cX1_clear 32 = .ok (.putfield 38, 3) := by decide +kernel
theorem dX1_clear_35 : decode cX1_clear 35 = .ok (.aload_n 0, 1) := by decide +kernel
theorem dX1_clear_36 : decode cX1_clear 36 = .ok (.getfield 9, 3) := by decide +kernel
theorem dX1_clear_39 : decode cX1_clear 39 = .ok (.iconst 0, 1) := by decide +kernel
theorem dX1_clear_40 : decode cX1_clear 40 = .ok (.invokestatic 41, 3) := by decide +kernel
theorem dX1_clear_43 : decode cX1_clear 43 = .ok (.aload_n 0, 1) := by decide +kernel
theorem dX1_clear_44 : decode cX1_clear 44 = .ok (.getfield 15, 3) := by decide +kernel
theorem dX1_clear_47 : decode cX1_clear 47 = .ok (.iconst 0, 1) := by decide +kernel
theorem dX1_clear_48 : decode cX1_clear 48 = .ok (.invokestatic 41, 3) := by decide +kernel
theorem dX1_clear_51 : decode cX1_clear 51 = .ok (.return_, 1) := by decide +kernel
theorem dX1_copyFrom_0 : decode cX1_copyFrom 0 = .ok (.aload_n 0, 1) := by decide +kernel
theorem dX1_copyFrom_1 : decode cX1_copyFrom 1 = .ok (.aload_n 1, 1) := by decide +kernel
theorem dX1_copyFrom_2 : decode cX1_copyFrom 2 = .ok (.getfield 47, 3) := by decide +kernel
theorem dX1_copyFrom_5 : decode cX1_copyFrom 5 = .ok (.putfield 47, 3) := by decide +kernel
theorem dX1_copyFrom_8 : decode cX1_copyFrom 8 = .ok (.aload_n 0, 1) := by decide +kernel
theorem dX1_copyFrom_9 : decode cX1_copyFrom 9 = .ok (.aload_n 1, 1) := by decide +kernel
theorem dX1_copyFrom_10 : decode cX1_copyFrom 10 = .ok (.getfield 50, 3) := by decide +kernel
theorem dX1_copyFrom_13 : decode cX1_copyFrom 13 = .ok (.putfield 50, 3) := by decide +kernel
theorem dX1_copyFrom_16 : decode cX1_copyFrom 16 = .ok (.aload_n 0, 1) := by decide +kernel
theorem dX1_copyFrom_17 : decode cX1_copyFrom 17 = .ok (.aload_n 1, 1) := by decide +kernel
theorem dX1_copyFrom_18 : decode cX1_copyFrom 18 = .ok (.getfield 18, 3) := by decide +kernel
theorem dX1_copyFrom_21 : decode cX1_copyFrom 21 = .ok (.putfield 18, 3) := by decide +kernel
theorem dX1_copyFrom_24 : decode cX1_copyFrom 24 = .ok (.aload_n 0, 1) := by decide +kernel
theorem dX1_copyFrom_25 : decode cX1_copyFrom 25 = .ok (.aload_n 1, 1) := by decide +kernel
theorem dX1_copyFrom_26 : decode cX1_copyFrom 26 = .ok (.getfield 22, 3) := by decide +kernel
theorem dX1_copyFrom_29 : decode cX1_copyFrom 29 = .ok (.putfield 22, 3) := by decide +kernel
theorem dX1_copyFrom_32 : decode cX1_copyFrom 32 = .ok (.aload_n 0, 1) := by decide +kernel
theorem dX1_copyFrom_33 : decode cX1_copyFrom 33 = .ok (.aload_n 1, 1) := by decide +kernel
theorem dX1_copyFrom_34 : decode cX1_copyFrom 34 = .ok (.getfield 26, 3) := by decide +kernel
theorem dX1_copyFrom_37 : decode cX1_copyFrom 37 = .ok (.putfield 26, 3) := by decide +kernel
theorem dX1_copyFrom_40 : decode cX1_copyFrom 40 = .ok (.aload_n 0, 1) := by decide +kernel
theorem dX1_copyFrom_41 : decode cX1_copyFrom 41 = .ok (.aload_n 1, 1) := by decide +kernel
theorem dX1_copyFrom_42 : decode cX1_copyFrom 42 = .ok (.getfield 29, 3) := by decide +kernel
theorem dX1_copyFrom_45 : decode cX1_copyFrom 45 = .ok (.putfield 29, 3) := by decide +kernel
theorem dX1_copyFrom_48 : decode cX1_copyFrom 48 = .ok (.aload_n 0, 1) := by decide +kernel
theorem dX1_copyFrom_49 : decode cX1_copyFrom 49 = .ok (.aload_n 1, 1) := by decide +kernel
theorem dX1_copyFrom_50 : decode cX1_copyFrom 50 = .ok (.getfield 32, 3) := by decide +kernel
theorem dX1_copyFrom_53 : decode cX1_copyFrom 53 = .ok (.putfield 32, 3) := by decide +kernel
theorem dX1_copyFrom_56 : decode cX1_copyFrom 56 = .ok (.aload_n 0, 1) := by decide +kernel
theorem dX1_copyFrom_57 : decode cX1_copyFrom 57 = .ok (.aload_n 1, 1) := by decide +kernel
theorem dX1_copyFrom_58 : decode cX1_copyFrom 58 = .ok (.getfield 35, 3) := by decide +kernel
theorem dX1_copyFrom_61 : decode cX1_copyFrom 61 = .ok (.putfield 35, 3) := by decide +kernel
theorem dX1_copyFrom_64 : decode cX1_copyFrom 64 = .ok (.aload_n 0, 1) := by decide +kernel
theorem dX1_copyFrom_65 : decode cX1_copyFrom 65 = .ok (.aload_n 1, 1) := by decide +kernel
theorem dX1_copyFrom_66 : decode cX1_copyFrom 66 = .ok (.getfield 38, 3) := by decide +kernel
theorem dX1_copyFrom_69 : decode cX1_copyFrom 69 = .ok (.putfield 38, 3) := by decide +kernel
theorem dX1_copyFrom_72 : decode cX1_copyFrom 72 = .ok (.aload_n 1, 1) := by decide +kernel
theorem dX1_copyFrom_73 : decode cX1_copyFrom 73 = .ok (.getfield 9, 3) := by decide +kernel
theorem dX1_copyFrom_76 : decode cX1_copyFrom 76 = .ok (.iconst 0, 1) := by decide +kernel
theorem dX1_copyFrom_77 : decode cX1_copyFrom 77 = .ok (.aload_n 0, 1) := by decide +kernel
theorem dX1_copyFrom_78 : decode cX1_copyFrom 78 = .ok (.getfield 9, 3) := by decide +kernel
theorem dX1_copyFrom_81 : decode cX1_copyFrom 81 = .ok (.iconst 0, 1) := by decide +kernel
theorem dX1_copyFrom_82 : decode cX1_copyFrom 82 = .ok (.bipush 8, 2) := by decide +kernel
theorem dX1_copyFrom_84 : decode cX1_copyFrom 84 = .ok (.invokestatic 53, 3) := by decide +kernel
theorem dX1_copyFrom_87 : decode cX1_copyFrom 87 = .ok (.aload_n 1, 1) := by decide +kernel
theorem dX1_copyFrom_88 : decode cX1_copyFrom 88 = .ok (.getfield 15, 3) := by decide +kernel
theorem dX1_copyFrom_91 : decode cX1_copyFrom 91 = .ok (.iconst 0, 1) := by decide +kernel
theorem dX1_copyFrom_92 : decode cX1_copyFrom 92 = .ok (.aload_n 0, 1) := by decide +kernel
theorem dX1_copyFrom_93 : decode cX1_copyFrom 93 = .ok (.getfield 15, 3) := by decide +kernel
theorem dX1_copyFrom_96 : decode cX1_copyFrom 96 = .ok (.iconst 0, 1) := by decide +kernel
theorem dX1_copyFrom_97 : decode cX1_copyFrom 97 = .ok (.iconst 5, 1) := by decide +kernel
theorem dX1_copyFrom_98 : decode cX1_copyFrom 98 = .ok (.invokestatic 53, 3) := by decide +kernel
theorem dX1_copyFrom_101 : decode cX1_copyFrom 101 = .ok (.return_, 1) := by decide +kernel
theorem dX1_putOnHoops_0 : decode cX1_putOnHoops 0 = .ok (.aload_n 0, 1) := by decide +kernel
theorem dX1_putOnHoops_1 : decode cX1_putOnHoops 1 = .ok (.iload_n 1, 1) := by decide +kernel
theorem dX1_putOnHoops_2 : decode cX1_putOnHoops 2 = .ok (.putfield 26, 3) := by decide +kernel
theorem dX1_putOnHoops_5 : decode cX1_putOnHoops 5 = .ok (.iconst 0, 1) := by decide +kernel
theorem dX1_putOnHoops_6 : decode cX1_putOnHoops 6 = .ok (.istore_n 2, 1) := by decide +kernel
theorem dX1_putOnHoops_7 : decode cX1_putOnHoops 7 = .ok (.iload_n 2, 1) := by decide +kernel
theorem dX1_putOnHoops_8 : decode cX1_putOnHoops 8 = .ok (.aload_n 0, 1) := by decide +kernel
theorem dX1_putOnHoops_9 : decode cX1_putOnHoops 9 = .ok (.getfield 26, 3) := by decide +kernel
theorem dX1_putOnHoops_12 : decode cX1_putOnHoops 12 = .ok (.if_icmp .ge 22, 3) := by decide +kernel
theorem dX1_putOnHoops_15 : decode cX1_putOnHoops 15 = .ok (.iload_n 2, 1) := by decide +kernel
theorem dX1_putOnHoops_16 : decode cX1_putOnHoops 16 = .ok (.bipush 8, 2) := by decide +kernel
theorem dX1_putOnHoops_18 : decode cX1_putOnHoops 18 = .ok (.if_icmp .ge 16, 3) := by decide +kernel
theorem dX1_putOnHoops_21 : decode cX1_putOnHoops 21 = .ok (.aload_n 0, 1) := by decide +kernel
theorem dX1_putOnHoops_22 : decode cX1_putOnHoops 22 = .ok (.getfield 9, 3) := by decide +kernel
theorem dX1_putOnHoops_25 : decode cX1_putOnHoops 25 = .ok (.iload_n 2, 1) := by decide +kernel
theorem dX1_putOnHoops_26 : decode cX1_putOnHoops 26 = .ok (.iconst 3, 1) := by decide +kernel
theorem dX1_putOnHoops_27 : decode cX1_putOnHoops 27 = .ok (.iastore, 1) := by decide +kernel
theorem dX1_putOnHoops_28 : decode cX1_putOnHoops 28 = .ok (.iinc 2 1, 3) := by decide +kernel
theorem dX1_putOnHoops_31 : decode cX1_putOnHoops 31 = .ok (.goto (-24), 3) := by decide +kernel
theorem dX1_putOnHoops_34 : decode cX1_putOnHoops 34 = .ok (.return_, 1) := by decide +kernel
theorem dX1_held_0 : decode cX1_held 0 = .ok (.iconst 0, 1) := by decide +kernel
theorem dX1_held_1 : decode cX1_held 1 = .ok (.istore_n 1, 1) := by decide +kernel
theorem dX1_held_2 : decode cX1_held 2 = .ok (.iconst 0, 1) := by decide +kernel
theorem dX1_held_3 : decode cX1_held 3 = .ok (.istore_n 2, 1) := by decide +kernel
theorem dX1_held_4 : decode cX1_held 4 = .ok (.iload_n 2, 1) := by decide +kernel
theorem dX1_held_5 : decode cX1_held 5 = .ok (.iconst 5, 1) := by decide +kernel
theorem dX1_held_6 : decode cX1_held 6 = .ok (.if_icmp .ge 18, 3) := by decide +kernel
theorem dX1_held_9 : decode cX1_held 9 = .ok (.iload_n 1, 1) := by decide +kernel
theorem dX1_held_10 : decode cX1_held 10 = .ok (.aload_n 0, 1) := by decide +kernel
theorem dX1_held_11 : decode cX1_held 11 = .ok (.getfield 15, 3) := by decide +kernel
theorem dX1_held_14 : decode cX1_held 14 = .ok (.iload_n 2, 1) := by decide +kernel
theorem dX1_held_15 : decode cX1_held 15 = .ok (.iaload, 1) := by decide +kernel
theorem dX1_held_16 : decode cX1_held 16 = .ok (.iadd, 1) := by decide +kernel
theorem dX1_held_17 : decode cX1_held 17 = .ok (.istore_n 1, 1) := by decide +kernel
theorem dX1_held_18 : decode cX1_held 18 = .ok (.iinc 2 1, 3) := by decide +kernel
theorem dX1_held_21 : decode cX1_held 21 = .ok (.goto (-17), 3) := by decide +kernel
theorem dX1_held_24 : decode cX1_held 24 = .ok (.iload_n 1, 1) := by decide +kernel
theorem dX1_held_25 : decode cX1_held 25 = .ok (.ireturn, 1) := by decide +kernel
theorem dX1_allTensions_0 : decode cX1_allTensions 0 = .ok (.iconst 0, 1) := by decide +kernel
theorem dX1_allTensions_1 : decode cX1_allTensions 1 = .ok (.istore_n 1, 1) := by decide +kernel
theorem dX1_allTensions_2 : decode cX1_allTensions 2 = .ok (.iconst 0, 1) := by decide +kernel
theorem dX1_allTensions_3 : decode cX1_allTensions 3 = .ok (.istore_n 2, 1) := by decide +kernel
theorem dX1_allTensions_4 : decode cX1_allTensions 4 = .ok (.iload_n 2, 1) := by decide +kernel
theorem dX1_allTensions_5 : decode cX1_allTensions 5 = .ok (.bipush 8, 2) := by decide +kernel
theorem dX1_allTensions_7 : decode cX1_allTensions 7 = .ok (.if_icmp .ge 18, 3) := by decide +kernel
theorem dX1_allTensions_10 : decode cX1_allTensions 10 = .ok (.iload_n 1, 1) := by decide +kernel
theorem dX1_allTensions_11 : decode cX1_allTensions 11 = .ok (.aload_n 0, 1) := by decide +kernel
theorem dX1_allTensions_12 : decode cX1_allTensions 12 = .ok (.getfield 9, 3) := by decide +kernel
theorem dX1_allTensions_15 : decode cX1_allTensions 15 = .ok (.iload_n 2, 1) := by decide +kernel
theorem dX1_allTensions_16 : decode cX1_allTensions 16 = .ok (.iaload, 1) := by decide +kernel
theorem dX1_allTensions_17 : decode cX1_allTensions 17 = .ok (.iadd, 1) := by decide +kernel
theorem dX1_allTensions_18 : decode cX1_allTensions 18 = .ok (.istore_n 1, 1) := by decide +kernel
theorem dX1_allTensions_19 : decode cX1_allTensions 19 = .ok (.iinc 2 1, 3) := by decide +kernel
theorem dX1_allTensions_22 : decode cX1_allTensions 22 = .ok (.goto (-18), 3) := by decide +kernel
theorem dX1_allTensions_25 : decode cX1_allTensions 25 = .ok (.iload_n 1, 1) := by decide +kernel
theorem dX1_allTensions_26 : decode cX1_allTensions 26 = .ok (.ireturn, 1) := by decide +kernel
set_option maxRecDepth 20000 in
theorem ggX1_leak_X1_allTensions : GoodIn wsX1_leak wsX1_allTensions := goodIn_r _ [12, 13, 14, 15, 16, 17, 18, 19, 20, 21, 22, 23, 24] (by decide +kernel) (by decide +kernel)
set_option maxRecDepth 20000 in
theorem gX1_leak_X1_allTensions : GoodIn wsX1_leak (wsV RX1 59 RX1 yX1_allTensions wsX1_allTensions) := goodIn_app (goodIn_of _ (by decide +kernel)) ggX1_leak_X1_allTensions
theorem dX1_leak_0 : decode cX1_leak 0 = .ok (.aload_n 0, 1) := by decide +kernel
theorem dX1_leak_1 : decode cX1_leak 1 = .ok (.getfield 18, 3) := by decide +kernel
theorem dX1_leak_4 : decode cX1_leak 4 = .ok (.ifCond .ne 5, 3) := by decide +kernel
theorem dX1_leak_7 : decode cX1_leak 7 = .ok (.iconst 0, 1) := by decide +kernel
theorem dX1_leak_8 : decode cX1_leak 8 = .ok (.ireturn, 1) := by decide +kernel
theorem dX1_leak_9 : decode cX1_leak 9 = .ok (.iconst 0, 1) := by decide +kernel
theorem dX1_leak_10 : decode cX1_leak 10 = .ok (.bipush 30, 2) := by decide +kernel
theorem dX1_leak_12 : decode cX1_leak 12 = .ok (.bipush 10, 2) := by decide +kernel
theorem dX1_leak_14 : decode cX1_leak 14 = .ok (.aload_n 0, 1) := by decide +kernel
theorem dX1_leak_15 : decode cX1_leak 15 = .ok (.getfield 22, 3) := by decide +kernel
theorem dX1_leak_18 : decode cX1_leak 18 = .ok (.imul, 1) := by decide +kernel
theorem dX1_leak_19 : decode cX1_leak 19 = .ok (.iadd, 1) := by decide +kernel
theorem dX1_leak_20 : decode cX1_leak 20 = .ok (.iconst 2, 1) := by decide +kernel
theorem dX1_leak_21 : decode cX1_leak 21 = .ok (.aload_n 0, 1) := by decide +kernel
theorem dX1_leak_22 : decode cX1_leak 22 = .ok (.invokevirtual 59, 3) := by decide +kernel
theorem dX1_leak_25 : decode cX1_leak 25 = .ok (.imul, 1) := by decide +kernel
theorem dX1_leak_26 : decode cX1_leak 26 = .ok (.isub, 1) := by decide +kernel
theorem dX1_leak_27 : decode cX1_leak 27 = .ok (.aload_n 0, 1) := by decide +kernel
theorem dX1_leak_28 : decode cX1_leak 28 = .ok (.getfield 29, 3) := by decide +kernel
theorem dX1_leak_31 : decode cX1_leak 31 = .ok (.isub, 1) := by decide +kernel
theorem dX1_leak_32 : decode cX1_leak 32 = .ok (.invokestatic 63, 3) := by decide +kernel
theorem dX1_leak_35 : decode cX1_leak 35 = .ok (.ireturn, 1) := by decide +kernel
set_option maxRecDepth 20000 in
theorem ggX1_tasteOfOak_X1_held : GoodIn wsX1_tasteOfOak wsX1_held := goodIn_r _ [12, 13, 14, 15, 16, 17, 18, 19, 20, 21, 22, 23, 24] (by decide +kernel) (by decide +kernel)
set_option maxRecDepth 20000 in
theorem gX1_tasteOfOak_X1_held : GoodIn wsX1_tasteOfOak (wsV RX1 69 RX1 yX1_held wsX1_held) := goodIn_app (goodIn_of _ (by decide +kernel)) ggX1_tasteOfOak_X1_held
theorem dX1_tasteOfOak_0 : decode cX1_tasteOfOak 0 = .ok (.aload_n 0, 1) := by decide +kernel
theorem dX1_tasteOfOak_1 : decode cX1_tasteOfOak 1 = .ok (.invokevirtual 69, 3) := by decide +kernel
theorem dX1_tasteOfOak_4 : decode cX1_tasteOfOak 4 = .ok (.istore_n 1, 1) := by decide +kernel
theorem dX1_tasteOfOak_5 : decode cX1_tasteOfOak 5 = .ok (.iload_n 1, 1) := by decide +kernel
theorem dX1_tasteOfOak_6 : decode cX1_tasteOfOak 6 = .ok (.ifCond .ne 5, 3) := by decide +kernel
theorem dX1_tasteOfOak_9 : decode cX1_tasteOfOak 9 = .ok (.iconst 0, 1) := by decide +kernel
theorem dX1_tasteOfOak_10 : decode cX1_tasteOfOak 10 = .ok (.ireturn, 1) := by decide +kernel
theorem dX1_tasteOfOak_11 : decode cX1_tasteOfOak 11 = .ok (.ldc2_w 72, 3) := by decide +kernel
theorem dX1_tasteOfOak_14 : decode cX1_tasteOfOak 14 = .ok (.aload_n 0, 1) := by decide +kernel
theorem dX1_tasteOfOak_15 : decode cX1_tasteOfOak 15 = .ok (.getfield 38, 3) := by decide +kernel
theorem dX1_tasteOfOak_18 : decode cX1_tasteOfOak 18 = .ok (.i2l, 1) := by decide +kernel
theorem dX1_tasteOfOak_19 : decode cX1_tasteOfOak 19 = .ok (.ldc2_w 74, 3) := by decide +kernel
theorem dX1_tasteOfOak_22 : decode cX1_tasteOfOak 22 = .ok (.lmul, 1) := by decide +kernel
theorem dX1_tasteOfOak_23 : decode cX1_tasteOfOak 23 = .ok (.iload_n 1, 1) := by decide +kernel
theorem dX1_tasteOfOak_24 : decode cX1_tasteOfOak 24 = .ok (.i2l, 1) := by decide +kernel
theorem dX1_tasteOfOak_25 : decode cX1_tasteOfOak 25 = .ok (.ldiv, 1) := by decide +kernel
theorem dX1_tasteOfOak_26 : decode cX1_tasteOfOak 26 = .ok (.invokestatic 76, 3) := by decide +kernel
theorem dX1_tasteOfOak_29 : decode cX1_tasteOfOak 29 = .ok (.l2i, 1) := by decide +kernel
theorem dX1_tasteOfOak_30 : decode cX1_tasteOfOak 30 = .ok (.ireturn, 1) := by decide +kernel
set_option maxRecDepth 20000 in
theorem ggX1_canBeBlended_X1_held : GoodIn wsX1_canBeBlended wsX1_held := goodIn_r _ [7, 2, 8, 9, 10, 11, 12, 13, 14, 15, 16, 17, 18] (by decide +kernel) (by decide +kernel)
set_option maxRecDepth 20000 in
theorem gX1_canBeBlended_X1_held : GoodIn wsX1_canBeBlended (wsV RX1 69 RX1 yX1_held wsX1_held) := goodIn_app (goodIn_of _ (by decide +kernel)) ggX1_canBeBlended_X1_held
theorem dX1_canBeBlended_0 : decode cX1_canBeBlended 0 = .ok (.aload_n 0, 1) := by decide +kernel
theorem dX1_canBeBlended_1 : decode cX1_canBeBlended 1 = .ok (.getfield 18, 3) := by decide +kernel
theorem dX1_canBeBlended_4 : decode cX1_canBeBlended 4 = .ok (.ifCond .eq 23, 3) := by decide +kernel
theorem dX1_canBeBlended_7 : decode cX1_canBeBlended 7 = .ok (.aload_n 0, 1) := by decide +kernel
theorem dX1_canBeBlended_8 : decode cX1_canBeBlended 8 = .ok (.invokevirtual 69, 3) := by decide +kernel
theorem dX1_canBeBlended_11 : decode cX1_canBeBlended 11 = .ok (.ifCond .le 16, 3) := by decide +kernel
theorem dX1_canBeBlended_14 : decode cX1_canBeBlended 14 = .ok (.aload_n 0, 1) := by decide +kernel
theorem dX1_canBeBlended_15 : decode cX1_canBeBlended 15 = .ok (.getfield 15, 3) := by decide +kernel
theorem dX1_canBeBlended_18 : decode cX1_canBeBlended 18 = .ok (.iconst 4, 1) := by decide +kernel
theorem dX1_canBeBlended_19 : decode cX1_canBeBlended 19 = .ok (.iaload, 1) := by decide +kernel
theorem dX1_canBeBlended_20 : decode cX1_canBeBlended 20 = .ok (.ifCond .ne 7, 3) := by decide +kernel
theorem dX1_canBeBlended_23 : decode cX1_canBeBlended 23 = .ok (.iconst 1, 1) := by decide +kernel
theorem dX1_canBeBlended_24 : decode cX1_canBeBlended 24 = .ok (.goto 4, 3) := by decide +kernel
theorem dX1_canBeBlended_27 : decode cX1_canBeBlended 27 = .ok (.iconst 0, 1) := by decide +kernel
theorem dX1_canBeBlended_28 : decode cX1_canBeBlended 28 = .ok (.ireturn, 1) := by decide +kernel
set_option maxRecDepth 20000 in
theorem ggX1_countFilling_X1_held : GoodIn wsX1_countFilling wsX1_held := goodIn_r _ [6, 7, 8, 9, 10, 11, 12, 13, 14, 15, 16, 17, 18] (by decide +kernel) (by decide +kernel)
set_option maxRecDepth 20000 in
theorem gX1_countFilling_X1_held : GoodIn wsX1_countFilling (wsV RX1 69 RX1 yX1_held wsX1_held) := goodIn_app (goodIn_of _ (by decide +kernel)) ggX1_countFilling_X1_held
theorem dX1_countFilling_0 : decode cX1_countFilling 0 = .ok (.aload_n 0, 1) := by decide +kernel
theorem dX1_countFilling_1 : decode cX1_countFilling 1 = .ok (.invokevirtual 69, 3) := by decide +kernel
theorem dX1_countFilling_4 : decode cX1_countFilling 4 = .ok (.ifCond .ne 13, 3) := by decide +kernel
theorem dX1_countFilling_7 : decode cX1_countFilling 7 = .ok (.aload_n 0, 1) := by decide +kernel
theorem dX1_countFilling_8 : decode cX1_countFilling 8 = .ok (.dup, 1) := by decide +kernel
theorem dX1_countFilling_9 : decode cX1_countFilling 9 = .ok (.getfield 32, 3) := by decide +kernel
theorem dX1_countFilling_12 : decode cX1_countFilling 12 = .ok (.iconst 1, 1) := by decide +kernel
theorem dX1_countFilling_13 : decode cX1_countFilling 13 = .ok (.iadd, 1) := by decide +kernel
theorem dX1_countFilling_14 : decode cX1_countFilling 14 = .ok (.putfield 32, 3) := by decide +kernel
theorem dX1_countFilling_17 : decode cX1_countFilling 17 = .ok (.return_, 1) := by decide +kernel
set_option maxRecDepth 20000 in
theorem ggX1_live_X1_takeOak : GoodIn wsX1_live wsX1_takeOak := goodIn_r _ [6, 7, 8, 9, 10, 11, 5, 12, 13, 61, 62, 63, 64, 65, 66, 67, 68, 69, 70, 71] (by decide +kernel) (by decide +kernel)
set_option maxRecDepth 20000 in
theorem gX1_live_X1_takeOak : GoodIn wsX1_live (wsV RX1 80 RX1 yX1_takeOak wsX1_takeOak) := goodIn_app (goodIn_of _ (by decide +kernel)) ggX1_live_X1_takeOak
set_option maxRecDepth 20000 in
theorem ggX1_live_X1_swell : GoodIn wsX1_live wsX1_swell := goodIn_r _ [17, 18, 19, 20, 21, 22, 23, 24, 25, 26, 9, 10, 11, 5, 12, 13, 61, 62, 63, 64, 65, 66, 67, 68, 69, 70, 71] (by decide +kernel) (by decide +kernel)
set_option maxRecDepth 20000 in
theorem gX1_live_X1_swell : GoodIn wsX1_live (wsV RX1 83 RX1 yX1_swell wsX1_swell) := goodIn_app (goodIn_of _ (by decide +kernel)) ggX1_live_X1_swell
set_option maxRecDepth 20000 in
theorem ggX1_live_X1_leak : GoodIn wsX1_live wsX1_leak := goodIn_r _ [30, 1, 31, 19, 24, 25, 22, 26, 32, 33, 34, 5, 35, 36, 61, 62, 63, 64, 65, 66, 67, 68, 69, 70, 71] (by decide +kernel) (by decide +kernel)
set_option maxRecDepth 20000 in
theorem gX1_live_X1_leak : GoodIn wsX1_live (wsV RX1 86 RX1 yX1_leak wsX1_leak) := goodIn_app (goodIn_of _ (by decide +kernel)) ggX1_live_X1_leak
set_option maxRecDepth 20000 in
theorem ggX1_live_X1_lose : GoodIn wsX1_live wsX1_lose := goodIn_r _ [40, 13, 41, 42, 43, 22, 44, 45, 46, 47, 61, 62, 63, 64, 65, 66, 67, 68, 69, 70, 71] (by decide +kernel) (by decide +kernel)
set_option maxRecDepth 20000 in
theorem gX1_live_X1_lose : GoodIn wsX1_live (wsV RX1 89 RX1 yX1_lose wsX1_lose) := goodIn_app (goodIn_of _ (by decide +kernel)) ggX1_live_X1_lose
set_option maxRecDepth 20000 in
theorem ggX1_live_X1_takeAir : GoodIn wsX1_live wsX1_takeAir := goodIn_r _ [51, 18, 52, 13, 9, 10, 11, 5, 12, 53, 54, 55, 56, 61, 62, 63, 64, 65, 66, 67, 68, 69, 70, 71] (by decide +kernel) (by decide +kernel)
set_option maxRecDepth 20000 in
theorem gX1_live_X1_takeAir : GoodIn wsX1_live (wsV RX1 93 RX1 yX1_takeAir wsX1_takeAir) := goodIn_app (goodIn_of _ (by decide +kernel)) ggX1_live_X1_takeAir
set_option maxRecDepth 20000 in
theorem ggX1_live_X1_loosen : GoodIn wsX1_live wsX1_loosen := goodIn_r _ [60, 36, 24, 25, 22, 26, 61, 62, 63, 64, 65, 66, 67, 68, 69, 70, 71] (by decide +kernel) (by decide +kernel)
set_option maxRecDepth 20000 in
theorem gX1_live_X1_loosen : GoodIn wsX1_live (wsV RX1 96 RX1 yX1_loosen wsX1_loosen) := goodIn_app (goodIn_of _ (by decide +kernel)) ggX1_live_X1_loosen
theorem dX1_live_0 : decode cX1_live 0 = .ok (.aload_n 0, 1) := by decide +kernel
theorem dX1_live_1 : decode cX1_live 1 = .ok (.getfield 18, 3) := by decide +kernel
theorem dX1_live_4 : decode cX1_live 4 = .ok (.ifCond .ne 5, 3) := by decide +kernel
theorem dX1_live_7 : decode cX1_live 7 = .ok (.iconst 0, 1) := by decide +kernel
theorem dX1_live_8 : decode cX1_live 8 = .ok (.ireturn, 1) := by decide +kernel
theorem dX1_live_9 : decode cX1_live 9 = .ok (.aload_n 0, 1) := by decide +kernel
theorem dX1_live_10 : decode cX1_live 10 = .ok (.invokevirtual 80, 3) := by decide +kernel
theorem dX1_live_13 : decode cX1_live 13 = .ok (.aload_n 0, 1) := by decide +kernel
theorem dX1_live_14 : decode cX1_live 14 = .ok (.invokevirtual 83, 3) := by decide +kernel
theorem dX1_live_17 : decode cX1_live 17 = .ok (.aload_n 0, 1) := by decide +kernel
theorem dX1_live_18 : decode cX1_live 18 = .ok (.aload_n 0, 1) := by decide +kernel
theorem dX1_live_19 : decode cX1_live 19 = .ok (.invokevirtual 86, 3) := by decide +kernel
theorem dX1_live_22 : decode cX1_live 22 = .ok (.iconst 3, 1) := by decide +kernel
theorem dX1_live_23 : decode cX1_live 23 = .ok (.iadd, 1) := by decide +kernel
theorem dX1_live_24 : decode cX1_live 24 = .ok (.iload_n 1, 1) := by decide +kernel
theorem dX1_live_25 : decode cX1_live 25 = .ok (.iadd, 1) := by decide +kernel
theorem dX1_live_26 : decode cX1_live 26 = .ok (.invokevirtual 89, 3) := by decide +kernel
theorem dX1_live_29 : decode cX1_live 29 = .ok (.istore_n 3, 1) := by decide +kernel
theorem dX1_live_30 : decode cX1_live 30 = .ok (.aload_n 0, 1) := by decide +kernel
theorem dX1_live_31 : decode cX1_live 31 = .ok (.invokevirtual 93, 3) := by decide +kernel
theorem dX1_live_34 : decode cX1_live 34 = .ok (.iload_n 2, 1) := by decide +kernel
theorem dX1_live_35 : decode cX1_live 35 = .ok (.ifCond .eq 7, 3) := by decide +kernel
theorem dX1_live_38 : decode cX1_live 38 = .ok (.aload_n 0, 1) := by decide +kernel
theorem dX1_live_39 : decode cX1_live 39 = .ok (.invokevirtual 96, 3) := by decide +kernel
theorem dX1_live_42 : decode cX1_live 42 = .ok (.iload_n 3, 1) := by decide +kernel
theorem dX1_live_43 : decode cX1_live 43 = .ok (.ireturn, 1) := by decide +kernel
set_option maxRecDepth 20000 in
theorem ggX1_takeOak_X1_held : GoodIn wsX1_takeOak wsX1_held := goodIn_r _ [7, 8, 9, 10, 11, 12, 13, 14, 15, 16, 17, 18, 19] (by decide +kernel) (by decide +kernel)
set_option maxRecDepth 20000 in
theorem gX1_takeOak_X1_held : GoodIn wsX1_takeOak (wsV RX1 69 RX1 yX1_held wsX1_held) := goodIn_app (goodIn_of _ (by decide +kernel)) ggX1_takeOak_X1_held
theorem dX1_takeOak_0 : decode cX1_takeOak 0 = .ok (.aload_n 0, 1) := by decide +kernel
theorem dX1_takeOak_1 : decode cX1_takeOak 1 = .ok (.invokevirtual 69, 3) := by decide +kernel
theorem dX1_takeOak_4 : decode cX1_takeOak 4 = .ok (.bipush 100, 2) := by decide +kernel
theorem dX1_takeOak_6 : decode cX1_takeOak 6 = .ok (.idiv, 1) := by decide +kernel
theorem dX1_takeOak_7 : decode cX1_takeOak 7 = .ok (.bipush 8, 2) := by decide +kernel
theorem dX1_takeOak_9 : decode cX1_takeOak 9 = .ok (.aload_n 0, 1) := by decide +kernel
theorem dX1_takeOak_10 : decode cX1_takeOak 10 = .ok (.getfield 32, 3) := by decide +kernel
theorem dX1_takeOak_13 : decode cX1_takeOak 13 = .ok (.isub, 1) := by decide +kernel
theorem dX1_takeOak_14 : decode cX1_takeOak 14 = .ok (.imul, 1) := by decide +kernel
theorem dX1_takeOak_15 : decode cX1_takeOak 15 = .ok (.istore_n 1, 1) := by decide +kernel
theorem dX1_takeOak_16 : decode cX1_takeOak 16 = .ok (.iload_n 1, 1) := by decide +kernel
theorem dX1_takeOak_17 : decode cX1_takeOak 17 = .ok (.ifCond .le 13, 3) := by decide +kernel
theorem dX1_takeOak_20 : decode cX1_takeOak 20 = .ok (.aload_n 0, 1) := by decide +kernel
theorem dX1_takeOak_21 : decode cX1_takeOak 21 = .ok (.dup, 1) := by decide +kernel
theorem dX1_takeOak_22 : decode cX1_takeOak 22 = .ok (.getfield 38, 3) := by decide +kernel
theorem dX1_takeOak_25 : decode cX1_takeOak 25 = .ok (.iload_n 1, 1) := by decide +kernel
theorem dX1_takeOak_26 : decode cX1_takeOak 26 = .ok (.iadd, 1) := by decide +kernel
theorem dX1_takeOak_27 : decode cX1_takeOak 27 = .ok (.putfield 38, 3) := by decide +kernel
theorem dX1_takeOak_30 : decode cX1_takeOak 30 = .ok (.return_, 1) := by decide +kernel
set_option maxRecDepth 20000 in
theorem ggX1_swell_X1_held : GoodIn wsX1_swell wsX1_held := goodIn_r _ [14, 15, 16, 17, 18, 19, 20, 21, 22, 23, 24, 25, 26] (by decide +kernel) (by decide +kernel)
set_option maxRecDepth 20000 in
theorem gX1_swell_X1_held : GoodIn wsX1_swell (wsV RX1 69 RX1 yX1_held wsX1_held) := goodIn_app (goodIn_of _ (by decide +kernel)) ggX1_swell_X1_held
theorem dX1_swell_0 : decode cX1_swell 0 = .ok (.iconst 2, 1) := by decide +kernel
theorem dX1_swell_1 : decode cX1_swell 1 = .ok (.aload_n 0, 1) := by decide +kernel
theorem dX1_swell_2 : decode cX1_swell 2 = .ok (.invokevirtual 69, 3) := by decide +kernel
theorem dX1_swell_5 : decode cX1_swell 5 = .ok (.imul, 1) := by decide +kernel
theorem dX1_swell_6 : decode cX1_swell 6 = .ok (.aload_n 0, 1) := by decide +kernel
theorem dX1_swell_7 : decode cX1_swell 7 = .ok (.getfield 50, 3) := by decide +kernel
theorem dX1_swell_10 : decode cX1_swell 10 = .ok (.if_icmp .lt 21, 3) := by decide +kernel
theorem dX1_swell_13 : decode cX1_swell 13 = .ok (.aload_n 0, 1) := by decide +kernel
theorem dX1_swell_14 : decode cX1_swell 14 = .ok (.bipush 20, 2) := by decide +kernel
theorem dX1_swell_16 : decode cX1_swell 16 = .ok (.aload_n 0, 1) := by decide +kernel
theorem dX1_swell_17 : decode cX1_swell 17 = .ok (.getfield 29, 3) := by decide +kernel
theorem dX1_swell_20 : decode cX1_swell 20 = .ok (.iconst 5, 1) := by decide +kernel
theorem dX1_swell_21 : decode cX1_swell 21 = .ok (.iadd, 1) := by decide +kernel
theorem dX1_swell_22 : decode cX1_swell 22 = .ok (.invokestatic 99, 3) := by decide +kernel
theorem dX1_swell_25 : decode cX1_swell 25 = .ok (.putfield 29, 3) := by decide +kernel
theorem dX1_swell_28 : decode cX1_swell 28 = .ok (.goto 17, 3) := by decide +kernel
theorem dX1_swell_31 : decode cX1_swell 31 = .ok (.aload_n 0, 1) := by decide +kernel
theorem dX1_swell_32 : decode cX1_swell 32 = .ok (.iconst 0, 1) := by decide +kernel
theorem dX1_swell_33 : decode cX1_swell 33 = .ok (.aload_n 0, 1) := by decide +kernel
theorem dX1_swell_34 : decode cX1_swell 34 = .ok (.getfield 29, 3) := by decide +kernel
theorem dX1_swell_37 : decode cX1_swell 37 = .ok (.iconst 3, 1) := by decide +kernel
theorem dX1_swell_38 : decode cX1_swell 38 = .ok (.isub, 1) := by decide +kernel
theorem dX1_swell_39 : decode cX1_swell 39 = .ok (.invokestatic 63, 3) := by decide +kernel
theorem dX1_swell_42 : decode cX1_swell 42 = .ok (.putfield 29, 3) := by decide +kernel
theorem dX1_swell_45 : decode cX1_swell 45 = .ok (.return_, 1) := by decide +kernel
theorem dX1_lose_0 : decode cX1_lose 0 = .ok (.iconst 0, 1) := by decide +kernel
theorem dX1_lose_1 : decode cX1_lose 1 = .ok (.istore_n 2, 1) := by decide +kernel
theorem dX1_lose_2 : decode cX1_lose 2 = .ok (.iconst 0, 1) := by decide +kernel
theorem dX1_lose_3 : decode cX1_lose 3 = .ok (.istore_n 3, 1) := by decide +kernel
theorem dX1_lose_4 : decode cX1_lose 4 = .ok (.iload_n 3, 1) := by decide +kernel
theorem dX1_lose_5 : decode cX1_lose 5 = .ok (.iconst 5, 1) := by decide +kernel
theorem dX1_lose_6 : decode cX1_lose 6 = .ok (.if_icmp .ge 65, 3) := by decide +kernel
theorem dX1_lose_9 : decode cX1_lose 9 = .ok (.aload_n 0, 1) := by decide +kernel
theorem dX1_lose_10 : decode cX1_lose 10 = .ok (.getfield 15, 3) := by decide +kernel
theorem dX1_lose_13 : decode cX1_lose 13 = .ok (.iload_n 3, 1) := by decide +kernel
theorem dX1_lose_14 : decode cX1_lose 14 = .ok (.iaload, 1) := by decide +kernel
theorem dX1_lose_15 : decode cX1_lose 15 = .ok (.istore 4, 2) := by decide +kernel
theorem dX1_lose_17 : decode cX1_lose 17 = .ok (.iload 4, 2) := by decide +kernel
theorem dX1_lose_19 : decode cX1_lose 19 = .ok (.ifCond .le 46, 3) := by decide +kernel
theorem dX1_lose_22 : decode cX1_lose 22 = .ok (.iload 4, 2) := by decide +kernel
theorem dX1_lose_24 : decode cX1_lose 24 = .ok (.i2l, 1) := by decide +kernel
theorem dX1_lose_25 : decode cX1_lose 25 = .ok (.iload_n 1, 1) := by decide +kernel
theorem dX1_lose_26 : decode cX1_lose 26 = .ok (.i2l, 1) := by decide +kernel
theorem dX1_lose_27 : decode cX1_lose 27 = .ok (.lmul, 1) := by decide +kernel
theorem dX1_lose_28 : decode cX1_lose 28 = .ok (.ldc2_w 74, 3) := by decide +kernel
theorem dX1_lose_31 : decode cX1_lose 31 = .ok (.ldiv, 1) := by decide +kernel
theorem dX1_lose_32 : decode cX1_lose 32 = .ok (.lstore 5, 2) := by decide +kernel
theorem dX1_lose_34 : decode cX1_lose 34 = .ok (.iload 4, 2) := by decide +kernel
theorem dX1_lose_36 : decode cX1_lose 36 = .ok (.i2l, 1) := by decide +kernel
theorem dX1_lose_37 : decode cX1_lose 37 = .ok (.lconst 1, 1) := by decide +kernel
theorem dX1_lose_38 : decode cX1_lose 38 = .ok (.lload 5, 2) := by decide +kernel
theorem dX1_lose_40 : decode cX1_lose 40 = .ok (.invokestatic 101, 3) := by decide +kernel
theorem dX1_lose_43 : decode cX1_lose 43 = .ok (.invokestatic 76, 3) := by decide +kernel
theorem dX1_lose_46 : decode cX1_lose 46 = .ok (.l2i, 1) := by decide +kernel
theorem dX1_lose_47 : decode cX1_lose 47 = .ok (.istore 7, 2) := by decide +kernel
theorem dX1_lose_49 : decode cX1_lose 49 = .ok (.aload_n 0, 1) := by decide +kernel
theorem dX1_lose_50 : decode cX1_lose 50 = .ok (.getfield 15, 3) := by decide +kernel
theorem dX1_lose_53 : decode cX1_lose 53 = .ok (.iload_n 3, 1) := by decide +kernel
theorem dX1_lose_54 : decode cX1_lose 54 = .ok (.iload 4, 2) := by decide +kernel
theorem dX1_lose_56 : decode cX1_lose 56 = .ok (.iload 7, 2) := by decide +kernel
theorem dX1_lose_58 : decode cX1_lose 58 = .ok (.isub, 1) := by decide +kernel
theorem dX1_lose_59 : decode cX1_lose 59 = .ok (.iastore, 1) := by decide +kernel
theorem dX1_lose_60 : decode cX1_lose 60 = .ok (.iload_n 2, 1) := by decide +kernel
theorem dX1_lose_61 : decode cX1_lose 61 = .ok (.iload 7, 2) := by decide +kernel
theorem dX1_lose_63 : decode cX1_lose 63 = .ok (.iadd, 1) := by decide +kernel
theorem dX1_lose_64 : decode cX1_lose 64 = .ok (.istore_n 2, 1) := by decide +kernel
theorem dX1_lose_65 : decode cX1_lose 65 = .ok (.iinc 3 1, 3) := by decide +kernel
theorem dX1_lose_68 : decode cX1_lose 68 = .ok (.goto (-64), 3) := by decide +kernel
theorem dX1_lose_71 : decode cX1_lose 71 = .ok (.iload_n 2, 1) := by decide +kernel
theorem dX1_lose_72 : decode cX1_lose 72 = .ok (.ireturn, 1) := by decide +kernel
set_option maxRecDepth 20000 in
theorem ggX1_takeAir_X1_held : GoodIn wsX1_takeAir wsX1_held := goodIn_r _ [8, 3, 13, 14, 15, 16, 17, 18, 19, 20, 21, 22, 23] (by decide +kernel) (by decide +kernel)
set_option maxRecDepth 20000 in
theorem gX1_takeAir_X1_held : GoodIn wsX1_takeAir (wsV RX1 69 RX1 yX1_held wsX1_held) := goodIn_app (goodIn_of _ (by decide +kernel)) ggX1_takeAir_X1_held
set_option maxRecDepth 20000 in
theorem ggX1_takeAir_J7_fill_53178 : GoodIn wsX1_takeAir wsJ7_fill_53178 := goodIn_r _ [12] (by decide +kernel) (by decide +kernel)
set_option maxRecDepth 20000 in
theorem gX1_takeAir_J7_fill_53178 : GoodIn wsX1_takeAir (va_wsS RX1 41 yJ7_fill_53178 wsJ7_fill_53178) := goodIn_app (goodIn_of _ (by decide +kernel)) ggX1_takeAir_J7_fill_53178
theorem dX1_takeAir_0 : decode cX1_takeAir 0 = .ok (.aload_n 0, 1) := by decide +kernel
theorem dX1_takeAir_1 : decode cX1_takeAir 1 = .ok (.invokevirtual 69, 3) := by decide +kernel
theorem dX1_takeAir_4 : decode cX1_takeAir 4 = .ok (.istore_n 1, 1) := by decide +kernel
theorem dX1_takeAir_5 : decode cX1_takeAir 5 = .ok (.iload_n 1, 1) := by decide +kernel
theorem dX1_takeAir_6 : decode cX1_takeAir 6 = .ok (.ifCond .le 28, 3) := by decide +kernel
theorem dX1_takeAir_9 : decode cX1_takeAir 9 = .ok (.iconst 5, 1) := by decide +kernel
theorem dX1_takeAir_10 : decode cX1_takeAir 10 = .ok (.iload_n 1, 1) := by decide +kernel
theorem dX1_takeAir_11 : decode cX1_takeAir 11 = .ok (.imul, 1) := by decide +kernel
theorem dX1_takeAir_12 : decode cX1_takeAir 12 = .ok (.iconst 4, 1) := by decide +kernel
theorem dX1_takeAir_13 : decode cX1_takeAir 13 = .ok (.aload_n 0, 1) := by decide +kernel
theorem dX1_takeAir_14 : decode cX1_takeAir 14 = .ok (.getfield 50, 3) := by decide +kernel
theorem dX1_takeAir_17 : decode cX1_takeAir 17 = .ok (.imul, 1) := by decide +kernel
theorem dX1_takeAir_18 : decode cX1_takeAir 18 = .ok (.if_icmp .ge 16, 3) := by decide +kernel
theorem dX1_takeAir_21 : decode cX1_takeAir 21 = .ok (.aload_n 0, 1) := by decide +kernel
theorem dX1_takeAir_22 : decode cX1_takeAir 22 = .ok (.dup, 1) := by decide +kernel
theorem dX1_takeAir_23 : decode cX1_takeAir 23 = .ok (.getfield 35, 3) := by decide +kernel
theorem dX1_takeAir_26 : decode cX1_takeAir 26 = .ok (.iconst 1, 1) := by decide +kernel
theorem dX1_takeAir_27 : decode cX1_takeAir 27 = .ok (.iadd, 1) := by decide +kernel
theorem dX1_takeAir_28 : decode cX1_takeAir 28 = .ok (.putfield 35, 3) := by decide +kernel
theorem dX1_takeAir_31 : decode cX1_takeAir 31 = .ok (.goto 8, 3) := by decide +kernel
theorem dX1_takeAir_34 : decode cX1_takeAir 34 = .ok (.aload_n 0, 1) := by decide +kernel
theorem dX1_takeAir_35 : decode cX1_takeAir 35 = .ok (.iconst 0, 1) := by decide +kernel
theorem dX1_takeAir_36 : decode cX1_takeAir 36 = .ok (.putfield 35, 3) := by decide +kernel
theorem dX1_takeAir_39 : decode cX1_takeAir 39 = .ok (.aload_n 0, 1) := by decide +kernel
theorem dX1_takeAir_40 : decode cX1_takeAir 40 = .ok (.getfield 35, 3) := by decide +kernel
theorem dX1_takeAir_43 : decode cX1_takeAir 43 = .ok (.bipush 6, 2) := by decide +kernel
theorem dX1_takeAir_45 : decode cX1_takeAir 45 = .ok (.if_icmp .ne 23, 3) := by decide +kernel
theorem dX1_takeAir_48 : decode cX1_takeAir 48 = .ok (.aload_n 0, 1) := by decide +kernel
theorem dX1_takeAir_49 : decode cX1_takeAir 49 = .ok (.getfield 15, 3) := by decide +kernel
theorem dX1_takeAir_52 : decode cX1_takeAir 52 = .ok (.iconst 0, 1) := by decide +kernel
theorem dX1_takeAir_53 : decode cX1_takeAir 53 = .ok (.invokestatic 41, 3) := by decide +kernel
theorem dX1_takeAir_56 : decode cX1_takeAir 56 = .ok (.aload_n 0, 1) := by decide +kernel
theorem dX1_takeAir_57 : decode cX1_takeAir 57 = .ok (.getfield 15, 3) := by decide +kernel
theorem dX1_takeAir_60 : decode cX1_takeAir 60 = .ok (.iconst 4, 1) := by decide +kernel
theorem dX1_takeAir_61 : decode cX1_takeAir 61 = .ok (.iload_n 1, 1) := by decide +kernel
theorem dX1_takeAir_62 : decode cX1_takeAir 62 = .ok (.iastore, 1) := by decide +kernel
theorem dX1_takeAir_63 : decode cX1_takeAir 63 = .ok (.aload_n 0, 1) := by decide +kernel
theorem dX1_takeAir_64 : decode cX1_takeAir 64 = .ok (.iconst 0, 1) := by decide +kernel
theorem dX1_takeAir_65 : decode cX1_takeAir 65 = .ok (.putfield 35, 3) := by decide +kernel
theorem dX1_takeAir_68 : decode cX1_takeAir 68 = .ok (.return_, 1) := by decide +kernel
theorem dX1_loosen_0 : decode cX1_loosen 0 = .ok (.iconst 0, 1) := by decide +kernel
theorem dX1_loosen_1 : decode cX1_loosen 1 = .ok (.istore_n 1, 1) := by decide +kernel
theorem dX1_loosen_2 : decode cX1_loosen 2 = .ok (.iload_n 1, 1) := by decide +kernel
theorem dX1_loosen_3 : decode cX1_loosen 3 = .ok (.bipush 8, 2) := by decide +kernel
theorem dX1_loosen_5 : decode cX1_loosen 5 = .ok (.if_icmp .ge 27, 3) := by decide +kernel
theorem dX1_loosen_8 : decode cX1_loosen 8 = .ok (.aload_n 0, 1) := by decide +kernel
theorem dX1_loosen_9 : decode cX1_loosen 9 = .ok (.getfield 9, 3) := by decide +kernel
theorem dX1_loosen_12 : decode cX1_loosen 12 = .ok (.iload_n 1, 1) := by decide +kernel
theorem dX1_loosen_13 : decode cX1_loosen 13 = .ok (.iconst 0, 1) := by decide +kernel
theorem dX1_loosen_14 : decode cX1_loosen 14 = .ok (.aload_n 0, 1) := by decide +kernel
theorem dX1_loosen_15 : decode cX1_loosen 15 = .ok (.getfield 9, 3) := by decide +kernel
theorem dX1_loosen_18 : decode cX1_loosen 18 = .ok (.iload_n 1, 1) := by decide +kernel
theorem dX1_loosen_19 : decode cX1_loosen 19 = .ok (.iaload, 1) := by decide +kernel
theorem dX1_loosen_20 : decode cX1_loosen 20 = .ok (.iconst 1, 1) := by decide +kernel
theorem dX1_loosen_21 : decode cX1_loosen 21 = .ok (.isub, 1) := by decide +kernel
theorem dX1_loosen_22 : decode cX1_loosen 22 = .ok (.invokestatic 63, 3) := by decide +kernel
theorem dX1_loosen_25 : decode cX1_loosen 25 = .ok (.iastore, 1) := by decide +kernel
theorem dX1_loosen_26 : decode cX1_loosen 26 = .ok (.iinc 1 1, 3) := by decide +kernel
theorem dX1_loosen_29 : decode cX1_loosen 29 = .ok (.goto (-27), 3) := by decide +kernel
theorem dX1_loosen_32 : decode cX1_loosen 32 = .ok (.return_, 1) := by decide +kernel
set_option maxRecDepth 20000 in
theorem ggX1_moveTo_X1_moveLiquid : GoodIn wsX1_moveTo wsX1_moveLiquid := goodIn_r _ [7, 1, 8, 9, 10, 11, 12, 13, 14, 15, 16, 17, 18] (by decide +kernel) (by decide +kernel)
set_option maxRecDepth 20000 in
theorem gX1_moveTo_X1_moveLiquid : GoodIn wsX1_moveTo (wsV RX1 103 RX1 yX1_moveLiquid wsX1_moveLiquid) := goodIn_app (goodIn_of _ (by decide +kernel)) ggX1_moveTo_X1_moveLiquid
theorem dX1_moveTo_0 : decode cX1_moveTo 0 = .ok (.iload_n 3, 1) := by decide +kernel
theorem dX1_moveTo_1 : decode cX1_moveTo 1 = .ok (.ifCond .gt 4, 3) := by decide +kernel
theorem dX1_moveTo_4 : decode cX1_moveTo 4 = .ok (.return_, 1) := by decide +kernel
theorem dX1_moveTo_5 : decode cX1_moveTo 5 = .ok (.iconst 0, 1) := by decide +kernel
theorem dX1_moveTo_6 : decode cX1_moveTo 6 = .ok (.istore 4, 2) := by decide +kernel
theorem dX1_moveTo_8 : decode cX1_moveTo 8 = .ok (.iconst 0, 1) := by decide +kernel
theorem dX1_moveTo_9 : decode cX1_moveTo 9 = .ok (.istore 5, 2) := by decide +kernel
theorem dX1_moveTo_11 : decode cX1_moveTo 11 = .ok (.iload 5, 2) := by decide +kernel
theorem dX1_moveTo_13 : decode cX1_moveTo 13 = .ok (.iconst 5, 1) := by decide +kernel
theorem dX1_moveTo_14 : decode cX1_moveTo 14 = .ok (.if_icmp .ge 42, 3) := by decide +kernel
theorem dX1_moveTo_17 : decode cX1_moveTo 17 = .ok (.aload_n 0, 1) := by decide +kernel
theorem dX1_moveTo_18 : decode cX1_moveTo 18 = .ok (.getfield 15, 3) := by decide +kernel
theorem dX1_moveTo_21 : decode cX1_moveTo 21 = .ok (.iload 5, 2) := by decide +kernel
theorem dX1_moveTo_23 : decode cX1_moveTo 23 = .ok (.iaload, 1) := by decide +kernel
theorem dX1_moveTo_24 : decode cX1_moveTo 24 = .ok (.i2l, 1) := by decide +kernel
theorem dX1_moveTo_25 : decode cX1_moveTo 25 = .ok (.iload_n 2, 1) := by decide +kernel
theorem dX1_moveTo_26 : decode cX1_moveTo 26 = .ok (.i2l, 1) := by decide +kernel
theorem dX1_moveTo_27 : decode cX1_moveTo 27 = .ok (.lmul, 1) := by decide +kernel
theorem dX1_moveTo_28 : decode cX1_moveTo 28 = .ok (.iload_n 3, 1) := by decide +kernel
theorem dX1_moveTo_29 : decode cX1_moveTo 29 = .ok (.i2l, 1) := by decide +kernel
theorem dX1_moveTo_30 : decode cX1_moveTo 30 = .ok (.ldiv, 1) := by decide +kernel
theorem dX1_moveTo_31 : decode cX1_moveTo 31 = .ok (.l2i, 1) := by decide +kernel
theorem dX1_moveTo_32 : decode cX1_moveTo 32 = .ok (.istore 6, 2) := by decide +kernel
theorem dX1_moveTo_34 : decode cX1_moveTo 34 = .ok (.aload_n 0, 1) := by decide +kernel
theorem dX1_moveTo_35 : decode cX1_moveTo 35 = .ok (.aload_n 1, 1) := by decide +kernel
theorem dX1_moveTo_36 : decode cX1_moveTo 36 = .ok (.iload 5, 2) := by decide +kernel
theorem dX1_moveTo_38 : decode cX1_moveTo 38 = .ok (.iload 6, 2) := by decide +kernel
theorem dX1_moveTo_40 : decode cX1_moveTo 40 = .ok (.invokevirtual 103, 3) := by decide +kernel
theorem dX1_moveTo_43 : decode cX1_moveTo 43 = .ok (.iload 4, 2) := by decide +kernel
theorem dX1_moveTo_45 : decode cX1_moveTo 45 = .ok (.iload 6, 2) := by decide +kernel
theorem dX1_moveTo_47 : decode cX1_moveTo 47 = .ok (.iadd, 1) := by decide +kernel
theorem dX1_moveTo_48 : decode cX1_moveTo 48 = .ok (.istore 4, 2) := by decide +kernel
theorem dX1_moveTo_50 : decode cX1_moveTo 50 = .ok (.iinc 5 1, 3) := by decide +kernel
theorem dX1_moveTo_53 : decode cX1_moveTo 53 = .ok (.goto (-42), 3) := by decide +kernel
theorem dX1_moveTo_56 : decode cX1_moveTo 56 = .ok (.iconst 0, 1) := by decide +kernel
theorem dX1_moveTo_57 : decode cX1_moveTo 57 = .ok (.istore 5, 2) := by decide +kernel
theorem dX1_moveTo_59 : decode cX1_moveTo 59 = .ok (.iload 5, 2) := by decide +kernel
theorem dX1_moveTo_61 : decode cX1_moveTo 61 = .ok (.iconst 5, 1) := by decide +kernel
theorem dX1_moveTo_62 : decode cX1_moveTo 62 = .ok (.if_icmp .ge 36, 3) := by decide +kernel
theorem dX1_moveTo_65 : decode cX1_moveTo 65 = .ok (.iload 4, 2) := by decide +kernel
theorem dX1_moveTo_67 : decode cX1_moveTo 67 = .ok (.iload_n 2, 1) := by decide +kernel
theorem dX1_moveTo_68 : decode cX1_moveTo 68 = .ok (.if_icmp .ge 30, 3) := by decide +kernel
theorem dX1_moveTo_71 : decode cX1_moveTo 71 = .ok (.aload_n 0, 1) := by decide +kernel
theorem dX1_moveTo_72 : decode cX1_moveTo 72 = .ok (.getfield 15, 3) := by decide +kernel
theorem dX1_moveTo_75 : decode cX1_moveTo 75 = .ok (.iload 5, 2) := by decide +kernel
theorem dX1_moveTo_77 : decode cX1_moveTo 77 = .ok (.iaload, 1) := by decide +kernel
theorem dX1_moveTo_78 : decode cX1_moveTo 78 = .ok (.ifCond .le 14, 3) := by decide +kernel
theorem dX1_moveTo_81 : decode cX1_moveTo 81 = .ok (.aload_n 0, 1) := by decide +kernel
theorem dX1_moveTo_82 : decode cX1_moveTo 82 = .ok (.aload_n 1, 1) := by decide +kernel
theorem dX1_moveTo_83 : decode cX1_moveTo 83 = .ok (.iload 5, 2) := by decide +kernel
theorem dX1_moveTo_85 : decode cX1_moveTo 85 = .ok (.iconst 1, 1) := by decide +kernel
theorem dX1_moveTo_86 : decode cX1_moveTo 86 = .ok (.invokevirtual 103, 3) := by decide +kernel
theorem dX1_moveTo_89 : decode cX1_moveTo 89 = .ok (.iinc 4 1, 3) := by decide +kernel
theorem dX1_moveTo_92 : decode cX1_moveTo 92 = .ok (.iinc 5 1, 3) := by decide +kernel
theorem dX1_moveTo_95 : decode cX1_moveTo 95 = .ok (.goto (-36), 3) := by decide +kernel
theorem dX1_moveTo_98 : decode cX1_moveTo 98 = .ok (.aload_n 0, 1) := by decide +kernel
theorem dX1_moveTo_99 : decode cX1_moveTo 99 = .ok (.getfield 38, 3) := by decide +kernel
theorem dX1_moveTo_102 : decode cX1_moveTo 102 = .ok (.i2l, 1) := by decide +kernel
theorem dX1_moveTo_103 : decode cX1_moveTo 103 = .ok (.iload_n 2, 1) := by decide +kernel
theorem dX1_moveTo_104 : decode cX1_moveTo 104 = .ok (.i2l, 1) := by decide +kernel
theorem dX1_moveTo_105 : decode cX1_moveTo 105 = .ok (.lmul, 1) := by decide +kernel
theorem dX1_moveTo_106 : decode cX1_moveTo 106 = .ok (.iload_n 3, 1) := by decide +kernel
theorem dX1_moveTo_107 : decode cX1_moveTo 107 = .ok (.i2l, 1) := by decide +kernel
theorem dX1_moveTo_108 : decode cX1_moveTo 108 = .ok (.ldiv, 1) := by decide +kernel
theorem dX1_moveTo_109 : decode cX1_moveTo 109 = .ok (.l2i, 1) := by decide +kernel
theorem dX1_moveTo_110 : decode cX1_moveTo 110 = .ok (.istore 5, 2) := by decide +kernel
theorem dX1_moveTo_112 : decode cX1_moveTo 112 = .ok (.aload_n 0, 1) := by decide +kernel
theorem dX1_moveTo_113 : decode cX1_moveTo 113 = .ok (.dup, 1) := by decide +kernel
theorem dX1_moveTo_114 : decode cX1_moveTo 114 = .ok (.getfield 38, 3) := by decide +kernel
theorem dX1_moveTo_117 : decode cX1_moveTo 117 = .ok (.iload 5, 2) := by decide +kernel
theorem dX1_moveTo_119 : decode cX1_moveTo 119 = .ok (.isub, 1) := by decide +kernel
theorem dX1_moveTo_120 : decode cX1_moveTo 120 = .ok (.putfield 38, 3) := by decide +kernel
theorem dX1_moveTo_123 : decode cX1_moveTo 123 = .ok (.aload_n 1, 1) := by decide +kernel
theorem dX1_moveTo_124 : decode cX1_moveTo 124 = .ok (.dup, 1) := by decide +kernel
theorem dX1_moveTo_125 : decode cX1_moveTo 125 = .ok (.getfield 38, 3) := by decide +kernel
theorem dX1_moveTo_128 : decode cX1_moveTo 128 = .ok (.iload 5, 2) := by decide +kernel
theorem dX1_moveTo_130 : decode cX1_moveTo 130 = .ok (.iadd, 1) := by decide +kernel
theorem dX1_moveTo_131 : decode cX1_moveTo 131 = .ok (.putfield 38, 3) := by decide +kernel
theorem dX1_moveTo_134 : decode cX1_moveTo 134 = .ok (.return_, 1) := by decide +kernel
theorem dX1_moveLiquid_0 : decode cX1_moveLiquid 0 = .ok (.aload_n 0, 1) := by decide +kernel
theorem dX1_moveLiquid_1 : decode cX1_moveLiquid 1 = .ok (.getfield 15, 3) := by decide +kernel
theorem dX1_moveLiquid_4 : decode cX1_moveLiquid 4 = .ok (.iload_n 2, 1) := by decide +kernel
theorem dX1_moveLiquid_5 : decode cX1_moveLiquid 5 = .ok (.dup2, 1) := by decide +kernel
theorem dX1_moveLiquid_6 : decode cX1_moveLiquid 6 = .ok (.iaload, 1) := by decide +kernel
theorem dX1_moveLiquid_7 : decode cX1_moveLiquid 7 = .ok (.iload_n 3, 1) := by decide +kernel
theorem dX1_moveLiquid_8 : decode cX1_moveLiquid 8 = .ok (.isub, 1) := by decide +kernel
theorem dX1_moveLiquid_9 : decode cX1_moveLiquid 9 = .ok (.iastore, 1) := by decide +kernel
theorem dX1_moveLiquid_10 : decode cX1_moveLiquid 10 = .ok (.aload_n 1, 1) := by decide +kernel
theorem dX1_moveLiquid_11 : decode cX1_moveLiquid 11 = .ok (.getfield 15, 3) := by decide +kernel
theorem dX1_moveLiquid_14 : decode cX1_moveLiquid 14 = .ok (.iload_n 2, 1) := by decide +kernel
theorem dX1_moveLiquid_15 : decode cX1_moveLiquid 15 = .ok (.dup2, 1) := by decide +kernel
theorem dX1_moveLiquid_16 : decode cX1_moveLiquid 16 = .ok (.iaload, 1) := by decide +kernel
theorem dX1_moveLiquid_17 : decode cX1_moveLiquid 17 = .ok (.iload_n 3, 1) := by decide +kernel
theorem dX1_moveLiquid_18 : decode cX1_moveLiquid 18 = .ok (.iadd, 1) := by decide +kernel
theorem dX1_moveLiquid_19 : decode cX1_moveLiquid 19 = .ok (.iastore, 1) := by decide +kernel
theorem dX1_moveLiquid_20 : decode cX1_moveLiquid 20 = .ok (.return_, 1) := by decide +kernel
set_option maxRecDepth 20000 in
theorem ggX2_init_X1_init : GoodIn wsX2_init wsX1_init := goodIn_r _ [25, 26, 2, 3, 4, 27, 28, 49, 50, 51, 52, 53, 54, 55, 56, 57, 58, 59] (by decide +kernel) (by decide +kernel)
set_option maxRecDepth 20000 in
theorem gX2_init_X1_init_n34 : GoodIn wsX2_init (wsX1_init) := ggX2_init_X1_init
set_option maxRecDepth 20000 in
theorem ggX2_init_X0_init : GoodIn wsX2_init wsX0_init := goodIn_r _ [30, 31, 2, 3] (by decide +kernel) (by decide +kernel)
set_option maxRecDepth 20000 in
theorem gX2_init_X0_init_n48 : GoodIn wsX2_init (wsX0_init) := ggX2_init_X0_init
theorem dX2_init_0 : decode cX2_init 0 = .ok (.aload_n 0, 1) := by decide +kernel
theorem dX2_init_1 : decode cX2_init 1 = .ok (.invokespecial 1, 3) := by decide +kernel
theorem dX2_init_4 : decode cX2_init 4 = .ok (.aload_n 0, 1) := by decide +kernel
theorem dX2_init_5 : decode cX2_init 5 = .ok (.bipush 60, 2) := by decide +kernel
theorem dX2_init_7 : decode cX2_init 7 = .ok (.newarray .int, 2) := by decide +kernel
theorem dX2_init_9 : decode cX2_init 9 = .ok (.putfield 9, 3) := by decide +kernel
theorem dX2_init_12 : decode cX2_init 12 = .ok (.aload_n 0, 1) := by decide +kernel
theorem dX2_init_13 : decode cX2_init 13 = .ok (.bipush 60, 2) := by decide +kernel
theorem dX2_init_15 : decode cX2_init 15 = .ok (.newarray .int, 2) := by decide +kernel
theorem dX2_init_17 : decode cX2_init 17 = .ok (.putfield 13, 3) := by decide +kernel
theorem dX2_init_20 : decode cX2_init 20 = .ok (.aload_n 0, 1) := by decide +kernel
theorem dX2_init_21 : decode cX2_init 21 = .ok (.bipush 60, 2) := by decide +kernel
theorem dX2_init_23 : decode cX2_init 23 = .ok (.newarray .int, 2) := by decide +kernel
theorem dX2_init_25 : decode cX2_init 25 = .ok (.putfield 16, 3) := by decide +kernel
theorem dX2_init_28 : decode cX2_init 28 = .ok (.aload_n 0, 1) := by decide +kernel
theorem dX2_init_29 : decode cX2_init 29 = .ok (.bipush 6, 2) := by decide +kernel
theorem dX2_init_31 : decode cX2_init 31 = .ok (.newarray .int, 2) := by decide +kernel
theorem dX2_init_33 : decode cX2_init 33 = .ok (.putfield 19, 3) := by decide +kernel
theorem dX2_init_36 : decode cX2_init 36 = .ok (.aload_n 0, 1) := by decide +kernel
theorem dX2_init_37 : decode cX2_init 37 = .ok (.bipush 6, 2) := by decide +kernel
theorem dX2_init_39 : decode cX2_init 39 = .ok (.newarray .int, 2) := by decide +kernel
theorem dX2_init_41 : decode cX2_init 41 = .ok (.putfield 22, 3) := by decide +kernel
theorem dX2_init_44 : decode cX2_init 44 = .ok (.aload_n 0, 1) := by decide +kernel
theorem dX2_init_45 : decode cX2_init 45 = .ok (.bipush 6, 2) := by decide +kernel
theorem dX2_init_47 : decode cX2_init 47 = .ok (.newarray .int, 2) := by decide +kernel
theorem dX2_init_49 : decode cX2_init 49 = .ok (.putfield 25, 3) := by decide +kernel
theorem dX2_init_52 : decode cX2_init 52 = .ok (.aload_n 0, 1) := by decide +kernel
theorem dX2_init_53 : decode cX2_init 53 = .ok (.bipush 12, 2) := by decide +kernel
theorem dX2_init_55 : decode cX2_init 55 = .ok (.anewarray 28, 3) := by decide +kernel
theorem dX2_init_58 : decode cX2_init 58 = .ok (.putfield 30, 3) := by decide +kernel
theorem dX2_init_61 : decode cX2_init 61 = .ok (.aload_n 0, 1) := by decide +kernel
theorem dX2_init_62 : decode cX2_init 62 = .ok (.new 28, 3) := by decide +kernel
theorem dX2_init_65 : decode cX2_init 65 = .ok (.dup, 1) := by decide +kernel
theorem dX2_init_66 : decode cX2_init 66 = .ok (.invokespecial 34, 3) := by decide +kernel
theorem dX2_init_69 : decode cX2_init 69 = .ok (.putfield 35, 3) := by decide +kernel
theorem dX2_init_72 : decode cX2_init 72 = .ok (.aload_n 0, 1) := by decide +kernel
theorem dX2_init_73 : decode cX2_init 73 = .ok (.sipush 1505, 3) := by decide +kernel
theorem dX2_init_76 : decode cX2_init 76 = .ok (.newarray .long, 2) := by decide +kernel
theorem dX2_init_78 : decode cX2_init 78 = .ok (.putfield 39, 3) := by decide +kernel
theorem dX2_init_81 : decode cX2_init 81 = .ok (.aload_n 0, 1) := by decide +kernel
theorem dX2_init_82 : decode cX2_init 82 = .ok (.sipush 1505, 3) := by decide +kernel
theorem dX2_init_85 : decode cX2_init 85 = .ok (.newarray .int, 2) := by decide +kernel
theorem dX2_init_87 : decode cX2_init 87 = .ok (.putfield 43, 3) := by decide +kernel
theorem dX2_init_90 : decode cX2_init 90 = .ok (.aload_n 0, 1) := by decide +kernel
theorem dX2_init_91 : decode cX2_init 91 = .ok (.new 46, 3) := by decide +kernel
theorem dX2_init_94 : decode cX2_init 94 = .ok (.dup, 1) := by decide +kernel
theorem dX2_init_95 : decode cX2_init 95 = .ok (.invokespecial 48, 3) := by decide +kernel
theorem dX2_init_98 : decode cX2_init 98 = .ok (.putfield 49, 3) := by decide +kernel
theorem dX2_init_101 : decode cX2_init 101 = .ok (.aload_n 0, 1) := by decide +kernel
theorem dX2_init_102 : decode cX2_init 102 = .ok (.iconst 2, 1) := by decide +kernel
theorem dX2_init_103 : decode cX2_init 103 = .ok (.putfield 53, 3) := by decide +kernel
theorem dX2_init_106 : decode cX2_init 106 = .ok (.iconst 0, 1) := by decide +kernel
theorem dX2_init_107 : decode cX2_init 107 = .ok (.istore_n 1, 1) := by decide +kernel
theorem dX2_init_108 : decode cX2_init 108 = .ok (.iload_n 1, 1) := by decide +kernel
theorem dX2_init_109 : decode cX2_init 109 = .ok (.bipush 12, 2) := by decide +kernel
theorem dX2_init_111 : decode cX2_init 111 = .ok (.if_icmp .ge 22, 3) := by decide +kernel
theorem dX2_init_114 : decode cX2_init 114 = .ok (.aload_n 0, 1) := by decide +kernel
theorem dX2_init_115 : decode cX2_init 115 = .ok (.getfield 30, 3) := by decide +kernel
theorem dX2_init_118 : decode cX2_init 118 = .ok (.iload_n 1, 1) := by decide +kernel
theorem dX2_init_119 : decode cX2_init 119 = .ok (.new 28, 3) := by decide +kernel
end
section
theorem dX2_init_122 : decode cX2_init 122 = .ok (.dup, 1) := by decide +kernel
theorem dX2_init_123 : decode cX2_init 123 = .ok (.invokespecial 34, 3) := by decide +kernel
theorem dX2_init_126 : decode cX2_init 126 = .ok (.aastore, 1) := by decide +kernel
theorem dX2_init_127 : decode cX2_init 127 = .ok (.iinc 1 1, 3) := by decide +kernel
theorem dX2_init_130 : decode cX2_init 130 = .ok (.goto (-22), 3) := by decide +kernel
theorem dX2_init_133 : decode cX2_init 133 = .ok (.return_, 1) := by decide +kernel
theorem dX2_addStave_0 : decode cX2_addStave 0 = .ok (.iload_n 1, 1) := by decide +kernel
theorem dX2_addStave_1 : decode cX2_addStave 1 = .ok (.bipush 20, 2) := by decide +kernel
theorem dX2_addStave_3 : decode cX2_addStave 3 = .ok (.if_icmp .lt 9, 3) := by decide +kernel
theorem dX2_addStave_6 : decode cX2_addStave 6 = .ok (.iload_n 1, 1) := by decide +kernel
theorem dX2_addStave_7 : decode cX2_addStave 7 = .ok (.bipush 120, 2) := by decide +kernel
theorem dX2_addStave_9 : decode cX2_addStave 9 = .ok (.if_icmp .le 13, 3) := by decide +kernel
theorem dX2_addStave_12 : decode cX2_addStave 12 = .ok (.new 57, 3) := by decide +kernel
theorem dX2_addStave_15 : decode cX2_addStave 15 = .ok (.dup, 1) := by decide +kernel
theorem dX2_addStave_16 : decode cX2_addStave 16 = .ok (.ldc 59, 2) := by decide +kernel
theorem dX2_addStave_18 : decode cX2_addStave 18 = .ok (.invokespecial 61, 3) := by decide +kernel
theorem dX2_addStave_21 : decode cX2_addStave 21 = .ok (.athrow, 1) := by decide +kernel
theorem dX2_addStave_22 : decode cX2_addStave 22 = .ok (.iload_n 2, 1) := by decide +kernel
theorem dX2_addStave_23 : decode cX2_addStave 23 = .ok (.ifCond .lt 9, 3) := by decide +kernel
theorem dX2_addStave_26 : decode cX2_addStave 26 = .ok (.iload_n 2, 1) := by decide +kernel
theorem dX2_addStave_27 : decode cX2_addStave 27 = .ok (.bipush 100, 2) := by decide +kernel
theorem dX2_addStave_29 : decode cX2_addStave 29 = .ok (.if_icmp .le 13, 3) := by decide +kernel
theorem dX2_addStave_32 : decode cX2_addStave 32 = .ok (.new 57, 3) := by decide +kernel
theorem dX2_addStave_35 : decode cX2_addStave 35 = .ok (.dup, 1) := by decide +kernel
theorem dX2_addStave_36 : decode cX2_addStave 36 = .ok (.ldc 64, 2) := by decide +kernel
theorem dX2_addStave_38 : decode cX2_addStave 38 = .ok (.invokespecial 61, 3) := by decide +kernel
theorem dX2_addStave_41 : decode cX2_addStave 41 = .ok (.athrow, 1) := by decide +kernel
theorem dX2_addStave_42 : decode cX2_addStave 42 = .ok (.aload_n 0, 1) := by decide +kernel
theorem dX2_addStave_43 : decode cX2_addStave 43 = .ok (.getfield 66, 3) := by decide +kernel
theorem dX2_addStave_46 : decode cX2_addStave 46 = .ok (.bipush 60, 2) := by decide +kernel
theorem dX2_addStave_48 : decode cX2_addStave 48 = .ok (.if_icmp .lt 13, 3) := by decide +kernel
theorem dX2_addStave_51 : decode cX2_addStave 51 = .ok (.new 69, 3) := by decide +kernel
theorem dX2_addStave_54 : decode cX2_addStave 54 = .ok (.dup, 1) := by decide +kernel
theorem dX2_addStave_55 : decode cX2_addStave 55 = .ok (.ldc 71, 2) := by decide +kernel
theorem dX2_addStave_57 : decode cX2_addStave 57 = .ok (.invokespecial 73, 3) := by decide +kernel
theorem dX2_addStave_60 : decode cX2_addStave 60 = .ok (.athrow, 1) := by decide +kernel
theorem dX2_addStave_61 : decode cX2_addStave 61 = .ok (.aload_n 0, 1) := by decide +kernel
theorem dX2_addStave_62 : decode cX2_addStave 62 = .ok (.getfield 9, 3) := by decide +kernel
theorem dX2_addStave_65 : decode cX2_addStave 65 = .ok (.aload_n 0, 1) := by decide +kernel
theorem dX2_addStave_66 : decode cX2_addStave 66 = .ok (.getfield 66, 3) := by decide +kernel
theorem dX2_addStave_69 : decode cX2_addStave 69 = .ok (.iload_n 1, 1) := by decide +kernel
theorem dX2_addStave_70 : decode cX2_addStave 70 = .ok (.iastore, 1) := by decide +kernel
theorem dX2_addStave_71 : decode cX2_addStave 71 = .ok (.aload_n 0, 1) := by decide +kernel
theorem dX2_addStave_72 : decode cX2_addStave 72 = .ok (.getfield 13, 3) := by decide +kernel
theorem dX2_addStave_75 : decode cX2_addStave 75 = .ok (.aload_n 0, 1) := by decide +kernel
theorem dX2_addStave_76 : decode cX2_addStave 76 = .ok (.getfield 66, 3) := by decide +kernel
theorem dX2_addStave_79 : decode cX2_addStave 79 = .ok (.iload_n 2, 1) := by decide +kernel
theorem dX2_addStave_80 : decode cX2_addStave 80 = .ok (.iastore, 1) := by decide +kernel
theorem dX2_addStave_81 : decode cX2_addStave 81 = .ok (.aload_n 0, 1) := by decide +kernel
theorem dX2_addStave_82 : decode cX2_addStave 82 = .ok (.getfield 16, 3) := by decide +kernel
theorem dX2_addStave_85 : decode cX2_addStave 85 = .ok (.aload_n 0, 1) := by decide +kernel
theorem dX2_addStave_86 : decode cX2_addStave 86 = .ok (.getfield 66, 3) := by decide +kernel
theorem dX2_addStave_89 : decode cX2_addStave 89 = .ok (.iconst (-1), 1) := by decide +kernel
theorem dX2_addStave_90 : decode cX2_addStave 90 = .ok (.iastore, 1) := by decide +kernel
theorem dX2_addStave_91 : decode cX2_addStave 91 = .ok (.aload_n 0, 1) := by decide +kernel
theorem dX2_addStave_92 : decode cX2_addStave 92 = .ok (.dup, 1) := by decide +kernel
theorem dX2_addStave_93 : decode cX2_addStave 93 = .ok (.getfield 66, 3) := by decide +kernel
theorem dX2_addStave_96 : decode cX2_addStave 96 = .ok (.iconst 1, 1) := by decide +kernel
theorem dX2_addStave_97 : decode cX2_addStave 97 = .ok (.iadd, 1) := by decide +kernel
theorem dX2_addStave_98 : decode cX2_addStave 98 = .ok (.putfield 66, 3) := by decide +kernel
theorem dX2_addStave_101 : decode cX2_addStave 101 = .ok (.aload_n 0, 1) := by decide +kernel
theorem dX2_addStave_102 : decode cX2_addStave 102 = .ok (.getfield 66, 3) := by decide +kernel
theorem dX2_addStave_105 : decode cX2_addStave 105 = .ok (.iconst 1, 1) := by decide +kernel
theorem dX2_addStave_106 : decode cX2_addStave 106 = .ok (.isub, 1) := by decide +kernel
theorem dX2_addStave_107 : decode cX2_addStave 107 = .ok (.ireturn, 1) := by decide +kernel
set_option maxRecDepth 20000 in
theorem ggX2_stave_X2_isStave : GoodIn wsX2_stave wsX2_isStave := goodIn_r _ [10, 11, 12, 13, 14, 15, 16, 17, 18, 19, 20, 21, 22, 23, 24, 25, 26, 27, 28] (by decide +kernel) (by decide +kernel)
set_option maxRecDepth 20000 in
theorem gX2_stave_X2_isStave : GoodIn wsX2_stave (wsV RX2 74 RX2 yX2_isStave wsX2_isStave) := goodIn_app (goodIn_of _ (by decide +kernel)) ggX2_stave_X2_isStave
theorem dX2_stave_0 : decode cX2_stave 0 = .ok (.aload_n 0, 1) := by decide +kernel
theorem dX2_stave_1 : decode cX2_stave 1 = .ok (.iload_n 1, 1) := by decide +kernel
theorem dX2_stave_2 : decode cX2_stave 2 = .ok (.invokevirtual 74, 3) := by decide +kernel
theorem dX2_stave_5 : decode cX2_stave 5 = .ok (.ifCond .ne 13, 3) := by decide +kernel
theorem dX2_stave_8 : decode cX2_stave 8 = .ok (.new 78, 3) := by decide +kernel
theorem dX2_stave_11 : decode cX2_stave 11 = .ok (.dup, 1) := by decide +kernel
theorem dX2_stave_12 : decode cX2_stave 12 = .ok (.ldc 80, 2) := by decide +kernel
theorem dX2_stave_14 : decode cX2_stave 14 = .ok (.invokespecial 82, 3) := by decide +kernel
theorem dX2_stave_17 : decode cX2_stave 17 = .ok (.athrow, 1) := by decide +kernel
theorem dX2_stave_18 : decode cX2_stave 18 = .ok (.iload_n 2, 1) := by decide +kernel
theorem dX2_stave_19 : decode cX2_stave 19 = .ok (.ifCond .lt 8, 3) := by decide +kernel
theorem dX2_stave_22 : decode cX2_stave 22 = .ok (.iload_n 2, 1) := by decide +kernel
theorem dX2_stave_23 : decode cX2_stave 23 = .ok (.iconst 3, 1) := by decide +kernel
theorem dX2_stave_24 : decode cX2_stave 24 = .ok (.if_icmp .lt 13, 3) := by decide +kernel
theorem dX2_stave_27 : decode cX2_stave 27 = .ok (.new 78, 3) := by decide +kernel
theorem dX2_stave_30 : decode cX2_stave 30 = .ok (.dup, 1) := by decide +kernel
theorem dX2_stave_31 : decode cX2_stave 31 = .ok (.ldc 83, 2) := by decide +kernel
theorem dX2_stave_33 : decode cX2_stave 33 = .ok (.invokespecial 82, 3) := by decide +kernel
theorem dX2_stave_36 : decode cX2_stave 36 = .ok (.athrow, 1) := by decide +kernel
theorem dX2_stave_37 : decode cX2_stave 37 = .ok (.iload_n 2, 1) := by decide +kernel
theorem dX2_stave_38 : decode cX2_stave 38 = .ok (.lookupswitch 40 #[(0, 26), (1, 33)], 26) := by decide +kernel
theorem dX2_stave_64 : decode cX2_stave 64 = .ok (.aload_n 0, 1) := by decide +kernel
theorem dX2_stave_65 : decode cX2_stave 65 = .ok (.getfield 9, 3) := by decide +kernel
theorem dX2_stave_68 : decode cX2_stave 68 = .ok (.iload_n 1, 1) := by decide +kernel
theorem dX2_stave_69 : decode cX2_stave 69 = .ok (.iaload, 1) := by decide +kernel
theorem dX2_stave_70 : decode cX2_stave 70 = .ok (.ireturn, 1) := by decide +kernel
theorem dX2_stave_71 : decode cX2_stave 71 = .ok (.aload_n 0, 1) := by decide +kernel
theorem dX2_stave_72 : decode cX2_stave 72 = .ok (.getfield 13, 3) := by decide +kernel
theorem dX2_stave_75 : decode cX2_stave 75 = .ok (.iload_n 1, 1) := by decide +kernel
theorem dX2_stave_76 : decode cX2_stave 76 = .ok (.iaload, 1) := by decide +kernel
theorem dX2_stave_77 : decode cX2_stave 77 = .ok (.ireturn, 1) := by decide +kernel
theorem dX2_stave_78 : decode cX2_stave 78 = .ok (.aload_n 0, 1) := by decide +kernel
theorem dX2_stave_79 : decode cX2_stave 79 = .ok (.getfield 16, 3) := by decide +kernel
theorem dX2_stave_82 : decode cX2_stave 82 = .ok (.iload_n 1, 1) := by decide +kernel
theorem dX2_stave_83 : decode cX2_stave 83 = .ok (.iaload, 1) := by decide +kernel
theorem dX2_stave_84 : decode cX2_stave 84 = .ok (.ireturn, 1) := by decide +kernel
theorem dX2_addSort_0 : decode cX2_addSort 0 = .ok (.iload_n 1, 1) := by decide +kernel
theorem dX2_addSort_1 : decode cX2_addSort 1 = .ok (.sipush 300, 3) := by decide +kernel
theorem dX2_addSort_4 : decode cX2_addSort 4 = .ok (.if_icmp .lt 10, 3) := by decide +kernel
theorem dX2_addSort_7 : decode cX2_addSort 7 = .ok (.iload_n 1, 1) := by decide +kernel
theorem dX2_addSort_8 : decode cX2_addSort 8 = .ok (.sipush 1500, 3) := by decide +kernel
theorem dX2_addSort_11 : decode cX2_addSort 11 = .ok (.if_icmp .le 13, 3) := by decide +kernel
theorem dX2_addSort_14 : decode cX2_addSort 14 = .ok (.new 57, 3) := by decide +kernel
theorem dX2_addSort_17 : decode cX2_addSort 17 = .ok (.dup, 1) := by decide +kernel
theorem dX2_addSort_18 : decode cX2_addSort 18 = .ok (.ldc 85, 2) := by decide +kernel
theorem dX2_addSort_20 : decode cX2_addSort 20 = .ok (.invokespecial 61, 3) := by decide +kernel
theorem dX2_addSort_23 : decode cX2_addSort 23 = .ok (.athrow, 1) := by decide +kernel
theorem dX2_addSort_24 : decode cX2_addSort 24 = .ok (.iload_n 2, 1) := by decide +kernel
theorem dX2_addSort_25 : decode cX2_addSort 25 = .ok (.bipush 100, 2) := by decide +kernel
theorem dX2_addSort_27 : decode cX2_addSort 27 = .ok (.if_icmp .lt 9, 3) := by decide +kernel
theorem dX2_addSort_30 : decode cX2_addSort 30 = .ok (.iload_n 2, 1) := by decide +kernel
theorem dX2_addSort_31 : decode cX2_addSort 31 = .ok (.ldc 87, 2) := by decide +kernel
theorem dX2_addSort_33 : decode cX2_addSort 33 = .ok (.if_icmp .le 13, 3) := by decide +kernel
theorem dX2_addSort_36 : decode cX2_addSort 36 = .ok (.new 57, 3) := by decide +kernel
theorem dX2_addSort_39 : decode cX2_addSort 39 = .ok (.dup, 1) := by decide +kernel
theorem dX2_addSort_40 : decode cX2_addSort 40 = .ok (.ldc 88, 2) := by decide +kernel
theorem dX2_addSort_42 : decode cX2_addSort 42 = .ok (.invokespecial 61, 3) := by decide +kernel
theorem dX2_addSort_45 : decode cX2_addSort 45 = .ok (.athrow, 1) := by decide +kernel
theorem dX2_addSort_46 : decode cX2_addSort 46 = .ok (.iload_n 3, 1) := by decide +kernel
theorem dX2_addSort_47 : decode cX2_addSort 47 = .ok (.iconst 2, 1) := by decide +kernel
theorem dX2_addSort_48 : decode cX2_addSort 48 = .ok (.if_icmp .lt 9, 3) := by decide +kernel
theorem dX2_addSort_51 : decode cX2_addSort 51 = .ok (.iload_n 3, 1) := by decide +kernel
theorem dX2_addSort_52 : decode cX2_addSort 52 = .ok (.bipush 8, 2) := by decide +kernel
theorem dX2_addSort_54 : decode cX2_addSort 54 = .ok (.if_icmp .le 13, 3) := by decide +kernel
theorem dX2_addSort_57 : decode cX2_addSort 57 = .ok (.new 57, 3) := by decide +kernel
theorem dX2_addSort_60 : decode cX2_addSort 60 = .ok (.dup, 1) := by decide +kernel
theorem dX2_addSort_61 : decode cX2_addSort 61 = .ok (.ldc 90, 2) := by decide +kernel
theorem dX2_addSort_63 : decode cX2_addSort 63 = .ok (.invokespecial 61, 3) := by decide +kernel
theorem dX2_addSort_66 : decode cX2_addSort 66 = .ok (.athrow, 1) := by decide +kernel
theorem dX2_addSort_67 : decode cX2_addSort 67 = .ok (.aload_n 0, 1) := by decide +kernel
theorem dX2_addSort_68 : decode cX2_addSort 68 = .ok (.getfield 92, 3) := by decide +kernel
theorem dX2_addSort_71 : decode cX2_addSort 71 = .ok (.bipush 6, 2) := by decide +kernel
theorem dX2_addSort_73 : decode cX2_addSort 73 = .ok (.if_icmp .lt 13, 3) := by decide +kernel
theorem dX2_addSort_76 : decode cX2_addSort 76 = .ok (.new 69, 3) := by decide +kernel
theorem dX2_addSort_79 : decode cX2_addSort 79 = .ok (.dup, 1) := by decide +kernel
theorem dX2_addSort_80 : decode cX2_addSort 80 = .ok (.ldc 95, 2) := by decide +kernel
theorem dX2_addSort_82 : decode cX2_addSort 82 = .ok (.invokespecial 73, 3) := by decide +kernel
theorem dX2_addSort_85 : decode cX2_addSort 85 = .ok (.athrow, 1) := by decide +kernel
theorem dX2_addSort_86 : decode cX2_addSort 86 = .ok (.aload_n 0, 1) := by decide +kernel
theorem dX2_addSort_87 : decode cX2_addSort 87 = .ok (.getfield 19, 3) := by decide +kernel
theorem dX2_addSort_90 : decode cX2_addSort 90 = .ok (.aload_n 0, 1) := by decide +kernel
theorem dX2_addSort_91 : decode cX2_addSort 91 = .ok (.getfield 92, 3) := by decide +kernel
theorem dX2_addSort_94 : decode cX2_addSort 94 = .ok (.iload_n 1, 1) := by decide +kernel
theorem dX2_addSort_95 : decode cX2_addSort 95 = .ok (.iastore, 1) := by decide +kernel
theorem dX2_addSort_96 : decode cX2_addSort 96 = .ok (.aload_n 0, 1) := by decide +kernel
theorem dX2_addSort_97 : decode cX2_addSort 97 = .ok (.getfield 22, 3) := by decide +kernel
theorem dX2_addSort_100 : decode cX2_addSort 100 = .ok (.aload_n 0, 1) := by decide +kernel
theorem dX2_addSort_101 : decode cX2_addSort 101 = .ok (.getfield 92, 3) := by decide +kernel
theorem dX2_addSort_104 : decode cX2_addSort 104 = .ok (.iload_n 2, 1) := by decide +kernel
theorem dX2_addSort_105 : decode cX2_addSort 105 = .ok (.iastore, 1) := by decide +kernel
theorem dX2_addSort_106 : decode cX2_addSort 106 = .ok (.aload_n 0, 1) := by decide +kernel
theorem dX2_addSort_107 : decode cX2_addSort 107 = .ok (.getfield 25, 3) := by decide +kernel
theorem dX2_addSort_110 : decode cX2_addSort 110 = .ok (.aload_n 0, 1) := by decide +kernel
theorem dX2_addSort_111 : decode cX2_addSort 111 = .ok (.getfield 92, 3) := by decide +kernel
theorem dX2_addSort_114 : decode cX2_addSort 114 = .ok (.iload_n 3, 1) := by decide +kernel
theorem dX2_addSort_115 : decode cX2_addSort 115 = .ok (.iastore, 1) := by decide +kernel
theorem dX2_addSort_116 : decode cX2_addSort 116 = .ok (.aload_n 0, 1) := by decide +kernel
theorem dX2_addSort_117 : decode cX2_addSort 117 = .ok (.dup, 1) := by decide +kernel
theorem dX2_addSort_118 : decode cX2_addSort 118 = .ok (.getfield 92, 3) := by decide +kernel
theorem dX2_addSort_121 : decode cX2_addSort 121 = .ok (.iconst 1, 1) := by decide +kernel
theorem dX2_addSort_122 : decode cX2_addSort 122 = .ok (.iadd, 1) := by decide +kernel
theorem dX2_addSort_123 : decode cX2_addSort 123 = .ok (.putfield 92, 3) := by decide +kernel
theorem dX2_addSort_126 : decode cX2_addSort 126 = .ok (.aload_n 0, 1) := by decide +kernel
theorem dX2_addSort_127 : decode cX2_addSort 127 = .ok (.getfield 92, 3) := by decide +kernel
theorem dX2_addSort_130 : decode cX2_addSort 130 = .ok (.iconst 1, 1) := by decide +kernel
theorem dX2_addSort_131 : decode cX2_addSort 131 = .ok (.isub, 1) := by decide +kernel
theorem dX2_addSort_132 : decode cX2_addSort 132 = .ok (.ireturn, 1) := by decide +kernel
set_option maxRecDepth 20000 in
theorem ggX2_choose_X2_isSort : GoodIn wsX2_choose wsX2_isSort := goodIn_r _ [9, 10, 43, 44, 45, 46, 47, 48, 49, 50, 51, 52, 53, 54, 55, 56, 57, 58, 59] (by decide +kernel) (by decide +kernel)
set_option maxRecDepth 20000 in
theorem gX2_choose_X2_isSort : GoodIn wsX2_choose (wsV RX2 97 RX2 yX2_isSort wsX2_isSort) := goodIn_app (goodIn_of _ (by decide +kernel)) ggX2_choose_X2_isSort
set_option maxRecDepth 20000 in
theorem ggX2_choose_X2_findSet : GoodIn wsX2_choose wsX2_findSet := goodIn_r _ [14, 15, 4, 16, 17, 18, 19, 20, 21, 22, 23, 24, 25, 26, 27, 8, 28, 29, 30, 31, 32, 33, 34, 35, 43, 44, 45, 46, 47, 48, 49, 50, 51, 52, 53, 54, 55, 56, 57, 58, 59] (by decide +kernel) (by decide +kernel)
set_option maxRecDepth 20000 in
theorem gX2_choose_X2_findSet : GoodIn wsX2_choose (wsV RX2 104 RX2 yX2_findSet wsX2_findSet) := goodIn_app (goodIn_of _ (by decide +kernel)) ggX2_choose_X2_findSet
set_option maxRecDepth 20000 in
theorem ggX2_choose_X2_memberOf : GoodIn wsX2_choose wsX2_memberOf := goodIn_r _ [39, 17, 40, 41, 8, 42, 43, 44, 45, 46, 47, 48, 49, 50, 51, 52, 53, 54, 55, 56, 57, 58, 59] (by decide +kernel) (by decide +kernel)
set_option maxRecDepth 20000 in
theorem gX2_choose_X2_memberOf : GoodIn wsX2_choose (wsV RX2 110 RX2 yX2_memberOf wsX2_memberOf) := goodIn_app (goodIn_of _ (by decide +kernel)) ggX2_choose_X2_memberOf
theorem dX2_choose_0 : decode cX2_choose 0 = .ok (.aload_n 0, 1) := by decide +kernel
theorem dX2_choose_1 : decode cX2_choose 1 = .ok (.iload_n 1, 1) := by decide +kernel
theorem dX2_choose_2 : decode cX2_choose 2 = .ok (.invokevirtual 97, 3) := by decide +kernel
theorem dX2_choose_5 : decode cX2_choose 5 = .ok (.ifCond .ne 13, 3) := by decide +kernel
theorem dX2_choose_8 : decode cX2_choose 8 = .ok (.new 78, 3) := by decide +kernel
theorem dX2_choose_11 : decode cX2_choose 11 = .ok (.dup, 1) := by decide +kernel
theorem dX2_choose_12 : decode cX2_choose 12 = .ok (.ldc 100, 2) := by decide +kernel
theorem dX2_choose_14 : decode cX2_choose 14 = .ok (.invokespecial 82, 3) := by decide +kernel
theorem dX2_choose_17 : decode cX2_choose 17 = .ok (.athrow, 1) := by decide +kernel
theorem dX2_choose_18 : decode cX2_choose 18 = .ok (.iload_n 2, 1) := by decide +kernel
theorem dX2_choose_19 : decode cX2_choose 19 = .ok (.ifCond .lt 9, 3) := by decide +kernel
theorem dX2_choose_22 : decode cX2_choose 22 = .ok (.iload_n 2, 1) := by decide +kernel
theorem dX2_choose_23 : decode cX2_choose 23 = .ok (.bipush 60, 2) := by decide +kernel
theorem dX2_choose_25 : decode cX2_choose 25 = .ok (.if_icmp .lt 13, 3) := by decide +kernel
theorem dX2_choose_28 : decode cX2_choose 28 = .ok (.new 78, 3) := by decide +kernel
theorem dX2_choose_31 : decode cX2_choose 31 = .ok (.dup, 1) := by decide +kernel
theorem dX2_choose_32 : decode cX2_choose 32 = .ok (.ldc 102, 2) := by decide +kernel
theorem dX2_choose_34 : decode cX2_choose 34 = .ok (.invokespecial 82, 3) := by decide +kernel
theorem dX2_choose_37 : decode cX2_choose 37 = .ok (.athrow, 1) := by decide +kernel
theorem dX2_choose_38 : decode cX2_choose 38 = .ok (.aload_n 0, 1) := by decide +kernel
theorem dX2_choose_39 : decode cX2_choose 39 = .ok (.aload_n 0, 1) := by decide +kernel
theorem dX2_choose_40 : decode cX2_choose 40 = .ok (.getfield 19, 3) := by decide +kernel
theorem dX2_choose_43 : decode cX2_choose 43 = .ok (.iload_n 1, 1) := by decide +kernel
theorem dX2_choose_44 : decode cX2_choose 44 = .ok (.iaload, 1) := by decide +kernel
theorem dX2_choose_45 : decode cX2_choose 45 = .ok (.invokevirtual 104, 3) := by decide +kernel
theorem dX2_choose_48 : decode cX2_choose 48 = .ok (.lstore_n 3, 1) := by decide +kernel
theorem dX2_choose_49 : decode cX2_choose 49 = .ok (.lload_n 3, 1) := by decide +kernel
theorem dX2_choose_50 : decode cX2_choose 50 = .ok (.ldc2_w 108, 3) := by decide +kernel
theorem dX2_choose_53 : decode cX2_choose 53 = .ok (.lcmp, 1) := by decide +kernel
theorem dX2_choose_54 : decode cX2_choose 54 = .ok (.ifCond .ne 7, 3) := by decide +kernel
theorem dX2_choose_57 : decode cX2_choose 57 = .ok (.iconst (-1), 1) := by decide +kernel
theorem dX2_choose_58 : decode cX2_choose 58 = .ok (.goto 9, 3) := by decide +kernel
theorem dX2_choose_61 : decode cX2_choose 61 = .ok (.aload_n 0, 1) := by decide +kernel
theorem dX2_choose_62 : decode cX2_choose 62 = .ok (.lload_n 3, 1) := by decide +kernel
theorem dX2_choose_63 : decode cX2_choose 63 = .ok (.iload_n 2, 1) := by decide +kernel
theorem dX2_choose_64 : decode cX2_choose 64 = .ok (.invokevirtual 110, 3) := by decide +kernel
theorem dX2_choose_67 : decode cX2_choose 67 = .ok (.ireturn, 1) := by decide +kernel
set_option maxRecDepth 20000 in
theorem ggX2_raise_X2_isSort : GoodIn wsX2_raise wsX2_isSort := goodIn_r _ [19, 20, 64, 65, 66, 67, 68, 69, 70, 71, 72, 73, 74, 75, 76, 77, 78, 79, 80] (by decide +kernel) (by decide +kernel)
set_option maxRecDepth 20000 in
theorem gX2_raise_X2_isSort : GoodIn wsX2_raise (wsV RX2 97 RX2 yX2_isSort wsX2_isSort) := goodIn_app (goodIn_of _ (by decide +kernel)) ggX2_raise_X2_isSort
set_option maxRecDepth 20000 in
theorem ggX2_raise_X2_findSet : GoodIn wsX2_raise wsX2_findSet := goodIn_r _ [24, 25, 7, 26, 27, 28, 29, 30, 31, 32, 33, 34, 35, 36, 37, 18, 38, 39, 40, 41, 42, 43, 44, 45, 64, 65, 66, 67, 68, 69, 70, 71, 72, 73, 74, 75, 76, 77, 78, 79, 80] (by decide +kernel) (by decide +kernel)
set_option maxRecDepth 20000 in
theorem gX2_raise_X2_findSet : GoodIn wsX2_raise (wsV RX2 104 RX2 yX2_findSet wsX2_findSet) := goodIn_app (goodIn_of _ (by decide +kernel)) ggX2_raise_X2_findSet
set_option maxRecDepth 20000 in
theorem ggX2_raise_X1_putOnHoops : GoodIn wsX2_raise wsX1_putOnHoops := goodIn_r _ [50, 51, 52, 81, 82, 83, 84, 85, 86, 87, 88, 89, 90, 91] (by decide +kernel) (by decide +kernel)
set_option maxRecDepth 20000 in
theorem gX2_raise_X1_putOnHoops : GoodIn wsX2_raise (wsV RX2 131 RX1 yX1_putOnHoops wsX1_putOnHoops) := goodIn_app (goodIn_of _ (by decide +kernel)) ggX2_raise_X1_putOnHoops
set_option maxRecDepth 20000 in
theorem ggX2_raise_X2_putStavesIn : GoodIn wsX2_raise wsX2_putStavesIn := goodIn_r _ [56, 27, 39, 57, 58, 18, 59, 60, 61, 62, 63, 40, 64, 65, 66, 67, 68, 69, 70, 71, 72, 73, 74, 75, 76, 77, 78, 79, 80] (by decide +kernel) (by decide +kernel)
set_option maxRecDepth 20000 in
theorem gX2_raise_X2_putStavesIn : GoodIn wsX2_raise (wsV RX2 135 RX2 yX2_putStavesIn wsX2_putStavesIn) := goodIn_app (goodIn_of _ (by decide +kernel)) ggX2_raise_X2_putStavesIn
theorem dX2_raise_0 : decode cX2_raise 0 = .ok (.aload_n 0, 1) := by decide +kernel
theorem dX2_raise_1 : decode cX2_raise 1 = .ok (.iload_n 1, 1) := by decide +kernel
theorem dX2_raise_2 : decode cX2_raise 2 = .ok (.invokevirtual 97, 3) := by decide +kernel
theorem dX2_raise_5 : decode cX2_raise 5 = .ok (.ifCond .ne 13, 3) := by decide +kernel
theorem dX2_raise_8 : decode cX2_raise 8 = .ok (.new 78, 3) := by decide +kernel
theorem dX2_raise_11 : decode cX2_raise 11 = .ok (.dup, 1) := by decide +kernel
theorem dX2_raise_12 : decode cX2_raise 12 = .ok (.ldc 100, 2) := by decide +kernel
theorem dX2_raise_14 : decode cX2_raise 14 = .ok (.invokespecial 82, 3) := by decide +kernel
theorem dX2_raise_17 : decode cX2_raise 17 = .ok (.athrow, 1) := by decide +kernel
theorem dX2_raise_18 : decode cX2_raise 18 = .ok (.aload_n 0, 1) := by decide +kernel
theorem dX2_raise_19 : decode cX2_raise 19 = .ok (.getfield 114, 3) := by decide +kernel
theorem dX2_raise_22 : decode cX2_raise 22 = .ok (.bipush 12, 2) := by decide +kernel
theorem dX2_raise_24 : decode cX2_raise 24 = .ok (.if_icmp .lt 13, 3) := by decide +kernel
theorem dX2_raise_27 : decode cX2_raise 27 = .ok (.new 69, 3) := by decide +kernel
theorem dX2_raise_30 : decode cX2_raise 30 = .ok (.dup, 1) := by decide +kernel
theorem dX2_raise_31 : decode cX2_raise 31 = .ok (.ldc 117, 2) := by decide +kernel
theorem dX2_raise_33 : decode cX2_raise 33 = .ok (.invokespecial 73, 3) := by decide +kernel
theorem dX2_raise_36 : decode cX2_raise 36 = .ok (.athrow, 1) := by decide +kernel
theorem dX2_raise_37 : decode cX2_raise 37 = .ok (.aload_n 0, 1) := by decide +kernel
theorem dX2_raise_38 : decode cX2_raise 38 = .ok (.aload_n 0, 1) := by decide +kernel
theorem dX2_raise_39 : decode cX2_raise 39 = .ok (.getfield 19, 3) := by decide +kernel
theorem dX2_raise_42 : decode cX2_raise 42 = .ok (.iload_n 1, 1) := by decide +kernel
theorem dX2_raise_43 : decode cX2_raise 43 = .ok (.iaload, 1) := by decide +kernel
theorem dX2_raise_44 : decode cX2_raise 44 = .ok (.invokevirtual 104, 3) := by decide +kernel
theorem dX2_raise_47 : decode cX2_raise 47 = .ok (.lstore_n 2, 1) := by decide +kernel
theorem dX2_raise_48 : decode cX2_raise 48 = .ok (.lload_n 2, 1) := by decide +kernel
theorem dX2_raise_49 : decode cX2_raise 49 = .ok (.ldc2_w 108, 3) := by decide +kernel
theorem dX2_raise_52 : decode cX2_raise 52 = .ok (.lcmp, 1) := by decide +kernel
theorem dX2_raise_53 : decode cX2_raise 53 = .ok (.ifCond .ne 13, 3) := by decide +kernel
theorem dX2_raise_56 : decode cX2_raise 56 = .ok (.new 69, 3) := by decide +kernel
theorem dX2_raise_59 : decode cX2_raise 59 = .ok (.dup, 1) := by decide +kernel
theorem dX2_raise_60 : decode cX2_raise 60 = .ok (.ldc 119, 2) := by decide +kernel
theorem dX2_raise_62 : decode cX2_raise 62 = .ok (.invokespecial 73, 3) := by decide +kernel
theorem dX2_raise_65 : decode cX2_raise 65 = .ok (.athrow, 1) := by decide +kernel
theorem dX2_raise_66 : decode cX2_raise 66 = .ok (.aload_n 0, 1) := by decide +kernel
theorem dX2_raise_67 : decode cX2_raise 67 = .ok (.getfield 30, 3) := by decide +kernel
theorem dX2_raise_70 : decode cX2_raise 70 = .ok (.aload_n 0, 1) := by decide +kernel
theorem dX2_raise_71 : decode cX2_raise 71 = .ok (.getfield 114, 3) := by decide +kernel
theorem dX2_raise_74 : decode cX2_raise 74 = .ok (.aaload, 1) := by decide +kernel
theorem dX2_raise_75 : decode cX2_raise 75 = .ok (.astore 4, 2) := by decide +kernel
theorem dX2_raise_77 : decode cX2_raise 77 = .ok (.aload 4, 2) := by decide +kernel
theorem dX2_raise_79 : decode cX2_raise 79 = .ok (.iload_n 1, 1) := by decide +kernel
theorem dX2_raise_80 : decode cX2_raise 80 = .ok (.putfield 121, 3) := by decide +kernel
theorem dX2_raise_83 : decode cX2_raise 83 = .ok (.aload 4, 2) := by decide +kernel
theorem dX2_raise_85 : decode cX2_raise 85 = .ok (.aload_n 0, 1) := by decide +kernel
theorem dX2_raise_86 : decode cX2_raise 86 = .ok (.getfield 22, 3) := by decide +kernel
theorem dX2_raise_89 : decode cX2_raise 89 = .ok (.iload_n 1, 1) := by decide +kernel
theorem dX2_raise_90 : decode cX2_raise 90 = .ok (.iaload, 1) := by decide +kernel
theorem dX2_raise_91 : decode cX2_raise 91 = .ok (.putfield 124, 3) := by decide +kernel
theorem dX2_raise_94 : decode cX2_raise 94 = .ok (.aload 4, 2) := by decide +kernel
theorem dX2_raise_96 : decode cX2_raise 96 = .ok (.iconst 1, 1) := by decide +kernel
theorem dX2_raise_97 : decode cX2_raise 97 = .ok (.putfield 127, 3) := by decide +kernel
theorem dX2_raise_100 : decode cX2_raise 100 = .ok (.aload 4, 2) := by decide +kernel
theorem dX2_raise_102 : decode cX2_raise 102 = .ok (.aload_n 0, 1) := by decide +kernel
theorem dX2_raise_103 : decode cX2_raise 103 = .ok (.getfield 25, 3) := by decide +kernel
theorem dX2_raise_106 : decode cX2_raise 106 = .ok (.iload_n 1, 1) := by decide +kernel
theorem dX2_raise_107 : decode cX2_raise 107 = .ok (.iaload, 1) := by decide +kernel
theorem dX2_raise_108 : decode cX2_raise 108 = .ok (.invokevirtual 131, 3) := by decide +kernel
theorem dX2_raise_111 : decode cX2_raise 111 = .ok (.aload 4, 2) := by decide +kernel
theorem dX2_raise_113 : decode cX2_raise 113 = .ok (.aload_n 0, 1) := by decide +kernel
theorem dX2_raise_114 : decode cX2_raise 114 = .ok (.lload_n 2, 1) := by decide +kernel
theorem dX2_raise_115 : decode cX2_raise 115 = .ok (.aload_n 0, 1) := by decide +kernel
theorem dX2_raise_116 : decode cX2_raise 116 = .ok (.getfield 114, 3) := by decide +kernel
theorem dX2_raise_119 : decode cX2_raise 119 = .ok (.invokevirtual 135, 3) := by decide +kernel
theorem dX2_raise_122 : decode cX2_raise 122 = .ok (.putfield 138, 3) := by decide +kernel
theorem dX2_raise_125 : decode cX2_raise 125 = .ok (.aload_n 0, 1) := by decide +kernel
theorem dX2_raise_126 : decode cX2_raise 126 = .ok (.dup, 1) := by decide +kernel
theorem dX2_raise_127 : decode cX2_raise 127 = .ok (.getfield 114, 3) := by decide +kernel
theorem dX2_raise_130 : decode cX2_raise 130 = .ok (.iconst 1, 1) := by decide +kernel
theorem dX2_raise_131 : decode cX2_raise 131 = .ok (.iadd, 1) := by decide +kernel
theorem dX2_raise_132 : decode cX2_raise 132 = .ok (.putfield 114, 3) := by decide +kernel
theorem dX2_raise_135 : decode cX2_raise 135 = .ok (.aload_n 0, 1) := by decide +kernel
theorem dX2_raise_136 : decode cX2_raise 136 = .ok (.getfield 114, 3) := by decide +kernel
theorem dX2_raise_139 : decode cX2_raise 139 = .ok (.iconst 1, 1) := by decide +kernel
theorem dX2_raise_140 : decode cX2_raise 140 = .ok (.isub, 1) := by decide +kernel
theorem dX2_raise_141 : decode cX2_raise 141 = .ok (.ireturn, 1) := by decide +kernel
set_option maxRecDepth 20000 in
theorem ggX2_drive_X2_isCask : GoodIn wsX2_drive wsX2_isCask := goodIn_r _ [17, 18, 25, 26, 27, 28, 29, 30, 31, 32, 33, 34, 35, 36, 37, 38, 39, 40, 41] (by decide +kernel) (by decide +kernel)
set_option maxRecDepth 20000 in
theorem gX2_drive_X2_isCask : GoodIn wsX2_drive (wsV RX2 141 RX2 yX2_isCask wsX2_isCask) := goodIn_app (goodIn_of _ (by decide +kernel)) ggX2_drive_X2_isCask
set_option maxRecDepth 20000 in
theorem ggX2_drive_X1_allTensions : GoodIn wsX2_drive wsX1_allTensions := goodIn_r _ [23, 24, 42, 43, 44, 45, 46, 47, 48, 49, 50, 51, 52] (by decide +kernel) (by decide +kernel)
set_option maxRecDepth 20000 in
theorem gX2_drive_X1_allTensions : GoodIn wsX2_drive (wsV RX2 162 RX1 yX1_allTensions wsX1_allTensions) := goodIn_app (goodIn_of _ (by decide +kernel)) ggX2_drive_X1_allTensions
theorem dX2_drive_0 : decode cX2_drive 0 = .ok (.aload_n 0, 1) := by decide +kernel
theorem dX2_drive_1 : decode cX2_drive 1 = .ok (.iload_n 1, 1) := by decide +kernel
theorem dX2_drive_2 : decode cX2_drive 2 = .ok (.invokevirtual 141, 3) := by decide +kernel
theorem dX2_drive_5 : decode cX2_drive 5 = .ok (.ifCond .ne 13, 3) := by decide +kernel
theorem dX2_drive_8 : decode cX2_drive 8 = .ok (.new 78, 3) := by decide +kernel
theorem dX2_drive_11 : decode cX2_drive 11 = .ok (.dup, 1) := by decide +kernel
theorem dX2_drive_12 : decode cX2_drive 12 = .ok (.ldc 144, 2) := by decide +kernel
theorem dX2_drive_14 : decode cX2_drive 14 = .ok (.invokespecial 82, 3) := by decide +kernel
theorem dX2_drive_17 : decode cX2_drive 17 = .ok (.athrow, 1) := by decide +kernel
theorem dX2_drive_18 : decode cX2_drive 18 = .ok (.aload_n 0, 1) := by decide +kernel
theorem dX2_drive_19 : decode cX2_drive 19 = .ok (.getfield 30, 3) := by decide +kernel
theorem dX2_drive_22 : decode cX2_drive 22 = .ok (.iload_n 1, 1) := by decide +kernel
theorem dX2_drive_23 : decode cX2_drive 23 = .ok (.aaload, 1) := by decide +kernel
theorem dX2_drive_24 : decode cX2_drive 24 = .ok (.astore 4, 2) := by decide +kernel
theorem dX2_drive_26 : decode cX2_drive 26 = .ok (.iload_n 2, 1) := by decide +kernel
theorem dX2_drive_27 : decode cX2_drive 27 = .ok (.ifCond .lt 12, 3) := by decide +kernel
theorem dX2_drive_30 : decode cX2_drive 30 = .ok (.iload_n 2, 1) := by decide +kernel
theorem dX2_drive_31 : decode cX2_drive 31 = .ok (.aload 4, 2) := by decide +kernel
theorem dX2_drive_33 : decode cX2_drive 33 = .ok (.getfield 146, 3) := by decide +kernel
theorem dX2_drive_36 : decode cX2_drive 36 = .ok (.if_icmp .lt 13, 3) := by decide +kernel
theorem dX2_drive_39 : decode cX2_drive 39 = .ok (.new 78, 3) := by decide +kernel
theorem dX2_drive_42 : decode cX2_drive 42 = .ok (.dup, 1) := by decide +kernel
theorem dX2_drive_43 : decode cX2_drive 43 = .ok (.ldc 149, 2) := by decide +kernel
theorem dX2_drive_45 : decode cX2_drive 45 = .ok (.invokespecial 82, 3) := by decide +kernel
theorem dX2_drive_48 : decode cX2_drive 48 = .ok (.athrow, 1) := by decide +kernel
theorem dX2_drive_49 : decode cX2_drive 49 = .ok (.iload_n 3, 1) := by decide +kernel
theorem dX2_drive_50 : decode cX2_drive 50 = .ok (.iconst 1, 1) := by decide +kernel
theorem dX2_drive_51 : decode cX2_drive 51 = .ok (.if_icmp .lt 9, 3) := by decide +kernel
theorem dX2_drive_54 : decode cX2_drive 54 = .ok (.iload_n 3, 1) := by decide +kernel
theorem dX2_drive_55 : decode cX2_drive 55 = .ok (.bipush 9, 2) := by decide +kernel
theorem dX2_drive_57 : decode cX2_drive 57 = .ok (.if_icmp .le 13, 3) := by decide +kernel
theorem dX2_drive_60 : decode cX2_drive 60 = .ok (.new 57, 3) := by decide +kernel
theorem dX2_drive_63 : decode cX2_drive 63 = .ok (.dup, 1) := by decide +kernel
theorem dX2_drive_64 : decode cX2_drive 64 = .ok (.ldc 151, 2) := by decide +kernel
theorem dX2_drive_66 : decode cX2_drive 66 = .ok (.invokespecial 61, 3) := by decide +kernel
theorem dX2_drive_69 : decode cX2_drive 69 = .ok (.athrow, 1) := by decide +kernel
theorem dX2_drive_70 : decode cX2_drive 70 = .ok (.aload 4, 2) := by decide +kernel
theorem dX2_drive_72 : decode cX2_drive 72 = .ok (.getfield 153, 3) := by decide +kernel
theorem dX2_drive_75 : decode cX2_drive 75 = .ok (.iload_n 2, 1) := by decide +kernel
theorem dX2_drive_76 : decode cX2_drive 76 = .ok (.bipush 9, 2) := by decide +kernel
theorem dX2_drive_78 : decode cX2_drive 78 = .ok (.aload 4, 2) := by decide +kernel
theorem dX2_drive_80 : decode cX2_drive 80 = .ok (.getfield 153, 3) := by decide +kernel
theorem dX2_drive_83 : decode cX2_drive 83 = .ok (.iload_n 2, 1) := by decide +kernel
theorem dX2_drive_84 : decode cX2_drive 84 = .ok (.iaload, 1) := by decide +kernel
theorem dX2_drive_85 : decode cX2_drive 85 = .ok (.iload_n 3, 1) := by decide +kernel
theorem dX2_drive_86 : decode cX2_drive 86 = .ok (.iadd, 1) := by decide +kernel
theorem dX2_drive_87 : decode cX2_drive 87 = .ok (.invokestatic 156, 3) := by decide +kernel
theorem dX2_drive_90 : decode cX2_drive 90 = .ok (.iastore, 1) := by decide +kernel
theorem dX2_drive_91 : decode cX2_drive 91 = .ok (.aload 4, 2) := by decide +kernel
theorem dX2_drive_93 : decode cX2_drive 93 = .ok (.invokevirtual 162, 3) := by decide +kernel
theorem dX2_drive_96 : decode cX2_drive 96 = .ok (.iconst 5, 1) := by decide +kernel
theorem dX2_drive_97 : decode cX2_drive 97 = .ok (.aload 4, 2) := by decide +kernel
theorem dX2_drive_99 : decode cX2_drive 99 = .ok (.getfield 146, 3) := by decide +kernel
theorem dX2_drive_102 : decode cX2_drive 102 = .ok (.imul, 1) := by decide +kernel
theorem dX2_drive_103 : decode cX2_drive 103 = .ok (.if_icmp .le 14, 3) := by decide +kernel
theorem dX2_drive_106 : decode cX2_drive 106 = .ok (.aload 4, 2) := by decide +kernel
theorem dX2_drive_108 : decode cX2_drive 108 = .ok (.dup, 1) := by decide +kernel
theorem dX2_drive_109 : decode cX2_drive 109 = .ok (.getfield 138, 3) := by decide +kernel
theorem dX2_drive_112 : decode cX2_drive 112 = .ok (.iconst 1, 1) := by decide +kernel
theorem dX2_drive_113 : decode cX2_drive 113 = .ok (.iadd, 1) := by decide +kernel
theorem dX2_drive_114 : decode cX2_drive 114 = .ok (.putfield 138, 3) := by decide +kernel
theorem dX2_drive_117 : decode cX2_drive 117 = .ok (.aload 4, 2) := by decide +kernel
theorem dX2_drive_119 : decode cX2_drive 119 = .ok (.getfield 153, 3) := by decide +kernel
theorem dX2_drive_122 : decode cX2_drive 122 = .ok (.iload_n 2, 1) := by decide +kernel
theorem dX2_drive_123 : decode cX2_drive 123 = .ok (.iaload, 1) := by decide +kernel
theorem dX2_drive_124 : decode cX2_drive 124 = .ok (.ireturn, 1) := by decide +kernel
set_option maxRecDepth 20000 in
theorem ggX2_mend_X2_isCask : GoodIn wsX2_mend wsX2_isCask := goodIn_r _ [14, 15, 36, 37, 38, 39, 40, 41, 42, 43, 44, 45, 46, 47, 48, 49, 50, 51, 52] (by decide +kernel) (by decide +kernel)
set_option maxRecDepth 20000 in
theorem gX2_mend_X2_isCask : GoodIn wsX2_mend (wsV RX2 141 RX2 yX2_isCask wsX2_isCask) := goodIn_app (goodIn_of _ (by decide +kernel)) ggX2_mend_X2_isCask
set_option maxRecDepth 20000 in
theorem ggX2_mend_X2_isStave : GoodIn wsX2_mend wsX2_isStave := goodIn_r _ [19, 20, 36, 37, 38, 39, 40, 41, 42, 43, 44, 45, 46, 47, 48, 49, 50, 51, 52] (by decide +kernel) (by decide +kernel)
set_option maxRecDepth 20000 in
theorem gX2_mend_X2_isStave : GoodIn wsX2_mend (wsV RX2 74 RX2 yX2_isStave wsX2_isStave) := goodIn_app (goodIn_of _ (by decide +kernel)) ggX2_mend_X2_isStave
set_option maxRecDepth 20000 in
theorem ggX2_mend_X2_lastStaveIn : GoodIn wsX2_mend wsX2_lastStaveIn := goodIn_r _ [24, 20, 7, 36, 37, 38, 39, 40, 41, 42, 43, 44, 45, 46, 47, 48, 49, 50, 51, 52] (by decide +kernel) (by decide +kernel)
set_option maxRecDepth 20000 in
theorem gX2_mend_X2_lastStaveIn : GoodIn wsX2_mend (wsV RX2 166 RX2 yX2_lastStaveIn wsX2_lastStaveIn) := goodIn_app (goodIn_of _ (by decide +kernel)) ggX2_mend_X2_lastStaveIn
set_option maxRecDepth 20000 in
theorem ggX2_mend_X1_held : GoodIn wsX2_mend wsX1_held := goodIn_r _ [29, 30, 53, 54, 55, 56, 57, 58, 59, 60, 61, 62, 63] (by decide +kernel) (by decide +kernel)
set_option maxRecDepth 20000 in
theorem gX2_mend_X1_held : GoodIn wsX2_mend (wsV RX2 172 RX1 yX1_held wsX1_held) := goodIn_app (goodIn_of _ (by decide +kernel)) ggX2_mend_X1_held
set_option maxRecDepth 20000 in
theorem ggX2_mend_X2_flawsOf : GoodIn wsX2_mend wsX2_flawsOf := goodIn_r _ [34, 35, 36, 37, 38, 39, 40, 41, 42, 43, 44, 45, 46, 47, 48, 49, 50, 51, 52] (by decide +kernel) (by decide +kernel)
set_option maxRecDepth 20000 in
theorem gX2_mend_X2_flawsOf : GoodIn wsX2_mend (wsV RX2 181 RX2 yX2_flawsOf wsX2_flawsOf) := goodIn_app (goodIn_of _ (by decide +kernel)) ggX2_mend_X2_flawsOf
theorem dX2_mend_0 : decode cX2_mend 0 = .ok (.aload_n 0, 1) := by decide +kernel
theorem dX2_mend_1 : decode cX2_mend 1 = .ok (.iload_n 1, 1) := by decide +kernel
theorem dX2_mend_2 : decode cX2_mend 2 = .ok (.invokevirtual 141, 3) := by decide +kernel
theorem dX2_mend_5 : decode cX2_mend 5 = .ok (.ifCond .ne 13, 3) := by decide +kernel
theorem dX2_mend_8 : decode cX2_mend 8 = .ok (.new 78, 3) := by decide +kernel
theorem dX2_mend_11 : decode cX2_mend 11 = .ok (.dup, 1) := by decide +kernel
theorem dX2_mend_12 : decode cX2_mend 12 = .ok (.ldc 144, 2) := by decide +kernel
theorem dX2_mend_14 : decode cX2_mend 14 = .ok (.invokespecial 82, 3) := by decide +kernel
theorem dX2_mend_17 : decode cX2_mend 17 = .ok (.athrow, 1) := by decide +kernel
theorem dX2_mend_18 : decode cX2_mend 18 = .ok (.aload_n 0, 1) := by decide +kernel
theorem dX2_mend_19 : decode cX2_mend 19 = .ok (.iload_n 2, 1) := by decide +kernel
theorem dX2_mend_20 : decode cX2_mend 20 = .ok (.invokevirtual 74, 3) := by decide +kernel
theorem dX2_mend_23 : decode cX2_mend 23 = .ok (.ifCond .ne 13, 3) := by decide +kernel
theorem dX2_mend_26 : decode cX2_mend 26 = .ok (.new 78, 3) := by decide +kernel
theorem dX2_mend_29 : decode cX2_mend 29 = .ok (.dup, 1) := by decide +kernel
theorem dX2_mend_30 : decode cX2_mend 30 = .ok (.ldc 80, 2) := by decide +kernel
theorem dX2_mend_32 : decode cX2_mend 32 = .ok (.invokespecial 82, 3) := by decide +kernel
theorem dX2_mend_35 : decode cX2_mend 35 = .ok (.athrow, 1) := by decide +kernel
theorem dX2_mend_36 : decode cX2_mend 36 = .ok (.aload_n 0, 1) := by decide +kernel
theorem dX2_mend_37 : decode cX2_mend 37 = .ok (.getfield 30, 3) := by decide +kernel
theorem dX2_mend_40 : decode cX2_mend 40 = .ok (.iload_n 1, 1) := by decide +kernel
theorem dX2_mend_41 : decode cX2_mend 41 = .ok (.aaload, 1) := by decide +kernel
theorem dX2_mend_42 : decode cX2_mend 42 = .ok (.astore_n 3, 1) := by decide +kernel
theorem dX2_mend_43 : decode cX2_mend 43 = .ok (.aload_n 0, 1) := by decide +kernel
theorem dX2_mend_44 : decode cX2_mend 44 = .ok (.iload_n 1, 1) := by decide +kernel
theorem dX2_mend_45 : decode cX2_mend 45 = .ok (.invokevirtual 166, 3) := by decide +kernel
theorem dX2_mend_48 : decode cX2_mend 48 = .ok (.istore 4, 2) := by decide +kernel
theorem dX2_mend_50 : decode cX2_mend 50 = .ok (.aload_n 3, 1) := by decide +kernel
theorem dX2_mend_51 : decode cX2_mend 51 = .ok (.getfield 127, 3) := by decide +kernel
theorem dX2_mend_54 : decode cX2_mend 54 = .ok (.ifCond .eq 9, 3) := by decide +kernel
theorem dX2_mend_57 : decode cX2_mend 57 = .ok (.iload 4, 2) := by decide +kernel
theorem dX2_mend_59 : decode cX2_mend 59 = .ok (.iconst (-1), 1) := by decide +kernel
theorem dX2_mend_60 : decode cX2_mend 60 = .ok (.if_icmp .ne 13, 3) := by decide +kernel
theorem dX2_mend_63 : decode cX2_mend 63 = .ok (.new 69, 3) := by decide +kernel
theorem dX2_mend_66 : decode cX2_mend 66 = .ok (.dup, 1) := by decide +kernel
theorem dX2_mend_67 : decode cX2_mend 67 = .ok (.ldc 170, 2) := by decide +kernel
theorem dX2_mend_69 : decode cX2_mend 69 = .ok (.invokespecial 73, 3) := by decide +kernel
theorem dX2_mend_72 : decode cX2_mend 72 = .ok (.athrow, 1) := by decide +kernel
theorem dX2_mend_73 : decode cX2_mend 73 = .ok (.aload_n 3, 1) := by decide +kernel
theorem dX2_mend_74 : decode cX2_mend 74 = .ok (.invokevirtual 172, 3) := by decide +kernel
theorem dX2_mend_77 : decode cX2_mend 77 = .ok (.ifCond .le 13, 3) := by decide +kernel
theorem dX2_mend_80 : decode cX2_mend 80 = .ok (.new 69, 3) := by decide +kernel
theorem dX2_mend_83 : decode cX2_mend 83 = .ok (.dup, 1) := by decide +kernel
theorem dX2_mend_84 : decode cX2_mend 84 = .ok (.ldc 175, 2) := by decide +kernel
theorem dX2_mend_86 : decode cX2_mend 86 = .ok (.invokespecial 73, 3) := by decide +kernel
theorem dX2_mend_89 : decode cX2_mend 89 = .ok (.athrow, 1) := by decide +kernel
theorem dX2_mend_90 : decode cX2_mend 90 = .ok (.aload_n 0, 1) := by decide +kernel
theorem dX2_mend_91 : decode cX2_mend 91 = .ok (.getfield 16, 3) := by decide +kernel
theorem dX2_mend_94 : decode cX2_mend 94 = .ok (.iload_n 2, 1) := by decide +kernel
theorem dX2_mend_95 : decode cX2_mend 95 = .ok (.iaload, 1) := by decide +kernel
theorem dX2_mend_96 : decode cX2_mend 96 = .ok (.iconst (-1), 1) := by decide +kernel
theorem dX2_mend_97 : decode cX2_mend 97 = .ok (.if_icmp .eq 13, 3) := by decide +kernel
theorem dX2_mend_100 : decode cX2_mend 100 = .ok (.new 69, 3) := by decide +kernel
theorem dX2_mend_103 : decode cX2_mend 103 = .ok (.dup, 1) := by decide +kernel
theorem dX2_mend_104 : decode cX2_mend 104 = .ok (.ldc 177, 2) := by decide +kernel
theorem dX2_mend_106 : decode cX2_mend 106 = .ok (.invokespecial 73, 3) := by decide +kernel
theorem dX2_mend_109 : decode cX2_mend 109 = .ok (.athrow, 1) := by decide +kernel
theorem dX2_mend_110 : decode cX2_mend 110 = .ok (.aload_n 0, 1) := by decide +kernel
theorem dX2_mend_111 : decode cX2_mend 111 = .ok (.getfield 9, 3) := by decide +kernel
theorem dX2_mend_114 : decode cX2_mend 114 = .ok (.iload_n 2, 1) := by decide +kernel
theorem dX2_mend_115 : decode cX2_mend 115 = .ok (.iaload, 1) := by decide +kernel
theorem dX2_mend_116 : decode cX2_mend 116 = .ok (.aload_n 0, 1) := by decide +kernel
theorem dX2_mend_117 : decode cX2_mend 117 = .ok (.getfield 9, 3) := by decide +kernel
theorem dX2_mend_120 : decode cX2_mend 120 = .ok (.iload 4, 2) := by decide +kernel
theorem dX2_mend_122 : decode cX2_mend 122 = .ok (.iaload, 1) := by decide +kernel
theorem dX2_mend_123 : decode cX2_mend 123 = .ok (.if_icmp .eq 13, 3) := by decide +kernel
theorem dX2_mend_126 : decode cX2_mend 126 = .ok (.new 69, 3) := by decide +kernel
theorem dX2_mend_129 : decode cX2_mend 129 = .ok (.dup, 1) := by decide +kernel
theorem dX2_mend_130 : decode cX2_mend 130 = .ok (.ldc 179, 2) := by decide +kernel
theorem dX2_mend_132 : decode cX2_mend 132 = .ok (.invokespecial 73, 3) := by decide +kernel
theorem dX2_mend_135 : decode cX2_mend 135 = .ok (.athrow, 1) := by decide +kernel
theorem dX2_mend_136 : decode cX2_mend 136 = .ok (.aload_n 3, 1) := by decide +kernel
theorem dX2_mend_137 : decode cX2_mend 137 = .ok (.getfield 138, 3) := by decide +kernel
theorem dX2_mend_140 : decode cX2_mend 140 = .ok (.istore 5, 2) := by decide +kernel
theorem dX2_mend_142 : decode cX2_mend 142 = .ok (.aload_n 0, 1) := by decide +kernel
theorem dX2_mend_143 : decode cX2_mend 143 = .ok (.getfield 16, 3) := by decide +kernel
theorem dX2_mend_146 : decode cX2_mend 146 = .ok (.iload 4, 2) := by decide +kernel
theorem dX2_mend_148 : decode cX2_mend 148 = .ok (.bipush (-2), 2) := by decide +kernel
theorem dX2_mend_150 : decode cX2_mend 150 = .ok (.iastore, 1) := by decide +kernel
theorem dX2_mend_151 : decode cX2_mend 151 = .ok (.aload_n 0, 1) := by decide +kernel
theorem dX2_mend_152 : decode cX2_mend 152 = .ok (.getfield 16, 3) := by decide +kernel
theorem dX2_mend_155 : decode cX2_mend 155 = .ok (.iload_n 2, 1) := by decide +kernel
theorem dX2_mend_156 : decode cX2_mend 156 = .ok (.iload_n 1, 1) := by decide +kernel
theorem dX2_mend_157 : decode cX2_mend 157 = .ok (.iastore, 1) := by decide +kernel
theorem dX2_mend_158 : decode cX2_mend 158 = .ok (.aload_n 3, 1) := by decide +kernel
theorem dX2_mend_159 : decode cX2_mend 159 = .ok (.aload_n 0, 1) := by decide +kernel
theorem dX2_mend_160 : decode cX2_mend 160 = .ok (.iload_n 2, 1) := by decide +kernel
theorem dX2_mend_161 : decode cX2_mend 161 = .ok (.invokevirtual 181, 3) := by decide +kernel
theorem dX2_mend_164 : decode cX2_mend 164 = .ok (.putfield 138, 3) := by decide +kernel
theorem dX2_mend_167 : decode cX2_mend 167 = .ok (.iload 5, 2) := by decide +kernel
theorem dX2_mend_169 : decode cX2_mend 169 = .ok (.ireturn, 1) := by decide +kernel
set_option maxRecDepth 20000 in
theorem ggX2_breakUp_X2_isCask : GoodIn wsX2_breakUp wsX2_isCask := goodIn_r _ [11, 12, 46, 47, 48, 49, 50, 51, 52, 53, 54, 55, 56, 57, 58, 59, 60, 61, 62] (by decide +kernel) (by decide +kernel)
set_option maxRecDepth 20000 in
theorem gX2_breakUp_X2_isCask : GoodIn wsX2_breakUp (wsV RX2 141 RX2 yX2_isCask wsX2_isCask) := goodIn_app (goodIn_of _ (by decide +kernel)) ggX2_breakUp_X2_isCask
set_option maxRecDepth 20000 in
theorem ggX2_breakUp_X1_held : GoodIn wsX2_breakUp wsX1_held := goodIn_r _ [17, 18, 63, 64, 65, 66, 67, 68, 69, 70, 71, 72, 73] (by decide +kernel) (by decide +kernel)
set_option maxRecDepth 20000 in
theorem gX2_breakUp_X1_held : GoodIn wsX2_breakUp (wsV RX2 172 RX1 yX1_held wsX1_held) := goodIn_app (goodIn_of _ (by decide +kernel)) ggX2_breakUp_X1_held
set_option maxRecDepth 20000 in
theorem ggX2_breakUp_X2_takeStavesOutOf : GoodIn wsX2_breakUp wsX2_takeStavesOutOf := goodIn_r _ [22, 23, 24, 25, 26, 27, 28, 29, 46, 47, 48, 49, 50, 51, 52, 53, 54, 55, 56, 57, 58, 59, 60, 61, 62] (by decide +kernel) (by decide +kernel)
set_option maxRecDepth 20000 in
theorem gX2_breakUp_X2_takeStavesOutOf : GoodIn wsX2_breakUp (wsV RX2 186 RX2 yX2_takeStavesOutOf wsX2_takeStavesOutOf) := goodIn_app (goodIn_of _ (by decide +kernel)) ggX2_breakUp_X2_takeStavesOutOf
set_option maxRecDepth 20000 in
theorem ggX2_breakUp_X1_clear : GoodIn wsX2_breakUp wsX1_clear := goodIn_r _ [33, 34, 35, 36, 37, 38, 39, 40, 41, 18, 42, 43, 44, 45, 63, 64, 65, 66, 67, 68, 69, 70, 71, 72, 73] (by decide +kernel) (by decide +kernel)
set_option maxRecDepth 20000 in
theorem gX2_breakUp_X1_clear : GoodIn wsX2_breakUp (wsV RX2 189 RX1 yX1_clear wsX1_clear) := goodIn_app (goodIn_of _ (by decide +kernel)) ggX2_breakUp_X1_clear
theorem dX2_breakUp_0 : decode cX2_breakUp 0 = .ok (.aload_n 0, 1) := by decide +kernel
theorem dX2_breakUp_1 : decode cX2_breakUp 1 = .ok (.iload_n 1, 1) := by decide +kernel
theorem dX2_breakUp_2 : decode cX2_breakUp 2 = .ok (.invokevirtual 141, 3) := by decide +kernel
theorem dX2_breakUp_5 : decode cX2_breakUp 5 = .ok (.ifCond .ne 13, 3) := by decide +kernel
theorem dX2_breakUp_8 : decode cX2_breakUp 8 = .ok (.new 78, 3) := by decide +kernel
theorem dX2_breakUp_11 : decode cX2_breakUp 11 = .ok (.dup, 1) := by decide +kernel
theorem dX2_breakUp_12 : decode cX2_breakUp 12 = .ok (.ldc 144, 2) := by decide +kernel
theorem dX2_breakUp_14 : decode cX2_breakUp 14 = .ok (.invokespecial 82, 3) := by decide +kernel
theorem dX2_breakUp_17 : decode cX2_breakUp 17 = .ok (.athrow, 1) := by decide +kernel
theorem dX2_breakUp_18 : decode cX2_breakUp 18 = .ok (.aload_n 0, 1) := by decide +kernel
theorem dX2_breakUp_19 : decode cX2_breakUp 19 = .ok (.getfield 30, 3) := by decide +kernel
theorem dX2_breakUp_22 : decode cX2_breakUp 22 = .ok (.iload_n 1, 1) := by decide +kernel
theorem dX2_breakUp_23 : decode cX2_breakUp 23 = .ok (.aaload, 1) := by decide +kernel
theorem dX2_breakUp_24 : decode cX2_breakUp 24 = .ok (.astore_n 2, 1) := by decide +kernel
theorem dX2_breakUp_25 : decode cX2_breakUp 25 = .ok (.aload_n 2, 1) := by decide +kernel
theorem dX2_breakUp_26 : decode cX2_breakUp 26 = .ok (.getfield 127, 3) := by decide +kernel
theorem dX2_breakUp_29 : decode cX2_breakUp 29 = .ok (.ifCond .ne 13, 3) := by decide +kernel
theorem dX2_breakUp_32 : decode cX2_breakUp 32 = .ok (.new 69, 3) := by decide +kernel
theorem dX2_breakUp_35 : decode cX2_breakUp 35 = .ok (.dup, 1) := by decide +kernel
theorem dX2_breakUp_36 : decode cX2_breakUp 36 = .ok (.ldc 184, 2) := by decide +kernel
theorem dX2_breakUp_38 : decode cX2_breakUp 38 = .ok (.invokespecial 73, 3) := by decide +kernel
theorem dX2_breakUp_41 : decode cX2_breakUp 41 = .ok (.athrow, 1) := by decide +kernel
theorem dX2_breakUp_42 : decode cX2_breakUp 42 = .ok (.aload_n 2, 1) := by decide +kernel
theorem dX2_breakUp_43 : decode cX2_breakUp 43 = .ok (.invokevirtual 172, 3) := by decide +kernel
theorem dX2_breakUp_46 : decode cX2_breakUp 46 = .ok (.istore_n 3, 1) := by decide +kernel
theorem dX2_breakUp_47 : decode cX2_breakUp 47 = .ok (.aload_n 0, 1) := by decide +kernel
theorem dX2_breakUp_48 : decode cX2_breakUp 48 = .ok (.iload_n 1, 1) := by decide +kernel
theorem dX2_breakUp_49 : decode cX2_breakUp 49 = .ok (.invokevirtual 186, 3) := by decide +kernel
theorem dX2_breakUp_52 : decode cX2_breakUp 52 = .ok (.aload_n 2, 1) := by decide +kernel
theorem dX2_breakUp_53 : decode cX2_breakUp 53 = .ok (.invokevirtual 189, 3) := by decide +kernel
theorem dX2_breakUp_56 : decode cX2_breakUp 56 = .ok (.iload_n 3, 1) := by decide +kernel
theorem dX2_breakUp_57 : decode cX2_breakUp 57 = .ok (.ireturn, 1) := by decide +kernel
set_option maxRecDepth 20000 in
theorem ggX2_cask_X2_isCask : GoodIn wsX2_cask wsX2_isCask := goodIn_r _ [7, 8, 51, 52, 53, 54, 55, 56, 57, 58, 59, 60, 61, 62, 63, 64, 65, 66, 67] (by decide +kernel) (by decide +kernel)
set_option maxRecDepth 20000 in
theorem gX2_cask_X2_isCask : GoodIn wsX2_cask (wsV RX2 141 RX2 yX2_isCask wsX2_isCask) := goodIn_app (goodIn_of _ (by decide +kernel)) ggX2_cask_X2_isCask
set_option maxRecDepth 20000 in
theorem ggX2_cask_X2_tellOfCask : GoodIn wsX2_cask wsX2_tellOfCask := goodIn_r _ [12, 13, 14, 15, 16, 17, 18, 19, 20, 21, 22, 23, 24, 6, 25, 26, 27, 28, 29, 30, 31, 32, 33, 34, 35, 36, 37, 38, 39, 40, 41, 42, 43, 44, 45, 46, 47, 48, 49, 50, 51, 52, 53, 54, 55, 56, 57, 58, 59, 60, 61, 62, 63, 64, 65, 66, 67, 68, 69, 70, 71, 72, 73, 74, 75, 76, 77, 78] (by decide +kernel) (by decide +kernel)
set_option maxRecDepth 20000 in
theorem gX2_cask_X2_tellOfCask : GoodIn wsX2_cask (wsV RX2 194 RX2 yX2_tellOfCask wsX2_tellOfCask) := goodIn_app (goodIn_of _ (by decide +kernel)) ggX2_cask_X2_tellOfCask
theorem dX2_cask_0 : decode cX2_cask 0 = .ok (.aload_n 0, 1) := by decide +kernel
theorem dX2_cask_1 : decode cX2_cask 1 = .ok (.iload_n 1, 1) := by decide +kernel
theorem dX2_cask_2 : decode cX2_cask 2 = .ok (.invokevirtual 141, 3) := by decide +kernel
theorem dX2_cask_5 : decode cX2_cask 5 = .ok (.ifCond .ne 13, 3) := by decide +kernel
theorem dX2_cask_8 : decode cX2_cask 8 = .ok (.new 78, 3) := by decide +kernel
theorem dX2_cask_11 : decode cX2_cask 11 = .ok (.dup, 1) := by decide +kernel
theorem dX2_cask_12 : decode cX2_cask 12 = .ok (.ldc 144, 2) := by decide +kernel
theorem dX2_cask_14 : decode cX2_cask 14 = .ok (.invokespecial 82, 3) := by decide +kernel
theorem dX2_cask_17 : decode cX2_cask 17 = .ok (.athrow, 1) := by decide +kernel
theorem dX2_cask_18 : decode cX2_cask 18 = .ok (.iload_n 2, 1) := by decide +kernel
theorem dX2_cask_19 : decode cX2_cask 19 = .ok (.ifCond .lt 9, 3) := by decide +kernel
theorem dX2_cask_22 : decode cX2_cask 22 = .ok (.iload_n 2, 1) := by decide +kernel
theorem dX2_cask_23 : decode cX2_cask 23 = .ok (.bipush 16, 2) := by decide +kernel
theorem dX2_cask_25 : decode cX2_cask 25 = .ok (.if_icmp .lt 13, 3) := by decide +kernel
theorem dX2_cask_28 : decode cX2_cask 28 = .ok (.new 78, 3) := by decide +kernel
theorem dX2_cask_31 : decode cX2_cask 31 = .ok (.dup, 1) := by decide +kernel
theorem dX2_cask_32 : decode cX2_cask 32 = .ok (.ldc 192, 2) := by decide +kernel
theorem dX2_cask_34 : decode cX2_cask 34 = .ok (.invokespecial 82, 3) := by decide +kernel
theorem dX2_cask_37 : decode cX2_cask 37 = .ok (.athrow, 1) := by decide +kernel
theorem dX2_cask_38 : decode cX2_cask 38 = .ok (.aload_n 0, 1) := by decide +kernel
theorem dX2_cask_39 : decode cX2_cask 39 = .ok (.iload_n 1, 1) := by decide +kernel
theorem dX2_cask_40 : decode cX2_cask 40 = .ok (.iload_n 2, 1) := by decide +kernel
theorem dX2_cask_41 : decode cX2_cask 41 = .ok (.invokevirtual 194, 3) := by decide +kernel
theorem dX2_cask_44 : decode cX2_cask 44 = .ok (.ireturn, 1) := by decide +kernel
set_option maxRecDepth 20000 in
theorem ggX2_fill_X2_isCask : GoodIn wsX2_fill wsX2_isCask := goodIn_r _ [16, 17, 30, 31, 32, 33, 34, 35, 36, 37, 38, 39, 40, 41, 42, 43, 44, 45, 46] (by decide +kernel) (by decide +kernel)
set_option maxRecDepth 20000 in
theorem gX2_fill_X2_isCask : GoodIn wsX2_fill (wsV RX2 141 RX2 yX2_isCask wsX2_isCask) := goodIn_app (goodIn_of _ (by decide +kernel)) ggX2_fill_X2_isCask
set_option maxRecDepth 20000 in
theorem ggX2_fill_X1_held : GoodIn wsX2_fill wsX1_held := goodIn_r _ [22, 23, 47, 48, 49, 50, 51, 52, 53, 54, 55, 56, 57] (by decide +kernel) (by decide +kernel)
set_option maxRecDepth 20000 in
theorem gX2_fill_X1_held : GoodIn wsX2_fill (wsV RX2 172 RX1 yX1_held wsX1_held) := goodIn_app (goodIn_of _ (by decide +kernel)) ggX2_fill_X1_held
set_option maxRecDepth 20000 in
theorem ggX2_fill_X1_countFilling : GoodIn wsX2_fill wsX1_countFilling := goodIn_r _ [27, 28, 29, 19, 20, 21, 22, 23, 47, 48, 49, 50, 51, 52, 53, 54, 55, 56, 57] (by decide +kernel) (by decide +kernel)
set_option maxRecDepth 20000 in
theorem gX2_fill_X1_countFilling : GoodIn wsX2_fill (wsV RX2 203 RX1 yX1_countFilling wsX1_countFilling) := goodIn_app (goodIn_of _ (by decide +kernel)) ggX2_fill_X1_countFilling
theorem dX2_fill_0 : decode cX2_fill 0 = .ok (.aload_n 0, 1) := by decide +kernel
theorem dX2_fill_1 : decode cX2_fill 1 = .ok (.iload_n 1, 1) := by decide +kernel
theorem dX2_fill_2 : decode cX2_fill 2 = .ok (.invokevirtual 141, 3) := by decide +kernel
theorem dX2_fill_5 : decode cX2_fill 5 = .ok (.ifCond .ne 13, 3) := by decide +kernel
theorem dX2_fill_8 : decode cX2_fill 8 = .ok (.new 78, 3) := by decide +kernel
theorem dX2_fill_11 : decode cX2_fill 11 = .ok (.dup, 1) := by decide +kernel
theorem dX2_fill_12 : decode cX2_fill 12 = .ok (.ldc 144, 2) := by decide +kernel
theorem dX2_fill_14 : decode cX2_fill 14 = .ok (.invokespecial 82, 3) := by decide +kernel
theorem dX2_fill_17 : decode cX2_fill 17 = .ok (.athrow, 1) := by decide +kernel
theorem dX2_fill_18 : decode cX2_fill 18 = .ok (.iload_n 2, 1) := by decide +kernel
theorem dX2_fill_19 : decode cX2_fill 19 = .ok (.ifCond .lt 8, 3) := by decide +kernel
theorem dX2_fill_22 : decode cX2_fill 22 = .ok (.iload_n 2, 1) := by decide +kernel
theorem dX2_fill_23 : decode cX2_fill 23 = .ok (.iconst 4, 1) := by decide +kernel
theorem dX2_fill_24 : decode cX2_fill 24 = .ok (.if_icmp .lt 13, 3) := by decide +kernel
theorem dX2_fill_27 : decode cX2_fill 27 = .ok (.new 57, 3) := by decide +kernel
theorem dX2_fill_30 : decode cX2_fill 30 = .ok (.dup, 1) := by decide +kernel
theorem dX2_fill_31 : decode cX2_fill 31 = .ok (.ldc 197, 2) := by decide +kernel
theorem dX2_fill_33 : decode cX2_fill 33 = .ok (.invokespecial 61, 3) := by decide +kernel
theorem dX2_fill_36 : decode cX2_fill 36 = .ok (.athrow, 1) := by decide +kernel
theorem dX2_fill_37 : decode cX2_fill 37 = .ok (.iload_n 3, 1) := by decide +kernel
theorem dX2_fill_38 : decode cX2_fill 38 = .ok (.iconst 1, 1) := by decide +kernel
theorem dX2_fill_39 : decode cX2_fill 39 = .ok (.if_icmp .lt 9, 3) := by decide +kernel
theorem dX2_fill_42 : decode cX2_fill 42 = .ok (.iload_n 3, 1) := by decide +kernel
theorem dX2_fill_43 : decode cX2_fill 43 = .ok (.ldc 87, 2) := by decide +kernel
theorem dX2_fill_45 : decode cX2_fill 45 = .ok (.if_icmp .le 13, 3) := by decide +kernel
theorem dX2_fill_48 : decode cX2_fill 48 = .ok (.new 57, 3) := by decide +kernel
theorem dX2_fill_51 : decode cX2_fill 51 = .ok (.dup, 1) := by decide +kernel
theorem dX2_fill_52 : decode cX2_fill 52 = .ok (.ldc 199, 2) := by decide +kernel
theorem dX2_fill_54 : decode cX2_fill 54 = .ok (.invokespecial 61, 3) := by decide +kernel
theorem dX2_fill_57 : decode cX2_fill 57 = .ok (.athrow, 1) := by decide +kernel
theorem dX2_fill_58 : decode cX2_fill 58 = .ok (.aload_n 0, 1) := by decide +kernel
theorem dX2_fill_59 : decode cX2_fill 59 = .ok (.getfield 30, 3) := by decide +kernel
theorem dX2_fill_62 : decode cX2_fill 62 = .ok (.iload_n 1, 1) := by decide +kernel
theorem dX2_fill_63 : decode cX2_fill 63 = .ok (.aaload, 1) := by decide +kernel
theorem dX2_fill_64 : decode cX2_fill 64 = .ok (.astore 4, 2) := by decide +kernel
theorem dX2_fill_66 : decode cX2_fill 66 = .ok (.aload 4, 2) := by decide +kernel
theorem dX2_fill_68 : decode cX2_fill 68 = .ok (.getfield 127, 3) := by decide +kernel
theorem dX2_fill_71 : decode cX2_fill 71 = .ok (.ifCond .ne 13, 3) := by decide +kernel
theorem dX2_fill_74 : decode cX2_fill 74 = .ok (.new 69, 3) := by decide +kernel
theorem dX2_fill_77 : decode cX2_fill 77 = .ok (.dup, 1) := by decide +kernel
theorem dX2_fill_78 : decode cX2_fill 78 = .ok (.ldc 184, 2) := by decide +kernel
theorem dX2_fill_80 : decode cX2_fill 80 = .ok (.invokespecial 73, 3) := by decide +kernel
theorem dX2_fill_83 : decode cX2_fill 83 = .ok (.athrow, 1) := by decide +kernel
theorem dX2_fill_84 : decode cX2_fill 84 = .ok (.aload 4, 2) := by decide +kernel
theorem dX2_fill_86 : decode cX2_fill 86 = .ok (.invokevirtual 172, 3) := by decide +kernel
theorem dX2_fill_89 : decode cX2_fill 89 = .ok (.iload_n 3, 1) := by decide +kernel
theorem dX2_fill_90 : decode cX2_fill 90 = .ok (.iadd, 1) := by decide +kernel
theorem dX2_fill_91 : decode cX2_fill 91 = .ok (.aload 4, 2) := by decide +kernel
theorem dX2_fill_93 : decode cX2_fill 93 = .ok (.getfield 124, 3) := by decide +kernel
theorem dX2_fill_96 : decode cX2_fill 96 = .ok (.if_icmp .le 13, 3) := by decide +kernel
theorem dX2_fill_99 : decode cX2_fill 99 = .ok (.new 69, 3) := by decide +kernel
theorem dX2_fill_102 : decode cX2_fill 102 = .ok (.dup, 1) := by decide +kernel
theorem dX2_fill_103 : decode cX2_fill 103 = .ok (.ldc 201, 2) := by decide +kernel
theorem dX2_fill_105 : decode cX2_fill 105 = .ok (.invokespecial 73, 3) := by decide +kernel
theorem dX2_fill_108 : decode cX2_fill 108 = .ok (.athrow, 1) := by decide +kernel
theorem dX2_fill_109 : decode cX2_fill 109 = .ok (.aload 4, 2) := by decide +kernel
theorem dX2_fill_111 : decode cX2_fill 111 = .ok (.invokevirtual 203, 3) := by decide +kernel
theorem dX2_fill_114 : decode cX2_fill 114 = .ok (.aload 4, 2) := by decide +kernel
theorem dX2_fill_116 : decode cX2_fill 116 = .ok (.getfield 206, 3) := by decide +kernel
theorem dX2_fill_119 : decode cX2_fill 119 = .ok (.iload_n 2, 1) := by decide +kernel
theorem dX2_fill_120 : decode cX2_fill 120 = .ok (.dup2, 1) := by decide +kernel
theorem dX2_fill_121 : decode cX2_fill 121 = .ok (.iaload, 1) := by decide +kernel
theorem dX2_fill_122 : decode cX2_fill 122 = .ok (.iload_n 3, 1) := by decide +kernel
theorem dX2_fill_123 : decode cX2_fill 123 = .ok (.iadd, 1) := by decide +kernel
theorem dX2_fill_124 : decode cX2_fill 124 = .ok (.iastore, 1) := by decide +kernel
theorem dX2_fill_125 : decode cX2_fill 125 = .ok (.aload 4, 2) := by decide +kernel
theorem dX2_fill_127 : decode cX2_fill 127 = .ok (.invokevirtual 172, 3) := by decide +kernel
theorem dX2_fill_130 : decode cX2_fill 130 = .ok (.ireturn, 1) := by decide +kernel
set_option maxRecDepth 20000 in
theorem ggX2_rack_X2_isCask : GoodIn wsX2_rack wsX2_isCask := goodIn_r _ [16, 17, 53, 54, 55, 56, 57, 58, 59, 60, 61, 62, 63, 64, 65, 66, 67, 68, 69] (by decide +kernel) (by decide +kernel)
set_option maxRecDepth 20000 in
theorem gX2_rack_X2_isCask : GoodIn wsX2_rack (wsV RX2 141 RX2 yX2_isCask wsX2_isCask) := goodIn_app (goodIn_of _ (by decide +kernel)) ggX2_rack_X2_isCask
set_option maxRecDepth 20000 in
theorem ggX2_rack_X1_held : GoodIn wsX2_rack wsX1_held := goodIn_r _ [22, 23, 70, 71, 72, 73, 74, 75, 76, 77, 78, 79, 80] (by decide +kernel) (by decide +kernel)
set_option maxRecDepth 20000 in
theorem gX2_rack_X1_held : GoodIn wsX2_rack (wsV RX2 172 RX1 yX1_held wsX1_held) := goodIn_app (goodIn_of _ (by decide +kernel)) ggX2_rack_X1_held
set_option maxRecDepth 20000 in
theorem ggX2_rack_X1_clear : GoodIn wsX2_rack wsX1_clear := goodIn_r _ [27, 28, 29, 30, 31, 32, 33, 34, 35, 23, 36, 37, 38, 39, 70, 71, 72, 73, 74, 75, 76, 77, 78, 79, 80] (by decide +kernel) (by decide +kernel)
set_option maxRecDepth 20000 in
theorem gX2_rack_X1_clear : GoodIn wsX2_rack (wsV RX2 189 RX1 yX1_clear wsX1_clear) := goodIn_app (goodIn_of _ (by decide +kernel)) ggX2_rack_X1_clear
set_option maxRecDepth 20000 in
theorem ggX2_rack_X1_countFilling : GoodIn wsX2_rack wsX1_countFilling := goodIn_r _ [43, 32, 44, 19, 20, 21, 22, 23, 70, 71, 72, 73, 74, 75, 76, 77, 78, 79, 80] (by decide +kernel) (by decide +kernel)
set_option maxRecDepth 20000 in
theorem gX2_rack_X1_countFilling : GoodIn wsX2_rack (wsV RX2 203 RX1 yX1_countFilling wsX1_countFilling) := goodIn_app (goodIn_of _ (by decide +kernel)) ggX2_rack_X1_countFilling
set_option maxRecDepth 20000 in
theorem ggX2_rack_X1_moveTo : GoodIn wsX2_rack wsX1_moveTo := goodIn_r _ [48, 23, 34, 49, 50, 51, 21, 52, 70, 71, 72, 73, 74, 75, 76, 77, 78, 79, 80] (by decide +kernel) (by decide +kernel)
set_option maxRecDepth 20000 in
theorem gX2_rack_X1_moveTo : GoodIn wsX2_rack (wsV RX2 217 RX1 yX1_moveTo wsX1_moveTo) := goodIn_app (goodIn_of _ (by decide +kernel)) ggX2_rack_X1_moveTo
theorem dX2_rack_0 : decode cX2_rack 0 = .ok (.iload_n 2, 1) := by decide +kernel
theorem dX2_rack_1 : decode cX2_rack 1 = .ok (.iconst (-1), 1) := by decide +kernel
theorem dX2_rack_2 : decode cX2_rack 2 = .ok (.if_icmp .ne 7, 3) := by decide +kernel
theorem dX2_rack_5 : decode cX2_rack 5 = .ok (.iconst 1, 1) := by decide +kernel
theorem dX2_rack_6 : decode cX2_rack 6 = .ok (.goto 4, 3) := by decide +kernel
theorem dX2_rack_9 : decode cX2_rack 9 = .ok (.iconst 0, 1) := by decide +kernel
theorem dX2_rack_10 : decode cX2_rack 10 = .ok (.istore 4, 2) := by decide +kernel
theorem dX2_rack_12 : decode cX2_rack 12 = .ok (.aload_n 0, 1) := by decide +kernel
theorem dX2_rack_13 : decode cX2_rack 13 = .ok (.iload_n 1, 1) := by decide +kernel
theorem dX2_rack_14 : decode cX2_rack 14 = .ok (.invokevirtual 141, 3) := by decide +kernel
theorem dX2_rack_17 : decode cX2_rack 17 = .ok (.ifCond .eq 16, 3) := by decide +kernel
theorem dX2_rack_20 : decode cX2_rack 20 = .ok (.iload 4, 2) := by decide +kernel
theorem dX2_rack_22 : decode cX2_rack 22 = .ok (.ifCond .ne 21, 3) := by decide +kernel
theorem dX2_rack_25 : decode cX2_rack 25 = .ok (.aload_n 0, 1) := by decide +kernel
theorem dX2_rack_26 : decode cX2_rack 26 = .ok (.iload_n 2, 1) := by decide +kernel
theorem dX2_rack_27 : decode cX2_rack 27 = .ok (.invokevirtual 141, 3) := by decide +kernel
theorem dX2_rack_30 : decode cX2_rack 30 = .ok (.ifCond .ne 13, 3) := by decide +kernel
theorem dX2_rack_33 : decode cX2_rack 33 = .ok (.new 78, 3) := by decide +kernel
theorem dX2_rack_36 : decode cX2_rack 36 = .ok (.dup, 1) := by decide +kernel
theorem dX2_rack_37 : decode cX2_rack 37 = .ok (.ldc 144, 2) := by decide +kernel
theorem dX2_rack_39 : decode cX2_rack 39 = .ok (.invokespecial 82, 3) := by decide +kernel
theorem dX2_rack_42 : decode cX2_rack 42 = .ok (.athrow, 1) := by decide +kernel
theorem dX2_rack_43 : decode cX2_rack 43 = .ok (.iload_n 1, 1) := by decide +kernel
theorem dX2_rack_44 : decode cX2_rack 44 = .ok (.iload_n 2, 1) := by decide +kernel
theorem dX2_rack_45 : decode cX2_rack 45 = .ok (.if_icmp .ne 13, 3) := by decide +kernel
theorem dX2_rack_48 : decode cX2_rack 48 = .ok (.new 57, 3) := by decide +kernel
theorem dX2_rack_51 : decode cX2_rack 51 = .ok (.dup, 1) := by decide +kernel
theorem dX2_rack_52 : decode cX2_rack 52 = .ok (.ldc 209, 2) := by decide +kernel
theorem dX2_rack_54 : decode cX2_rack 54 = .ok (.invokespecial 61, 3) := by decide +kernel
theorem dX2_rack_57 : decode cX2_rack 57 = .ok (.athrow, 1) := by decide +kernel
theorem dX2_rack_58 : decode cX2_rack 58 = .ok (.iload_n 3, 1) := by decide +kernel
theorem dX2_rack_59 : decode cX2_rack 59 = .ok (.iconst 1, 1) := by decide +kernel
theorem dX2_rack_60 : decode cX2_rack 60 = .ok (.if_icmp .lt 9, 3) := by decide +kernel
theorem dX2_rack_63 : decode cX2_rack 63 = .ok (.iload_n 3, 1) := by decide +kernel
theorem dX2_rack_64 : decode cX2_rack 64 = .ok (.ldc 87, 2) := by decide +kernel
theorem dX2_rack_66 : decode cX2_rack 66 = .ok (.if_icmp .le 13, 3) := by decide +kernel
theorem dX2_rack_69 : decode cX2_rack 69 = .ok (.new 57, 3) := by decide +kernel
theorem dX2_rack_72 : decode cX2_rack 72 = .ok (.dup, 1) := by decide +kernel
theorem dX2_rack_73 : decode cX2_rack 73 = .ok (.ldc 199, 2) := by decide +kernel
theorem dX2_rack_75 : decode cX2_rack 75 = .ok (.invokespecial 61, 3) := by decide +kernel
theorem dX2_rack_78 : decode cX2_rack 78 = .ok (.athrow, 1) := by decide +kernel
theorem dX2_rack_79 : decode cX2_rack 79 = .ok (.aload_n 0, 1) := by decide +kernel
theorem dX2_rack_80 : decode cX2_rack 80 = .ok (.getfield 30, 3) := by decide +kernel
theorem dX2_rack_83 : decode cX2_rack 83 = .ok (.iload_n 1, 1) := by decide +kernel
theorem dX2_rack_84 : decode cX2_rack 84 = .ok (.aaload, 1) := by decide +kernel
theorem dX2_rack_85 : decode cX2_rack 85 = .ok (.astore 5, 2) := by decide +kernel
theorem dX2_rack_87 : decode cX2_rack 87 = .ok (.iload 4, 2) := by decide +kernel
theorem dX2_rack_89 : decode cX2_rack 89 = .ok (.ifCond .eq 10, 3) := by decide +kernel
theorem dX2_rack_92 : decode cX2_rack 92 = .ok (.aload_n 0, 1) := by decide +kernel
theorem dX2_rack_93 : decode cX2_rack 93 = .ok (.getfield 35, 3) := by decide +kernel
theorem dX2_rack_96 : decode cX2_rack 96 = .ok (.goto 9, 3) := by decide +kernel
theorem dX2_rack_99 : decode cX2_rack 99 = .ok (.aload_n 0, 1) := by decide +kernel
theorem dX2_rack_100 : decode cX2_rack 100 = .ok (.getfield 30, 3) := by decide +kernel
theorem dX2_rack_103 : decode cX2_rack 103 = .ok (.iload_n 2, 1) := by decide +kernel
theorem dX2_rack_104 : decode cX2_rack 104 = .ok (.aaload, 1) := by decide +kernel
theorem dX2_rack_105 : decode cX2_rack 105 = .ok (.astore 6, 2) := by decide +kernel
theorem dX2_rack_107 : decode cX2_rack 107 = .ok (.aload 5, 2) := by decide +kernel
theorem dX2_rack_109 : decode cX2_rack 109 = .ok (.getfield 127, 3) := by decide +kernel
theorem dX2_rack_112 : decode cX2_rack 112 = .ok (.ifCond .eq 16, 3) := by decide +kernel
theorem dX2_rack_115 : decode cX2_rack 115 = .ok (.iload 4, 2) := by decide +kernel
theorem dX2_rack_117 : decode cX2_rack 117 = .ok (.ifCond .ne 21, 3) := by decide +kernel
theorem dX2_rack_120 : decode cX2_rack 120 = .ok (.aload 6, 2) := by decide +kernel
theorem dX2_rack_122 : decode cX2_rack 122 = .ok (.getfield 127, 3) := by decide +kernel
theorem dX2_rack_125 : decode cX2_rack 125 = .ok (.ifCond .ne 13, 3) := by decide +kernel
theorem dX2_rack_128 : decode cX2_rack 128 = .ok (.new 69, 3) := by decide +kernel
theorem dX2_rack_131 : decode cX2_rack 131 = .ok (.dup, 1) := by decide +kernel
theorem dX2_rack_132 : decode cX2_rack 132 = .ok (.ldc 211, 2) := by decide +kernel
theorem dX2_rack_134 : decode cX2_rack 134 = .ok (.invokespecial 73, 3) := by decide +kernel
theorem dX2_rack_137 : decode cX2_rack 137 = .ok (.athrow, 1) := by decide +kernel
theorem dX2_rack_138 : decode cX2_rack 138 = .ok (.aload 5, 2) := by decide +kernel
theorem dX2_rack_140 : decode cX2_rack 140 = .ok (.invokevirtual 172, 3) := by decide +kernel
theorem dX2_rack_143 : decode cX2_rack 143 = .ok (.istore 7, 2) := by decide +kernel
theorem dX2_rack_145 : decode cX2_rack 145 = .ok (.iload 7, 2) := by decide +kernel
theorem dX2_rack_147 : decode cX2_rack 147 = .ok (.iload_n 3, 1) := by decide +kernel
theorem dX2_rack_148 : decode cX2_rack 148 = .ok (.if_icmp .ge 13, 3) := by decide +kernel
theorem dX2_rack_151 : decode cX2_rack 151 = .ok (.new 69, 3) := by decide +kernel
theorem dX2_rack_154 : decode cX2_rack 154 = .ok (.dup, 1) := by decide +kernel
theorem dX2_rack_155 : decode cX2_rack 155 = .ok (.ldc 213, 2) := by decide +kernel
theorem dX2_rack_157 : decode cX2_rack 157 = .ok (.invokespecial 73, 3) := by decide +kernel
theorem dX2_rack_160 : decode cX2_rack 160 = .ok (.athrow, 1) := by decide +kernel
theorem dX2_rack_161 : decode cX2_rack 161 = .ok (.iload 4, 2) := by decide +kernel
theorem dX2_rack_163 : decode cX2_rack 163 = .ok (.ifCond .ne 28, 3) := by decide +kernel
theorem dX2_rack_166 : decode cX2_rack 166 = .ok (.aload 6, 2) := by decide +kernel
theorem dX2_rack_168 : decode cX2_rack 168 = .ok (.invokevirtual 172, 3) := by decide +kernel
theorem dX2_rack_171 : decode cX2_rack 171 = .ok (.iload_n 3, 1) := by decide +kernel
theorem dX2_rack_172 : decode cX2_rack 172 = .ok (.iadd, 1) := by decide +kernel
theorem dX2_rack_173 : decode cX2_rack 173 = .ok (.aload 6, 2) := by decide +kernel
theorem dX2_rack_175 : decode cX2_rack 175 = .ok (.getfield 124, 3) := by decide +kernel
theorem dX2_rack_178 : decode cX2_rack 178 = .ok (.if_icmp .le 13, 3) := by decide +kernel
theorem dX2_rack_181 : decode cX2_rack 181 = .ok (.new 69, 3) := by decide +kernel
theorem dX2_rack_184 : decode cX2_rack 184 = .ok (.dup, 1) := by decide +kernel
theorem dX2_rack_185 : decode cX2_rack 185 = .ok (.ldc 215, 2) := by decide +kernel
theorem dX2_rack_187 : decode cX2_rack 187 = .ok (.invokespecial 73, 3) := by decide +kernel
theorem dX2_rack_190 : decode cX2_rack 190 = .ok (.athrow, 1) := by decide +kernel
theorem dX2_rack_191 : decode cX2_rack 191 = .ok (.iload 4, 2) := by decide +kernel
theorem dX2_rack_193 : decode cX2_rack 193 = .ok (.ifCond .eq 10, 3) := by decide +kernel
theorem dX2_rack_196 : decode cX2_rack 196 = .ok (.aload_n 0, 1) := by decide +kernel
theorem dX2_rack_197 : decode cX2_rack 197 = .ok (.getfield 35, 3) := by decide +kernel
theorem dX2_rack_200 : decode cX2_rack 200 = .ok (.invokevirtual 189, 3) := by decide +kernel
theorem dX2_rack_203 : decode cX2_rack 203 = .ok (.aload 6, 2) := by decide +kernel
theorem dX2_rack_205 : decode cX2_rack 205 = .ok (.invokevirtual 203, 3) := by decide +kernel
theorem dX2_rack_208 : decode cX2_rack 208 = .ok (.aload 5, 2) := by decide +kernel
theorem dX2_rack_210 : decode cX2_rack 210 = .ok (.aload 6, 2) := by decide +kernel
theorem dX2_rack_212 : decode cX2_rack 212 = .ok (.iload_n 3, 1) := by decide +kernel
theorem dX2_rack_213 : decode cX2_rack 213 = .ok (.iload 7, 2) := by decide +kernel
theorem dX2_rack_215 : decode cX2_rack 215 = .ok (.invokevirtual 217, 3) := by decide +kernel
theorem dX2_rack_218 : decode cX2_rack 218 = .ok (.aload 5, 2) := by decide +kernel
theorem dX2_rack_220 : decode cX2_rack 220 = .ok (.invokevirtual 172, 3) := by decide +kernel
theorem dX2_rack_223 : decode cX2_rack 223 = .ok (.ireturn, 1) := by decide +kernel
theorem dX2_setWarmth_0 : decode cX2_setWarmth 0 = .ok (.iload_n 1, 1) := by decide +kernel
theorem dX2_setWarmth_1 : decode cX2_setWarmth 1 = .ok (.ifCond .lt 9, 3) := by decide +kernel
theorem dX2_setWarmth_4 : decode cX2_setWarmth 4 = .ok (.iload_n 1, 1) := by decide +kernel
theorem dX2_setWarmth_5 : decode cX2_setWarmth 5 = .ok (.bipush 9, 2) := by decide +kernel
theorem dX2_setWarmth_7 : decode cX2_setWarmth 7 = .ok (.if_icmp .le 13, 3) := by decide +kernel
theorem dX2_setWarmth_10 : decode cX2_setWarmth 10 = .ok (.new 57, 3) := by decide +kernel
theorem dX2_setWarmth_13 : decode cX2_setWarmth 13 = .ok (.dup, 1) := by decide +kernel
theorem dX2_setWarmth_14 : decode cX2_setWarmth 14 = .ok (.ldc 221, 2) := by decide +kernel
theorem dX2_setWarmth_16 : decode cX2_setWarmth 16 = .ok (.invokespecial 61, 3) := by decide +kernel
theorem dX2_setWarmth_19 : decode cX2_setWarmth 19 = .ok (.athrow, 1) := by decide +kernel
theorem dX2_setWarmth_20 : decode cX2_setWarmth 20 = .ok (.aload_n 0, 1) := by decide +kernel
theorem dX2_setWarmth_21 : decode cX2_setWarmth 21 = .ok (.getfield 53, 3) := by decide +kernel
theorem dX2_setWarmth_24 : decode cX2_setWarmth 24 = .ok (.istore_n 2, 1) := by decide +kernel
theorem dX2_setWarmth_25 : decode cX2_setWarmth 25 = .ok (.aload_n 0, 1) := by decide +kernel
theorem dX2_setWarmth_26 : decode cX2_setWarmth 26 = .ok (.iload_n 1, 1) := by decide +kernel
theorem dX2_setWarmth_27 : decode cX2_setWarmth 27 = .ok (.putfield 53, 3) := by decide +kernel
theorem dX2_setWarmth_30 : decode cX2_setWarmth 30 = .ok (.iload_n 2, 1) := by decide +kernel
theorem dX2_setWarmth_31 : decode cX2_setWarmth 31 = .ok (.ireturn, 1) := by decide +kernel
set_option maxRecDepth 20000 in
theorem ggX2_pass_X2_liveMonth : GoodIn wsX2_pass wsX2_liveMonth := goodIn_r _ [11, 12, 13, 14, 15, 16, 17, 18, 19, 20, 21, 5, 22, 23, 10, 24, 25, 26, 27, 28, 29, 30, 31, 32, 33, 34, 35, 36, 37, 38, 39, 40, 41, 42, 43, 44, 45, 46, 47, 48, 49, 50, 51, 52, 53, 54, 55, 56, 57, 58, 59, 60, 61, 62, 63, 64, 65, 66, 67, 68, 69, 70, 71, 72, 73, 74, 75, 76, 77, 78, 79, 80, 81, 82, 83, 84, 85, 86, 87, 88, 89, 90, 91, 92, 93, 94, 95, 96, 97, 98, 99, 100, 101, 102, 103, 104, 105, 106, 107, 108, 109, 110, 111, 112, 113] (by decide +kernel) (by decide +kernel)
set_option maxRecDepth 20000 in
theorem gX2_pass_X2_liveMonth : GoodIn wsX2_pass (wsV RX2 230 RX2 yX2_liveMonth wsX2_liveMonth) := goodIn_app (goodIn_of _ (by decide +kernel)) ggX2_pass_X2_liveMonth
theorem dX2_pass_0 : decode cX2_pass 0 = .ok (.iload_n 1, 1) := by decide +kernel
theorem dX2_pass_1 : decode cX2_pass 1 = .ok (.iconst 1, 1) := by decide +kernel
theorem dX2_pass_2 : decode cX2_pass 2 = .ok (.if_icmp .lt 9, 3) := by decide +kernel
theorem dX2_pass_5 : decode cX2_pass 5 = .ok (.iload_n 1, 1) := by decide +kernel
theorem dX2_pass_6 : decode cX2_pass 6 = .ok (.bipush 60, 2) := by decide +kernel
theorem dX2_pass_8 : decode cX2_pass 8 = .ok (.if_icmp .le 13, 3) := by decide +kernel
theorem dX2_pass_11 : decode cX2_pass 11 = .ok (.new 57, 3) := by decide +kernel
theorem dX2_pass_14 : decode cX2_pass 14 = .ok (.dup, 1) := by decide +kernel
theorem dX2_pass_15 : decode cX2_pass 15 = .ok (.ldc 223, 2) := by decide +kernel
theorem dX2_pass_17 : decode cX2_pass 17 = .ok (.invokespecial 61, 3) := by decide +kernel
theorem dX2_pass_20 : decode cX2_pass 20 = .ok (.athrow, 1) := by decide +kernel
theorem dX2_pass_21 : decode cX2_pass 21 = .ok (.aload_n 0, 1) := by decide +kernel
theorem dX2_pass_22 : decode cX2_pass 22 = .ok (.getfield 225, 3) := by decide +kernel
theorem dX2_pass_25 : decode cX2_pass 25 = .ok (.iload_n 1, 1) := by decide +kernel
theorem dX2_pass_26 : decode cX2_pass 26 = .ok (.iadd, 1) := by decide +kernel
theorem dX2_pass_27 : decode cX2_pass 27 = .ok (.sipush 1200, 3) := by decide +kernel
theorem dX2_pass_30 : decode cX2_pass 30 = .ok (.if_icmp .le 13, 3) := by decide +kernel
theorem dX2_pass_33 : decode cX2_pass 33 = .ok (.new 69, 3) := by decide +kernel
theorem dX2_pass_36 : decode cX2_pass 36 = .ok (.dup, 1) := by decide +kernel
theorem dX2_pass_37 : decode cX2_pass 37 = .ok (.ldc 228, 2) := by decide +kernel
theorem dX2_pass_39 : decode cX2_pass 39 = .ok (.invokespecial 73, 3) := by decide +kernel
theorem dX2_pass_42 : decode cX2_pass 42 = .ok (.athrow, 1) := by decide +kernel
theorem dX2_pass_43 : decode cX2_pass 43 = .ok (.iconst 0, 1) := by decide +kernel
theorem dX2_pass_44 : decode cX2_pass 44 = .ok (.istore_n 2, 1) := by decide +kernel
theorem dX2_pass_45 : decode cX2_pass 45 = .ok (.iconst 0, 1) := by decide +kernel
theorem dX2_pass_46 : decode cX2_pass 46 = .ok (.istore_n 3, 1) := by decide +kernel
theorem dX2_pass_47 : decode cX2_pass 47 = .ok (.iload_n 3, 1) := by decide +kernel
theorem dX2_pass_48 : decode cX2_pass 48 = .ok (.iload_n 1, 1) := by decide +kernel
theorem dX2_pass_49 : decode cX2_pass 49 = .ok (.if_icmp .ge 16, 3) := by decide +kernel
theorem dX2_pass_52 : decode cX2_pass 52 = .ok (.iload_n 2, 1) := by decide +kernel
theorem dX2_pass_53 : decode cX2_pass 53 = .ok (.aload_n 0, 1) := by decide +kernel
theorem dX2_pass_54 : decode cX2_pass 54 = .ok (.invokevirtual 230, 3) := by decide +kernel
theorem dX2_pass_57 : decode cX2_pass 57 = .ok (.iadd, 1) := by decide +kernel
theorem dX2_pass_58 : decode cX2_pass 58 = .ok (.istore_n 2, 1) := by decide +kernel
theorem dX2_pass_59 : decode cX2_pass 59 = .ok (.iinc 3 1, 3) := by decide +kernel
theorem dX2_pass_62 : decode cX2_pass 62 = .ok (.goto (-15), 3) := by decide +kernel
theorem dX2_pass_65 : decode cX2_pass 65 = .ok (.aload_n 0, 1) := by decide +kernel
theorem dX2_pass_66 : decode cX2_pass 66 = .ok (.dup, 1) := by decide +kernel
theorem dX2_pass_67 : decode cX2_pass 67 = .ok (.getfield 233, 3) := by decide +kernel
theorem dX2_pass_70 : decode cX2_pass 70 = .ok (.iload_n 2, 1) := by decide +kernel
theorem dX2_pass_71 : decode cX2_pass 71 = .ok (.iadd, 1) := by decide +kernel
theorem dX2_pass_72 : decode cX2_pass 72 = .ok (.putfield 233, 3) := by decide +kernel
theorem dX2_pass_75 : decode cX2_pass 75 = .ok (.iload_n 2, 1) := by decide +kernel
theorem dX2_pass_76 : decode cX2_pass 76 = .ok (.ireturn, 1) := by decide +kernel
set_option maxRecDepth 20000 in
theorem ggX2_count_X2_stavesAt : GoodIn wsX2_count wsX2_stavesAt := goodIn_r _ [13, 4, 14, 36, 37, 38, 39, 40, 41, 42, 43, 44, 45, 46, 47, 48, 49, 50, 51, 52] (by decide +kernel) (by decide +kernel)
set_option maxRecDepth 20000 in
theorem gX2_count_X2_stavesAt : GoodIn wsX2_count (wsV RX2 238 RX2 yX2_stavesAt wsX2_stavesAt) := goodIn_app (goodIn_of _ (by decide +kernel)) ggX2_count_X2_stavesAt
set_option maxRecDepth 20000 in
theorem ggX2_count_X2_soundCasks : GoodIn wsX2_count wsX2_soundCasks := goodIn_r _ [18, 6, 19, 20, 36, 37, 38, 39, 40, 41, 42, 43, 44, 45, 46, 47, 48, 49, 50, 51, 52, 53, 54, 55, 56, 57, 58, 59, 60, 61, 62, 63] (by decide +kernel) (by decide +kernel)
set_option maxRecDepth 20000 in
theorem gX2_count_X2_soundCasks : GoodIn wsX2_count (wsV RX2 241 RX2 yX2_soundCasks wsX2_soundCasks) := goodIn_app (goodIn_of _ (by decide +kernel)) ggX2_count_X2_soundCasks
set_option maxRecDepth 20000 in
theorem ggX2_count_X2_heldByAll : GoodIn wsX2_count wsX2_heldByAll := goodIn_r _ [24, 6, 19, 25, 26, 27, 28, 29, 30, 36, 37, 38, 39, 40, 41, 42, 43, 44, 45, 46, 47, 48, 49, 50, 51, 52, 53, 54, 55, 56, 57, 58, 59, 60, 61, 62, 63] (by decide +kernel) (by decide +kernel)
set_option maxRecDepth 20000 in
theorem gX2_count_X2_heldByAll : GoodIn wsX2_count (wsV RX2 244 RX2 yX2_heldByAll wsX2_heldByAll) := goodIn_app (goodIn_of _ (by decide +kernel)) ggX2_count_X2_heldByAll
set_option maxRecDepth 20000 in
theorem ggX2_count_X2_vinegarOfAll : GoodIn wsX2_count wsX2_vinegarOfAll := goodIn_r _ [34, 6, 19, 35, 36, 37, 38, 39, 40, 41, 42, 43, 44, 45, 46, 47, 48, 49, 50, 51, 52, 53, 54, 55, 56, 57, 58, 59, 60, 61, 62, 63] (by decide +kernel) (by decide +kernel)
set_option maxRecDepth 20000 in
theorem gX2_count_X2_vinegarOfAll : GoodIn wsX2_count (wsV RX2 247 RX2 yX2_vinegarOfAll wsX2_vinegarOfAll) := goodIn_app (goodIn_of _ (by decide +kernel)) ggX2_count_X2_vinegarOfAll
theorem dX2_count_0 : decode cX2_count 0 = .ok (.iload_n 1, 1) := by decide +kernel
theorem dX2_count_1 : decode cX2_count 1 = .ok (.ifCond .lt 9, 3) := by decide +kernel
theorem dX2_count_4 : decode cX2_count 4 = .ok (.iload_n 1, 1) := by decide +kernel
theorem dX2_count_5 : decode cX2_count 5 = .ok (.bipush 10, 2) := by decide +kernel
theorem dX2_count_7 : decode cX2_count 7 = .ok (.if_icmp .lt 13, 3) := by decide +kernel
theorem dX2_count_10 : decode cX2_count 10 = .ok (.new 78, 3) := by decide +kernel
theorem dX2_count_13 : decode cX2_count 13 = .ok (.dup, 1) := by decide +kernel
theorem dX2_count_14 : decode cX2_count 14 = .ok (.ldc 236, 2) := by decide +kernel
theorem dX2_count_16 : decode cX2_count 16 = .ok (.invokespecial 82, 3) := by decide +kernel
theorem dX2_count_19 : decode cX2_count 19 = .ok (.athrow, 1) := by decide +kernel
theorem dX2_count_20 : decode cX2_count 20 = .ok (.iload_n 1, 1) := by decide +kernel
theorem dX2_count_21 : decode cX2_count 21 = .ok (.tableswitch 97 0 8 #[51, 56, 61, 67, 72, 77, 82, 87, 92], 51) := by decide +kernel
theorem dX2_count_72 : decode cX2_count 72 = .ok (.aload_n 0, 1) := by decide +kernel
theorem dX2_count_73 : decode cX2_count 73 = .ok (.getfield 225, 3) := by decide +kernel
theorem dX2_count_76 : decode cX2_count 76 = .ok (.ireturn, 1) := by decide +kernel
theorem dX2_count_77 : decode cX2_count 77 = .ok (.aload_n 0, 1) := by decide +kernel
theorem dX2_count_78 : decode cX2_count 78 = .ok (.getfield 66, 3) := by decide +kernel
theorem dX2_count_81 : decode cX2_count 81 = .ok (.ireturn, 1) := by decide +kernel
theorem dX2_count_82 : decode cX2_count 82 = .ok (.aload_n 0, 1) := by decide +kernel
theorem dX2_count_83 : decode cX2_count 83 = .ok (.iconst (-1), 1) := by decide +kernel
theorem dX2_count_84 : decode cX2_count 84 = .ok (.invokevirtual 238, 3) := by decide +kernel
theorem dX2_count_87 : decode cX2_count 87 = .ok (.ireturn, 1) := by decide +kernel
theorem dX2_count_88 : decode cX2_count 88 = .ok (.aload_n 0, 1) := by decide +kernel
theorem dX2_count_89 : decode cX2_count 89 = .ok (.getfield 92, 3) := by decide +kernel
theorem dX2_count_92 : decode cX2_count 92 = .ok (.ireturn, 1) := by decide +kernel
theorem dX2_count_93 : decode cX2_count 93 = .ok (.aload_n 0, 1) := by decide +kernel
theorem dX2_count_94 : decode cX2_count 94 = .ok (.getfield 114, 3) := by decide +kernel
theorem dX2_count_97 : decode cX2_count 97 = .ok (.ireturn, 1) := by decide +kernel
theorem dX2_count_98 : decode cX2_count 98 = .ok (.aload_n 0, 1) := by decide +kernel
theorem dX2_count_99 : decode cX2_count 99 = .ok (.invokevirtual 241, 3) := by decide +kernel
theorem dX2_count_102 : decode cX2_count 102 = .ok (.ireturn, 1) := by decide +kernel
theorem dX2_count_103 : decode cX2_count 103 = .ok (.aload_n 0, 1) := by decide +kernel
theorem dX2_count_104 : decode cX2_count 104 = .ok (.invokevirtual 244, 3) := by decide +kernel
theorem dX2_count_107 : decode cX2_count 107 = .ok (.ireturn, 1) := by decide +kernel
theorem dX2_count_108 : decode cX2_count 108 = .ok (.aload_n 0, 1) := by decide +kernel
theorem dX2_count_109 : decode cX2_count 109 = .ok (.invokevirtual 247, 3) := by decide +kernel
theorem dX2_count_112 : decode cX2_count 112 = .ok (.ireturn, 1) := by decide +kernel
theorem dX2_count_113 : decode cX2_count 113 = .ok (.aload_n 0, 1) := by decide +kernel
theorem dX2_count_114 : decode cX2_count 114 = .ok (.getfield 233, 3) := by decide +kernel
theorem dX2_count_117 : decode cX2_count 117 = .ok (.ireturn, 1) := by decide +kernel
theorem dX2_count_118 : decode cX2_count 118 = .ok (.aload_n 0, 1) := by decide +kernel
theorem dX2_count_119 : decode cX2_count 119 = .ok (.getfield 53, 3) := by decide +kernel
theorem dX2_count_122 : decode cX2_count 122 = .ok (.ireturn, 1) := by decide +kernel
set_option maxRecDepth 20000 in
theorem ggX2_foresee_X2_isCask : GoodIn wsX2_foresee wsX2_isCask := goodIn_r _ [17, 18, 98, 99, 100, 101, 102, 103, 104, 105, 106, 107, 108, 109, 110, 111, 112, 113, 114] (by decide +kernel) (by decide +kernel)
set_option maxRecDepth 20000 in
theorem gX2_foresee_X2_isCask : GoodIn wsX2_foresee (wsV RX2 141 RX2 yX2_isCask wsX2_isCask) := goodIn_app (goodIn_of _ (by decide +kernel)) ggX2_foresee_X2_isCask
set_option maxRecDepth 20000 in
theorem ggX2_foresee_X1_copyFrom : GoodIn wsX2_foresee wsX1_copyFrom := goodIn_r _ [23, 24, 25, 26, 27, 28, 29, 30, 31, 32, 33, 34, 35, 36, 37, 38, 115, 116, 117, 118, 119, 120, 121, 122, 123, 124, 125] (by decide +kernel) (by decide +kernel)
set_option maxRecDepth 20000 in
theorem gX2_foresee_X1_copyFrom : GoodIn wsX2_foresee (wsV RX2 252 RX1 yX1_copyFrom wsX1_copyFrom) := goodIn_app (goodIn_of _ (by decide +kernel)) ggX2_foresee_X1_copyFrom
set_option maxRecDepth 20000 in
theorem ggX2_foresee_X2_hoopsLoosenIn : GoodIn wsX2_foresee wsX2_hoopsLoosenIn := goodIn_r _ [41] (by decide +kernel) (by decide +kernel)
set_option maxRecDepth 20000 in
theorem gX2_foresee_X2_hoopsLoosenIn : GoodIn wsX2_foresee (va_wsS RX2 256 yX2_hoopsLoosenIn wsX2_hoopsLoosenIn) := goodIn_app (goodIn_of _ (by decide +kernel)) ggX2_foresee_X2_hoopsLoosenIn
set_option maxRecDepth 20000 in
theorem ggX2_foresee_X1_live : GoodIn wsX2_foresee wsX1_live := goodIn_r _ [45, 26, 46, 47, 48, 22, 49, 30, 32, 50, 51, 52, 53, 38, 54, 55, 56, 57, 25, 29, 58, 59, 60, 61, 62, 63, 64, 65, 66, 67, 68, 27, 69, 70, 71, 72, 33, 73, 74, 75, 76, 77, 78, 79, 80, 81, 82, 83, 84, 85, 86, 87, 31, 88, 89, 90, 91, 92, 93, 94, 95, 115, 116, 117, 118, 119, 120, 121, 122, 123, 124, 125] (by decide +kernel) (by decide +kernel)
set_option maxRecDepth 20000 in
theorem gX2_foresee_X1_live : GoodIn wsX2_foresee (wsV RX2 259 RX1 yX1_live wsX1_live) := goodIn_app (goodIn_of _ (by decide +kernel)) ggX2_foresee_X1_live
set_option maxRecDepth 20000 in
theorem ggX2_foresee_X1_held : GoodIn wsX2_foresee wsX1_held := goodIn_r _ [53, 38, 115, 116, 117, 118, 119, 120, 121, 122, 123, 124, 125] (by decide +kernel) (by decide +kernel)
set_option maxRecDepth 20000 in
theorem gX2_foresee_X1_held : GoodIn wsX2_foresee (wsV RX2 172 RX1 yX1_held wsX1_held) := goodIn_app (goodIn_of _ (by decide +kernel)) ggX2_foresee_X1_held
set_option maxRecDepth 20000 in
theorem ggX2_foresee_X1_leak : GoodIn wsX2_foresee wsX1_leak := goodIn_r _ [68, 26, 27, 29, 62, 63, 60, 64, 69, 70, 71, 22, 72, 33, 115, 116, 117, 118, 119, 120, 121, 122, 123, 124, 125] (by decide +kernel) (by decide +kernel)
set_option maxRecDepth 20000 in
theorem gX2_foresee_X1_leak : GoodIn wsX2_foresee (wsV RX2 266 RX1 yX1_leak wsX1_leak) := goodIn_app (goodIn_of _ (by decide +kernel)) ggX2_foresee_X1_leak
theorem dX2_foresee_0 : decode cX2_foresee 0 = .ok (.aload_n 0, 1) := by decide +kernel
theorem dX2_foresee_1 : decode cX2_foresee 1 = .ok (.iload_n 1, 1) := by decide +kernel
theorem dX2_foresee_2 : decode cX2_foresee 2 = .ok (.invokevirtual 141, 3) := by decide +kernel
theorem dX2_foresee_5 : decode cX2_foresee 5 = .ok (.ifCond .ne 13, 3) := by decide +kernel
theorem dX2_foresee_8 : decode cX2_foresee 8 = .ok (.new 78, 3) := by decide +kernel
theorem dX2_foresee_11 : decode cX2_foresee 11 = .ok (.dup, 1) := by decide +kernel
theorem dX2_foresee_12 : decode cX2_foresee 12 = .ok (.ldc 144, 2) := by decide +kernel
theorem dX2_foresee_14 : decode cX2_foresee 14 = .ok (.invokespecial 82, 3) := by decide +kernel
theorem dX2_foresee_17 : decode cX2_foresee 17 = .ok (.athrow, 1) := by decide +kernel
theorem dX2_foresee_18 : decode cX2_foresee 18 = .ok (.iload_n 3, 1) := by decide +kernel
theorem dX2_foresee_19 : decode cX2_foresee 19 = .ok (.ifCond .lt 8, 3) := by decide +kernel
theorem dX2_foresee_22 : decode cX2_foresee 22 = .ok (.iload_n 3, 1) := by decide +kernel
theorem dX2_foresee_23 : decode cX2_foresee 23 = .ok (.iconst 4, 1) := by decide +kernel
theorem dX2_foresee_24 : decode cX2_foresee 24 = .ok (.if_icmp .lt 13, 3) := by decide +kernel
theorem dX2_foresee_27 : decode cX2_foresee 27 = .ok (.new 78, 3) := by decide +kernel
theorem dX2_foresee_30 : decode cX2_foresee 30 = .ok (.dup, 1) := by decide +kernel
theorem dX2_foresee_31 : decode cX2_foresee 31 = .ok (.ldc 250, 2) := by decide +kernel
theorem dX2_foresee_33 : decode cX2_foresee 33 = .ok (.invokespecial 82, 3) := by decide +kernel
theorem dX2_foresee_36 : decode cX2_foresee 36 = .ok (.athrow, 1) := by decide +kernel
theorem dX2_foresee_37 : decode cX2_foresee 37 = .ok (.iload_n 2, 1) := by decide +kernel
theorem dX2_foresee_38 : decode cX2_foresee 38 = .ok (.iconst 1, 1) := by decide +kernel
theorem dX2_foresee_39 : decode cX2_foresee 39 = .ok (.if_icmp .lt 9, 3) := by decide +kernel
theorem dX2_foresee_42 : decode cX2_foresee 42 = .ok (.iload_n 2, 1) := by decide +kernel
theorem dX2_foresee_43 : decode cX2_foresee 43 = .ok (.bipush 60, 2) := by decide +kernel
theorem dX2_foresee_45 : decode cX2_foresee 45 = .ok (.if_icmp .le 13, 3) := by decide +kernel
theorem dX2_foresee_48 : decode cX2_foresee 48 = .ok (.new 57, 3) := by decide +kernel
theorem dX2_foresee_51 : decode cX2_foresee 51 = .ok (.dup, 1) := by decide +kernel
theorem dX2_foresee_52 : decode cX2_foresee 52 = .ok (.ldc 223, 2) := by decide +kernel
theorem dX2_foresee_54 : decode cX2_foresee 54 = .ok (.invokespecial 61, 3) := by decide +kernel
theorem dX2_foresee_57 : decode cX2_foresee 57 = .ok (.athrow, 1) := by decide +kernel
theorem dX2_foresee_58 : decode cX2_foresee 58 = .ok (.aload_n 0, 1) := by decide +kernel
theorem dX2_foresee_59 : decode cX2_foresee 59 = .ok (.getfield 225, 3) := by decide +kernel
theorem dX2_foresee_62 : decode cX2_foresee 62 = .ok (.iload_n 2, 1) := by decide +kernel
theorem dX2_foresee_63 : decode cX2_foresee 63 = .ok (.iadd, 1) := by decide +kernel
theorem dX2_foresee_64 : decode cX2_foresee 64 = .ok (.sipush 1200, 3) := by decide +kernel
theorem dX2_foresee_67 : decode cX2_foresee 67 = .ok (.if_icmp .le 13, 3) := by decide +kernel
theorem dX2_foresee_70 : decode cX2_foresee 70 = .ok (.new 69, 3) := by decide +kernel
theorem dX2_foresee_73 : decode cX2_foresee 73 = .ok (.dup, 1) := by decide +kernel
theorem dX2_foresee_74 : decode cX2_foresee 74 = .ok (.ldc 228, 2) := by decide +kernel
theorem dX2_foresee_76 : decode cX2_foresee 76 = .ok (.invokespecial 73, 3) := by decide +kernel
theorem dX2_foresee_79 : decode cX2_foresee 79 = .ok (.athrow, 1) := by decide +kernel
theorem dX2_foresee_80 : decode cX2_foresee 80 = .ok (.aload_n 0, 1) := by decide +kernel
theorem dX2_foresee_81 : decode cX2_foresee 81 = .ok (.getfield 35, 3) := by decide +kernel
theorem dX2_foresee_84 : decode cX2_foresee 84 = .ok (.aload_n 0, 1) := by decide +kernel
theorem dX2_foresee_85 : decode cX2_foresee 85 = .ok (.getfield 30, 3) := by decide +kernel
theorem dX2_foresee_88 : decode cX2_foresee 88 = .ok (.iload_n 1, 1) := by decide +kernel
theorem dX2_foresee_89 : decode cX2_foresee 89 = .ok (.aaload, 1) := by decide +kernel
theorem dX2_foresee_90 : decode cX2_foresee 90 = .ok (.invokevirtual 252, 3) := by decide +kernel
theorem dX2_foresee_93 : decode cX2_foresee 93 = .ok (.iconst 0, 1) := by decide +kernel
theorem dX2_foresee_94 : decode cX2_foresee 94 = .ok (.istore 4, 2) := by decide +kernel
theorem dX2_foresee_96 : decode cX2_foresee 96 = .ok (.iload 4, 2) := by decide +kernel
theorem dX2_foresee_98 : decode cX2_foresee 98 = .ok (.iload_n 2, 1) := by decide +kernel
theorem dX2_foresee_99 : decode cX2_foresee 99 = .ok (.if_icmp .ge 31, 3) := by decide +kernel
theorem dX2_foresee_102 : decode cX2_foresee 102 = .ok (.aload_n 0, 1) := by decide +kernel
theorem dX2_foresee_103 : decode cX2_foresee 103 = .ok (.getfield 35, 3) := by decide +kernel
theorem dX2_foresee_106 : decode cX2_foresee 106 = .ok (.aload_n 0, 1) := by decide +kernel
theorem dX2_foresee_107 : decode cX2_foresee 107 = .ok (.getfield 53, 3) := by decide +kernel
theorem dX2_foresee_110 : decode cX2_foresee 110 = .ok (.aload_n 0, 1) := by decide +kernel
theorem dX2_foresee_111 : decode cX2_foresee 111 = .ok (.getfield 225, 3) := by decide +kernel
theorem dX2_foresee_114 : decode cX2_foresee 114 = .ok (.iload 4, 2) := by decide +kernel
theorem dX2_foresee_116 : decode cX2_foresee 116 = .ok (.iadd, 1) := by decide +kernel
theorem dX2_foresee_117 : decode cX2_foresee 117 = .ok (.invokestatic 256, 3) := by decide +kernel
theorem dX2_foresee_120 : decode cX2_foresee 120 = .ok (.invokevirtual 259, 3) := by decide +kernel
theorem dX2_foresee_123 : decode cX2_foresee 123 = .ok (.pop, 1) := by decide +kernel
theorem dX2_foresee_124 : decode cX2_foresee 124 = .ok (.iinc 4 1, 3) := by decide +kernel
theorem dX2_foresee_127 : decode cX2_foresee 127 = .ok (.goto (-31), 3) := by decide +kernel
theorem dX2_foresee_130 : decode cX2_foresee 130 = .ok (.iload_n 3, 1) := by decide +kernel
theorem dX2_foresee_131 : decode cX2_foresee 131 = .ok (.tableswitch 51 0 2 #[25, 33, 43], 25) := by decide +kernel
theorem dX2_foresee_156 : decode cX2_foresee 156 = .ok (.aload_n 0, 1) := by decide +kernel
theorem dX2_foresee_157 : decode cX2_foresee 157 = .ok (.getfield 35, 3) := by decide +kernel
theorem dX2_foresee_160 : decode cX2_foresee 160 = .ok (.invokevirtual 172, 3) := by decide +kernel
theorem dX2_foresee_163 : decode cX2_foresee 163 = .ok (.ireturn, 1) := by decide +kernel
theorem dX2_foresee_164 : decode cX2_foresee 164 = .ok (.aload_n 0, 1) := by decide +kernel
theorem dX2_foresee_165 : decode cX2_foresee 165 = .ok (.getfield 35, 3) := by decide +kernel
theorem dX2_foresee_168 : decode cX2_foresee 168 = .ok (.getfield 206, 3) := by decide +kernel
theorem dX2_foresee_171 : decode cX2_foresee 171 = .ok (.iconst 4, 1) := by decide +kernel
theorem dX2_foresee_172 : decode cX2_foresee 172 = .ok (.iaload, 1) := by decide +kernel
theorem dX2_foresee_173 : decode cX2_foresee 173 = .ok (.ireturn, 1) := by decide +kernel
theorem dX2_foresee_174 : decode cX2_foresee 174 = .ok (.aload_n 0, 1) := by decide +kernel
theorem dX2_foresee_175 : decode cX2_foresee 175 = .ok (.getfield 35, 3) := by decide +kernel
theorem dX2_foresee_178 : decode cX2_foresee 178 = .ok (.getfield 263, 3) := by decide +kernel
theorem dX2_foresee_181 : decode cX2_foresee 181 = .ok (.ireturn, 1) := by decide +kernel
theorem dX2_foresee_182 : decode cX2_foresee 182 = .ok (.aload_n 0, 1) := by decide +kernel
theorem dX2_foresee_183 : decode cX2_foresee 183 = .ok (.getfield 35, 3) := by decide +kernel
theorem dX2_foresee_186 : decode cX2_foresee 186 = .ok (.invokevirtual 266, 3) := by decide +kernel
theorem dX2_foresee_189 : decode cX2_foresee 189 = .ok (.ireturn, 1) := by decide +kernel
set_option maxRecDepth 20000 in
theorem ggX2_blend_X2_findBestBlend : GoodIn wsX2_blend wsX2_findBestBlend := goodIn_r _ [15, 6, 16, 17, 18, 19, 20, 21, 22, 23, 24, 25, 26, 27, 28, 29, 30, 31, 32, 33, 34, 35, 36, 37, 38, 39, 40, 41, 14, 42, 43, 44, 45, 46, 47, 48, 49, 50, 51, 52, 53, 54, 55, 56, 57, 58, 59, 60, 61, 62, 63, 64, 65, 66, 67, 68, 69, 70, 71, 72, 73, 74, 75, 76, 77, 78, 79, 80, 81, 82, 83, 84, 85, 86, 87, 88, 89, 90, 91, 92, 93] (by decide +kernel) (by decide +kernel)
set_option maxRecDepth 20000 in
theorem gX2_blend_X2_findBestBlend : GoodIn wsX2_blend (wsV RX2 272 RX2 yX2_findBestBlend wsX2_findBestBlend) := goodIn_app (goodIn_of _ (by decide +kernel)) ggX2_blend_X2_findBestBlend
theorem dX2_blend_0 : decode cX2_blend 0 = .ok (.iload_n 1, 1) := by decide +kernel
theorem dX2_blend_1 : decode cX2_blend 1 = .ok (.ifCond .lt 10, 3) := by decide +kernel
theorem dX2_blend_4 : decode cX2_blend 4 = .ok (.iload_n 1, 1) := by decide +kernel
theorem dX2_blend_5 : decode cX2_blend 5 = .ok (.ldc_w 269, 3) := by decide +kernel
theorem dX2_blend_8 : decode cX2_blend 8 = .ok (.if_icmp .le 14, 3) := by decide +kernel
theorem dX2_blend_11 : decode cX2_blend 11 = .ok (.new 57, 3) := by decide +kernel
theorem dX2_blend_14 : decode cX2_blend 14 = .ok (.dup, 1) := by decide +kernel
theorem dX2_blend_15 : decode cX2_blend 15 = .ok (.ldc_w 270, 3) := by decide +kernel
theorem dX2_blend_18 : decode cX2_blend 18 = .ok (.invokespecial 61, 3) := by decide +kernel
theorem dX2_blend_21 : decode cX2_blend 21 = .ok (.athrow, 1) := by decide +kernel
theorem dX2_blend_22 : decode cX2_blend 22 = .ok (.iload_n 2, 1) := by decide +kernel
theorem dX2_blend_23 : decode cX2_blend 23 = .ok (.ifCond .lt 8, 3) := by decide +kernel
theorem dX2_blend_26 : decode cX2_blend 26 = .ok (.iload_n 2, 1) := by decide +kernel
theorem dX2_blend_27 : decode cX2_blend 27 = .ok (.iconst 4, 1) := by decide +kernel
theorem dX2_blend_28 : decode cX2_blend 28 = .ok (.if_icmp .lt 13, 3) := by decide +kernel
theorem dX2_blend_31 : decode cX2_blend 31 = .ok (.new 78, 3) := by decide +kernel
theorem dX2_blend_34 : decode cX2_blend 34 = .ok (.dup, 1) := by decide +kernel
theorem dX2_blend_35 : decode cX2_blend 35 = .ok (.ldc 250, 2) := by decide +kernel
theorem dX2_blend_37 : decode cX2_blend 37 = .ok (.invokespecial 82, 3) := by decide +kernel
theorem dX2_blend_40 : decode cX2_blend 40 = .ok (.athrow, 1) := by decide +kernel
theorem dX2_blend_41 : decode cX2_blend 41 = .ok (.aload_n 0, 1) := by decide +kernel
theorem dX2_blend_42 : decode cX2_blend 42 = .ok (.iload_n 1, 1) := by decide +kernel
theorem dX2_blend_43 : decode cX2_blend 43 = .ok (.invokevirtual 272, 3) := by decide +kernel
theorem dX2_blend_46 : decode cX2_blend 46 = .ok (.iload_n 2, 1) := by decide +kernel
theorem dX2_blend_47 : decode cX2_blend 47 = .ok (.tableswitch 49 0 2 #[25, 33, 41], 25) := by decide +kernel
theorem dX2_blend_72 : decode cX2_blend 72 = .ok (.aload_n 0, 1) := by decide +kernel
theorem dX2_blend_73 : decode cX2_blend 73 = .ok (.getfield 49, 3) := by decide +kernel
theorem dX2_blend_76 : decode cX2_blend 76 = .ok (.getfield 275, 3) := by decide +kernel
theorem dX2_blend_79 : decode cX2_blend 79 = .ok (.ireturn, 1) := by decide +kernel
theorem dX2_blend_80 : decode cX2_blend 80 = .ok (.aload_n 0, 1) := by decide +kernel
theorem dX2_blend_81 : decode cX2_blend 81 = .ok (.getfield 49, 3) := by decide +kernel
theorem dX2_blend_84 : decode cX2_blend 84 = .ok (.getfield 278, 3) := by decide +kernel
theorem dX2_blend_87 : decode cX2_blend 87 = .ok (.ireturn, 1) := by decide +kernel
theorem dX2_blend_88 : decode cX2_blend 88 = .ok (.aload_n 0, 1) := by decide +kernel
theorem dX2_blend_89 : decode cX2_blend 89 = .ok (.getfield 49, 3) := by decide +kernel
theorem dX2_blend_92 : decode cX2_blend 92 = .ok (.getfield 281, 3) := by decide +kernel
theorem dX2_blend_95 : decode cX2_blend 95 = .ok (.ireturn, 1) := by decide +kernel
theorem dX2_blend_96 : decode cX2_blend 96 = .ok (.aload_n 0, 1) := by decide +kernel
theorem dX2_blend_97 : decode cX2_blend 97 = .ok (.getfield 49, 3) := by decide +kernel
theorem dX2_blend_100 : decode cX2_blend 100 = .ok (.getfield 284, 3) := by decide +kernel
theorem dX2_blend_103 : decode cX2_blend 103 = .ok (.ireturn, 1) := by decide +kernel
set_option maxRecDepth 20000 in
theorem ggX2_taste_X2_heldByAll : GoodIn wsX2_taste wsX2_heldByAll := goodIn_r _ [8, 1, 2, 9, 10, 11, 12, 13, 14, 15, 16, 17, 18, 19, 20, 21, 22, 23, 24, 25, 26, 27, 28, 29, 30, 31, 32, 33, 34, 35, 36, 37, 38, 39, 40, 41, 42] (by decide +kernel) (by decide +kernel)
set_option maxRecDepth 20000 in
theorem gX2_taste_X2_heldByAll : GoodIn wsX2_taste (wsV RX2 244 RX2 yX2_heldByAll wsX2_heldByAll) := goodIn_app (goodIn_of _ (by decide +kernel)) ggX2_taste_X2_heldByAll
theorem dX2_taste_0 : decode cX2_taste 0 = .ok (.aload_n 0, 1) := by decide +kernel
theorem dX2_taste_1 : decode cX2_taste 1 = .ok (.invokevirtual 244, 3) := by decide +kernel
theorem dX2_taste_4 : decode cX2_taste 4 = .ok (.istore_n 1, 1) := by decide +kernel
theorem dX2_taste_5 : decode cX2_taste 5 = .ok (.iload_n 1, 1) := by decide +kernel
theorem dX2_taste_6 : decode cX2_taste 6 = .ok (.ifCond .ne 5, 3) := by decide +kernel
theorem dX2_taste_9 : decode cX2_taste 9 = .ok (.dconst 0, 1) := by decide +kernel
theorem dX2_taste_10 : decode cX2_taste 10 = .ok (.dreturn, 1) := by decide +kernel
theorem dX2_taste_11 : decode cX2_taste 11 = .ok (.lconst 0, 1) := by decide +kernel
theorem dX2_taste_12 : decode cX2_taste 12 = .ok (.lstore_n 2, 1) := by decide +kernel
theorem dX2_taste_13 : decode cX2_taste 13 = .ok (.iconst 0, 1) := by decide +kernel
theorem dX2_taste_14 : decode cX2_taste 14 = .ok (.istore 4, 2) := by decide +kernel
theorem dX2_taste_16 : decode cX2_taste 16 = .ok (.iload 4, 2) := by decide +kernel
theorem dX2_taste_18 : decode cX2_taste 18 = .ok (.aload_n 0, 1) := by decide +kernel
theorem dX2_taste_19 : decode cX2_taste 19 = .ok (.getfield 114, 3) := by decide +kernel
theorem dX2_taste_22 : decode cX2_taste 22 = .ok (.if_icmp .ge 23, 3) := by decide +kernel
theorem dX2_taste_25 : decode cX2_taste 25 = .ok (.lload_n 2, 1) := by decide +kernel
theorem dX2_taste_26 : decode cX2_taste 26 = .ok (.aload_n 0, 1) := by decide +kernel
theorem dX2_taste_27 : decode cX2_taste 27 = .ok (.getfield 30, 3) := by decide +kernel
theorem dX2_taste_30 : decode cX2_taste 30 = .ok (.iload 4, 2) := by decide +kernel
theorem dX2_taste_32 : decode cX2_taste 32 = .ok (.aaload, 1) := by decide +kernel
theorem dX2_taste_33 : decode cX2_taste 33 = .ok (.getfield 263, 3) := by decide +kernel
theorem dX2_taste_36 : decode cX2_taste 36 = .ok (.i2l, 1) := by decide +kernel
theorem dX2_taste_37 : decode cX2_taste 37 = .ok (.ladd, 1) := by decide +kernel
theorem dX2_taste_38 : decode cX2_taste 38 = .ok (.lstore_n 2, 1) := by decide +kernel
theorem dX2_taste_39 : decode cX2_taste 39 = .ok (.iinc 4 1, 3) := by decide +kernel
theorem dX2_taste_42 : decode cX2_taste 42 = .ok (.goto (-26), 3) := by decide +kernel
theorem dX2_taste_45 : decode cX2_taste 45 = .ok (.lload_n 2, 1) := by decide +kernel
theorem dX2_taste_46 : decode cX2_taste 46 = .ok (.l2d, 1) := by decide +kernel
theorem dX2_taste_47 : decode cX2_taste 47 = .ok (.iload_n 1, 1) := by decide +kernel
theorem dX2_taste_48 : decode cX2_taste 48 = .ok (.i2d, 1) := by decide +kernel
theorem dX2_taste_49 : decode cX2_taste 49 = .ok (.ddiv, 1) := by decide +kernel
theorem dX2_taste_50 : decode cX2_taste 50 = .ok (.dreturn, 1) := by decide +kernel
set_option maxRecDepth 20000 in
theorem ggX2_digest_X2_count : GoodIn wsX2_digest wsX2_count := goodIn_ca (goodIn_r _ [16, 17, 18, 19, 3, 7, 11, 20, 21, 22, 23, 24, 15, 25, 6, 26, 27, 28, 29, 30, 31, 32, 33, 34, 35, 36, 37, 38, 39, 40, 41, 42, 43, 44, 45, 46, 80, 81, 82, 83, 84, 85, 86, 87, 88, 89, 90, 91, 92, 93, 94, 95, 96, 97, 98, 99, 100, 101, 102, 103, 104, 105, 106, 107] (by decide +kernel) (by decide +kernel)) (goodIn_sub (fun _ h => List.mem_cons_of_mem _ (List.mem_append_right _ h)) (by decide +kernel))
set_option maxRecDepth 20000 in
theorem gX2_digest_X2_count : GoodIn wsX2_digest (wsV RX2 291 RX2 yX2_count wsX2_count) := goodIn_app (goodIn_of _ (by decide +kernel)) ggX2_digest_X2_count
set_option maxRecDepth 20000 in
theorem ggX2_digest_X2_digestCask : GoodIn wsX2_digest wsX2_digestCask := goodIn_r _ [50, 2, 30, 51, 52, 53, 54, 55, 15, 56, 46, 57, 58, 59, 60, 61, 62, 31, 22, 23, 24, 25, 3, 6, 63, 64, 65, 39, 66, 67, 36, 37, 38, 40, 41, 68, 69, 70, 71, 72, 73, 74, 75, 76, 77, 78, 79, 80, 81, 82, 83, 84, 85, 86, 87, 88, 89, 90, 91, 92, 93, 94, 95, 96, 97, 98, 99, 100, 101, 102, 103, 104, 105, 106, 107] (by decide +kernel) (by decide +kernel)
set_option maxRecDepth 20000 in
theorem gX2_digest_X2_digestCask : GoodIn wsX2_digest (wsV RX2 294 RX2 yX2_digestCask wsX2_digestCask) := goodIn_app (goodIn_of _ (by decide +kernel)) ggX2_digest_X2_digestCask
theorem dX2_digest_0 : decode cX2_digest 0 = .ok (.ldc2_w 287, 3) := by decide +kernel
theorem dX2_digest_3 : decode cX2_digest 3 = .ok (.lstore_n 1, 1) := by decide +kernel
theorem dX2_digest_4 : decode cX2_digest 4 = .ok (.iconst 0, 1) := by decide +kernel
theorem dX2_digest_5 : decode cX2_digest 5 = .ok (.istore_n 3, 1) := by decide +kernel
theorem dX2_digest_6 : decode cX2_digest 6 = .ok (.iload_n 3, 1) := by decide +kernel
theorem dX2_digest_7 : decode cX2_digest 7 = .ok (.bipush 10, 2) := by decide +kernel
theorem dX2_digest_9 : decode cX2_digest 9 = .ok (.if_icmp .ge 22, 3) := by decide +kernel
theorem dX2_digest_12 : decode cX2_digest 12 = .ok (.lload_n 1, 1) := by decide +kernel
theorem dX2_digest_13 : decode cX2_digest 13 = .ok (.ldc2_w 289, 3) := by decide +kernel
theorem dX2_digest_16 : decode cX2_digest 16 = .ok (.lmul, 1) := by decide +kernel
theorem dX2_digest_17 : decode cX2_digest 17 = .ok (.aload_n 0, 1) := by decide +kernel
theorem dX2_digest_18 : decode cX2_digest 18 = .ok (.iload_n 3, 1) := by decide +kernel
theorem dX2_digest_19 : decode cX2_digest 19 = .ok (.invokevirtual 291, 3) := by decide +kernel
theorem dX2_digest_22 : decode cX2_digest 22 = .ok (.i2l, 1) := by decide +kernel
theorem dX2_digest_23 : decode cX2_digest 23 = .ok (.ladd, 1) := by decide +kernel
theorem dX2_digest_24 : decode cX2_digest 24 = .ok (.lstore_n 1, 1) := by decide +kernel
theorem dX2_digest_25 : decode cX2_digest 25 = .ok (.iinc 3 1, 3) := by decide +kernel
theorem dX2_digest_28 : decode cX2_digest 28 = .ok (.goto (-22), 3) := by decide +kernel
theorem dX2_digest_31 : decode cX2_digest 31 = .ok (.iconst 0, 1) := by decide +kernel
theorem dX2_digest_32 : decode cX2_digest 32 = .ok (.istore_n 3, 1) := by decide +kernel
theorem dX2_digest_33 : decode cX2_digest 33 = .ok (.iload_n 3, 1) := by decide +kernel
theorem dX2_digest_34 : decode cX2_digest 34 = .ok (.aload_n 0, 1) := by decide +kernel
theorem dX2_digest_35 : decode cX2_digest 35 = .ok (.getfield 66, 3) := by decide +kernel
theorem dX2_digest_38 : decode cX2_digest 38 = .ok (.if_icmp .ge 51, 3) := by decide +kernel
theorem dX2_digest_41 : decode cX2_digest 41 = .ok (.lload_n 1, 1) := by decide +kernel
theorem dX2_digest_42 : decode cX2_digest 42 = .ok (.ldc2_w 289, 3) := by decide +kernel
theorem dX2_digest_45 : decode cX2_digest 45 = .ok (.lmul, 1) := by decide +kernel
theorem dX2_digest_46 : decode cX2_digest 46 = .ok (.aload_n 0, 1) := by decide +kernel
theorem dX2_digest_47 : decode cX2_digest 47 = .ok (.getfield 9, 3) := by decide +kernel
theorem dX2_digest_50 : decode cX2_digest 50 = .ok (.iload_n 3, 1) := by decide +kernel
theorem dX2_digest_51 : decode cX2_digest 51 = .ok (.iaload, 1) := by decide +kernel
theorem dX2_digest_52 : decode cX2_digest 52 = .ok (.i2l, 1) := by decide +kernel
theorem dX2_digest_53 : decode cX2_digest 53 = .ok (.ladd, 1) := by decide +kernel
theorem dX2_digest_54 : decode cX2_digest 54 = .ok (.lstore_n 1, 1) := by decide +kernel
theorem dX2_digest_55 : decode cX2_digest 55 = .ok (.lload_n 1, 1) := by decide +kernel
theorem dX2_digest_56 : decode cX2_digest 56 = .ok (.ldc2_w 289, 3) := by decide +kernel
theorem dX2_digest_59 : decode cX2_digest 59 = .ok (.lmul, 1) := by decide +kernel
theorem dX2_digest_60 : decode cX2_digest 60 = .ok (.aload_n 0, 1) := by decide +kernel
theorem dX2_digest_61 : decode cX2_digest 61 = .ok (.getfield 13, 3) := by decide +kernel
theorem dX2_digest_64 : decode cX2_digest 64 = .ok (.iload_n 3, 1) := by decide +kernel
theorem dX2_digest_65 : decode cX2_digest 65 = .ok (.iaload, 1) := by decide +kernel
theorem dX2_digest_66 : decode cX2_digest 66 = .ok (.i2l, 1) := by decide +kernel
theorem dX2_digest_67 : decode cX2_digest 67 = .ok (.ladd, 1) := by decide +kernel
theorem dX2_digest_68 : decode cX2_digest 68 = .ok (.lstore_n 1, 1) := by decide +kernel
theorem dX2_digest_69 : decode cX2_digest 69 = .ok (.lload_n 1, 1) := by decide +kernel
theorem dX2_digest_70 : decode cX2_digest 70 = .ok (.ldc2_w 289, 3) := by decide +kernel
theorem dX2_digest_73 : decode cX2_digest 73 = .ok (.lmul, 1) := by decide +kernel
theorem dX2_digest_74 : decode cX2_digest 74 = .ok (.aload_n 0, 1) := by decide +kernel
theorem dX2_digest_75 : decode cX2_digest 75 = .ok (.getfield 16, 3) := by decide +kernel
theorem dX2_digest_78 : decode cX2_digest 78 = .ok (.iload_n 3, 1) := by decide +kernel
theorem dX2_digest_79 : decode cX2_digest 79 = .ok (.iaload, 1) := by decide +kernel
theorem dX2_digest_80 : decode cX2_digest 80 = .ok (.i2l, 1) := by decide +kernel
theorem dX2_digest_81 : decode cX2_digest 81 = .ok (.ladd, 1) := by decide +kernel
theorem dX2_digest_82 : decode cX2_digest 82 = .ok (.lstore_n 1, 1) := by decide +kernel
theorem dX2_digest_83 : decode cX2_digest 83 = .ok (.iinc 3 1, 3) := by decide +kernel
theorem dX2_digest_86 : decode cX2_digest 86 = .ok (.goto (-53), 3) := by decide +kernel
theorem dX2_digest_89 : decode cX2_digest 89 = .ok (.iconst 0, 1) := by decide +kernel
theorem dX2_digest_90 : decode cX2_digest 90 = .ok (.istore_n 3, 1) := by decide +kernel
theorem dX2_digest_91 : decode cX2_digest 91 = .ok (.iload_n 3, 1) := by decide +kernel
theorem dX2_digest_92 : decode cX2_digest 92 = .ok (.aload_n 0, 1) := by decide +kernel
theorem dX2_digest_93 : decode cX2_digest 93 = .ok (.getfield 92, 3) := by decide +kernel
theorem dX2_digest_96 : decode cX2_digest 96 = .ok (.if_icmp .ge 51, 3) := by decide +kernel
theorem dX2_digest_99 : decode cX2_digest 99 = .ok (.lload_n 1, 1) := by decide +kernel
theorem dX2_digest_100 : decode cX2_digest 100 = .ok (.ldc2_w 289, 3) := by decide +kernel
theorem dX2_digest_103 : decode cX2_digest 103 = .ok (.lmul, 1) := by decide +kernel
theorem dX2_digest_104 : decode cX2_digest 104 = .ok (.aload_n 0, 1) := by decide +kernel
theorem dX2_digest_105 : decode cX2_digest 105 = .ok (.getfield 19, 3) := by decide +kernel
theorem dX2_digest_108 : decode cX2_digest 108 = .ok (.iload_n 3, 1) := by decide +kernel
theorem dX2_digest_109 : decode cX2_digest 109 = .ok (.iaload, 1) := by decide +kernel
theorem dX2_digest_110 : decode cX2_digest 110 = .ok (.i2l, 1) := by decide +kernel
theorem dX2_digest_111 : decode cX2_digest 111 = .ok (.ladd, 1) := by decide +kernel
theorem dX2_digest_112 : decode cX2_digest 112 = .ok (.lstore_n 1, 1) := by decide +kernel
theorem dX2_digest_113 : decode cX2_digest 113 = .ok (.lload_n 1, 1) := by decide +kernel
theorem dX2_digest_114 : decode cX2_digest 114 = .ok (.ldc2_w 289, 3) := by decide +kernel
theorem dX2_digest_117 : decode cX2_digest 117 = .ok (.lmul, 1) := by decide +kernel
theorem dX2_digest_118 : decode cX2_digest 118 = .ok (.aload_n 0, 1) := by decide +kernel
theorem dX2_digest_119 : decode cX2_digest 119 = .ok (.getfield 22, 3) := by decide +kernel
theorem dX2_digest_122 : decode cX2_digest 122 = .ok (.iload_n 3, 1) := by decide +kernel
theorem dX2_digest_123 : decode cX2_digest 123 = .ok (.iaload, 1) := by decide +kernel
theorem dX2_digest_124 : decode cX2_digest 124 = .ok (.i2l, 1) := by decide +kernel
theorem dX2_digest_125 : decode cX2_digest 125 = .ok (.ladd, 1) := by decide +kernel
theorem dX2_digest_126 : decode cX2_digest 126 = .ok (.lstore_n 1, 1) := by decide +kernel
theorem dX2_digest_127 : decode cX2_digest 127 = .ok (.lload_n 1, 1) := by decide +kernel
theorem dX2_digest_128 : decode cX2_digest 128 = .ok (.ldc2_w 289, 3) := by decide +kernel
theorem dX2_digest_131 : decode cX2_digest 131 = .ok (.lmul, 1) := by decide +kernel
theorem dX2_digest_132 : decode cX2_digest 132 = .ok (.aload_n 0, 1) := by decide +kernel
theorem dX2_digest_133 : decode cX2_digest 133 = .ok (.getfield 25, 3) := by decide +kernel
theorem dX2_digest_136 : decode cX2_digest 136 = .ok (.iload_n 3, 1) := by decide +kernel
theorem dX2_digest_137 : decode cX2_digest 137 = .ok (.iaload, 1) := by decide +kernel
theorem dX2_digest_138 : decode cX2_digest 138 = .ok (.i2l, 1) := by decide +kernel
theorem dX2_digest_139 : decode cX2_digest 139 = .ok (.ladd, 1) := by decide +kernel
theorem dX2_digest_140 : decode cX2_digest 140 = .ok (.lstore_n 1, 1) := by decide +kernel
theorem dX2_digest_141 : decode cX2_digest 141 = .ok (.iinc 3 1, 3) := by decide +kernel
theorem dX2_digest_144 : decode cX2_digest 144 = .ok (.goto (-53), 3) := by decide +kernel
theorem dX2_digest_147 : decode cX2_digest 147 = .ok (.iconst 0, 1) := by decide +kernel
theorem dX2_digest_148 : decode cX2_digest 148 = .ok (.istore_n 3, 1) := by decide +kernel
theorem dX2_digest_149 : decode cX2_digest 149 = .ok (.iload_n 3, 1) := by decide +kernel
theorem dX2_digest_150 : decode cX2_digest 150 = .ok (.aload_n 0, 1) := by decide +kernel
theorem dX2_digest_151 : decode cX2_digest 151 = .ok (.getfield 114, 3) := by decide +kernel
theorem dX2_digest_154 : decode cX2_digest 154 = .ok (.if_icmp .ge 16, 3) := by decide +kernel
theorem dX2_digest_157 : decode cX2_digest 157 = .ok (.aload_n 0, 1) := by decide +kernel
theorem dX2_digest_158 : decode cX2_digest 158 = .ok (.lload_n 1, 1) := by decide +kernel
theorem dX2_digest_159 : decode cX2_digest 159 = .ok (.iload_n 3, 1) := by decide +kernel
theorem dX2_digest_160 : decode cX2_digest 160 = .ok (.invokevirtual 294, 3) := by decide +kernel
theorem dX2_digest_163 : decode cX2_digest 163 = .ok (.lstore_n 1, 1) := by decide +kernel
theorem dX2_digest_164 : decode cX2_digest 164 = .ok (.iinc 3 1, 3) := by decide +kernel
theorem dX2_digest_167 : decode cX2_digest 167 = .ok (.goto (-18), 3) := by decide +kernel
theorem dX2_digest_170 : decode cX2_digest 170 = .ok (.lload_n 1, 1) := by decide +kernel
theorem dX2_digest_171 : decode cX2_digest 171 = .ok (.lreturn, 1) := by decide +kernel
theorem dX2_isStave_0 : decode cX2_isStave 0 = .ok (.iload_n 1, 1) := by decide +kernel
theorem dX2_isStave_1 : decode cX2_isStave 1 = .ok (.ifCond .lt 15, 3) := by decide +kernel
theorem dX2_isStave_4 : decode cX2_isStave 4 = .ok (.iload_n 1, 1) := by decide +kernel
theorem dX2_isStave_5 : decode cX2_isStave 5 = .ok (.aload_n 0, 1) := by decide +kernel
theorem dX2_isStave_6 : decode cX2_isStave 6 = .ok (.getfield 66, 3) := by decide +kernel
theorem dX2_isStave_9 : decode cX2_isStave 9 = .ok (.if_icmp .ge 7, 3) := by decide +kernel
theorem dX2_isStave_12 : decode cX2_isStave 12 = .ok (.iconst 1, 1) := by decide +kernel
theorem dX2_isStave_13 : decode cX2_isStave 13 = .ok (.goto 4, 3) := by decide +kernel
theorem dX2_isStave_16 : decode cX2_isStave 16 = .ok (.iconst 0, 1) := by decide +kernel
theorem dX2_isStave_17 : decode cX2_isStave 17 = .ok (.ireturn, 1) := by decide +kernel
theorem dX2_isSort_0 : decode cX2_isSort 0 = .ok (.iload_n 1, 1) := by decide +kernel
theorem dX2_isSort_1 : decode cX2_isSort 1 = .ok (.ifCond .lt 15, 3) := by decide +kernel
theorem dX2_isSort_4 : decode cX2_isSort 4 = .ok (.iload_n 1, 1) := by decide +kernel
theorem dX2_isSort_5 : decode cX2_isSort 5 = .ok (.aload_n 0, 1) := by decide +kernel
theorem dX2_isSort_6 : decode cX2_isSort 6 = .ok (.getfield 92, 3) := by decide +kernel
theorem dX2_isSort_9 : decode cX2_isSort 9 = .ok (.if_icmp .ge 7, 3) := by decide +kernel
theorem dX2_isSort_12 : decode cX2_isSort 12 = .ok (.iconst 1, 1) := by decide +kernel
theorem dX2_isSort_13 : decode cX2_isSort 13 = .ok (.goto 4, 3) := by decide +kernel
theorem dX2_isSort_16 : decode cX2_isSort 16 = .ok (.iconst 0, 1) := by decide +kernel
theorem dX2_isSort_17 : decode cX2_isSort 17 = .ok (.ireturn, 1) := by decide +kernel
theorem dX2_isCask_0 : decode cX2_isCask 0 = .ok (.iload_n 1, 1) := by decide +kernel
theorem dX2_isCask_1 : decode cX2_isCask 1 = .ok (.ifCond .lt 15, 3) := by decide +kernel
theorem dX2_isCask_4 : decode cX2_isCask 4 = .ok (.iload_n 1, 1) := by decide +kernel
theorem dX2_isCask_5 : decode cX2_isCask 5 = .ok (.aload_n 0, 1) := by decide +kernel
theorem dX2_isCask_6 : decode cX2_isCask 6 = .ok (.getfield 114, 3) := by decide +kernel
theorem dX2_isCask_9 : decode cX2_isCask 9 = .ok (.if_icmp .ge 7, 3) := by decide +kernel
theorem dX2_isCask_12 : decode cX2_isCask 12 = .ok (.iconst 1, 1) := by decide +kernel
theorem dX2_isCask_13 : decode cX2_isCask 13 = .ok (.goto 4, 3) := by decide +kernel
theorem dX2_isCask_16 : decode cX2_isCask 16 = .ok (.iconst 0, 1) := by decide +kernel
theorem dX2_isCask_17 : decode cX2_isCask 17 = .ok (.ireturn, 1) := by decide +kernel
theorem dX2_isUsable_0 : decode cX2_isUsable 0 = .ok (.aload_n 0, 1) := by decide +kernel
theorem dX2_isUsable_1 : decode cX2_isUsable 1 = .ok (.getfield 16, 3) := by decide +kernel
theorem dX2_isUsable_4 : decode cX2_isUsable 4 = .ok (.iload_n 1, 1) := by decide +kernel
theorem dX2_isUsable_5 : decode cX2_isUsable 5 = .ok (.iaload, 1) := by decide +kernel
theorem dX2_isUsable_6 : decode cX2_isUsable 6 = .ok (.iconst (-1), 1) := by decide +kernel
theorem dX2_isUsable_7 : decode cX2_isUsable 7 = .ok (.if_icmp .ne 18, 3) := by decide +kernel
theorem dX2_isUsable_10 : decode cX2_isUsable 10 = .ok (.aload_n 0, 1) := by decide +kernel
theorem dX2_isUsable_11 : decode cX2_isUsable 11 = .ok (.getfield 13, 3) := by decide +kernel
theorem dX2_isUsable_14 : decode cX2_isUsable 14 = .ok (.iload_n 1, 1) := by decide +kernel
theorem dX2_isUsable_15 : decode cX2_isUsable 15 = .ok (.iaload, 1) := by decide +kernel
theorem dX2_isUsable_16 : decode cX2_isUsable 16 = .ok (.bipush 60, 2) := by decide +kernel
theorem dX2_isUsable_18 : decode cX2_isUsable 18 = .ok (.if_icmp .lt 7, 3) := by decide +kernel
theorem dX2_isUsable_21 : decode cX2_isUsable 21 = .ok (.iconst 1, 1) := by decide +kernel
theorem dX2_isUsable_22 : decode cX2_isUsable 22 = .ok (.goto 4, 3) := by decide +kernel
theorem dX2_isUsable_25 : decode cX2_isUsable 25 = .ok (.iconst 0, 1) := by decide +kernel
theorem dX2_isUsable_26 : decode cX2_isUsable 26 = .ok (.ireturn, 1) := by decide +kernel
theorem dX2_flawsOf_0 : decode cX2_flawsOf 0 = .ok (.aload_n 0, 1) := by decide +kernel
theorem dX2_flawsOf_1 : decode cX2_flawsOf 1 = .ok (.getfield 13, 3) := by decide +kernel
theorem dX2_flawsOf_4 : decode cX2_flawsOf 4 = .ok (.iload_n 1, 1) := by decide +kernel
theorem dX2_flawsOf_5 : decode cX2_flawsOf 5 = .ok (.iaload, 1) := by decide +kernel
theorem dX2_flawsOf_6 : decode cX2_flawsOf 6 = .ok (.bipush 70, 2) := by decide +kernel
theorem dX2_flawsOf_8 : decode cX2_flawsOf 8 = .ok (.if_icmp .ge 7, 3) := by decide +kernel
theorem dX2_flawsOf_11 : decode cX2_flawsOf 11 = .ok (.iconst 1, 1) := by decide +kernel
theorem dX2_flawsOf_12 : decode cX2_flawsOf 12 = .ok (.goto 4, 3) := by decide +kernel
theorem dX2_flawsOf_15 : decode cX2_flawsOf 15 = .ok (.iconst 0, 1) := by decide +kernel
theorem dX2_flawsOf_16 : decode cX2_flawsOf 16 = .ok (.ireturn, 1) := by decide +kernel
theorem dX2_stavesAt_0 : decode cX2_stavesAt 0 = .ok (.iconst 0, 1) := by decide +kernel
theorem dX2_stavesAt_1 : decode cX2_stavesAt 1 = .ok (.istore_n 2, 1) := by decide +kernel
theorem dX2_stavesAt_2 : decode cX2_stavesAt 2 = .ok (.iconst 0, 1) := by decide +kernel
theorem dX2_stavesAt_3 : decode cX2_stavesAt 3 = .ok (.istore_n 3, 1) := by decide +kernel
theorem dX2_stavesAt_4 : decode cX2_stavesAt 4 = .ok (.iload_n 3, 1) := by decide +kernel
theorem dX2_stavesAt_5 : decode cX2_stavesAt 5 = .ok (.aload_n 0, 1) := by decide +kernel
theorem dX2_stavesAt_6 : decode cX2_stavesAt 6 = .ok (.getfield 66, 3) := by decide +kernel
theorem dX2_stavesAt_9 : decode cX2_stavesAt 9 = .ok (.if_icmp .ge 22, 3) := by decide +kernel
theorem dX2_stavesAt_12 : decode cX2_stavesAt 12 = .ok (.aload_n 0, 1) := by decide +kernel
theorem dX2_stavesAt_13 : decode cX2_stavesAt 13 = .ok (.getfield 16, 3) := by decide +kernel
theorem dX2_stavesAt_16 : decode cX2_stavesAt 16 = .ok (.iload_n 3, 1) := by decide +kernel
theorem dX2_stavesAt_17 : decode cX2_stavesAt 17 = .ok (.iaload, 1) := by decide +kernel
theorem dX2_stavesAt_18 : decode cX2_stavesAt 18 = .ok (.iload_n 1, 1) := by decide +kernel
theorem dX2_stavesAt_19 : decode cX2_stavesAt 19 = .ok (.if_icmp .ne 6, 3) := by decide +kernel
theorem dX2_stavesAt_22 : decode cX2_stavesAt 22 = .ok (.iinc 2 1, 3) := by decide +kernel
theorem dX2_stavesAt_25 : decode cX2_stavesAt 25 = .ok (.iinc 3 1, 3) := by decide +kernel
theorem dX2_stavesAt_28 : decode cX2_stavesAt 28 = .ok (.goto (-24), 3) := by decide +kernel
theorem dX2_stavesAt_31 : decode cX2_stavesAt 31 = .ok (.iload_n 2, 1) := by decide +kernel
theorem dX2_stavesAt_32 : decode cX2_stavesAt 32 = .ok (.ireturn, 1) := by decide +kernel
theorem dX2_lastStaveIn_0 : decode cX2_lastStaveIn 0 = .ok (.aload_n 0, 1) := by decide +kernel
theorem dX2_lastStaveIn_1 : decode cX2_lastStaveIn 1 = .ok (.getfield 66, 3) := by decide +kernel
theorem dX2_lastStaveIn_4 : decode cX2_lastStaveIn 4 = .ok (.iconst 1, 1) := by decide +kernel
theorem dX2_lastStaveIn_5 : decode cX2_lastStaveIn 5 = .ok (.isub, 1) := by decide +kernel
theorem dX2_lastStaveIn_6 : decode cX2_lastStaveIn 6 = .ok (.istore_n 2, 1) := by decide +kernel
theorem dX2_lastStaveIn_7 : decode cX2_lastStaveIn 7 = .ok (.iload_n 2, 1) := by decide +kernel
theorem dX2_lastStaveIn_8 : decode cX2_lastStaveIn 8 = .ok (.ifCond .lt 21, 3) := by decide +kernel
theorem dX2_lastStaveIn_11 : decode cX2_lastStaveIn 11 = .ok (.aload_n 0, 1) := by decide +kernel
theorem dX2_lastStaveIn_12 : decode cX2_lastStaveIn 12 = .ok (.getfield 16, 3) := by decide +kernel
theorem dX2_lastStaveIn_15 : decode cX2_lastStaveIn 15 = .ok (.iload_n 2, 1) := by decide +kernel
theorem dX2_lastStaveIn_16 : decode cX2_lastStaveIn 16 = .ok (.iaload, 1) := by decide +kernel
theorem dX2_lastStaveIn_17 : decode cX2_lastStaveIn 17 = .ok (.iload_n 1, 1) := by decide +kernel
theorem dX2_lastStaveIn_18 : decode cX2_lastStaveIn 18 = .ok (.if_icmp .ne 5, 3) := by decide +kernel
theorem dX2_lastStaveIn_21 : decode cX2_lastStaveIn 21 = .ok (.iload_n 2, 1) := by decide +kernel
theorem dX2_lastStaveIn_22 : decode cX2_lastStaveIn 22 = .ok (.ireturn, 1) := by decide +kernel
theorem dX2_lastStaveIn_23 : decode cX2_lastStaveIn 23 = .ok (.iinc 2 (-1), 3) := by decide +kernel
theorem dX2_lastStaveIn_26 : decode cX2_lastStaveIn 26 = .ok (.goto (-19), 3) := by decide +kernel
theorem dX2_lastStaveIn_29 : decode cX2_lastStaveIn 29 = .ok (.iconst (-1), 1) := by decide +kernel
theorem dX2_lastStaveIn_30 : decode cX2_lastStaveIn 30 = .ok (.ireturn, 1) := by decide +kernel
set_option maxRecDepth 20000 in
theorem ggX2_findSet_J7_fill_d0a16 : GoodIn wsX2_findSet wsJ7_fill_d0a16 := goodIn_r _ [8] (by decide +kernel) (by decide +kernel)
set_option maxRecDepth 20000 in
theorem gX2_findSet_J7_fill_d0a16 : GoodIn wsX2_findSet (va_wsS RX2 298 yJ7_fill_d0a16 wsJ7_fill_d0a16) := goodIn_app (goodIn_of _ (by decide +kernel)) ggX2_findSet_J7_fill_d0a16
set_option maxRecDepth 20000 in
theorem ggX2_findSet_J7_fill_53178 : GoodIn wsX2_findSet wsJ7_fill_53178 := goodIn_r _ [11] (by decide +kernel) (by decide +kernel)
set_option maxRecDepth 20000 in
theorem gX2_findSet_J7_fill_53178 : GoodIn wsX2_findSet (va_wsS RX2 304 yJ7_fill_53178 wsJ7_fill_53178) := goodIn_app (goodIn_of _ (by decide +kernel)) ggX2_findSet_J7_fill_53178
set_option maxRecDepth 20000 in
theorem ggX2_findSet_X2_isUsable : GoodIn wsX2_findSet wsX2_isUsable := goodIn_r _ [16, 17, 18, 24, 25, 26, 27, 28, 29, 30, 31, 32, 33, 34, 35, 36, 37, 38, 39, 40] (by decide +kernel) (by decide +kernel)
set_option maxRecDepth 20000 in
theorem gX2_findSet_X2_isUsable : GoodIn wsX2_findSet (wsV RX2 307 RX2 yX2_isUsable wsX2_isUsable) := goodIn_app (goodIn_of _ (by decide +kernel)) ggX2_findSet_X2_isUsable
set_option maxRecDepth 20000 in
theorem ggX2_findSet_X2_addToSets : GoodIn wsX2_findSet wsX2_addToSets := goodIn_r _ [22, 23, 3, 1, 24, 25, 26, 27, 28, 29, 30, 31, 32, 33, 34, 35, 36, 37, 38, 39, 40] (by decide +kernel) (by decide +kernel)
set_option maxRecDepth 20000 in
theorem gX2_findSet_X2_addToSets : GoodIn wsX2_findSet (wsV RX2 310 RX2 yX2_addToSets wsX2_addToSets) := goodIn_app (goodIn_of _ (by decide +kernel)) ggX2_findSet_X2_addToSets
theorem dX2_findSet_0 : decode cX2_findSet 0 = .ok (.iload_n 1, 1) := by decide +kernel
theorem dX2_findSet_1 : decode cX2_findSet 1 = .ok (.iconst 4, 1) := by decide +kernel
theorem dX2_findSet_2 : decode cX2_findSet 2 = .ok (.iadd, 1) := by decide +kernel
theorem dX2_findSet_3 : decode cX2_findSet 3 = .ok (.istore_n 2, 1) := by decide +kernel
theorem dX2_findSet_4 : decode cX2_findSet 4 = .ok (.aload_n 0, 1) := by decide +kernel
theorem dX2_findSet_5 : decode cX2_findSet 5 = .ok (.getfield 39, 3) := by decide +kernel
theorem dX2_findSet_8 : decode cX2_findSet 8 = .ok (.ldc2_w 108, 3) := by decide +kernel
theorem dX2_findSet_11 : decode cX2_findSet 11 = .ok (.invokestatic 298, 3) := by decide +kernel
theorem dX2_findSet_14 : decode cX2_findSet 14 = .ok (.aload_n 0, 1) := by decide +kernel
theorem dX2_findSet_15 : decode cX2_findSet 15 = .ok (.getfield 43, 3) := by decide +kernel
theorem dX2_findSet_18 : decode cX2_findSet 18 = .ok (.sipush 1000, 3) := by decide +kernel
theorem dX2_findSet_21 : decode cX2_findSet 21 = .ok (.invokestatic 304, 3) := by decide +kernel
theorem dX2_findSet_24 : decode cX2_findSet 24 = .ok (.aload_n 0, 1) := by decide +kernel
theorem dX2_findSet_25 : decode cX2_findSet 25 = .ok (.getfield 39, 3) := by decide +kernel
theorem dX2_findSet_28 : decode cX2_findSet 28 = .ok (.iconst 0, 1) := by decide +kernel
theorem dX2_findSet_29 : decode cX2_findSet 29 = .ok (.lconst 0, 1) := by decide +kernel
theorem dX2_findSet_30 : decode cX2_findSet 30 = .ok (.lastore, 1) := by decide +kernel
theorem dX2_findSet_31 : decode cX2_findSet 31 = .ok (.aload_n 0, 1) := by decide +kernel
theorem dX2_findSet_32 : decode cX2_findSet 32 = .ok (.getfield 43, 3) := by decide +kernel
theorem dX2_findSet_35 : decode cX2_findSet 35 = .ok (.iconst 0, 1) := by decide +kernel
theorem dX2_findSet_36 : decode cX2_findSet 36 = .ok (.iconst 0, 1) := by decide +kernel
theorem dX2_findSet_37 : decode cX2_findSet 37 = .ok (.iastore, 1) := by decide +kernel
theorem dX2_findSet_38 : decode cX2_findSet 38 = .ok (.aload_n 0, 1) := by decide +kernel
theorem dX2_findSet_39 : decode cX2_findSet 39 = .ok (.getfield 66, 3) := by decide +kernel
theorem dX2_findSet_42 : decode cX2_findSet 42 = .ok (.iconst 1, 1) := by decide +kernel
theorem dX2_findSet_43 : decode cX2_findSet 43 = .ok (.isub, 1) := by decide +kernel
theorem dX2_findSet_44 : decode cX2_findSet 44 = .ok (.istore_n 3, 1) := by decide +kernel
theorem dX2_findSet_45 : decode cX2_findSet 45 = .ok (.iload_n 3, 1) := by decide +kernel
theorem dX2_findSet_46 : decode cX2_findSet 46 = .ok (.ifCond .lt 23, 3) := by decide +kernel
theorem dX2_findSet_49 : decode cX2_findSet 49 = .ok (.aload_n 0, 1) := by decide +kernel
theorem dX2_findSet_50 : decode cX2_findSet 50 = .ok (.iload_n 3, 1) := by decide +kernel
theorem dX2_findSet_51 : decode cX2_findSet 51 = .ok (.invokevirtual 307, 3) := by decide +kernel
theorem dX2_findSet_54 : decode cX2_findSet 54 = .ok (.ifCond .eq 9, 3) := by decide +kernel
theorem dX2_findSet_57 : decode cX2_findSet 57 = .ok (.aload_n 0, 1) := by decide +kernel
theorem dX2_findSet_58 : decode cX2_findSet 58 = .ok (.iload_n 3, 1) := by decide +kernel
theorem dX2_findSet_59 : decode cX2_findSet 59 = .ok (.iload_n 2, 1) := by decide +kernel
theorem dX2_findSet_60 : decode cX2_findSet 60 = .ok (.invokevirtual 310, 3) := by decide +kernel
theorem dX2_findSet_63 : decode cX2_findSet 63 = .ok (.iinc 3 (-1), 3) := by decide +kernel
theorem dX2_findSet_66 : decode cX2_findSet 66 = .ok (.goto (-21), 3) := by decide +kernel
theorem dX2_findSet_69 : decode cX2_findSet 69 = .ok (.iload_n 1, 1) := by decide +kernel
theorem dX2_findSet_70 : decode cX2_findSet 70 = .ok (.istore_n 3, 1) := by decide +kernel
theorem dX2_findSet_71 : decode cX2_findSet 71 = .ok (.iload_n 1, 1) := by decide +kernel
theorem dX2_findSet_72 : decode cX2_findSet 72 = .ok (.iconst 1, 1) := by decide +kernel
theorem dX2_findSet_73 : decode cX2_findSet 73 = .ok (.iadd, 1) := by decide +kernel
theorem dX2_findSet_74 : decode cX2_findSet 74 = .ok (.istore 4, 2) := by decide +kernel
theorem dX2_findSet_76 : decode cX2_findSet 76 = .ok (.iload 4, 2) := by decide +kernel
theorem dX2_findSet_78 : decode cX2_findSet 78 = .ok (.iload_n 2, 1) := by decide +kernel
theorem dX2_findSet_79 : decode cX2_findSet 79 = .ok (.if_icmp .gt 28, 3) := by decide +kernel
theorem dX2_findSet_82 : decode cX2_findSet 82 = .ok (.aload_n 0, 1) := by decide +kernel
theorem dX2_findSet_83 : decode cX2_findSet 83 = .ok (.getfield 43, 3) := by decide +kernel
theorem dX2_findSet_86 : decode cX2_findSet 86 = .ok (.iload 4, 2) := by decide +kernel
theorem dX2_findSet_88 : decode cX2_findSet 88 = .ok (.iaload, 1) := by decide +kernel
theorem dX2_findSet_89 : decode cX2_findSet 89 = .ok (.aload_n 0, 1) := by decide +kernel
theorem dX2_findSet_90 : decode cX2_findSet 90 = .ok (.getfield 43, 3) := by decide +kernel
theorem dX2_findSet_93 : decode cX2_findSet 93 = .ok (.iload_n 3, 1) := by decide +kernel
theorem dX2_findSet_94 : decode cX2_findSet 94 = .ok (.iaload, 1) := by decide +kernel
theorem dX2_findSet_95 : decode cX2_findSet 95 = .ok (.if_icmp .ge 6, 3) := by decide +kernel
theorem dX2_findSet_98 : decode cX2_findSet 98 = .ok (.iload 4, 2) := by decide +kernel
theorem dX2_findSet_100 : decode cX2_findSet 100 = .ok (.istore_n 3, 1) := by decide +kernel
theorem dX2_findSet_101 : decode cX2_findSet 101 = .ok (.iinc 4 1, 3) := by decide +kernel
theorem dX2_findSet_104 : decode cX2_findSet 104 = .ok (.goto (-28), 3) := by decide +kernel
theorem dX2_findSet_107 : decode cX2_findSet 107 = .ok (.aload_n 0, 1) := by decide +kernel
theorem dX2_findSet_108 : decode cX2_findSet 108 = .ok (.getfield 39, 3) := by decide +kernel
theorem dX2_findSet_111 : decode cX2_findSet 111 = .ok (.iload_n 3, 1) := by decide +kernel
theorem dX2_findSet_112 : decode cX2_findSet 112 = .ok (.laload, 1) := by decide +kernel
theorem dX2_findSet_113 : decode cX2_findSet 113 = .ok (.lreturn, 1) := by decide +kernel
theorem dX2_addToSets_0 : decode cX2_addToSets 0 = .ok (.aload_n 0, 1) := by decide +kernel
theorem dX2_addToSets_1 : decode cX2_addToSets 1 = .ok (.getfield 9, 3) := by decide +kernel
theorem dX2_addToSets_4 : decode cX2_addToSets 4 = .ok (.iload_n 1, 1) := by decide +kernel
theorem dX2_addToSets_5 : decode cX2_addToSets 5 = .ok (.iaload, 1) := by decide +kernel
theorem dX2_addToSets_6 : decode cX2_addToSets 6 = .ok (.istore_n 3, 1) := by decide +kernel
theorem dX2_addToSets_7 : decode cX2_addToSets 7 = .ok (.iload_n 2, 1) := by decide +kernel
theorem dX2_addToSets_8 : decode cX2_addToSets 8 = .ok (.istore 4, 2) := by decide +kernel
theorem dX2_addToSets_10 : decode cX2_addToSets 10 = .ok (.iload 4, 2) := by decide +kernel
theorem dX2_addToSets_12 : decode cX2_addToSets 12 = .ok (.iload_n 3, 1) := by decide +kernel
theorem dX2_addToSets_13 : decode cX2_addToSets 13 = .ok (.if_icmp .lt 63, 3) := by decide +kernel
theorem dX2_addToSets_16 : decode cX2_addToSets 16 = .ok (.aload_n 0, 1) := by decide +kernel
theorem dX2_addToSets_17 : decode cX2_addToSets 17 = .ok (.getfield 43, 3) := by decide +kernel
theorem dX2_addToSets_20 : decode cX2_addToSets 20 = .ok (.iload 4, 2) := by decide +kernel
theorem dX2_addToSets_22 : decode cX2_addToSets 22 = .ok (.iload_n 3, 1) := by decide +kernel
theorem dX2_addToSets_23 : decode cX2_addToSets 23 = .ok (.isub, 1) := by decide +kernel
theorem dX2_addToSets_24 : decode cX2_addToSets 24 = .ok (.iaload, 1) := by decide +kernel
theorem dX2_addToSets_25 : decode cX2_addToSets 25 = .ok (.iconst 1, 1) := by decide +kernel
theorem dX2_addToSets_26 : decode cX2_addToSets 26 = .ok (.iadd, 1) := by decide +kernel
theorem dX2_addToSets_27 : decode cX2_addToSets 27 = .ok (.istore 5, 2) := by decide +kernel
theorem dX2_addToSets_29 : decode cX2_addToSets 29 = .ok (.iload 5, 2) := by decide +kernel
theorem dX2_addToSets_31 : decode cX2_addToSets 31 = .ok (.aload_n 0, 1) := by decide +kernel
theorem dX2_addToSets_32 : decode cX2_addToSets 32 = .ok (.getfield 43, 3) := by decide +kernel
theorem dX2_addToSets_35 : decode cX2_addToSets 35 = .ok (.iload 4, 2) := by decide +kernel
theorem dX2_addToSets_37 : decode cX2_addToSets 37 = .ok (.iaload, 1) := by decide +kernel
theorem dX2_addToSets_38 : decode cX2_addToSets 38 = .ok (.if_icmp .gt 32, 3) := by decide +kernel
theorem dX2_addToSets_41 : decode cX2_addToSets 41 = .ok (.aload_n 0, 1) := by decide +kernel
theorem dX2_addToSets_42 : decode cX2_addToSets 42 = .ok (.getfield 43, 3) := by decide +kernel
theorem dX2_addToSets_45 : decode cX2_addToSets 45 = .ok (.iload 4, 2) := by decide +kernel
theorem dX2_addToSets_47 : decode cX2_addToSets 47 = .ok (.iload 5, 2) := by decide +kernel
theorem dX2_addToSets_49 : decode cX2_addToSets 49 = .ok (.iastore, 1) := by decide +kernel
theorem dX2_addToSets_50 : decode cX2_addToSets 50 = .ok (.aload_n 0, 1) := by decide +kernel
theorem dX2_addToSets_51 : decode cX2_addToSets 51 = .ok (.getfield 39, 3) := by decide +kernel
theorem dX2_addToSets_54 : decode cX2_addToSets 54 = .ok (.iload 4, 2) := by decide +kernel
theorem dX2_addToSets_56 : decode cX2_addToSets 56 = .ok (.aload_n 0, 1) := by decide +kernel
theorem dX2_addToSets_57 : decode cX2_addToSets 57 = .ok (.getfield 39, 3) := by decide +kernel
theorem dX2_addToSets_60 : decode cX2_addToSets 60 = .ok (.iload 4, 2) := by decide +kernel
theorem dX2_addToSets_62 : decode cX2_addToSets 62 = .ok (.iload_n 3, 1) := by decide +kernel
theorem dX2_addToSets_63 : decode cX2_addToSets 63 = .ok (.isub, 1) := by decide +kernel
theorem dX2_addToSets_64 : decode cX2_addToSets 64 = .ok (.laload, 1) := by decide +kernel
theorem dX2_addToSets_65 : decode cX2_addToSets 65 = .ok (.lconst 1, 1) := by decide +kernel
theorem dX2_addToSets_66 : decode cX2_addToSets 66 = .ok (.iload_n 1, 1) := by decide +kernel
theorem dX2_addToSets_67 : decode cX2_addToSets 67 = .ok (.lshl, 1) := by decide +kernel
theorem dX2_addToSets_68 : decode cX2_addToSets 68 = .ok (.lor, 1) := by decide +kernel
theorem dX2_addToSets_69 : decode cX2_addToSets 69 = .ok (.lastore, 1) := by decide +kernel
theorem dX2_addToSets_70 : decode cX2_addToSets 70 = .ok (.iinc 4 (-1), 3) := by decide +kernel
theorem dX2_addToSets_73 : decode cX2_addToSets 73 = .ok (.goto (-63), 3) := by decide +kernel
theorem dX2_addToSets_76 : decode cX2_addToSets 76 = .ok (.return_, 1) := by decide +kernel
set_option maxRecDepth 20000 in
theorem ggX2_memberOf_X2_isIn : GoodIn wsX2_memberOf wsX2_isIn := goodIn_r _ [5] (by decide +kernel) (by decide +kernel)
set_option maxRecDepth 20000 in
theorem gX2_memberOf_X2_isIn : GoodIn wsX2_memberOf (va_wsS RX2 314 yX2_isIn wsX2_isIn) := goodIn_app (goodIn_of _ (by decide +kernel)) ggX2_memberOf_X2_isIn
theorem dX2_memberOf_0 : decode cX2_memberOf 0 = .ok (.iconst 0, 1) := by decide +kernel
theorem dX2_memberOf_1 : decode cX2_memberOf 1 = .ok (.istore 4, 2) := by decide +kernel
theorem dX2_memberOf_3 : decode cX2_memberOf 3 = .ok (.iconst 0, 1) := by decide +kernel
theorem dX2_memberOf_4 : decode cX2_memberOf 4 = .ok (.istore 5, 2) := by decide +kernel
theorem dX2_memberOf_6 : decode cX2_memberOf 6 = .ok (.iload 5, 2) := by decide +kernel
theorem dX2_memberOf_8 : decode cX2_memberOf 8 = .ok (.aload_n 0, 1) := by decide +kernel
theorem dX2_memberOf_9 : decode cX2_memberOf 9 = .ok (.getfield 66, 3) := by decide +kernel
theorem dX2_memberOf_12 : decode cX2_memberOf 12 = .ok (.if_icmp .ge 30, 3) := by decide +kernel
theorem dX2_memberOf_15 : decode cX2_memberOf 15 = .ok (.lload_n 1, 1) := by decide +kernel
theorem dX2_memberOf_16 : decode cX2_memberOf 16 = .ok (.iload 5, 2) := by decide +kernel
theorem dX2_memberOf_18 : decode cX2_memberOf 18 = .ok (.invokestatic 314, 3) := by decide +kernel
theorem dX2_memberOf_21 : decode cX2_memberOf 21 = .ok (.ifCond .eq 15, 3) := by decide +kernel
theorem dX2_memberOf_24 : decode cX2_memberOf 24 = .ok (.iload 4, 2) := by decide +kernel
theorem dX2_memberOf_26 : decode cX2_memberOf 26 = .ok (.iload_n 3, 1) := by decide +kernel
theorem dX2_memberOf_27 : decode cX2_memberOf 27 = .ok (.if_icmp .ne 6, 3) := by decide +kernel
theorem dX2_memberOf_30 : decode cX2_memberOf 30 = .ok (.iload 5, 2) := by decide +kernel
theorem dX2_memberOf_32 : decode cX2_memberOf 32 = .ok (.ireturn, 1) := by decide +kernel
theorem dX2_memberOf_33 : decode cX2_memberOf 33 = .ok (.iinc 4 1, 3) := by decide +kernel
theorem dX2_memberOf_36 : decode cX2_memberOf 36 = .ok (.iinc 5 1, 3) := by decide +kernel
theorem dX2_memberOf_39 : decode cX2_memberOf 39 = .ok (.goto (-33), 3) := by decide +kernel
theorem dX2_memberOf_42 : decode cX2_memberOf 42 = .ok (.iconst (-1), 1) := by decide +kernel
theorem dX2_memberOf_43 : decode cX2_memberOf 43 = .ok (.ireturn, 1) := by decide +kernel
theorem dX2_isIn_0 : decode cX2_isIn 0 = .ok (.lload_n 0, 1) := by decide +kernel
theorem dX2_isIn_1 : decode cX2_isIn 1 = .ok (.iload_n 2, 1) := by decide +kernel
theorem dX2_isIn_2 : decode cX2_isIn 2 = .ok (.lushr, 1) := by decide +kernel
theorem dX2_isIn_3 : decode cX2_isIn 3 = .ok (.lconst 1, 1) := by decide +kernel
theorem dX2_isIn_4 : decode cX2_isIn 4 = .ok (.land, 1) := by decide +kernel
theorem dX2_isIn_5 : decode cX2_isIn 5 = .ok (.lconst 0, 1) := by decide +kernel
theorem dX2_isIn_6 : decode cX2_isIn 6 = .ok (.lcmp, 1) := by decide +kernel
theorem dX2_isIn_7 : decode cX2_isIn 7 = .ok (.ifCond .eq 7, 3) := by decide +kernel
theorem dX2_isIn_10 : decode cX2_isIn 10 = .ok (.iconst 1, 1) := by decide +kernel
theorem dX2_isIn_11 : decode cX2_isIn 11 = .ok (.goto 4, 3) := by decide +kernel
theorem dX2_isIn_14 : decode cX2_isIn 14 = .ok (.iconst 0, 1) := by decide +kernel
theorem dX2_isIn_15 : decode cX2_isIn 15 = .ok (.ireturn, 1) := by decide +kernel
set_option maxRecDepth 20000 in
theorem ggX2_putStavesIn_X2_isIn : GoodIn wsX2_putStavesIn wsX2_isIn := goodIn_r _ [6] (by decide +kernel) (by decide +kernel)
set_option maxRecDepth 20000 in
theorem gX2_putStavesIn_X2_isIn : GoodIn wsX2_putStavesIn (va_wsS RX2 314 yX2_isIn wsX2_isIn) := goodIn_app (goodIn_of _ (by decide +kernel)) ggX2_putStavesIn_X2_isIn
set_option maxRecDepth 20000 in
theorem ggX2_putStavesIn_X2_flawsOf : GoodIn wsX2_putStavesIn wsX2_flawsOf := goodIn_r _ [10, 11, 12, 13, 14, 15, 16, 17, 18, 19, 20, 21, 22, 23, 24, 25, 26, 27, 28] (by decide +kernel) (by decide +kernel)
set_option maxRecDepth 20000 in
theorem gX2_putStavesIn_X2_flawsOf : GoodIn wsX2_putStavesIn (wsV RX2 181 RX2 yX2_flawsOf wsX2_flawsOf) := goodIn_app (goodIn_of _ (by decide +kernel)) ggX2_putStavesIn_X2_flawsOf
theorem dX2_putStavesIn_0 : decode cX2_putStavesIn 0 = .ok (.iconst 0, 1) := by decide +kernel
theorem dX2_putStavesIn_1 : decode cX2_putStavesIn 1 = .ok (.istore 4, 2) := by decide +kernel
theorem dX2_putStavesIn_3 : decode cX2_putStavesIn 3 = .ok (.iconst 0, 1) := by decide +kernel
theorem dX2_putStavesIn_4 : decode cX2_putStavesIn 4 = .ok (.istore 5, 2) := by decide +kernel
theorem dX2_putStavesIn_6 : decode cX2_putStavesIn 6 = .ok (.iload 5, 2) := by decide +kernel
theorem dX2_putStavesIn_8 : decode cX2_putStavesIn 8 = .ok (.aload_n 0, 1) := by decide +kernel
theorem dX2_putStavesIn_9 : decode cX2_putStavesIn 9 = .ok (.getfield 66, 3) := by decide +kernel
end
section
theorem dX2_putStavesIn_12 : decode cX2_putStavesIn 12 = .ok (.if_icmp .ge 37, 3) := by decide +kernel
theorem dX2_putStavesIn_15 : decode cX2_putStavesIn 15 = .ok (.lload_n 1, 1) := by decide +kernel
theorem dX2_putStavesIn_16 : decode cX2_putStavesIn 16 = .ok (.iload 5, 2) := by decide +kernel
theorem dX2_putStavesIn_18 : decode cX2_putStavesIn 18 = .ok (.invokestatic 314, 3) := by decide +kernel
theorem dX2_putStavesIn_21 : decode cX2_putStavesIn 21 = .ok (.ifCond .eq 22, 3) := by decide +kernel
theorem dX2_putStavesIn_24 : decode cX2_putStavesIn 24 = .ok (.aload_n 0, 1) := by decide +kernel
theorem dX2_putStavesIn_25 : decode cX2_putStavesIn 25 = .ok (.getfield 16, 3) := by decide +kernel
theorem dX2_putStavesIn_28 : decode cX2_putStavesIn 28 = .ok (.iload 5, 2) := by decide +kernel
theorem dX2_putStavesIn_30 : decode cX2_putStavesIn 30 = .ok (.iload_n 3, 1) := by decide +kernel
theorem dX2_putStavesIn_31 : decode cX2_putStavesIn 31 = .ok (.iastore, 1) := by decide +kernel
theorem dX2_putStavesIn_32 : decode cX2_putStavesIn 32 = .ok (.iload 4, 2) := by decide +kernel
theorem dX2_putStavesIn_34 : decode cX2_putStavesIn 34 = .ok (.aload_n 0, 1) := by decide +kernel
theorem dX2_putStavesIn_35 : decode cX2_putStavesIn 35 = .ok (.iload 5, 2) := by decide +kernel
theorem dX2_putStavesIn_37 : decode cX2_putStavesIn 37 = .ok (.invokevirtual 181, 3) := by decide +kernel
theorem dX2_putStavesIn_40 : decode cX2_putStavesIn 40 = .ok (.iadd, 1) := by decide +kernel
theorem dX2_putStavesIn_41 : decode cX2_putStavesIn 41 = .ok (.istore 4, 2) := by decide +kernel
theorem dX2_putStavesIn_43 : decode cX2_putStavesIn 43 = .ok (.iinc 5 1, 3) := by decide +kernel
theorem dX2_putStavesIn_46 : decode cX2_putStavesIn 46 = .ok (.goto (-40), 3) := by decide +kernel
theorem dX2_putStavesIn_49 : decode cX2_putStavesIn 49 = .ok (.iload 4, 2) := by decide +kernel
theorem dX2_putStavesIn_51 : decode cX2_putStavesIn 51 = .ok (.ireturn, 1) := by decide +kernel
theorem dX2_takeStavesOutOf_0 : decode cX2_takeStavesOutOf 0 = .ok (.iconst 1, 1) := by decide +kernel
theorem dX2_takeStavesOutOf_1 : decode cX2_takeStavesOutOf 1 = .ok (.istore_n 2, 1) := by decide +kernel
theorem dX2_takeStavesOutOf_2 : decode cX2_takeStavesOutOf 2 = .ok (.iconst 0, 1) := by decide +kernel
theorem dX2_takeStavesOutOf_3 : decode cX2_takeStavesOutOf 3 = .ok (.istore_n 3, 1) := by decide +kernel
theorem dX2_takeStavesOutOf_4 : decode cX2_takeStavesOutOf 4 = .ok (.iload_n 3, 1) := by decide +kernel
theorem dX2_takeStavesOutOf_5 : decode cX2_takeStavesOutOf 5 = .ok (.aload_n 0, 1) := by decide +kernel
theorem dX2_takeStavesOutOf_6 : decode cX2_takeStavesOutOf 6 = .ok (.getfield 66, 3) := by decide +kernel
theorem dX2_takeStavesOutOf_9 : decode cX2_takeStavesOutOf 9 = .ok (.if_icmp .ge 56, 3) := by decide +kernel
theorem dX2_takeStavesOutOf_12 : decode cX2_takeStavesOutOf 12 = .ok (.aload_n 0, 1) := by decide +kernel
theorem dX2_takeStavesOutOf_13 : decode cX2_takeStavesOutOf 13 = .ok (.getfield 16, 3) := by decide +kernel
theorem dX2_takeStavesOutOf_16 : decode cX2_takeStavesOutOf 16 = .ok (.iload_n 3, 1) := by decide +kernel
theorem dX2_takeStavesOutOf_17 : decode cX2_takeStavesOutOf 17 = .ok (.iaload, 1) := by decide +kernel
theorem dX2_takeStavesOutOf_18 : decode cX2_takeStavesOutOf 18 = .ok (.iload_n 1, 1) := by decide +kernel
theorem dX2_takeStavesOutOf_19 : decode cX2_takeStavesOutOf 19 = .ok (.if_icmp .ne 40, 3) := by decide +kernel
theorem dX2_takeStavesOutOf_22 : decode cX2_takeStavesOutOf 22 = .ok (.aload_n 0, 1) := by decide +kernel
theorem dX2_takeStavesOutOf_23 : decode cX2_takeStavesOutOf 23 = .ok (.getfield 13, 3) := by decide +kernel
theorem dX2_takeStavesOutOf_26 : decode cX2_takeStavesOutOf 26 = .ok (.iload_n 3, 1) := by decide +kernel
theorem dX2_takeStavesOutOf_27 : decode cX2_takeStavesOutOf 27 = .ok (.iconst 0, 1) := by decide +kernel
theorem dX2_takeStavesOutOf_28 : decode cX2_takeStavesOutOf 28 = .ok (.aload_n 0, 1) := by decide +kernel
theorem dX2_takeStavesOutOf_29 : decode cX2_takeStavesOutOf 29 = .ok (.getfield 13, 3) := by decide +kernel
theorem dX2_takeStavesOutOf_32 : decode cX2_takeStavesOutOf 32 = .ok (.iload_n 3, 1) := by decide +kernel
theorem dX2_takeStavesOutOf_33 : decode cX2_takeStavesOutOf 33 = .ok (.iaload, 1) := by decide +kernel
theorem dX2_takeStavesOutOf_34 : decode cX2_takeStavesOutOf 34 = .ok (.bipush 30, 2) := by decide +kernel
theorem dX2_takeStavesOutOf_36 : decode cX2_takeStavesOutOf 36 = .ok (.isub, 1) := by decide +kernel
theorem dX2_takeStavesOutOf_37 : decode cX2_takeStavesOutOf 37 = .ok (.invokestatic 318, 3) := by decide +kernel
theorem dX2_takeStavesOutOf_40 : decode cX2_takeStavesOutOf 40 = .ok (.iastore, 1) := by decide +kernel
theorem dX2_takeStavesOutOf_41 : decode cX2_takeStavesOutOf 41 = .ok (.aload_n 0, 1) := by decide +kernel
theorem dX2_takeStavesOutOf_42 : decode cX2_takeStavesOutOf 42 = .ok (.getfield 16, 3) := by decide +kernel
theorem dX2_takeStavesOutOf_45 : decode cX2_takeStavesOutOf 45 = .ok (.iload_n 3, 1) := by decide +kernel
theorem dX2_takeStavesOutOf_46 : decode cX2_takeStavesOutOf 46 = .ok (.iload_n 2, 1) := by decide +kernel
theorem dX2_takeStavesOutOf_47 : decode cX2_takeStavesOutOf 47 = .ok (.ifCond .eq 8, 3) := by decide +kernel
theorem dX2_takeStavesOutOf_50 : decode cX2_takeStavesOutOf 50 = .ok (.bipush (-2), 2) := by decide +kernel
theorem dX2_takeStavesOutOf_52 : decode cX2_takeStavesOutOf 52 = .ok (.goto 4, 3) := by decide +kernel
theorem dX2_takeStavesOutOf_55 : decode cX2_takeStavesOutOf 55 = .ok (.iconst (-1), 1) := by decide +kernel
theorem dX2_takeStavesOutOf_56 : decode cX2_takeStavesOutOf 56 = .ok (.iastore, 1) := by decide +kernel
theorem dX2_takeStavesOutOf_57 : decode cX2_takeStavesOutOf 57 = .ok (.iconst 0, 1) := by decide +kernel
theorem dX2_takeStavesOutOf_58 : decode cX2_takeStavesOutOf 58 = .ok (.istore_n 2, 1) := by decide +kernel
theorem dX2_takeStavesOutOf_59 : decode cX2_takeStavesOutOf 59 = .ok (.iinc 3 1, 3) := by decide +kernel
theorem dX2_takeStavesOutOf_62 : decode cX2_takeStavesOutOf 62 = .ok (.goto (-58), 3) := by decide +kernel
theorem dX2_takeStavesOutOf_65 : decode cX2_takeStavesOutOf 65 = .ok (.return_, 1) := by decide +kernel
set_option maxRecDepth 20000 in
theorem ggX2_tellOfCask_X2_stavesAt : GoodIn wsX2_tellOfCask wsX2_stavesAt := goodIn_r _ [14, 15, 16, 40, 41, 42, 43, 44, 45, 46, 47, 48, 49, 50, 51, 52, 53, 54, 55, 56] (by decide +kernel) (by decide +kernel)
set_option maxRecDepth 20000 in
theorem gX2_tellOfCask_X2_stavesAt : GoodIn wsX2_tellOfCask (wsV RX2 238 RX2 yX2_stavesAt wsX2_stavesAt) := goodIn_app (goodIn_of _ (by decide +kernel)) ggX2_tellOfCask_X2_stavesAt
set_option maxRecDepth 20000 in
theorem ggX2_tellOfCask_X1_allTensions : GoodIn wsX2_tellOfCask wsX1_allTensions := goodIn_r _ [21, 22, 57, 58, 59, 60, 61, 62, 63, 64, 65, 66, 67] (by decide +kernel) (by decide +kernel)
set_option maxRecDepth 20000 in
theorem gX2_tellOfCask_X1_allTensions : GoodIn wsX2_tellOfCask (wsV RX2 162 RX1 yX1_allTensions wsX1_allTensions) := goodIn_app (goodIn_of _ (by decide +kernel)) ggX2_tellOfCask_X1_allTensions
set_option maxRecDepth 20000 in
theorem ggX2_tellOfCask_X1_held : GoodIn wsX2_tellOfCask wsX1_held := goodIn_r _ [26, 27, 57, 58, 59, 60, 61, 62, 63, 64, 65, 66, 67] (by decide +kernel) (by decide +kernel)
set_option maxRecDepth 20000 in
theorem gX2_tellOfCask_X1_held : GoodIn wsX2_tellOfCask (wsV RX2 172 RX1 yX1_held wsX1_held) := goodIn_app (goodIn_of _ (by decide +kernel)) ggX2_tellOfCask_X1_held
set_option maxRecDepth 20000 in
theorem ggX2_tellOfCask_X1_leak : GoodIn wsX2_tellOfCask wsX1_leak := goodIn_r _ [31, 32, 33, 34, 35, 36, 37, 38, 39, 18, 19, 20, 21, 22, 57, 58, 59, 60, 61, 62, 63, 64, 65, 66, 67] (by decide +kernel) (by decide +kernel)
set_option maxRecDepth 20000 in
theorem gX2_tellOfCask_X1_leak : GoodIn wsX2_tellOfCask (wsV RX2 266 RX1 yX1_leak wsX1_leak) := goodIn_app (goodIn_of _ (by decide +kernel)) ggX2_tellOfCask_X1_leak
theorem dX2_tellOfCask_0 : decode cX2_tellOfCask 0 = .ok (.aload_n 0, 1) := by decide +kernel
theorem dX2_tellOfCask_1 : decode cX2_tellOfCask 1 = .ok (.getfield 30, 3) := by decide +kernel
theorem dX2_tellOfCask_4 : decode cX2_tellOfCask 4 = .ok (.iload_n 1, 1) := by decide +kernel
theorem dX2_tellOfCask_5 : decode cX2_tellOfCask 5 = .ok (.aaload, 1) := by decide +kernel
theorem dX2_tellOfCask_6 : decode cX2_tellOfCask 6 = .ok (.astore_n 3, 1) := by decide +kernel
theorem dX2_tellOfCask_7 : decode cX2_tellOfCask 7 = .ok (.iload_n 2, 1) := by decide +kernel
theorem dX2_tellOfCask_8 : decode cX2_tellOfCask 8 = .ok (.bipush 8, 2) := by decide +kernel
theorem dX2_tellOfCask_10 : decode cX2_tellOfCask 10 = .ok (.isub, 1) := by decide +kernel
theorem dX2_tellOfCask_11 : decode cX2_tellOfCask 11 = .ok (.istore 4, 2) := by decide +kernel
theorem dX2_tellOfCask_13 : decode cX2_tellOfCask 13 = .ok (.iload 4, 2) := by decide +kernel
theorem dX2_tellOfCask_15 : decode cX2_tellOfCask 15 = .ok (.ifCond .lt 17, 3) := by decide +kernel
theorem dX2_tellOfCask_18 : decode cX2_tellOfCask 18 = .ok (.iload 4, 2) := by decide +kernel
theorem dX2_tellOfCask_20 : decode cX2_tellOfCask 20 = .ok (.iconst 5, 1) := by decide +kernel
theorem dX2_tellOfCask_21 : decode cX2_tellOfCask 21 = .ok (.if_icmp .ge 11, 3) := by decide +kernel
theorem dX2_tellOfCask_24 : decode cX2_tellOfCask 24 = .ok (.aload_n 3, 1) := by decide +kernel
theorem dX2_tellOfCask_25 : decode cX2_tellOfCask 25 = .ok (.getfield 206, 3) := by decide +kernel
theorem dX2_tellOfCask_28 : decode cX2_tellOfCask 28 = .ok (.iload 4, 2) := by decide +kernel
theorem dX2_tellOfCask_30 : decode cX2_tellOfCask 30 = .ok (.iaload, 1) := by decide +kernel
theorem dX2_tellOfCask_31 : decode cX2_tellOfCask 31 = .ok (.ireturn, 1) := by decide +kernel
theorem dX2_tellOfCask_32 : decode cX2_tellOfCask 32 = .ok (.iload_n 2, 1) := by decide +kernel
theorem dX2_tellOfCask_33 : decode cX2_tellOfCask 33 = .ok (.tableswitch 126 0 14 #[75, 80, 86, 91, 96, 101, 106, 111, 126, 126, 126, 126, 126, 116, 121], 75) := by decide +kernel
theorem dX2_tellOfCask_108 : decode cX2_tellOfCask 108 = .ok (.aload_n 3, 1) := by decide +kernel
theorem dX2_tellOfCask_109 : decode cX2_tellOfCask 109 = .ok (.getfield 121, 3) := by decide +kernel
theorem dX2_tellOfCask_112 : decode cX2_tellOfCask 112 = .ok (.ireturn, 1) := by decide +kernel
theorem dX2_tellOfCask_113 : decode cX2_tellOfCask 113 = .ok (.aload_n 0, 1) := by decide +kernel
theorem dX2_tellOfCask_114 : decode cX2_tellOfCask 114 = .ok (.iload_n 1, 1) := by decide +kernel
theorem dX2_tellOfCask_115 : decode cX2_tellOfCask 115 = .ok (.invokevirtual 238, 3) := by decide +kernel
theorem dX2_tellOfCask_118 : decode cX2_tellOfCask 118 = .ok (.ireturn, 1) := by decide +kernel
theorem dX2_tellOfCask_119 : decode cX2_tellOfCask 119 = .ok (.aload_n 3, 1) := by decide +kernel
theorem dX2_tellOfCask_120 : decode cX2_tellOfCask 120 = .ok (.getfield 138, 3) := by decide +kernel
theorem dX2_tellOfCask_123 : decode cX2_tellOfCask 123 = .ok (.ireturn, 1) := by decide +kernel
theorem dX2_tellOfCask_124 : decode cX2_tellOfCask 124 = .ok (.aload_n 3, 1) := by decide +kernel
theorem dX2_tellOfCask_125 : decode cX2_tellOfCask 125 = .ok (.invokevirtual 162, 3) := by decide +kernel
theorem dX2_tellOfCask_128 : decode cX2_tellOfCask 128 = .ok (.ireturn, 1) := by decide +kernel
theorem dX2_tellOfCask_129 : decode cX2_tellOfCask 129 = .ok (.aload_n 3, 1) := by decide +kernel
theorem dX2_tellOfCask_130 : decode cX2_tellOfCask 130 = .ok (.getfield 321, 3) := by decide +kernel
theorem dX2_tellOfCask_133 : decode cX2_tellOfCask 133 = .ok (.ireturn, 1) := by decide +kernel
theorem dX2_tellOfCask_134 : decode cX2_tellOfCask 134 = .ok (.aload_n 3, 1) := by decide +kernel
theorem dX2_tellOfCask_135 : decode cX2_tellOfCask 135 = .ok (.getfield 324, 3) := by decide +kernel
theorem dX2_tellOfCask_138 : decode cX2_tellOfCask 138 = .ok (.ireturn, 1) := by decide +kernel
theorem dX2_tellOfCask_139 : decode cX2_tellOfCask 139 = .ok (.aload_n 3, 1) := by decide +kernel
theorem dX2_tellOfCask_140 : decode cX2_tellOfCask 140 = .ok (.getfield 327, 3) := by decide +kernel
theorem dX2_tellOfCask_143 : decode cX2_tellOfCask 143 = .ok (.ireturn, 1) := by decide +kernel
theorem dX2_tellOfCask_144 : decode cX2_tellOfCask 144 = .ok (.aload_n 3, 1) := by decide +kernel
theorem dX2_tellOfCask_145 : decode cX2_tellOfCask 145 = .ok (.invokevirtual 172, 3) := by decide +kernel
theorem dX2_tellOfCask_148 : decode cX2_tellOfCask 148 = .ok (.ireturn, 1) := by decide +kernel
theorem dX2_tellOfCask_149 : decode cX2_tellOfCask 149 = .ok (.aload_n 3, 1) := by decide +kernel
theorem dX2_tellOfCask_150 : decode cX2_tellOfCask 150 = .ok (.getfield 263, 3) := by decide +kernel
theorem dX2_tellOfCask_153 : decode cX2_tellOfCask 153 = .ok (.ireturn, 1) := by decide +kernel
theorem dX2_tellOfCask_154 : decode cX2_tellOfCask 154 = .ok (.aload_n 3, 1) := by decide +kernel
theorem dX2_tellOfCask_155 : decode cX2_tellOfCask 155 = .ok (.invokevirtual 266, 3) := by decide +kernel
theorem dX2_tellOfCask_158 : decode cX2_tellOfCask 158 = .ok (.ireturn, 1) := by decide +kernel
theorem dX2_tellOfCask_159 : decode cX2_tellOfCask 159 = .ok (.aload_n 3, 1) := by decide +kernel
theorem dX2_tellOfCask_160 : decode cX2_tellOfCask 160 = .ok (.getfield 127, 3) := by decide +kernel
theorem dX2_tellOfCask_163 : decode cX2_tellOfCask 163 = .ok (.ifCond .eq 7, 3) := by decide +kernel
theorem dX2_tellOfCask_166 : decode cX2_tellOfCask 166 = .ok (.iconst 1, 1) := by decide +kernel
theorem dX2_tellOfCask_167 : decode cX2_tellOfCask 167 = .ok (.goto 4, 3) := by decide +kernel
theorem dX2_tellOfCask_170 : decode cX2_tellOfCask 170 = .ok (.iconst 0, 1) := by decide +kernel
theorem dX2_tellOfCask_171 : decode cX2_tellOfCask 171 = .ok (.ireturn, 1) := by decide +kernel
theorem dX2_soundCasks_0 : decode cX2_soundCasks 0 = .ok (.iconst 0, 1) := by decide +kernel
theorem dX2_soundCasks_1 : decode cX2_soundCasks 1 = .ok (.istore_n 1, 1) := by decide +kernel
theorem dX2_soundCasks_2 : decode cX2_soundCasks 2 = .ok (.iconst 0, 1) := by decide +kernel
theorem dX2_soundCasks_3 : decode cX2_soundCasks 3 = .ok (.istore_n 2, 1) := by decide +kernel
theorem dX2_soundCasks_4 : decode cX2_soundCasks 4 = .ok (.iload_n 2, 1) := by decide +kernel
theorem dX2_soundCasks_5 : decode cX2_soundCasks 5 = .ok (.aload_n 0, 1) := by decide +kernel
theorem dX2_soundCasks_6 : decode cX2_soundCasks 6 = .ok (.getfield 114, 3) := by decide +kernel
theorem dX2_soundCasks_9 : decode cX2_soundCasks 9 = .ok (.if_icmp .ge 24, 3) := by decide +kernel
theorem dX2_soundCasks_12 : decode cX2_soundCasks 12 = .ok (.aload_n 0, 1) := by decide +kernel
theorem dX2_soundCasks_13 : decode cX2_soundCasks 13 = .ok (.getfield 30, 3) := by decide +kernel
theorem dX2_soundCasks_16 : decode cX2_soundCasks 16 = .ok (.iload_n 2, 1) := by decide +kernel
theorem dX2_soundCasks_17 : decode cX2_soundCasks 17 = .ok (.aaload, 1) := by decide +kernel
theorem dX2_soundCasks_18 : decode cX2_soundCasks 18 = .ok (.getfield 127, 3) := by decide +kernel
theorem dX2_soundCasks_21 : decode cX2_soundCasks 21 = .ok (.ifCond .eq 6, 3) := by decide +kernel
theorem dX2_soundCasks_24 : decode cX2_soundCasks 24 = .ok (.iinc 1 1, 3) := by decide +kernel
theorem dX2_soundCasks_27 : decode cX2_soundCasks 27 = .ok (.iinc 2 1, 3) := by decide +kernel
theorem dX2_soundCasks_30 : decode cX2_soundCasks 30 = .ok (.goto (-26), 3) := by decide +kernel
theorem dX2_soundCasks_33 : decode cX2_soundCasks 33 = .ok (.iload_n 1, 1) := by decide +kernel
theorem dX2_soundCasks_34 : decode cX2_soundCasks 34 = .ok (.ireturn, 1) := by decide +kernel
set_option maxRecDepth 20000 in
theorem ggX2_heldByAll_X1_held : GoodIn wsX2_heldByAll wsX1_held := goodIn_r _ [7, 8, 26, 27, 28, 29, 30, 31, 32, 33, 34, 35, 36] (by decide +kernel) (by decide +kernel)
set_option maxRecDepth 20000 in
theorem gX2_heldByAll_X1_held : GoodIn wsX2_heldByAll (wsV RX2 172 RX1 yX1_held wsX1_held) := goodIn_app (goodIn_of _ (by decide +kernel)) ggX2_heldByAll_X1_held
theorem dX2_heldByAll_0 : decode cX2_heldByAll 0 = .ok (.iconst 0, 1) := by decide +kernel
theorem dX2_heldByAll_1 : decode cX2_heldByAll 1 = .ok (.istore_n 1, 1) := by decide +kernel
theorem dX2_heldByAll_2 : decode cX2_heldByAll 2 = .ok (.iconst 0, 1) := by decide +kernel
theorem dX2_heldByAll_3 : decode cX2_heldByAll 3 = .ok (.istore_n 2, 1) := by decide +kernel
theorem dX2_heldByAll_4 : decode cX2_heldByAll 4 = .ok (.iload_n 2, 1) := by decide +kernel
theorem dX2_heldByAll_5 : decode cX2_heldByAll 5 = .ok (.aload_n 0, 1) := by decide +kernel
theorem dX2_heldByAll_6 : decode cX2_heldByAll 6 = .ok (.getfield 114, 3) := by decide +kernel
theorem dX2_heldByAll_9 : decode cX2_heldByAll 9 = .ok (.if_icmp .ge 21, 3) := by decide +kernel
theorem dX2_heldByAll_12 : decode cX2_heldByAll 12 = .ok (.iload_n 1, 1) := by decide +kernel
theorem dX2_heldByAll_13 : decode cX2_heldByAll 13 = .ok (.aload_n 0, 1) := by decide +kernel
theorem dX2_heldByAll_14 : decode cX2_heldByAll 14 = .ok (.getfield 30, 3) := by decide +kernel
theorem dX2_heldByAll_17 : decode cX2_heldByAll 17 = .ok (.iload_n 2, 1) := by decide +kernel
theorem dX2_heldByAll_18 : decode cX2_heldByAll 18 = .ok (.aaload, 1) := by decide +kernel
theorem dX2_heldByAll_19 : decode cX2_heldByAll 19 = .ok (.invokevirtual 172, 3) := by decide +kernel
theorem dX2_heldByAll_22 : decode cX2_heldByAll 22 = .ok (.iadd, 1) := by decide +kernel
theorem dX2_heldByAll_23 : decode cX2_heldByAll 23 = .ok (.istore_n 1, 1) := by decide +kernel
theorem dX2_heldByAll_24 : decode cX2_heldByAll 24 = .ok (.iinc 2 1, 3) := by decide +kernel
theorem dX2_heldByAll_27 : decode cX2_heldByAll 27 = .ok (.goto (-23), 3) := by decide +kernel
theorem dX2_heldByAll_30 : decode cX2_heldByAll 30 = .ok (.iload_n 1, 1) := by decide +kernel
theorem dX2_heldByAll_31 : decode cX2_heldByAll 31 = .ok (.ireturn, 1) := by decide +kernel
theorem dX2_vinegarOfAll_0 : decode cX2_vinegarOfAll 0 = .ok (.iconst 0, 1) := by decide +kernel
theorem dX2_vinegarOfAll_1 : decode cX2_vinegarOfAll 1 = .ok (.istore_n 1, 1) := by decide +kernel
theorem dX2_vinegarOfAll_2 : decode cX2_vinegarOfAll 2 = .ok (.iconst 0, 1) := by decide +kernel
theorem dX2_vinegarOfAll_3 : decode cX2_vinegarOfAll 3 = .ok (.istore_n 2, 1) := by decide +kernel
theorem dX2_vinegarOfAll_4 : decode cX2_vinegarOfAll 4 = .ok (.iload_n 2, 1) := by decide +kernel
theorem dX2_vinegarOfAll_5 : decode cX2_vinegarOfAll 5 = .ok (.aload_n 0, 1) := by decide +kernel
theorem dX2_vinegarOfAll_6 : decode cX2_vinegarOfAll 6 = .ok (.getfield 114, 3) := by decide +kernel
theorem dX2_vinegarOfAll_9 : decode cX2_vinegarOfAll 9 = .ok (.if_icmp .ge 23, 3) := by decide +kernel
theorem dX2_vinegarOfAll_12 : decode cX2_vinegarOfAll 12 = .ok (.iload_n 1, 1) := by decide +kernel
theorem dX2_vinegarOfAll_13 : decode cX2_vinegarOfAll 13 = .ok (.aload_n 0, 1) := by decide +kernel
theorem dX2_vinegarOfAll_14 : decode cX2_vinegarOfAll 14 = .ok (.getfield 30, 3) := by decide +kernel
theorem dX2_vinegarOfAll_17 : decode cX2_vinegarOfAll 17 = .ok (.iload_n 2, 1) := by decide +kernel
theorem dX2_vinegarOfAll_18 : decode cX2_vinegarOfAll 18 = .ok (.aaload, 1) := by decide +kernel
theorem dX2_vinegarOfAll_19 : decode cX2_vinegarOfAll 19 = .ok (.getfield 206, 3) := by decide +kernel
theorem dX2_vinegarOfAll_22 : decode cX2_vinegarOfAll 22 = .ok (.iconst 4, 1) := by decide +kernel
theorem dX2_vinegarOfAll_23 : decode cX2_vinegarOfAll 23 = .ok (.iaload, 1) := by decide +kernel
theorem dX2_vinegarOfAll_24 : decode cX2_vinegarOfAll 24 = .ok (.iadd, 1) := by decide +kernel
theorem dX2_vinegarOfAll_25 : decode cX2_vinegarOfAll 25 = .ok (.istore_n 1, 1) := by decide +kernel
theorem dX2_vinegarOfAll_26 : decode cX2_vinegarOfAll 26 = .ok (.iinc 2 1, 3) := by decide +kernel
theorem dX2_vinegarOfAll_29 : decode cX2_vinegarOfAll 29 = .ok (.goto (-25), 3) := by decide +kernel
theorem dX2_vinegarOfAll_32 : decode cX2_vinegarOfAll 32 = .ok (.iload_n 1, 1) := by decide +kernel
theorem dX2_vinegarOfAll_33 : decode cX2_vinegarOfAll 33 = .ok (.ireturn, 1) := by decide +kernel
theorem dX2_hoopsLoosenIn_0 : decode cX2_hoopsLoosenIn 0 = .ok (.iload_n 0, 1) := by decide +kernel
theorem dX2_hoopsLoosenIn_1 : decode cX2_hoopsLoosenIn 1 = .ok (.iconst 1, 1) := by decide +kernel
theorem dX2_hoopsLoosenIn_2 : decode cX2_hoopsLoosenIn 2 = .ok (.iadd, 1) := by decide +kernel
theorem dX2_hoopsLoosenIn_3 : decode cX2_hoopsLoosenIn 3 = .ok (.bipush 12, 2) := by decide +kernel
theorem dX2_hoopsLoosenIn_5 : decode cX2_hoopsLoosenIn 5 = .ok (.irem, 1) := by decide +kernel
theorem dX2_hoopsLoosenIn_6 : decode cX2_hoopsLoosenIn 6 = .ok (.ifCond .ne 7, 3) := by decide +kernel
theorem dX2_hoopsLoosenIn_9 : decode cX2_hoopsLoosenIn 9 = .ok (.iconst 1, 1) := by decide +kernel
theorem dX2_hoopsLoosenIn_10 : decode cX2_hoopsLoosenIn 10 = .ok (.goto 4, 3) := by decide +kernel
theorem dX2_hoopsLoosenIn_13 : decode cX2_hoopsLoosenIn 13 = .ok (.iconst 0, 1) := by decide +kernel
theorem dX2_hoopsLoosenIn_14 : decode cX2_hoopsLoosenIn 14 = .ok (.ireturn, 1) := by decide +kernel
set_option maxRecDepth 20000 in
theorem ggX2_liveMonth_X2_hoopsLoosenIn : GoodIn wsX2_liveMonth wsX2_hoopsLoosenIn := goodIn_r _ [15] (by decide +kernel) (by decide +kernel)
set_option maxRecDepth 20000 in
theorem gX2_liveMonth_X2_hoopsLoosenIn : GoodIn wsX2_liveMonth (va_wsS RX2 256 yX2_hoopsLoosenIn wsX2_hoopsLoosenIn) := goodIn_app (goodIn_of _ (by decide +kernel)) ggX2_liveMonth_X2_hoopsLoosenIn
set_option maxRecDepth 20000 in
theorem ggX2_liveMonth_X1_live : GoodIn wsX2_liveMonth wsX1_live := goodIn_r _ [20, 21, 22, 23, 24, 19, 25, 26, 27, 28, 29, 30, 31, 32, 33, 34, 35, 36, 37, 38, 39, 5, 6, 7, 40, 41, 42, 43, 44, 45, 46, 47, 48, 49, 50, 51, 52, 53, 54, 55, 56, 57, 58, 59, 60, 61, 62, 63, 64, 65, 66, 67, 68, 69, 70, 71, 72, 73, 74, 75, 76, 94, 95, 96, 97, 98, 99, 100, 101, 102, 103, 104] (by decide +kernel) (by decide +kernel)
set_option maxRecDepth 20000 in
theorem gX2_liveMonth_X1_live : GoodIn wsX2_liveMonth (wsV RX2 259 RX1 yX1_live wsX1_live) := goodIn_app (goodIn_of _ (by decide +kernel)) ggX2_liveMonth_X1_live
theorem dX2_liveMonth_0 : decode cX2_liveMonth 0 = .ok (.iconst 0, 1) := by decide +kernel
theorem dX2_liveMonth_1 : decode cX2_liveMonth 1 = .ok (.istore_n 1, 1) := by decide +kernel
theorem dX2_liveMonth_2 : decode cX2_liveMonth 2 = .ok (.iload_n 1, 1) := by decide +kernel
theorem dX2_liveMonth_3 : decode cX2_liveMonth 3 = .ok (.aload_n 0, 1) := by decide +kernel
theorem dX2_liveMonth_4 : decode cX2_liveMonth 4 = .ok (.getfield 66, 3) := by decide +kernel
theorem dX2_liveMonth_7 : decode cX2_liveMonth 7 = .ok (.if_icmp .ge 38, 3) := by decide +kernel
theorem dX2_liveMonth_10 : decode cX2_liveMonth 10 = .ok (.aload_n 0, 1) := by decide +kernel
theorem dX2_liveMonth_11 : decode cX2_liveMonth 11 = .ok (.getfield 16, 3) := by decide +kernel
theorem dX2_liveMonth_14 : decode cX2_liveMonth 14 = .ok (.iload_n 1, 1) := by decide +kernel
theorem dX2_liveMonth_15 : decode cX2_liveMonth 15 = .ok (.iaload, 1) := by decide +kernel
theorem dX2_liveMonth_16 : decode cX2_liveMonth 16 = .ok (.iconst (-1), 1) := by decide +kernel
theorem dX2_liveMonth_17 : decode cX2_liveMonth 17 = .ok (.if_icmp .ne 22, 3) := by decide +kernel
theorem dX2_liveMonth_20 : decode cX2_liveMonth 20 = .ok (.aload_n 0, 1) := by decide +kernel
theorem dX2_liveMonth_21 : decode cX2_liveMonth 21 = .ok (.getfield 13, 3) := by decide +kernel
theorem dX2_liveMonth_24 : decode cX2_liveMonth 24 = .ok (.iload_n 1, 1) := by decide +kernel
theorem dX2_liveMonth_25 : decode cX2_liveMonth 25 = .ok (.bipush 100, 2) := by decide +kernel
theorem dX2_liveMonth_27 : decode cX2_liveMonth 27 = .ok (.aload_n 0, 1) := by decide +kernel
theorem dX2_liveMonth_28 : decode cX2_liveMonth 28 = .ok (.getfield 13, 3) := by decide +kernel
theorem dX2_liveMonth_31 : decode cX2_liveMonth 31 = .ok (.iload_n 1, 1) := by decide +kernel
theorem dX2_liveMonth_32 : decode cX2_liveMonth 32 = .ok (.iaload, 1) := by decide +kernel
theorem dX2_liveMonth_33 : decode cX2_liveMonth 33 = .ok (.iconst 4, 1) := by decide +kernel
theorem dX2_liveMonth_34 : decode cX2_liveMonth 34 = .ok (.iadd, 1) := by decide +kernel
theorem dX2_liveMonth_35 : decode cX2_liveMonth 35 = .ok (.invokestatic 156, 3) := by decide +kernel
theorem dX2_liveMonth_38 : decode cX2_liveMonth 38 = .ok (.iastore, 1) := by decide +kernel
theorem dX2_liveMonth_39 : decode cX2_liveMonth 39 = .ok (.iinc 1 1, 3) := by decide +kernel
theorem dX2_liveMonth_42 : decode cX2_liveMonth 42 = .ok (.goto (-40), 3) := by decide +kernel
theorem dX2_liveMonth_45 : decode cX2_liveMonth 45 = .ok (.iconst 0, 1) := by decide +kernel
theorem dX2_liveMonth_46 : decode cX2_liveMonth 46 = .ok (.istore_n 1, 1) := by decide +kernel
theorem dX2_liveMonth_47 : decode cX2_liveMonth 47 = .ok (.iconst 0, 1) := by decide +kernel
theorem dX2_liveMonth_48 : decode cX2_liveMonth 48 = .ok (.istore_n 2, 1) := by decide +kernel
theorem dX2_liveMonth_49 : decode cX2_liveMonth 49 = .ok (.iload_n 2, 1) := by decide +kernel
theorem dX2_liveMonth_50 : decode cX2_liveMonth 50 = .ok (.aload_n 0, 1) := by decide +kernel
theorem dX2_liveMonth_51 : decode cX2_liveMonth 51 = .ok (.getfield 114, 3) := by decide +kernel
theorem dX2_liveMonth_54 : decode cX2_liveMonth 54 = .ok (.if_icmp .ge 32, 3) := by decide +kernel
theorem dX2_liveMonth_57 : decode cX2_liveMonth 57 = .ok (.iload_n 1, 1) := by decide +kernel
theorem dX2_liveMonth_58 : decode cX2_liveMonth 58 = .ok (.aload_n 0, 1) := by decide +kernel
theorem dX2_liveMonth_59 : decode cX2_liveMonth 59 = .ok (.getfield 30, 3) := by decide +kernel
theorem dX2_liveMonth_62 : decode cX2_liveMonth 62 = .ok (.iload_n 2, 1) := by decide +kernel
theorem dX2_liveMonth_63 : decode cX2_liveMonth 63 = .ok (.aaload, 1) := by decide +kernel
theorem dX2_liveMonth_64 : decode cX2_liveMonth 64 = .ok (.aload_n 0, 1) := by decide +kernel
theorem dX2_liveMonth_65 : decode cX2_liveMonth 65 = .ok (.getfield 53, 3) := by decide +kernel
theorem dX2_liveMonth_68 : decode cX2_liveMonth 68 = .ok (.aload_n 0, 1) := by decide +kernel
theorem dX2_liveMonth_69 : decode cX2_liveMonth 69 = .ok (.getfield 225, 3) := by decide +kernel
theorem dX2_liveMonth_72 : decode cX2_liveMonth 72 = .ok (.invokestatic 256, 3) := by decide +kernel
theorem dX2_liveMonth_75 : decode cX2_liveMonth 75 = .ok (.invokevirtual 259, 3) := by decide +kernel
theorem dX2_liveMonth_78 : decode cX2_liveMonth 78 = .ok (.iadd, 1) := by decide +kernel
theorem dX2_liveMonth_79 : decode cX2_liveMonth 79 = .ok (.istore_n 1, 1) := by decide +kernel
theorem dX2_liveMonth_80 : decode cX2_liveMonth 80 = .ok (.iinc 2 1, 3) := by decide +kernel
theorem dX2_liveMonth_83 : decode cX2_liveMonth 83 = .ok (.goto (-34), 3) := by decide +kernel
theorem dX2_liveMonth_86 : decode cX2_liveMonth 86 = .ok (.aload_n 0, 1) := by decide +kernel
theorem dX2_liveMonth_87 : decode cX2_liveMonth 87 = .ok (.dup, 1) := by decide +kernel
theorem dX2_liveMonth_88 : decode cX2_liveMonth 88 = .ok (.getfield 225, 3) := by decide +kernel
theorem dX2_liveMonth_91 : decode cX2_liveMonth 91 = .ok (.iconst 1, 1) := by decide +kernel
theorem dX2_liveMonth_92 : decode cX2_liveMonth 92 = .ok (.iadd, 1) := by decide +kernel
theorem dX2_liveMonth_93 : decode cX2_liveMonth 93 = .ok (.putfield 225, 3) := by decide +kernel
theorem dX2_liveMonth_96 : decode cX2_liveMonth 96 = .ok (.iload_n 1, 1) := by decide +kernel
theorem dX2_liveMonth_97 : decode cX2_liveMonth 97 = .ok (.ireturn, 1) := by decide +kernel
set_option maxRecDepth 20000 in
theorem ggX2_findBestBlend_X0_clear : GoodIn wsX2_findBestBlend wsX0_clear := goodIn_r _ [8, 9, 10, 11, 12, 13, 65, 66, 67, 68, 69] (by decide +kernel) (by decide +kernel)
set_option maxRecDepth 20000 in
theorem gX2_findBestBlend_X0_clear : GoodIn wsX2_findBestBlend (wsV RX2 330 RX0 yX0_clear wsX0_clear) := goodIn_app (goodIn_of _ (by decide +kernel)) ggX2_findBestBlend_X0_clear
set_option maxRecDepth 20000 in
theorem ggX2_findBestBlend_X1_canBeBlended : GoodIn wsX2_findBestBlend wsX1_canBeBlended := goodIn_r _ [18, 19, 20, 21, 22, 23, 17, 24, 70, 71, 72, 73, 74, 75, 76, 77, 78, 79, 80] (by decide +kernel) (by decide +kernel)
set_option maxRecDepth 20000 in
theorem gX2_findBestBlend_X1_canBeBlended : GoodIn wsX2_findBestBlend (wsV RX2 331 RX1 yX1_canBeBlended wsX1_canBeBlended) := goodIn_app (goodIn_of _ (by decide +kernel)) ggX2_findBestBlend_X1_canBeBlended
set_option maxRecDepth 20000 in
theorem ggX2_findBestBlend_X2_offerBlends : GoodIn wsX2_findBestBlend wsX2_offerBlends := goodIn_r _ [29, 3, 1, 30, 31, 32, 17, 33, 34, 35, 36, 37, 38, 39, 40, 21, 22, 23, 24, 20, 41, 42, 43, 7, 44, 45, 46, 47, 9, 13, 10, 11, 12, 48, 49, 50, 51, 52, 53, 54, 55, 56, 57, 58, 59, 60, 61, 62, 63, 64, 70, 71, 72, 73, 74, 75, 76, 77, 78, 79, 80, 65, 66, 67, 68, 69] (by decide +kernel) (by decide +kernel)
set_option maxRecDepth 20000 in
theorem gX2_findBestBlend_X2_offerBlends : GoodIn wsX2_findBestBlend (wsV RX2 335 RX2 yX2_offerBlends wsX2_offerBlends) := goodIn_app (goodIn_of _ (by decide +kernel)) ggX2_findBestBlend_X2_offerBlends
theorem dX2_findBestBlend_0 : decode cX2_findBestBlend 0 = .ok (.aload_n 0, 1) := by decide +kernel
theorem dX2_findBestBlend_1 : decode cX2_findBestBlend 1 = .ok (.getfield 49, 3) := by decide +kernel
theorem dX2_findBestBlend_4 : decode cX2_findBestBlend 4 = .ok (.invokevirtual 330, 3) := by decide +kernel
theorem dX2_findBestBlend_7 : decode cX2_findBestBlend 7 = .ok (.iconst 0, 1) := by decide +kernel
theorem dX2_findBestBlend_8 : decode cX2_findBestBlend 8 = .ok (.istore_n 2, 1) := by decide +kernel
theorem dX2_findBestBlend_9 : decode cX2_findBestBlend 9 = .ok (.iload_n 2, 1) := by decide +kernel
theorem dX2_findBestBlend_10 : decode cX2_findBestBlend 10 = .ok (.aload_n 0, 1) := by decide +kernel
theorem dX2_findBestBlend_11 : decode cX2_findBestBlend 11 = .ok (.getfield 114, 3) := by decide +kernel
theorem dX2_findBestBlend_14 : decode cX2_findBestBlend 14 = .ok (.if_icmp .ge 58, 3) := by decide +kernel
theorem dX2_findBestBlend_17 : decode cX2_findBestBlend 17 = .ok (.iload_n 2, 1) := by decide +kernel
theorem dX2_findBestBlend_18 : decode cX2_findBestBlend 18 = .ok (.iconst 1, 1) := by decide +kernel
theorem dX2_findBestBlend_19 : decode cX2_findBestBlend 19 = .ok (.iadd, 1) := by decide +kernel
theorem dX2_findBestBlend_20 : decode cX2_findBestBlend 20 = .ok (.istore_n 3, 1) := by decide +kernel
theorem dX2_findBestBlend_21 : decode cX2_findBestBlend 21 = .ok (.iload_n 3, 1) := by decide +kernel
theorem dX2_findBestBlend_22 : decode cX2_findBestBlend 22 = .ok (.aload_n 0, 1) := by decide +kernel
theorem dX2_findBestBlend_23 : decode cX2_findBestBlend 23 = .ok (.getfield 114, 3) := by decide +kernel
theorem dX2_findBestBlend_26 : decode cX2_findBestBlend 26 = .ok (.if_icmp .ge 40, 3) := by decide +kernel
theorem dX2_findBestBlend_29 : decode cX2_findBestBlend 29 = .ok (.aload_n 0, 1) := by decide +kernel
theorem dX2_findBestBlend_30 : decode cX2_findBestBlend 30 = .ok (.getfield 30, 3) := by decide +kernel
theorem dX2_findBestBlend_33 : decode cX2_findBestBlend 33 = .ok (.iload_n 2, 1) := by decide +kernel
theorem dX2_findBestBlend_34 : decode cX2_findBestBlend 34 = .ok (.aaload, 1) := by decide +kernel
theorem dX2_findBestBlend_35 : decode cX2_findBestBlend 35 = .ok (.invokevirtual 331, 3) := by decide +kernel
theorem dX2_findBestBlend_38 : decode cX2_findBestBlend 38 = .ok (.ifCond .eq 22, 3) := by decide +kernel
theorem dX2_findBestBlend_41 : decode cX2_findBestBlend 41 = .ok (.aload_n 0, 1) := by decide +kernel
theorem dX2_findBestBlend_42 : decode cX2_findBestBlend 42 = .ok (.getfield 30, 3) := by decide +kernel
theorem dX2_findBestBlend_45 : decode cX2_findBestBlend 45 = .ok (.iload_n 3, 1) := by decide +kernel
theorem dX2_findBestBlend_46 : decode cX2_findBestBlend 46 = .ok (.aaload, 1) := by decide +kernel
theorem dX2_findBestBlend_47 : decode cX2_findBestBlend 47 = .ok (.invokevirtual 331, 3) := by decide +kernel
theorem dX2_findBestBlend_50 : decode cX2_findBestBlend 50 = .ok (.ifCond .eq 10, 3) := by decide +kernel
theorem dX2_findBestBlend_53 : decode cX2_findBestBlend 53 = .ok (.aload_n 0, 1) := by decide +kernel
theorem dX2_findBestBlend_54 : decode cX2_findBestBlend 54 = .ok (.iload_n 2, 1) := by decide +kernel
theorem dX2_findBestBlend_55 : decode cX2_findBestBlend 55 = .ok (.iload_n 3, 1) := by decide +kernel
theorem dX2_findBestBlend_56 : decode cX2_findBestBlend 56 = .ok (.iload_n 1, 1) := by decide +kernel
theorem dX2_findBestBlend_57 : decode cX2_findBestBlend 57 = .ok (.invokevirtual 335, 3) := by decide +kernel
theorem dX2_findBestBlend_60 : decode cX2_findBestBlend 60 = .ok (.iinc 3 1, 3) := by decide +kernel
theorem dX2_findBestBlend_63 : decode cX2_findBestBlend 63 = .ok (.goto (-42), 3) := by decide +kernel
theorem dX2_findBestBlend_66 : decode cX2_findBestBlend 66 = .ok (.iinc 2 1, 3) := by decide +kernel
theorem dX2_findBestBlend_69 : decode cX2_findBestBlend 69 = .ok (.goto (-60), 3) := by decide +kernel
theorem dX2_findBestBlend_72 : decode cX2_findBestBlend 72 = .ok (.return_, 1) := by decide +kernel
set_option maxRecDepth 20000 in
theorem ggX2_offerBlends_X1_tasteOfOak : GoodIn wsX2_offerBlends wsX1_tasteOfOak := goodIn_r _ [7, 8, 9, 10, 11, 12, 13, 14, 15, 16, 17, 6, 18, 19, 50, 51, 52, 53, 54, 55, 56, 57, 58, 59, 60] (by decide +kernel) (by decide +kernel)
set_option maxRecDepth 20000 in
theorem gX2_offerBlends_X1_tasteOfOak : GoodIn wsX2_offerBlends (wsV RX2 339 RX1 yX1_tasteOfOak wsX1_tasteOfOak) := goodIn_app (goodIn_of _ (by decide +kernel)) ggX2_offerBlends_X1_tasteOfOak
set_option maxRecDepth 20000 in
theorem ggX2_offerBlends_X0_offer : GoodIn wsX2_offerBlends wsX0_offer := goodIn_r _ [24, 25, 26, 13, 27, 28, 29, 30, 31, 32, 61, 62, 63, 64, 65] (by decide +kernel) (by decide +kernel)
set_option maxRecDepth 20000 in
theorem gX2_offerBlends_X0_offer : GoodIn wsX2_offerBlends (wsV RX2 342 RX0 yX0_offer wsX0_offer) := goodIn_app (goodIn_of _ (by decide +kernel)) ggX2_offerBlends_X0_offer
theorem dX2_offerBlends_0 : decode cX2_offerBlends 0 = .ok (.aload_n 0, 1) := by decide +kernel
theorem dX2_offerBlends_1 : decode cX2_offerBlends 1 = .ok (.getfield 30, 3) := by decide +kernel
theorem dX2_offerBlends_4 : decode cX2_offerBlends 4 = .ok (.iload_n 1, 1) := by decide +kernel
theorem dX2_offerBlends_5 : decode cX2_offerBlends 5 = .ok (.aaload, 1) := by decide +kernel
theorem dX2_offerBlends_6 : decode cX2_offerBlends 6 = .ok (.invokevirtual 339, 3) := by decide +kernel
theorem dX2_offerBlends_9 : decode cX2_offerBlends 9 = .ok (.istore 4, 2) := by decide +kernel
theorem dX2_offerBlends_11 : decode cX2_offerBlends 11 = .ok (.aload_n 0, 1) := by decide +kernel
theorem dX2_offerBlends_12 : decode cX2_offerBlends 12 = .ok (.getfield 30, 3) := by decide +kernel
theorem dX2_offerBlends_15 : decode cX2_offerBlends 15 = .ok (.iload_n 2, 1) := by decide +kernel
theorem dX2_offerBlends_16 : decode cX2_offerBlends 16 = .ok (.aaload, 1) := by decide +kernel
theorem dX2_offerBlends_17 : decode cX2_offerBlends 17 = .ok (.invokevirtual 339, 3) := by decide +kernel
theorem dX2_offerBlends_20 : decode cX2_offerBlends 20 = .ok (.istore 5, 2) := by decide +kernel
theorem dX2_offerBlends_22 : decode cX2_offerBlends 22 = .ok (.iconst 1, 1) := by decide +kernel
theorem dX2_offerBlends_23 : decode cX2_offerBlends 23 = .ok (.istore 6, 2) := by decide +kernel
theorem dX2_offerBlends_25 : decode cX2_offerBlends 25 = .ok (.iload 6, 2) := by decide +kernel
theorem dX2_offerBlends_27 : decode cX2_offerBlends 27 = .ok (.bipush 10, 2) := by decide +kernel
theorem dX2_offerBlends_29 : decode cX2_offerBlends 29 = .ok (.if_icmp .ge 42, 3) := by decide +kernel
theorem dX2_offerBlends_32 : decode cX2_offerBlends 32 = .ok (.iload 6, 2) := by decide +kernel
theorem dX2_offerBlends_34 : decode cX2_offerBlends 34 = .ok (.iload 4, 2) := by decide +kernel
theorem dX2_offerBlends_36 : decode cX2_offerBlends 36 = .ok (.imul, 1) := by decide +kernel
theorem dX2_offerBlends_37 : decode cX2_offerBlends 37 = .ok (.bipush 10, 2) := by decide +kernel
theorem dX2_offerBlends_39 : decode cX2_offerBlends 39 = .ok (.iload 6, 2) := by decide +kernel
theorem dX2_offerBlends_41 : decode cX2_offerBlends 41 = .ok (.isub, 1) := by decide +kernel
theorem dX2_offerBlends_42 : decode cX2_offerBlends 42 = .ok (.iload 5, 2) := by decide +kernel
theorem dX2_offerBlends_44 : decode cX2_offerBlends 44 = .ok (.imul, 1) := by decide +kernel
theorem dX2_offerBlends_45 : decode cX2_offerBlends 45 = .ok (.iadd, 1) := by decide +kernel
theorem dX2_offerBlends_46 : decode cX2_offerBlends 46 = .ok (.bipush 10, 2) := by decide +kernel
theorem dX2_offerBlends_48 : decode cX2_offerBlends 48 = .ok (.idiv, 1) := by decide +kernel
theorem dX2_offerBlends_49 : decode cX2_offerBlends 49 = .ok (.istore 7, 2) := by decide +kernel
theorem dX2_offerBlends_51 : decode cX2_offerBlends 51 = .ok (.aload_n 0, 1) := by decide +kernel
theorem dX2_offerBlends_52 : decode cX2_offerBlends 52 = .ok (.getfield 49, 3) := by decide +kernel
theorem dX2_offerBlends_55 : decode cX2_offerBlends 55 = .ok (.iload_n 1, 1) := by decide +kernel
theorem dX2_offerBlends_56 : decode cX2_offerBlends 56 = .ok (.iload_n 2, 1) := by decide +kernel
theorem dX2_offerBlends_57 : decode cX2_offerBlends 57 = .ok (.iload 6, 2) := by decide +kernel
theorem dX2_offerBlends_59 : decode cX2_offerBlends 59 = .ok (.iload 7, 2) := by decide +kernel
theorem dX2_offerBlends_61 : decode cX2_offerBlends 61 = .ok (.iload_n 3, 1) := by decide +kernel
theorem dX2_offerBlends_62 : decode cX2_offerBlends 62 = .ok (.invokevirtual 342, 3) := by decide +kernel
theorem dX2_offerBlends_65 : decode cX2_offerBlends 65 = .ok (.iinc 6 1, 3) := by decide +kernel
theorem dX2_offerBlends_68 : decode cX2_offerBlends 68 = .ok (.goto (-43), 3) := by decide +kernel
theorem dX2_offerBlends_71 : decode cX2_offerBlends 71 = .ok (.return_, 1) := by decide +kernel
set_option maxRecDepth 20000 in
theorem ggX2_digestCask_X2_tellOfCask : GoodIn wsX2_digestCask wsX2_tellOfCask := goodIn_r _ [9, 2, 10, 11, 12, 13, 14, 15, 16, 17, 18, 19, 20, 8, 21, 22, 23, 24, 25, 26, 27, 28, 29, 30, 31, 32, 33, 34, 35, 36, 37, 38, 39, 40, 41, 42, 43, 44, 45, 46, 47, 48, 49, 50, 51, 52, 53, 54, 55, 56, 57, 58, 59, 60, 61, 62, 63, 64, 65, 66, 67, 68, 69, 70, 71, 72, 73, 74] (by decide +kernel) (by decide +kernel)
set_option maxRecDepth 20000 in
theorem gX2_digestCask_X2_tellOfCask : GoodIn wsX2_digestCask (wsV RX2 194 RX2 yX2_tellOfCask wsX2_tellOfCask) := goodIn_app (goodIn_of _ (by decide +kernel)) ggX2_digestCask_X2_tellOfCask
theorem dX2_digestCask_0 : decode cX2_digestCask 0 = .ok (.lload_n 1, 1) := by decide +kernel
theorem dX2_digestCask_1 : decode cX2_digestCask 1 = .ok (.lstore 4, 2) := by decide +kernel
theorem dX2_digestCask_3 : decode cX2_digestCask 3 = .ok (.iconst 0, 1) := by decide +kernel
theorem dX2_digestCask_4 : decode cX2_digestCask 4 = .ok (.istore 6, 2) := by decide +kernel
theorem dX2_digestCask_6 : decode cX2_digestCask 6 = .ok (.iload 6, 2) := by decide +kernel
theorem dX2_digestCask_8 : decode cX2_digestCask 8 = .ok (.bipush 16, 2) := by decide +kernel
theorem dX2_digestCask_10 : decode cX2_digestCask 10 = .ok (.if_icmp .ge 26, 3) := by decide +kernel
theorem dX2_digestCask_13 : decode cX2_digestCask 13 = .ok (.lload 4, 2) := by decide +kernel
theorem dX2_digestCask_15 : decode cX2_digestCask 15 = .ok (.ldc2_w 289, 3) := by decide +kernel
theorem dX2_digestCask_18 : decode cX2_digestCask 18 = .ok (.lmul, 1) := by decide +kernel
theorem dX2_digestCask_19 : decode cX2_digestCask 19 = .ok (.aload_n 0, 1) := by decide +kernel
theorem dX2_digestCask_20 : decode cX2_digestCask 20 = .ok (.iload_n 3, 1) := by decide +kernel
theorem dX2_digestCask_21 : decode cX2_digestCask 21 = .ok (.iload 6, 2) := by decide +kernel
theorem dX2_digestCask_23 : decode cX2_digestCask 23 = .ok (.invokevirtual 194, 3) := by decide +kernel
theorem dX2_digestCask_26 : decode cX2_digestCask 26 = .ok (.i2l, 1) := by decide +kernel
theorem dX2_digestCask_27 : decode cX2_digestCask 27 = .ok (.ladd, 1) := by decide +kernel
theorem dX2_digestCask_28 : decode cX2_digestCask 28 = .ok (.lstore 4, 2) := by decide +kernel
theorem dX2_digestCask_30 : decode cX2_digestCask 30 = .ok (.iinc 6 1, 3) := by decide +kernel
theorem dX2_digestCask_33 : decode cX2_digestCask 33 = .ok (.goto (-27), 3) := by decide +kernel
theorem dX2_digestCask_36 : decode cX2_digestCask 36 = .ok (.aload_n 0, 1) := by decide +kernel
theorem dX2_digestCask_37 : decode cX2_digestCask 37 = .ok (.getfield 30, 3) := by decide +kernel
theorem dX2_digestCask_40 : decode cX2_digestCask 40 = .ok (.iload_n 3, 1) := by decide +kernel
theorem dX2_digestCask_41 : decode cX2_digestCask 41 = .ok (.aaload, 1) := by decide +kernel
theorem dX2_digestCask_42 : decode cX2_digestCask 42 = .ok (.astore 6, 2) := by decide +kernel
theorem dX2_digestCask_44 : decode cX2_digestCask 44 = .ok (.iconst 0, 1) := by decide +kernel
theorem dX2_digestCask_45 : decode cX2_digestCask 45 = .ok (.istore 7, 2) := by decide +kernel
theorem dX2_digestCask_47 : decode cX2_digestCask 47 = .ok (.iload 7, 2) := by decide +kernel
theorem dX2_digestCask_49 : decode cX2_digestCask 49 = .ok (.aload 6, 2) := by decide +kernel
theorem dX2_digestCask_51 : decode cX2_digestCask 51 = .ok (.getfield 146, 3) := by decide +kernel
theorem dX2_digestCask_54 : decode cX2_digestCask 54 = .ok (.if_icmp .ge 34, 3) := by decide +kernel
theorem dX2_digestCask_57 : decode cX2_digestCask 57 = .ok (.iload 7, 2) := by decide +kernel
theorem dX2_digestCask_59 : decode cX2_digestCask 59 = .ok (.bipush 8, 2) := by decide +kernel
theorem dX2_digestCask_61 : decode cX2_digestCask 61 = .ok (.if_icmp .ge 27, 3) := by decide +kernel
theorem dX2_digestCask_64 : decode cX2_digestCask 64 = .ok (.lload 4, 2) := by decide +kernel
theorem dX2_digestCask_66 : decode cX2_digestCask 66 = .ok (.ldc2_w 289, 3) := by decide +kernel
theorem dX2_digestCask_69 : decode cX2_digestCask 69 = .ok (.lmul, 1) := by decide +kernel
theorem dX2_digestCask_70 : decode cX2_digestCask 70 = .ok (.aload 6, 2) := by decide +kernel
theorem dX2_digestCask_72 : decode cX2_digestCask 72 = .ok (.getfield 153, 3) := by decide +kernel
theorem dX2_digestCask_75 : decode cX2_digestCask 75 = .ok (.iload 7, 2) := by decide +kernel
theorem dX2_digestCask_77 : decode cX2_digestCask 77 = .ok (.iaload, 1) := by decide +kernel
theorem dX2_digestCask_78 : decode cX2_digestCask 78 = .ok (.i2l, 1) := by decide +kernel
theorem dX2_digestCask_79 : decode cX2_digestCask 79 = .ok (.ladd, 1) := by decide +kernel
theorem dX2_digestCask_80 : decode cX2_digestCask 80 = .ok (.lstore 4, 2) := by decide +kernel
theorem dX2_digestCask_82 : decode cX2_digestCask 82 = .ok (.iinc 7 1, 3) := by decide +kernel
theorem dX2_digestCask_85 : decode cX2_digestCask 85 = .ok (.goto (-38), 3) := by decide +kernel
theorem dX2_digestCask_88 : decode cX2_digestCask 88 = .ok (.lload 4, 2) := by decide +kernel
theorem dX2_digestCask_90 : decode cX2_digestCask 90 = .ok (.lreturn, 1) := by decide +kernel
theorem dX3_init_0 : decode cX3_init 0 = .ok (.aload_n 0, 1) := by decide +kernel
theorem dX3_init_1 : decode cX3_init 1 = .ok (.invokespecial 1, 3) := by decide +kernel
theorem dX3_init_4 : decode cX3_init 4 = .ok (.aload_n 0, 1) := by decide +kernel
theorem dX3_init_5 : decode cX3_init 5 = .ok (.iconst 2, 1) := by decide +kernel
theorem dX3_init_6 : decode cX3_init 6 = .ok (.putfield 7, 3) := by decide +kernel
theorem dX3_init_9 : decode cX3_init 9 = .ok (.aload_n 0, 1) := by decide +kernel
theorem dX3_init_10 : decode cX3_init 10 = .ok (.bipush 60, 2) := by decide +kernel
theorem dX3_init_12 : decode cX3_init 12 = .ok (.newarray .int, 2) := by decide +kernel
theorem dX3_init_14 : decode cX3_init 14 = .ok (.putfield 13, 3) := by decide +kernel
theorem dX3_init_17 : decode cX3_init 17 = .ok (.aload_n 0, 1) := by decide +kernel
theorem dX3_init_18 : decode cX3_init 18 = .ok (.bipush 60, 2) := by decide +kernel
theorem dX3_init_20 : decode cX3_init 20 = .ok (.newarray .int, 2) := by decide +kernel
theorem dX3_init_22 : decode cX3_init 22 = .ok (.putfield 17, 3) := by decide +kernel
theorem dX3_init_25 : decode cX3_init 25 = .ok (.aload_n 0, 1) := by decide +kernel
theorem dX3_init_26 : decode cX3_init 26 = .ok (.bipush 60, 2) := by decide +kernel
theorem dX3_init_28 : decode cX3_init 28 = .ok (.newarray .int, 2) := by decide +kernel
theorem dX3_init_30 : decode cX3_init 30 = .ok (.putfield 20, 3) := by decide +kernel
theorem dX3_init_33 : decode cX3_init 33 = .ok (.aload_n 0, 1) := by decide +kernel
theorem dX3_init_34 : decode cX3_init 34 = .ok (.bipush 6, 2) := by decide +kernel
theorem dX3_init_36 : decode cX3_init 36 = .ok (.newarray .int, 2) := by decide +kernel
theorem dX3_init_38 : decode cX3_init 38 = .ok (.putfield 23, 3) := by decide +kernel
theorem dX3_init_41 : decode cX3_init 41 = .ok (.aload_n 0, 1) := by decide +kernel
theorem dX3_init_42 : decode cX3_init 42 = .ok (.bipush 6, 2) := by decide +kernel
theorem dX3_init_44 : decode cX3_init 44 = .ok (.newarray .int, 2) := by decide +kernel
theorem dX3_init_46 : decode cX3_init 46 = .ok (.putfield 26, 3) := by decide +kernel
theorem dX3_init_49 : decode cX3_init 49 = .ok (.aload_n 0, 1) := by decide +kernel
theorem dX3_init_50 : decode cX3_init 50 = .ok (.bipush 6, 2) := by decide +kernel
theorem dX3_init_52 : decode cX3_init 52 = .ok (.newarray .int, 2) := by decide +kernel
theorem dX3_init_54 : decode cX3_init 54 = .ok (.putfield 29, 3) := by decide +kernel
theorem dX3_init_57 : decode cX3_init 57 = .ok (.aload_n 0, 1) := by decide +kernel
theorem dX3_init_58 : decode cX3_init 58 = .ok (.bipush 12, 2) := by decide +kernel
theorem dX3_init_60 : decode cX3_init 60 = .ok (.newarray .int, 2) := by decide +kernel
theorem dX3_init_62 : decode cX3_init 62 = .ok (.putfield 32, 3) := by decide +kernel
theorem dX3_init_65 : decode cX3_init 65 = .ok (.aload_n 0, 1) := by decide +kernel
theorem dX3_init_66 : decode cX3_init 66 = .ok (.bipush 12, 2) := by decide +kernel
theorem dX3_init_68 : decode cX3_init 68 = .ok (.newarray .boolean, 2) := by decide +kernel
theorem dX3_init_70 : decode cX3_init 70 = .ok (.putfield 35, 3) := by decide +kernel
theorem dX3_init_73 : decode cX3_init 73 = .ok (.aload_n 0, 1) := by decide +kernel
theorem dX3_init_74 : decode cX3_init 74 = .ok (.bipush 12, 2) := by decide +kernel
theorem dX3_init_76 : decode cX3_init 76 = .ok (.newarray .int, 2) := by decide +kernel
theorem dX3_init_78 : decode cX3_init 78 = .ok (.putfield 39, 3) := by decide +kernel
theorem dX3_init_81 : decode cX3_init 81 = .ok (.aload_n 0, 1) := by decide +kernel
theorem dX3_init_82 : decode cX3_init 82 = .ok (.bipush 96, 2) := by decide +kernel
theorem dX3_init_84 : decode cX3_init 84 = .ok (.newarray .int, 2) := by decide +kernel
theorem dX3_init_86 : decode cX3_init 86 = .ok (.putfield 42, 3) := by decide +kernel
theorem dX3_init_89 : decode cX3_init 89 = .ok (.aload_n 0, 1) := by decide +kernel
theorem dX3_init_90 : decode cX3_init 90 = .ok (.bipush 12, 2) := by decide +kernel
theorem dX3_init_92 : decode cX3_init 92 = .ok (.newarray .int, 2) := by decide +kernel
theorem dX3_init_94 : decode cX3_init 94 = .ok (.putfield 45, 3) := by decide +kernel
theorem dX3_init_97 : decode cX3_init 97 = .ok (.aload_n 0, 1) := by decide +kernel
theorem dX3_init_98 : decode cX3_init 98 = .ok (.bipush 12, 2) := by decide +kernel
theorem dX3_init_100 : decode cX3_init 100 = .ok (.newarray .int, 2) := by decide +kernel
theorem dX3_init_102 : decode cX3_init 102 = .ok (.putfield 48, 3) := by decide +kernel
theorem dX3_init_105 : decode cX3_init 105 = .ok (.aload_n 0, 1) := by decide +kernel
theorem dX3_init_106 : decode cX3_init 106 = .ok (.bipush 12, 2) := by decide +kernel
theorem dX3_init_108 : decode cX3_init 108 = .ok (.newarray .int, 2) := by decide +kernel
theorem dX3_init_110 : decode cX3_init 110 = .ok (.putfield 51, 3) := by decide +kernel
theorem dX3_init_113 : decode cX3_init 113 = .ok (.aload_n 0, 1) := by decide +kernel
theorem dX3_init_114 : decode cX3_init 114 = .ok (.bipush 60, 2) := by decide +kernel
theorem dX3_init_116 : decode cX3_init 116 = .ok (.newarray .int, 2) := by decide +kernel
theorem dX3_init_118 : decode cX3_init 118 = .ok (.putfield 54, 3) := by decide +kernel
theorem dX3_init_121 : decode cX3_init 121 = .ok (.aload_n 0, 1) := by decide +kernel
theorem dX3_init_122 : decode cX3_init 122 = .ok (.bipush 12, 2) := by decide +kernel
theorem dX3_init_124 : decode cX3_init 124 = .ok (.newarray .int, 2) := by decide +kernel
theorem dX3_init_126 : decode cX3_init 126 = .ok (.putfield 57, 3) := by decide +kernel
theorem dX3_init_129 : decode cX3_init 129 = .ok (.aload_n 0, 1) := by decide +kernel
theorem dX3_init_130 : decode cX3_init 130 = .ok (.ldc 60, 2) := by decide +kernel
theorem dX3_init_132 : decode cX3_init 132 = .ok (.newarray .int, 2) := by decide +kernel
theorem dX3_init_134 : decode cX3_init 134 = .ok (.putfield 61, 3) := by decide +kernel
theorem dX3_init_137 : decode cX3_init 137 = .ok (.aload_n 0, 1) := by decide +kernel
theorem dX3_init_138 : decode cX3_init 138 = .ok (.bipush 60, 2) := by decide +kernel
theorem dX3_init_140 : decode cX3_init 140 = .ok (.newarray .int, 2) := by decide +kernel
theorem dX3_init_142 : decode cX3_init 142 = .ok (.putfield 64, 3) := by decide +kernel
theorem dX3_init_145 : decode cX3_init 145 = .ok (.return_, 1) := by decide +kernel
theorem dX3_thrown_0 : decode cX3_thrown 0 = .ok (.aload_n 0, 1) := by decide +kernel
theorem dX3_thrown_1 : decode cX3_thrown 1 = .ok (.getfield 67, 3) := by decide +kernel
theorem dX3_thrown_4 : decode cX3_thrown 4 = .ok (.ireturn, 1) := by decide +kernel
theorem dX3_no_0 : decode cX3_no 0 = .ok (.aload_n 0, 1) := by decide +kernel
theorem dX3_no_1 : decode cX3_no 1 = .ok (.iload_n 1, 1) := by decide +kernel
theorem dX3_no_2 : decode cX3_no 2 = .ok (.putfield 67, 3) := by decide +kernel
theorem dX3_no_5 : decode cX3_no 5 = .ok (.iconst 0, 1) := by decide +kernel
theorem dX3_no_6 : decode cX3_no 6 = .ok (.ireturn, 1) := by decide +kernel
theorem dX3_isIn_0 : decode cX3_isIn 0 = .ok (.iload_n 0, 1) := by decide +kernel
theorem dX3_isIn_1 : decode cX3_isIn 1 = .ok (.iload_n 1, 1) := by decide +kernel
theorem dX3_isIn_2 : decode cX3_isIn 2 = .ok (.if_icmp .lt 12, 3) := by decide +kernel
theorem dX3_isIn_5 : decode cX3_isIn 5 = .ok (.iload_n 0, 1) := by decide +kernel
theorem dX3_isIn_6 : decode cX3_isIn 6 = .ok (.iload_n 2, 1) := by decide +kernel
theorem dX3_isIn_7 : decode cX3_isIn 7 = .ok (.if_icmp .gt 7, 3) := by decide +kernel
theorem dX3_isIn_10 : decode cX3_isIn 10 = .ok (.iconst 1, 1) := by decide +kernel
theorem dX3_isIn_11 : decode cX3_isIn 11 = .ok (.goto 4, 3) := by decide +kernel
theorem dX3_isIn_14 : decode cX3_isIn 14 = .ok (.iconst 0, 1) := by decide +kernel
theorem dX3_isIn_15 : decode cX3_isIn 15 = .ok (.ireturn, 1) := by decide +kernel
set_option maxRecDepth 20000 in
theorem ggX3_addStave_X3_isIn : GoodIn wsX3_addStave wsX3_isIn := goodIn_r _ [9] (by decide +kernel) (by decide +kernel)
set_option maxRecDepth 20000 in
theorem gX3_addStave_X3_isIn : GoodIn wsX3_addStave (va_wsS RX3 70 yX3_isIn wsX3_isIn) := goodIn_app (goodIn_of _ (by decide +kernel)) ggX3_addStave_X3_isIn
set_option maxRecDepth 20000 in
theorem ggX3_addStave_X3_no : GoodIn wsX3_addStave wsX3_no := goodIn_r _ [13, 1, 14, 15, 16, 17, 18, 19, 20, 21, 22, 23, 24, 25, 26, 27, 28, 29, 30, 31, 32, 33, 34, 35, 36, 37, 38] (by decide +kernel) (by decide +kernel)
set_option maxRecDepth 20000 in
theorem gX3_addStave_X3_no : GoodIn wsX3_addStave (wsV RX3 74 RX3 yX3_no wsX3_no) := goodIn_app (goodIn_of _ (by decide +kernel)) ggX3_addStave_X3_no
theorem dX3_addStave_0 : decode cX3_addStave 0 = .ok (.aload_n 0, 1) := by decide +kernel
theorem dX3_addStave_1 : decode cX3_addStave 1 = .ok (.iconst 0, 1) := by decide +kernel
theorem dX3_addStave_2 : decode cX3_addStave 2 = .ok (.putfield 67, 3) := by decide +kernel
theorem dX3_addStave_5 : decode cX3_addStave 5 = .ok (.iload_n 1, 1) := by decide +kernel
theorem dX3_addStave_6 : decode cX3_addStave 6 = .ok (.bipush 20, 2) := by decide +kernel
theorem dX3_addStave_8 : decode cX3_addStave 8 = .ok (.bipush 120, 2) := by decide +kernel
theorem dX3_addStave_10 : decode cX3_addStave 10 = .ok (.invokestatic 70, 3) := by decide +kernel
theorem dX3_addStave_13 : decode cX3_addStave 13 = .ok (.ifCond .eq 13, 3) := by decide +kernel
theorem dX3_addStave_16 : decode cX3_addStave 16 = .ok (.iload_n 2, 1) := by decide +kernel
theorem dX3_addStave_17 : decode cX3_addStave 17 = .ok (.iconst 0, 1) := by decide +kernel
theorem dX3_addStave_18 : decode cX3_addStave 18 = .ok (.bipush 100, 2) := by decide +kernel
theorem dX3_addStave_20 : decode cX3_addStave 20 = .ok (.invokestatic 70, 3) := by decide +kernel
theorem dX3_addStave_23 : decode cX3_addStave 23 = .ok (.ifCond .ne 9, 3) := by decide +kernel
theorem dX3_addStave_26 : decode cX3_addStave 26 = .ok (.aload_n 0, 1) := by decide +kernel
theorem dX3_addStave_27 : decode cX3_addStave 27 = .ok (.iconst 1, 1) := by decide +kernel
theorem dX3_addStave_28 : decode cX3_addStave 28 = .ok (.invokevirtual 74, 3) := by decide +kernel
theorem dX3_addStave_31 : decode cX3_addStave 31 = .ok (.ireturn, 1) := by decide +kernel
theorem dX3_addStave_32 : decode cX3_addStave 32 = .ok (.aload_n 0, 1) := by decide +kernel
theorem dX3_addStave_33 : decode cX3_addStave 33 = .ok (.getfield 78, 3) := by decide +kernel
theorem dX3_addStave_36 : decode cX3_addStave 36 = .ok (.bipush 60, 2) := by decide +kernel
theorem dX3_addStave_38 : decode cX3_addStave 38 = .ok (.if_icmp .ne 9, 3) := by decide +kernel
theorem dX3_addStave_41 : decode cX3_addStave 41 = .ok (.aload_n 0, 1) := by decide +kernel
theorem dX3_addStave_42 : decode cX3_addStave 42 = .ok (.iconst 2, 1) := by decide +kernel
theorem dX3_addStave_43 : decode cX3_addStave 43 = .ok (.invokevirtual 74, 3) := by decide +kernel
theorem dX3_addStave_46 : decode cX3_addStave 46 = .ok (.ireturn, 1) := by decide +kernel
theorem dX3_addStave_47 : decode cX3_addStave 47 = .ok (.aload_n 0, 1) := by decide +kernel
theorem dX3_addStave_48 : decode cX3_addStave 48 = .ok (.getfield 13, 3) := by decide +kernel
theorem dX3_addStave_51 : decode cX3_addStave 51 = .ok (.aload_n 0, 1) := by decide +kernel
theorem dX3_addStave_52 : decode cX3_addStave 52 = .ok (.getfield 78, 3) := by decide +kernel
theorem dX3_addStave_55 : decode cX3_addStave 55 = .ok (.iload_n 1, 1) := by decide +kernel
theorem dX3_addStave_56 : decode cX3_addStave 56 = .ok (.iastore, 1) := by decide +kernel
theorem dX3_addStave_57 : decode cX3_addStave 57 = .ok (.aload_n 0, 1) := by decide +kernel
theorem dX3_addStave_58 : decode cX3_addStave 58 = .ok (.getfield 17, 3) := by decide +kernel
theorem dX3_addStave_61 : decode cX3_addStave 61 = .ok (.aload_n 0, 1) := by decide +kernel
theorem dX3_addStave_62 : decode cX3_addStave 62 = .ok (.getfield 78, 3) := by decide +kernel
theorem dX3_addStave_65 : decode cX3_addStave 65 = .ok (.iload_n 2, 1) := by decide +kernel
theorem dX3_addStave_66 : decode cX3_addStave 66 = .ok (.iastore, 1) := by decide +kernel
theorem dX3_addStave_67 : decode cX3_addStave 67 = .ok (.aload_n 0, 1) := by decide +kernel
theorem dX3_addStave_68 : decode cX3_addStave 68 = .ok (.getfield 20, 3) := by decide +kernel
theorem dX3_addStave_71 : decode cX3_addStave 71 = .ok (.aload_n 0, 1) := by decide +kernel
theorem dX3_addStave_72 : decode cX3_addStave 72 = .ok (.getfield 78, 3) := by decide +kernel
theorem dX3_addStave_75 : decode cX3_addStave 75 = .ok (.iconst (-1), 1) := by decide +kernel
theorem dX3_addStave_76 : decode cX3_addStave 76 = .ok (.iastore, 1) := by decide +kernel
theorem dX3_addStave_77 : decode cX3_addStave 77 = .ok (.aload_n 0, 1) := by decide +kernel
theorem dX3_addStave_78 : decode cX3_addStave 78 = .ok (.dup, 1) := by decide +kernel
theorem dX3_addStave_79 : decode cX3_addStave 79 = .ok (.getfield 78, 3) := by decide +kernel
theorem dX3_addStave_82 : decode cX3_addStave 82 = .ok (.iconst 1, 1) := by decide +kernel
theorem dX3_addStave_83 : decode cX3_addStave 83 = .ok (.iadd, 1) := by decide +kernel
theorem dX3_addStave_84 : decode cX3_addStave 84 = .ok (.putfield 78, 3) := by decide +kernel
theorem dX3_addStave_87 : decode cX3_addStave 87 = .ok (.aload_n 0, 1) := by decide +kernel
theorem dX3_addStave_88 : decode cX3_addStave 88 = .ok (.getfield 78, 3) := by decide +kernel
theorem dX3_addStave_91 : decode cX3_addStave 91 = .ok (.iconst 1, 1) := by decide +kernel
theorem dX3_addStave_92 : decode cX3_addStave 92 = .ok (.isub, 1) := by decide +kernel
theorem dX3_addStave_93 : decode cX3_addStave 93 = .ok (.ireturn, 1) := by decide +kernel
set_option maxRecDepth 20000 in
theorem ggX3_isStave_X3_isIn : GoodIn wsX3_isStave wsX3_isIn := goodIn_r _ [5] (by decide +kernel) (by decide +kernel)
set_option maxRecDepth 20000 in
theorem gX3_isStave_X3_isIn : GoodIn wsX3_isStave (va_wsS RX3 70 yX3_isIn wsX3_isIn) := goodIn_app (goodIn_of _ (by decide +kernel)) ggX3_isStave_X3_isIn
theorem dX3_isStave_0 : decode cX3_isStave 0 = .ok (.iload_n 1, 1) := by decide +kernel
theorem dX3_isStave_1 : decode cX3_isStave 1 = .ok (.iconst 0, 1) := by decide +kernel
theorem dX3_isStave_2 : decode cX3_isStave 2 = .ok (.aload_n 0, 1) := by decide +kernel
theorem dX3_isStave_3 : decode cX3_isStave 3 = .ok (.getfield 78, 3) := by decide +kernel
theorem dX3_isStave_6 : decode cX3_isStave 6 = .ok (.iconst 1, 1) := by decide +kernel
theorem dX3_isStave_7 : decode cX3_isStave 7 = .ok (.isub, 1) := by decide +kernel
theorem dX3_isStave_8 : decode cX3_isStave 8 = .ok (.invokestatic 70, 3) := by decide +kernel
theorem dX3_isStave_11 : decode cX3_isStave 11 = .ok (.ireturn, 1) := by decide +kernel
theorem dX3_staveTold_0 : decode cX3_staveTold 0 = .ok (.iload_n 2, 1) := by decide +kernel
theorem dX3_staveTold_1 : decode cX3_staveTold 1 = .ok (.ifCond .ne 12, 3) := by decide +kernel
theorem dX3_staveTold_4 : decode cX3_staveTold 4 = .ok (.aload_n 0, 1) := by decide +kernel
theorem dX3_staveTold_5 : decode cX3_staveTold 5 = .ok (.getfield 13, 3) := by decide +kernel
theorem dX3_staveTold_8 : decode cX3_staveTold 8 = .ok (.iload_n 1, 1) := by decide +kernel
theorem dX3_staveTold_9 : decode cX3_staveTold 9 = .ok (.iaload, 1) := by decide +kernel
theorem dX3_staveTold_10 : decode cX3_staveTold 10 = .ok (.goto 23, 3) := by decide +kernel
theorem dX3_staveTold_13 : decode cX3_staveTold 13 = .ok (.iload_n 2, 1) := by decide +kernel
theorem dX3_staveTold_14 : decode cX3_staveTold 14 = .ok (.iconst 1, 1) := by decide +kernel
theorem dX3_staveTold_15 : decode cX3_staveTold 15 = .ok (.if_icmp .ne 12, 3) := by decide +kernel
theorem dX3_staveTold_18 : decode cX3_staveTold 18 = .ok (.aload_n 0, 1) := by decide +kernel
theorem dX3_staveTold_19 : decode cX3_staveTold 19 = .ok (.getfield 17, 3) := by decide +kernel
theorem dX3_staveTold_22 : decode cX3_staveTold 22 = .ok (.iload_n 1, 1) := by decide +kernel
theorem dX3_staveTold_23 : decode cX3_staveTold 23 = .ok (.iaload, 1) := by decide +kernel
theorem dX3_staveTold_24 : decode cX3_staveTold 24 = .ok (.goto 9, 3) := by decide +kernel
theorem dX3_staveTold_27 : decode cX3_staveTold 27 = .ok (.aload_n 0, 1) := by decide +kernel
theorem dX3_staveTold_28 : decode cX3_staveTold 28 = .ok (.getfield 20, 3) := by decide +kernel
theorem dX3_staveTold_31 : decode cX3_staveTold 31 = .ok (.iload_n 1, 1) := by decide +kernel
theorem dX3_staveTold_32 : decode cX3_staveTold 32 = .ok (.iaload, 1) := by decide +kernel
theorem dX3_staveTold_33 : decode cX3_staveTold 33 = .ok (.ireturn, 1) := by decide +kernel
set_option maxRecDepth 20000 in
theorem ggX3_stave_X3_isStave : GoodIn wsX3_stave wsX3_isStave := goodIn_r _ [6, 7, 8, 9, 5, 10, 22, 23, 24, 25, 26, 27, 28, 29, 30, 31, 32, 33, 34, 35, 36, 37, 38, 39, 40, 41, 42, 43, 44, 45, 46] (by decide +kernel) (by decide +kernel)
set_option maxRecDepth 20000 in
theorem gX3_stave_X3_isStave : GoodIn wsX3_stave (wsV RX3 81 RX3 yX3_isStave wsX3_isStave) := goodIn_app (goodIn_of _ (by decide +kernel)) ggX3_stave_X3_isStave
set_option maxRecDepth 20000 in
theorem ggX3_stave_X3_isIn : GoodIn wsX3_stave wsX3_isIn := goodIn_r _ [10] (by decide +kernel) (by decide +kernel)
set_option maxRecDepth 20000 in
theorem gX3_stave_X3_isIn : GoodIn wsX3_stave (va_wsS RX3 70 yX3_isIn wsX3_isIn) := goodIn_app (goodIn_of _ (by decide +kernel)) ggX3_stave_X3_isIn
set_option maxRecDepth 20000 in
theorem ggX3_stave_X3_staveTold : GoodIn wsX3_stave wsX3_staveTold := goodIn_r _ [14, 15, 16, 17, 22, 23, 24, 25, 26, 27, 28, 29, 30, 31, 32, 33, 34, 35, 36, 37, 38, 39, 40, 41, 42, 43, 44, 45, 46] (by decide +kernel) (by decide +kernel)
set_option maxRecDepth 20000 in
theorem gX3_stave_X3_staveTold : GoodIn wsX3_stave (wsV RX3 85 RX3 yX3_staveTold wsX3_staveTold) := goodIn_app (goodIn_of _ (by decide +kernel)) ggX3_stave_X3_staveTold
set_option maxRecDepth 20000 in
theorem ggX3_stave_X3_no : GoodIn wsX3_stave wsX3_no := goodIn_r _ [21, 1, 22, 23, 24, 25, 26, 27, 28, 29, 30, 31, 32, 33, 34, 35, 36, 37, 38, 39, 40, 41, 42, 43, 44, 45, 46] (by decide +kernel) (by decide +kernel)
set_option maxRecDepth 20000 in
theorem gX3_stave_X3_no : GoodIn wsX3_stave (wsV RX3 74 RX3 yX3_no wsX3_no) := goodIn_app (goodIn_of _ (by decide +kernel)) ggX3_stave_X3_no
theorem dX3_stave_0 : decode cX3_stave 0 = .ok (.aload_n 0, 1) := by decide +kernel
theorem dX3_stave_1 : decode cX3_stave 1 = .ok (.iconst 0, 1) := by decide +kernel
theorem dX3_stave_2 : decode cX3_stave 2 = .ok (.putfield 67, 3) := by decide +kernel
theorem dX3_stave_5 : decode cX3_stave 5 = .ok (.aload_n 0, 1) := by decide +kernel
theorem dX3_stave_6 : decode cX3_stave 6 = .ok (.iload_n 1, 1) := by decide +kernel
theorem dX3_stave_7 : decode cX3_stave 7 = .ok (.invokevirtual 81, 3) := by decide +kernel
theorem dX3_stave_10 : decode cX3_stave 10 = .ok (.ifCond .eq 21, 3) := by decide +kernel
theorem dX3_stave_13 : decode cX3_stave 13 = .ok (.iload_n 2, 1) := by decide +kernel
theorem dX3_stave_14 : decode cX3_stave 14 = .ok (.iconst 0, 1) := by decide +kernel
theorem dX3_stave_15 : decode cX3_stave 15 = .ok (.iconst 2, 1) := by decide +kernel
theorem dX3_stave_16 : decode cX3_stave 16 = .ok (.invokestatic 70, 3) := by decide +kernel
theorem dX3_stave_19 : decode cX3_stave 19 = .ok (.ifCond .eq 12, 3) := by decide +kernel
theorem dX3_stave_22 : decode cX3_stave 22 = .ok (.aload_n 0, 1) := by decide +kernel
theorem dX3_stave_23 : decode cX3_stave 23 = .ok (.iload_n 1, 1) := by decide +kernel
theorem dX3_stave_24 : decode cX3_stave 24 = .ok (.iload_n 2, 1) := by decide +kernel
theorem dX3_stave_25 : decode cX3_stave 25 = .ok (.invokevirtual 85, 3) := by decide +kernel
theorem dX3_stave_28 : decode cX3_stave 28 = .ok (.goto 8, 3) := by decide +kernel
theorem dX3_stave_31 : decode cX3_stave 31 = .ok (.aload_n 0, 1) := by decide +kernel
theorem dX3_stave_32 : decode cX3_stave 32 = .ok (.iconst 1, 1) := by decide +kernel
theorem dX3_stave_33 : decode cX3_stave 33 = .ok (.invokevirtual 74, 3) := by decide +kernel
theorem dX3_stave_36 : decode cX3_stave 36 = .ok (.ireturn, 1) := by decide +kernel
set_option maxRecDepth 20000 in
theorem ggX3_addSort_X3_isIn : GoodIn wsX3_addSort wsX3_isIn := goodIn_r _ [10] (by decide +kernel) (by decide +kernel)
set_option maxRecDepth 20000 in
theorem gX3_addSort_X3_isIn : GoodIn wsX3_addSort (va_wsS RX3 70 yX3_isIn wsX3_isIn) := goodIn_app (goodIn_of _ (by decide +kernel)) ggX3_addSort_X3_isIn
set_option maxRecDepth 20000 in
theorem ggX3_addSort_X3_no : GoodIn wsX3_addSort wsX3_no := goodIn_r _ [14, 1, 15, 16, 17, 18, 19, 20, 21, 22, 23, 24, 25, 26, 27, 28, 29, 30, 31, 32, 33, 34, 35, 36, 37, 38, 39] (by decide +kernel) (by decide +kernel)
set_option maxRecDepth 20000 in
theorem gX3_addSort_X3_no : GoodIn wsX3_addSort (wsV RX3 74 RX3 yX3_no wsX3_no) := goodIn_app (goodIn_of _ (by decide +kernel)) ggX3_addSort_X3_no
theorem dX3_addSort_0 : decode cX3_addSort 0 = .ok (.aload_n 0, 1) := by decide +kernel
theorem dX3_addSort_1 : decode cX3_addSort 1 = .ok (.iconst 0, 1) := by decide +kernel
theorem dX3_addSort_2 : decode cX3_addSort 2 = .ok (.putfield 67, 3) := by decide +kernel
theorem dX3_addSort_5 : decode cX3_addSort 5 = .ok (.iload_n 1, 1) := by decide +kernel
theorem dX3_addSort_6 : decode cX3_addSort 6 = .ok (.sipush 300, 3) := by decide +kernel
theorem dX3_addSort_9 : decode cX3_addSort 9 = .ok (.sipush 1500, 3) := by decide +kernel
theorem dX3_addSort_12 : decode cX3_addSort 12 = .ok (.invokestatic 70, 3) := by decide +kernel
theorem dX3_addSort_15 : decode cX3_addSort 15 = .ok (.ifCond .eq 24, 3) := by decide +kernel
theorem dX3_addSort_18 : decode cX3_addSort 18 = .ok (.iload_n 2, 1) := by decide +kernel
theorem dX3_addSort_19 : decode cX3_addSort 19 = .ok (.bipush 100, 2) := by decide +kernel
theorem dX3_addSort_21 : decode cX3_addSort 21 = .ok (.ldc 89, 2) := by decide +kernel
theorem dX3_addSort_23 : decode cX3_addSort 23 = .ok (.invokestatic 70, 3) := by decide +kernel
theorem dX3_addSort_26 : decode cX3_addSort 26 = .ok (.ifCond .eq 13, 3) := by decide +kernel
theorem dX3_addSort_29 : decode cX3_addSort 29 = .ok (.iload_n 3, 1) := by decide +kernel
theorem dX3_addSort_30 : decode cX3_addSort 30 = .ok (.iconst 2, 1) := by decide +kernel
theorem dX3_addSort_31 : decode cX3_addSort 31 = .ok (.bipush 8, 2) := by decide +kernel
theorem dX3_addSort_33 : decode cX3_addSort 33 = .ok (.invokestatic 70, 3) := by decide +kernel
theorem dX3_addSort_36 : decode cX3_addSort 36 = .ok (.ifCond .ne 9, 3) := by decide +kernel
theorem dX3_addSort_39 : decode cX3_addSort 39 = .ok (.aload_n 0, 1) := by decide +kernel
theorem dX3_addSort_40 : decode cX3_addSort 40 = .ok (.iconst 1, 1) := by decide +kernel
theorem dX3_addSort_41 : decode cX3_addSort 41 = .ok (.invokevirtual 74, 3) := by decide +kernel
theorem dX3_addSort_44 : decode cX3_addSort 44 = .ok (.ireturn, 1) := by decide +kernel
theorem dX3_addSort_45 : decode cX3_addSort 45 = .ok (.aload_n 0, 1) := by decide +kernel
theorem dX3_addSort_46 : decode cX3_addSort 46 = .ok (.getfield 90, 3) := by decide +kernel
theorem dX3_addSort_49 : decode cX3_addSort 49 = .ok (.bipush 6, 2) := by decide +kernel
theorem dX3_addSort_51 : decode cX3_addSort 51 = .ok (.if_icmp .ne 9, 3) := by decide +kernel
theorem dX3_addSort_54 : decode cX3_addSort 54 = .ok (.aload_n 0, 1) := by decide +kernel
theorem dX3_addSort_55 : decode cX3_addSort 55 = .ok (.iconst 2, 1) := by decide +kernel
theorem dX3_addSort_56 : decode cX3_addSort 56 = .ok (.invokevirtual 74, 3) := by decide +kernel
theorem dX3_addSort_59 : decode cX3_addSort 59 = .ok (.ireturn, 1) := by decide +kernel
theorem dX3_addSort_60 : decode cX3_addSort 60 = .ok (.aload_n 0, 1) := by decide +kernel
theorem dX3_addSort_61 : decode cX3_addSort 61 = .ok (.getfield 23, 3) := by decide +kernel
theorem dX3_addSort_64 : decode cX3_addSort 64 = .ok (.aload_n 0, 1) := by decide +kernel
theorem dX3_addSort_65 : decode cX3_addSort 65 = .ok (.getfield 90, 3) := by decide +kernel
theorem dX3_addSort_68 : decode cX3_addSort 68 = .ok (.iload_n 1, 1) := by decide +kernel
theorem dX3_addSort_69 : decode cX3_addSort 69 = .ok (.iastore, 1) := by decide +kernel
theorem dX3_addSort_70 : decode cX3_addSort 70 = .ok (.aload_n 0, 1) := by decide +kernel
theorem dX3_addSort_71 : decode cX3_addSort 71 = .ok (.getfield 26, 3) := by decide +kernel
theorem dX3_addSort_74 : decode cX3_addSort 74 = .ok (.aload_n 0, 1) := by decide +kernel
theorem dX3_addSort_75 : decode cX3_addSort 75 = .ok (.getfield 90, 3) := by decide +kernel
theorem dX3_addSort_78 : decode cX3_addSort 78 = .ok (.iload_n 2, 1) := by decide +kernel
theorem dX3_addSort_79 : decode cX3_addSort 79 = .ok (.iastore, 1) := by decide +kernel
theorem dX3_addSort_80 : decode cX3_addSort 80 = .ok (.aload_n 0, 1) := by decide +kernel
theorem dX3_addSort_81 : decode cX3_addSort 81 = .ok (.getfield 29, 3) := by decide +kernel
theorem dX3_addSort_84 : decode cX3_addSort 84 = .ok (.aload_n 0, 1) := by decide +kernel
theorem dX3_addSort_85 : decode cX3_addSort 85 = .ok (.getfield 90, 3) := by decide +kernel
theorem dX3_addSort_88 : decode cX3_addSort 88 = .ok (.iload_n 3, 1) := by decide +kernel
theorem dX3_addSort_89 : decode cX3_addSort 89 = .ok (.iastore, 1) := by decide +kernel
theorem dX3_addSort_90 : decode cX3_addSort 90 = .ok (.aload_n 0, 1) := by decide +kernel
theorem dX3_addSort_91 : decode cX3_addSort 91 = .ok (.dup, 1) := by decide +kernel
theorem dX3_addSort_92 : decode cX3_addSort 92 = .ok (.getfield 90, 3) := by decide +kernel
theorem dX3_addSort_95 : decode cX3_addSort 95 = .ok (.iconst 1, 1) := by decide +kernel
theorem dX3_addSort_96 : decode cX3_addSort 96 = .ok (.iadd, 1) := by decide +kernel
theorem dX3_addSort_97 : decode cX3_addSort 97 = .ok (.putfield 90, 3) := by decide +kernel
theorem dX3_addSort_100 : decode cX3_addSort 100 = .ok (.aload_n 0, 1) := by decide +kernel
theorem dX3_addSort_101 : decode cX3_addSort 101 = .ok (.getfield 90, 3) := by decide +kernel
theorem dX3_addSort_104 : decode cX3_addSort 104 = .ok (.iconst 1, 1) := by decide +kernel
theorem dX3_addSort_105 : decode cX3_addSort 105 = .ok (.isub, 1) := by decide +kernel
theorem dX3_addSort_106 : decode cX3_addSort 106 = .ok (.ireturn, 1) := by decide +kernel
set_option maxRecDepth 20000 in
theorem ggX3_isSort_X3_isIn : GoodIn wsX3_isSort wsX3_isIn := goodIn_r _ [5] (by decide +kernel) (by decide +kernel)
set_option maxRecDepth 20000 in
theorem gX3_isSort_X3_isIn : GoodIn wsX3_isSort (va_wsS RX3 70 yX3_isIn wsX3_isIn) := goodIn_app (goodIn_of _ (by decide +kernel)) ggX3_isSort_X3_isIn
theorem dX3_isSort_0 : decode cX3_isSort 0 = .ok (.iload_n 1, 1) := by decide +kernel
theorem dX3_isSort_1 : decode cX3_isSort 1 = .ok (.iconst 0, 1) := by decide +kernel
theorem dX3_isSort_2 : decode cX3_isSort 2 = .ok (.aload_n 0, 1) := by decide +kernel
theorem dX3_isSort_3 : decode cX3_isSort 3 = .ok (.getfield 90, 3) := by decide +kernel
theorem dX3_isSort_6 : decode cX3_isSort 6 = .ok (.iconst 1, 1) := by decide +kernel
theorem dX3_isSort_7 : decode cX3_isSort 7 = .ok (.isub, 1) := by decide +kernel
theorem dX3_isSort_8 : decode cX3_isSort 8 = .ok (.invokestatic 70, 3) := by decide +kernel
theorem dX3_isSort_11 : decode cX3_isSort 11 = .ok (.ireturn, 1) := by decide +kernel
theorem dX3_isReady_0 : decode cX3_isReady 0 = .ok (.aload_n 0, 1) := by decide +kernel
theorem dX3_isReady_1 : decode cX3_isReady 1 = .ok (.getfield 20, 3) := by decide +kernel
theorem dX3_isReady_4 : decode cX3_isReady 4 = .ok (.iload_n 1, 1) := by decide +kernel
theorem dX3_isReady_5 : decode cX3_isReady 5 = .ok (.iaload, 1) := by decide +kernel
theorem dX3_isReady_6 : decode cX3_isReady 6 = .ok (.iconst (-1), 1) := by decide +kernel
theorem dX3_isReady_7 : decode cX3_isReady 7 = .ok (.if_icmp .ne 18, 3) := by decide +kernel
theorem dX3_isReady_10 : decode cX3_isReady 10 = .ok (.aload_n 0, 1) := by decide +kernel
theorem dX3_isReady_11 : decode cX3_isReady 11 = .ok (.getfield 17, 3) := by decide +kernel
theorem dX3_isReady_14 : decode cX3_isReady 14 = .ok (.iload_n 1, 1) := by decide +kernel
theorem dX3_isReady_15 : decode cX3_isReady 15 = .ok (.iaload, 1) := by decide +kernel
theorem dX3_isReady_16 : decode cX3_isReady 16 = .ok (.bipush 60, 2) := by decide +kernel
theorem dX3_isReady_18 : decode cX3_isReady 18 = .ok (.if_icmp .lt 7, 3) := by decide +kernel
theorem dX3_isReady_21 : decode cX3_isReady 21 = .ok (.iconst 1, 1) := by decide +kernel
theorem dX3_isReady_22 : decode cX3_isReady 22 = .ok (.goto 4, 3) := by decide +kernel
theorem dX3_isReady_25 : decode cX3_isReady 25 = .ok (.iconst 0, 1) := by decide +kernel
theorem dX3_isReady_26 : decode cX3_isReady 26 = .ok (.ireturn, 1) := by decide +kernel
set_option maxRecDepth 20000 in
theorem ggX3_find_X3_isReady : GoodIn wsX3_find wsX3_isReady := goodIn_r _ [15, 16, 17, 18, 19, 20, 21, 22, 23, 24, 25, 26, 27, 28, 29, 30, 31, 32, 33, 34, 35, 36, 37, 38, 39, 40, 41, 42] (by decide +kernel) (by decide +kernel)
set_option maxRecDepth 20000 in
theorem gX3_find_X3_isReady : GoodIn wsX3_find (wsV RX3 93 RX3 yX3_isReady wsX3_isReady) := goodIn_app (goodIn_of _ (by decide +kernel)) ggX3_find_X3_isReady
theorem dX3_find_0 : decode cX3_find 0 = .ok (.iconst 0, 1) := by decide +kernel
theorem dX3_find_1 : decode cX3_find 1 = .ok (.istore_n 2, 1) := by decide +kernel
theorem dX3_find_2 : decode cX3_find 2 = .ok (.iload_n 2, 1) := by decide +kernel
theorem dX3_find_3 : decode cX3_find 3 = .ok (.sipush 1505, 3) := by decide +kernel
theorem dX3_find_6 : decode cX3_find 6 = .ok (.if_icmp .ge 35, 3) := by decide +kernel
theorem dX3_find_9 : decode cX3_find 9 = .ok (.aload_n 0, 1) := by decide +kernel
theorem dX3_find_10 : decode cX3_find 10 = .ok (.getfield 61, 3) := by decide +kernel
theorem dX3_find_13 : decode cX3_find 13 = .ok (.aload_n 0, 1) := by decide +kernel
theorem dX3_find_14 : decode cX3_find 14 = .ok (.getfield 78, 3) := by decide +kernel
theorem dX3_find_17 : decode cX3_find 17 = .ok (.sipush 1505, 3) := by decide +kernel
theorem dX3_find_20 : decode cX3_find 20 = .ok (.imul, 1) := by decide +kernel
theorem dX3_find_21 : decode cX3_find 21 = .ok (.iload_n 2, 1) := by decide +kernel
theorem dX3_find_22 : decode cX3_find 22 = .ok (.iadd, 1) := by decide +kernel
theorem dX3_find_23 : decode cX3_find 23 = .ok (.iload_n 2, 1) := by decide +kernel
theorem dX3_find_24 : decode cX3_find 24 = .ok (.ifCond .ne 7, 3) := by decide +kernel
theorem dX3_find_27 : decode cX3_find 27 = .ok (.iconst 0, 1) := by decide +kernel
theorem dX3_find_28 : decode cX3_find 28 = .ok (.goto 6, 3) := by decide +kernel
theorem dX3_find_31 : decode cX3_find 31 = .ok (.sipush 1000, 3) := by decide +kernel
theorem dX3_find_34 : decode cX3_find 34 = .ok (.iastore, 1) := by decide +kernel
theorem dX3_find_35 : decode cX3_find 35 = .ok (.iinc 2 1, 3) := by decide +kernel
theorem dX3_find_38 : decode cX3_find 38 = .ok (.goto (-36), 3) := by decide +kernel
theorem dX3_find_41 : decode cX3_find 41 = .ok (.aload_n 0, 1) := by decide +kernel
theorem dX3_find_42 : decode cX3_find 42 = .ok (.getfield 78, 3) := by decide +kernel
theorem dX3_find_45 : decode cX3_find 45 = .ok (.iconst 1, 1) := by decide +kernel
theorem dX3_find_46 : decode cX3_find 46 = .ok (.isub, 1) := by decide +kernel
theorem dX3_find_47 : decode cX3_find 47 = .ok (.istore_n 2, 1) := by decide +kernel
theorem dX3_find_48 : decode cX3_find 48 = .ok (.iload_n 2, 1) := by decide +kernel
theorem dX3_find_49 : decode cX3_find 49 = .ok (.ifCond .lt 108, 3) := by decide +kernel
theorem dX3_find_52 : decode cX3_find 52 = .ok (.iconst 0, 1) := by decide +kernel
theorem dX3_find_53 : decode cX3_find 53 = .ok (.istore_n 3, 1) := by decide +kernel
theorem dX3_find_54 : decode cX3_find 54 = .ok (.iload_n 3, 1) := by decide +kernel
theorem dX3_find_55 : decode cX3_find 55 = .ok (.sipush 1505, 3) := by decide +kernel
theorem dX3_find_58 : decode cX3_find 58 = .ok (.if_icmp .ge 93, 3) := by decide +kernel
theorem dX3_find_61 : decode cX3_find 61 = .ok (.aload_n 0, 1) := by decide +kernel
theorem dX3_find_62 : decode cX3_find 62 = .ok (.getfield 61, 3) := by decide +kernel
theorem dX3_find_65 : decode cX3_find 65 = .ok (.iload_n 2, 1) := by decide +kernel
theorem dX3_find_66 : decode cX3_find 66 = .ok (.iconst 1, 1) := by decide +kernel
theorem dX3_find_67 : decode cX3_find 67 = .ok (.iadd, 1) := by decide +kernel
theorem dX3_find_68 : decode cX3_find 68 = .ok (.sipush 1505, 3) := by decide +kernel
theorem dX3_find_71 : decode cX3_find 71 = .ok (.imul, 1) := by decide +kernel
theorem dX3_find_72 : decode cX3_find 72 = .ok (.iload_n 3, 1) := by decide +kernel
theorem dX3_find_73 : decode cX3_find 73 = .ok (.iadd, 1) := by decide +kernel
theorem dX3_find_74 : decode cX3_find 74 = .ok (.iaload, 1) := by decide +kernel
theorem dX3_find_75 : decode cX3_find 75 = .ok (.istore 4, 2) := by decide +kernel
theorem dX3_find_77 : decode cX3_find 77 = .ok (.aload_n 0, 1) := by decide +kernel
theorem dX3_find_78 : decode cX3_find 78 = .ok (.iload_n 2, 1) := by decide +kernel
theorem dX3_find_79 : decode cX3_find 79 = .ok (.invokevirtual 93, 3) := by decide +kernel
theorem dX3_find_82 : decode cX3_find 82 = .ok (.ifCond .eq 39, 3) := by decide +kernel
theorem dX3_find_85 : decode cX3_find 85 = .ok (.iload_n 3, 1) := by decide +kernel
theorem dX3_find_86 : decode cX3_find 86 = .ok (.aload_n 0, 1) := by decide +kernel
theorem dX3_find_87 : decode cX3_find 87 = .ok (.getfield 13, 3) := by decide +kernel
theorem dX3_find_90 : decode cX3_find 90 = .ok (.iload_n 2, 1) := by decide +kernel
theorem dX3_find_91 : decode cX3_find 91 = .ok (.iaload, 1) := by decide +kernel
theorem dX3_find_92 : decode cX3_find 92 = .ok (.if_icmp .lt 29, 3) := by decide +kernel
theorem dX3_find_95 : decode cX3_find 95 = .ok (.aload_n 0, 1) := by decide +kernel
theorem dX3_find_96 : decode cX3_find 96 = .ok (.getfield 61, 3) := by decide +kernel
theorem dX3_find_99 : decode cX3_find 99 = .ok (.iload_n 2, 1) := by decide +kernel
theorem dX3_find_100 : decode cX3_find 100 = .ok (.iconst 1, 1) := by decide +kernel
theorem dX3_find_101 : decode cX3_find 101 = .ok (.iadd, 1) := by decide +kernel
theorem dX3_find_102 : decode cX3_find 102 = .ok (.sipush 1505, 3) := by decide +kernel
theorem dX3_find_105 : decode cX3_find 105 = .ok (.imul, 1) := by decide +kernel
theorem dX3_find_106 : decode cX3_find 106 = .ok (.iload_n 3, 1) := by decide +kernel
theorem dX3_find_107 : decode cX3_find 107 = .ok (.iadd, 1) := by decide +kernel
theorem dX3_find_108 : decode cX3_find 108 = .ok (.aload_n 0, 1) := by decide +kernel
theorem dX3_find_109 : decode cX3_find 109 = .ok (.getfield 13, 3) := by decide +kernel
theorem dX3_find_112 : decode cX3_find 112 = .ok (.iload_n 2, 1) := by decide +kernel
theorem dX3_find_113 : decode cX3_find 113 = .ok (.iaload, 1) := by decide +kernel
theorem dX3_find_114 : decode cX3_find 114 = .ok (.isub, 1) := by decide +kernel
theorem dX3_find_115 : decode cX3_find 115 = .ok (.iaload, 1) := by decide +kernel
theorem dX3_find_116 : decode cX3_find 116 = .ok (.iconst 1, 1) := by decide +kernel
theorem dX3_find_117 : decode cX3_find 117 = .ok (.iadd, 1) := by decide +kernel
theorem dX3_find_118 : decode cX3_find 118 = .ok (.goto 6, 3) := by decide +kernel
theorem dX3_find_121 : decode cX3_find 121 = .ok (.sipush 1000, 3) := by decide +kernel
theorem dX3_find_124 : decode cX3_find 124 = .ok (.istore 5, 2) := by decide +kernel
theorem dX3_find_126 : decode cX3_find 126 = .ok (.aload_n 0, 1) := by decide +kernel
theorem dX3_find_127 : decode cX3_find 127 = .ok (.getfield 61, 3) := by decide +kernel
theorem dX3_find_130 : decode cX3_find 130 = .ok (.iload_n 2, 1) := by decide +kernel
theorem dX3_find_131 : decode cX3_find 131 = .ok (.sipush 1505, 3) := by decide +kernel
theorem dX3_find_134 : decode cX3_find 134 = .ok (.imul, 1) := by decide +kernel
theorem dX3_find_135 : decode cX3_find 135 = .ok (.iload_n 3, 1) := by decide +kernel
theorem dX3_find_136 : decode cX3_find 136 = .ok (.iadd, 1) := by decide +kernel
theorem dX3_find_137 : decode cX3_find 137 = .ok (.iload 4, 2) := by decide +kernel
theorem dX3_find_139 : decode cX3_find 139 = .ok (.iload 5, 2) := by decide +kernel
theorem dX3_find_141 : decode cX3_find 141 = .ok (.invokestatic 96, 3) := by decide +kernel
theorem dX3_find_144 : decode cX3_find 144 = .ok (.iastore, 1) := by decide +kernel
theorem dX3_find_145 : decode cX3_find 145 = .ok (.iinc 3 1, 3) := by decide +kernel
theorem dX3_find_148 : decode cX3_find 148 = .ok (.goto (-94), 3) := by decide +kernel
theorem dX3_find_151 : decode cX3_find 151 = .ok (.iinc 2 (-1), 3) := by decide +kernel
theorem dX3_find_154 : decode cX3_find 154 = .ok (.goto (-106), 3) := by decide +kernel
theorem dX3_find_157 : decode cX3_find 157 = .ok (.aload_n 0, 1) := by decide +kernel
theorem dX3_find_158 : decode cX3_find 158 = .ok (.iconst 0, 1) := by decide +kernel
theorem dX3_find_159 : decode cX3_find 159 = .ok (.putfield 101, 3) := by decide +kernel
theorem dX3_find_162 : decode cX3_find 162 = .ok (.iconst (-1), 1) := by decide +kernel
theorem dX3_find_163 : decode cX3_find 163 = .ok (.istore_n 2, 1) := by decide +kernel
theorem dX3_find_164 : decode cX3_find 164 = .ok (.aload_n 0, 1) := by decide +kernel
theorem dX3_find_165 : decode cX3_find 165 = .ok (.getfield 23, 3) := by decide +kernel
theorem dX3_find_168 : decode cX3_find 168 = .ok (.iload_n 1, 1) := by decide +kernel
theorem dX3_find_169 : decode cX3_find 169 = .ok (.iaload, 1) := by decide +kernel
theorem dX3_find_170 : decode cX3_find 170 = .ok (.istore_n 3, 1) := by decide +kernel
theorem dX3_find_171 : decode cX3_find 171 = .ok (.iload_n 3, 1) := by decide +kernel
theorem dX3_find_172 : decode cX3_find 172 = .ok (.aload_n 0, 1) := by decide +kernel
theorem dX3_find_173 : decode cX3_find 173 = .ok (.getfield 23, 3) := by decide +kernel
theorem dX3_find_176 : decode cX3_find 176 = .ok (.iload_n 1, 1) := by decide +kernel
theorem dX3_find_177 : decode cX3_find 177 = .ok (.iaload, 1) := by decide +kernel
theorem dX3_find_178 : decode cX3_find 178 = .ok (.iconst 4, 1) := by decide +kernel
theorem dX3_find_179 : decode cX3_find 179 = .ok (.iadd, 1) := by decide +kernel
theorem dX3_find_180 : decode cX3_find 180 = .ok (.if_icmp .gt 43, 3) := by decide +kernel
theorem dX3_find_183 : decode cX3_find 183 = .ok (.aload_n 0, 1) := by decide +kernel
theorem dX3_find_184 : decode cX3_find 184 = .ok (.getfield 61, 3) := by decide +kernel
theorem dX3_find_187 : decode cX3_find 187 = .ok (.iload_n 3, 1) := by decide +kernel
theorem dX3_find_188 : decode cX3_find 188 = .ok (.iaload, 1) := by decide +kernel
theorem dX3_find_189 : decode cX3_find 189 = .ok (.sipush 1000, 3) := by decide +kernel
theorem dX3_find_192 : decode cX3_find 192 = .ok (.if_icmp .ge 25, 3) := by decide +kernel
theorem dX3_find_195 : decode cX3_find 195 = .ok (.iload_n 2, 1) := by decide +kernel
theorem dX3_find_196 : decode cX3_find 196 = .ok (.iconst (-1), 1) := by decide +kernel
theorem dX3_find_197 : decode cX3_find 197 = .ok (.if_icmp .eq 18, 3) := by decide +kernel
theorem dX3_find_200 : decode cX3_find 200 = .ok (.aload_n 0, 1) := by decide +kernel
theorem dX3_find_201 : decode cX3_find 201 = .ok (.getfield 61, 3) := by decide +kernel
theorem dX3_find_204 : decode cX3_find 204 = .ok (.iload_n 3, 1) := by decide +kernel
theorem dX3_find_205 : decode cX3_find 205 = .ok (.iaload, 1) := by decide +kernel
theorem dX3_find_206 : decode cX3_find 206 = .ok (.aload_n 0, 1) := by decide +kernel
theorem dX3_find_207 : decode cX3_find 207 = .ok (.getfield 61, 3) := by decide +kernel
theorem dX3_find_210 : decode cX3_find 210 = .ok (.iload_n 2, 1) := by decide +kernel
theorem dX3_find_211 : decode cX3_find 211 = .ok (.iaload, 1) := by decide +kernel
theorem dX3_find_212 : decode cX3_find 212 = .ok (.if_icmp .ge 5, 3) := by decide +kernel
theorem dX3_find_215 : decode cX3_find 215 = .ok (.iload_n 3, 1) := by decide +kernel
theorem dX3_find_216 : decode cX3_find 216 = .ok (.istore_n 2, 1) := by decide +kernel
theorem dX3_find_217 : decode cX3_find 217 = .ok (.iinc 3 1, 3) := by decide +kernel
theorem dX3_find_220 : decode cX3_find 220 = .ok (.goto (-49), 3) := by decide +kernel
theorem dX3_find_223 : decode cX3_find 223 = .ok (.iload_n 2, 1) := by decide +kernel
theorem dX3_find_224 : decode cX3_find 224 = .ok (.iconst (-1), 1) := by decide +kernel
theorem dX3_find_225 : decode cX3_find 225 = .ok (.if_icmp .ne 5, 3) := by decide +kernel
theorem dX3_find_228 : decode cX3_find 228 = .ok (.iconst 0, 1) := by decide +kernel
theorem dX3_find_229 : decode cX3_find 229 = .ok (.ireturn, 1) := by decide +kernel
theorem dX3_find_230 : decode cX3_find 230 = .ok (.iconst 0, 1) := by decide +kernel
theorem dX3_find_231 : decode cX3_find 231 = .ok (.istore_n 3, 1) := by decide +kernel
theorem dX3_find_232 : decode cX3_find 232 = .ok (.iload_n 3, 1) := by decide +kernel
theorem dX3_find_233 : decode cX3_find 233 = .ok (.aload_n 0, 1) := by decide +kernel
theorem dX3_find_234 : decode cX3_find 234 = .ok (.getfield 78, 3) := by decide +kernel
theorem dX3_find_237 : decode cX3_find 237 = .ok (.if_icmp .ge 101, 3) := by decide +kernel
theorem dX3_find_240 : decode cX3_find 240 = .ok (.iload_n 2, 1) := by decide +kernel
theorem dX3_find_241 : decode cX3_find 241 = .ok (.ifCond .le 97, 3) := by decide +kernel
theorem dX3_find_244 : decode cX3_find 244 = .ok (.aload_n 0, 1) := by decide +kernel
theorem dX3_find_245 : decode cX3_find 245 = .ok (.iload_n 3, 1) := by decide +kernel
theorem dX3_find_246 : decode cX3_find 246 = .ok (.invokevirtual 93, 3) := by decide +kernel
theorem dX3_find_249 : decode cX3_find 249 = .ok (.ifCond .eq 83, 3) := by decide +kernel
theorem dX3_find_252 : decode cX3_find 252 = .ok (.iload_n 2, 1) := by decide +kernel
theorem dX3_find_253 : decode cX3_find 253 = .ok (.aload_n 0, 1) := by decide +kernel
theorem dX3_find_254 : decode cX3_find 254 = .ok (.getfield 13, 3) := by decide +kernel
theorem dX3_find_257 : decode cX3_find 257 = .ok (.iload_n 3, 1) := by decide +kernel
theorem dX3_find_258 : decode cX3_find 258 = .ok (.iaload, 1) := by decide +kernel
theorem dX3_find_259 : decode cX3_find 259 = .ok (.if_icmp .lt 73, 3) := by decide +kernel
theorem dX3_find_262 : decode cX3_find 262 = .ok (.aload_n 0, 1) := by decide +kernel
theorem dX3_find_263 : decode cX3_find 263 = .ok (.getfield 61, 3) := by decide +kernel
theorem dX3_find_266 : decode cX3_find 266 = .ok (.iload_n 3, 1) := by decide +kernel
theorem dX3_find_267 : decode cX3_find 267 = .ok (.iconst 1, 1) := by decide +kernel
theorem dX3_find_268 : decode cX3_find 268 = .ok (.iadd, 1) := by decide +kernel
theorem dX3_find_269 : decode cX3_find 269 = .ok (.sipush 1505, 3) := by decide +kernel
theorem dX3_find_272 : decode cX3_find 272 = .ok (.imul, 1) := by decide +kernel
theorem dX3_find_273 : decode cX3_find 273 = .ok (.iload_n 2, 1) := by decide +kernel
theorem dX3_find_274 : decode cX3_find 274 = .ok (.iadd, 1) := by decide +kernel
theorem dX3_find_275 : decode cX3_find 275 = .ok (.aload_n 0, 1) := by decide +kernel
theorem dX3_find_276 : decode cX3_find 276 = .ok (.getfield 13, 3) := by decide +kernel
theorem dX3_find_279 : decode cX3_find 279 = .ok (.iload_n 3, 1) := by decide +kernel
theorem dX3_find_280 : decode cX3_find 280 = .ok (.iaload, 1) := by decide +kernel
theorem dX3_find_281 : decode cX3_find 281 = .ok (.isub, 1) := by decide +kernel
theorem dX3_find_282 : decode cX3_find 282 = .ok (.iaload, 1) := by decide +kernel
theorem dX3_find_283 : decode cX3_find 283 = .ok (.iconst 1, 1) := by decide +kernel
theorem dX3_find_284 : decode cX3_find 284 = .ok (.iadd, 1) := by decide +kernel
theorem dX3_find_285 : decode cX3_find 285 = .ok (.aload_n 0, 1) := by decide +kernel
theorem dX3_find_286 : decode cX3_find 286 = .ok (.getfield 61, 3) := by decide +kernel
theorem dX3_find_289 : decode cX3_find 289 = .ok (.iload_n 3, 1) := by decide +kernel
theorem dX3_find_290 : decode cX3_find 290 = .ok (.sipush 1505, 3) := by decide +kernel
theorem dX3_find_293 : decode cX3_find 293 = .ok (.imul, 1) := by decide +kernel
theorem dX3_find_294 : decode cX3_find 294 = .ok (.iload_n 2, 1) := by decide +kernel
theorem dX3_find_295 : decode cX3_find 295 = .ok (.iadd, 1) := by decide +kernel
theorem dX3_find_296 : decode cX3_find 296 = .ok (.iaload, 1) := by decide +kernel
theorem dX3_find_297 : decode cX3_find 297 = .ok (.if_icmp .eq 6, 3) := by decide +kernel
theorem dX3_find_300 : decode cX3_find 300 = .ok (.goto 32, 3) := by decide +kernel
theorem dX3_find_303 : decode cX3_find 303 = .ok (.aload_n 0, 1) := by decide +kernel
theorem dX3_find_304 : decode cX3_find 304 = .ok (.getfield 64, 3) := by decide +kernel
theorem dX3_find_307 : decode cX3_find 307 = .ok (.aload_n 0, 1) := by decide +kernel
theorem dX3_find_308 : decode cX3_find 308 = .ok (.getfield 101, 3) := by decide +kernel
theorem dX3_find_311 : decode cX3_find 311 = .ok (.iload_n 3, 1) := by decide +kernel
theorem dX3_find_312 : decode cX3_find 312 = .ok (.iastore, 1) := by decide +kernel
theorem dX3_find_313 : decode cX3_find 313 = .ok (.aload_n 0, 1) := by decide +kernel
theorem dX3_find_314 : decode cX3_find 314 = .ok (.dup, 1) := by decide +kernel
theorem dX3_find_315 : decode cX3_find 315 = .ok (.getfield 101, 3) := by decide +kernel
theorem dX3_find_318 : decode cX3_find 318 = .ok (.iconst 1, 1) := by decide +kernel
theorem dX3_find_319 : decode cX3_find 319 = .ok (.iadd, 1) := by decide +kernel
theorem dX3_find_320 : decode cX3_find 320 = .ok (.putfield 101, 3) := by decide +kernel
theorem dX3_find_323 : decode cX3_find 323 = .ok (.iload_n 2, 1) := by decide +kernel
theorem dX3_find_324 : decode cX3_find 324 = .ok (.aload_n 0, 1) := by decide +kernel
theorem dX3_find_325 : decode cX3_find 325 = .ok (.getfield 13, 3) := by decide +kernel
theorem dX3_find_328 : decode cX3_find 328 = .ok (.iload_n 3, 1) := by decide +kernel
theorem dX3_find_329 : decode cX3_find 329 = .ok (.iaload, 1) := by decide +kernel
theorem dX3_find_330 : decode cX3_find 330 = .ok (.isub, 1) := by decide +kernel
theorem dX3_find_331 : decode cX3_find 331 = .ok (.istore_n 2, 1) := by decide +kernel
theorem dX3_find_332 : decode cX3_find 332 = .ok (.iinc 3 1, 3) := by decide +kernel
theorem dX3_find_335 : decode cX3_find 335 = .ok (.goto (-103), 3) := by decide +kernel
theorem dX3_find_338 : decode cX3_find 338 = .ok (.iconst 1, 1) := by decide +kernel
theorem dX3_find_339 : decode cX3_find 339 = .ok (.ireturn, 1) := by decide +kernel
set_option maxRecDepth 20000 in
theorem ggX3_choose_X3_isSort : GoodIn wsX3_choose wsX3_isSort := goodIn_r _ [8, 9, 10, 11, 7, 12, 35, 36, 37, 38, 39, 40, 41, 42, 43, 44, 45, 46, 47, 48, 49, 50, 51, 52, 53, 54, 55, 56, 57, 58, 59] (by decide +kernel) (by decide +kernel)
set_option maxRecDepth 20000 in
theorem gX3_choose_X3_isSort : GoodIn wsX3_choose (wsV RX3 104 RX3 yX3_isSort wsX3_isSort) := goodIn_app (goodIn_of _ (by decide +kernel)) ggX3_choose_X3_isSort
set_option maxRecDepth 20000 in
theorem ggX3_choose_X3_isIn : GoodIn wsX3_choose wsX3_isIn := goodIn_r _ [12] (by decide +kernel) (by decide +kernel)
set_option maxRecDepth 20000 in
theorem gX3_choose_X3_isIn : GoodIn wsX3_choose (va_wsS RX3 70 yX3_isIn wsX3_isIn) := goodIn_app (goodIn_of _ (by decide +kernel)) ggX3_choose_X3_isIn
set_option maxRecDepth 20000 in
theorem ggX3_choose_X3_no : GoodIn wsX3_choose wsX3_no := goodIn_r _ [16, 1, 35, 36, 37, 38, 39, 40, 41, 42, 43, 44, 45, 46, 47, 48, 49, 50, 51, 52, 53, 54, 55, 56, 57, 58, 59] (by decide +kernel) (by decide +kernel)
set_option maxRecDepth 20000 in
theorem gX3_choose_X3_no : GoodIn wsX3_choose (wsV RX3 74 RX3 yX3_no wsX3_no) := goodIn_app (goodIn_of _ (by decide +kernel)) ggX3_choose_X3_no
set_option maxRecDepth 20000 in
theorem ggX3_choose_X3_find : GoodIn wsX3_choose wsX3_find := goodIn_r _ [20, 21, 22, 23, 24, 25, 26, 27, 2, 28, 3, 29, 30, 31, 7, 32, 33, 34, 35, 36, 37, 38, 39, 40, 41, 42, 43, 44, 45, 46, 47, 48, 49, 50, 51, 52, 53, 54, 55, 56, 57, 58, 59] (by decide +kernel) (by decide +kernel)
set_option maxRecDepth 20000 in
theorem gX3_choose_X3_find : GoodIn wsX3_choose (wsV RX3 107 RX3 yX3_find wsX3_find) := goodIn_app (goodIn_of _ (by decide +kernel)) ggX3_choose_X3_find
theorem dX3_choose_0 : decode cX3_choose 0 = .ok (.aload_n 0, 1) := by decide +kernel
theorem dX3_choose_1 : decode cX3_choose 1 = .ok (.iconst 0, 1) := by decide +kernel
theorem dX3_choose_2 : decode cX3_choose 2 = .ok (.putfield 67, 3) := by decide +kernel
theorem dX3_choose_5 : decode cX3_choose 5 = .ok (.aload_n 0, 1) := by decide +kernel
theorem dX3_choose_6 : decode cX3_choose 6 = .ok (.iload_n 1, 1) := by decide +kernel
theorem dX3_choose_7 : decode cX3_choose 7 = .ok (.invokevirtual 104, 3) := by decide +kernel
theorem dX3_choose_10 : decode cX3_choose 10 = .ok (.ifCond .eq 13, 3) := by decide +kernel
theorem dX3_choose_13 : decode cX3_choose 13 = .ok (.iload_n 2, 1) := by decide +kernel
theorem dX3_choose_14 : decode cX3_choose 14 = .ok (.iconst 0, 1) := by decide +kernel
theorem dX3_choose_15 : decode cX3_choose 15 = .ok (.bipush 59, 2) := by decide +kernel
theorem dX3_choose_17 : decode cX3_choose 17 = .ok (.invokestatic 70, 3) := by decide +kernel
theorem dX3_choose_20 : decode cX3_choose 20 = .ok (.ifCond .ne 9, 3) := by decide +kernel
theorem dX3_choose_23 : decode cX3_choose 23 = .ok (.aload_n 0, 1) := by decide +kernel
theorem dX3_choose_24 : decode cX3_choose 24 = .ok (.iconst 1, 1) := by decide +kernel
theorem dX3_choose_25 : decode cX3_choose 25 = .ok (.invokevirtual 74, 3) := by decide +kernel
theorem dX3_choose_28 : decode cX3_choose 28 = .ok (.ireturn, 1) := by decide +kernel
theorem dX3_choose_29 : decode cX3_choose 29 = .ok (.aload_n 0, 1) := by decide +kernel
theorem dX3_choose_30 : decode cX3_choose 30 = .ok (.iload_n 1, 1) := by decide +kernel
theorem dX3_choose_31 : decode cX3_choose 31 = .ok (.invokevirtual 107, 3) := by decide +kernel
theorem dX3_choose_34 : decode cX3_choose 34 = .ok (.ifCond .eq 20, 3) := by decide +kernel
theorem dX3_choose_37 : decode cX3_choose 37 = .ok (.iload_n 2, 1) := by decide +kernel
theorem dX3_choose_38 : decode cX3_choose 38 = .ok (.aload_n 0, 1) := by decide +kernel
theorem dX3_choose_39 : decode cX3_choose 39 = .ok (.getfield 101, 3) := by decide +kernel
theorem dX3_choose_42 : decode cX3_choose 42 = .ok (.if_icmp .ge 12, 3) := by decide +kernel
theorem dX3_choose_45 : decode cX3_choose 45 = .ok (.aload_n 0, 1) := by decide +kernel
theorem dX3_choose_46 : decode cX3_choose 46 = .ok (.getfield 64, 3) := by decide +kernel
theorem dX3_choose_49 : decode cX3_choose 49 = .ok (.iload_n 2, 1) := by decide +kernel
theorem dX3_choose_50 : decode cX3_choose 50 = .ok (.iaload, 1) := by decide +kernel
theorem dX3_choose_51 : decode cX3_choose 51 = .ok (.goto 4, 3) := by decide +kernel
theorem dX3_choose_54 : decode cX3_choose 54 = .ok (.iconst (-1), 1) := by decide +kernel
theorem dX3_choose_55 : decode cX3_choose 55 = .ok (.ireturn, 1) := by decide +kernel
set_option maxRecDepth 20000 in
theorem ggX3_raise_X3_isSort : GoodIn wsX3_raise wsX3_isSort := goodIn_r _ [20, 21, 22, 23, 19, 24, 45, 46, 47, 48, 49, 50, 51, 52, 53, 54, 55, 56, 57, 58, 59, 60, 61, 62, 63, 64, 65, 66, 67, 68, 69] (by decide +kernel) (by decide +kernel)
set_option maxRecDepth 20000 in
theorem gX3_raise_X3_isSort : GoodIn wsX3_raise (wsV RX3 104 RX3 yX3_isSort wsX3_isSort) := goodIn_app (goodIn_of _ (by decide +kernel)) ggX3_raise_X3_isSort
set_option maxRecDepth 20000 in
theorem ggX3_raise_X3_no : GoodIn wsX3_raise wsX3_no := goodIn_r _ [28, 1, 45, 46, 47, 48, 49, 50, 51, 52, 53, 54, 55, 56, 57, 58, 59, 60, 61, 62, 63, 64, 65, 66, 67, 68, 69] (by decide +kernel) (by decide +kernel)
set_option maxRecDepth 20000 in
theorem gX3_raise_X3_no : GoodIn wsX3_raise (wsV RX3 74 RX3 yX3_no wsX3_no) := goodIn_app (goodIn_of _ (by decide +kernel)) ggX3_raise_X3_no
set_option maxRecDepth 20000 in
theorem ggX3_raise_X3_find : GoodIn wsX3_raise wsX3_find := goodIn_r _ [32, 33, 34, 35, 36, 37, 38, 39, 6, 40, 8, 41, 42, 43, 19, 44, 7, 9, 45, 46, 47, 48, 49, 50, 51, 52, 53, 54, 55, 56, 57, 58, 59, 60, 61, 62, 63, 64, 65, 66, 67, 68, 69] (by decide +kernel) (by decide +kernel)
set_option maxRecDepth 20000 in
theorem gX3_raise_X3_find : GoodIn wsX3_raise (wsV RX3 107 RX3 yX3_find wsX3_find) := goodIn_app (goodIn_of _ (by decide +kernel)) ggX3_raise_X3_find
theorem dX3_raise_0 : decode cX3_raise 0 = .ok (.aload_n 0, 1) := by decide +kernel
theorem dX3_raise_1 : decode cX3_raise 1 = .ok (.iconst 0, 1) := by decide +kernel
theorem dX3_raise_2 : decode cX3_raise 2 = .ok (.putfield 67, 3) := by decide +kernel
theorem dX3_raise_5 : decode cX3_raise 5 = .ok (.aload_n 0, 1) := by decide +kernel
theorem dX3_raise_6 : decode cX3_raise 6 = .ok (.iload_n 1, 1) := by decide +kernel
theorem dX3_raise_7 : decode cX3_raise 7 = .ok (.invokevirtual 104, 3) := by decide +kernel
theorem dX3_raise_10 : decode cX3_raise 10 = .ok (.ifCond .ne 9, 3) := by decide +kernel
theorem dX3_raise_13 : decode cX3_raise 13 = .ok (.aload_n 0, 1) := by decide +kernel
theorem dX3_raise_14 : decode cX3_raise 14 = .ok (.iconst 1, 1) := by decide +kernel
theorem dX3_raise_15 : decode cX3_raise 15 = .ok (.invokevirtual 74, 3) := by decide +kernel
theorem dX3_raise_18 : decode cX3_raise 18 = .ok (.ireturn, 1) := by decide +kernel
theorem dX3_raise_19 : decode cX3_raise 19 = .ok (.aload_n 0, 1) := by decide +kernel
theorem dX3_raise_20 : decode cX3_raise 20 = .ok (.getfield 110, 3) := by decide +kernel
theorem dX3_raise_23 : decode cX3_raise 23 = .ok (.bipush 12, 2) := by decide +kernel
theorem dX3_raise_25 : decode cX3_raise 25 = .ok (.if_icmp .eq 11, 3) := by decide +kernel
theorem dX3_raise_28 : decode cX3_raise 28 = .ok (.aload_n 0, 1) := by decide +kernel
theorem dX3_raise_29 : decode cX3_raise 29 = .ok (.iload_n 1, 1) := by decide +kernel
theorem dX3_raise_30 : decode cX3_raise 30 = .ok (.invokevirtual 107, 3) := by decide +kernel
theorem dX3_raise_33 : decode cX3_raise 33 = .ok (.ifCond .ne 9, 3) := by decide +kernel
theorem dX3_raise_36 : decode cX3_raise 36 = .ok (.aload_n 0, 1) := by decide +kernel
theorem dX3_raise_37 : decode cX3_raise 37 = .ok (.iconst 2, 1) := by decide +kernel
theorem dX3_raise_38 : decode cX3_raise 38 = .ok (.invokevirtual 74, 3) := by decide +kernel
theorem dX3_raise_41 : decode cX3_raise 41 = .ok (.ireturn, 1) := by decide +kernel
theorem dX3_raise_42 : decode cX3_raise 42 = .ok (.aload_n 0, 1) := by decide +kernel
theorem dX3_raise_43 : decode cX3_raise 43 = .ok (.getfield 110, 3) := by decide +kernel
theorem dX3_raise_46 : decode cX3_raise 46 = .ok (.istore_n 2, 1) := by decide +kernel
theorem dX3_raise_47 : decode cX3_raise 47 = .ok (.aload_n 0, 1) := by decide +kernel
theorem dX3_raise_48 : decode cX3_raise 48 = .ok (.getfield 32, 3) := by decide +kernel
theorem dX3_raise_51 : decode cX3_raise 51 = .ok (.iload_n 2, 1) := by decide +kernel
theorem dX3_raise_52 : decode cX3_raise 52 = .ok (.iload_n 1, 1) := by decide +kernel
theorem dX3_raise_53 : decode cX3_raise 53 = .ok (.iastore, 1) := by decide +kernel
theorem dX3_raise_54 : decode cX3_raise 54 = .ok (.aload_n 0, 1) := by decide +kernel
theorem dX3_raise_55 : decode cX3_raise 55 = .ok (.getfield 35, 3) := by decide +kernel
theorem dX3_raise_58 : decode cX3_raise 58 = .ok (.iload_n 2, 1) := by decide +kernel
theorem dX3_raise_59 : decode cX3_raise 59 = .ok (.iconst 1, 1) := by decide +kernel
theorem dX3_raise_60 : decode cX3_raise 60 = .ok (.bastore, 1) := by decide +kernel
theorem dX3_raise_61 : decode cX3_raise 61 = .ok (.aload_n 0, 1) := by decide +kernel
theorem dX3_raise_62 : decode cX3_raise 62 = .ok (.getfield 39, 3) := by decide +kernel
theorem dX3_raise_65 : decode cX3_raise 65 = .ok (.iload_n 2, 1) := by decide +kernel
theorem dX3_raise_66 : decode cX3_raise 66 = .ok (.iconst 0, 1) := by decide +kernel
theorem dX3_raise_67 : decode cX3_raise 67 = .ok (.iastore, 1) := by decide +kernel
theorem dX3_raise_68 : decode cX3_raise 68 = .ok (.iconst 0, 1) := by decide +kernel
theorem dX3_raise_69 : decode cX3_raise 69 = .ok (.istore_n 3, 1) := by decide +kernel
theorem dX3_raise_70 : decode cX3_raise 70 = .ok (.iload_n 3, 1) := by decide +kernel
theorem dX3_raise_71 : decode cX3_raise 71 = .ok (.aload_n 0, 1) := by decide +kernel
theorem dX3_raise_72 : decode cX3_raise 72 = .ok (.getfield 101, 3) := by decide +kernel
theorem dX3_raise_75 : decode cX3_raise 75 = .ok (.if_icmp .ge 51, 3) := by decide +kernel
theorem dX3_raise_78 : decode cX3_raise 78 = .ok (.aload_n 0, 1) := by decide +kernel
theorem dX3_raise_79 : decode cX3_raise 79 = .ok (.getfield 20, 3) := by decide +kernel
theorem dX3_raise_82 : decode cX3_raise 82 = .ok (.aload_n 0, 1) := by decide +kernel
theorem dX3_raise_83 : decode cX3_raise 83 = .ok (.getfield 64, 3) := by decide +kernel
theorem dX3_raise_86 : decode cX3_raise 86 = .ok (.iload_n 3, 1) := by decide +kernel
theorem dX3_raise_87 : decode cX3_raise 87 = .ok (.iaload, 1) := by decide +kernel
theorem dX3_raise_88 : decode cX3_raise 88 = .ok (.iload_n 2, 1) := by decide +kernel
theorem dX3_raise_89 : decode cX3_raise 89 = .ok (.iastore, 1) := by decide +kernel
theorem dX3_raise_90 : decode cX3_raise 90 = .ok (.aload_n 0, 1) := by decide +kernel
theorem dX3_raise_91 : decode cX3_raise 91 = .ok (.getfield 39, 3) := by decide +kernel
theorem dX3_raise_94 : decode cX3_raise 94 = .ok (.iload_n 2, 1) := by decide +kernel
theorem dX3_raise_95 : decode cX3_raise 95 = .ok (.dup2, 1) := by decide +kernel
theorem dX3_raise_96 : decode cX3_raise 96 = .ok (.iaload, 1) := by decide +kernel
theorem dX3_raise_97 : decode cX3_raise 97 = .ok (.aload_n 0, 1) := by decide +kernel
theorem dX3_raise_98 : decode cX3_raise 98 = .ok (.getfield 17, 3) := by decide +kernel
theorem dX3_raise_101 : decode cX3_raise 101 = .ok (.aload_n 0, 1) := by decide +kernel
theorem dX3_raise_102 : decode cX3_raise 102 = .ok (.getfield 64, 3) := by decide +kernel
theorem dX3_raise_105 : decode cX3_raise 105 = .ok (.iload_n 3, 1) := by decide +kernel
theorem dX3_raise_106 : decode cX3_raise 106 = .ok (.iaload, 1) := by decide +kernel
theorem dX3_raise_107 : decode cX3_raise 107 = .ok (.iaload, 1) := by decide +kernel
theorem dX3_raise_108 : decode cX3_raise 108 = .ok (.bipush 70, 2) := by decide +kernel
theorem dX3_raise_110 : decode cX3_raise 110 = .ok (.if_icmp .ge 7, 3) := by decide +kernel
theorem dX3_raise_113 : decode cX3_raise 113 = .ok (.iconst 1, 1) := by decide +kernel
theorem dX3_raise_114 : decode cX3_raise 114 = .ok (.goto 4, 3) := by decide +kernel
theorem dX3_raise_117 : decode cX3_raise 117 = .ok (.iconst 0, 1) := by decide +kernel
theorem dX3_raise_118 : decode cX3_raise 118 = .ok (.iadd, 1) := by decide +kernel
theorem dX3_raise_119 : decode cX3_raise 119 = .ok (.iastore, 1) := by decide +kernel
theorem dX3_raise_120 : decode cX3_raise 120 = .ok (.iinc 3 1, 3) := by decide +kernel
theorem dX3_raise_123 : decode cX3_raise 123 = .ok (.goto (-53), 3) := by decide +kernel
theorem dX3_raise_126 : decode cX3_raise 126 = .ok (.iconst 0, 1) := by decide +kernel
theorem dX3_raise_127 : decode cX3_raise 127 = .ok (.istore_n 3, 1) := by decide +kernel
theorem dX3_raise_128 : decode cX3_raise 128 = .ok (.iload_n 3, 1) := by decide +kernel
theorem dX3_raise_129 : decode cX3_raise 129 = .ok (.bipush 8, 2) := by decide +kernel
theorem dX3_raise_131 : decode cX3_raise 131 = .ok (.if_icmp .ge 35, 3) := by decide +kernel
theorem dX3_raise_134 : decode cX3_raise 134 = .ok (.aload_n 0, 1) := by decide +kernel
theorem dX3_raise_135 : decode cX3_raise 135 = .ok (.getfield 42, 3) := by decide +kernel
theorem dX3_raise_138 : decode cX3_raise 138 = .ok (.bipush 8, 2) := by decide +kernel
theorem dX3_raise_140 : decode cX3_raise 140 = .ok (.iload_n 2, 1) := by decide +kernel
theorem dX3_raise_141 : decode cX3_raise 141 = .ok (.imul, 1) := by decide +kernel
theorem dX3_raise_142 : decode cX3_raise 142 = .ok (.iload_n 3, 1) := by decide +kernel
theorem dX3_raise_143 : decode cX3_raise 143 = .ok (.iadd, 1) := by decide +kernel
theorem dX3_raise_144 : decode cX3_raise 144 = .ok (.iload_n 3, 1) := by decide +kernel
theorem dX3_raise_145 : decode cX3_raise 145 = .ok (.aload_n 0, 1) := by decide +kernel
theorem dX3_raise_146 : decode cX3_raise 146 = .ok (.getfield 29, 3) := by decide +kernel
theorem dX3_raise_149 : decode cX3_raise 149 = .ok (.iload_n 1, 1) := by decide +kernel
theorem dX3_raise_150 : decode cX3_raise 150 = .ok (.iaload, 1) := by decide +kernel
theorem dX3_raise_151 : decode cX3_raise 151 = .ok (.if_icmp .ge 7, 3) := by decide +kernel
theorem dX3_raise_154 : decode cX3_raise 154 = .ok (.iconst 3, 1) := by decide +kernel
theorem dX3_raise_155 : decode cX3_raise 155 = .ok (.goto 4, 3) := by decide +kernel
theorem dX3_raise_158 : decode cX3_raise 158 = .ok (.iconst 0, 1) := by decide +kernel
theorem dX3_raise_159 : decode cX3_raise 159 = .ok (.iastore, 1) := by decide +kernel
theorem dX3_raise_160 : decode cX3_raise 160 = .ok (.iinc 3 1, 3) := by decide +kernel
theorem dX3_raise_163 : decode cX3_raise 163 = .ok (.goto (-35), 3) := by decide +kernel
theorem dX3_raise_166 : decode cX3_raise 166 = .ok (.aload_n 0, 1) := by decide +kernel
theorem dX3_raise_167 : decode cX3_raise 167 = .ok (.getfield 45, 3) := by decide +kernel
theorem dX3_raise_170 : decode cX3_raise 170 = .ok (.iload_n 2, 1) := by decide +kernel
theorem dX3_raise_171 : decode cX3_raise 171 = .ok (.iconst 0, 1) := by decide +kernel
theorem dX3_raise_172 : decode cX3_raise 172 = .ok (.iastore, 1) := by decide +kernel
theorem dX3_raise_173 : decode cX3_raise 173 = .ok (.aload_n 0, 1) := by decide +kernel
theorem dX3_raise_174 : decode cX3_raise 174 = .ok (.getfield 48, 3) := by decide +kernel
theorem dX3_raise_177 : decode cX3_raise 177 = .ok (.iload_n 2, 1) := by decide +kernel
theorem dX3_raise_178 : decode cX3_raise 178 = .ok (.iconst 0, 1) := by decide +kernel
theorem dX3_raise_179 : decode cX3_raise 179 = .ok (.iastore, 1) := by decide +kernel
theorem dX3_raise_180 : decode cX3_raise 180 = .ok (.aload_n 0, 1) := by decide +kernel
theorem dX3_raise_181 : decode cX3_raise 181 = .ok (.getfield 51, 3) := by decide +kernel
theorem dX3_raise_184 : decode cX3_raise 184 = .ok (.iload_n 2, 1) := by decide +kernel
theorem dX3_raise_185 : decode cX3_raise 185 = .ok (.iconst 0, 1) := by decide +kernel
theorem dX3_raise_186 : decode cX3_raise 186 = .ok (.iastore, 1) := by decide +kernel
theorem dX3_raise_187 : decode cX3_raise 187 = .ok (.aload_n 0, 1) := by decide +kernel
theorem dX3_raise_188 : decode cX3_raise 188 = .ok (.getfield 57, 3) := by decide +kernel
theorem dX3_raise_191 : decode cX3_raise 191 = .ok (.iload_n 2, 1) := by decide +kernel
theorem dX3_raise_192 : decode cX3_raise 192 = .ok (.iconst 0, 1) := by decide +kernel
theorem dX3_raise_193 : decode cX3_raise 193 = .ok (.iastore, 1) := by decide +kernel
theorem dX3_raise_194 : decode cX3_raise 194 = .ok (.aload_n 0, 1) := by decide +kernel
theorem dX3_raise_195 : decode cX3_raise 195 = .ok (.dup, 1) := by decide +kernel
theorem dX3_raise_196 : decode cX3_raise 196 = .ok (.getfield 110, 3) := by decide +kernel
theorem dX3_raise_199 : decode cX3_raise 199 = .ok (.iconst 1, 1) := by decide +kernel
theorem dX3_raise_200 : decode cX3_raise 200 = .ok (.iadd, 1) := by decide +kernel
theorem dX3_raise_201 : decode cX3_raise 201 = .ok (.putfield 110, 3) := by decide +kernel
theorem dX3_raise_204 : decode cX3_raise 204 = .ok (.iload_n 2, 1) := by decide +kernel
theorem dX3_raise_205 : decode cX3_raise 205 = .ok (.ireturn, 1) := by decide +kernel
set_option maxRecDepth 20000 in
theorem ggX3_isCask_X3_isIn : GoodIn wsX3_isCask wsX3_isIn := goodIn_r _ [5] (by decide +kernel) (by decide +kernel)
set_option maxRecDepth 20000 in
theorem gX3_isCask_X3_isIn : GoodIn wsX3_isCask (va_wsS RX3 70 yX3_isIn wsX3_isIn) := goodIn_app (goodIn_of _ (by decide +kernel)) ggX3_isCask_X3_isIn
theorem dX3_isCask_0 : decode cX3_isCask 0 = .ok (.iload_n 1, 1) := by decide +kernel
theorem dX3_isCask_1 : decode cX3_isCask 1 = .ok (.iconst 0, 1) := by decide +kernel
theorem dX3_isCask_2 : decode cX3_isCask 2 = .ok (.aload_n 0, 1) := by decide +kernel
theorem dX3_isCask_3 : decode cX3_isCask 3 = .ok (.getfield 110, 3) := by decide +kernel
theorem dX3_isCask_6 : decode cX3_isCask 6 = .ok (.iconst 1, 1) := by decide +kernel
theorem dX3_isCask_7 : decode cX3_isCask 7 = .ok (.isub, 1) := by decide +kernel
theorem dX3_isCask_8 : decode cX3_isCask 8 = .ok (.invokestatic 70, 3) := by decide +kernel
theorem dX3_isCask_11 : decode cX3_isCask 11 = .ok (.ireturn, 1) := by decide +kernel
theorem dX3_hoopsOf_0 : decode cX3_hoopsOf 0 = .ok (.aload_n 0, 1) := by decide +kernel
theorem dX3_hoopsOf_1 : decode cX3_hoopsOf 1 = .ok (.getfield 35, 3) := by decide +kernel
theorem dX3_hoopsOf_4 : decode cX3_hoopsOf 4 = .ok (.iload_n 1, 1) := by decide +kernel
theorem dX3_hoopsOf_5 : decode cX3_hoopsOf 5 = .ok (.baload, 1) := by decide +kernel
theorem dX3_hoopsOf_6 : decode cX3_hoopsOf 6 = .ok (.ifCond .eq 17, 3) := by decide +kernel
theorem dX3_hoopsOf_9 : decode cX3_hoopsOf 9 = .ok (.aload_n 0, 1) := by decide +kernel
theorem dX3_hoopsOf_10 : decode cX3_hoopsOf 10 = .ok (.getfield 29, 3) := by decide +kernel
theorem dX3_hoopsOf_13 : decode cX3_hoopsOf 13 = .ok (.aload_n 0, 1) := by decide +kernel
theorem dX3_hoopsOf_14 : decode cX3_hoopsOf 14 = .ok (.getfield 32, 3) := by decide +kernel
theorem dX3_hoopsOf_17 : decode cX3_hoopsOf 17 = .ok (.iload_n 1, 1) := by decide +kernel
theorem dX3_hoopsOf_18 : decode cX3_hoopsOf 18 = .ok (.iaload, 1) := by decide +kernel
theorem dX3_hoopsOf_19 : decode cX3_hoopsOf 19 = .ok (.iaload, 1) := by decide +kernel
theorem dX3_hoopsOf_20 : decode cX3_hoopsOf 20 = .ok (.goto 4, 3) := by decide +kernel
theorem dX3_hoopsOf_23 : decode cX3_hoopsOf 23 = .ok (.iconst 0, 1) := by decide +kernel
theorem dX3_hoopsOf_24 : decode cX3_hoopsOf 24 = .ok (.ireturn, 1) := by decide +kernel
set_option maxRecDepth 20000 in
theorem ggX3_tensions_X3_hoopsOf : GoodIn wsX3_tensions wsX3_hoopsOf := goodIn_r _ [6, 7, 8, 9, 10, 11, 12, 13, 14, 15, 16, 17, 18, 19, 20, 21, 22, 23, 24, 25, 26, 27, 28, 29, 30, 31, 32, 33, 34] (by decide +kernel) (by decide +kernel)
set_option maxRecDepth 20000 in
theorem gX3_tensions_X3_hoopsOf : GoodIn wsX3_tensions (wsV RX3 113 RX3 yX3_hoopsOf wsX3_hoopsOf) := goodIn_app (goodIn_of _ (by decide +kernel)) ggX3_tensions_X3_hoopsOf
theorem dX3_tensions_0 : decode cX3_tensions 0 = .ok (.iconst 0, 1) := by decide +kernel
theorem dX3_tensions_1 : decode cX3_tensions 1 = .ok (.istore_n 2, 1) := by decide +kernel
theorem dX3_tensions_2 : decode cX3_tensions 2 = .ok (.iconst 0, 1) := by decide +kernel
theorem dX3_tensions_3 : decode cX3_tensions 3 = .ok (.istore_n 3, 1) := by decide +kernel
theorem dX3_tensions_4 : decode cX3_tensions 4 = .ok (.iload_n 3, 1) := by decide +kernel
theorem dX3_tensions_5 : decode cX3_tensions 5 = .ok (.aload_n 0, 1) := by decide +kernel
theorem dX3_tensions_6 : decode cX3_tensions 6 = .ok (.iload_n 1, 1) := by decide +kernel
theorem dX3_tensions_7 : decode cX3_tensions 7 = .ok (.invokevirtual 113, 3) := by decide +kernel
theorem dX3_tensions_10 : decode cX3_tensions 10 = .ok (.if_icmp .ge 23, 3) := by decide +kernel
theorem dX3_tensions_13 : decode cX3_tensions 13 = .ok (.iload_n 2, 1) := by decide +kernel
theorem dX3_tensions_14 : decode cX3_tensions 14 = .ok (.aload_n 0, 1) := by decide +kernel
theorem dX3_tensions_15 : decode cX3_tensions 15 = .ok (.getfield 42, 3) := by decide +kernel
theorem dX3_tensions_18 : decode cX3_tensions 18 = .ok (.bipush 8, 2) := by decide +kernel
theorem dX3_tensions_20 : decode cX3_tensions 20 = .ok (.iload_n 1, 1) := by decide +kernel
theorem dX3_tensions_21 : decode cX3_tensions 21 = .ok (.imul, 1) := by decide +kernel
theorem dX3_tensions_22 : decode cX3_tensions 22 = .ok (.iload_n 3, 1) := by decide +kernel
theorem dX3_tensions_23 : decode cX3_tensions 23 = .ok (.iadd, 1) := by decide +kernel
theorem dX3_tensions_24 : decode cX3_tensions 24 = .ok (.iaload, 1) := by decide +kernel
theorem dX3_tensions_25 : decode cX3_tensions 25 = .ok (.iadd, 1) := by decide +kernel
theorem dX3_tensions_26 : decode cX3_tensions 26 = .ok (.istore_n 2, 1) := by decide +kernel
theorem dX3_tensions_27 : decode cX3_tensions 27 = .ok (.iinc 3 1, 3) := by decide +kernel
theorem dX3_tensions_30 : decode cX3_tensions 30 = .ok (.goto (-26), 3) := by decide +kernel
theorem dX3_tensions_33 : decode cX3_tensions 33 = .ok (.iload_n 2, 1) := by decide +kernel
theorem dX3_tensions_34 : decode cX3_tensions 34 = .ok (.ireturn, 1) := by decide +kernel
theorem dX3_all_0 : decode cX3_all 0 = .ok (.iconst 0, 1) := by decide +kernel
theorem dX3_all_1 : decode cX3_all 1 = .ok (.istore_n 2, 1) := by decide +kernel
theorem dX3_all_2 : decode cX3_all 2 = .ok (.iconst 0, 1) := by decide +kernel
theorem dX3_all_3 : decode cX3_all 3 = .ok (.istore_n 3, 1) := by decide +kernel
theorem dX3_all_4 : decode cX3_all 4 = .ok (.iload_n 3, 1) := by decide +kernel
theorem dX3_all_5 : decode cX3_all 5 = .ok (.iconst 5, 1) := by decide +kernel
theorem dX3_all_6 : decode cX3_all 6 = .ok (.if_icmp .ge 22, 3) := by decide +kernel
theorem dX3_all_9 : decode cX3_all 9 = .ok (.iload_n 2, 1) := by decide +kernel
theorem dX3_all_10 : decode cX3_all 10 = .ok (.aload_n 0, 1) := by decide +kernel
theorem dX3_all_11 : decode cX3_all 11 = .ok (.getfield 54, 3) := by decide +kernel
theorem dX3_all_14 : decode cX3_all 14 = .ok (.iconst 5, 1) := by decide +kernel
theorem dX3_all_15 : decode cX3_all 15 = .ok (.iload_n 1, 1) := by decide +kernel
theorem dX3_all_16 : decode cX3_all 16 = .ok (.imul, 1) := by decide +kernel
theorem dX3_all_17 : decode cX3_all 17 = .ok (.iload_n 3, 1) := by decide +kernel
theorem dX3_all_18 : decode cX3_all 18 = .ok (.iadd, 1) := by decide +kernel
theorem dX3_all_19 : decode cX3_all 19 = .ok (.iaload, 1) := by decide +kernel
theorem dX3_all_20 : decode cX3_all 20 = .ok (.iadd, 1) := by decide +kernel
theorem dX3_all_21 : decode cX3_all 21 = .ok (.istore_n 2, 1) := by decide +kernel
theorem dX3_all_22 : decode cX3_all 22 = .ok (.iinc 3 1, 3) := by decide +kernel
theorem dX3_all_25 : decode cX3_all 25 = .ok (.goto (-21), 3) := by decide +kernel
theorem dX3_all_28 : decode cX3_all 28 = .ok (.iload_n 2, 1) := by decide +kernel
theorem dX3_all_29 : decode cX3_all 29 = .ok (.ireturn, 1) := by decide +kernel
set_option maxRecDepth 20000 in
theorem ggX3_drive_X3_isCask : GoodIn wsX3_drive wsX3_isCask := goodIn_r _ [12, 13, 14, 15, 11, 16, 32, 33, 34, 35, 36, 37, 38, 39, 40, 41, 42, 43, 44, 45, 46, 47, 48, 49, 50, 51, 52, 53, 54, 55, 56] (by decide +kernel) (by decide +kernel)
set_option maxRecDepth 20000 in
theorem gX3_drive_X3_isCask : GoodIn wsX3_drive (wsV RX3 116 RX3 yX3_isCask wsX3_isCask) := goodIn_app (goodIn_of _ (by decide +kernel)) ggX3_drive_X3_isCask
set_option maxRecDepth 20000 in
theorem ggX3_drive_X3_hoopsOf : GoodIn wsX3_drive wsX3_hoopsOf := goodIn_r _ [20, 21, 22, 23, 32, 33, 34, 35, 36, 37, 38, 39, 40, 41, 42, 43, 44, 45, 46, 47, 48, 49, 50, 51, 52, 53, 54, 55, 56] (by decide +kernel) (by decide +kernel)
set_option maxRecDepth 20000 in
theorem gX3_drive_X3_hoopsOf : GoodIn wsX3_drive (wsV RX3 113 RX3 yX3_hoopsOf wsX3_hoopsOf) := goodIn_app (goodIn_of _ (by decide +kernel)) ggX3_drive_X3_hoopsOf
set_option maxRecDepth 20000 in
theorem ggX3_drive_X3_isIn : GoodIn wsX3_drive wsX3_isIn := goodIn_r _ [16] (by decide +kernel) (by decide +kernel)
set_option maxRecDepth 20000 in
theorem gX3_drive_X3_isIn : GoodIn wsX3_drive (va_wsS RX3 70 yX3_isIn wsX3_isIn) := goodIn_app (goodIn_of _ (by decide +kernel)) ggX3_drive_X3_isIn
set_option maxRecDepth 20000 in
theorem ggX3_drive_X3_no : GoodIn wsX3_drive wsX3_no := goodIn_r _ [27, 1, 32, 33, 34, 35, 36, 37, 38, 39, 40, 41, 42, 43, 44, 45, 46, 47, 48, 49, 50, 51, 52, 53, 54, 55, 56] (by decide +kernel) (by decide +kernel)
set_option maxRecDepth 20000 in
theorem gX3_drive_X3_no : GoodIn wsX3_drive (wsV RX3 74 RX3 yX3_no wsX3_no) := goodIn_app (goodIn_of _ (by decide +kernel)) ggX3_drive_X3_no
set_option maxRecDepth 20000 in
theorem ggX3_drive_X3_tensions : GoodIn wsX3_drive wsX3_tensions := goodIn_r _ [31, 2, 17, 18, 19, 11, 20, 21, 22, 23, 32, 33, 34, 35, 36, 37, 38, 39, 40, 41, 42, 43, 44, 45, 46, 47, 48, 49, 50, 51, 52, 53, 54, 55, 56] (by decide +kernel) (by decide +kernel)
set_option maxRecDepth 20000 in
theorem gX3_drive_X3_tensions : GoodIn wsX3_drive (wsV RX3 119 RX3 yX3_tensions wsX3_tensions) := goodIn_app (goodIn_of _ (by decide +kernel)) ggX3_drive_X3_tensions
theorem dX3_drive_0 : decode cX3_drive 0 = .ok (.aload_n 0, 1) := by decide +kernel
theorem dX3_drive_1 : decode cX3_drive 1 = .ok (.iconst 0, 1) := by decide +kernel
theorem dX3_drive_2 : decode cX3_drive 2 = .ok (.putfield 67, 3) := by decide +kernel
theorem dX3_drive_5 : decode cX3_drive 5 = .ok (.aload_n 0, 1) := by decide +kernel
theorem dX3_drive_6 : decode cX3_drive 6 = .ok (.iload_n 1, 1) := by decide +kernel
theorem dX3_drive_7 : decode cX3_drive 7 = .ok (.invokevirtual 116, 3) := by decide +kernel
theorem dX3_drive_10 : decode cX3_drive 10 = .ok (.ifCond .eq 18, 3) := by decide +kernel
theorem dX3_drive_13 : decode cX3_drive 13 = .ok (.iload_n 2, 1) := by decide +kernel
theorem dX3_drive_14 : decode cX3_drive 14 = .ok (.iconst 0, 1) := by decide +kernel
theorem dX3_drive_15 : decode cX3_drive 15 = .ok (.aload_n 0, 1) := by decide +kernel
theorem dX3_drive_16 : decode cX3_drive 16 = .ok (.iload_n 1, 1) := by decide +kernel
theorem dX3_drive_17 : decode cX3_drive 17 = .ok (.invokevirtual 113, 3) := by decide +kernel
theorem dX3_drive_20 : decode cX3_drive 20 = .ok (.iconst 1, 1) := by decide +kernel
theorem dX3_drive_21 : decode cX3_drive 21 = .ok (.isub, 1) := by decide +kernel
theorem dX3_drive_22 : decode cX3_drive 22 = .ok (.invokestatic 70, 3) := by decide +kernel
theorem dX3_drive_25 : decode cX3_drive 25 = .ok (.ifCond .ne 9, 3) := by decide +kernel
theorem dX3_drive_28 : decode cX3_drive 28 = .ok (.aload_n 0, 1) := by decide +kernel
theorem dX3_drive_29 : decode cX3_drive 29 = .ok (.iconst 1, 1) := by decide +kernel
theorem dX3_drive_30 : decode cX3_drive 30 = .ok (.invokevirtual 74, 3) := by decide +kernel
theorem dX3_drive_33 : decode cX3_drive 33 = .ok (.ireturn, 1) := by decide +kernel
theorem dX3_drive_34 : decode cX3_drive 34 = .ok (.iload_n 3, 1) := by decide +kernel
theorem dX3_drive_35 : decode cX3_drive 35 = .ok (.iconst 1, 1) := by decide +kernel
theorem dX3_drive_36 : decode cX3_drive 36 = .ok (.bipush 9, 2) := by decide +kernel
theorem dX3_drive_38 : decode cX3_drive 38 = .ok (.invokestatic 70, 3) := by decide +kernel
theorem dX3_drive_41 : decode cX3_drive 41 = .ok (.ifCond .ne 9, 3) := by decide +kernel
theorem dX3_drive_44 : decode cX3_drive 44 = .ok (.aload_n 0, 1) := by decide +kernel
theorem dX3_drive_45 : decode cX3_drive 45 = .ok (.iconst 2, 1) := by decide +kernel
theorem dX3_drive_46 : decode cX3_drive 46 = .ok (.invokevirtual 74, 3) := by decide +kernel
theorem dX3_drive_49 : decode cX3_drive 49 = .ok (.ireturn, 1) := by decide +kernel
theorem dX3_drive_50 : decode cX3_drive 50 = .ok (.bipush 8, 2) := by decide +kernel
theorem dX3_drive_52 : decode cX3_drive 52 = .ok (.iload_n 1, 1) := by decide +kernel
theorem dX3_drive_53 : decode cX3_drive 53 = .ok (.imul, 1) := by decide +kernel
theorem dX3_drive_54 : decode cX3_drive 54 = .ok (.iload_n 2, 1) := by decide +kernel
theorem dX3_drive_55 : decode cX3_drive 55 = .ok (.iadd, 1) := by decide +kernel
theorem dX3_drive_56 : decode cX3_drive 56 = .ok (.istore 4, 2) := by decide +kernel
theorem dX3_drive_58 : decode cX3_drive 58 = .ok (.aload_n 0, 1) := by decide +kernel
theorem dX3_drive_59 : decode cX3_drive 59 = .ok (.getfield 42, 3) := by decide +kernel
theorem dX3_drive_62 : decode cX3_drive 62 = .ok (.iload 4, 2) := by decide +kernel
theorem dX3_drive_64 : decode cX3_drive 64 = .ok (.bipush 9, 2) := by decide +kernel
theorem dX3_drive_66 : decode cX3_drive 66 = .ok (.aload_n 0, 1) := by decide +kernel
theorem dX3_drive_67 : decode cX3_drive 67 = .ok (.getfield 42, 3) := by decide +kernel
theorem dX3_drive_70 : decode cX3_drive 70 = .ok (.iload 4, 2) := by decide +kernel
theorem dX3_drive_72 : decode cX3_drive 72 = .ok (.iaload, 1) := by decide +kernel
theorem dX3_drive_73 : decode cX3_drive 73 = .ok (.iload_n 3, 1) := by decide +kernel
theorem dX3_drive_74 : decode cX3_drive 74 = .ok (.iadd, 1) := by decide +kernel
theorem dX3_drive_75 : decode cX3_drive 75 = .ok (.invokestatic 96, 3) := by decide +kernel
theorem dX3_drive_78 : decode cX3_drive 78 = .ok (.iastore, 1) := by decide +kernel
theorem dX3_drive_79 : decode cX3_drive 79 = .ok (.aload_n 0, 1) := by decide +kernel
theorem dX3_drive_80 : decode cX3_drive 80 = .ok (.iload_n 1, 1) := by decide +kernel
theorem dX3_drive_81 : decode cX3_drive 81 = .ok (.invokevirtual 119, 3) := by decide +kernel
theorem dX3_drive_84 : decode cX3_drive 84 = .ok (.iconst 5, 1) := by decide +kernel
theorem dX3_drive_85 : decode cX3_drive 85 = .ok (.aload_n 0, 1) := by decide +kernel
theorem dX3_drive_86 : decode cX3_drive 86 = .ok (.iload_n 1, 1) := by decide +kernel
theorem dX3_drive_87 : decode cX3_drive 87 = .ok (.invokevirtual 113, 3) := by decide +kernel
theorem dX3_drive_90 : decode cX3_drive 90 = .ok (.imul, 1) := by decide +kernel
theorem dX3_drive_91 : decode cX3_drive 91 = .ok (.if_icmp .le 13, 3) := by decide +kernel
theorem dX3_drive_94 : decode cX3_drive 94 = .ok (.aload_n 0, 1) := by decide +kernel
theorem dX3_drive_95 : decode cX3_drive 95 = .ok (.getfield 39, 3) := by decide +kernel
theorem dX3_drive_98 : decode cX3_drive 98 = .ok (.iload_n 1, 1) := by decide +kernel
theorem dX3_drive_99 : decode cX3_drive 99 = .ok (.dup2, 1) := by decide +kernel
theorem dX3_drive_100 : decode cX3_drive 100 = .ok (.iaload, 1) := by decide +kernel
theorem dX3_drive_101 : decode cX3_drive 101 = .ok (.iconst 1, 1) := by decide +kernel
theorem dX3_drive_102 : decode cX3_drive 102 = .ok (.iadd, 1) := by decide +kernel
theorem dX3_drive_103 : decode cX3_drive 103 = .ok (.iastore, 1) := by decide +kernel
theorem dX3_drive_104 : decode cX3_drive 104 = .ok (.aload_n 0, 1) := by decide +kernel
theorem dX3_drive_105 : decode cX3_drive 105 = .ok (.getfield 42, 3) := by decide +kernel
theorem dX3_drive_108 : decode cX3_drive 108 = .ok (.iload 4, 2) := by decide +kernel
theorem dX3_drive_110 : decode cX3_drive 110 = .ok (.iaload, 1) := by decide +kernel
theorem dX3_drive_111 : decode cX3_drive 111 = .ok (.ireturn, 1) := by decide +kernel
theorem dX3_lastStave_0 : decode cX3_lastStave 0 = .ok (.iconst (-1), 1) := by decide +kernel
theorem dX3_lastStave_1 : decode cX3_lastStave 1 = .ok (.istore_n 2, 1) := by decide +kernel
theorem dX3_lastStave_2 : decode cX3_lastStave 2 = .ok (.iconst 0, 1) := by decide +kernel
theorem dX3_lastStave_3 : decode cX3_lastStave 3 = .ok (.istore_n 3, 1) := by decide +kernel
theorem dX3_lastStave_4 : decode cX3_lastStave 4 = .ok (.iload_n 3, 1) := by decide +kernel
theorem dX3_lastStave_5 : decode cX3_lastStave 5 = .ok (.aload_n 0, 1) := by decide +kernel
theorem dX3_lastStave_6 : decode cX3_lastStave 6 = .ok (.getfield 78, 3) := by decide +kernel
theorem dX3_lastStave_9 : decode cX3_lastStave 9 = .ok (.if_icmp .ge 25, 3) := by decide +kernel
theorem dX3_lastStave_12 : decode cX3_lastStave 12 = .ok (.aload_n 0, 1) := by decide +kernel
theorem dX3_lastStave_13 : decode cX3_lastStave 13 = .ok (.getfield 20, 3) := by decide +kernel
theorem dX3_lastStave_16 : decode cX3_lastStave 16 = .ok (.iload_n 3, 1) := by decide +kernel
theorem dX3_lastStave_17 : decode cX3_lastStave 17 = .ok (.iaload, 1) := by decide +kernel
theorem dX3_lastStave_18 : decode cX3_lastStave 18 = .ok (.iload_n 1, 1) := by decide +kernel
theorem dX3_lastStave_19 : decode cX3_lastStave 19 = .ok (.if_icmp .ne 7, 3) := by decide +kernel
theorem dX3_lastStave_22 : decode cX3_lastStave 22 = .ok (.iload_n 3, 1) := by decide +kernel
theorem dX3_lastStave_23 : decode cX3_lastStave 23 = .ok (.goto 4, 3) := by decide +kernel
theorem dX3_lastStave_26 : decode cX3_lastStave 26 = .ok (.iload_n 2, 1) := by decide +kernel
theorem dX3_lastStave_27 : decode cX3_lastStave 27 = .ok (.istore_n 2, 1) := by decide +kernel
theorem dX3_lastStave_28 : decode cX3_lastStave 28 = .ok (.iinc 3 1, 3) := by decide +kernel
theorem dX3_lastStave_31 : decode cX3_lastStave 31 = .ok (.goto (-27), 3) := by decide +kernel
theorem dX3_lastStave_34 : decode cX3_lastStave 34 = .ok (.iload_n 2, 1) := by decide +kernel
theorem dX3_lastStave_35 : decode cX3_lastStave 35 = .ok (.ireturn, 1) := by decide +kernel
set_option maxRecDepth 20000 in
theorem ggX3_mend_X3_isCask : GoodIn wsX3_mend wsX3_isCask := goodIn_r _ [11, 12, 13, 14, 10, 15, 34, 35, 36, 37, 38, 39, 40, 41, 42, 43, 44, 45, 46, 47, 48, 49, 50, 51, 52, 53, 54, 55, 56, 57, 58] (by decide +kernel) (by decide +kernel)
set_option maxRecDepth 20000 in
theorem gX3_mend_X3_isCask : GoodIn wsX3_mend (wsV RX3 116 RX3 yX3_isCask wsX3_isCask) := goodIn_app (goodIn_of _ (by decide +kernel)) ggX3_mend_X3_isCask
set_option maxRecDepth 20000 in
theorem ggX3_mend_X3_isStave : GoodIn wsX3_mend wsX3_isStave := goodIn_r _ [19, 20, 13, 14, 10, 15, 34, 35, 36, 37, 38, 39, 40, 41, 42, 43, 44, 45, 46, 47, 48, 49, 50, 51, 52, 53, 54, 55, 56, 57, 58] (by decide +kernel) (by decide +kernel)
set_option maxRecDepth 20000 in
theorem gX3_mend_X3_isStave : GoodIn wsX3_mend (wsV RX3 81 RX3 yX3_isStave wsX3_isStave) := goodIn_app (goodIn_of _ (by decide +kernel)) ggX3_mend_X3_isStave
set_option maxRecDepth 20000 in
theorem ggX3_mend_X3_no : GoodIn wsX3_mend wsX3_no := goodIn_r _ [24, 1, 34, 35, 36, 37, 38, 39, 40, 41, 42, 43, 44, 45, 46, 47, 48, 49, 50, 51, 52, 53, 54, 55, 56, 57, 58] (by decide +kernel) (by decide +kernel)
set_option maxRecDepth 20000 in
theorem gX3_mend_X3_no : GoodIn wsX3_mend (wsV RX3 74 RX3 yX3_no wsX3_no) := goodIn_app (goodIn_of _ (by decide +kernel)) ggX3_mend_X3_no
set_option maxRecDepth 20000 in
theorem ggX3_mend_X3_all : GoodIn wsX3_mend wsX3_all := goodIn_r _ [28, 29, 34, 35, 36, 37, 38, 39, 40, 41, 42, 43, 44, 45, 46, 47, 48, 49, 50, 51, 52, 53, 54, 55, 56, 57, 58] (by decide +kernel) (by decide +kernel)
set_option maxRecDepth 20000 in
theorem gX3_mend_X3_all : GoodIn wsX3_mend (wsV RX3 122 RX3 yX3_all wsX3_all) := goodIn_app (goodIn_of _ (by decide +kernel)) ggX3_mend_X3_all
set_option maxRecDepth 20000 in
theorem ggX3_mend_X3_lastStave : GoodIn wsX3_mend wsX3_lastStave := goodIn_r _ [33, 20, 3, 34, 35, 36, 37, 38, 39, 40, 41, 42, 43, 44, 45, 46, 47, 48, 49, 50, 51, 52, 53, 54, 55, 56, 57, 58] (by decide +kernel) (by decide +kernel)
set_option maxRecDepth 20000 in
theorem gX3_mend_X3_lastStave : GoodIn wsX3_mend (wsV RX3 125 RX3 yX3_lastStave wsX3_lastStave) := goodIn_app (goodIn_of _ (by decide +kernel)) ggX3_mend_X3_lastStave
theorem dX3_mend_0 : decode cX3_mend 0 = .ok (.aload_n 0, 1) := by decide +kernel
theorem dX3_mend_1 : decode cX3_mend 1 = .ok (.iconst 0, 1) := by decide +kernel
theorem dX3_mend_2 : decode cX3_mend 2 = .ok (.putfield 67, 3) := by decide +kernel
theorem dX3_mend_5 : decode cX3_mend 5 = .ok (.aload_n 0, 1) := by decide +kernel
theorem dX3_mend_6 : decode cX3_mend 6 = .ok (.iload_n 1, 1) := by decide +kernel
theorem dX3_mend_7 : decode cX3_mend 7 = .ok (.invokevirtual 116, 3) := by decide +kernel
theorem dX3_mend_10 : decode cX3_mend 10 = .ok (.ifCond .eq 11, 3) := by decide +kernel
theorem dX3_mend_13 : decode cX3_mend 13 = .ok (.aload_n 0, 1) := by decide +kernel
theorem dX3_mend_14 : decode cX3_mend 14 = .ok (.iload_n 2, 1) := by decide +kernel
theorem dX3_mend_15 : decode cX3_mend 15 = .ok (.invokevirtual 81, 3) := by decide +kernel
theorem dX3_mend_18 : decode cX3_mend 18 = .ok (.ifCond .ne 9, 3) := by decide +kernel
theorem dX3_mend_21 : decode cX3_mend 21 = .ok (.aload_n 0, 1) := by decide +kernel
theorem dX3_mend_22 : decode cX3_mend 22 = .ok (.iconst 1, 1) := by decide +kernel
theorem dX3_mend_23 : decode cX3_mend 23 = .ok (.invokevirtual 74, 3) := by decide +kernel
theorem dX3_mend_26 : decode cX3_mend 26 = .ok (.ireturn, 1) := by decide +kernel
theorem dX3_mend_27 : decode cX3_mend 27 = .ok (.aload_n 0, 1) := by decide +kernel
theorem dX3_mend_28 : decode cX3_mend 28 = .ok (.getfield 35, 3) := by decide +kernel
theorem dX3_mend_31 : decode cX3_mend 31 = .ok (.iload_n 1, 1) := by decide +kernel
theorem dX3_mend_32 : decode cX3_mend 32 = .ok (.baload, 1) := by decide +kernel
theorem dX3_mend_33 : decode cX3_mend 33 = .ok (.ifCond .eq 40, 3) := by decide +kernel
theorem dX3_mend_36 : decode cX3_mend 36 = .ok (.aload_n 0, 1) := by decide +kernel
theorem dX3_mend_37 : decode cX3_mend 37 = .ok (.iload_n 1, 1) := by decide +kernel
theorem dX3_mend_38 : decode cX3_mend 38 = .ok (.invokevirtual 122, 3) := by decide +kernel
theorem dX3_mend_41 : decode cX3_mend 41 = .ok (.ifCond .gt 32, 3) := by decide +kernel
theorem dX3_mend_44 : decode cX3_mend 44 = .ok (.aload_n 0, 1) := by decide +kernel
theorem dX3_mend_45 : decode cX3_mend 45 = .ok (.getfield 20, 3) := by decide +kernel
theorem dX3_mend_48 : decode cX3_mend 48 = .ok (.iload_n 2, 1) := by decide +kernel
theorem dX3_mend_49 : decode cX3_mend 49 = .ok (.iaload, 1) := by decide +kernel
theorem dX3_mend_50 : decode cX3_mend 50 = .ok (.iconst (-1), 1) := by decide +kernel
theorem dX3_mend_51 : decode cX3_mend 51 = .ok (.if_icmp .ne 22, 3) := by decide +kernel
theorem dX3_mend_54 : decode cX3_mend 54 = .ok (.aload_n 0, 1) := by decide +kernel
theorem dX3_mend_55 : decode cX3_mend 55 = .ok (.getfield 13, 3) := by decide +kernel
theorem dX3_mend_58 : decode cX3_mend 58 = .ok (.iload_n 2, 1) := by decide +kernel
theorem dX3_mend_59 : decode cX3_mend 59 = .ok (.iaload, 1) := by decide +kernel
theorem dX3_mend_60 : decode cX3_mend 60 = .ok (.aload_n 0, 1) := by decide +kernel
theorem dX3_mend_61 : decode cX3_mend 61 = .ok (.getfield 13, 3) := by decide +kernel
theorem dX3_mend_64 : decode cX3_mend 64 = .ok (.aload_n 0, 1) := by decide +kernel
theorem dX3_mend_65 : decode cX3_mend 65 = .ok (.iload_n 1, 1) := by decide +kernel
theorem dX3_mend_66 : decode cX3_mend 66 = .ok (.invokevirtual 125, 3) := by decide +kernel
theorem dX3_mend_69 : decode cX3_mend 69 = .ok (.iaload, 1) := by decide +kernel
theorem dX3_mend_70 : decode cX3_mend 70 = .ok (.if_icmp .eq 9, 3) := by decide +kernel
theorem dX3_mend_73 : decode cX3_mend 73 = .ok (.aload_n 0, 1) := by decide +kernel
theorem dX3_mend_74 : decode cX3_mend 74 = .ok (.iconst 2, 1) := by decide +kernel
theorem dX3_mend_75 : decode cX3_mend 75 = .ok (.invokevirtual 74, 3) := by decide +kernel
theorem dX3_mend_78 : decode cX3_mend 78 = .ok (.ireturn, 1) := by decide +kernel
theorem dX3_mend_79 : decode cX3_mend 79 = .ok (.aload_n 0, 1) := by decide +kernel
theorem dX3_mend_80 : decode cX3_mend 80 = .ok (.getfield 20, 3) := by decide +kernel
theorem dX3_mend_83 : decode cX3_mend 83 = .ok (.aload_n 0, 1) := by decide +kernel
theorem dX3_mend_84 : decode cX3_mend 84 = .ok (.iload_n 1, 1) := by decide +kernel
theorem dX3_mend_85 : decode cX3_mend 85 = .ok (.invokevirtual 125, 3) := by decide +kernel
theorem dX3_mend_88 : decode cX3_mend 88 = .ok (.bipush (-2), 2) := by decide +kernel
theorem dX3_mend_90 : decode cX3_mend 90 = .ok (.iastore, 1) := by decide +kernel
theorem dX3_mend_91 : decode cX3_mend 91 = .ok (.aload_n 0, 1) := by decide +kernel
theorem dX3_mend_92 : decode cX3_mend 92 = .ok (.getfield 20, 3) := by decide +kernel
theorem dX3_mend_95 : decode cX3_mend 95 = .ok (.iload_n 2, 1) := by decide +kernel
theorem dX3_mend_96 : decode cX3_mend 96 = .ok (.iload_n 1, 1) := by decide +kernel
theorem dX3_mend_97 : decode cX3_mend 97 = .ok (.iastore, 1) := by decide +kernel
theorem dX3_mend_98 : decode cX3_mend 98 = .ok (.aload_n 0, 1) := by decide +kernel
theorem dX3_mend_99 : decode cX3_mend 99 = .ok (.getfield 39, 3) := by decide +kernel
theorem dX3_mend_102 : decode cX3_mend 102 = .ok (.iload_n 1, 1) := by decide +kernel
theorem dX3_mend_103 : decode cX3_mend 103 = .ok (.iaload, 1) := by decide +kernel
theorem dX3_mend_104 : decode cX3_mend 104 = .ok (.istore_n 3, 1) := by decide +kernel
theorem dX3_mend_105 : decode cX3_mend 105 = .ok (.aload_n 0, 1) := by decide +kernel
theorem dX3_mend_106 : decode cX3_mend 106 = .ok (.getfield 39, 3) := by decide +kernel
theorem dX3_mend_109 : decode cX3_mend 109 = .ok (.iload_n 1, 1) := by decide +kernel
theorem dX3_mend_110 : decode cX3_mend 110 = .ok (.aload_n 0, 1) := by decide +kernel
theorem dX3_mend_111 : decode cX3_mend 111 = .ok (.getfield 17, 3) := by decide +kernel
theorem dX3_mend_114 : decode cX3_mend 114 = .ok (.iload_n 2, 1) := by decide +kernel
theorem dX3_mend_115 : decode cX3_mend 115 = .ok (.iaload, 1) := by decide +kernel
theorem dX3_mend_116 : decode cX3_mend 116 = .ok (.bipush 70, 2) := by decide +kernel
theorem dX3_mend_118 : decode cX3_mend 118 = .ok (.if_icmp .ge 7, 3) := by decide +kernel
theorem dX3_mend_121 : decode cX3_mend 121 = .ok (.iconst 1, 1) := by decide +kernel
theorem dX3_mend_122 : decode cX3_mend 122 = .ok (.goto 4, 3) := by decide +kernel
theorem dX3_mend_125 : decode cX3_mend 125 = .ok (.iconst 0, 1) := by decide +kernel
theorem dX3_mend_126 : decode cX3_mend 126 = .ok (.iastore, 1) := by decide +kernel
theorem dX3_mend_127 : decode cX3_mend 127 = .ok (.iload_n 3, 1) := by decide +kernel
theorem dX3_mend_128 : decode cX3_mend 128 = .ok (.ireturn, 1) := by decide +kernel
set_option maxRecDepth 20000 in
theorem ggX3_breakUp_X3_isCask : GoodIn wsX3_breakUp wsX3_isCask := goodIn_r _ [16, 17, 18, 19, 15, 20, 29, 30, 31, 32, 33, 34, 35, 36, 37, 38, 39, 40, 41, 42, 43, 44, 45, 46, 47, 48, 49, 50, 51, 52, 53] (by decide +kernel) (by decide +kernel)
set_option maxRecDepth 20000 in
theorem gX3_breakUp_X3_isCask : GoodIn wsX3_breakUp (wsV RX3 116 RX3 yX3_isCask wsX3_isCask) := goodIn_app (goodIn_of _ (by decide +kernel)) ggX3_breakUp_X3_isCask
set_option maxRecDepth 20000 in
theorem ggX3_breakUp_X3_no : GoodIn wsX3_breakUp wsX3_no := goodIn_r _ [24, 1, 29, 30, 31, 32, 33, 34, 35, 36, 37, 38, 39, 40, 41, 42, 43, 44, 45, 46, 47, 48, 49, 50, 51, 52, 53] (by decide +kernel) (by decide +kernel)
set_option maxRecDepth 20000 in
theorem gX3_breakUp_X3_no : GoodIn wsX3_breakUp (wsV RX3 74 RX3 yX3_no wsX3_no) := goodIn_app (goodIn_of _ (by decide +kernel)) ggX3_breakUp_X3_no
set_option maxRecDepth 20000 in
theorem ggX3_breakUp_X3_all : GoodIn wsX3_breakUp wsX3_all := goodIn_r _ [28, 3, 29, 30, 31, 32, 33, 34, 35, 36, 37, 38, 39, 40, 41, 42, 43, 44, 45, 46, 47, 48, 49, 50, 51, 52, 53] (by decide +kernel) (by decide +kernel)
set_option maxRecDepth 20000 in
theorem gX3_breakUp_X3_all : GoodIn wsX3_breakUp (wsV RX3 122 RX3 yX3_all wsX3_all) := goodIn_app (goodIn_of _ (by decide +kernel)) ggX3_breakUp_X3_all
theorem dX3_breakUp_0 : decode cX3_breakUp 0 = .ok (.aload_n 0, 1) := by decide +kernel
theorem dX3_breakUp_1 : decode cX3_breakUp 1 = .ok (.iconst 0, 1) := by decide +kernel
theorem dX3_breakUp_2 : decode cX3_breakUp 2 = .ok (.putfield 67, 3) := by decide +kernel
theorem dX3_breakUp_5 : decode cX3_breakUp 5 = .ok (.aload_n 0, 1) := by decide +kernel
theorem dX3_breakUp_6 : decode cX3_breakUp 6 = .ok (.iload_n 1, 1) := by decide +kernel
theorem dX3_breakUp_7 : decode cX3_breakUp 7 = .ok (.invokevirtual 116, 3) := by decide +kernel
theorem dX3_breakUp_10 : decode cX3_breakUp 10 = .ok (.ifCond .ne 9, 3) := by decide +kernel
theorem dX3_breakUp_13 : decode cX3_breakUp 13 = .ok (.aload_n 0, 1) := by decide +kernel
theorem dX3_breakUp_14 : decode cX3_breakUp 14 = .ok (.iconst 1, 1) := by decide +kernel
theorem dX3_breakUp_15 : decode cX3_breakUp 15 = .ok (.invokevirtual 74, 3) := by decide +kernel
theorem dX3_breakUp_18 : decode cX3_breakUp 18 = .ok (.ireturn, 1) := by decide +kernel
theorem dX3_breakUp_19 : decode cX3_breakUp 19 = .ok (.aload_n 0, 1) := by decide +kernel
theorem dX3_breakUp_20 : decode cX3_breakUp 20 = .ok (.getfield 35, 3) := by decide +kernel
theorem dX3_breakUp_23 : decode cX3_breakUp 23 = .ok (.iload_n 1, 1) := by decide +kernel
theorem dX3_breakUp_24 : decode cX3_breakUp 24 = .ok (.baload, 1) := by decide +kernel
theorem dX3_breakUp_25 : decode cX3_breakUp 25 = .ok (.ifCond .ne 9, 3) := by decide +kernel
theorem dX3_breakUp_28 : decode cX3_breakUp 28 = .ok (.aload_n 0, 1) := by decide +kernel
theorem dX3_breakUp_29 : decode cX3_breakUp 29 = .ok (.iconst 2, 1) := by decide +kernel
theorem dX3_breakUp_30 : decode cX3_breakUp 30 = .ok (.invokevirtual 74, 3) := by decide +kernel
theorem dX3_breakUp_33 : decode cX3_breakUp 33 = .ok (.ireturn, 1) := by decide +kernel
theorem dX3_breakUp_34 : decode cX3_breakUp 34 = .ok (.aload_n 0, 1) := by decide +kernel
theorem dX3_breakUp_35 : decode cX3_breakUp 35 = .ok (.iload_n 1, 1) := by decide +kernel
theorem dX3_breakUp_36 : decode cX3_breakUp 36 = .ok (.invokevirtual 122, 3) := by decide +kernel
theorem dX3_breakUp_39 : decode cX3_breakUp 39 = .ok (.istore_n 2, 1) := by decide +kernel
theorem dX3_breakUp_40 : decode cX3_breakUp 40 = .ok (.iconst 0, 1) := by decide +kernel
theorem dX3_breakUp_41 : decode cX3_breakUp 41 = .ok (.istore_n 3, 1) := by decide +kernel
theorem dX3_breakUp_42 : decode cX3_breakUp 42 = .ok (.iload_n 3, 1) := by decide +kernel
theorem dX3_breakUp_43 : decode cX3_breakUp 43 = .ok (.iconst 5, 1) := by decide +kernel
theorem dX3_breakUp_44 : decode cX3_breakUp 44 = .ok (.if_icmp .ge 20, 3) := by decide +kernel
theorem dX3_breakUp_47 : decode cX3_breakUp 47 = .ok (.aload_n 0, 1) := by decide +kernel
theorem dX3_breakUp_48 : decode cX3_breakUp 48 = .ok (.getfield 54, 3) := by decide +kernel
theorem dX3_breakUp_51 : decode cX3_breakUp 51 = .ok (.iconst 5, 1) := by decide +kernel
theorem dX3_breakUp_52 : decode cX3_breakUp 52 = .ok (.iload_n 1, 1) := by decide +kernel
theorem dX3_breakUp_53 : decode cX3_breakUp 53 = .ok (.imul, 1) := by decide +kernel
theorem dX3_breakUp_54 : decode cX3_breakUp 54 = .ok (.iload_n 3, 1) := by decide +kernel
theorem dX3_breakUp_55 : decode cX3_breakUp 55 = .ok (.iadd, 1) := by decide +kernel
theorem dX3_breakUp_56 : decode cX3_breakUp 56 = .ok (.iconst 0, 1) := by decide +kernel
theorem dX3_breakUp_57 : decode cX3_breakUp 57 = .ok (.iastore, 1) := by decide +kernel
theorem dX3_breakUp_58 : decode cX3_breakUp 58 = .ok (.iinc 3 1, 3) := by decide +kernel
theorem dX3_breakUp_61 : decode cX3_breakUp 61 = .ok (.goto (-19), 3) := by decide +kernel
theorem dX3_breakUp_64 : decode cX3_breakUp 64 = .ok (.aload_n 0, 1) := by decide +kernel
theorem dX3_breakUp_65 : decode cX3_breakUp 65 = .ok (.getfield 57, 3) := by decide +kernel
theorem dX3_breakUp_68 : decode cX3_breakUp 68 = .ok (.iload_n 1, 1) := by decide +kernel
theorem dX3_breakUp_69 : decode cX3_breakUp 69 = .ok (.iconst 0, 1) := by decide +kernel
theorem dX3_breakUp_70 : decode cX3_breakUp 70 = .ok (.iastore, 1) := by decide +kernel
theorem dX3_breakUp_71 : decode cX3_breakUp 71 = .ok (.iconst 1, 1) := by decide +kernel
theorem dX3_breakUp_72 : decode cX3_breakUp 72 = .ok (.istore_n 3, 1) := by decide +kernel
theorem dX3_breakUp_73 : decode cX3_breakUp 73 = .ok (.iconst 0, 1) := by decide +kernel
theorem dX3_breakUp_74 : decode cX3_breakUp 74 = .ok (.istore 4, 2) := by decide +kernel
theorem dX3_breakUp_76 : decode cX3_breakUp 76 = .ok (.iload 4, 2) := by decide +kernel
theorem dX3_breakUp_78 : decode cX3_breakUp 78 = .ok (.aload_n 0, 1) := by decide +kernel
theorem dX3_breakUp_79 : decode cX3_breakUp 79 = .ok (.getfield 78, 3) := by decide +kernel
theorem dX3_breakUp_82 : decode cX3_breakUp 82 = .ok (.if_icmp .ge 63, 3) := by decide +kernel
theorem dX3_breakUp_85 : decode cX3_breakUp 85 = .ok (.aload_n 0, 1) := by decide +kernel
theorem dX3_breakUp_86 : decode cX3_breakUp 86 = .ok (.getfield 20, 3) := by decide +kernel
theorem dX3_breakUp_89 : decode cX3_breakUp 89 = .ok (.iload 4, 2) := by decide +kernel
theorem dX3_breakUp_91 : decode cX3_breakUp 91 = .ok (.iaload, 1) := by decide +kernel
theorem dX3_breakUp_92 : decode cX3_breakUp 92 = .ok (.iload_n 1, 1) := by decide +kernel
theorem dX3_breakUp_93 : decode cX3_breakUp 93 = .ok (.if_icmp .eq 6, 3) := by decide +kernel
theorem dX3_breakUp_96 : decode cX3_breakUp 96 = .ok (.goto 43, 3) := by decide +kernel
theorem dX3_breakUp_99 : decode cX3_breakUp 99 = .ok (.aload_n 0, 1) := by decide +kernel
theorem dX3_breakUp_100 : decode cX3_breakUp 100 = .ok (.getfield 20, 3) := by decide +kernel
theorem dX3_breakUp_103 : decode cX3_breakUp 103 = .ok (.iload 4, 2) := by decide +kernel
theorem dX3_breakUp_105 : decode cX3_breakUp 105 = .ok (.iload_n 3, 1) := by decide +kernel
theorem dX3_breakUp_106 : decode cX3_breakUp 106 = .ok (.ifCond .eq 8, 3) := by decide +kernel
theorem dX3_breakUp_109 : decode cX3_breakUp 109 = .ok (.bipush (-2), 2) := by decide +kernel
theorem dX3_breakUp_111 : decode cX3_breakUp 111 = .ok (.goto 4, 3) := by decide +kernel
end
section
theorem dX3_breakUp_114 : decode cX3_breakUp 114 = .ok (.iconst (-1), 1) := by decide +kernel
theorem dX3_breakUp_115 : decode cX3_breakUp 115 = .ok (.iastore, 1) := by decide +kernel
theorem dX3_breakUp_116 : decode cX3_breakUp 116 = .ok (.aload_n 0, 1) := by decide +kernel
theorem dX3_breakUp_117 : decode cX3_breakUp 117 = .ok (.getfield 17, 3) := by decide +kernel
theorem dX3_breakUp_120 : decode cX3_breakUp 120 = .ok (.iload 4, 2) := by decide +kernel
theorem dX3_breakUp_122 : decode cX3_breakUp 122 = .ok (.iconst 0, 1) := by decide +kernel
theorem dX3_breakUp_123 : decode cX3_breakUp 123 = .ok (.aload_n 0, 1) := by decide +kernel
theorem dX3_breakUp_124 : decode cX3_breakUp 124 = .ok (.getfield 17, 3) := by decide +kernel
theorem dX3_breakUp_127 : decode cX3_breakUp 127 = .ok (.iload 4, 2) := by decide +kernel
theorem dX3_breakUp_129 : decode cX3_breakUp 129 = .ok (.iaload, 1) := by decide +kernel
theorem dX3_breakUp_130 : decode cX3_breakUp 130 = .ok (.bipush 30, 2) := by decide +kernel
theorem dX3_breakUp_132 : decode cX3_breakUp 132 = .ok (.isub, 1) := by decide +kernel
theorem dX3_breakUp_133 : decode cX3_breakUp 133 = .ok (.invokestatic 128, 3) := by decide +kernel
theorem dX3_breakUp_136 : decode cX3_breakUp 136 = .ok (.iastore, 1) := by decide +kernel
theorem dX3_breakUp_137 : decode cX3_breakUp 137 = .ok (.iconst 0, 1) := by decide +kernel
theorem dX3_breakUp_138 : decode cX3_breakUp 138 = .ok (.istore_n 3, 1) := by decide +kernel
theorem dX3_breakUp_139 : decode cX3_breakUp 139 = .ok (.iinc 4 1, 3) := by decide +kernel
theorem dX3_breakUp_142 : decode cX3_breakUp 142 = .ok (.goto (-66), 3) := by decide +kernel
theorem dX3_breakUp_145 : decode cX3_breakUp 145 = .ok (.aload_n 0, 1) := by decide +kernel
theorem dX3_breakUp_146 : decode cX3_breakUp 146 = .ok (.getfield 35, 3) := by decide +kernel
theorem dX3_breakUp_149 : decode cX3_breakUp 149 = .ok (.iload_n 1, 1) := by decide +kernel
theorem dX3_breakUp_150 : decode cX3_breakUp 150 = .ok (.iconst 0, 1) := by decide +kernel
theorem dX3_breakUp_151 : decode cX3_breakUp 151 = .ok (.bastore, 1) := by decide +kernel
theorem dX3_breakUp_152 : decode cX3_breakUp 152 = .ok (.iload_n 2, 1) := by decide +kernel
theorem dX3_breakUp_153 : decode cX3_breakUp 153 = .ok (.ireturn, 1) := by decide +kernel
theorem dX3_stavesOf_0 : decode cX3_stavesOf 0 = .ok (.iconst 0, 1) := by decide +kernel
theorem dX3_stavesOf_1 : decode cX3_stavesOf 1 = .ok (.istore_n 2, 1) := by decide +kernel
theorem dX3_stavesOf_2 : decode cX3_stavesOf 2 = .ok (.iconst 0, 1) := by decide +kernel
theorem dX3_stavesOf_3 : decode cX3_stavesOf 3 = .ok (.istore_n 3, 1) := by decide +kernel
theorem dX3_stavesOf_4 : decode cX3_stavesOf 4 = .ok (.iload_n 3, 1) := by decide +kernel
theorem dX3_stavesOf_5 : decode cX3_stavesOf 5 = .ok (.aload_n 0, 1) := by decide +kernel
theorem dX3_stavesOf_6 : decode cX3_stavesOf 6 = .ok (.getfield 78, 3) := by decide +kernel
theorem dX3_stavesOf_9 : decode cX3_stavesOf 9 = .ok (.if_icmp .ge 27, 3) := by decide +kernel
theorem dX3_stavesOf_12 : decode cX3_stavesOf 12 = .ok (.iload_n 2, 1) := by decide +kernel
theorem dX3_stavesOf_13 : decode cX3_stavesOf 13 = .ok (.aload_n 0, 1) := by decide +kernel
theorem dX3_stavesOf_14 : decode cX3_stavesOf 14 = .ok (.getfield 20, 3) := by decide +kernel
theorem dX3_stavesOf_17 : decode cX3_stavesOf 17 = .ok (.iload_n 3, 1) := by decide +kernel
theorem dX3_stavesOf_18 : decode cX3_stavesOf 18 = .ok (.iaload, 1) := by decide +kernel
theorem dX3_stavesOf_19 : decode cX3_stavesOf 19 = .ok (.iload_n 1, 1) := by decide +kernel
theorem dX3_stavesOf_20 : decode cX3_stavesOf 20 = .ok (.if_icmp .ne 7, 3) := by decide +kernel
theorem dX3_stavesOf_23 : decode cX3_stavesOf 23 = .ok (.iconst 1, 1) := by decide +kernel
theorem dX3_stavesOf_24 : decode cX3_stavesOf 24 = .ok (.goto 4, 3) := by decide +kernel
theorem dX3_stavesOf_27 : decode cX3_stavesOf 27 = .ok (.iconst 0, 1) := by decide +kernel
theorem dX3_stavesOf_28 : decode cX3_stavesOf 28 = .ok (.iadd, 1) := by decide +kernel
theorem dX3_stavesOf_29 : decode cX3_stavesOf 29 = .ok (.istore_n 2, 1) := by decide +kernel
theorem dX3_stavesOf_30 : decode cX3_stavesOf 30 = .ok (.iinc 3 1, 3) := by decide +kernel
theorem dX3_stavesOf_33 : decode cX3_stavesOf 33 = .ok (.goto (-29), 3) := by decide +kernel
theorem dX3_stavesOf_36 : decode cX3_stavesOf 36 = .ok (.iload_n 2, 1) := by decide +kernel
theorem dX3_stavesOf_37 : decode cX3_stavesOf 37 = .ok (.ireturn, 1) := by decide +kernel
set_option maxRecDepth 20000 in
theorem ggX3_leak_X3_tensions : GoodIn wsX3_leak wsX3_tensions := goodIn_r _ [11, 12, 13, 14, 15, 10, 16, 17, 18, 19, 20, 21, 22, 23, 24, 25, 26, 27, 28, 29, 30, 31, 32, 33, 34, 35, 36, 37, 38, 39, 40, 41, 42, 43, 44] (by decide +kernel) (by decide +kernel)
set_option maxRecDepth 20000 in
theorem gX3_leak_X3_tensions : GoodIn wsX3_leak (wsV RX3 119 RX3 yX3_tensions wsX3_tensions) := goodIn_app (goodIn_of _ (by decide +kernel)) ggX3_leak_X3_tensions
theorem dX3_leak_0 : decode cX3_leak 0 = .ok (.iconst 0, 1) := by decide +kernel
theorem dX3_leak_1 : decode cX3_leak 1 = .ok (.bipush 30, 2) := by decide +kernel
theorem dX3_leak_3 : decode cX3_leak 3 = .ok (.bipush 10, 2) := by decide +kernel
theorem dX3_leak_5 : decode cX3_leak 5 = .ok (.aload_n 0, 1) := by decide +kernel
theorem dX3_leak_6 : decode cX3_leak 6 = .ok (.getfield 39, 3) := by decide +kernel
theorem dX3_leak_9 : decode cX3_leak 9 = .ok (.iload_n 1, 1) := by decide +kernel
theorem dX3_leak_10 : decode cX3_leak 10 = .ok (.iaload, 1) := by decide +kernel
theorem dX3_leak_11 : decode cX3_leak 11 = .ok (.imul, 1) := by decide +kernel
theorem dX3_leak_12 : decode cX3_leak 12 = .ok (.iadd, 1) := by decide +kernel
theorem dX3_leak_13 : decode cX3_leak 13 = .ok (.iconst 2, 1) := by decide +kernel
theorem dX3_leak_14 : decode cX3_leak 14 = .ok (.aload_n 0, 1) := by decide +kernel
theorem dX3_leak_15 : decode cX3_leak 15 = .ok (.iload_n 1, 1) := by decide +kernel
theorem dX3_leak_16 : decode cX3_leak 16 = .ok (.invokevirtual 119, 3) := by decide +kernel
theorem dX3_leak_19 : decode cX3_leak 19 = .ok (.imul, 1) := by decide +kernel
theorem dX3_leak_20 : decode cX3_leak 20 = .ok (.isub, 1) := by decide +kernel
theorem dX3_leak_21 : decode cX3_leak 21 = .ok (.aload_n 0, 1) := by decide +kernel
theorem dX3_leak_22 : decode cX3_leak 22 = .ok (.getfield 45, 3) := by decide +kernel
theorem dX3_leak_25 : decode cX3_leak 25 = .ok (.iload_n 1, 1) := by decide +kernel
theorem dX3_leak_26 : decode cX3_leak 26 = .ok (.iaload, 1) := by decide +kernel
theorem dX3_leak_27 : decode cX3_leak 27 = .ok (.isub, 1) := by decide +kernel
theorem dX3_leak_28 : decode cX3_leak 28 = .ok (.invokestatic 128, 3) := by decide +kernel
theorem dX3_leak_31 : decode cX3_leak 31 = .ok (.ireturn, 1) := by decide +kernel
set_option maxRecDepth 20000 in
theorem ggX3_caskTold_X3_leak : GoodIn wsX3_caskTold wsX3_leak := goodIn_r _ [14, 6, 7, 15, 16, 17, 18, 19, 20, 21, 13, 22, 23, 24, 25, 26, 27, 2, 28, 1, 39, 40, 41, 42, 43, 44, 45, 46, 47, 48, 49, 50, 51, 52, 53, 54, 55, 56, 57, 58, 59, 60, 61, 62, 63] (by decide +kernel) (by decide +kernel)
set_option maxRecDepth 20000 in
theorem gX3_caskTold_X3_leak : GoodIn wsX3_caskTold (wsV RX3 131 RX3 yX3_leak wsX3_leak) := goodIn_app (goodIn_of _ (by decide +kernel)) ggX3_caskTold_X3_leak
set_option maxRecDepth 20000 in
theorem ggX3_caskTold_X3_stavesOf : GoodIn wsX3_caskTold wsX3_stavesOf := goodIn_r _ [32, 33, 34, 39, 40, 41, 42, 43, 44, 45, 46, 47, 48, 49, 50, 51, 52, 53, 54, 55, 56, 57, 58, 59, 60, 61, 62, 63] (by decide +kernel) (by decide +kernel)
set_option maxRecDepth 20000 in
theorem gX3_caskTold_X3_stavesOf : GoodIn wsX3_caskTold (wsV RX3 134 RX3 yX3_stavesOf wsX3_stavesOf) := goodIn_app (goodIn_of _ (by decide +kernel)) ggX3_caskTold_X3_stavesOf
set_option maxRecDepth 20000 in
theorem ggX3_caskTold_X3_tensions : GoodIn wsX3_caskTold wsX3_tensions := goodIn_r _ [22, 23, 24, 25, 26, 13, 27, 2, 28, 1, 39, 40, 41, 42, 43, 44, 45, 46, 47, 48, 49, 50, 51, 52, 53, 54, 55, 56, 57, 58, 59, 60, 61, 62, 63] (by decide +kernel) (by decide +kernel)
set_option maxRecDepth 20000 in
theorem gX3_caskTold_X3_tensions : GoodIn wsX3_caskTold (wsV RX3 119 RX3 yX3_tensions wsX3_tensions) := goodIn_app (goodIn_of _ (by decide +kernel)) ggX3_caskTold_X3_tensions
set_option maxRecDepth 20000 in
theorem ggX3_caskTold_X3_all : GoodIn wsX3_caskTold wsX3_all := goodIn_r _ [38, 3, 39, 40, 41, 42, 43, 44, 45, 46, 47, 48, 49, 50, 51, 52, 53, 54, 55, 56, 57, 58, 59, 60, 61, 62, 63] (by decide +kernel) (by decide +kernel)
set_option maxRecDepth 20000 in
theorem gX3_caskTold_X3_all : GoodIn wsX3_caskTold (wsV RX3 122 RX3 yX3_all wsX3_all) := goodIn_app (goodIn_of _ (by decide +kernel)) ggX3_caskTold_X3_all
theorem dX3_caskTold_0 : decode cX3_caskTold 0 = .ok (.iload_n 2, 1) := by decide +kernel
theorem dX3_caskTold_1 : decode cX3_caskTold 1 = .ok (.ifCond .ne 10, 3) := by decide +kernel
theorem dX3_caskTold_4 : decode cX3_caskTold 4 = .ok (.aload_n 0, 1) := by decide +kernel
theorem dX3_caskTold_5 : decode cX3_caskTold 5 = .ok (.getfield 32, 3) := by decide +kernel
theorem dX3_caskTold_8 : decode cX3_caskTold 8 = .ok (.iload_n 1, 1) := by decide +kernel
theorem dX3_caskTold_9 : decode cX3_caskTold 9 = .ok (.iaload, 1) := by decide +kernel
theorem dX3_caskTold_10 : decode cX3_caskTold 10 = .ok (.ireturn, 1) := by decide +kernel
theorem dX3_caskTold_11 : decode cX3_caskTold 11 = .ok (.iload_n 2, 1) := by decide +kernel
theorem dX3_caskTold_12 : decode cX3_caskTold 12 = .ok (.bipush 15, 2) := by decide +kernel
theorem dX3_caskTold_14 : decode cX3_caskTold 14 = .ok (.if_icmp .eq 12, 3) := by decide +kernel
theorem dX3_caskTold_17 : decode cX3_caskTold 17 = .ok (.aload_n 0, 1) := by decide +kernel
theorem dX3_caskTold_18 : decode cX3_caskTold 18 = .ok (.getfield 35, 3) := by decide +kernel
theorem dX3_caskTold_21 : decode cX3_caskTold 21 = .ok (.iload_n 1, 1) := by decide +kernel
theorem dX3_caskTold_22 : decode cX3_caskTold 22 = .ok (.baload, 1) := by decide +kernel
theorem dX3_caskTold_23 : decode cX3_caskTold 23 = .ok (.ifCond .ne 18, 3) := by decide +kernel
theorem dX3_caskTold_26 : decode cX3_caskTold 26 = .ok (.aload_n 0, 1) := by decide +kernel
theorem dX3_caskTold_27 : decode cX3_caskTold 27 = .ok (.getfield 35, 3) := by decide +kernel
theorem dX3_caskTold_30 : decode cX3_caskTold 30 = .ok (.iload_n 1, 1) := by decide +kernel
theorem dX3_caskTold_31 : decode cX3_caskTold 31 = .ok (.baload, 1) := by decide +kernel
theorem dX3_caskTold_32 : decode cX3_caskTold 32 = .ok (.ifCond .eq 7, 3) := by decide +kernel
theorem dX3_caskTold_35 : decode cX3_caskTold 35 = .ok (.iconst 1, 1) := by decide +kernel
theorem dX3_caskTold_36 : decode cX3_caskTold 36 = .ok (.goto 4, 3) := by decide +kernel
theorem dX3_caskTold_39 : decode cX3_caskTold 39 = .ok (.iconst 0, 1) := by decide +kernel
theorem dX3_caskTold_40 : decode cX3_caskTold 40 = .ok (.ireturn, 1) := by decide +kernel
theorem dX3_caskTold_41 : decode cX3_caskTold 41 = .ok (.iload_n 2, 1) := by decide +kernel
theorem dX3_caskTold_42 : decode cX3_caskTold 42 = .ok (.bipush 7, 2) := by decide +kernel
theorem dX3_caskTold_44 : decode cX3_caskTold 44 = .ok (.if_icmp .le 23, 3) := by decide +kernel
theorem dX3_caskTold_47 : decode cX3_caskTold 47 = .ok (.iload_n 2, 1) := by decide +kernel
theorem dX3_caskTold_48 : decode cX3_caskTold 48 = .ok (.bipush 13, 2) := by decide +kernel
theorem dX3_caskTold_50 : decode cX3_caskTold 50 = .ok (.if_icmp .ge 17, 3) := by decide +kernel
theorem dX3_caskTold_53 : decode cX3_caskTold 53 = .ok (.aload_n 0, 1) := by decide +kernel
theorem dX3_caskTold_54 : decode cX3_caskTold 54 = .ok (.getfield 54, 3) := by decide +kernel
theorem dX3_caskTold_57 : decode cX3_caskTold 57 = .ok (.iconst 5, 1) := by decide +kernel
theorem dX3_caskTold_58 : decode cX3_caskTold 58 = .ok (.iload_n 1, 1) := by decide +kernel
theorem dX3_caskTold_59 : decode cX3_caskTold 59 = .ok (.imul, 1) := by decide +kernel
theorem dX3_caskTold_60 : decode cX3_caskTold 60 = .ok (.iload_n 2, 1) := by decide +kernel
theorem dX3_caskTold_61 : decode cX3_caskTold 61 = .ok (.iadd, 1) := by decide +kernel
theorem dX3_caskTold_62 : decode cX3_caskTold 62 = .ok (.bipush 8, 2) := by decide +kernel
theorem dX3_caskTold_64 : decode cX3_caskTold 64 = .ok (.isub, 1) := by decide +kernel
theorem dX3_caskTold_65 : decode cX3_caskTold 65 = .ok (.iaload, 1) := by decide +kernel
theorem dX3_caskTold_66 : decode cX3_caskTold 66 = .ok (.ireturn, 1) := by decide +kernel
theorem dX3_caskTold_67 : decode cX3_caskTold 67 = .ok (.iload_n 2, 1) := by decide +kernel
theorem dX3_caskTold_68 : decode cX3_caskTold 68 = .ok (.bipush 12, 2) := by decide +kernel
theorem dX3_caskTold_70 : decode cX3_caskTold 70 = .ok (.if_icmp .le 24, 3) := by decide +kernel
theorem dX3_caskTold_73 : decode cX3_caskTold 73 = .ok (.iload_n 2, 1) := by decide +kernel
theorem dX3_caskTold_74 : decode cX3_caskTold 74 = .ok (.bipush 13, 2) := by decide +kernel
theorem dX3_caskTold_76 : decode cX3_caskTold 76 = .ok (.if_icmp .ne 12, 3) := by decide +kernel
theorem dX3_caskTold_79 : decode cX3_caskTold 79 = .ok (.aload_n 0, 1) := by decide +kernel
theorem dX3_caskTold_80 : decode cX3_caskTold 80 = .ok (.getfield 57, 3) := by decide +kernel
theorem dX3_caskTold_83 : decode cX3_caskTold 83 = .ok (.iload_n 1, 1) := by decide +kernel
theorem dX3_caskTold_84 : decode cX3_caskTold 84 = .ok (.iaload, 1) := by decide +kernel
theorem dX3_caskTold_85 : decode cX3_caskTold 85 = .ok (.goto 8, 3) := by decide +kernel
theorem dX3_caskTold_88 : decode cX3_caskTold 88 = .ok (.aload_n 0, 1) := by decide +kernel
theorem dX3_caskTold_89 : decode cX3_caskTold 89 = .ok (.iload_n 1, 1) := by decide +kernel
theorem dX3_caskTold_90 : decode cX3_caskTold 90 = .ok (.invokevirtual 131, 3) := by decide +kernel
theorem dX3_caskTold_93 : decode cX3_caskTold 93 = .ok (.ireturn, 1) := by decide +kernel
theorem dX3_caskTold_94 : decode cX3_caskTold 94 = .ok (.bipush 8, 2) := by decide +kernel
theorem dX3_caskTold_96 : decode cX3_caskTold 96 = .ok (.newarray .int, 2) := by decide +kernel
theorem dX3_caskTold_98 : decode cX3_caskTold 98 = .ok (.dup, 1) := by decide +kernel
theorem dX3_caskTold_99 : decode cX3_caskTold 99 = .ok (.iconst 0, 1) := by decide +kernel
theorem dX3_caskTold_100 : decode cX3_caskTold 100 = .ok (.iconst 0, 1) := by decide +kernel
theorem dX3_caskTold_101 : decode cX3_caskTold 101 = .ok (.iastore, 1) := by decide +kernel
theorem dX3_caskTold_102 : decode cX3_caskTold 102 = .ok (.dup, 1) := by decide +kernel
theorem dX3_caskTold_103 : decode cX3_caskTold 103 = .ok (.iconst 1, 1) := by decide +kernel
theorem dX3_caskTold_104 : decode cX3_caskTold 104 = .ok (.aload_n 0, 1) := by decide +kernel
theorem dX3_caskTold_105 : decode cX3_caskTold 105 = .ok (.iload_n 1, 1) := by decide +kernel
theorem dX3_caskTold_106 : decode cX3_caskTold 106 = .ok (.invokevirtual 134, 3) := by decide +kernel
theorem dX3_caskTold_109 : decode cX3_caskTold 109 = .ok (.iastore, 1) := by decide +kernel
theorem dX3_caskTold_110 : decode cX3_caskTold 110 = .ok (.dup, 1) := by decide +kernel
theorem dX3_caskTold_111 : decode cX3_caskTold 111 = .ok (.iconst 2, 1) := by decide +kernel
theorem dX3_caskTold_112 : decode cX3_caskTold 112 = .ok (.aload_n 0, 1) := by decide +kernel
theorem dX3_caskTold_113 : decode cX3_caskTold 113 = .ok (.getfield 39, 3) := by decide +kernel
theorem dX3_caskTold_116 : decode cX3_caskTold 116 = .ok (.iload_n 1, 1) := by decide +kernel
theorem dX3_caskTold_117 : decode cX3_caskTold 117 = .ok (.iaload, 1) := by decide +kernel
theorem dX3_caskTold_118 : decode cX3_caskTold 118 = .ok (.iastore, 1) := by decide +kernel
theorem dX3_caskTold_119 : decode cX3_caskTold 119 = .ok (.dup, 1) := by decide +kernel
theorem dX3_caskTold_120 : decode cX3_caskTold 120 = .ok (.iconst 3, 1) := by decide +kernel
theorem dX3_caskTold_121 : decode cX3_caskTold 121 = .ok (.aload_n 0, 1) := by decide +kernel
theorem dX3_caskTold_122 : decode cX3_caskTold 122 = .ok (.iload_n 1, 1) := by decide +kernel
theorem dX3_caskTold_123 : decode cX3_caskTold 123 = .ok (.invokevirtual 119, 3) := by decide +kernel
theorem dX3_caskTold_126 : decode cX3_caskTold 126 = .ok (.iastore, 1) := by decide +kernel
theorem dX3_caskTold_127 : decode cX3_caskTold 127 = .ok (.dup, 1) := by decide +kernel
theorem dX3_caskTold_128 : decode cX3_caskTold 128 = .ok (.iconst 4, 1) := by decide +kernel
theorem dX3_caskTold_129 : decode cX3_caskTold 129 = .ok (.aload_n 0, 1) := by decide +kernel
theorem dX3_caskTold_130 : decode cX3_caskTold 130 = .ok (.getfield 45, 3) := by decide +kernel
theorem dX3_caskTold_133 : decode cX3_caskTold 133 = .ok (.iload_n 1, 1) := by decide +kernel
theorem dX3_caskTold_134 : decode cX3_caskTold 134 = .ok (.iaload, 1) := by decide +kernel
theorem dX3_caskTold_135 : decode cX3_caskTold 135 = .ok (.iastore, 1) := by decide +kernel
theorem dX3_caskTold_136 : decode cX3_caskTold 136 = .ok (.dup, 1) := by decide +kernel
theorem dX3_caskTold_137 : decode cX3_caskTold 137 = .ok (.iconst 5, 1) := by decide +kernel
theorem dX3_caskTold_138 : decode cX3_caskTold 138 = .ok (.aload_n 0, 1) := by decide +kernel
theorem dX3_caskTold_139 : decode cX3_caskTold 139 = .ok (.getfield 48, 3) := by decide +kernel
theorem dX3_caskTold_142 : decode cX3_caskTold 142 = .ok (.iload_n 1, 1) := by decide +kernel
theorem dX3_caskTold_143 : decode cX3_caskTold 143 = .ok (.iaload, 1) := by decide +kernel
theorem dX3_caskTold_144 : decode cX3_caskTold 144 = .ok (.iastore, 1) := by decide +kernel
theorem dX3_caskTold_145 : decode cX3_caskTold 145 = .ok (.dup, 1) := by decide +kernel
theorem dX3_caskTold_146 : decode cX3_caskTold 146 = .ok (.bipush 6, 2) := by decide +kernel
theorem dX3_caskTold_148 : decode cX3_caskTold 148 = .ok (.aload_n 0, 1) := by decide +kernel
theorem dX3_caskTold_149 : decode cX3_caskTold 149 = .ok (.getfield 51, 3) := by decide +kernel
theorem dX3_caskTold_152 : decode cX3_caskTold 152 = .ok (.iload_n 1, 1) := by decide +kernel
theorem dX3_caskTold_153 : decode cX3_caskTold 153 = .ok (.iaload, 1) := by decide +kernel
theorem dX3_caskTold_154 : decode cX3_caskTold 154 = .ok (.iastore, 1) := by decide +kernel
theorem dX3_caskTold_155 : decode cX3_caskTold 155 = .ok (.dup, 1) := by decide +kernel
theorem dX3_caskTold_156 : decode cX3_caskTold 156 = .ok (.bipush 7, 2) := by decide +kernel
theorem dX3_caskTold_158 : decode cX3_caskTold 158 = .ok (.aload_n 0, 1) := by decide +kernel
theorem dX3_caskTold_159 : decode cX3_caskTold 159 = .ok (.iload_n 1, 1) := by decide +kernel
theorem dX3_caskTold_160 : decode cX3_caskTold 160 = .ok (.invokevirtual 122, 3) := by decide +kernel
theorem dX3_caskTold_163 : decode cX3_caskTold 163 = .ok (.iastore, 1) := by decide +kernel
theorem dX3_caskTold_164 : decode cX3_caskTold 164 = .ok (.astore_n 3, 1) := by decide +kernel
theorem dX3_caskTold_165 : decode cX3_caskTold 165 = .ok (.aload_n 3, 1) := by decide +kernel
theorem dX3_caskTold_166 : decode cX3_caskTold 166 = .ok (.iload_n 2, 1) := by decide +kernel
theorem dX3_caskTold_167 : decode cX3_caskTold 167 = .ok (.iaload, 1) := by decide +kernel
theorem dX3_caskTold_168 : decode cX3_caskTold 168 = .ok (.ireturn, 1) := by decide +kernel
set_option maxRecDepth 20000 in
theorem ggX3_cask_X3_isCask : GoodIn wsX3_cask wsX3_isCask := goodIn_r _ [6, 7, 8, 9, 5, 10, 56, 57, 58, 59, 60, 61, 62, 63, 64, 65, 66, 67, 68, 69, 70, 71, 72, 73, 74, 75, 76, 77, 78, 79, 80] (by decide +kernel) (by decide +kernel)
set_option maxRecDepth 20000 in
theorem gX3_cask_X3_isCask : GoodIn wsX3_cask (wsV RX3 116 RX3 yX3_isCask wsX3_isCask) := goodIn_app (goodIn_of _ (by decide +kernel)) ggX3_cask_X3_isCask
set_option maxRecDepth 20000 in
theorem ggX3_cask_X3_isIn : GoodIn wsX3_cask wsX3_isIn := goodIn_r _ [10] (by decide +kernel) (by decide +kernel)
set_option maxRecDepth 20000 in
theorem gX3_cask_X3_isIn : GoodIn wsX3_cask (va_wsS RX3 70 yX3_isIn wsX3_isIn) := goodIn_app (goodIn_of _ (by decide +kernel)) ggX3_cask_X3_isIn
set_option maxRecDepth 20000 in
theorem ggX3_cask_X3_caskTold : GoodIn wsX3_cask wsX3_caskTold := goodIn_r _ [14, 15, 16, 17, 18, 19, 20, 21, 22, 23, 24, 25, 26, 5, 27, 28, 29, 30, 31, 32, 33, 34, 35, 36, 37, 38, 39, 40, 41, 42, 43, 44, 45, 46, 47, 48, 49, 50, 51, 56, 57, 58, 59, 60, 61, 62, 63, 64, 65, 66, 67, 68, 69, 70, 71, 72, 73, 74, 75, 76, 77, 78, 79, 80] (by decide +kernel) (by decide +kernel)
set_option maxRecDepth 20000 in
theorem gX3_cask_X3_caskTold : GoodIn wsX3_cask (wsV RX3 137 RX3 yX3_caskTold wsX3_caskTold) := goodIn_app (goodIn_of _ (by decide +kernel)) ggX3_cask_X3_caskTold
set_option maxRecDepth 20000 in
theorem ggX3_cask_X3_no : GoodIn wsX3_cask wsX3_no := goodIn_r _ [55, 1, 56, 57, 58, 59, 60, 61, 62, 63, 64, 65, 66, 67, 68, 69, 70, 71, 72, 73, 74, 75, 76, 77, 78, 79, 80] (by decide +kernel) (by decide +kernel)
set_option maxRecDepth 20000 in
theorem gX3_cask_X3_no : GoodIn wsX3_cask (wsV RX3 74 RX3 yX3_no wsX3_no) := goodIn_app (goodIn_of _ (by decide +kernel)) ggX3_cask_X3_no
theorem dX3_cask_0 : decode cX3_cask 0 = .ok (.aload_n 0, 1) := by decide +kernel
theorem dX3_cask_1 : decode cX3_cask 1 = .ok (.iconst 0, 1) := by decide +kernel
theorem dX3_cask_2 : decode cX3_cask 2 = .ok (.putfield 67, 3) := by decide +kernel
theorem dX3_cask_5 : decode cX3_cask 5 = .ok (.aload_n 0, 1) := by decide +kernel
theorem dX3_cask_6 : decode cX3_cask 6 = .ok (.iload_n 1, 1) := by decide +kernel
theorem dX3_cask_7 : decode cX3_cask 7 = .ok (.invokevirtual 116, 3) := by decide +kernel
theorem dX3_cask_10 : decode cX3_cask 10 = .ok (.ifCond .eq 22, 3) := by decide +kernel
theorem dX3_cask_13 : decode cX3_cask 13 = .ok (.iload_n 2, 1) := by decide +kernel
theorem dX3_cask_14 : decode cX3_cask 14 = .ok (.iconst 0, 1) := by decide +kernel
theorem dX3_cask_15 : decode cX3_cask 15 = .ok (.bipush 15, 2) := by decide +kernel
theorem dX3_cask_17 : decode cX3_cask 17 = .ok (.invokestatic 70, 3) := by decide +kernel
theorem dX3_cask_20 : decode cX3_cask 20 = .ok (.ifCond .eq 12, 3) := by decide +kernel
theorem dX3_cask_23 : decode cX3_cask 23 = .ok (.aload_n 0, 1) := by decide +kernel
theorem dX3_cask_24 : decode cX3_cask 24 = .ok (.iload_n 1, 1) := by decide +kernel
theorem dX3_cask_25 : decode cX3_cask 25 = .ok (.iload_n 2, 1) := by decide +kernel
theorem dX3_cask_26 : decode cX3_cask 26 = .ok (.invokevirtual 137, 3) := by decide +kernel
theorem dX3_cask_29 : decode cX3_cask 29 = .ok (.goto 8, 3) := by decide +kernel
theorem dX3_cask_32 : decode cX3_cask 32 = .ok (.aload_n 0, 1) := by decide +kernel
theorem dX3_cask_33 : decode cX3_cask 33 = .ok (.iconst 1, 1) := by decide +kernel
theorem dX3_cask_34 : decode cX3_cask 34 = .ok (.invokevirtual 74, 3) := by decide +kernel
theorem dX3_cask_37 : decode cX3_cask 37 = .ok (.ireturn, 1) := by decide +kernel
set_option maxRecDepth 20000 in
theorem ggX3_beginFilling_X3_all : GoodIn wsX3_beginFilling wsX3_all := goodIn_r _ [6, 7, 8, 9, 10, 11, 12, 13, 14, 15, 16, 17, 18, 19, 20, 21, 22, 23, 24, 25, 26, 27, 28, 29, 30, 31, 32] (by decide +kernel) (by decide +kernel)
set_option maxRecDepth 20000 in
theorem gX3_beginFilling_X3_all : GoodIn wsX3_beginFilling (wsV RX3 122 RX3 yX3_all wsX3_all) := goodIn_app (goodIn_of _ (by decide +kernel)) ggX3_beginFilling_X3_all
theorem dX3_beginFilling_0 : decode cX3_beginFilling 0 = .ok (.aload_n 0, 1) := by decide +kernel
theorem dX3_beginFilling_1 : decode cX3_beginFilling 1 = .ok (.getfield 48, 3) := by decide +kernel
theorem dX3_beginFilling_4 : decode cX3_beginFilling 4 = .ok (.iload_n 1, 1) := by decide +kernel
theorem dX3_beginFilling_5 : decode cX3_beginFilling 5 = .ok (.dup2, 1) := by decide +kernel
theorem dX3_beginFilling_6 : decode cX3_beginFilling 6 = .ok (.iaload, 1) := by decide +kernel
theorem dX3_beginFilling_7 : decode cX3_beginFilling 7 = .ok (.aload_n 0, 1) := by decide +kernel
theorem dX3_beginFilling_8 : decode cX3_beginFilling 8 = .ok (.iload_n 1, 1) := by decide +kernel
theorem dX3_beginFilling_9 : decode cX3_beginFilling 9 = .ok (.invokevirtual 122, 3) := by decide +kernel
theorem dX3_beginFilling_12 : decode cX3_beginFilling 12 = .ok (.ifCond .ne 7, 3) := by decide +kernel
theorem dX3_beginFilling_15 : decode cX3_beginFilling 15 = .ok (.iconst 1, 1) := by decide +kernel
theorem dX3_beginFilling_16 : decode cX3_beginFilling 16 = .ok (.goto 4, 3) := by decide +kernel
theorem dX3_beginFilling_19 : decode cX3_beginFilling 19 = .ok (.iconst 0, 1) := by decide +kernel
theorem dX3_beginFilling_20 : decode cX3_beginFilling 20 = .ok (.iadd, 1) := by decide +kernel
theorem dX3_beginFilling_21 : decode cX3_beginFilling 21 = .ok (.iastore, 1) := by decide +kernel
theorem dX3_beginFilling_22 : decode cX3_beginFilling 22 = .ok (.return_, 1) := by decide +kernel
set_option maxRecDepth 20000 in
theorem ggX3_fill_X3_isCask : GoodIn wsX3_fill wsX3_isCask := goodIn_r _ [11, 12, 13, 14, 10, 15, 29, 30, 31, 32, 33, 34, 35, 36, 37, 38, 39, 40, 41, 42, 43, 44, 45, 46, 47, 48, 49, 50, 51, 52, 53] (by decide +kernel) (by decide +kernel)
set_option maxRecDepth 20000 in
theorem gX3_fill_X3_isCask : GoodIn wsX3_fill (wsV RX3 116 RX3 yX3_isCask wsX3_isCask) := goodIn_app (goodIn_of _ (by decide +kernel)) ggX3_fill_X3_isCask
set_option maxRecDepth 20000 in
theorem ggX3_fill_X3_no : GoodIn wsX3_fill wsX3_no := goodIn_r _ [19, 1, 29, 30, 31, 32, 33, 34, 35, 36, 37, 38, 39, 40, 41, 42, 43, 44, 45, 46, 47, 48, 49, 50, 51, 52, 53] (by decide +kernel) (by decide +kernel)
set_option maxRecDepth 20000 in
theorem gX3_fill_X3_no : GoodIn wsX3_fill (wsV RX3 74 RX3 yX3_no wsX3_no) := goodIn_app (goodIn_of _ (by decide +kernel)) ggX3_fill_X3_no
set_option maxRecDepth 20000 in
theorem ggX3_fill_X3_isIn : GoodIn wsX3_fill wsX3_isIn := goodIn_r _ [15] (by decide +kernel) (by decide +kernel)
set_option maxRecDepth 20000 in
theorem gX3_fill_X3_isIn : GoodIn wsX3_fill (va_wsS RX3 70 yX3_isIn wsX3_isIn) := goodIn_app (goodIn_of _ (by decide +kernel)) ggX3_fill_X3_isIn
set_option maxRecDepth 20000 in
theorem ggX3_fill_X3_all : GoodIn wsX3_fill wsX3_all := goodIn_r _ [23, 6, 29, 30, 31, 32, 33, 34, 35, 36, 37, 38, 39, 40, 41, 42, 43, 44, 45, 46, 47, 48, 49, 50, 51, 52, 53] (by decide +kernel) (by decide +kernel)
set_option maxRecDepth 20000 in
theorem gX3_fill_X3_all : GoodIn wsX3_fill (wsV RX3 122 RX3 yX3_all wsX3_all) := goodIn_app (goodIn_of _ (by decide +kernel)) ggX3_fill_X3_all
set_option maxRecDepth 20000 in
theorem ggX3_fill_X3_beginFilling : GoodIn wsX3_fill wsX3_beginFilling := goodIn_r _ [27, 28, 20, 21, 22, 10, 23, 6, 29, 30, 31, 32, 33, 34, 35, 36, 37, 38, 39, 40, 41, 42, 43, 44, 45, 46, 47, 48, 49, 50, 51, 52, 53] (by decide +kernel) (by decide +kernel)
set_option maxRecDepth 20000 in
theorem gX3_fill_X3_beginFilling : GoodIn wsX3_fill (wsV RX3 140 RX3 yX3_beginFilling wsX3_beginFilling) := goodIn_app (goodIn_of _ (by decide +kernel)) ggX3_fill_X3_beginFilling
theorem dX3_fill_0 : decode cX3_fill 0 = .ok (.aload_n 0, 1) := by decide +kernel
theorem dX3_fill_1 : decode cX3_fill 1 = .ok (.iconst 0, 1) := by decide +kernel
theorem dX3_fill_2 : decode cX3_fill 2 = .ok (.putfield 67, 3) := by decide +kernel
theorem dX3_fill_5 : decode cX3_fill 5 = .ok (.aload_n 0, 1) := by decide +kernel
theorem dX3_fill_6 : decode cX3_fill 6 = .ok (.iload_n 1, 1) := by decide +kernel
theorem dX3_fill_7 : decode cX3_fill 7 = .ok (.invokevirtual 116, 3) := by decide +kernel
theorem dX3_fill_10 : decode cX3_fill 10 = .ok (.ifCond .ne 9, 3) := by decide +kernel
theorem dX3_fill_13 : decode cX3_fill 13 = .ok (.aload_n 0, 1) := by decide +kernel
theorem dX3_fill_14 : decode cX3_fill 14 = .ok (.iconst 1, 1) := by decide +kernel
theorem dX3_fill_15 : decode cX3_fill 15 = .ok (.invokevirtual 74, 3) := by decide +kernel
theorem dX3_fill_18 : decode cX3_fill 18 = .ok (.ireturn, 1) := by decide +kernel
theorem dX3_fill_19 : decode cX3_fill 19 = .ok (.iload_n 2, 1) := by decide +kernel
theorem dX3_fill_20 : decode cX3_fill 20 = .ok (.iconst 0, 1) := by decide +kernel
theorem dX3_fill_21 : decode cX3_fill 21 = .ok (.iconst 3, 1) := by decide +kernel
theorem dX3_fill_22 : decode cX3_fill 22 = .ok (.invokestatic 70, 3) := by decide +kernel
theorem dX3_fill_25 : decode cX3_fill 25 = .ok (.ifCond .eq 13, 3) := by decide +kernel
theorem dX3_fill_28 : decode cX3_fill 28 = .ok (.iload_n 3, 1) := by decide +kernel
theorem dX3_fill_29 : decode cX3_fill 29 = .ok (.iconst 1, 1) := by decide +kernel
theorem dX3_fill_30 : decode cX3_fill 30 = .ok (.ldc 89, 2) := by decide +kernel
theorem dX3_fill_32 : decode cX3_fill 32 = .ok (.invokestatic 70, 3) := by decide +kernel
theorem dX3_fill_35 : decode cX3_fill 35 = .ok (.ifCond .ne 9, 3) := by decide +kernel
theorem dX3_fill_38 : decode cX3_fill 38 = .ok (.aload_n 0, 1) := by decide +kernel
theorem dX3_fill_39 : decode cX3_fill 39 = .ok (.iconst 2, 1) := by decide +kernel
theorem dX3_fill_40 : decode cX3_fill 40 = .ok (.invokevirtual 74, 3) := by decide +kernel
theorem dX3_fill_43 : decode cX3_fill 43 = .ok (.ireturn, 1) := by decide +kernel
theorem dX3_fill_44 : decode cX3_fill 44 = .ok (.aload_n 0, 1) := by decide +kernel
theorem dX3_fill_45 : decode cX3_fill 45 = .ok (.getfield 35, 3) := by decide +kernel
theorem dX3_fill_48 : decode cX3_fill 48 = .ok (.iload_n 1, 1) := by decide +kernel
theorem dX3_fill_49 : decode cX3_fill 49 = .ok (.baload, 1) := by decide +kernel
theorem dX3_fill_50 : decode cX3_fill 50 = .ok (.ifCond .eq 24, 3) := by decide +kernel
theorem dX3_fill_53 : decode cX3_fill 53 = .ok (.aload_n 0, 1) := by decide +kernel
theorem dX3_fill_54 : decode cX3_fill 54 = .ok (.iload_n 1, 1) := by decide +kernel
theorem dX3_fill_55 : decode cX3_fill 55 = .ok (.invokevirtual 122, 3) := by decide +kernel
theorem dX3_fill_58 : decode cX3_fill 58 = .ok (.iload_n 3, 1) := by decide +kernel
theorem dX3_fill_59 : decode cX3_fill 59 = .ok (.iadd, 1) := by decide +kernel
theorem dX3_fill_60 : decode cX3_fill 60 = .ok (.aload_n 0, 1) := by decide +kernel
theorem dX3_fill_61 : decode cX3_fill 61 = .ok (.getfield 26, 3) := by decide +kernel
theorem dX3_fill_64 : decode cX3_fill 64 = .ok (.aload_n 0, 1) := by decide +kernel
theorem dX3_fill_65 : decode cX3_fill 65 = .ok (.getfield 32, 3) := by decide +kernel
theorem dX3_fill_68 : decode cX3_fill 68 = .ok (.iload_n 1, 1) := by decide +kernel
theorem dX3_fill_69 : decode cX3_fill 69 = .ok (.iaload, 1) := by decide +kernel
theorem dX3_fill_70 : decode cX3_fill 70 = .ok (.iaload, 1) := by decide +kernel
theorem dX3_fill_71 : decode cX3_fill 71 = .ok (.if_icmp .le 9, 3) := by decide +kernel
theorem dX3_fill_74 : decode cX3_fill 74 = .ok (.aload_n 0, 1) := by decide +kernel
theorem dX3_fill_75 : decode cX3_fill 75 = .ok (.iconst 3, 1) := by decide +kernel
theorem dX3_fill_76 : decode cX3_fill 76 = .ok (.invokevirtual 74, 3) := by decide +kernel
theorem dX3_fill_79 : decode cX3_fill 79 = .ok (.ireturn, 1) := by decide +kernel
theorem dX3_fill_80 : decode cX3_fill 80 = .ok (.aload_n 0, 1) := by decide +kernel
theorem dX3_fill_81 : decode cX3_fill 81 = .ok (.iload_n 1, 1) := by decide +kernel
theorem dX3_fill_82 : decode cX3_fill 82 = .ok (.invokevirtual 140, 3) := by decide +kernel
theorem dX3_fill_85 : decode cX3_fill 85 = .ok (.aload_n 0, 1) := by decide +kernel
theorem dX3_fill_86 : decode cX3_fill 86 = .ok (.getfield 54, 3) := by decide +kernel
theorem dX3_fill_89 : decode cX3_fill 89 = .ok (.iconst 5, 1) := by decide +kernel
theorem dX3_fill_90 : decode cX3_fill 90 = .ok (.iload_n 1, 1) := by decide +kernel
theorem dX3_fill_91 : decode cX3_fill 91 = .ok (.imul, 1) := by decide +kernel
theorem dX3_fill_92 : decode cX3_fill 92 = .ok (.iload_n 2, 1) := by decide +kernel
theorem dX3_fill_93 : decode cX3_fill 93 = .ok (.iadd, 1) := by decide +kernel
theorem dX3_fill_94 : decode cX3_fill 94 = .ok (.dup2, 1) := by decide +kernel
theorem dX3_fill_95 : decode cX3_fill 95 = .ok (.iaload, 1) := by decide +kernel
theorem dX3_fill_96 : decode cX3_fill 96 = .ok (.iload_n 3, 1) := by decide +kernel
theorem dX3_fill_97 : decode cX3_fill 97 = .ok (.iadd, 1) := by decide +kernel
theorem dX3_fill_98 : decode cX3_fill 98 = .ok (.iastore, 1) := by decide +kernel
theorem dX3_fill_99 : decode cX3_fill 99 = .ok (.aload_n 0, 1) := by decide +kernel
theorem dX3_fill_100 : decode cX3_fill 100 = .ok (.iload_n 1, 1) := by decide +kernel
theorem dX3_fill_101 : decode cX3_fill 101 = .ok (.invokevirtual 122, 3) := by decide +kernel
theorem dX3_fill_104 : decode cX3_fill 104 = .ok (.ireturn, 1) := by decide +kernel
set_option maxRecDepth 20000 in
theorem ggX3_rack_X3_isCask : GoodIn wsX3_rack wsX3_isCask := goodIn_r _ [13, 14, 15, 16, 12, 17, 31, 32, 33, 34, 35, 36, 37, 38, 39, 40, 41, 42, 43, 44, 45, 46, 47, 48, 49, 50, 51, 52, 53, 54, 55] (by decide +kernel) (by decide +kernel)
set_option maxRecDepth 20000 in
theorem gX3_rack_X3_isCask : GoodIn wsX3_rack (wsV RX3 116 RX3 yX3_isCask wsX3_isCask) := goodIn_app (goodIn_of _ (by decide +kernel)) ggX3_rack_X3_isCask
set_option maxRecDepth 20000 in
theorem ggX3_rack_X3_no : GoodIn wsX3_rack wsX3_no := goodIn_r _ [21, 1, 31, 32, 33, 34, 35, 36, 37, 38, 39, 40, 41, 42, 43, 44, 45, 46, 47, 48, 49, 50, 51, 52, 53, 54, 55] (by decide +kernel) (by decide +kernel)
set_option maxRecDepth 20000 in
theorem gX3_rack_X3_no : GoodIn wsX3_rack (wsV RX3 74 RX3 yX3_no wsX3_no) := goodIn_app (goodIn_of _ (by decide +kernel)) ggX3_rack_X3_no
set_option maxRecDepth 20000 in
theorem ggX3_rack_X3_isIn : GoodIn wsX3_rack wsX3_isIn := goodIn_r _ [17] (by decide +kernel) (by decide +kernel)
set_option maxRecDepth 20000 in
theorem gX3_rack_X3_isIn : GoodIn wsX3_rack (va_wsS RX3 70 yX3_isIn wsX3_isIn) := goodIn_app (goodIn_of _ (by decide +kernel)) ggX3_rack_X3_isIn
set_option maxRecDepth 20000 in
theorem ggX3_rack_X3_all : GoodIn wsX3_rack wsX3_all := goodIn_r _ [25, 7, 31, 32, 33, 34, 35, 36, 37, 38, 39, 40, 41, 42, 43, 44, 45, 46, 47, 48, 49, 50, 51, 52, 53, 54, 55] (by decide +kernel) (by decide +kernel)
set_option maxRecDepth 20000 in
theorem gX3_rack_X3_all : GoodIn wsX3_rack (wsV RX3 122 RX3 yX3_all wsX3_all) := goodIn_app (goodIn_of _ (by decide +kernel)) ggX3_rack_X3_all
set_option maxRecDepth 20000 in
theorem ggX3_rack_X3_beginFilling : GoodIn wsX3_rack wsX3_beginFilling := goodIn_r _ [29, 30, 22, 23, 24, 12, 25, 7, 31, 32, 33, 34, 35, 36, 37, 38, 39, 40, 41, 42, 43, 44, 45, 46, 47, 48, 49, 50, 51, 52, 53, 54, 55] (by decide +kernel) (by decide +kernel)
set_option maxRecDepth 20000 in
theorem gX3_rack_X3_beginFilling : GoodIn wsX3_rack (wsV RX3 140 RX3 yX3_beginFilling wsX3_beginFilling) := goodIn_app (goodIn_of _ (by decide +kernel)) ggX3_rack_X3_beginFilling
theorem dX3_rack_0 : decode cX3_rack 0 = .ok (.aload_n 0, 1) := by decide +kernel
theorem dX3_rack_1 : decode cX3_rack 1 = .ok (.iconst 0, 1) := by decide +kernel
theorem dX3_rack_2 : decode cX3_rack 2 = .ok (.putfield 67, 3) := by decide +kernel
theorem dX3_rack_5 : decode cX3_rack 5 = .ok (.aload_n 0, 1) := by decide +kernel
theorem dX3_rack_6 : decode cX3_rack 6 = .ok (.iload_n 1, 1) := by decide +kernel
theorem dX3_rack_7 : decode cX3_rack 7 = .ok (.invokevirtual 116, 3) := by decide +kernel
theorem dX3_rack_10 : decode cX3_rack 10 = .ok (.ifCond .eq 16, 3) := by decide +kernel
theorem dX3_rack_13 : decode cX3_rack 13 = .ok (.iload_n 2, 1) := by decide +kernel
theorem dX3_rack_14 : decode cX3_rack 14 = .ok (.iconst (-1), 1) := by decide +kernel
theorem dX3_rack_15 : decode cX3_rack 15 = .ok (.if_icmp .eq 17, 3) := by decide +kernel
theorem dX3_rack_18 : decode cX3_rack 18 = .ok (.aload_n 0, 1) := by decide +kernel
theorem dX3_rack_19 : decode cX3_rack 19 = .ok (.iload_n 2, 1) := by decide +kernel
theorem dX3_rack_20 : decode cX3_rack 20 = .ok (.invokevirtual 116, 3) := by decide +kernel
theorem dX3_rack_23 : decode cX3_rack 23 = .ok (.ifCond .ne 9, 3) := by decide +kernel
theorem dX3_rack_26 : decode cX3_rack 26 = .ok (.aload_n 0, 1) := by decide +kernel
theorem dX3_rack_27 : decode cX3_rack 27 = .ok (.iconst 1, 1) := by decide +kernel
theorem dX3_rack_28 : decode cX3_rack 28 = .ok (.invokevirtual 74, 3) := by decide +kernel
theorem dX3_rack_31 : decode cX3_rack 31 = .ok (.ireturn, 1) := by decide +kernel
theorem dX3_rack_32 : decode cX3_rack 32 = .ok (.iload_n 1, 1) := by decide +kernel
theorem dX3_rack_33 : decode cX3_rack 33 = .ok (.iload_n 2, 1) := by decide +kernel
theorem dX3_rack_34 : decode cX3_rack 34 = .ok (.if_icmp .eq 13, 3) := by decide +kernel
theorem dX3_rack_37 : decode cX3_rack 37 = .ok (.iload_n 3, 1) := by decide +kernel
theorem dX3_rack_38 : decode cX3_rack 38 = .ok (.iconst 1, 1) := by decide +kernel
theorem dX3_rack_39 : decode cX3_rack 39 = .ok (.ldc 89, 2) := by decide +kernel
theorem dX3_rack_41 : decode cX3_rack 41 = .ok (.invokestatic 70, 3) := by decide +kernel
theorem dX3_rack_44 : decode cX3_rack 44 = .ok (.ifCond .ne 9, 3) := by decide +kernel
theorem dX3_rack_47 : decode cX3_rack 47 = .ok (.aload_n 0, 1) := by decide +kernel
theorem dX3_rack_48 : decode cX3_rack 48 = .ok (.iconst 2, 1) := by decide +kernel
theorem dX3_rack_49 : decode cX3_rack 49 = .ok (.invokevirtual 74, 3) := by decide +kernel
theorem dX3_rack_52 : decode cX3_rack 52 = .ok (.ireturn, 1) := by decide +kernel
theorem dX3_rack_53 : decode cX3_rack 53 = .ok (.aload_n 0, 1) := by decide +kernel
theorem dX3_rack_54 : decode cX3_rack 54 = .ok (.getfield 35, 3) := by decide +kernel
theorem dX3_rack_57 : decode cX3_rack 57 = .ok (.iload_n 1, 1) := by decide +kernel
theorem dX3_rack_58 : decode cX3_rack 58 = .ok (.baload, 1) := by decide +kernel
theorem dX3_rack_59 : decode cX3_rack 59 = .ok (.ifCond .eq 52, 3) := by decide +kernel
theorem dX3_rack_62 : decode cX3_rack 62 = .ok (.iload_n 2, 1) := by decide +kernel
theorem dX3_rack_63 : decode cX3_rack 63 = .ok (.iconst (-1), 1) := by decide +kernel
theorem dX3_rack_64 : decode cX3_rack 64 = .ok (.if_icmp .eq 12, 3) := by decide +kernel
theorem dX3_rack_67 : decode cX3_rack 67 = .ok (.aload_n 0, 1) := by decide +kernel
theorem dX3_rack_68 : decode cX3_rack 68 = .ok (.getfield 35, 3) := by decide +kernel
theorem dX3_rack_71 : decode cX3_rack 71 = .ok (.iload_n 2, 1) := by decide +kernel
theorem dX3_rack_72 : decode cX3_rack 72 = .ok (.baload, 1) := by decide +kernel
theorem dX3_rack_73 : decode cX3_rack 73 = .ok (.ifCond .eq 38, 3) := by decide +kernel
theorem dX3_rack_76 : decode cX3_rack 76 = .ok (.aload_n 0, 1) := by decide +kernel
theorem dX3_rack_77 : decode cX3_rack 77 = .ok (.iload_n 1, 1) := by decide +kernel
theorem dX3_rack_78 : decode cX3_rack 78 = .ok (.invokevirtual 122, 3) := by decide +kernel
theorem dX3_rack_81 : decode cX3_rack 81 = .ok (.iload_n 3, 1) := by decide +kernel
theorem dX3_rack_82 : decode cX3_rack 82 = .ok (.if_icmp .lt 29, 3) := by decide +kernel
theorem dX3_rack_85 : decode cX3_rack 85 = .ok (.iload_n 2, 1) := by decide +kernel
theorem dX3_rack_86 : decode cX3_rack 86 = .ok (.iconst (-1), 1) := by decide +kernel
theorem dX3_rack_87 : decode cX3_rack 87 = .ok (.if_icmp .eq 30, 3) := by decide +kernel
theorem dX3_rack_90 : decode cX3_rack 90 = .ok (.aload_n 0, 1) := by decide +kernel
theorem dX3_rack_91 : decode cX3_rack 91 = .ok (.iload_n 2, 1) := by decide +kernel
theorem dX3_rack_92 : decode cX3_rack 92 = .ok (.invokevirtual 122, 3) := by decide +kernel
theorem dX3_rack_95 : decode cX3_rack 95 = .ok (.iload_n 3, 1) := by decide +kernel
theorem dX3_rack_96 : decode cX3_rack 96 = .ok (.iadd, 1) := by decide +kernel
theorem dX3_rack_97 : decode cX3_rack 97 = .ok (.aload_n 0, 1) := by decide +kernel
theorem dX3_rack_98 : decode cX3_rack 98 = .ok (.getfield 26, 3) := by decide +kernel
theorem dX3_rack_101 : decode cX3_rack 101 = .ok (.aload_n 0, 1) := by decide +kernel
theorem dX3_rack_102 : decode cX3_rack 102 = .ok (.getfield 32, 3) := by decide +kernel
theorem dX3_rack_105 : decode cX3_rack 105 = .ok (.iload_n 2, 1) := by decide +kernel
theorem dX3_rack_106 : decode cX3_rack 106 = .ok (.iaload, 1) := by decide +kernel
theorem dX3_rack_107 : decode cX3_rack 107 = .ok (.iaload, 1) := by decide +kernel
theorem dX3_rack_108 : decode cX3_rack 108 = .ok (.if_icmp .le 9, 3) := by decide +kernel
theorem dX3_rack_111 : decode cX3_rack 111 = .ok (.aload_n 0, 1) := by decide +kernel
theorem dX3_rack_112 : decode cX3_rack 112 = .ok (.iconst 3, 1) := by decide +kernel
theorem dX3_rack_113 : decode cX3_rack 113 = .ok (.invokevirtual 74, 3) := by decide +kernel
theorem dX3_rack_116 : decode cX3_rack 116 = .ok (.ireturn, 1) := by decide +kernel
theorem dX3_rack_117 : decode cX3_rack 117 = .ok (.aload_n 0, 1) := by decide +kernel
theorem dX3_rack_118 : decode cX3_rack 118 = .ok (.iload_n 1, 1) := by decide +kernel
theorem dX3_rack_119 : decode cX3_rack 119 = .ok (.invokevirtual 122, 3) := by decide +kernel
theorem dX3_rack_122 : decode cX3_rack 122 = .ok (.i2l, 1) := by decide +kernel
theorem dX3_rack_123 : decode cX3_rack 123 = .ok (.lstore 4, 2) := by decide +kernel
theorem dX3_rack_125 : decode cX3_rack 125 = .ok (.iconst 5, 1) := by decide +kernel
theorem dX3_rack_126 : decode cX3_rack 126 = .ok (.newarray .int, 2) := by decide +kernel
theorem dX3_rack_128 : decode cX3_rack 128 = .ok (.astore 6, 2) := by decide +kernel
theorem dX3_rack_130 : decode cX3_rack 130 = .ok (.iload_n 3, 1) := by decide +kernel
theorem dX3_rack_131 : decode cX3_rack 131 = .ok (.istore 7, 2) := by decide +kernel
theorem dX3_rack_133 : decode cX3_rack 133 = .ok (.iconst 0, 1) := by decide +kernel
theorem dX3_rack_134 : decode cX3_rack 134 = .ok (.istore 8, 2) := by decide +kernel
theorem dX3_rack_136 : decode cX3_rack 136 = .ok (.iload 8, 2) := by decide +kernel
theorem dX3_rack_138 : decode cX3_rack 138 = .ok (.iconst 5, 1) := by decide +kernel
theorem dX3_rack_139 : decode cX3_rack 139 = .ok (.if_icmp .ge 43, 3) := by decide +kernel
theorem dX3_rack_142 : decode cX3_rack 142 = .ok (.aload 6, 2) := by decide +kernel
theorem dX3_rack_144 : decode cX3_rack 144 = .ok (.iload 8, 2) := by decide +kernel
theorem dX3_rack_146 : decode cX3_rack 146 = .ok (.aload_n 0, 1) := by decide +kernel
theorem dX3_rack_147 : decode cX3_rack 147 = .ok (.getfield 54, 3) := by decide +kernel
theorem dX3_rack_150 : decode cX3_rack 150 = .ok (.iconst 5, 1) := by decide +kernel
theorem dX3_rack_151 : decode cX3_rack 151 = .ok (.iload_n 1, 1) := by decide +kernel
theorem dX3_rack_152 : decode cX3_rack 152 = .ok (.imul, 1) := by decide +kernel
theorem dX3_rack_153 : decode cX3_rack 153 = .ok (.iload 8, 2) := by decide +kernel
theorem dX3_rack_155 : decode cX3_rack 155 = .ok (.iadd, 1) := by decide +kernel
theorem dX3_rack_156 : decode cX3_rack 156 = .ok (.iaload, 1) := by decide +kernel
theorem dX3_rack_157 : decode cX3_rack 157 = .ok (.i2l, 1) := by decide +kernel
theorem dX3_rack_158 : decode cX3_rack 158 = .ok (.iload_n 3, 1) := by decide +kernel
theorem dX3_rack_159 : decode cX3_rack 159 = .ok (.i2l, 1) := by decide +kernel
theorem dX3_rack_160 : decode cX3_rack 160 = .ok (.lmul, 1) := by decide +kernel
theorem dX3_rack_161 : decode cX3_rack 161 = .ok (.lload 4, 2) := by decide +kernel
theorem dX3_rack_163 : decode cX3_rack 163 = .ok (.ldiv, 1) := by decide +kernel
theorem dX3_rack_164 : decode cX3_rack 164 = .ok (.l2i, 1) := by decide +kernel
theorem dX3_rack_165 : decode cX3_rack 165 = .ok (.iastore, 1) := by decide +kernel
theorem dX3_rack_166 : decode cX3_rack 166 = .ok (.iload 7, 2) := by decide +kernel
theorem dX3_rack_168 : decode cX3_rack 168 = .ok (.aload 6, 2) := by decide +kernel
theorem dX3_rack_170 : decode cX3_rack 170 = .ok (.iload 8, 2) := by decide +kernel
theorem dX3_rack_172 : decode cX3_rack 172 = .ok (.iaload, 1) := by decide +kernel
theorem dX3_rack_173 : decode cX3_rack 173 = .ok (.isub, 1) := by decide +kernel
theorem dX3_rack_174 : decode cX3_rack 174 = .ok (.istore 7, 2) := by decide +kernel
theorem dX3_rack_176 : decode cX3_rack 176 = .ok (.iinc 8 1, 3) := by decide +kernel
theorem dX3_rack_179 : decode cX3_rack 179 = .ok (.goto (-43), 3) := by decide +kernel
theorem dX3_rack_182 : decode cX3_rack 182 = .ok (.iload 7, 2) := by decide +kernel
theorem dX3_rack_184 : decode cX3_rack 184 = .ok (.ifCond .le 60, 3) := by decide +kernel
theorem dX3_rack_187 : decode cX3_rack 187 = .ok (.iconst 0, 1) := by decide +kernel
theorem dX3_rack_188 : decode cX3_rack 188 = .ok (.istore 8, 2) := by decide +kernel
theorem dX3_rack_190 : decode cX3_rack 190 = .ok (.iload 8, 2) := by decide +kernel
theorem dX3_rack_192 : decode cX3_rack 192 = .ok (.iconst 5, 1) := by decide +kernel
theorem dX3_rack_193 : decode cX3_rack 193 = .ok (.if_icmp .ge 48, 3) := by decide +kernel
theorem dX3_rack_196 : decode cX3_rack 196 = .ok (.iload 7, 2) := by decide +kernel
theorem dX3_rack_198 : decode cX3_rack 198 = .ok (.ifCond .le 43, 3) := by decide +kernel
theorem dX3_rack_201 : decode cX3_rack 201 = .ok (.aload_n 0, 1) := by decide +kernel
theorem dX3_rack_202 : decode cX3_rack 202 = .ok (.getfield 54, 3) := by decide +kernel
theorem dX3_rack_205 : decode cX3_rack 205 = .ok (.iconst 5, 1) := by decide +kernel
theorem dX3_rack_206 : decode cX3_rack 206 = .ok (.iload_n 1, 1) := by decide +kernel
theorem dX3_rack_207 : decode cX3_rack 207 = .ok (.imul, 1) := by decide +kernel
theorem dX3_rack_208 : decode cX3_rack 208 = .ok (.iload 8, 2) := by decide +kernel
theorem dX3_rack_210 : decode cX3_rack 210 = .ok (.iadd, 1) := by decide +kernel
theorem dX3_rack_211 : decode cX3_rack 211 = .ok (.iaload, 1) := by decide +kernel
theorem dX3_rack_212 : decode cX3_rack 212 = .ok (.aload 6, 2) := by decide +kernel
theorem dX3_rack_214 : decode cX3_rack 214 = .ok (.iload 8, 2) := by decide +kernel
theorem dX3_rack_216 : decode cX3_rack 216 = .ok (.iaload, 1) := by decide +kernel
theorem dX3_rack_217 : decode cX3_rack 217 = .ok (.if_icmp .ne 6, 3) := by decide +kernel
theorem dX3_rack_220 : decode cX3_rack 220 = .ok (.goto 15, 3) := by decide +kernel
theorem dX3_rack_223 : decode cX3_rack 223 = .ok (.aload 6, 2) := by decide +kernel
theorem dX3_rack_225 : decode cX3_rack 225 = .ok (.iload 8, 2) := by decide +kernel
theorem dX3_rack_227 : decode cX3_rack 227 = .ok (.dup2, 1) := by decide +kernel
theorem dX3_rack_228 : decode cX3_rack 228 = .ok (.iaload, 1) := by decide +kernel
theorem dX3_rack_229 : decode cX3_rack 229 = .ok (.iconst 1, 1) := by decide +kernel
theorem dX3_rack_230 : decode cX3_rack 230 = .ok (.iadd, 1) := by decide +kernel
theorem dX3_rack_231 : decode cX3_rack 231 = .ok (.iastore, 1) := by decide +kernel
theorem dX3_rack_232 : decode cX3_rack 232 = .ok (.iinc 7 (-1), 3) := by decide +kernel
theorem dX3_rack_235 : decode cX3_rack 235 = .ok (.iinc 8 1, 3) := by decide +kernel
theorem dX3_rack_238 : decode cX3_rack 238 = .ok (.goto (-48), 3) := by decide +kernel
theorem dX3_rack_241 : decode cX3_rack 241 = .ok (.goto (-59), 3) := by decide +kernel
theorem dX3_rack_244 : decode cX3_rack 244 = .ok (.aload_n 0, 1) := by decide +kernel
theorem dX3_rack_245 : decode cX3_rack 245 = .ok (.getfield 57, 3) := by decide +kernel
theorem dX3_rack_248 : decode cX3_rack 248 = .ok (.iload_n 1, 1) := by decide +kernel
theorem dX3_rack_249 : decode cX3_rack 249 = .ok (.iaload, 1) := by decide +kernel
theorem dX3_rack_250 : decode cX3_rack 250 = .ok (.i2l, 1) := by decide +kernel
theorem dX3_rack_251 : decode cX3_rack 251 = .ok (.iload_n 3, 1) := by decide +kernel
theorem dX3_rack_252 : decode cX3_rack 252 = .ok (.i2l, 1) := by decide +kernel
theorem dX3_rack_253 : decode cX3_rack 253 = .ok (.lmul, 1) := by decide +kernel
theorem dX3_rack_254 : decode cX3_rack 254 = .ok (.lload 4, 2) := by decide +kernel
theorem dX3_rack_256 : decode cX3_rack 256 = .ok (.ldiv, 1) := by decide +kernel
theorem dX3_rack_257 : decode cX3_rack 257 = .ok (.l2i, 1) := by decide +kernel
theorem dX3_rack_258 : decode cX3_rack 258 = .ok (.istore 8, 2) := by decide +kernel
theorem dX3_rack_260 : decode cX3_rack 260 = .ok (.iload_n 2, 1) := by decide +kernel
theorem dX3_rack_261 : decode cX3_rack 261 = .ok (.iconst (-1), 1) := by decide +kernel
theorem dX3_rack_262 : decode cX3_rack 262 = .ok (.if_icmp .eq 8, 3) := by decide +kernel
theorem dX3_rack_265 : decode cX3_rack 265 = .ok (.aload_n 0, 1) := by decide +kernel
theorem dX3_rack_266 : decode cX3_rack 266 = .ok (.iload_n 2, 1) := by decide +kernel
theorem dX3_rack_267 : decode cX3_rack 267 = .ok (.invokevirtual 140, 3) := by decide +kernel
theorem dX3_rack_270 : decode cX3_rack 270 = .ok (.iconst 0, 1) := by decide +kernel
theorem dX3_rack_271 : decode cX3_rack 271 = .ok (.istore 9, 2) := by decide +kernel
theorem dX3_rack_273 : decode cX3_rack 273 = .ok (.iload 9, 2) := by decide +kernel
theorem dX3_rack_275 : decode cX3_rack 275 = .ok (.iconst 5, 1) := by decide +kernel
theorem dX3_rack_276 : decode cX3_rack 276 = .ok (.if_icmp .ge 52, 3) := by decide +kernel
theorem dX3_rack_279 : decode cX3_rack 279 = .ok (.aload_n 0, 1) := by decide +kernel
theorem dX3_rack_280 : decode cX3_rack 280 = .ok (.getfield 54, 3) := by decide +kernel
theorem dX3_rack_283 : decode cX3_rack 283 = .ok (.iconst 5, 1) := by decide +kernel
theorem dX3_rack_284 : decode cX3_rack 284 = .ok (.iload_n 1, 1) := by decide +kernel
theorem dX3_rack_285 : decode cX3_rack 285 = .ok (.imul, 1) := by decide +kernel
theorem dX3_rack_286 : decode cX3_rack 286 = .ok (.iload 9, 2) := by decide +kernel
theorem dX3_rack_288 : decode cX3_rack 288 = .ok (.iadd, 1) := by decide +kernel
theorem dX3_rack_289 : decode cX3_rack 289 = .ok (.dup2, 1) := by decide +kernel
theorem dX3_rack_290 : decode cX3_rack 290 = .ok (.iaload, 1) := by decide +kernel
theorem dX3_rack_291 : decode cX3_rack 291 = .ok (.aload 6, 2) := by decide +kernel
theorem dX3_rack_293 : decode cX3_rack 293 = .ok (.iload 9, 2) := by decide +kernel
theorem dX3_rack_295 : decode cX3_rack 295 = .ok (.iaload, 1) := by decide +kernel
theorem dX3_rack_296 : decode cX3_rack 296 = .ok (.isub, 1) := by decide +kernel
theorem dX3_rack_297 : decode cX3_rack 297 = .ok (.iastore, 1) := by decide +kernel
theorem dX3_rack_298 : decode cX3_rack 298 = .ok (.iload_n 2, 1) := by decide +kernel
theorem dX3_rack_299 : decode cX3_rack 299 = .ok (.iconst (-1), 1) := by decide +kernel
theorem dX3_rack_300 : decode cX3_rack 300 = .ok (.if_icmp .eq 22, 3) := by decide +kernel
theorem dX3_rack_303 : decode cX3_rack 303 = .ok (.aload_n 0, 1) := by decide +kernel
theorem dX3_rack_304 : decode cX3_rack 304 = .ok (.getfield 54, 3) := by decide +kernel
theorem dX3_rack_307 : decode cX3_rack 307 = .ok (.iconst 5, 1) := by decide +kernel
theorem dX3_rack_308 : decode cX3_rack 308 = .ok (.iload_n 2, 1) := by decide +kernel
theorem dX3_rack_309 : decode cX3_rack 309 = .ok (.imul, 1) := by decide +kernel
theorem dX3_rack_310 : decode cX3_rack 310 = .ok (.iload 9, 2) := by decide +kernel
theorem dX3_rack_312 : decode cX3_rack 312 = .ok (.iadd, 1) := by decide +kernel
theorem dX3_rack_313 : decode cX3_rack 313 = .ok (.dup2, 1) := by decide +kernel
theorem dX3_rack_314 : decode cX3_rack 314 = .ok (.iaload, 1) := by decide +kernel
theorem dX3_rack_315 : decode cX3_rack 315 = .ok (.aload 6, 2) := by decide +kernel
theorem dX3_rack_317 : decode cX3_rack 317 = .ok (.iload 9, 2) := by decide +kernel
theorem dX3_rack_319 : decode cX3_rack 319 = .ok (.iaload, 1) := by decide +kernel
theorem dX3_rack_320 : decode cX3_rack 320 = .ok (.iadd, 1) := by decide +kernel
theorem dX3_rack_321 : decode cX3_rack 321 = .ok (.iastore, 1) := by decide +kernel
theorem dX3_rack_322 : decode cX3_rack 322 = .ok (.iinc 9 1, 3) := by decide +kernel
theorem dX3_rack_325 : decode cX3_rack 325 = .ok (.goto (-52), 3) := by decide +kernel
theorem dX3_rack_328 : decode cX3_rack 328 = .ok (.aload_n 0, 1) := by decide +kernel
theorem dX3_rack_329 : decode cX3_rack 329 = .ok (.getfield 57, 3) := by decide +kernel
theorem dX3_rack_332 : decode cX3_rack 332 = .ok (.iload_n 1, 1) := by decide +kernel
theorem dX3_rack_333 : decode cX3_rack 333 = .ok (.dup2, 1) := by decide +kernel
theorem dX3_rack_334 : decode cX3_rack 334 = .ok (.iaload, 1) := by decide +kernel
theorem dX3_rack_335 : decode cX3_rack 335 = .ok (.iload 8, 2) := by decide +kernel
theorem dX3_rack_337 : decode cX3_rack 337 = .ok (.isub, 1) := by decide +kernel
theorem dX3_rack_338 : decode cX3_rack 338 = .ok (.iastore, 1) := by decide +kernel
theorem dX3_rack_339 : decode cX3_rack 339 = .ok (.iload_n 2, 1) := by decide +kernel
theorem dX3_rack_340 : decode cX3_rack 340 = .ok (.iconst (-1), 1) := by decide +kernel
theorem dX3_rack_341 : decode cX3_rack 341 = .ok (.if_icmp .eq 14, 3) := by decide +kernel
theorem dX3_rack_344 : decode cX3_rack 344 = .ok (.aload_n 0, 1) := by decide +kernel
theorem dX3_rack_345 : decode cX3_rack 345 = .ok (.getfield 57, 3) := by decide +kernel
theorem dX3_rack_348 : decode cX3_rack 348 = .ok (.iload_n 2, 1) := by decide +kernel
theorem dX3_rack_349 : decode cX3_rack 349 = .ok (.dup2, 1) := by decide +kernel
theorem dX3_rack_350 : decode cX3_rack 350 = .ok (.iaload, 1) := by decide +kernel
theorem dX3_rack_351 : decode cX3_rack 351 = .ok (.iload 8, 2) := by decide +kernel
theorem dX3_rack_353 : decode cX3_rack 353 = .ok (.iadd, 1) := by decide +kernel
theorem dX3_rack_354 : decode cX3_rack 354 = .ok (.iastore, 1) := by decide +kernel
theorem dX3_rack_355 : decode cX3_rack 355 = .ok (.aload_n 0, 1) := by decide +kernel
theorem dX3_rack_356 : decode cX3_rack 356 = .ok (.iload_n 1, 1) := by decide +kernel
theorem dX3_rack_357 : decode cX3_rack 357 = .ok (.invokevirtual 122, 3) := by decide +kernel
theorem dX3_rack_360 : decode cX3_rack 360 = .ok (.ireturn, 1) := by decide +kernel
set_option maxRecDepth 20000 in
theorem ggX3_setWarmth_X3_isIn : GoodIn wsX3_setWarmth wsX3_isIn := goodIn_r _ [6] (by decide +kernel) (by decide +kernel)
set_option maxRecDepth 20000 in
theorem gX3_setWarmth_X3_isIn : GoodIn wsX3_setWarmth (va_wsS RX3 70 yX3_isIn wsX3_isIn) := goodIn_app (goodIn_of _ (by decide +kernel)) ggX3_setWarmth_X3_isIn
set_option maxRecDepth 20000 in
theorem ggX3_setWarmth_X3_no : GoodIn wsX3_setWarmth wsX3_no := goodIn_r _ [10, 1, 11, 12, 13, 14, 15, 16, 17, 18, 19, 20, 21, 22, 23, 24, 25, 26, 27, 28, 29, 30, 31, 32, 33, 34, 35] (by decide +kernel) (by decide +kernel)
set_option maxRecDepth 20000 in
theorem gX3_setWarmth_X3_no : GoodIn wsX3_setWarmth (wsV RX3 74 RX3 yX3_no wsX3_no) := goodIn_app (goodIn_of _ (by decide +kernel)) ggX3_setWarmth_X3_no
theorem dX3_setWarmth_0 : decode cX3_setWarmth 0 = .ok (.aload_n 0, 1) := by decide +kernel
theorem dX3_setWarmth_1 : decode cX3_setWarmth 1 = .ok (.iconst 0, 1) := by decide +kernel
theorem dX3_setWarmth_2 : decode cX3_setWarmth 2 = .ok (.putfield 67, 3) := by decide +kernel
theorem dX3_setWarmth_5 : decode cX3_setWarmth 5 = .ok (.iload_n 1, 1) := by decide +kernel
theorem dX3_setWarmth_6 : decode cX3_setWarmth 6 = .ok (.iconst 0, 1) := by decide +kernel
theorem dX3_setWarmth_7 : decode cX3_setWarmth 7 = .ok (.bipush 9, 2) := by decide +kernel
theorem dX3_setWarmth_9 : decode cX3_setWarmth 9 = .ok (.invokestatic 70, 3) := by decide +kernel
theorem dX3_setWarmth_12 : decode cX3_setWarmth 12 = .ok (.ifCond .ne 9, 3) := by decide +kernel
theorem dX3_setWarmth_15 : decode cX3_setWarmth 15 = .ok (.aload_n 0, 1) := by decide +kernel
theorem dX3_setWarmth_16 : decode cX3_setWarmth 16 = .ok (.iconst 1, 1) := by decide +kernel
theorem dX3_setWarmth_17 : decode cX3_setWarmth 17 = .ok (.invokevirtual 74, 3) := by decide +kernel
theorem dX3_setWarmth_20 : decode cX3_setWarmth 20 = .ok (.ireturn, 1) := by decide +kernel
theorem dX3_setWarmth_21 : decode cX3_setWarmth 21 = .ok (.aload_n 0, 1) := by decide +kernel
theorem dX3_setWarmth_22 : decode cX3_setWarmth 22 = .ok (.getfield 7, 3) := by decide +kernel
theorem dX3_setWarmth_25 : decode cX3_setWarmth 25 = .ok (.istore_n 2, 1) := by decide +kernel
theorem dX3_setWarmth_26 : decode cX3_setWarmth 26 = .ok (.aload_n 0, 1) := by decide +kernel
theorem dX3_setWarmth_27 : decode cX3_setWarmth 27 = .ok (.iload_n 1, 1) := by decide +kernel
theorem dX3_setWarmth_28 : decode cX3_setWarmth 28 = .ok (.putfield 7, 3) := by decide +kernel
theorem dX3_setWarmth_31 : decode cX3_setWarmth 31 = .ok (.iload_n 2, 1) := by decide +kernel
theorem dX3_setWarmth_32 : decode cX3_setWarmth 32 = .ok (.ireturn, 1) := by decide +kernel
set_option maxRecDepth 20000 in
theorem ggX3_pass_X3_all : GoodIn wsX3_pass wsX3_all := goodIn_r _ [28, 14, 44, 45, 46, 47, 48, 49, 50, 51, 52, 53, 54, 55, 56, 57, 58, 59, 60, 61, 62, 63, 64, 65, 66, 67, 68] (by decide +kernel) (by decide +kernel)
set_option maxRecDepth 20000 in
theorem gX3_pass_X3_all : GoodIn wsX3_pass (wsV RX3 122 RX3 yX3_all wsX3_all) := goodIn_app (goodIn_of _ (by decide +kernel)) ggX3_pass_X3_all
set_option maxRecDepth 20000 in
theorem ggX3_pass_X3_leak : GoodIn wsX3_pass wsX3_leak := goodIn_r _ [32, 33, 7, 3, 4, 5, 6, 34, 35, 36, 27, 37, 23, 38, 39, 40, 41, 42, 43, 9, 44, 45, 46, 47, 48, 49, 50, 51, 52, 53, 54, 55, 56, 57, 58, 59, 60, 61, 62, 63, 64, 65, 66, 67, 68] (by decide +kernel) (by decide +kernel)
set_option maxRecDepth 20000 in
theorem gX3_pass_X3_leak : GoodIn wsX3_pass (wsV RX3 131 RX3 yX3_leak wsX3_leak) := goodIn_app (goodIn_of _ (by decide +kernel)) ggX3_pass_X3_leak
set_option maxRecDepth 20000 in
theorem ggX3_pass_X3_hoopsOf : GoodIn wsX3_pass wsX3_hoopsOf := goodIn_r _ [41, 42, 43, 9, 44, 45, 46, 47, 48, 49, 50, 51, 52, 53, 54, 55, 56, 57, 58, 59, 60, 61, 62, 63, 64, 65, 66, 67, 68] (by decide +kernel) (by decide +kernel)
set_option maxRecDepth 20000 in
theorem gX3_pass_X3_hoopsOf : GoodIn wsX3_pass (wsV RX3 113 RX3 yX3_hoopsOf wsX3_hoopsOf) := goodIn_app (goodIn_of _ (by decide +kernel)) ggX3_pass_X3_hoopsOf
theorem dX3_pass_0 : decode cX3_pass 0 = .ok (.aload_n 0, 1) := by decide +kernel
theorem dX3_pass_1 : decode cX3_pass 1 = .ok (.iload_n 1, 1) := by decide +kernel
theorem dX3_pass_2 : decode cX3_pass 2 = .ok (.invokevirtual 122, 3) := by decide +kernel
theorem dX3_pass_5 : decode cX3_pass 5 = .ok (.istore_n 3, 1) := by decide +kernel
theorem dX3_pass_6 : decode cX3_pass 6 = .ok (.iload_n 3, 1) := by decide +kernel
theorem dX3_pass_7 : decode cX3_pass 7 = .ok (.ifCond .le 30, 3) := by decide +kernel
theorem dX3_pass_10 : decode cX3_pass 10 = .ok (.aload_n 0, 1) := by decide +kernel
theorem dX3_pass_11 : decode cX3_pass 11 = .ok (.getfield 57, 3) := by decide +kernel
theorem dX3_pass_14 : decode cX3_pass 14 = .ok (.iload_n 1, 1) := by decide +kernel
theorem dX3_pass_15 : decode cX3_pass 15 = .ok (.dup2, 1) := by decide +kernel
theorem dX3_pass_16 : decode cX3_pass 16 = .ok (.iaload, 1) := by decide +kernel
theorem dX3_pass_17 : decode cX3_pass 17 = .ok (.iload_n 3, 1) := by decide +kernel
theorem dX3_pass_18 : decode cX3_pass 18 = .ok (.bipush 100, 2) := by decide +kernel
theorem dX3_pass_20 : decode cX3_pass 20 = .ok (.idiv, 1) := by decide +kernel
theorem dX3_pass_21 : decode cX3_pass 21 = .ok (.iconst 0, 1) := by decide +kernel
theorem dX3_pass_22 : decode cX3_pass 22 = .ok (.bipush 8, 2) := by decide +kernel
theorem dX3_pass_24 : decode cX3_pass 24 = .ok (.aload_n 0, 1) := by decide +kernel
theorem dX3_pass_25 : decode cX3_pass 25 = .ok (.getfield 48, 3) := by decide +kernel
theorem dX3_pass_28 : decode cX3_pass 28 = .ok (.iload_n 1, 1) := by decide +kernel
theorem dX3_pass_29 : decode cX3_pass 29 = .ok (.iaload, 1) := by decide +kernel
theorem dX3_pass_30 : decode cX3_pass 30 = .ok (.isub, 1) := by decide +kernel
theorem dX3_pass_31 : decode cX3_pass 31 = .ok (.invokestatic 128, 3) := by decide +kernel
theorem dX3_pass_34 : decode cX3_pass 34 = .ok (.imul, 1) := by decide +kernel
theorem dX3_pass_35 : decode cX3_pass 35 = .ok (.iadd, 1) := by decide +kernel
theorem dX3_pass_36 : decode cX3_pass 36 = .ok (.iastore, 1) := by decide +kernel
theorem dX3_pass_37 : decode cX3_pass 37 = .ok (.aload_n 0, 1) := by decide +kernel
theorem dX3_pass_38 : decode cX3_pass 38 = .ok (.getfield 45, 3) := by decide +kernel
theorem dX3_pass_41 : decode cX3_pass 41 = .ok (.iload_n 1, 1) := by decide +kernel
theorem dX3_pass_42 : decode cX3_pass 42 = .ok (.iconst 2, 1) := by decide +kernel
theorem dX3_pass_43 : decode cX3_pass 43 = .ok (.iload_n 3, 1) := by decide +kernel
theorem dX3_pass_44 : decode cX3_pass 44 = .ok (.imul, 1) := by decide +kernel
theorem dX3_pass_45 : decode cX3_pass 45 = .ok (.aload_n 0, 1) := by decide +kernel
theorem dX3_pass_46 : decode cX3_pass 46 = .ok (.getfield 26, 3) := by decide +kernel
theorem dX3_pass_49 : decode cX3_pass 49 = .ok (.aload_n 0, 1) := by decide +kernel
theorem dX3_pass_50 : decode cX3_pass 50 = .ok (.getfield 32, 3) := by decide +kernel
theorem dX3_pass_53 : decode cX3_pass 53 = .ok (.iload_n 1, 1) := by decide +kernel
theorem dX3_pass_54 : decode cX3_pass 54 = .ok (.iaload, 1) := by decide +kernel
theorem dX3_pass_55 : decode cX3_pass 55 = .ok (.iaload, 1) := by decide +kernel
theorem dX3_pass_56 : decode cX3_pass 56 = .ok (.if_icmp .lt 19, 3) := by decide +kernel
theorem dX3_pass_59 : decode cX3_pass 59 = .ok (.bipush 20, 2) := by decide +kernel
theorem dX3_pass_61 : decode cX3_pass 61 = .ok (.aload_n 0, 1) := by decide +kernel
theorem dX3_pass_62 : decode cX3_pass 62 = .ok (.getfield 45, 3) := by decide +kernel
theorem dX3_pass_65 : decode cX3_pass 65 = .ok (.iload_n 1, 1) := by decide +kernel
theorem dX3_pass_66 : decode cX3_pass 66 = .ok (.iaload, 1) := by decide +kernel
theorem dX3_pass_67 : decode cX3_pass 67 = .ok (.iconst 5, 1) := by decide +kernel
theorem dX3_pass_68 : decode cX3_pass 68 = .ok (.iadd, 1) := by decide +kernel
theorem dX3_pass_69 : decode cX3_pass 69 = .ok (.invokestatic 96, 3) := by decide +kernel
theorem dX3_pass_72 : decode cX3_pass 72 = .ok (.goto 15, 3) := by decide +kernel
theorem dX3_pass_75 : decode cX3_pass 75 = .ok (.iconst 0, 1) := by decide +kernel
theorem dX3_pass_76 : decode cX3_pass 76 = .ok (.aload_n 0, 1) := by decide +kernel
theorem dX3_pass_77 : decode cX3_pass 77 = .ok (.getfield 45, 3) := by decide +kernel
theorem dX3_pass_80 : decode cX3_pass 80 = .ok (.iload_n 1, 1) := by decide +kernel
theorem dX3_pass_81 : decode cX3_pass 81 = .ok (.iaload, 1) := by decide +kernel
theorem dX3_pass_82 : decode cX3_pass 82 = .ok (.iconst 3, 1) := by decide +kernel
theorem dX3_pass_83 : decode cX3_pass 83 = .ok (.isub, 1) := by decide +kernel
theorem dX3_pass_84 : decode cX3_pass 84 = .ok (.invokestatic 128, 3) := by decide +kernel
theorem dX3_pass_87 : decode cX3_pass 87 = .ok (.iastore, 1) := by decide +kernel
theorem dX3_pass_88 : decode cX3_pass 88 = .ok (.aload_n 0, 1) := by decide +kernel
theorem dX3_pass_89 : decode cX3_pass 89 = .ok (.iload_n 1, 1) := by decide +kernel
theorem dX3_pass_90 : decode cX3_pass 90 = .ok (.invokevirtual 131, 3) := by decide +kernel
theorem dX3_pass_93 : decode cX3_pass 93 = .ok (.iconst 3, 1) := by decide +kernel
theorem dX3_pass_94 : decode cX3_pass 94 = .ok (.iadd, 1) := by decide +kernel
theorem dX3_pass_95 : decode cX3_pass 95 = .ok (.aload_n 0, 1) := by decide +kernel
theorem dX3_pass_96 : decode cX3_pass 96 = .ok (.getfield 7, 3) := by decide +kernel
theorem dX3_pass_99 : decode cX3_pass 99 = .ok (.iadd, 1) := by decide +kernel
theorem dX3_pass_100 : decode cX3_pass 100 = .ok (.istore 4, 2) := by decide +kernel
theorem dX3_pass_102 : decode cX3_pass 102 = .ok (.iconst 0, 1) := by decide +kernel
theorem dX3_pass_103 : decode cX3_pass 103 = .ok (.istore 5, 2) := by decide +kernel
theorem dX3_pass_105 : decode cX3_pass 105 = .ok (.iconst 5, 1) := by decide +kernel
theorem dX3_pass_106 : decode cX3_pass 106 = .ok (.iload_n 1, 1) := by decide +kernel
theorem dX3_pass_107 : decode cX3_pass 107 = .ok (.imul, 1) := by decide +kernel
theorem dX3_pass_108 : decode cX3_pass 108 = .ok (.istore 6, 2) := by decide +kernel
theorem dX3_pass_110 : decode cX3_pass 110 = .ok (.iload 6, 2) := by decide +kernel
theorem dX3_pass_112 : decode cX3_pass 112 = .ok (.iconst 5, 1) := by decide +kernel
theorem dX3_pass_113 : decode cX3_pass 113 = .ok (.iload_n 1, 1) := by decide +kernel
theorem dX3_pass_114 : decode cX3_pass 114 = .ok (.imul, 1) := by decide +kernel
theorem dX3_pass_115 : decode cX3_pass 115 = .ok (.iconst 5, 1) := by decide +kernel
theorem dX3_pass_116 : decode cX3_pass 116 = .ok (.iadd, 1) := by decide +kernel
theorem dX3_pass_117 : decode cX3_pass 117 = .ok (.if_icmp .ge 76, 3) := by decide +kernel
theorem dX3_pass_120 : decode cX3_pass 120 = .ok (.aload_n 0, 1) := by decide +kernel
theorem dX3_pass_121 : decode cX3_pass 121 = .ok (.getfield 54, 3) := by decide +kernel
theorem dX3_pass_124 : decode cX3_pass 124 = .ok (.iload 6, 2) := by decide +kernel
theorem dX3_pass_126 : decode cX3_pass 126 = .ok (.iaload, 1) := by decide +kernel
theorem dX3_pass_127 : decode cX3_pass 127 = .ok (.ifCond .ne 7, 3) := by decide +kernel
theorem dX3_pass_130 : decode cX3_pass 130 = .ok (.iconst 0, 1) := by decide +kernel
theorem dX3_pass_131 : decode cX3_pass 131 = .ok (.goto 35, 3) := by decide +kernel
theorem dX3_pass_134 : decode cX3_pass 134 = .ok (.aload_n 0, 1) := by decide +kernel
theorem dX3_pass_135 : decode cX3_pass 135 = .ok (.getfield 54, 3) := by decide +kernel
theorem dX3_pass_138 : decode cX3_pass 138 = .ok (.iload 6, 2) := by decide +kernel
theorem dX3_pass_140 : decode cX3_pass 140 = .ok (.iaload, 1) := by decide +kernel
theorem dX3_pass_141 : decode cX3_pass 141 = .ok (.i2l, 1) := by decide +kernel
theorem dX3_pass_142 : decode cX3_pass 142 = .ok (.lconst 1, 1) := by decide +kernel
theorem dX3_pass_143 : decode cX3_pass 143 = .ok (.aload_n 0, 1) := by decide +kernel
theorem dX3_pass_144 : decode cX3_pass 144 = .ok (.getfield 54, 3) := by decide +kernel
theorem dX3_pass_147 : decode cX3_pass 147 = .ok (.iload 6, 2) := by decide +kernel
theorem dX3_pass_149 : decode cX3_pass 149 = .ok (.iaload, 1) := by decide +kernel
theorem dX3_pass_150 : decode cX3_pass 150 = .ok (.i2l, 1) := by decide +kernel
theorem dX3_pass_151 : decode cX3_pass 151 = .ok (.iload 4, 2) := by decide +kernel
theorem dX3_pass_153 : decode cX3_pass 153 = .ok (.i2l, 1) := by decide +kernel
theorem dX3_pass_154 : decode cX3_pass 154 = .ok (.lmul, 1) := by decide +kernel
theorem dX3_pass_155 : decode cX3_pass 155 = .ok (.ldc2_w 144, 3) := by decide +kernel
theorem dX3_pass_158 : decode cX3_pass 158 = .ok (.ldiv, 1) := by decide +kernel
theorem dX3_pass_159 : decode cX3_pass 159 = .ok (.invokestatic 146, 3) := by decide +kernel
theorem dX3_pass_162 : decode cX3_pass 162 = .ok (.invokestatic 149, 3) := by decide +kernel
theorem dX3_pass_165 : decode cX3_pass 165 = .ok (.l2i, 1) := by decide +kernel
theorem dX3_pass_166 : decode cX3_pass 166 = .ok (.istore 7, 2) := by decide +kernel
theorem dX3_pass_168 : decode cX3_pass 168 = .ok (.aload_n 0, 1) := by decide +kernel
theorem dX3_pass_169 : decode cX3_pass 169 = .ok (.getfield 54, 3) := by decide +kernel
theorem dX3_pass_172 : decode cX3_pass 172 = .ok (.iload 6, 2) := by decide +kernel
theorem dX3_pass_174 : decode cX3_pass 174 = .ok (.dup2, 1) := by decide +kernel
theorem dX3_pass_175 : decode cX3_pass 175 = .ok (.iaload, 1) := by decide +kernel
theorem dX3_pass_176 : decode cX3_pass 176 = .ok (.iload 7, 2) := by decide +kernel
theorem dX3_pass_178 : decode cX3_pass 178 = .ok (.isub, 1) := by decide +kernel
theorem dX3_pass_179 : decode cX3_pass 179 = .ok (.iastore, 1) := by decide +kernel
theorem dX3_pass_180 : decode cX3_pass 180 = .ok (.iload 5, 2) := by decide +kernel
theorem dX3_pass_182 : decode cX3_pass 182 = .ok (.iload 7, 2) := by decide +kernel
theorem dX3_pass_184 : decode cX3_pass 184 = .ok (.iadd, 1) := by decide +kernel
theorem dX3_pass_185 : decode cX3_pass 185 = .ok (.istore 5, 2) := by decide +kernel
theorem dX3_pass_187 : decode cX3_pass 187 = .ok (.iinc 6 1, 3) := by decide +kernel
theorem dX3_pass_190 : decode cX3_pass 190 = .ok (.goto (-80), 3) := by decide +kernel
theorem dX3_pass_193 : decode cX3_pass 193 = .ok (.aload_n 0, 1) := by decide +kernel
theorem dX3_pass_194 : decode cX3_pass 194 = .ok (.iload_n 1, 1) := by decide +kernel
theorem dX3_pass_195 : decode cX3_pass 195 = .ok (.invokevirtual 122, 3) := by decide +kernel
theorem dX3_pass_198 : decode cX3_pass 198 = .ok (.istore 6, 2) := by decide +kernel
theorem dX3_pass_200 : decode cX3_pass 200 = .ok (.aload_n 0, 1) := by decide +kernel
theorem dX3_pass_201 : decode cX3_pass 201 = .ok (.getfield 51, 3) := by decide +kernel
theorem dX3_pass_204 : decode cX3_pass 204 = .ok (.iload_n 1, 1) := by decide +kernel
theorem dX3_pass_205 : decode cX3_pass 205 = .ok (.iload 6, 2) := by decide +kernel
theorem dX3_pass_207 : decode cX3_pass 207 = .ok (.ifCond .le 34, 3) := by decide +kernel
theorem dX3_pass_210 : decode cX3_pass 210 = .ok (.iconst 5, 1) := by decide +kernel
theorem dX3_pass_211 : decode cX3_pass 211 = .ok (.iload 6, 2) := by decide +kernel
theorem dX3_pass_213 : decode cX3_pass 213 = .ok (.imul, 1) := by decide +kernel
theorem dX3_pass_214 : decode cX3_pass 214 = .ok (.iconst 4, 1) := by decide +kernel
theorem dX3_pass_215 : decode cX3_pass 215 = .ok (.aload_n 0, 1) := by decide +kernel
theorem dX3_pass_216 : decode cX3_pass 216 = .ok (.getfield 26, 3) := by decide +kernel
theorem dX3_pass_219 : decode cX3_pass 219 = .ok (.aload_n 0, 1) := by decide +kernel
theorem dX3_pass_220 : decode cX3_pass 220 = .ok (.getfield 32, 3) := by decide +kernel
theorem dX3_pass_223 : decode cX3_pass 223 = .ok (.iload_n 1, 1) := by decide +kernel
theorem dX3_pass_224 : decode cX3_pass 224 = .ok (.iaload, 1) := by decide +kernel
theorem dX3_pass_225 : decode cX3_pass 225 = .ok (.iaload, 1) := by decide +kernel
theorem dX3_pass_226 : decode cX3_pass 226 = .ok (.imul, 1) := by decide +kernel
theorem dX3_pass_227 : decode cX3_pass 227 = .ok (.if_icmp .ge 14, 3) := by decide +kernel
theorem dX3_pass_230 : decode cX3_pass 230 = .ok (.aload_n 0, 1) := by decide +kernel
theorem dX3_pass_231 : decode cX3_pass 231 = .ok (.getfield 51, 3) := by decide +kernel
theorem dX3_pass_234 : decode cX3_pass 234 = .ok (.iload_n 1, 1) := by decide +kernel
theorem dX3_pass_235 : decode cX3_pass 235 = .ok (.iaload, 1) := by decide +kernel
theorem dX3_pass_236 : decode cX3_pass 236 = .ok (.iconst 1, 1) := by decide +kernel
theorem dX3_pass_237 : decode cX3_pass 237 = .ok (.iadd, 1) := by decide +kernel
theorem dX3_pass_238 : decode cX3_pass 238 = .ok (.goto 4, 3) := by decide +kernel
theorem dX3_pass_241 : decode cX3_pass 241 = .ok (.iconst 0, 1) := by decide +kernel
theorem dX3_pass_242 : decode cX3_pass 242 = .ok (.iastore, 1) := by decide +kernel
theorem dX3_pass_243 : decode cX3_pass 243 = .ok (.aload_n 0, 1) := by decide +kernel
theorem dX3_pass_244 : decode cX3_pass 244 = .ok (.getfield 51, 3) := by decide +kernel
theorem dX3_pass_247 : decode cX3_pass 247 = .ok (.iload_n 1, 1) := by decide +kernel
theorem dX3_pass_248 : decode cX3_pass 248 = .ok (.iaload, 1) := by decide +kernel
theorem dX3_pass_249 : decode cX3_pass 249 = .ok (.bipush 6, 2) := by decide +kernel
theorem dX3_pass_251 : decode cX3_pass 251 = .ok (.if_icmp .ne 48, 3) := by decide +kernel
theorem dX3_pass_254 : decode cX3_pass 254 = .ok (.iconst 0, 1) := by decide +kernel
theorem dX3_pass_255 : decode cX3_pass 255 = .ok (.istore 7, 2) := by decide +kernel
theorem dX3_pass_257 : decode cX3_pass 257 = .ok (.iload 7, 2) := by decide +kernel
theorem dX3_pass_259 : decode cX3_pass 259 = .ok (.iconst 5, 1) := by decide +kernel
theorem dX3_pass_260 : decode cX3_pass 260 = .ok (.if_icmp .ge 32, 3) := by decide +kernel
theorem dX3_pass_263 : decode cX3_pass 263 = .ok (.aload_n 0, 1) := by decide +kernel
theorem dX3_pass_264 : decode cX3_pass 264 = .ok (.getfield 54, 3) := by decide +kernel
theorem dX3_pass_267 : decode cX3_pass 267 = .ok (.iconst 5, 1) := by decide +kernel
theorem dX3_pass_268 : decode cX3_pass 268 = .ok (.iload_n 1, 1) := by decide +kernel
theorem dX3_pass_269 : decode cX3_pass 269 = .ok (.imul, 1) := by decide +kernel
theorem dX3_pass_270 : decode cX3_pass 270 = .ok (.iload 7, 2) := by decide +kernel
theorem dX3_pass_272 : decode cX3_pass 272 = .ok (.iadd, 1) := by decide +kernel
theorem dX3_pass_273 : decode cX3_pass 273 = .ok (.iload 7, 2) := by decide +kernel
theorem dX3_pass_275 : decode cX3_pass 275 = .ok (.iconst 4, 1) := by decide +kernel
theorem dX3_pass_276 : decode cX3_pass 276 = .ok (.if_icmp .ne 8, 3) := by decide +kernel
theorem dX3_pass_279 : decode cX3_pass 279 = .ok (.iload 6, 2) := by decide +kernel
theorem dX3_pass_281 : decode cX3_pass 281 = .ok (.goto 4, 3) := by decide +kernel
theorem dX3_pass_284 : decode cX3_pass 284 = .ok (.iconst 0, 1) := by decide +kernel
theorem dX3_pass_285 : decode cX3_pass 285 = .ok (.iastore, 1) := by decide +kernel
theorem dX3_pass_286 : decode cX3_pass 286 = .ok (.iinc 7 1, 3) := by decide +kernel
theorem dX3_pass_289 : decode cX3_pass 289 = .ok (.goto (-32), 3) := by decide +kernel
theorem dX3_pass_292 : decode cX3_pass 292 = .ok (.aload_n 0, 1) := by decide +kernel
theorem dX3_pass_293 : decode cX3_pass 293 = .ok (.getfield 51, 3) := by decide +kernel
theorem dX3_pass_296 : decode cX3_pass 296 = .ok (.iload_n 1, 1) := by decide +kernel
theorem dX3_pass_297 : decode cX3_pass 297 = .ok (.iconst 0, 1) := by decide +kernel
theorem dX3_pass_298 : decode cX3_pass 298 = .ok (.iastore, 1) := by decide +kernel
theorem dX3_pass_299 : decode cX3_pass 299 = .ok (.iconst 0, 1) := by decide +kernel
theorem dX3_pass_300 : decode cX3_pass 300 = .ok (.istore 7, 2) := by decide +kernel
theorem dX3_pass_302 : decode cX3_pass 302 = .ok (.iload 7, 2) := by decide +kernel
theorem dX3_pass_304 : decode cX3_pass 304 = .ok (.aload_n 0, 1) := by decide +kernel
theorem dX3_pass_305 : decode cX3_pass 305 = .ok (.iload_n 1, 1) := by decide +kernel
theorem dX3_pass_306 : decode cX3_pass 306 = .ok (.invokevirtual 113, 3) := by decide +kernel
theorem dX3_pass_309 : decode cX3_pass 309 = .ok (.if_icmp .ge 46, 3) := by decide +kernel
theorem dX3_pass_312 : decode cX3_pass 312 = .ok (.iload_n 2, 1) := by decide +kernel
theorem dX3_pass_313 : decode cX3_pass 313 = .ok (.bipush 12, 2) := by decide +kernel
theorem dX3_pass_315 : decode cX3_pass 315 = .ok (.irem, 1) := by decide +kernel
theorem dX3_pass_316 : decode cX3_pass 316 = .ok (.ifCond .ne 39, 3) := by decide +kernel
theorem dX3_pass_319 : decode cX3_pass 319 = .ok (.aload_n 0, 1) := by decide +kernel
theorem dX3_pass_320 : decode cX3_pass 320 = .ok (.getfield 42, 3) := by decide +kernel
theorem dX3_pass_323 : decode cX3_pass 323 = .ok (.bipush 8, 2) := by decide +kernel
theorem dX3_pass_325 : decode cX3_pass 325 = .ok (.iload_n 1, 1) := by decide +kernel
theorem dX3_pass_326 : decode cX3_pass 326 = .ok (.imul, 1) := by decide +kernel
theorem dX3_pass_327 : decode cX3_pass 327 = .ok (.iload 7, 2) := by decide +kernel
theorem dX3_pass_329 : decode cX3_pass 329 = .ok (.iadd, 1) := by decide +kernel
theorem dX3_pass_330 : decode cX3_pass 330 = .ok (.iconst 0, 1) := by decide +kernel
theorem dX3_pass_331 : decode cX3_pass 331 = .ok (.aload_n 0, 1) := by decide +kernel
theorem dX3_pass_332 : decode cX3_pass 332 = .ok (.getfield 42, 3) := by decide +kernel
theorem dX3_pass_335 : decode cX3_pass 335 = .ok (.bipush 8, 2) := by decide +kernel
theorem dX3_pass_337 : decode cX3_pass 337 = .ok (.iload_n 1, 1) := by decide +kernel
theorem dX3_pass_338 : decode cX3_pass 338 = .ok (.imul, 1) := by decide +kernel
theorem dX3_pass_339 : decode cX3_pass 339 = .ok (.iload 7, 2) := by decide +kernel
theorem dX3_pass_341 : decode cX3_pass 341 = .ok (.iadd, 1) := by decide +kernel
theorem dX3_pass_342 : decode cX3_pass 342 = .ok (.iaload, 1) := by decide +kernel
theorem dX3_pass_343 : decode cX3_pass 343 = .ok (.iconst 1, 1) := by decide +kernel
theorem dX3_pass_344 : decode cX3_pass 344 = .ok (.isub, 1) := by decide +kernel
theorem dX3_pass_345 : decode cX3_pass 345 = .ok (.invokestatic 128, 3) := by decide +kernel
theorem dX3_pass_348 : decode cX3_pass 348 = .ok (.iastore, 1) := by decide +kernel
theorem dX3_pass_349 : decode cX3_pass 349 = .ok (.iinc 7 1, 3) := by decide +kernel
theorem dX3_pass_352 : decode cX3_pass 352 = .ok (.goto (-50), 3) := by decide +kernel
theorem dX3_pass_355 : decode cX3_pass 355 = .ok (.iload 5, 2) := by decide +kernel
theorem dX3_pass_357 : decode cX3_pass 357 = .ok (.ireturn, 1) := by decide +kernel
set_option maxRecDepth 20000 in
theorem ggX3_pass__X3_isIn : GoodIn wsX3_pass_ wsX3_isIn := goodIn_r _ [16] (by decide +kernel) (by decide +kernel)
set_option maxRecDepth 20000 in
theorem gX3_pass__X3_isIn : GoodIn wsX3_pass_ (va_wsS RX3 70 yX3_isIn wsX3_isIn) := goodIn_app (goodIn_of _ (by decide +kernel)) ggX3_pass__X3_isIn
set_option maxRecDepth 20000 in
theorem ggX3_pass__X3_no : GoodIn wsX3_pass_ wsX3_no := goodIn_r _ [20, 1, 62, 63, 64, 65, 66, 67, 68, 69, 70, 71, 72, 73, 74, 75, 76, 77, 78, 79, 80, 81, 82, 83, 84, 85, 86] (by decide +kernel) (by decide +kernel)
set_option maxRecDepth 20000 in
theorem gX3_pass__X3_no : GoodIn wsX3_pass_ (wsV RX3 74 RX3 yX3_no wsX3_no) := goodIn_app (goodIn_of _ (by decide +kernel)) ggX3_pass__X3_no
set_option maxRecDepth 20000 in
theorem ggX3_pass__X3_pass : GoodIn wsX3_pass_ wsX3_pass := goodIn_r _ [24, 25, 26, 27, 28, 9, 29, 30, 31, 32, 7, 8, 10, 33, 34, 35, 36, 37, 38, 39, 40, 41, 42, 43, 44, 45, 46, 15, 47, 48, 49, 50, 51, 52, 53, 54, 55, 56, 57, 58, 59, 60, 12, 61, 62, 63, 64, 65, 66, 67, 68, 69, 70, 71, 72, 73, 74, 75, 76, 77, 78, 79, 80, 81, 82, 83, 84, 85, 86] (by decide +kernel) (by decide +kernel)
set_option maxRecDepth 20000 in
theorem gX3_pass__X3_pass : GoodIn wsX3_pass_ (wsV RX3 157 RX3 yX3_pass wsX3_pass) := goodIn_app (goodIn_of _ (by decide +kernel)) ggX3_pass__X3_pass
theorem dX3_pass__0 : decode cX3_pass_ 0 = .ok (.aload_n 0, 1) := by decide +kernel
theorem dX3_pass__1 : decode cX3_pass_ 1 = .ok (.iconst 0, 1) := by decide +kernel
theorem dX3_pass__2 : decode cX3_pass_ 2 = .ok (.putfield 67, 3) := by decide +kernel
theorem dX3_pass__5 : decode cX3_pass_ 5 = .ok (.iload_n 1, 1) := by decide +kernel
theorem dX3_pass__6 : decode cX3_pass_ 6 = .ok (.iconst 1, 1) := by decide +kernel
theorem dX3_pass__7 : decode cX3_pass_ 7 = .ok (.bipush 60, 2) := by decide +kernel
theorem dX3_pass__9 : decode cX3_pass_ 9 = .ok (.invokestatic 70, 3) := by decide +kernel
theorem dX3_pass__12 : decode cX3_pass_ 12 = .ok (.ifCond .ne 9, 3) := by decide +kernel
theorem dX3_pass__15 : decode cX3_pass_ 15 = .ok (.aload_n 0, 1) := by decide +kernel
theorem dX3_pass__16 : decode cX3_pass_ 16 = .ok (.iconst 1, 1) := by decide +kernel
theorem dX3_pass__17 : decode cX3_pass_ 17 = .ok (.invokevirtual 74, 3) := by decide +kernel
theorem dX3_pass__20 : decode cX3_pass_ 20 = .ok (.ireturn, 1) := by decide +kernel
theorem dX3_pass__21 : decode cX3_pass_ 21 = .ok (.aload_n 0, 1) := by decide +kernel
theorem dX3_pass__22 : decode cX3_pass_ 22 = .ok (.getfield 151, 3) := by decide +kernel
theorem dX3_pass__25 : decode cX3_pass_ 25 = .ok (.iload_n 1, 1) := by decide +kernel
theorem dX3_pass__26 : decode cX3_pass_ 26 = .ok (.iadd, 1) := by decide +kernel
theorem dX3_pass__27 : decode cX3_pass_ 27 = .ok (.sipush 1200, 3) := by decide +kernel
theorem dX3_pass__30 : decode cX3_pass_ 30 = .ok (.if_icmp .le 9, 3) := by decide +kernel
theorem dX3_pass__33 : decode cX3_pass_ 33 = .ok (.aload_n 0, 1) := by decide +kernel
theorem dX3_pass__34 : decode cX3_pass_ 34 = .ok (.iconst 2, 1) := by decide +kernel
theorem dX3_pass__35 : decode cX3_pass_ 35 = .ok (.invokevirtual 74, 3) := by decide +kernel
theorem dX3_pass__38 : decode cX3_pass_ 38 = .ok (.ireturn, 1) := by decide +kernel
theorem dX3_pass__39 : decode cX3_pass_ 39 = .ok (.aload_n 0, 1) := by decide +kernel
theorem dX3_pass__40 : decode cX3_pass_ 40 = .ok (.getfield 154, 3) := by decide +kernel
theorem dX3_pass__43 : decode cX3_pass_ 43 = .ok (.istore_n 2, 1) := by decide +kernel
theorem dX3_pass__44 : decode cX3_pass_ 44 = .ok (.iconst 0, 1) := by decide +kernel
theorem dX3_pass__45 : decode cX3_pass_ 45 = .ok (.istore_n 3, 1) := by decide +kernel
theorem dX3_pass__46 : decode cX3_pass_ 46 = .ok (.iload_n 3, 1) := by decide +kernel
theorem dX3_pass__47 : decode cX3_pass_ 47 = .ok (.iload_n 1, 1) := by decide +kernel
theorem dX3_pass__48 : decode cX3_pass_ 48 = .ok (.if_icmp .ge 118, 3) := by decide +kernel
theorem dX3_pass__51 : decode cX3_pass_ 51 = .ok (.iconst 0, 1) := by decide +kernel
theorem dX3_pass__52 : decode cX3_pass_ 52 = .ok (.istore 4, 2) := by decide +kernel
theorem dX3_pass__54 : decode cX3_pass_ 54 = .ok (.iload 4, 2) := by decide +kernel
theorem dX3_pass__56 : decode cX3_pass_ 56 = .ok (.aload_n 0, 1) := by decide +kernel
theorem dX3_pass__57 : decode cX3_pass_ 57 = .ok (.getfield 78, 3) := by decide +kernel
theorem dX3_pass__60 : decode cX3_pass_ 60 = .ok (.if_icmp .ge 41, 3) := by decide +kernel
theorem dX3_pass__63 : decode cX3_pass_ 63 = .ok (.aload_n 0, 1) := by decide +kernel
theorem dX3_pass__64 : decode cX3_pass_ 64 = .ok (.getfield 20, 3) := by decide +kernel
theorem dX3_pass__67 : decode cX3_pass_ 67 = .ok (.iload 4, 2) := by decide +kernel
theorem dX3_pass__69 : decode cX3_pass_ 69 = .ok (.iaload, 1) := by decide +kernel
theorem dX3_pass__70 : decode cX3_pass_ 70 = .ok (.iconst (-1), 1) := by decide +kernel
theorem dX3_pass__71 : decode cX3_pass_ 71 = .ok (.if_icmp .ne 24, 3) := by decide +kernel
theorem dX3_pass__74 : decode cX3_pass_ 74 = .ok (.aload_n 0, 1) := by decide +kernel
theorem dX3_pass__75 : decode cX3_pass_ 75 = .ok (.getfield 17, 3) := by decide +kernel
theorem dX3_pass__78 : decode cX3_pass_ 78 = .ok (.iload 4, 2) := by decide +kernel
theorem dX3_pass__80 : decode cX3_pass_ 80 = .ok (.bipush 100, 2) := by decide +kernel
theorem dX3_pass__82 : decode cX3_pass_ 82 = .ok (.aload_n 0, 1) := by decide +kernel
theorem dX3_pass__83 : decode cX3_pass_ 83 = .ok (.getfield 17, 3) := by decide +kernel
theorem dX3_pass__86 : decode cX3_pass_ 86 = .ok (.iload 4, 2) := by decide +kernel
theorem dX3_pass__88 : decode cX3_pass_ 88 = .ok (.iaload, 1) := by decide +kernel
theorem dX3_pass__89 : decode cX3_pass_ 89 = .ok (.iconst 4, 1) := by decide +kernel
theorem dX3_pass__90 : decode cX3_pass_ 90 = .ok (.iadd, 1) := by decide +kernel
theorem dX3_pass__91 : decode cX3_pass_ 91 = .ok (.invokestatic 96, 3) := by decide +kernel
theorem dX3_pass__94 : decode cX3_pass_ 94 = .ok (.iastore, 1) := by decide +kernel
theorem dX3_pass__95 : decode cX3_pass_ 95 = .ok (.iinc 4 1, 3) := by decide +kernel
theorem dX3_pass__98 : decode cX3_pass_ 98 = .ok (.goto (-44), 3) := by decide +kernel
theorem dX3_pass__101 : decode cX3_pass_ 101 = .ok (.iconst 0, 1) := by decide +kernel
theorem dX3_pass__102 : decode cX3_pass_ 102 = .ok (.istore 4, 2) := by decide +kernel
theorem dX3_pass__104 : decode cX3_pass_ 104 = .ok (.iload 4, 2) := by decide +kernel
theorem dX3_pass__106 : decode cX3_pass_ 106 = .ok (.aload_n 0, 1) := by decide +kernel
theorem dX3_pass__107 : decode cX3_pass_ 107 = .ok (.getfield 110, 3) := by decide +kernel
theorem dX3_pass__110 : decode cX3_pass_ 110 = .ok (.if_icmp .ge 40, 3) := by decide +kernel
theorem dX3_pass__113 : decode cX3_pass_ 113 = .ok (.aload_n 0, 1) := by decide +kernel
theorem dX3_pass__114 : decode cX3_pass_ 114 = .ok (.getfield 35, 3) := by decide +kernel
theorem dX3_pass__117 : decode cX3_pass_ 117 = .ok (.iload 4, 2) := by decide +kernel
theorem dX3_pass__119 : decode cX3_pass_ 119 = .ok (.baload, 1) := by decide +kernel
theorem dX3_pass__120 : decode cX3_pass_ 120 = .ok (.ifCond .eq 24, 3) := by decide +kernel
theorem dX3_pass__123 : decode cX3_pass_ 123 = .ok (.aload_n 0, 1) := by decide +kernel
theorem dX3_pass__124 : decode cX3_pass_ 124 = .ok (.dup, 1) := by decide +kernel
theorem dX3_pass__125 : decode cX3_pass_ 125 = .ok (.getfield 154, 3) := by decide +kernel
theorem dX3_pass__128 : decode cX3_pass_ 128 = .ok (.aload_n 0, 1) := by decide +kernel
theorem dX3_pass__129 : decode cX3_pass_ 129 = .ok (.iload 4, 2) := by decide +kernel
theorem dX3_pass__131 : decode cX3_pass_ 131 = .ok (.aload_n 0, 1) := by decide +kernel
theorem dX3_pass__132 : decode cX3_pass_ 132 = .ok (.getfield 151, 3) := by decide +kernel
theorem dX3_pass__135 : decode cX3_pass_ 135 = .ok (.iconst 1, 1) := by decide +kernel
theorem dX3_pass__136 : decode cX3_pass_ 136 = .ok (.iadd, 1) := by decide +kernel
theorem dX3_pass__137 : decode cX3_pass_ 137 = .ok (.invokevirtual 157, 3) := by decide +kernel
theorem dX3_pass__140 : decode cX3_pass_ 140 = .ok (.iadd, 1) := by decide +kernel
theorem dX3_pass__141 : decode cX3_pass_ 141 = .ok (.putfield 154, 3) := by decide +kernel
theorem dX3_pass__144 : decode cX3_pass_ 144 = .ok (.iinc 4 1, 3) := by decide +kernel
theorem dX3_pass__147 : decode cX3_pass_ 147 = .ok (.goto (-43), 3) := by decide +kernel
theorem dX3_pass__150 : decode cX3_pass_ 150 = .ok (.aload_n 0, 1) := by decide +kernel
theorem dX3_pass__151 : decode cX3_pass_ 151 = .ok (.dup, 1) := by decide +kernel
theorem dX3_pass__152 : decode cX3_pass_ 152 = .ok (.getfield 151, 3) := by decide +kernel
theorem dX3_pass__155 : decode cX3_pass_ 155 = .ok (.iconst 1, 1) := by decide +kernel
theorem dX3_pass__156 : decode cX3_pass_ 156 = .ok (.iadd, 1) := by decide +kernel
theorem dX3_pass__157 : decode cX3_pass_ 157 = .ok (.putfield 151, 3) := by decide +kernel
theorem dX3_pass__160 : decode cX3_pass_ 160 = .ok (.iinc 3 1, 3) := by decide +kernel
theorem dX3_pass__163 : decode cX3_pass_ 163 = .ok (.goto (-117), 3) := by decide +kernel
theorem dX3_pass__166 : decode cX3_pass_ 166 = .ok (.aload_n 0, 1) := by decide +kernel
theorem dX3_pass__167 : decode cX3_pass_ 167 = .ok (.getfield 154, 3) := by decide +kernel
theorem dX3_pass__170 : decode cX3_pass_ 170 = .ok (.iload_n 2, 1) := by decide +kernel
theorem dX3_pass__171 : decode cX3_pass_ 171 = .ok (.isub, 1) := by decide +kernel
theorem dX3_pass__172 : decode cX3_pass_ 172 = .ok (.ireturn, 1) := by decide +kernel
set_option maxRecDepth 20000 in
theorem ggX3_counted_X3_all : GoodIn wsX3_counted wsX3_all := goodIn_r _ [15, 5, 16, 17, 18, 19, 20, 21, 22, 23, 24, 25, 26, 27, 28, 29, 30, 31, 32, 33, 34, 35, 36, 37, 38, 39, 40] (by decide +kernel) (by decide +kernel)
set_option maxRecDepth 20000 in
theorem gX3_counted_X3_all : GoodIn wsX3_counted (wsV RX3 122 RX3 yX3_all wsX3_all) := goodIn_app (goodIn_of _ (by decide +kernel)) ggX3_counted_X3_all
theorem dX3_counted_0 : decode cX3_counted 0 = .ok (.iconst 0, 1) := by decide +kernel
theorem dX3_counted_1 : decode cX3_counted 1 = .ok (.istore_n 2, 1) := by decide +kernel
theorem dX3_counted_2 : decode cX3_counted 2 = .ok (.iconst 0, 1) := by decide +kernel
theorem dX3_counted_3 : decode cX3_counted 3 = .ok (.istore_n 3, 1) := by decide +kernel
theorem dX3_counted_4 : decode cX3_counted 4 = .ok (.iconst 0, 1) := by decide +kernel
theorem dX3_counted_5 : decode cX3_counted 5 = .ok (.istore 4, 2) := by decide +kernel
theorem dX3_counted_7 : decode cX3_counted 7 = .ok (.iconst 0, 1) := by decide +kernel
theorem dX3_counted_8 : decode cX3_counted 8 = .ok (.istore 5, 2) := by decide +kernel
theorem dX3_counted_10 : decode cX3_counted 10 = .ok (.iconst 0, 1) := by decide +kernel
theorem dX3_counted_11 : decode cX3_counted 11 = .ok (.istore 6, 2) := by decide +kernel
theorem dX3_counted_13 : decode cX3_counted 13 = .ok (.iload 6, 2) := by decide +kernel
theorem dX3_counted_15 : decode cX3_counted 15 = .ok (.aload_n 0, 1) := by decide +kernel
theorem dX3_counted_16 : decode cX3_counted 16 = .ok (.getfield 78, 3) := by decide +kernel
theorem dX3_counted_19 : decode cX3_counted 19 = .ok (.if_icmp .ge 28, 3) := by decide +kernel
theorem dX3_counted_22 : decode cX3_counted 22 = .ok (.iload_n 2, 1) := by decide +kernel
theorem dX3_counted_23 : decode cX3_counted 23 = .ok (.aload_n 0, 1) := by decide +kernel
theorem dX3_counted_24 : decode cX3_counted 24 = .ok (.getfield 20, 3) := by decide +kernel
theorem dX3_counted_27 : decode cX3_counted 27 = .ok (.iload 6, 2) := by decide +kernel
theorem dX3_counted_29 : decode cX3_counted 29 = .ok (.iaload, 1) := by decide +kernel
theorem dX3_counted_30 : decode cX3_counted 30 = .ok (.iconst (-1), 1) := by decide +kernel
theorem dX3_counted_31 : decode cX3_counted 31 = .ok (.if_icmp .ne 7, 3) := by decide +kernel
theorem dX3_counted_34 : decode cX3_counted 34 = .ok (.iconst 1, 1) := by decide +kernel
theorem dX3_counted_35 : decode cX3_counted 35 = .ok (.goto 4, 3) := by decide +kernel
theorem dX3_counted_38 : decode cX3_counted 38 = .ok (.iconst 0, 1) := by decide +kernel
theorem dX3_counted_39 : decode cX3_counted 39 = .ok (.iadd, 1) := by decide +kernel
theorem dX3_counted_40 : decode cX3_counted 40 = .ok (.istore_n 2, 1) := by decide +kernel
theorem dX3_counted_41 : decode cX3_counted 41 = .ok (.iinc 6 1, 3) := by decide +kernel
theorem dX3_counted_44 : decode cX3_counted 44 = .ok (.goto (-31), 3) := by decide +kernel
theorem dX3_counted_47 : decode cX3_counted 47 = .ok (.iconst 0, 1) := by decide +kernel
theorem dX3_counted_48 : decode cX3_counted 48 = .ok (.istore 6, 2) := by decide +kernel
theorem dX3_counted_50 : decode cX3_counted 50 = .ok (.iload 6, 2) := by decide +kernel
theorem dX3_counted_52 : decode cX3_counted 52 = .ok (.aload_n 0, 1) := by decide +kernel
theorem dX3_counted_53 : decode cX3_counted 53 = .ok (.getfield 110, 3) := by decide +kernel
theorem dX3_counted_56 : decode cX3_counted 56 = .ok (.if_icmp .ge 54, 3) := by decide +kernel
theorem dX3_counted_59 : decode cX3_counted 59 = .ok (.iload_n 3, 1) := by decide +kernel
theorem dX3_counted_60 : decode cX3_counted 60 = .ok (.aload_n 0, 1) := by decide +kernel
theorem dX3_counted_61 : decode cX3_counted 61 = .ok (.getfield 35, 3) := by decide +kernel
theorem dX3_counted_64 : decode cX3_counted 64 = .ok (.iload 6, 2) := by decide +kernel
theorem dX3_counted_66 : decode cX3_counted 66 = .ok (.baload, 1) := by decide +kernel
theorem dX3_counted_67 : decode cX3_counted 67 = .ok (.ifCond .eq 7, 3) := by decide +kernel
theorem dX3_counted_70 : decode cX3_counted 70 = .ok (.iconst 1, 1) := by decide +kernel
theorem dX3_counted_71 : decode cX3_counted 71 = .ok (.goto 4, 3) := by decide +kernel
theorem dX3_counted_74 : decode cX3_counted 74 = .ok (.iconst 0, 1) := by decide +kernel
theorem dX3_counted_75 : decode cX3_counted 75 = .ok (.iadd, 1) := by decide +kernel
theorem dX3_counted_76 : decode cX3_counted 76 = .ok (.istore_n 3, 1) := by decide +kernel
theorem dX3_counted_77 : decode cX3_counted 77 = .ok (.iload 4, 2) := by decide +kernel
theorem dX3_counted_79 : decode cX3_counted 79 = .ok (.aload_n 0, 1) := by decide +kernel
theorem dX3_counted_80 : decode cX3_counted 80 = .ok (.iload 6, 2) := by decide +kernel
theorem dX3_counted_82 : decode cX3_counted 82 = .ok (.invokevirtual 122, 3) := by decide +kernel
theorem dX3_counted_85 : decode cX3_counted 85 = .ok (.iadd, 1) := by decide +kernel
theorem dX3_counted_86 : decode cX3_counted 86 = .ok (.istore 4, 2) := by decide +kernel
theorem dX3_counted_88 : decode cX3_counted 88 = .ok (.iload 5, 2) := by decide +kernel
theorem dX3_counted_90 : decode cX3_counted 90 = .ok (.aload_n 0, 1) := by decide +kernel
theorem dX3_counted_91 : decode cX3_counted 91 = .ok (.getfield 54, 3) := by decide +kernel
theorem dX3_counted_94 : decode cX3_counted 94 = .ok (.iconst 5, 1) := by decide +kernel
theorem dX3_counted_95 : decode cX3_counted 95 = .ok (.iload 6, 2) := by decide +kernel
theorem dX3_counted_97 : decode cX3_counted 97 = .ok (.imul, 1) := by decide +kernel
theorem dX3_counted_98 : decode cX3_counted 98 = .ok (.iconst 4, 1) := by decide +kernel
theorem dX3_counted_99 : decode cX3_counted 99 = .ok (.iadd, 1) := by decide +kernel
theorem dX3_counted_100 : decode cX3_counted 100 = .ok (.iaload, 1) := by decide +kernel
theorem dX3_counted_101 : decode cX3_counted 101 = .ok (.iadd, 1) := by decide +kernel
theorem dX3_counted_102 : decode cX3_counted 102 = .ok (.istore 5, 2) := by decide +kernel
theorem dX3_counted_104 : decode cX3_counted 104 = .ok (.iinc 6 1, 3) := by decide +kernel
theorem dX3_counted_107 : decode cX3_counted 107 = .ok (.goto (-57), 3) := by decide +kernel
theorem dX3_counted_110 : decode cX3_counted 110 = .ok (.bipush 10, 2) := by decide +kernel
theorem dX3_counted_112 : decode cX3_counted 112 = .ok (.newarray .int, 2) := by decide +kernel
theorem dX3_counted_114 : decode cX3_counted 114 = .ok (.dup, 1) := by decide +kernel
theorem dX3_counted_115 : decode cX3_counted 115 = .ok (.iconst 0, 1) := by decide +kernel
theorem dX3_counted_116 : decode cX3_counted 116 = .ok (.aload_n 0, 1) := by decide +kernel
theorem dX3_counted_117 : decode cX3_counted 117 = .ok (.getfield 151, 3) := by decide +kernel
theorem dX3_counted_120 : decode cX3_counted 120 = .ok (.iastore, 1) := by decide +kernel
theorem dX3_counted_121 : decode cX3_counted 121 = .ok (.dup, 1) := by decide +kernel
theorem dX3_counted_122 : decode cX3_counted 122 = .ok (.iconst 1, 1) := by decide +kernel
theorem dX3_counted_123 : decode cX3_counted 123 = .ok (.aload_n 0, 1) := by decide +kernel
theorem dX3_counted_124 : decode cX3_counted 124 = .ok (.getfield 78, 3) := by decide +kernel
theorem dX3_counted_127 : decode cX3_counted 127 = .ok (.iastore, 1) := by decide +kernel
theorem dX3_counted_128 : decode cX3_counted 128 = .ok (.dup, 1) := by decide +kernel
theorem dX3_counted_129 : decode cX3_counted 129 = .ok (.iconst 2, 1) := by decide +kernel
theorem dX3_counted_130 : decode cX3_counted 130 = .ok (.iload_n 2, 1) := by decide +kernel
theorem dX3_counted_131 : decode cX3_counted 131 = .ok (.iastore, 1) := by decide +kernel
theorem dX3_counted_132 : decode cX3_counted 132 = .ok (.dup, 1) := by decide +kernel
theorem dX3_counted_133 : decode cX3_counted 133 = .ok (.iconst 3, 1) := by decide +kernel
theorem dX3_counted_134 : decode cX3_counted 134 = .ok (.aload_n 0, 1) := by decide +kernel
theorem dX3_counted_135 : decode cX3_counted 135 = .ok (.getfield 90, 3) := by decide +kernel
theorem dX3_counted_138 : decode cX3_counted 138 = .ok (.iastore, 1) := by decide +kernel
theorem dX3_counted_139 : decode cX3_counted 139 = .ok (.dup, 1) := by decide +kernel
theorem dX3_counted_140 : decode cX3_counted 140 = .ok (.iconst 4, 1) := by decide +kernel
theorem dX3_counted_141 : decode cX3_counted 141 = .ok (.aload_n 0, 1) := by decide +kernel
theorem dX3_counted_142 : decode cX3_counted 142 = .ok (.getfield 110, 3) := by decide +kernel
theorem dX3_counted_145 : decode cX3_counted 145 = .ok (.iastore, 1) := by decide +kernel
theorem dX3_counted_146 : decode cX3_counted 146 = .ok (.dup, 1) := by decide +kernel
theorem dX3_counted_147 : decode cX3_counted 147 = .ok (.iconst 5, 1) := by decide +kernel
theorem dX3_counted_148 : decode cX3_counted 148 = .ok (.iload_n 3, 1) := by decide +kernel
theorem dX3_counted_149 : decode cX3_counted 149 = .ok (.iastore, 1) := by decide +kernel
theorem dX3_counted_150 : decode cX3_counted 150 = .ok (.dup, 1) := by decide +kernel
theorem dX3_counted_151 : decode cX3_counted 151 = .ok (.bipush 6, 2) := by decide +kernel
theorem dX3_counted_153 : decode cX3_counted 153 = .ok (.iload 4, 2) := by decide +kernel
theorem dX3_counted_155 : decode cX3_counted 155 = .ok (.iastore, 1) := by decide +kernel
theorem dX3_counted_156 : decode cX3_counted 156 = .ok (.dup, 1) := by decide +kernel
theorem dX3_counted_157 : decode cX3_counted 157 = .ok (.bipush 7, 2) := by decide +kernel
theorem dX3_counted_159 : decode cX3_counted 159 = .ok (.iload 5, 2) := by decide +kernel
theorem dX3_counted_161 : decode cX3_counted 161 = .ok (.iastore, 1) := by decide +kernel
theorem dX3_counted_162 : decode cX3_counted 162 = .ok (.dup, 1) := by decide +kernel
theorem dX3_counted_163 : decode cX3_counted 163 = .ok (.bipush 8, 2) := by decide +kernel
theorem dX3_counted_165 : decode cX3_counted 165 = .ok (.aload_n 0, 1) := by decide +kernel
theorem dX3_counted_166 : decode cX3_counted 166 = .ok (.getfield 154, 3) := by decide +kernel
theorem dX3_counted_169 : decode cX3_counted 169 = .ok (.iastore, 1) := by decide +kernel
theorem dX3_counted_170 : decode cX3_counted 170 = .ok (.dup, 1) := by decide +kernel
theorem dX3_counted_171 : decode cX3_counted 171 = .ok (.bipush 9, 2) := by decide +kernel
theorem dX3_counted_173 : decode cX3_counted 173 = .ok (.aload_n 0, 1) := by decide +kernel
theorem dX3_counted_174 : decode cX3_counted 174 = .ok (.getfield 7, 3) := by decide +kernel
theorem dX3_counted_177 : decode cX3_counted 177 = .ok (.iastore, 1) := by decide +kernel
theorem dX3_counted_178 : decode cX3_counted 178 = .ok (.astore 6, 2) := by decide +kernel
theorem dX3_counted_180 : decode cX3_counted 180 = .ok (.aload 6, 2) := by decide +kernel
theorem dX3_counted_182 : decode cX3_counted 182 = .ok (.iload_n 1, 1) := by decide +kernel
theorem dX3_counted_183 : decode cX3_counted 183 = .ok (.iaload, 1) := by decide +kernel
theorem dX3_counted_184 : decode cX3_counted 184 = .ok (.ireturn, 1) := by decide +kernel
set_option maxRecDepth 20000 in
theorem ggX3_count_X3_isIn : GoodIn wsX3_count wsX3_isIn := goodIn_r _ [5] (by decide +kernel) (by decide +kernel)
set_option maxRecDepth 20000 in
theorem gX3_count_X3_isIn : GoodIn wsX3_count (va_wsS RX3 70 yX3_isIn wsX3_isIn) := goodIn_app (goodIn_of _ (by decide +kernel)) ggX3_count_X3_isIn
set_option maxRecDepth 20000 in
theorem ggX3_count_X3_counted : GoodIn wsX3_count wsX3_counted := goodIn_r _ [9, 10, 11, 12, 13, 14, 15, 16, 17, 18, 19, 20, 21, 22, 4, 23, 28, 29, 30, 31, 32, 33, 34, 35, 36, 37, 38, 39, 40, 41, 42, 43, 44, 45, 46, 47, 48, 49, 50, 51, 52] (by decide +kernel) (by decide +kernel)
set_option maxRecDepth 20000 in
theorem gX3_count_X3_counted : GoodIn wsX3_count (wsV RX3 160 RX3 yX3_counted wsX3_counted) := goodIn_app (goodIn_of _ (by decide +kernel)) ggX3_count_X3_counted
set_option maxRecDepth 20000 in
theorem ggX3_count_X3_no : GoodIn wsX3_count wsX3_no := goodIn_r _ [27, 1, 28, 29, 30, 31, 32, 33, 34, 35, 36, 37, 38, 39, 40, 41, 42, 43, 44, 45, 46, 47, 48, 49, 50, 51, 52] (by decide +kernel) (by decide +kernel)
set_option maxRecDepth 20000 in
theorem gX3_count_X3_no : GoodIn wsX3_count (wsV RX3 74 RX3 yX3_no wsX3_no) := goodIn_app (goodIn_of _ (by decide +kernel)) ggX3_count_X3_no
theorem dX3_count_0 : decode cX3_count 0 = .ok (.aload_n 0, 1) := by decide +kernel
theorem dX3_count_1 : decode cX3_count 1 = .ok (.iconst 0, 1) := by decide +kernel
theorem dX3_count_2 : decode cX3_count 2 = .ok (.putfield 67, 3) := by decide +kernel
theorem dX3_count_5 : decode cX3_count 5 = .ok (.iload_n 1, 1) := by decide +kernel
theorem dX3_count_6 : decode cX3_count 6 = .ok (.iconst 0, 1) := by decide +kernel
theorem dX3_count_7 : decode cX3_count 7 = .ok (.bipush 9, 2) := by decide +kernel
theorem dX3_count_9 : decode cX3_count 9 = .ok (.invokestatic 70, 3) := by decide +kernel
theorem dX3_count_12 : decode cX3_count 12 = .ok (.ifCond .eq 11, 3) := by decide +kernel
theorem dX3_count_15 : decode cX3_count 15 = .ok (.aload_n 0, 1) := by decide +kernel
theorem dX3_count_16 : decode cX3_count 16 = .ok (.iload_n 1, 1) := by decide +kernel
theorem dX3_count_17 : decode cX3_count 17 = .ok (.invokevirtual 160, 3) := by decide +kernel
theorem dX3_count_20 : decode cX3_count 20 = .ok (.goto 8, 3) := by decide +kernel
theorem dX3_count_23 : decode cX3_count 23 = .ok (.aload_n 0, 1) := by decide +kernel
theorem dX3_count_24 : decode cX3_count 24 = .ok (.iconst 1, 1) := by decide +kernel
theorem dX3_count_25 : decode cX3_count 25 = .ok (.invokevirtual 74, 3) := by decide +kernel
theorem dX3_count_28 : decode cX3_count 28 = .ok (.ireturn, 1) := by decide +kernel
set_option maxRecDepth 20000 in
theorem ggX3_foreseen_X3_all : GoodIn wsX3_foreseen wsX3_all := goodIn_r _ [7, 1, 30, 31, 32, 33, 34, 35, 36, 37, 38, 39, 40, 41, 42, 43, 44, 45, 46, 47, 48, 49, 50, 51, 52, 53, 54] (by decide +kernel) (by decide +kernel)
set_option maxRecDepth 20000 in
theorem gX3_foreseen_X3_all : GoodIn wsX3_foreseen (wsV RX3 122 RX3 yX3_all wsX3_all) := goodIn_app (goodIn_of _ (by decide +kernel)) ggX3_foreseen_X3_all
set_option maxRecDepth 20000 in
theorem ggX3_foreseen_X3_leak : GoodIn wsX3_foreseen wsX3_leak := goodIn_r _ [11, 12, 13, 14, 15, 16, 17, 18, 19, 20, 6, 21, 22, 23, 24, 25, 26, 27, 28, 29, 30, 31, 32, 33, 34, 35, 36, 37, 38, 39, 40, 41, 42, 43, 44, 45, 46, 47, 48, 49, 50, 51, 52, 53, 54] (by decide +kernel) (by decide +kernel)
set_option maxRecDepth 20000 in
theorem gX3_foreseen_X3_leak : GoodIn wsX3_foreseen (wsV RX3 131 RX3 yX3_leak wsX3_leak) := goodIn_app (goodIn_of _ (by decide +kernel)) ggX3_foreseen_X3_leak
theorem dX3_foreseen_0 : decode cX3_foreseen 0 = .ok (.iload_n 2, 1) := by decide +kernel
theorem dX3_foreseen_1 : decode cX3_foreseen 1 = .ok (.ifCond .ne 11, 3) := by decide +kernel
theorem dX3_foreseen_4 : decode cX3_foreseen 4 = .ok (.aload_n 0, 1) := by decide +kernel
theorem dX3_foreseen_5 : decode cX3_foreseen 5 = .ok (.iload_n 1, 1) := by decide +kernel
theorem dX3_foreseen_6 : decode cX3_foreseen 6 = .ok (.invokevirtual 122, 3) := by decide +kernel
theorem dX3_foreseen_9 : decode cX3_foreseen 9 = .ok (.goto 40, 3) := by decide +kernel
theorem dX3_foreseen_12 : decode cX3_foreseen 12 = .ok (.iload_n 2, 1) := by decide +kernel
theorem dX3_foreseen_13 : decode cX3_foreseen 13 = .ok (.iconst 1, 1) := by decide +kernel
theorem dX3_foreseen_14 : decode cX3_foreseen 14 = .ok (.if_icmp .ne 16, 3) := by decide +kernel
theorem dX3_foreseen_17 : decode cX3_foreseen 17 = .ok (.aload_n 0, 1) := by decide +kernel
theorem dX3_foreseen_18 : decode cX3_foreseen 18 = .ok (.getfield 54, 3) := by decide +kernel
theorem dX3_foreseen_21 : decode cX3_foreseen 21 = .ok (.iconst 5, 1) := by decide +kernel
theorem dX3_foreseen_22 : decode cX3_foreseen 22 = .ok (.iload_n 1, 1) := by decide +kernel
theorem dX3_foreseen_23 : decode cX3_foreseen 23 = .ok (.imul, 1) := by decide +kernel
theorem dX3_foreseen_24 : decode cX3_foreseen 24 = .ok (.iconst 4, 1) := by decide +kernel
theorem dX3_foreseen_25 : decode cX3_foreseen 25 = .ok (.iadd, 1) := by decide +kernel
theorem dX3_foreseen_26 : decode cX3_foreseen 26 = .ok (.iaload, 1) := by decide +kernel
theorem dX3_foreseen_27 : decode cX3_foreseen 27 = .ok (.goto 22, 3) := by decide +kernel
theorem dX3_foreseen_30 : decode cX3_foreseen 30 = .ok (.iload_n 2, 1) := by decide +kernel
theorem dX3_foreseen_31 : decode cX3_foreseen 31 = .ok (.iconst 2, 1) := by decide +kernel
theorem dX3_foreseen_32 : decode cX3_foreseen 32 = .ok (.if_icmp .ne 12, 3) := by decide +kernel
theorem dX3_foreseen_35 : decode cX3_foreseen 35 = .ok (.aload_n 0, 1) := by decide +kernel
theorem dX3_foreseen_36 : decode cX3_foreseen 36 = .ok (.getfield 57, 3) := by decide +kernel
theorem dX3_foreseen_39 : decode cX3_foreseen 39 = .ok (.iload_n 1, 1) := by decide +kernel
theorem dX3_foreseen_40 : decode cX3_foreseen 40 = .ok (.iaload, 1) := by decide +kernel
theorem dX3_foreseen_41 : decode cX3_foreseen 41 = .ok (.goto 8, 3) := by decide +kernel
theorem dX3_foreseen_44 : decode cX3_foreseen 44 = .ok (.aload_n 0, 1) := by decide +kernel
theorem dX3_foreseen_45 : decode cX3_foreseen 45 = .ok (.iload_n 1, 1) := by decide +kernel
theorem dX3_foreseen_46 : decode cX3_foreseen 46 = .ok (.invokevirtual 131, 3) := by decide +kernel
theorem dX3_foreseen_49 : decode cX3_foreseen 49 = .ok (.ireturn, 1) := by decide +kernel
set_option maxRecDepth 20000 in
theorem ggX3_foresee_X3_isCask : GoodIn wsX3_foresee wsX3_isCask := goodIn_r _ [18, 19, 20, 21, 17, 22, 71, 72, 73, 74, 75, 76, 77, 78, 79, 80, 81, 82, 83, 84, 85, 86, 87, 88, 89, 90, 91, 92, 93, 94, 95] (by decide +kernel) (by decide +kernel)
set_option maxRecDepth 20000 in
theorem gX3_foresee_X3_isCask : GoodIn wsX3_foresee (wsV RX3 116 RX3 yX3_isCask wsX3_isCask) := goodIn_app (goodIn_of _ (by decide +kernel)) ggX3_foresee_X3_isCask
set_option maxRecDepth 20000 in
theorem ggX3_foresee_X3_isIn : GoodIn wsX3_foresee wsX3_isIn := goodIn_r _ [22] (by decide +kernel) (by decide +kernel)
set_option maxRecDepth 20000 in
theorem gX3_foresee_X3_isIn : GoodIn wsX3_foresee (va_wsS RX3 70 yX3_isIn wsX3_isIn) := goodIn_app (goodIn_of _ (by decide +kernel)) ggX3_foresee_X3_isIn
set_option maxRecDepth 20000 in
theorem ggX3_foresee_X3_no : GoodIn wsX3_foresee wsX3_no := goodIn_r _ [26, 1, 71, 72, 73, 74, 75, 76, 77, 78, 79, 80, 81, 82, 83, 84, 85, 86, 87, 88, 89, 90, 91, 92, 93, 94, 95] (by decide +kernel) (by decide +kernel)
set_option maxRecDepth 20000 in
theorem gX3_foresee_X3_no : GoodIn wsX3_foresee (wsV RX3 74 RX3 yX3_no wsX3_no) := goodIn_app (goodIn_of _ (by decide +kernel)) ggX3_foresee_X3_no
set_option maxRecDepth 20000 in
theorem ggX3_foresee_X3_pass : GoodIn wsX3_foresee wsX3_pass := goodIn_r _ [30, 7, 31, 32, 33, 34, 35, 5, 36, 37, 38, 39, 40, 41, 8, 42, 43, 44, 45, 46, 47, 48, 6, 13, 49, 50, 51, 17, 52, 53, 54, 55, 56, 57, 58, 59, 60, 61, 62, 63, 64, 65, 3, 66, 71, 72, 73, 74, 75, 76, 77, 78, 79, 80, 81, 82, 83, 84, 85, 86, 87, 88, 89, 90, 91, 92, 93, 94, 95] (by decide +kernel) (by decide +kernel)
set_option maxRecDepth 20000 in
theorem gX3_foresee_X3_pass : GoodIn wsX3_foresee (wsV RX3 157 RX3 yX3_pass wsX3_pass) := goodIn_app (goodIn_of _ (by decide +kernel)) ggX3_foresee_X3_pass
set_option maxRecDepth 20000 in
theorem ggX3_foresee_X3_foreseen : GoodIn wsX3_foresee wsX3_foreseen := goodIn_r _ [70, 8, 7, 49, 50, 51, 17, 52, 53, 54, 55, 56, 57, 5, 32, 33, 34, 35, 58, 59, 60, 61, 13, 62, 63, 64, 65, 3, 66, 37, 71, 72, 73, 74, 75, 76, 77, 78, 79, 80, 81, 82, 83, 84, 85, 86, 87, 88, 89, 90, 91, 92, 93, 94, 95] (by decide +kernel) (by decide +kernel)
set_option maxRecDepth 20000 in
theorem gX3_foresee_X3_foreseen : GoodIn wsX3_foresee (wsV RX3 169 RX3 yX3_foreseen wsX3_foreseen) := goodIn_app (goodIn_of _ (by decide +kernel)) ggX3_foresee_X3_foreseen
theorem dX3_foresee_0 : decode cX3_foresee 0 = .ok (.aload_n 0, 1) := by decide +kernel
theorem dX3_foresee_1 : decode cX3_foresee 1 = .ok (.iconst 0, 1) := by decide +kernel
theorem dX3_foresee_2 : decode cX3_foresee 2 = .ok (.putfield 67, 3) := by decide +kernel
theorem dX3_foresee_5 : decode cX3_foresee 5 = .ok (.aload_n 0, 1) := by decide +kernel
theorem dX3_foresee_6 : decode cX3_foresee 6 = .ok (.iload_n 1, 1) := by decide +kernel
theorem dX3_foresee_7 : decode cX3_foresee 7 = .ok (.invokevirtual 116, 3) := by decide +kernel
theorem dX3_foresee_10 : decode cX3_foresee 10 = .ok (.ifCond .eq 12, 3) := by decide +kernel
theorem dX3_foresee_13 : decode cX3_foresee 13 = .ok (.iload_n 3, 1) := by decide +kernel
theorem dX3_foresee_14 : decode cX3_foresee 14 = .ok (.iconst 0, 1) := by decide +kernel
theorem dX3_foresee_15 : decode cX3_foresee 15 = .ok (.iconst 3, 1) := by decide +kernel
theorem dX3_foresee_16 : decode cX3_foresee 16 = .ok (.invokestatic 70, 3) := by decide +kernel
theorem dX3_foresee_19 : decode cX3_foresee 19 = .ok (.ifCond .ne 9, 3) := by decide +kernel
theorem dX3_foresee_22 : decode cX3_foresee 22 = .ok (.aload_n 0, 1) := by decide +kernel
theorem dX3_foresee_23 : decode cX3_foresee 23 = .ok (.iconst 1, 1) := by decide +kernel
theorem dX3_foresee_24 : decode cX3_foresee 24 = .ok (.invokevirtual 74, 3) := by decide +kernel
theorem dX3_foresee_27 : decode cX3_foresee 27 = .ok (.ireturn, 1) := by decide +kernel
theorem dX3_foresee_28 : decode cX3_foresee 28 = .ok (.iload_n 2, 1) := by decide +kernel
theorem dX3_foresee_29 : decode cX3_foresee 29 = .ok (.iconst 1, 1) := by decide +kernel
theorem dX3_foresee_30 : decode cX3_foresee 30 = .ok (.bipush 60, 2) := by decide +kernel
theorem dX3_foresee_32 : decode cX3_foresee 32 = .ok (.invokestatic 70, 3) := by decide +kernel
theorem dX3_foresee_35 : decode cX3_foresee 35 = .ok (.ifCond .ne 9, 3) := by decide +kernel
theorem dX3_foresee_38 : decode cX3_foresee 38 = .ok (.aload_n 0, 1) := by decide +kernel
theorem dX3_foresee_39 : decode cX3_foresee 39 = .ok (.iconst 2, 1) := by decide +kernel
theorem dX3_foresee_40 : decode cX3_foresee 40 = .ok (.invokevirtual 74, 3) := by decide +kernel
theorem dX3_foresee_43 : decode cX3_foresee 43 = .ok (.ireturn, 1) := by decide +kernel
theorem dX3_foresee_44 : decode cX3_foresee 44 = .ok (.aload_n 0, 1) := by decide +kernel
theorem dX3_foresee_45 : decode cX3_foresee 45 = .ok (.getfield 151, 3) := by decide +kernel
theorem dX3_foresee_48 : decode cX3_foresee 48 = .ok (.iload_n 2, 1) := by decide +kernel
theorem dX3_foresee_49 : decode cX3_foresee 49 = .ok (.iadd, 1) := by decide +kernel
theorem dX3_foresee_50 : decode cX3_foresee 50 = .ok (.sipush 1200, 3) := by decide +kernel
theorem dX3_foresee_53 : decode cX3_foresee 53 = .ok (.if_icmp .le 9, 3) := by decide +kernel
theorem dX3_foresee_56 : decode cX3_foresee 56 = .ok (.aload_n 0, 1) := by decide +kernel
theorem dX3_foresee_57 : decode cX3_foresee 57 = .ok (.iconst 3, 1) := by decide +kernel
theorem dX3_foresee_58 : decode cX3_foresee 58 = .ok (.invokevirtual 74, 3) := by decide +kernel
theorem dX3_foresee_61 : decode cX3_foresee 61 = .ok (.ireturn, 1) := by decide +kernel
theorem dX3_foresee_62 : decode cX3_foresee 62 = .ok (.aload_n 0, 1) := by decide +kernel
theorem dX3_foresee_63 : decode cX3_foresee 63 = .ok (.getfield 35, 3) := by decide +kernel
theorem dX3_foresee_66 : decode cX3_foresee 66 = .ok (.iload_n 1, 1) := by decide +kernel
theorem dX3_foresee_67 : decode cX3_foresee 67 = .ok (.baload, 1) := by decide +kernel
theorem dX3_foresee_68 : decode cX3_foresee 68 = .ok (.ifCond .ne 5, 3) := by decide +kernel
theorem dX3_foresee_71 : decode cX3_foresee 71 = .ok (.iconst 0, 1) := by decide +kernel
theorem dX3_foresee_72 : decode cX3_foresee 72 = .ok (.ireturn, 1) := by decide +kernel
theorem dX3_foresee_73 : decode cX3_foresee 73 = .ok (.iconst 3, 1) := by decide +kernel
theorem dX3_foresee_74 : decode cX3_foresee 74 = .ok (.newarray .int, 2) := by decide +kernel
theorem dX3_foresee_76 : decode cX3_foresee 76 = .ok (.dup, 1) := by decide +kernel
theorem dX3_foresee_77 : decode cX3_foresee 77 = .ok (.iconst 0, 1) := by decide +kernel
theorem dX3_foresee_78 : decode cX3_foresee 78 = .ok (.aload_n 0, 1) := by decide +kernel
theorem dX3_foresee_79 : decode cX3_foresee 79 = .ok (.getfield 45, 3) := by decide +kernel
theorem dX3_foresee_82 : decode cX3_foresee 82 = .ok (.iload_n 1, 1) := by decide +kernel
theorem dX3_foresee_83 : decode cX3_foresee 83 = .ok (.iaload, 1) := by decide +kernel
theorem dX3_foresee_84 : decode cX3_foresee 84 = .ok (.iastore, 1) := by decide +kernel
theorem dX3_foresee_85 : decode cX3_foresee 85 = .ok (.dup, 1) := by decide +kernel
theorem dX3_foresee_86 : decode cX3_foresee 86 = .ok (.iconst 1, 1) := by decide +kernel
theorem dX3_foresee_87 : decode cX3_foresee 87 = .ok (.aload_n 0, 1) := by decide +kernel
theorem dX3_foresee_88 : decode cX3_foresee 88 = .ok (.getfield 51, 3) := by decide +kernel
theorem dX3_foresee_91 : decode cX3_foresee 91 = .ok (.iload_n 1, 1) := by decide +kernel
theorem dX3_foresee_92 : decode cX3_foresee 92 = .ok (.iaload, 1) := by decide +kernel
theorem dX3_foresee_93 : decode cX3_foresee 93 = .ok (.iastore, 1) := by decide +kernel
theorem dX3_foresee_94 : decode cX3_foresee 94 = .ok (.dup, 1) := by decide +kernel
theorem dX3_foresee_95 : decode cX3_foresee 95 = .ok (.iconst 2, 1) := by decide +kernel
theorem dX3_foresee_96 : decode cX3_foresee 96 = .ok (.aload_n 0, 1) := by decide +kernel
theorem dX3_foresee_97 : decode cX3_foresee 97 = .ok (.getfield 57, 3) := by decide +kernel
theorem dX3_foresee_100 : decode cX3_foresee 100 = .ok (.iload_n 1, 1) := by decide +kernel
theorem dX3_foresee_101 : decode cX3_foresee 101 = .ok (.iaload, 1) := by decide +kernel
theorem dX3_foresee_102 : decode cX3_foresee 102 = .ok (.iastore, 1) := by decide +kernel
theorem dX3_foresee_103 : decode cX3_foresee 103 = .ok (.astore 4, 2) := by decide +kernel
theorem dX3_foresee_105 : decode cX3_foresee 105 = .ok (.iconst 5, 1) := by decide +kernel
theorem dX3_foresee_106 : decode cX3_foresee 106 = .ok (.newarray .int, 2) := by decide +kernel
theorem dX3_foresee_108 : decode cX3_foresee 108 = .ok (.astore 5, 2) := by decide +kernel
theorem dX3_foresee_110 : decode cX3_foresee 110 = .ok (.bipush 8, 2) := by decide +kernel
theorem dX3_foresee_112 : decode cX3_foresee 112 = .ok (.newarray .int, 2) := by decide +kernel
theorem dX3_foresee_114 : decode cX3_foresee 114 = .ok (.astore 6, 2) := by decide +kernel
theorem dX3_foresee_116 : decode cX3_foresee 116 = .ok (.aload_n 0, 1) := by decide +kernel
theorem dX3_foresee_117 : decode cX3_foresee 117 = .ok (.getfield 54, 3) := by decide +kernel
theorem dX3_foresee_120 : decode cX3_foresee 120 = .ok (.iconst 5, 1) := by decide +kernel
theorem dX3_foresee_121 : decode cX3_foresee 121 = .ok (.iload_n 1, 1) := by decide +kernel
theorem dX3_foresee_122 : decode cX3_foresee 122 = .ok (.imul, 1) := by decide +kernel
theorem dX3_foresee_123 : decode cX3_foresee 123 = .ok (.aload 5, 2) := by decide +kernel
theorem dX3_foresee_125 : decode cX3_foresee 125 = .ok (.iconst 0, 1) := by decide +kernel
theorem dX3_foresee_126 : decode cX3_foresee 126 = .ok (.iconst 5, 1) := by decide +kernel
theorem dX3_foresee_127 : decode cX3_foresee 127 = .ok (.invokestatic 163, 3) := by decide +kernel
theorem dX3_foresee_130 : decode cX3_foresee 130 = .ok (.aload_n 0, 1) := by decide +kernel
theorem dX3_foresee_131 : decode cX3_foresee 131 = .ok (.getfield 42, 3) := by decide +kernel
theorem dX3_foresee_134 : decode cX3_foresee 134 = .ok (.bipush 8, 2) := by decide +kernel
theorem dX3_foresee_136 : decode cX3_foresee 136 = .ok (.iload_n 1, 1) := by decide +kernel
theorem dX3_foresee_137 : decode cX3_foresee 137 = .ok (.imul, 1) := by decide +kernel
theorem dX3_foresee_138 : decode cX3_foresee 138 = .ok (.aload 6, 2) := by decide +kernel
theorem dX3_foresee_140 : decode cX3_foresee 140 = .ok (.iconst 0, 1) := by decide +kernel
theorem dX3_foresee_141 : decode cX3_foresee 141 = .ok (.bipush 8, 2) := by decide +kernel
theorem dX3_foresee_143 : decode cX3_foresee 143 = .ok (.invokestatic 163, 3) := by decide +kernel
theorem dX3_foresee_146 : decode cX3_foresee 146 = .ok (.iconst 1, 1) := by decide +kernel
theorem dX3_foresee_147 : decode cX3_foresee 147 = .ok (.istore 7, 2) := by decide +kernel
theorem dX3_foresee_149 : decode cX3_foresee 149 = .ok (.iload 7, 2) := by decide +kernel
theorem dX3_foresee_151 : decode cX3_foresee 151 = .ok (.iload_n 2, 1) := by decide +kernel
theorem dX3_foresee_152 : decode cX3_foresee 152 = .ok (.if_icmp .gt 22, 3) := by decide +kernel
theorem dX3_foresee_155 : decode cX3_foresee 155 = .ok (.aload_n 0, 1) := by decide +kernel
theorem dX3_foresee_156 : decode cX3_foresee 156 = .ok (.iload_n 1, 1) := by decide +kernel
theorem dX3_foresee_157 : decode cX3_foresee 157 = .ok (.aload_n 0, 1) := by decide +kernel
theorem dX3_foresee_158 : decode cX3_foresee 158 = .ok (.getfield 151, 3) := by decide +kernel
theorem dX3_foresee_161 : decode cX3_foresee 161 = .ok (.iload 7, 2) := by decide +kernel
theorem dX3_foresee_163 : decode cX3_foresee 163 = .ok (.iadd, 1) := by decide +kernel
theorem dX3_foresee_164 : decode cX3_foresee 164 = .ok (.invokevirtual 157, 3) := by decide +kernel
theorem dX3_foresee_167 : decode cX3_foresee 167 = .ok (.pop, 1) := by decide +kernel
theorem dX3_foresee_168 : decode cX3_foresee 168 = .ok (.iinc 7 1, 3) := by decide +kernel
theorem dX3_foresee_171 : decode cX3_foresee 171 = .ok (.goto (-22), 3) := by decide +kernel
theorem dX3_foresee_174 : decode cX3_foresee 174 = .ok (.aload_n 0, 1) := by decide +kernel
theorem dX3_foresee_175 : decode cX3_foresee 175 = .ok (.iload_n 1, 1) := by decide +kernel
theorem dX3_foresee_176 : decode cX3_foresee 176 = .ok (.iload_n 3, 1) := by decide +kernel
theorem dX3_foresee_177 : decode cX3_foresee 177 = .ok (.invokevirtual 169, 3) := by decide +kernel
theorem dX3_foresee_180 : decode cX3_foresee 180 = .ok (.istore 7, 2) := by decide +kernel
theorem dX3_foresee_182 : decode cX3_foresee 182 = .ok (.aload_n 0, 1) := by decide +kernel
theorem dX3_foresee_183 : decode cX3_foresee 183 = .ok (.getfield 45, 3) := by decide +kernel
theorem dX3_foresee_186 : decode cX3_foresee 186 = .ok (.iload_n 1, 1) := by decide +kernel
theorem dX3_foresee_187 : decode cX3_foresee 187 = .ok (.aload 4, 2) := by decide +kernel
theorem dX3_foresee_189 : decode cX3_foresee 189 = .ok (.iconst 0, 1) := by decide +kernel
theorem dX3_foresee_190 : decode cX3_foresee 190 = .ok (.iaload, 1) := by decide +kernel
theorem dX3_foresee_191 : decode cX3_foresee 191 = .ok (.iastore, 1) := by decide +kernel
theorem dX3_foresee_192 : decode cX3_foresee 192 = .ok (.aload_n 0, 1) := by decide +kernel
theorem dX3_foresee_193 : decode cX3_foresee 193 = .ok (.getfield 51, 3) := by decide +kernel
theorem dX3_foresee_196 : decode cX3_foresee 196 = .ok (.iload_n 1, 1) := by decide +kernel
theorem dX3_foresee_197 : decode cX3_foresee 197 = .ok (.aload 4, 2) := by decide +kernel
theorem dX3_foresee_199 : decode cX3_foresee 199 = .ok (.iconst 1, 1) := by decide +kernel
theorem dX3_foresee_200 : decode cX3_foresee 200 = .ok (.iaload, 1) := by decide +kernel
theorem dX3_foresee_201 : decode cX3_foresee 201 = .ok (.iastore, 1) := by decide +kernel
theorem dX3_foresee_202 : decode cX3_foresee 202 = .ok (.aload_n 0, 1) := by decide +kernel
theorem dX3_foresee_203 : decode cX3_foresee 203 = .ok (.getfield 57, 3) := by decide +kernel
theorem dX3_foresee_206 : decode cX3_foresee 206 = .ok (.iload_n 1, 1) := by decide +kernel
theorem dX3_foresee_207 : decode cX3_foresee 207 = .ok (.aload 4, 2) := by decide +kernel
theorem dX3_foresee_209 : decode cX3_foresee 209 = .ok (.iconst 2, 1) := by decide +kernel
theorem dX3_foresee_210 : decode cX3_foresee 210 = .ok (.iaload, 1) := by decide +kernel
theorem dX3_foresee_211 : decode cX3_foresee 211 = .ok (.iastore, 1) := by decide +kernel
theorem dX3_foresee_212 : decode cX3_foresee 212 = .ok (.aload 5, 2) := by decide +kernel
theorem dX3_foresee_214 : decode cX3_foresee 214 = .ok (.iconst 0, 1) := by decide +kernel
theorem dX3_foresee_215 : decode cX3_foresee 215 = .ok (.aload_n 0, 1) := by decide +kernel
theorem dX3_foresee_216 : decode cX3_foresee 216 = .ok (.getfield 54, 3) := by decide +kernel
theorem dX3_foresee_219 : decode cX3_foresee 219 = .ok (.iconst 5, 1) := by decide +kernel
theorem dX3_foresee_220 : decode cX3_foresee 220 = .ok (.iload_n 1, 1) := by decide +kernel
theorem dX3_foresee_221 : decode cX3_foresee 221 = .ok (.imul, 1) := by decide +kernel
theorem dX3_foresee_222 : decode cX3_foresee 222 = .ok (.iconst 5, 1) := by decide +kernel
theorem dX3_foresee_223 : decode cX3_foresee 223 = .ok (.invokestatic 163, 3) := by decide +kernel
theorem dX3_foresee_226 : decode cX3_foresee 226 = .ok (.aload 6, 2) := by decide +kernel
theorem dX3_foresee_228 : decode cX3_foresee 228 = .ok (.iconst 0, 1) := by decide +kernel
theorem dX3_foresee_229 : decode cX3_foresee 229 = .ok (.aload_n 0, 1) := by decide +kernel
theorem dX3_foresee_230 : decode cX3_foresee 230 = .ok (.getfield 42, 3) := by decide +kernel
theorem dX3_foresee_233 : decode cX3_foresee 233 = .ok (.bipush 8, 2) := by decide +kernel
theorem dX3_foresee_235 : decode cX3_foresee 235 = .ok (.iload_n 1, 1) := by decide +kernel
theorem dX3_foresee_236 : decode cX3_foresee 236 = .ok (.imul, 1) := by decide +kernel
theorem dX3_foresee_237 : decode cX3_foresee 237 = .ok (.bipush 8, 2) := by decide +kernel
theorem dX3_foresee_239 : decode cX3_foresee 239 = .ok (.invokestatic 163, 3) := by decide +kernel
theorem dX3_foresee_242 : decode cX3_foresee 242 = .ok (.iload 7, 2) := by decide +kernel
theorem dX3_foresee_244 : decode cX3_foresee 244 = .ok (.ireturn, 1) := by decide +kernel
set_option maxRecDepth 20000 in
theorem ggX3_canBlend_X3_all : GoodIn wsX3_canBlend wsX3_all := goodIn_r _ [7, 2, 8, 9, 10, 11, 12, 13, 14, 15, 16, 17, 18, 19, 20, 21, 22, 23, 24, 25, 26, 27, 28, 29, 30, 31, 32] (by decide +kernel) (by decide +kernel)
set_option maxRecDepth 20000 in
theorem gX3_canBlend_X3_all : GoodIn wsX3_canBlend (wsV RX3 122 RX3 yX3_all wsX3_all) := goodIn_app (goodIn_of _ (by decide +kernel)) ggX3_canBlend_X3_all
theorem dX3_canBlend_0 : decode cX3_canBlend 0 = .ok (.aload_n 0, 1) := by decide +kernel
theorem dX3_canBlend_1 : decode cX3_canBlend 1 = .ok (.getfield 35, 3) := by decide +kernel
theorem dX3_canBlend_4 : decode cX3_canBlend 4 = .ok (.iload_n 1, 1) := by decide +kernel
theorem dX3_canBlend_5 : decode cX3_canBlend 5 = .ok (.baload, 1) := by decide +kernel
theorem dX3_canBlend_6 : decode cX3_canBlend 6 = .ok (.ifCond .eq 28, 3) := by decide +kernel
theorem dX3_canBlend_9 : decode cX3_canBlend 9 = .ok (.aload_n 0, 1) := by decide +kernel
theorem dX3_canBlend_10 : decode cX3_canBlend 10 = .ok (.iload_n 1, 1) := by decide +kernel
theorem dX3_canBlend_11 : decode cX3_canBlend 11 = .ok (.invokevirtual 122, 3) := by decide +kernel
theorem dX3_canBlend_14 : decode cX3_canBlend 14 = .ok (.ifCond .le 20, 3) := by decide +kernel
theorem dX3_canBlend_17 : decode cX3_canBlend 17 = .ok (.aload_n 0, 1) := by decide +kernel
theorem dX3_canBlend_18 : decode cX3_canBlend 18 = .ok (.getfield 54, 3) := by decide +kernel
theorem dX3_canBlend_21 : decode cX3_canBlend 21 = .ok (.iconst 5, 1) := by decide +kernel
theorem dX3_canBlend_22 : decode cX3_canBlend 22 = .ok (.iload_n 1, 1) := by decide +kernel
theorem dX3_canBlend_23 : decode cX3_canBlend 23 = .ok (.imul, 1) := by decide +kernel
theorem dX3_canBlend_24 : decode cX3_canBlend 24 = .ok (.iconst 4, 1) := by decide +kernel
theorem dX3_canBlend_25 : decode cX3_canBlend 25 = .ok (.iadd, 1) := by decide +kernel
theorem dX3_canBlend_26 : decode cX3_canBlend 26 = .ok (.iaload, 1) := by decide +kernel
theorem dX3_canBlend_27 : decode cX3_canBlend 27 = .ok (.ifCond .ne 7, 3) := by decide +kernel
theorem dX3_canBlend_30 : decode cX3_canBlend 30 = .ok (.iconst 1, 1) := by decide +kernel
theorem dX3_canBlend_31 : decode cX3_canBlend 31 = .ok (.goto 4, 3) := by decide +kernel
theorem dX3_canBlend_34 : decode cX3_canBlend 34 = .ok (.iconst 0, 1) := by decide +kernel
theorem dX3_canBlend_35 : decode cX3_canBlend 35 = .ok (.ireturn, 1) := by decide +kernel
set_option maxRecDepth 20000 in
theorem ggX3_tasteOf_X3_all : GoodIn wsX3_tasteOf wsX3_all := goodIn_r _ [12, 13, 14, 15, 16, 17, 18, 19, 20, 21, 22, 23, 24, 25, 26, 27, 28, 29, 30, 31, 32, 33, 34, 35, 36, 37, 38] (by decide +kernel) (by decide +kernel)
set_option maxRecDepth 20000 in
theorem gX3_tasteOf_X3_all : GoodIn wsX3_tasteOf (wsV RX3 122 RX3 yX3_all wsX3_all) := goodIn_app (goodIn_of _ (by decide +kernel)) ggX3_tasteOf_X3_all
theorem dX3_tasteOf_0 : decode cX3_tasteOf 0 = .ok (.ldc2_w 172, 3) := by decide +kernel
theorem dX3_tasteOf_3 : decode cX3_tasteOf 3 = .ok (.aload_n 0, 1) := by decide +kernel
theorem dX3_tasteOf_4 : decode cX3_tasteOf 4 = .ok (.getfield 57, 3) := by decide +kernel
theorem dX3_tasteOf_7 : decode cX3_tasteOf 7 = .ok (.iload_n 1, 1) := by decide +kernel
theorem dX3_tasteOf_8 : decode cX3_tasteOf 8 = .ok (.iaload, 1) := by decide +kernel
theorem dX3_tasteOf_9 : decode cX3_tasteOf 9 = .ok (.i2l, 1) := by decide +kernel
theorem dX3_tasteOf_10 : decode cX3_tasteOf 10 = .ok (.ldc2_w 144, 3) := by decide +kernel
theorem dX3_tasteOf_13 : decode cX3_tasteOf 13 = .ok (.lmul, 1) := by decide +kernel
theorem dX3_tasteOf_14 : decode cX3_tasteOf 14 = .ok (.aload_n 0, 1) := by decide +kernel
theorem dX3_tasteOf_15 : decode cX3_tasteOf 15 = .ok (.iload_n 1, 1) := by decide +kernel
theorem dX3_tasteOf_16 : decode cX3_tasteOf 16 = .ok (.invokevirtual 122, 3) := by decide +kernel
theorem dX3_tasteOf_19 : decode cX3_tasteOf 19 = .ok (.i2l, 1) := by decide +kernel
theorem dX3_tasteOf_20 : decode cX3_tasteOf 20 = .ok (.ldiv, 1) := by decide +kernel
theorem dX3_tasteOf_21 : decode cX3_tasteOf 21 = .ok (.invokestatic 149, 3) := by decide +kernel
theorem dX3_tasteOf_24 : decode cX3_tasteOf 24 = .ok (.lreturn, 1) := by decide +kernel
set_option maxRecDepth 20000 in
theorem ggX3_blend_X3_isIn : GoodIn wsX3_blend wsX3_isIn := goodIn_r _ [14] (by decide +kernel) (by decide +kernel)
set_option maxRecDepth 20000 in
theorem gX3_blend_X3_isIn : GoodIn wsX3_blend (va_wsS RX3 70 yX3_isIn wsX3_isIn) := goodIn_app (goodIn_of _ (by decide +kernel)) ggX3_blend_X3_isIn
set_option maxRecDepth 20000 in
theorem ggX3_blend_X3_no : GoodIn wsX3_blend wsX3_no := goodIn_r _ [18, 1, 39, 40, 41, 42, 43, 44, 45, 46, 47, 48, 49, 50, 51, 52, 53, 54, 55, 56, 57, 58, 59, 60, 61, 62, 63] (by decide +kernel) (by decide +kernel)
set_option maxRecDepth 20000 in
theorem gX3_blend_X3_no : GoodIn wsX3_blend (wsV RX3 74 RX3 yX3_no wsX3_no) := goodIn_app (goodIn_of _ (by decide +kernel)) ggX3_blend_X3_no
set_option maxRecDepth 20000 in
theorem ggX3_blend_X3_canBlend : GoodIn wsX3_blend wsX3_canBlend := goodIn_r _ [22, 23, 24, 25, 26, 27, 13, 28, 39, 40, 41, 42, 43, 44, 45, 46, 47, 48, 49, 50, 51, 52, 53, 54, 55, 56, 57, 58, 59, 60, 61, 62, 63] (by decide +kernel) (by decide +kernel)
set_option maxRecDepth 20000 in
theorem gX3_blend_X3_canBlend : GoodIn wsX3_blend (wsV RX3 177 RX3 yX3_canBlend wsX3_canBlend) := goodIn_app (goodIn_of _ (by decide +kernel)) ggX3_blend_X3_canBlend
set_option maxRecDepth 20000 in
theorem ggX3_blend_X3_tasteOf : GoodIn wsX3_blend wsX3_tasteOf := goodIn_r _ [32, 33, 34, 35, 36, 37, 9, 38, 25, 26, 27, 13, 28, 24, 39, 40, 41, 42, 43, 44, 45, 46, 47, 48, 49, 50, 51, 52, 53, 54, 55, 56, 57, 58, 59, 60, 61, 62, 63] (by decide +kernel) (by decide +kernel)
set_option maxRecDepth 20000 in
theorem gX3_blend_X3_tasteOf : GoodIn wsX3_blend (wsV RX3 180 RX3 yX3_tasteOf wsX3_tasteOf) := goodIn_app (goodIn_of _ (by decide +kernel)) ggX3_blend_X3_tasteOf
theorem dX3_blend_0 : decode cX3_blend 0 = .ok (.aload_n 0, 1) := by decide +kernel
theorem dX3_blend_1 : decode cX3_blend 1 = .ok (.iconst 0, 1) := by decide +kernel
theorem dX3_blend_2 : decode cX3_blend 2 = .ok (.putfield 67, 3) := by decide +kernel
theorem dX3_blend_5 : decode cX3_blend 5 = .ok (.iload_n 1, 1) := by decide +kernel
theorem dX3_blend_6 : decode cX3_blend 6 = .ok (.iconst 0, 1) := by decide +kernel
theorem dX3_blend_7 : decode cX3_blend 7 = .ok (.ldc 174, 2) := by decide +kernel
theorem dX3_blend_9 : decode cX3_blend 9 = .ok (.invokestatic 70, 3) := by decide +kernel
theorem dX3_blend_12 : decode cX3_blend 12 = .ok (.ifCond .ne 9, 3) := by decide +kernel
theorem dX3_blend_15 : decode cX3_blend 15 = .ok (.aload_n 0, 1) := by decide +kernel
theorem dX3_blend_16 : decode cX3_blend 16 = .ok (.iconst 1, 1) := by decide +kernel
theorem dX3_blend_17 : decode cX3_blend 17 = .ok (.invokevirtual 74, 3) := by decide +kernel
theorem dX3_blend_20 : decode cX3_blend 20 = .ok (.ireturn, 1) := by decide +kernel
theorem dX3_blend_21 : decode cX3_blend 21 = .ok (.iload_n 2, 1) := by decide +kernel
theorem dX3_blend_22 : decode cX3_blend 22 = .ok (.iconst 0, 1) := by decide +kernel
theorem dX3_blend_23 : decode cX3_blend 23 = .ok (.iconst 3, 1) := by decide +kernel
theorem dX3_blend_24 : decode cX3_blend 24 = .ok (.invokestatic 70, 3) := by decide +kernel
theorem dX3_blend_27 : decode cX3_blend 27 = .ok (.ifCond .ne 9, 3) := by decide +kernel
theorem dX3_blend_30 : decode cX3_blend 30 = .ok (.aload_n 0, 1) := by decide +kernel
theorem dX3_blend_31 : decode cX3_blend 31 = .ok (.iconst 2, 1) := by decide +kernel
theorem dX3_blend_32 : decode cX3_blend 32 = .ok (.invokevirtual 74, 3) := by decide +kernel
theorem dX3_blend_35 : decode cX3_blend 35 = .ok (.ireturn, 1) := by decide +kernel
theorem dX3_blend_36 : decode cX3_blend 36 = .ok (.iconst 4, 1) := by decide +kernel
theorem dX3_blend_37 : decode cX3_blend 37 = .ok (.newarray .int, 2) := by decide +kernel
theorem dX3_blend_39 : decode cX3_blend 39 = .ok (.dup, 1) := by decide +kernel
theorem dX3_blend_40 : decode cX3_blend 40 = .ok (.iconst 0, 1) := by decide +kernel
theorem dX3_blend_41 : decode cX3_blend 41 = .ok (.iconst (-1), 1) := by decide +kernel
theorem dX3_blend_42 : decode cX3_blend 42 = .ok (.iastore, 1) := by decide +kernel
theorem dX3_blend_43 : decode cX3_blend 43 = .ok (.dup, 1) := by decide +kernel
theorem dX3_blend_44 : decode cX3_blend 44 = .ok (.iconst 1, 1) := by decide +kernel
theorem dX3_blend_45 : decode cX3_blend 45 = .ok (.iconst (-1), 1) := by decide +kernel
theorem dX3_blend_46 : decode cX3_blend 46 = .ok (.iastore, 1) := by decide +kernel
theorem dX3_blend_47 : decode cX3_blend 47 = .ok (.dup, 1) := by decide +kernel
theorem dX3_blend_48 : decode cX3_blend 48 = .ok (.iconst 2, 1) := by decide +kernel
theorem dX3_blend_49 : decode cX3_blend 49 = .ok (.iconst (-1), 1) := by decide +kernel
theorem dX3_blend_50 : decode cX3_blend 50 = .ok (.iastore, 1) := by decide +kernel
theorem dX3_blend_51 : decode cX3_blend 51 = .ok (.dup, 1) := by decide +kernel
theorem dX3_blend_52 : decode cX3_blend 52 = .ok (.iconst 3, 1) := by decide +kernel
theorem dX3_blend_53 : decode cX3_blend 53 = .ok (.iconst (-1), 1) := by decide +kernel
theorem dX3_blend_54 : decode cX3_blend 54 = .ok (.iastore, 1) := by decide +kernel
theorem dX3_blend_55 : decode cX3_blend 55 = .ok (.astore_n 3, 1) := by decide +kernel
theorem dX3_blend_56 : decode cX3_blend 56 = .ok (.ldc2_w 175, 3) := by decide +kernel
theorem dX3_blend_59 : decode cX3_blend 59 = .ok (.lstore 4, 2) := by decide +kernel
theorem dX3_blend_61 : decode cX3_blend 61 = .ok (.iconst 0, 1) := by decide +kernel
theorem dX3_blend_62 : decode cX3_blend 62 = .ok (.istore 6, 2) := by decide +kernel
theorem dX3_blend_64 : decode cX3_blend 64 = .ok (.iload 6, 2) := by decide +kernel
theorem dX3_blend_66 : decode cX3_blend 66 = .ok (.aload_n 0, 1) := by decide +kernel
theorem dX3_blend_67 : decode cX3_blend 67 = .ok (.getfield 110, 3) := by decide +kernel
theorem dX3_blend_70 : decode cX3_blend 70 = .ok (.if_icmp .ge 147, 3) := by decide +kernel
theorem dX3_blend_73 : decode cX3_blend 73 = .ok (.iload 6, 2) := by decide +kernel
theorem dX3_blend_75 : decode cX3_blend 75 = .ok (.iconst 1, 1) := by decide +kernel
theorem dX3_blend_76 : decode cX3_blend 76 = .ok (.iadd, 1) := by decide +kernel
theorem dX3_blend_77 : decode cX3_blend 77 = .ok (.istore 7, 2) := by decide +kernel
theorem dX3_blend_79 : decode cX3_blend 79 = .ok (.iload 7, 2) := by decide +kernel
theorem dX3_blend_81 : decode cX3_blend 81 = .ok (.aload_n 0, 1) := by decide +kernel
theorem dX3_blend_82 : decode cX3_blend 82 = .ok (.getfield 110, 3) := by decide +kernel
theorem dX3_blend_85 : decode cX3_blend 85 = .ok (.if_icmp .ge 126, 3) := by decide +kernel
theorem dX3_blend_88 : decode cX3_blend 88 = .ok (.iconst 1, 1) := by decide +kernel
theorem dX3_blend_89 : decode cX3_blend 89 = .ok (.istore 8, 2) := by decide +kernel
theorem dX3_blend_91 : decode cX3_blend 91 = .ok (.iload 8, 2) := by decide +kernel
theorem dX3_blend_93 : decode cX3_blend 93 = .ok (.bipush 10, 2) := by decide +kernel
theorem dX3_blend_95 : decode cX3_blend 95 = .ok (.if_icmp .ge 110, 3) := by decide +kernel
theorem dX3_blend_98 : decode cX3_blend 98 = .ok (.aload_n 0, 1) := by decide +kernel
theorem dX3_blend_99 : decode cX3_blend 99 = .ok (.iload 6, 2) := by decide +kernel
theorem dX3_blend_101 : decode cX3_blend 101 = .ok (.invokevirtual 177, 3) := by decide +kernel
theorem dX3_blend_104 : decode cX3_blend 104 = .ok (.ifCond .eq 101, 3) := by decide +kernel
theorem dX3_blend_107 : decode cX3_blend 107 = .ok (.aload_n 0, 1) := by decide +kernel
theorem dX3_blend_108 : decode cX3_blend 108 = .ok (.iload 7, 2) := by decide +kernel
theorem dX3_blend_110 : decode cX3_blend 110 = .ok (.invokevirtual 177, 3) := by decide +kernel
theorem dX3_blend_113 : decode cX3_blend 113 = .ok (.ifCond .eq 92, 3) := by decide +kernel
theorem dX3_blend_116 : decode cX3_blend 116 = .ok (.iload 8, 2) := by decide +kernel
theorem dX3_blend_118 : decode cX3_blend 118 = .ok (.i2l, 1) := by decide +kernel
theorem dX3_blend_119 : decode cX3_blend 119 = .ok (.aload_n 0, 1) := by decide +kernel
theorem dX3_blend_120 : decode cX3_blend 120 = .ok (.iload 6, 2) := by decide +kernel
theorem dX3_blend_122 : decode cX3_blend 122 = .ok (.invokevirtual 180, 3) := by decide +kernel
theorem dX3_blend_125 : decode cX3_blend 125 = .ok (.lmul, 1) := by decide +kernel
theorem dX3_blend_126 : decode cX3_blend 126 = .ok (.bipush 10, 2) := by decide +kernel
theorem dX3_blend_128 : decode cX3_blend 128 = .ok (.iload 8, 2) := by decide +kernel
theorem dX3_blend_130 : decode cX3_blend 130 = .ok (.isub, 1) := by decide +kernel
theorem dX3_blend_131 : decode cX3_blend 131 = .ok (.i2l, 1) := by decide +kernel
theorem dX3_blend_132 : decode cX3_blend 132 = .ok (.aload_n 0, 1) := by decide +kernel
theorem dX3_blend_133 : decode cX3_blend 133 = .ok (.iload 7, 2) := by decide +kernel
theorem dX3_blend_135 : decode cX3_blend 135 = .ok (.invokevirtual 180, 3) := by decide +kernel
theorem dX3_blend_138 : decode cX3_blend 138 = .ok (.lmul, 1) := by decide +kernel
theorem dX3_blend_139 : decode cX3_blend 139 = .ok (.ladd, 1) := by decide +kernel
theorem dX3_blend_140 : decode cX3_blend 140 = .ok (.ldc2_w 184, 3) := by decide +kernel
theorem dX3_blend_143 : decode cX3_blend 143 = .ok (.ldiv, 1) := by decide +kernel
theorem dX3_blend_144 : decode cX3_blend 144 = .ok (.lstore 9, 2) := by decide +kernel
theorem dX3_blend_146 : decode cX3_blend 146 = .ok (.lload 9, 2) := by decide +kernel
theorem dX3_blend_148 : decode cX3_blend 148 = .ok (.iload_n 1, 1) := by decide +kernel
theorem dX3_blend_149 : decode cX3_blend 149 = .ok (.i2l, 1) := by decide +kernel
theorem dX3_blend_150 : decode cX3_blend 150 = .ok (.lsub, 1) := by decide +kernel
theorem dX3_blend_151 : decode cX3_blend 151 = .ok (.invokestatic 186, 3) := by decide +kernel
theorem dX3_blend_154 : decode cX3_blend 154 = .ok (.lstore 11, 2) := by decide +kernel
theorem dX3_blend_156 : decode cX3_blend 156 = .ok (.lload 4, 2) := by decide +kernel
theorem dX3_blend_158 : decode cX3_blend 158 = .ok (.lconst 0, 1) := by decide +kernel
theorem dX3_blend_159 : decode cX3_blend 159 = .ok (.lcmp, 1) := by decide +kernel
theorem dX3_blend_160 : decode cX3_blend 160 = .ok (.ifCond .lt 14, 3) := by decide +kernel
theorem dX3_blend_163 : decode cX3_blend 163 = .ok (.lload 11, 2) := by decide +kernel
theorem dX3_blend_165 : decode cX3_blend 165 = .ok (.lload 4, 2) := by decide +kernel
theorem dX3_blend_167 : decode cX3_blend 167 = .ok (.lcmp, 1) := by decide +kernel
theorem dX3_blend_168 : decode cX3_blend 168 = .ok (.ifCond .lt 6, 3) := by decide +kernel
theorem dX3_blend_171 : decode cX3_blend 171 = .ok (.goto 28, 3) := by decide +kernel
theorem dX3_blend_174 : decode cX3_blend 174 = .ok (.lload 11, 2) := by decide +kernel
theorem dX3_blend_176 : decode cX3_blend 176 = .ok (.lstore 4, 2) := by decide +kernel
theorem dX3_blend_178 : decode cX3_blend 178 = .ok (.aload_n 3, 1) := by decide +kernel
theorem dX3_blend_179 : decode cX3_blend 179 = .ok (.iconst 0, 1) := by decide +kernel
theorem dX3_blend_180 : decode cX3_blend 180 = .ok (.iload 6, 2) := by decide +kernel
theorem dX3_blend_182 : decode cX3_blend 182 = .ok (.iastore, 1) := by decide +kernel
theorem dX3_blend_183 : decode cX3_blend 183 = .ok (.aload_n 3, 1) := by decide +kernel
theorem dX3_blend_184 : decode cX3_blend 184 = .ok (.iconst 1, 1) := by decide +kernel
theorem dX3_blend_185 : decode cX3_blend 185 = .ok (.iload 7, 2) := by decide +kernel
theorem dX3_blend_187 : decode cX3_blend 187 = .ok (.iastore, 1) := by decide +kernel
theorem dX3_blend_188 : decode cX3_blend 188 = .ok (.aload_n 3, 1) := by decide +kernel
theorem dX3_blend_189 : decode cX3_blend 189 = .ok (.iconst 2, 1) := by decide +kernel
theorem dX3_blend_190 : decode cX3_blend 190 = .ok (.iload 8, 2) := by decide +kernel
theorem dX3_blend_192 : decode cX3_blend 192 = .ok (.iastore, 1) := by decide +kernel
theorem dX3_blend_193 : decode cX3_blend 193 = .ok (.aload_n 3, 1) := by decide +kernel
theorem dX3_blend_194 : decode cX3_blend 194 = .ok (.iconst 3, 1) := by decide +kernel
theorem dX3_blend_195 : decode cX3_blend 195 = .ok (.lload 9, 2) := by decide +kernel
theorem dX3_blend_197 : decode cX3_blend 197 = .ok (.l2i, 1) := by decide +kernel
theorem dX3_blend_198 : decode cX3_blend 198 = .ok (.iastore, 1) := by decide +kernel
theorem dX3_blend_199 : decode cX3_blend 199 = .ok (.iinc 8 1, 3) := by decide +kernel
theorem dX3_blend_202 : decode cX3_blend 202 = .ok (.goto (-111), 3) := by decide +kernel
theorem dX3_blend_205 : decode cX3_blend 205 = .ok (.iinc 7 1, 3) := by decide +kernel
theorem dX3_blend_208 : decode cX3_blend 208 = .ok (.goto (-129), 3) := by decide +kernel
theorem dX3_blend_211 : decode cX3_blend 211 = .ok (.iinc 6 1, 3) := by decide +kernel
theorem dX3_blend_214 : decode cX3_blend 214 = .ok (.goto (-150), 3) := by decide +kernel
theorem dX3_blend_217 : decode cX3_blend 217 = .ok (.aload_n 3, 1) := by decide +kernel
theorem dX3_blend_218 : decode cX3_blend 218 = .ok (.iload_n 2, 1) := by decide +kernel
theorem dX3_blend_219 : decode cX3_blend 219 = .ok (.iaload, 1) := by decide +kernel
theorem dX3_blend_220 : decode cX3_blend 220 = .ok (.ireturn, 1) := by decide +kernel
set_option maxRecDepth 20000 in
theorem ggX3_taste_X3_all : GoodIn wsX3_taste wsX3_all := goodIn_r _ [8, 9, 10, 11, 12, 13, 14, 15, 16, 17, 18, 19, 20, 21, 22, 23, 24, 25, 26, 27, 28, 29, 30, 31, 32, 33, 34] (by decide +kernel) (by decide +kernel)
set_option maxRecDepth 20000 in
theorem gX3_taste_X3_all : GoodIn wsX3_taste (wsV RX3 122 RX3 yX3_all wsX3_all) := goodIn_app (goodIn_of _ (by decide +kernel)) ggX3_taste_X3_all
theorem dX3_taste_0 : decode cX3_taste 0 = .ok (.aload_n 0, 1) := by decide +kernel
theorem dX3_taste_1 : decode cX3_taste 1 = .ok (.iconst 0, 1) := by decide +kernel
theorem dX3_taste_2 : decode cX3_taste 2 = .ok (.putfield 67, 3) := by decide +kernel
theorem dX3_taste_5 : decode cX3_taste 5 = .ok (.lconst 0, 1) := by decide +kernel
theorem dX3_taste_6 : decode cX3_taste 6 = .ok (.lstore_n 1, 1) := by decide +kernel
theorem dX3_taste_7 : decode cX3_taste 7 = .ok (.lconst 0, 1) := by decide +kernel
theorem dX3_taste_8 : decode cX3_taste 8 = .ok (.lstore_n 3, 1) := by decide +kernel
theorem dX3_taste_9 : decode cX3_taste 9 = .ok (.iconst 0, 1) := by decide +kernel
theorem dX3_taste_10 : decode cX3_taste 10 = .ok (.istore 5, 2) := by decide +kernel
theorem dX3_taste_12 : decode cX3_taste 12 = .ok (.iload 5, 2) := by decide +kernel
theorem dX3_taste_14 : decode cX3_taste 14 = .ok (.aload_n 0, 1) := by decide +kernel
theorem dX3_taste_15 : decode cX3_taste 15 = .ok (.getfield 110, 3) := by decide +kernel
theorem dX3_taste_18 : decode cX3_taste 18 = .ok (.if_icmp .ge 30, 3) := by decide +kernel
theorem dX3_taste_21 : decode cX3_taste 21 = .ok (.lload_n 1, 1) := by decide +kernel
theorem dX3_taste_22 : decode cX3_taste 22 = .ok (.aload_n 0, 1) := by decide +kernel
theorem dX3_taste_23 : decode cX3_taste 23 = .ok (.getfield 57, 3) := by decide +kernel
theorem dX3_taste_26 : decode cX3_taste 26 = .ok (.iload 5, 2) := by decide +kernel
theorem dX3_taste_28 : decode cX3_taste 28 = .ok (.iaload, 1) := by decide +kernel
theorem dX3_taste_29 : decode cX3_taste 29 = .ok (.i2l, 1) := by decide +kernel
theorem dX3_taste_30 : decode cX3_taste 30 = .ok (.ladd, 1) := by decide +kernel
theorem dX3_taste_31 : decode cX3_taste 31 = .ok (.lstore_n 1, 1) := by decide +kernel
theorem dX3_taste_32 : decode cX3_taste 32 = .ok (.lload_n 3, 1) := by decide +kernel
theorem dX3_taste_33 : decode cX3_taste 33 = .ok (.aload_n 0, 1) := by decide +kernel
theorem dX3_taste_34 : decode cX3_taste 34 = .ok (.iload 5, 2) := by decide +kernel
theorem dX3_taste_36 : decode cX3_taste 36 = .ok (.invokevirtual 122, 3) := by decide +kernel
theorem dX3_taste_39 : decode cX3_taste 39 = .ok (.i2l, 1) := by decide +kernel
theorem dX3_taste_40 : decode cX3_taste 40 = .ok (.ladd, 1) := by decide +kernel
theorem dX3_taste_41 : decode cX3_taste 41 = .ok (.lstore_n 3, 1) := by decide +kernel
theorem dX3_taste_42 : decode cX3_taste 42 = .ok (.iinc 5 1, 3) := by decide +kernel
theorem dX3_taste_45 : decode cX3_taste 45 = .ok (.goto (-33), 3) := by decide +kernel
theorem dX3_taste_48 : decode cX3_taste 48 = .ok (.lload_n 3, 1) := by decide +kernel
theorem dX3_taste_49 : decode cX3_taste 49 = .ok (.lconst 0, 1) := by decide +kernel
theorem dX3_taste_50 : decode cX3_taste 50 = .ok (.lcmp, 1) := by decide +kernel
theorem dX3_taste_51 : decode cX3_taste 51 = .ok (.ifCond .ne 7, 3) := by decide +kernel
theorem dX3_taste_54 : decode cX3_taste 54 = .ok (.dconst 0, 1) := by decide +kernel
theorem dX3_taste_55 : decode cX3_taste 55 = .ok (.goto 8, 3) := by decide +kernel
theorem dX3_taste_58 : decode cX3_taste 58 = .ok (.lload_n 1, 1) := by decide +kernel
theorem dX3_taste_59 : decode cX3_taste 59 = .ok (.l2d, 1) := by decide +kernel
theorem dX3_taste_60 : decode cX3_taste 60 = .ok (.lload_n 3, 1) := by decide +kernel
theorem dX3_taste_61 : decode cX3_taste 61 = .ok (.l2d, 1) := by decide +kernel
theorem dX3_taste_62 : decode cX3_taste 62 = .ok (.ddiv, 1) := by decide +kernel
theorem dX3_taste_63 : decode cX3_taste 63 = .ok (.dreturn, 1) := by decide +kernel
set_option maxRecDepth 20000 in
theorem ggX3_digest_X3_counted : GoodIn wsX3_digest wsX3_counted := goodIn_r _ [15, 4, 16, 9, 17, 18, 19, 20, 5, 21, 22, 23, 24, 25, 14, 26, 63, 64, 65, 66, 67, 68, 69, 70, 71, 72, 73, 74, 75, 76, 77, 78, 79, 80, 81, 82, 83, 84, 85, 86, 87] (by decide +kernel) (by decide +kernel)
set_option maxRecDepth 20000 in
theorem gX3_digest_X3_counted : GoodIn wsX3_digest (wsV RX3 160 RX3 yX3_counted wsX3_counted) := goodIn_app (goodIn_of _ (by decide +kernel)) ggX3_digest_X3_counted
set_option maxRecDepth 20000 in
theorem ggX3_digest_X3_staveTold : GoodIn wsX3_digest wsX3_staveTold := goodIn_r _ [30, 31, 32, 16, 63, 64, 65, 66, 67, 68, 69, 70, 71, 72, 73, 74, 75, 76, 77, 78, 79, 80, 81, 82, 83, 84, 85, 86, 87] (by decide +kernel) (by decide +kernel)
set_option maxRecDepth 20000 in
theorem gX3_digest_X3_staveTold : GoodIn wsX3_digest (wsV RX3 85 RX3 yX3_staveTold wsX3_staveTold) := goodIn_app (goodIn_of _ (by decide +kernel)) ggX3_digest_X3_staveTold
set_option maxRecDepth 20000 in
theorem ggX3_digest_X3_caskTold : GoodIn wsX3_digest wsX3_caskTold := goodIn_r _ [36, 37, 17, 18, 38, 19, 39, 40, 41, 42, 43, 44, 45, 14, 46, 47, 48, 49, 50, 51, 52, 53, 54, 10, 55, 56, 57, 58, 8, 59, 60, 61, 62, 4, 16, 23, 24, 25, 26, 63, 64, 65, 66, 67, 68, 69, 70, 71, 72, 73, 74, 75, 76, 77, 78, 79, 80, 81, 82, 83, 84, 85, 86, 87] (by decide +kernel) (by decide +kernel)
set_option maxRecDepth 20000 in
theorem gX3_digest_X3_caskTold : GoodIn wsX3_digest (wsV RX3 137 RX3 yX3_caskTold wsX3_caskTold) := goodIn_app (goodIn_of _ (by decide +kernel)) ggX3_digest_X3_caskTold
set_option maxRecDepth 20000 in
theorem ggX3_digest_X3_hoopsOf : GoodIn wsX3_digest wsX3_hoopsOf := goodIn_r _ [58, 17, 8, 37, 63, 64, 65, 66, 67, 68, 69, 70, 71, 72, 73, 74, 75, 76, 77, 78, 79, 80, 81, 82, 83, 84, 85, 86, 87] (by decide +kernel) (by decide +kernel)
set_option maxRecDepth 20000 in
theorem gX3_digest_X3_hoopsOf : GoodIn wsX3_digest (wsV RX3 113 RX3 yX3_hoopsOf wsX3_hoopsOf) := goodIn_app (goodIn_of _ (by decide +kernel)) ggX3_digest_X3_hoopsOf
theorem dX3_digest_0 : decode cX3_digest 0 = .ok (.aload_n 0, 1) := by decide +kernel
theorem dX3_digest_1 : decode cX3_digest 1 = .ok (.iconst 0, 1) := by decide +kernel
theorem dX3_digest_2 : decode cX3_digest 2 = .ok (.putfield 67, 3) := by decide +kernel
theorem dX3_digest_5 : decode cX3_digest 5 = .ok (.ldc2_w 190, 3) := by decide +kernel
theorem dX3_digest_8 : decode cX3_digest 8 = .ok (.lstore_n 1, 1) := by decide +kernel
theorem dX3_digest_9 : decode cX3_digest 9 = .ok (.iconst 0, 1) := by decide +kernel
theorem dX3_digest_10 : decode cX3_digest 10 = .ok (.istore_n 3, 1) := by decide +kernel
theorem dX3_digest_11 : decode cX3_digest 11 = .ok (.iload_n 3, 1) := by decide +kernel
theorem dX3_digest_12 : decode cX3_digest 12 = .ok (.bipush 10, 2) := by decide +kernel
theorem dX3_digest_14 : decode cX3_digest 14 = .ok (.if_icmp .ge 22, 3) := by decide +kernel
theorem dX3_digest_17 : decode cX3_digest 17 = .ok (.lload_n 1, 1) := by decide +kernel
theorem dX3_digest_18 : decode cX3_digest 18 = .ok (.ldc2_w 192, 3) := by decide +kernel
theorem dX3_digest_21 : decode cX3_digest 21 = .ok (.lmul, 1) := by decide +kernel
theorem dX3_digest_22 : decode cX3_digest 22 = .ok (.aload_n 0, 1) := by decide +kernel
theorem dX3_digest_23 : decode cX3_digest 23 = .ok (.iload_n 3, 1) := by decide +kernel
theorem dX3_digest_24 : decode cX3_digest 24 = .ok (.invokevirtual 160, 3) := by decide +kernel
theorem dX3_digest_27 : decode cX3_digest 27 = .ok (.i2l, 1) := by decide +kernel
theorem dX3_digest_28 : decode cX3_digest 28 = .ok (.ladd, 1) := by decide +kernel
theorem dX3_digest_29 : decode cX3_digest 29 = .ok (.lstore_n 1, 1) := by decide +kernel
theorem dX3_digest_30 : decode cX3_digest 30 = .ok (.iinc 3 1, 3) := by decide +kernel
theorem dX3_digest_33 : decode cX3_digest 33 = .ok (.goto (-22), 3) := by decide +kernel
theorem dX3_digest_36 : decode cX3_digest 36 = .ok (.iconst 0, 1) := by decide +kernel
theorem dX3_digest_37 : decode cX3_digest 37 = .ok (.istore_n 3, 1) := by decide +kernel
theorem dX3_digest_38 : decode cX3_digest 38 = .ok (.iload_n 3, 1) := by decide +kernel
theorem dX3_digest_39 : decode cX3_digest 39 = .ok (.aload_n 0, 1) := by decide +kernel
theorem dX3_digest_40 : decode cX3_digest 40 = .ok (.getfield 78, 3) := by decide +kernel
theorem dX3_digest_43 : decode cX3_digest 43 = .ok (.if_icmp .ge 39, 3) := by decide +kernel
theorem dX3_digest_46 : decode cX3_digest 46 = .ok (.iconst 0, 1) := by decide +kernel
theorem dX3_digest_47 : decode cX3_digest 47 = .ok (.istore 4, 2) := by decide +kernel
theorem dX3_digest_49 : decode cX3_digest 49 = .ok (.iload 4, 2) := by decide +kernel
theorem dX3_digest_51 : decode cX3_digest 51 = .ok (.iconst 3, 1) := by decide +kernel
theorem dX3_digest_52 : decode cX3_digest 52 = .ok (.if_icmp .ge 24, 3) := by decide +kernel
theorem dX3_digest_55 : decode cX3_digest 55 = .ok (.lload_n 1, 1) := by decide +kernel
theorem dX3_digest_56 : decode cX3_digest 56 = .ok (.ldc2_w 192, 3) := by decide +kernel
theorem dX3_digest_59 : decode cX3_digest 59 = .ok (.lmul, 1) := by decide +kernel
theorem dX3_digest_60 : decode cX3_digest 60 = .ok (.aload_n 0, 1) := by decide +kernel
theorem dX3_digest_61 : decode cX3_digest 61 = .ok (.iload_n 3, 1) := by decide +kernel
end
section
theorem dX3_digest_62 : decode cX3_digest 62 = .ok (.iload 4, 2) := by decide +kernel
theorem dX3_digest_64 : decode cX3_digest 64 = .ok (.invokevirtual 85, 3) := by decide +kernel
theorem dX3_digest_67 : decode cX3_digest 67 = .ok (.i2l, 1) := by decide +kernel
theorem dX3_digest_68 : decode cX3_digest 68 = .ok (.ladd, 1) := by decide +kernel
theorem dX3_digest_69 : decode cX3_digest 69 = .ok (.lstore_n 1, 1) := by decide +kernel
theorem dX3_digest_70 : decode cX3_digest 70 = .ok (.iinc 4 1, 3) := by decide +kernel
theorem dX3_digest_73 : decode cX3_digest 73 = .ok (.goto (-24), 3) := by decide +kernel
theorem dX3_digest_76 : decode cX3_digest 76 = .ok (.iinc 3 1, 3) := by decide +kernel
theorem dX3_digest_79 : decode cX3_digest 79 = .ok (.goto (-41), 3) := by decide +kernel
theorem dX3_digest_82 : decode cX3_digest 82 = .ok (.iconst 0, 1) := by decide +kernel
theorem dX3_digest_83 : decode cX3_digest 83 = .ok (.istore_n 3, 1) := by decide +kernel
theorem dX3_digest_84 : decode cX3_digest 84 = .ok (.iload_n 3, 1) := by decide +kernel
theorem dX3_digest_85 : decode cX3_digest 85 = .ok (.aload_n 0, 1) := by decide +kernel
theorem dX3_digest_86 : decode cX3_digest 86 = .ok (.getfield 90, 3) := by decide +kernel
theorem dX3_digest_89 : decode cX3_digest 89 = .ok (.if_icmp .ge 47, 3) := by decide +kernel
theorem dX3_digest_92 : decode cX3_digest 92 = .ok (.lload_n 1, 1) := by decide +kernel
theorem dX3_digest_93 : decode cX3_digest 93 = .ok (.ldc2_w 192, 3) := by decide +kernel
theorem dX3_digest_96 : decode cX3_digest 96 = .ok (.lmul, 1) := by decide +kernel
theorem dX3_digest_97 : decode cX3_digest 97 = .ok (.aload_n 0, 1) := by decide +kernel
theorem dX3_digest_98 : decode cX3_digest 98 = .ok (.getfield 23, 3) := by decide +kernel
theorem dX3_digest_101 : decode cX3_digest 101 = .ok (.iload_n 3, 1) := by decide +kernel
theorem dX3_digest_102 : decode cX3_digest 102 = .ok (.iaload, 1) := by decide +kernel
theorem dX3_digest_103 : decode cX3_digest 103 = .ok (.i2l, 1) := by decide +kernel
theorem dX3_digest_104 : decode cX3_digest 104 = .ok (.ladd, 1) := by decide +kernel
theorem dX3_digest_105 : decode cX3_digest 105 = .ok (.ldc2_w 192, 3) := by decide +kernel
theorem dX3_digest_108 : decode cX3_digest 108 = .ok (.lmul, 1) := by decide +kernel
theorem dX3_digest_109 : decode cX3_digest 109 = .ok (.aload_n 0, 1) := by decide +kernel
theorem dX3_digest_110 : decode cX3_digest 110 = .ok (.getfield 26, 3) := by decide +kernel
theorem dX3_digest_113 : decode cX3_digest 113 = .ok (.iload_n 3, 1) := by decide +kernel
theorem dX3_digest_114 : decode cX3_digest 114 = .ok (.iaload, 1) := by decide +kernel
theorem dX3_digest_115 : decode cX3_digest 115 = .ok (.i2l, 1) := by decide +kernel
theorem dX3_digest_116 : decode cX3_digest 116 = .ok (.ladd, 1) := by decide +kernel
theorem dX3_digest_117 : decode cX3_digest 117 = .ok (.ldc2_w 192, 3) := by decide +kernel
theorem dX3_digest_120 : decode cX3_digest 120 = .ok (.lmul, 1) := by decide +kernel
theorem dX3_digest_121 : decode cX3_digest 121 = .ok (.aload_n 0, 1) := by decide +kernel
theorem dX3_digest_122 : decode cX3_digest 122 = .ok (.getfield 29, 3) := by decide +kernel
theorem dX3_digest_125 : decode cX3_digest 125 = .ok (.iload_n 3, 1) := by decide +kernel
theorem dX3_digest_126 : decode cX3_digest 126 = .ok (.iaload, 1) := by decide +kernel
theorem dX3_digest_127 : decode cX3_digest 127 = .ok (.i2l, 1) := by decide +kernel
theorem dX3_digest_128 : decode cX3_digest 128 = .ok (.ladd, 1) := by decide +kernel
theorem dX3_digest_129 : decode cX3_digest 129 = .ok (.lstore_n 1, 1) := by decide +kernel
theorem dX3_digest_130 : decode cX3_digest 130 = .ok (.iinc 3 1, 3) := by decide +kernel
theorem dX3_digest_133 : decode cX3_digest 133 = .ok (.goto (-49), 3) := by decide +kernel
theorem dX3_digest_136 : decode cX3_digest 136 = .ok (.iconst 0, 1) := by decide +kernel
theorem dX3_digest_137 : decode cX3_digest 137 = .ok (.istore_n 3, 1) := by decide +kernel
theorem dX3_digest_138 : decode cX3_digest 138 = .ok (.iload_n 3, 1) := by decide +kernel
theorem dX3_digest_139 : decode cX3_digest 139 = .ok (.aload_n 0, 1) := by decide +kernel
theorem dX3_digest_140 : decode cX3_digest 140 = .ok (.getfield 110, 3) := by decide +kernel
theorem dX3_digest_143 : decode cX3_digest 143 = .ok (.if_icmp .ge 79, 3) := by decide +kernel
theorem dX3_digest_146 : decode cX3_digest 146 = .ok (.iconst 0, 1) := by decide +kernel
theorem dX3_digest_147 : decode cX3_digest 147 = .ok (.istore 4, 2) := by decide +kernel
theorem dX3_digest_149 : decode cX3_digest 149 = .ok (.iload 4, 2) := by decide +kernel
theorem dX3_digest_151 : decode cX3_digest 151 = .ok (.bipush 16, 2) := by decide +kernel
theorem dX3_digest_153 : decode cX3_digest 153 = .ok (.if_icmp .ge 24, 3) := by decide +kernel
theorem dX3_digest_156 : decode cX3_digest 156 = .ok (.lload_n 1, 1) := by decide +kernel
theorem dX3_digest_157 : decode cX3_digest 157 = .ok (.ldc2_w 192, 3) := by decide +kernel
theorem dX3_digest_160 : decode cX3_digest 160 = .ok (.lmul, 1) := by decide +kernel
theorem dX3_digest_161 : decode cX3_digest 161 = .ok (.aload_n 0, 1) := by decide +kernel
theorem dX3_digest_162 : decode cX3_digest 162 = .ok (.iload_n 3, 1) := by decide +kernel
theorem dX3_digest_163 : decode cX3_digest 163 = .ok (.iload 4, 2) := by decide +kernel
theorem dX3_digest_165 : decode cX3_digest 165 = .ok (.invokevirtual 137, 3) := by decide +kernel
theorem dX3_digest_168 : decode cX3_digest 168 = .ok (.i2l, 1) := by decide +kernel
theorem dX3_digest_169 : decode cX3_digest 169 = .ok (.ladd, 1) := by decide +kernel
theorem dX3_digest_170 : decode cX3_digest 170 = .ok (.lstore_n 1, 1) := by decide +kernel
theorem dX3_digest_171 : decode cX3_digest 171 = .ok (.iinc 4 1, 3) := by decide +kernel
theorem dX3_digest_174 : decode cX3_digest 174 = .ok (.goto (-25), 3) := by decide +kernel
theorem dX3_digest_177 : decode cX3_digest 177 = .ok (.iconst 0, 1) := by decide +kernel
theorem dX3_digest_178 : decode cX3_digest 178 = .ok (.istore 4, 2) := by decide +kernel
theorem dX3_digest_180 : decode cX3_digest 180 = .ok (.iload 4, 2) := by decide +kernel
theorem dX3_digest_182 : decode cX3_digest 182 = .ok (.aload_n 0, 1) := by decide +kernel
theorem dX3_digest_183 : decode cX3_digest 183 = .ok (.iload_n 3, 1) := by decide +kernel
theorem dX3_digest_184 : decode cX3_digest 184 = .ok (.invokevirtual 113, 3) := by decide +kernel
theorem dX3_digest_187 : decode cX3_digest 187 = .ok (.if_icmp .ge 29, 3) := by decide +kernel
theorem dX3_digest_190 : decode cX3_digest 190 = .ok (.lload_n 1, 1) := by decide +kernel
theorem dX3_digest_191 : decode cX3_digest 191 = .ok (.ldc2_w 192, 3) := by decide +kernel
theorem dX3_digest_194 : decode cX3_digest 194 = .ok (.lmul, 1) := by decide +kernel
theorem dX3_digest_195 : decode cX3_digest 195 = .ok (.aload_n 0, 1) := by decide +kernel
theorem dX3_digest_196 : decode cX3_digest 196 = .ok (.getfield 42, 3) := by decide +kernel
theorem dX3_digest_199 : decode cX3_digest 199 = .ok (.bipush 8, 2) := by decide +kernel
theorem dX3_digest_201 : decode cX3_digest 201 = .ok (.iload_n 3, 1) := by decide +kernel
theorem dX3_digest_202 : decode cX3_digest 202 = .ok (.imul, 1) := by decide +kernel
theorem dX3_digest_203 : decode cX3_digest 203 = .ok (.iload 4, 2) := by decide +kernel
theorem dX3_digest_205 : decode cX3_digest 205 = .ok (.iadd, 1) := by decide +kernel
theorem dX3_digest_206 : decode cX3_digest 206 = .ok (.iaload, 1) := by decide +kernel
theorem dX3_digest_207 : decode cX3_digest 207 = .ok (.i2l, 1) := by decide +kernel
theorem dX3_digest_208 : decode cX3_digest 208 = .ok (.ladd, 1) := by decide +kernel
theorem dX3_digest_209 : decode cX3_digest 209 = .ok (.lstore_n 1, 1) := by decide +kernel
theorem dX3_digest_210 : decode cX3_digest 210 = .ok (.iinc 4 1, 3) := by decide +kernel
theorem dX3_digest_213 : decode cX3_digest 213 = .ok (.goto (-33), 3) := by decide +kernel
theorem dX3_digest_216 : decode cX3_digest 216 = .ok (.iinc 3 1, 3) := by decide +kernel
theorem dX3_digest_219 : decode cX3_digest 219 = .ok (.goto (-81), 3) := by decide +kernel
theorem dX3_digest_222 : decode cX3_digest 222 = .ok (.lload_n 1, 1) := by decide +kernel
theorem dX3_digest_223 : decode cX3_digest 223 = .ok (.lreturn, 1) := by decide +kernel
theorem dJ9_abs_0f7a4_0 : decode cJ9_abs_0f7a4 0 = .ok (.iload_n 0, 1) := by decide +kernel
theorem dJ9_abs_0f7a4_1 : decode cJ9_abs_0f7a4 1 = .ok (.ifCond .ge 8, 3) := by decide +kernel
theorem dJ9_abs_0f7a4_4 : decode cJ9_abs_0f7a4 4 = .ok (.iload_n 0, 1) := by decide +kernel
theorem dJ9_abs_0f7a4_5 : decode cJ9_abs_0f7a4 5 = .ok (.ineg, 1) := by decide +kernel
theorem dJ9_abs_0f7a4_6 : decode cJ9_abs_0f7a4 6 = .ok (.goto 4, 3) := by decide +kernel
theorem dJ9_abs_0f7a4_9 : decode cJ9_abs_0f7a4 9 = .ok (.iload_n 0, 1) := by decide +kernel
theorem dJ9_abs_0f7a4_10 : decode cJ9_abs_0f7a4 10 = .ok (.ireturn, 1) := by decide +kernel
theorem dJ9_abs_067f4_0 : decode cJ9_abs_067f4 0 = .ok (.lload_n 0, 1) := by decide +kernel
theorem dJ9_abs_067f4_1 : decode cJ9_abs_067f4 1 = .ok (.lconst 0, 1) := by decide +kernel
theorem dJ9_abs_067f4_2 : decode cJ9_abs_067f4 2 = .ok (.lcmp, 1) := by decide +kernel
theorem dJ9_abs_067f4_3 : decode cJ9_abs_067f4 3 = .ok (.ifCond .ge 8, 3) := by decide +kernel
theorem dJ9_abs_067f4_6 : decode cJ9_abs_067f4 6 = .ok (.lload_n 0, 1) := by decide +kernel
theorem dJ9_abs_067f4_7 : decode cJ9_abs_067f4 7 = .ok (.lneg, 1) := by decide +kernel
theorem dJ9_abs_067f4_8 : decode cJ9_abs_067f4 8 = .ok (.goto 4, 3) := by decide +kernel
theorem dJ9_abs_067f4_11 : decode cJ9_abs_067f4 11 = .ok (.lload_n 0, 1) := by decide +kernel
theorem dJ9_abs_067f4_12 : decode cJ9_abs_067f4 12 = .ok (.lreturn, 1) := by decide +kernel
theorem dJ9_max_7cf53_0 : decode cJ9_max_7cf53 0 = .ok (.iload_n 0, 1) := by decide +kernel
theorem dJ9_max_7cf53_1 : decode cJ9_max_7cf53 1 = .ok (.iload_n 1, 1) := by decide +kernel
theorem dJ9_max_7cf53_2 : decode cJ9_max_7cf53 2 = .ok (.if_icmp .lt 7, 3) := by decide +kernel
theorem dJ9_max_7cf53_5 : decode cJ9_max_7cf53 5 = .ok (.iload_n 0, 1) := by decide +kernel
theorem dJ9_max_7cf53_6 : decode cJ9_max_7cf53 6 = .ok (.goto 4, 3) := by decide +kernel
theorem dJ9_max_7cf53_9 : decode cJ9_max_7cf53 9 = .ok (.iload_n 1, 1) := by decide +kernel
theorem dJ9_max_7cf53_10 : decode cJ9_max_7cf53 10 = .ok (.ireturn, 1) := by decide +kernel
theorem dJ9_max_f86c9_0 : decode cJ9_max_f86c9 0 = .ok (.lload_n 0, 1) := by decide +kernel
theorem dJ9_max_f86c9_1 : decode cJ9_max_f86c9 1 = .ok (.lload_n 2, 1) := by decide +kernel
theorem dJ9_max_f86c9_2 : decode cJ9_max_f86c9 2 = .ok (.lcmp, 1) := by decide +kernel
theorem dJ9_max_f86c9_3 : decode cJ9_max_f86c9 3 = .ok (.ifCond .lt 7, 3) := by decide +kernel
theorem dJ9_max_f86c9_6 : decode cJ9_max_f86c9 6 = .ok (.lload_n 0, 1) := by decide +kernel
theorem dJ9_max_f86c9_7 : decode cJ9_max_f86c9 7 = .ok (.goto 4, 3) := by decide +kernel
theorem dJ9_max_f86c9_10 : decode cJ9_max_f86c9 10 = .ok (.lload_n 2, 1) := by decide +kernel
theorem dJ9_max_f86c9_11 : decode cJ9_max_f86c9 11 = .ok (.lreturn, 1) := by decide +kernel
theorem dJ9_min_7cf53_0 : decode cJ9_min_7cf53 0 = .ok (.iload_n 0, 1) := by decide +kernel
theorem dJ9_min_7cf53_1 : decode cJ9_min_7cf53 1 = .ok (.iload_n 1, 1) := by decide +kernel
theorem dJ9_min_7cf53_2 : decode cJ9_min_7cf53 2 = .ok (.if_icmp .gt 7, 3) := by decide +kernel
theorem dJ9_min_7cf53_5 : decode cJ9_min_7cf53 5 = .ok (.iload_n 0, 1) := by decide +kernel
theorem dJ9_min_7cf53_6 : decode cJ9_min_7cf53 6 = .ok (.goto 4, 3) := by decide +kernel
theorem dJ9_min_7cf53_9 : decode cJ9_min_7cf53 9 = .ok (.iload_n 1, 1) := by decide +kernel
theorem dJ9_min_7cf53_10 : decode cJ9_min_7cf53 10 = .ok (.ireturn, 1) := by decide +kernel
theorem dJ9_min_f86c9_0 : decode cJ9_min_f86c9 0 = .ok (.lload_n 0, 1) := by decide +kernel
theorem dJ9_min_f86c9_1 : decode cJ9_min_f86c9 1 = .ok (.lload_n 2, 1) := by decide +kernel
theorem dJ9_min_f86c9_2 : decode cJ9_min_f86c9 2 = .ok (.lcmp, 1) := by decide +kernel
theorem dJ9_min_f86c9_3 : decode cJ9_min_f86c9 3 = .ok (.ifCond .gt 7, 3) := by decide +kernel
theorem dJ9_min_f86c9_6 : decode cJ9_min_f86c9 6 = .ok (.lload_n 0, 1) := by decide +kernel
theorem dJ9_min_f86c9_7 : decode cJ9_min_f86c9 7 = .ok (.goto 4, 3) := by decide +kernel
theorem dJ9_min_f86c9_10 : decode cJ9_min_f86c9 10 = .ok (.lload_n 2, 1) := by decide +kernel
theorem dJ9_min_f86c9_11 : decode cJ9_min_f86c9 11 = .ok (.lreturn, 1) := by decide +kernel
theorem dJ7_fill_d0a16_0 : decode cJ7_fill_d0a16 0 = .ok (.iconst 0, 1) := by decide +kernel
theorem dJ7_fill_d0a16_1 : decode cJ7_fill_d0a16 1 = .ok (.istore_n 3, 1) := by decide +kernel
theorem dJ7_fill_d0a16_2 : decode cJ7_fill_d0a16 2 = .ok (.aload_n 0, 1) := by decide +kernel
theorem dJ7_fill_d0a16_3 : decode cJ7_fill_d0a16 3 = .ok (.arraylength, 1) := by decide +kernel
theorem dJ7_fill_d0a16_4 : decode cJ7_fill_d0a16 4 = .ok (.istore 4, 2) := by decide +kernel
theorem dJ7_fill_d0a16_6 : decode cJ7_fill_d0a16 6 = .ok (.iload_n 3, 1) := by decide +kernel
theorem dJ7_fill_d0a16_7 : decode cJ7_fill_d0a16 7 = .ok (.iload 4, 2) := by decide +kernel
theorem dJ7_fill_d0a16_9 : decode cJ7_fill_d0a16 9 = .ok (.if_icmp .ge 13, 3) := by decide +kernel
theorem dJ7_fill_d0a16_12 : decode cJ7_fill_d0a16 12 = .ok (.aload_n 0, 1) := by decide +kernel
theorem dJ7_fill_d0a16_13 : decode cJ7_fill_d0a16 13 = .ok (.iload_n 3, 1) := by decide +kernel
theorem dJ7_fill_d0a16_14 : decode cJ7_fill_d0a16 14 = .ok (.lload_n 1, 1) := by decide +kernel
theorem dJ7_fill_d0a16_15 : decode cJ7_fill_d0a16 15 = .ok (.lastore, 1) := by decide +kernel
theorem dJ7_fill_d0a16_16 : decode cJ7_fill_d0a16 16 = .ok (.iinc 3 1, 3) := by decide +kernel
theorem dJ7_fill_d0a16_19 : decode cJ7_fill_d0a16 19 = .ok (.goto (-13), 3) := by decide +kernel
theorem dJ7_fill_d0a16_22 : decode cJ7_fill_d0a16 22 = .ok (.return_, 1) := by decide +kernel
theorem dJ7_fill_53178_0 : decode cJ7_fill_53178 0 = .ok (.iconst 0, 1) := by decide +kernel
theorem dJ7_fill_53178_1 : decode cJ7_fill_53178 1 = .ok (.istore_n 2, 1) := by decide +kernel
theorem dJ7_fill_53178_2 : decode cJ7_fill_53178 2 = .ok (.aload_n 0, 1) := by decide +kernel
theorem dJ7_fill_53178_3 : decode cJ7_fill_53178 3 = .ok (.arraylength, 1) := by decide +kernel
theorem dJ7_fill_53178_4 : decode cJ7_fill_53178 4 = .ok (.istore_n 3, 1) := by decide +kernel
theorem dJ7_fill_53178_5 : decode cJ7_fill_53178 5 = .ok (.iload_n 2, 1) := by decide +kernel
theorem dJ7_fill_53178_6 : decode cJ7_fill_53178 6 = .ok (.iload_n 3, 1) := by decide +kernel
theorem dJ7_fill_53178_7 : decode cJ7_fill_53178 7 = .ok (.if_icmp .ge 13, 3) := by decide +kernel
theorem dJ7_fill_53178_10 : decode cJ7_fill_53178 10 = .ok (.aload_n 0, 1) := by decide +kernel
theorem dJ7_fill_53178_11 : decode cJ7_fill_53178 11 = .ok (.iload_n 2, 1) := by decide +kernel
theorem dJ7_fill_53178_12 : decode cJ7_fill_53178 12 = .ok (.iload_n 1, 1) := by decide +kernel
theorem dJ7_fill_53178_13 : decode cJ7_fill_53178 13 = .ok (.iastore, 1) := by decide +kernel
theorem dJ7_fill_53178_14 : decode cJ7_fill_53178 14 = .ok (.iinc 2 1, 3) := by decide +kernel
theorem dJ7_fill_53178_17 : decode cJ7_fill_53178 17 = .ok (.goto (-12), 3) := by decide +kernel
theorem dJ7_fill_53178_20 : decode cJ7_fill_53178 20 = .ok (.return_, 1) := by decide +kernel
set_option maxRecDepth 20000 in
theorem ggL_addStave_X2_addStave : GoodIn wsL_addStave wsX2_addStave := goodIn_ca (goodIn_ca (goodIn_r _ [7, 8, 9, 10, 11, 12, 13, 14, 15, 16, 17, 18, 19, 20, 21, 22, 23, 24, 25, 26, 27, 28, 29, 30, 31, 32] (by decide +kernel) (by decide +kernel)) (goodIn_sub (fun _ h => List.mem_cons_of_mem _ (List.mem_append_left _ (List.mem_append_right _ h))) (by decide +kernel))) (goodIn_sub (fun _ h => List.mem_cons_of_mem _ (List.mem_append_right _ h)) (by decide +kernel))
set_option maxRecDepth 20000 in
theorem gL_addStave_X2_addStave : GoodIn wsL_addStave (wsV RL 7 RX2 yX2_addStave wsX2_addStave) := goodIn_app (goodIn_of _ (by decide +kernel)) ggL_addStave_X2_addStave
theorem dL_addStave_0 : decode cL_addStave 0 = .ok (.aload_n 3, 1) := by decide +kernel
theorem dL_addStave_1 : decode cL_addStave 1 = .ok (.iconst 0, 1) := by decide +kernel
theorem dL_addStave_2 : decode cL_addStave 2 = .ok (.aload_n 0, 1) := by decide +kernel
theorem dL_addStave_3 : decode cL_addStave 3 = .ok (.iload_n 1, 1) := by decide +kernel
theorem dL_addStave_4 : decode cL_addStave 4 = .ok (.iload_n 2, 1) := by decide +kernel
theorem dL_addStave_5 : decode cL_addStave 5 = .ok (.invokevirtual 7, 3) := by decide +kernel
theorem dL_addStave_8 : decode cL_addStave 8 = .ok (.i2l, 1) := by decide +kernel
theorem dL_addStave_9 : decode cL_addStave 9 = .ok (.lastore, 1) := by decide +kernel
theorem dL_addStave_10 : decode cL_addStave 10 = .ok (.goto 11, 3) := by decide +kernel
theorem dL_addStave_13 : decode cL_addStave 13 = .ok (.astore 4, 2) := by decide +kernel
theorem dL_addStave_15 : decode cL_addStave 15 = .ok (.iconst 1, 1) := by decide +kernel
theorem dL_addStave_16 : decode cL_addStave 16 = .ok (.ireturn, 1) := by decide +kernel
theorem dL_addStave_17 : decode cL_addStave 17 = .ok (.astore 4, 2) := by decide +kernel
theorem dL_addStave_19 : decode cL_addStave 19 = .ok (.iconst 2, 1) := by decide +kernel
theorem dL_addStave_20 : decode cL_addStave 20 = .ok (.ireturn, 1) := by decide +kernel
theorem dL_addStave_21 : decode cL_addStave 21 = .ok (.iconst 0, 1) := by decide +kernel
theorem dL_addStave_22 : decode cL_addStave 22 = .ok (.ireturn, 1) := by decide +kernel
set_option maxRecDepth 20000 in
theorem ggL_stave_X2_stave : GoodIn wsL_stave wsX2_stave := goodIn_ca (goodIn_r _ [6, 7, 8, 9, 10, 11, 12, 13, 14, 5, 15, 16, 17, 18, 19, 20, 21, 22, 23, 24, 25, 26, 27, 28, 29, 30, 31, 32, 33] (by decide +kernel) (by decide +kernel)) (goodIn_sub (fun _ h => List.mem_cons_of_mem _ (List.mem_append_right _ h)) (by decide +kernel))
set_option maxRecDepth 20000 in
theorem gL_stave_X2_stave : GoodIn wsL_stave (wsV RL 17 RX2 yX2_stave wsX2_stave) := goodIn_app (goodIn_of _ (by decide +kernel)) ggL_stave_X2_stave
theorem dL_stave_0 : decode cL_stave 0 = .ok (.aload_n 3, 1) := by decide +kernel
theorem dL_stave_1 : decode cL_stave 1 = .ok (.iconst 0, 1) := by decide +kernel
theorem dL_stave_2 : decode cL_stave 2 = .ok (.aload_n 0, 1) := by decide +kernel
theorem dL_stave_3 : decode cL_stave 3 = .ok (.iload_n 1, 1) := by decide +kernel
theorem dL_stave_4 : decode cL_stave 4 = .ok (.iload_n 2, 1) := by decide +kernel
theorem dL_stave_5 : decode cL_stave 5 = .ok (.invokevirtual 17, 3) := by decide +kernel
theorem dL_stave_8 : decode cL_stave 8 = .ok (.i2l, 1) := by decide +kernel
theorem dL_stave_9 : decode cL_stave 9 = .ok (.lastore, 1) := by decide +kernel
theorem dL_stave_10 : decode cL_stave 10 = .ok (.goto 7, 3) := by decide +kernel
theorem dL_stave_13 : decode cL_stave 13 = .ok (.astore 4, 2) := by decide +kernel
theorem dL_stave_15 : decode cL_stave 15 = .ok (.iconst 1, 1) := by decide +kernel
theorem dL_stave_16 : decode cL_stave 16 = .ok (.ireturn, 1) := by decide +kernel
theorem dL_stave_17 : decode cL_stave 17 = .ok (.iconst 0, 1) := by decide +kernel
theorem dL_stave_18 : decode cL_stave 18 = .ok (.ireturn, 1) := by decide +kernel
set_option maxRecDepth 20000 in
theorem ggL_addSort_X2_addSort : GoodIn wsL_addSort wsX2_addSort := goodIn_ca (goodIn_ca (goodIn_r _ [7, 8, 9, 10, 11, 12, 13, 14, 15, 16, 17, 18, 19, 20, 21, 22, 23, 24, 25, 26, 27, 28, 29, 30, 31, 32, 33] (by decide +kernel) (by decide +kernel)) (goodIn_sub (fun _ h => List.mem_cons_of_mem _ (List.mem_append_left _ (List.mem_append_right _ h))) (by decide +kernel))) (goodIn_sub (fun _ h => List.mem_cons_of_mem _ (List.mem_append_right _ h)) (by decide +kernel))
set_option maxRecDepth 20000 in
theorem gL_addSort_X2_addSort : GoodIn wsL_addSort (wsV RL 22 RX2 yX2_addSort wsX2_addSort) := goodIn_app (goodIn_of _ (by decide +kernel)) ggL_addSort_X2_addSort
theorem dL_addSort_0 : decode cL_addSort 0 = .ok (.aload 4, 2) := by decide +kernel
theorem dL_addSort_2 : decode cL_addSort 2 = .ok (.iconst 0, 1) := by decide +kernel
theorem dL_addSort_3 : decode cL_addSort 3 = .ok (.aload_n 0, 1) := by decide +kernel
theorem dL_addSort_4 : decode cL_addSort 4 = .ok (.iload_n 1, 1) := by decide +kernel
theorem dL_addSort_5 : decode cL_addSort 5 = .ok (.iload_n 2, 1) := by decide +kernel
theorem dL_addSort_6 : decode cL_addSort 6 = .ok (.iload_n 3, 1) := by decide +kernel
theorem dL_addSort_7 : decode cL_addSort 7 = .ok (.invokevirtual 22, 3) := by decide +kernel
theorem dL_addSort_10 : decode cL_addSort 10 = .ok (.i2l, 1) := by decide +kernel
theorem dL_addSort_11 : decode cL_addSort 11 = .ok (.lastore, 1) := by decide +kernel
theorem dL_addSort_12 : decode cL_addSort 12 = .ok (.goto 11, 3) := by decide +kernel
theorem dL_addSort_15 : decode cL_addSort 15 = .ok (.astore 5, 2) := by decide +kernel
theorem dL_addSort_17 : decode cL_addSort 17 = .ok (.iconst 1, 1) := by decide +kernel
theorem dL_addSort_18 : decode cL_addSort 18 = .ok (.ireturn, 1) := by decide +kernel
theorem dL_addSort_19 : decode cL_addSort 19 = .ok (.astore 5, 2) := by decide +kernel
theorem dL_addSort_21 : decode cL_addSort 21 = .ok (.iconst 2, 1) := by decide +kernel
theorem dL_addSort_22 : decode cL_addSort 22 = .ok (.ireturn, 1) := by decide +kernel
theorem dL_addSort_23 : decode cL_addSort 23 = .ok (.iconst 0, 1) := by decide +kernel
theorem dL_addSort_24 : decode cL_addSort 24 = .ok (.ireturn, 1) := by decide +kernel
set_option maxRecDepth 20000 in
theorem ggL_choose_X2_choose : GoodIn wsL_choose wsX2_choose := goodIn_ca (goodIn_r _ [6, 7, 8, 9, 10, 11, 12, 13, 5, 14, 15, 16, 17, 18, 19, 20, 21, 22, 23, 24, 25, 26, 27, 28, 29, 30, 31, 32, 33, 34, 35, 36, 37, 38, 39, 40, 41, 42, 43, 44, 45, 46, 47, 48, 49, 50, 51, 52, 53, 54, 55, 56, 57, 58, 59, 60, 61, 62, 63, 64] (by decide +kernel) (by decide +kernel)) (goodIn_sub (fun _ h => List.mem_cons_of_mem _ (List.mem_append_right _ h)) (by decide +kernel))
set_option maxRecDepth 20000 in
theorem gL_choose_X2_choose : GoodIn wsL_choose (wsV RL 26 RX2 yX2_choose wsX2_choose) := goodIn_app (goodIn_of _ (by decide +kernel)) ggL_choose_X2_choose
theorem dL_choose_0 : decode cL_choose 0 = .ok (.aload_n 3, 1) := by decide +kernel
theorem dL_choose_1 : decode cL_choose 1 = .ok (.iconst 0, 1) := by decide +kernel
theorem dL_choose_2 : decode cL_choose 2 = .ok (.aload_n 0, 1) := by decide +kernel
theorem dL_choose_3 : decode cL_choose 3 = .ok (.iload_n 1, 1) := by decide +kernel
theorem dL_choose_4 : decode cL_choose 4 = .ok (.iload_n 2, 1) := by decide +kernel
theorem dL_choose_5 : decode cL_choose 5 = .ok (.invokevirtual 26, 3) := by decide +kernel
theorem dL_choose_8 : decode cL_choose 8 = .ok (.i2l, 1) := by decide +kernel
theorem dL_choose_9 : decode cL_choose 9 = .ok (.lastore, 1) := by decide +kernel
theorem dL_choose_10 : decode cL_choose 10 = .ok (.goto 7, 3) := by decide +kernel
theorem dL_choose_13 : decode cL_choose 13 = .ok (.astore 4, 2) := by decide +kernel
theorem dL_choose_15 : decode cL_choose 15 = .ok (.iconst 1, 1) := by decide +kernel
theorem dL_choose_16 : decode cL_choose 16 = .ok (.ireturn, 1) := by decide +kernel
theorem dL_choose_17 : decode cL_choose 17 = .ok (.iconst 0, 1) := by decide +kernel
theorem dL_choose_18 : decode cL_choose 18 = .ok (.ireturn, 1) := by decide +kernel
set_option maxRecDepth 20000 in
theorem ggL_raise_X2_raise : GoodIn wsL_raise wsX2_raise := goodIn_ca (goodIn_ca (goodIn_r _ [7, 8, 9, 10, 11, 12, 13, 14, 15, 16, 17, 18, 19, 20, 21, 22, 23, 24, 6, 25, 26, 27, 28, 29, 30, 31, 32, 33, 34, 35, 36, 37, 38, 39, 40, 41, 42, 43, 44, 45, 46, 47, 48, 49, 50, 51, 52, 53, 54, 55, 56, 57, 58, 59, 60, 61, 62, 63, 64, 65, 66, 67, 68, 69, 70, 71, 72, 73, 74, 75, 76, 77, 78, 79, 80, 81, 82, 83, 84, 85, 86, 87, 88, 89, 90, 91, 92, 93, 94, 95, 96, 97] (by decide +kernel) (by decide +kernel)) (goodIn_sub (fun _ h => List.mem_cons_of_mem _ (List.mem_append_left _ (List.mem_append_right _ h))) (by decide +kernel))) (goodIn_sub (fun _ h => List.mem_cons_of_mem _ (List.mem_append_right _ h)) (by decide +kernel))
set_option maxRecDepth 20000 in
theorem gL_raise_X2_raise : GoodIn wsL_raise (wsV RL 29 RX2 yX2_raise wsX2_raise) := goodIn_app (goodIn_of _ (by decide +kernel)) ggL_raise_X2_raise
theorem dL_raise_0 : decode cL_raise 0 = .ok (.aload_n 2, 1) := by decide +kernel
theorem dL_raise_1 : decode cL_raise 1 = .ok (.iconst 0, 1) := by decide +kernel
theorem dL_raise_2 : decode cL_raise 2 = .ok (.aload_n 0, 1) := by decide +kernel
theorem dL_raise_3 : decode cL_raise 3 = .ok (.iload_n 1, 1) := by decide +kernel
theorem dL_raise_4 : decode cL_raise 4 = .ok (.invokevirtual 29, 3) := by decide +kernel
theorem dL_raise_7 : decode cL_raise 7 = .ok (.i2l, 1) := by decide +kernel
theorem dL_raise_8 : decode cL_raise 8 = .ok (.lastore, 1) := by decide +kernel
theorem dL_raise_9 : decode cL_raise 9 = .ok (.goto 9, 3) := by decide +kernel
theorem dL_raise_12 : decode cL_raise 12 = .ok (.astore_n 3, 1) := by decide +kernel
theorem dL_raise_13 : decode cL_raise 13 = .ok (.iconst 1, 1) := by decide +kernel
theorem dL_raise_14 : decode cL_raise 14 = .ok (.ireturn, 1) := by decide +kernel
theorem dL_raise_15 : decode cL_raise 15 = .ok (.astore_n 3, 1) := by decide +kernel
theorem dL_raise_16 : decode cL_raise 16 = .ok (.iconst 2, 1) := by decide +kernel
theorem dL_raise_17 : decode cL_raise 17 = .ok (.ireturn, 1) := by decide +kernel
theorem dL_raise_18 : decode cL_raise 18 = .ok (.iconst 0, 1) := by decide +kernel
theorem dL_raise_19 : decode cL_raise 19 = .ok (.ireturn, 1) := by decide +kernel
set_option maxRecDepth 20000 in
theorem ggL_drive_X2_drive : GoodIn wsL_drive wsX2_drive := goodIn_ca (goodIn_ca (goodIn_r _ [7, 8, 9, 10, 11, 12, 13, 14, 15, 16, 17, 18, 19, 20, 21, 22, 6, 23, 24, 25, 26, 27, 28, 29, 30, 31, 32, 33, 34, 35, 36, 37, 38, 39, 40, 41, 42, 43, 44, 45, 46, 47, 48, 49, 50, 51, 52, 53, 54, 55, 56, 57, 58] (by decide +kernel) (by decide +kernel)) (goodIn_sub (fun _ h => List.mem_cons_of_mem _ (List.mem_append_left _ (List.mem_append_right _ h))) (by decide +kernel))) (goodIn_sub (fun _ h => List.mem_cons_of_mem _ (List.mem_append_right _ h)) (by decide +kernel))
set_option maxRecDepth 20000 in
theorem gL_drive_X2_drive : GoodIn wsL_drive (wsV RL 33 RX2 yX2_drive wsX2_drive) := goodIn_app (goodIn_of _ (by decide +kernel)) ggL_drive_X2_drive
theorem dL_drive_0 : decode cL_drive 0 = .ok (.aload 4, 2) := by decide +kernel
theorem dL_drive_2 : decode cL_drive 2 = .ok (.iconst 0, 1) := by decide +kernel
theorem dL_drive_3 : decode cL_drive 3 = .ok (.aload_n 0, 1) := by decide +kernel
theorem dL_drive_4 : decode cL_drive 4 = .ok (.iload_n 1, 1) := by decide +kernel
theorem dL_drive_5 : decode cL_drive 5 = .ok (.iload_n 2, 1) := by decide +kernel
theorem dL_drive_6 : decode cL_drive 6 = .ok (.iload_n 3, 1) := by decide +kernel
theorem dL_drive_7 : decode cL_drive 7 = .ok (.invokevirtual 33, 3) := by decide +kernel
theorem dL_drive_10 : decode cL_drive 10 = .ok (.i2l, 1) := by decide +kernel
theorem dL_drive_11 : decode cL_drive 11 = .ok (.lastore, 1) := by decide +kernel
theorem dL_drive_12 : decode cL_drive 12 = .ok (.goto 11, 3) := by decide +kernel
theorem dL_drive_15 : decode cL_drive 15 = .ok (.astore 5, 2) := by decide +kernel
theorem dL_drive_17 : decode cL_drive 17 = .ok (.iconst 1, 1) := by decide +kernel
theorem dL_drive_18 : decode cL_drive 18 = .ok (.ireturn, 1) := by decide +kernel
theorem dL_drive_19 : decode cL_drive 19 = .ok (.astore 5, 2) := by decide +kernel
theorem dL_drive_21 : decode cL_drive 21 = .ok (.iconst 2, 1) := by decide +kernel
theorem dL_drive_22 : decode cL_drive 22 = .ok (.ireturn, 1) := by decide +kernel
theorem dL_drive_23 : decode cL_drive 23 = .ok (.iconst 0, 1) := by decide +kernel
theorem dL_drive_24 : decode cL_drive 24 = .ok (.ireturn, 1) := by decide +kernel
set_option maxRecDepth 20000 in
theorem ggL_mend_X2_mend : GoodIn wsL_mend wsX2_mend := goodIn_ca (goodIn_ca (goodIn_r _ [7, 8, 9, 10, 11, 12, 13, 14, 15, 16, 17, 18, 19, 6, 20, 21, 22, 23, 24, 25, 26, 27, 28, 29, 30, 31, 32, 33, 34, 35, 36, 37, 38, 39, 40, 41, 42, 43, 44, 45, 46, 47, 48, 49, 50, 51, 52, 53, 54, 55, 56, 57, 58, 59, 60, 61, 62, 63, 64, 65, 66, 67, 68, 69] (by decide +kernel) (by decide +kernel)) (goodIn_sub (fun _ h => List.mem_cons_of_mem _ (List.mem_append_left _ (List.mem_append_right _ h))) (by decide +kernel))) (goodIn_sub (fun _ h => List.mem_cons_of_mem _ (List.mem_append_right _ h)) (by decide +kernel))
set_option maxRecDepth 20000 in
theorem gL_mend_X2_mend : GoodIn wsL_mend (wsV RL 36 RX2 yX2_mend wsX2_mend) := goodIn_app (goodIn_of _ (by decide +kernel)) ggL_mend_X2_mend
theorem dL_mend_0 : decode cL_mend 0 = .ok (.aload_n 3, 1) := by decide +kernel
theorem dL_mend_1 : decode cL_mend 1 = .ok (.iconst 0, 1) := by decide +kernel
theorem dL_mend_2 : decode cL_mend 2 = .ok (.aload_n 0, 1) := by decide +kernel
theorem dL_mend_3 : decode cL_mend 3 = .ok (.iload_n 1, 1) := by decide +kernel
theorem dL_mend_4 : decode cL_mend 4 = .ok (.iload_n 2, 1) := by decide +kernel
theorem dL_mend_5 : decode cL_mend 5 = .ok (.invokevirtual 36, 3) := by decide +kernel
theorem dL_mend_8 : decode cL_mend 8 = .ok (.i2l, 1) := by decide +kernel
theorem dL_mend_9 : decode cL_mend 9 = .ok (.lastore, 1) := by decide +kernel
theorem dL_mend_10 : decode cL_mend 10 = .ok (.goto 11, 3) := by decide +kernel
theorem dL_mend_13 : decode cL_mend 13 = .ok (.astore 4, 2) := by decide +kernel
theorem dL_mend_15 : decode cL_mend 15 = .ok (.iconst 1, 1) := by decide +kernel
theorem dL_mend_16 : decode cL_mend 16 = .ok (.ireturn, 1) := by decide +kernel
theorem dL_mend_17 : decode cL_mend 17 = .ok (.astore 4, 2) := by decide +kernel
theorem dL_mend_19 : decode cL_mend 19 = .ok (.iconst 2, 1) := by decide +kernel
theorem dL_mend_20 : decode cL_mend 20 = .ok (.ireturn, 1) := by decide +kernel
theorem dL_mend_21 : decode cL_mend 21 = .ok (.iconst 0, 1) := by decide +kernel
theorem dL_mend_22 : decode cL_mend 22 = .ok (.ireturn, 1) := by decide +kernel
set_option maxRecDepth 20000 in
theorem ggL_breakUp_X2_breakUp : GoodIn wsL_breakUp wsX2_breakUp := goodIn_ca (goodIn_ca (goodIn_r _ [7, 8, 9, 10, 11, 12, 13, 14, 15, 16, 6, 17, 18, 19, 20, 21, 22, 23, 24, 25, 26, 27, 28, 29, 30, 31, 32, 33, 34, 35, 36, 37, 38, 39, 40, 41, 42, 43, 44, 45, 46, 47, 48, 49, 50, 51, 52, 53, 54, 55, 56, 57, 58, 59, 60, 61, 62, 63, 64, 65, 66, 67, 68, 69, 70, 71, 72, 73, 74, 75, 76, 77, 78, 79] (by decide +kernel) (by decide +kernel)) (goodIn_sub (fun _ h => List.mem_cons_of_mem _ (List.mem_append_left _ (List.mem_append_right _ h))) (by decide +kernel))) (goodIn_sub (fun _ h => List.mem_cons_of_mem _ (List.mem_append_right _ h)) (by decide +kernel))
set_option maxRecDepth 20000 in
theorem gL_breakUp_X2_breakUp : GoodIn wsL_breakUp (wsV RL 39 RX2 yX2_breakUp wsX2_breakUp) := goodIn_app (goodIn_of _ (by decide +kernel)) ggL_breakUp_X2_breakUp
theorem dL_breakUp_0 : decode cL_breakUp 0 = .ok (.aload_n 2, 1) := by decide +kernel
theorem dL_breakUp_1 : decode cL_breakUp 1 = .ok (.iconst 0, 1) := by decide +kernel
theorem dL_breakUp_2 : decode cL_breakUp 2 = .ok (.aload_n 0, 1) := by decide +kernel
theorem dL_breakUp_3 : decode cL_breakUp 3 = .ok (.iload_n 1, 1) := by decide +kernel
theorem dL_breakUp_4 : decode cL_breakUp 4 = .ok (.invokevirtual 39, 3) := by decide +kernel
theorem dL_breakUp_7 : decode cL_breakUp 7 = .ok (.i2l, 1) := by decide +kernel
theorem dL_breakUp_8 : decode cL_breakUp 8 = .ok (.lastore, 1) := by decide +kernel
theorem dL_breakUp_9 : decode cL_breakUp 9 = .ok (.goto 9, 3) := by decide +kernel
theorem dL_breakUp_12 : decode cL_breakUp 12 = .ok (.astore_n 3, 1) := by decide +kernel
theorem dL_breakUp_13 : decode cL_breakUp 13 = .ok (.iconst 1, 1) := by decide +kernel
theorem dL_breakUp_14 : decode cL_breakUp 14 = .ok (.ireturn, 1) := by decide +kernel
theorem dL_breakUp_15 : decode cL_breakUp 15 = .ok (.astore_n 3, 1) := by decide +kernel
theorem dL_breakUp_16 : decode cL_breakUp 16 = .ok (.iconst 2, 1) := by decide +kernel
theorem dL_breakUp_17 : decode cL_breakUp 17 = .ok (.ireturn, 1) := by decide +kernel
theorem dL_breakUp_18 : decode cL_breakUp 18 = .ok (.iconst 0, 1) := by decide +kernel
theorem dL_breakUp_19 : decode cL_breakUp 19 = .ok (.ireturn, 1) := by decide +kernel
set_option maxRecDepth 20000 in
theorem ggL_cask_X2_cask : GoodIn wsL_cask wsX2_cask := goodIn_ca (goodIn_r _ [6, 7, 8, 9, 10, 11, 5, 12, 13, 14, 15, 16, 17, 18, 19, 20, 21, 22, 23, 24, 25, 26, 27, 28, 29, 30, 31, 32, 33, 34, 35, 36, 37, 38, 39, 40, 41, 42, 43, 44, 45, 46, 47, 48, 49, 50, 51, 52, 53, 54, 55, 56, 57, 58, 59, 60, 61, 62, 63, 64, 65, 66, 67, 68, 69, 70, 71, 72, 73, 74, 75, 76, 77, 78, 79, 80, 81, 82, 83] (by decide +kernel) (by decide +kernel)) (goodIn_sub (fun _ h => List.mem_cons_of_mem _ (List.mem_append_right _ h)) (by decide +kernel))
set_option maxRecDepth 20000 in
theorem gL_cask_X2_cask : GoodIn wsL_cask (wsV RL 42 RX2 yX2_cask wsX2_cask) := goodIn_app (goodIn_of _ (by decide +kernel)) ggL_cask_X2_cask
theorem dL_cask_0 : decode cL_cask 0 = .ok (.aload_n 3, 1) := by decide +kernel
theorem dL_cask_1 : decode cL_cask 1 = .ok (.iconst 0, 1) := by decide +kernel
theorem dL_cask_2 : decode cL_cask 2 = .ok (.aload_n 0, 1) := by decide +kernel
theorem dL_cask_3 : decode cL_cask 3 = .ok (.iload_n 1, 1) := by decide +kernel
theorem dL_cask_4 : decode cL_cask 4 = .ok (.iload_n 2, 1) := by decide +kernel
theorem dL_cask_5 : decode cL_cask 5 = .ok (.invokevirtual 42, 3) := by decide +kernel
theorem dL_cask_8 : decode cL_cask 8 = .ok (.i2l, 1) := by decide +kernel
theorem dL_cask_9 : decode cL_cask 9 = .ok (.lastore, 1) := by decide +kernel
theorem dL_cask_10 : decode cL_cask 10 = .ok (.goto 7, 3) := by decide +kernel
theorem dL_cask_13 : decode cL_cask 13 = .ok (.astore 4, 2) := by decide +kernel
theorem dL_cask_15 : decode cL_cask 15 = .ok (.iconst 1, 1) := by decide +kernel
theorem dL_cask_16 : decode cL_cask 16 = .ok (.ireturn, 1) := by decide +kernel
theorem dL_cask_17 : decode cL_cask 17 = .ok (.iconst 0, 1) := by decide +kernel
theorem dL_cask_18 : decode cL_cask 18 = .ok (.ireturn, 1) := by decide +kernel
set_option maxRecDepth 20000 in
theorem ggL_fill_X2_fill : GoodIn wsL_fill wsX2_fill := goodIn_ca (goodIn_ca (goodIn_ca (goodIn_r _ [8, 9, 10, 11, 12, 13, 14, 15, 16, 17, 18, 19, 20, 21, 22, 7, 23, 24, 25, 26, 27, 28, 29, 30, 31, 32, 33, 34, 35, 36, 37, 38, 39, 40, 41, 42, 43, 44, 45, 46, 47, 48, 49, 50, 51, 52, 53, 54, 55, 56, 57, 58, 59, 60, 61, 62, 63, 64] (by decide +kernel) (by decide +kernel)) (goodIn_sub (fun _ h => List.mem_cons_of_mem _ (List.mem_append_left _ (List.mem_append_left _ (List.mem_append_right _ h)))) (by decide +kernel))) (goodIn_sub (fun _ h => List.mem_cons_of_mem _ (List.mem_append_left _ (List.mem_append_right _ h))) (by decide +kernel))) (goodIn_sub (fun _ h => List.mem_cons_of_mem _ (List.mem_append_right _ h)) (by decide +kernel))
set_option maxRecDepth 20000 in
theorem gL_fill_X2_fill : GoodIn wsL_fill (wsV RL 45 RX2 yX2_fill wsX2_fill) := goodIn_app (goodIn_of _ (by decide +kernel)) ggL_fill_X2_fill
theorem dL_fill_0 : decode cL_fill 0 = .ok (.aload 4, 2) := by decide +kernel
theorem dL_fill_2 : decode cL_fill 2 = .ok (.iconst 0, 1) := by decide +kernel
theorem dL_fill_3 : decode cL_fill 3 = .ok (.aload_n 0, 1) := by decide +kernel
theorem dL_fill_4 : decode cL_fill 4 = .ok (.iload_n 1, 1) := by decide +kernel
theorem dL_fill_5 : decode cL_fill 5 = .ok (.iload_n 2, 1) := by decide +kernel
theorem dL_fill_6 : decode cL_fill 6 = .ok (.iload_n 3, 1) := by decide +kernel
theorem dL_fill_7 : decode cL_fill 7 = .ok (.invokevirtual 45, 3) := by decide +kernel
theorem dL_fill_10 : decode cL_fill 10 = .ok (.i2l, 1) := by decide +kernel
theorem dL_fill_11 : decode cL_fill 11 = .ok (.lastore, 1) := by decide +kernel
theorem dL_fill_12 : decode cL_fill 12 = .ok (.goto 15, 3) := by decide +kernel
theorem dL_fill_15 : decode cL_fill 15 = .ok (.astore 5, 2) := by decide +kernel
theorem dL_fill_17 : decode cL_fill 17 = .ok (.iconst 1, 1) := by decide +kernel
theorem dL_fill_18 : decode cL_fill 18 = .ok (.ireturn, 1) := by decide +kernel
theorem dL_fill_19 : decode cL_fill 19 = .ok (.astore 5, 2) := by decide +kernel
theorem dL_fill_21 : decode cL_fill 21 = .ok (.iconst 2, 1) := by decide +kernel
theorem dL_fill_22 : decode cL_fill 22 = .ok (.ireturn, 1) := by decide +kernel
theorem dL_fill_23 : decode cL_fill 23 = .ok (.astore 5, 2) := by decide +kernel
theorem dL_fill_25 : decode cL_fill 25 = .ok (.iconst 3, 1) := by decide +kernel
theorem dL_fill_26 : decode cL_fill 26 = .ok (.ireturn, 1) := by decide +kernel
theorem dL_fill_27 : decode cL_fill 27 = .ok (.iconst 0, 1) := by decide +kernel
theorem dL_fill_28 : decode cL_fill 28 = .ok (.ireturn, 1) := by decide +kernel
set_option maxRecDepth 20000 in
theorem ggL_rack_X2_rack : GoodIn wsL_rack wsX2_rack := goodIn_ca (goodIn_ca (goodIn_ca (goodIn_r _ [8, 9, 10, 11, 12, 13, 14, 15, 16, 17, 18, 19, 20, 21, 22, 7, 23, 24, 25, 26, 27, 28, 29, 30, 31, 32, 33, 34, 35, 36, 37, 38, 39, 40, 41, 42, 43, 44, 45, 46, 47, 48, 49, 50, 51, 52, 53, 54, 55, 56, 57, 58, 59, 60, 61, 62, 63, 64, 65, 66, 67, 68, 69, 70, 71, 72, 73, 74, 75, 76, 77, 78, 79, 80, 81, 82, 83, 84, 85, 86, 87] (by decide +kernel) (by decide +kernel)) (goodIn_sub (fun _ h => List.mem_cons_of_mem _ (List.mem_append_left _ (List.mem_append_left _ (List.mem_append_right _ h)))) (by decide +kernel))) (goodIn_sub (fun _ h => List.mem_cons_of_mem _ (List.mem_append_left _ (List.mem_append_right _ h))) (by decide +kernel))) (goodIn_sub (fun _ h => List.mem_cons_of_mem _ (List.mem_append_right _ h)) (by decide +kernel))
set_option maxRecDepth 20000 in
theorem gL_rack_X2_rack : GoodIn wsL_rack (wsV RL 48 RX2 yX2_rack wsX2_rack) := goodIn_app (goodIn_of _ (by decide +kernel)) ggL_rack_X2_rack
theorem dL_rack_0 : decode cL_rack 0 = .ok (.aload 4, 2) := by decide +kernel
theorem dL_rack_2 : decode cL_rack 2 = .ok (.iconst 0, 1) := by decide +kernel
theorem dL_rack_3 : decode cL_rack 3 = .ok (.aload_n 0, 1) := by decide +kernel
theorem dL_rack_4 : decode cL_rack 4 = .ok (.iload_n 1, 1) := by decide +kernel
theorem dL_rack_5 : decode cL_rack 5 = .ok (.iload_n 2, 1) := by decide +kernel
theorem dL_rack_6 : decode cL_rack 6 = .ok (.iload_n 3, 1) := by decide +kernel
theorem dL_rack_7 : decode cL_rack 7 = .ok (.invokevirtual 48, 3) := by decide +kernel
theorem dL_rack_10 : decode cL_rack 10 = .ok (.i2l, 1) := by decide +kernel
theorem dL_rack_11 : decode cL_rack 11 = .ok (.lastore, 1) := by decide +kernel
theorem dL_rack_12 : decode cL_rack 12 = .ok (.goto 15, 3) := by decide +kernel
theorem dL_rack_15 : decode cL_rack 15 = .ok (.astore 5, 2) := by decide +kernel
theorem dL_rack_17 : decode cL_rack 17 = .ok (.iconst 1, 1) := by decide +kernel
theorem dL_rack_18 : decode cL_rack 18 = .ok (.ireturn, 1) := by decide +kernel
theorem dL_rack_19 : decode cL_rack 19 = .ok (.astore 5, 2) := by decide +kernel
theorem dL_rack_21 : decode cL_rack 21 = .ok (.iconst 2, 1) := by decide +kernel
theorem dL_rack_22 : decode cL_rack 22 = .ok (.ireturn, 1) := by decide +kernel
theorem dL_rack_23 : decode cL_rack 23 = .ok (.astore 5, 2) := by decide +kernel
theorem dL_rack_25 : decode cL_rack 25 = .ok (.iconst 3, 1) := by decide +kernel
theorem dL_rack_26 : decode cL_rack 26 = .ok (.ireturn, 1) := by decide +kernel
theorem dL_rack_27 : decode cL_rack 27 = .ok (.iconst 0, 1) := by decide +kernel
theorem dL_rack_28 : decode cL_rack 28 = .ok (.ireturn, 1) := by decide +kernel
set_option maxRecDepth 20000 in
theorem ggL_setWarmth_X2_setWarmth : GoodIn wsL_setWarmth wsX2_setWarmth := goodIn_ca (goodIn_r _ [6, 7, 8, 9, 10, 11, 12, 13, 14, 15, 16, 17, 18, 19, 20, 21, 22, 23, 24, 25, 26] (by decide +kernel) (by decide +kernel)) (goodIn_sub (fun _ h => List.mem_cons_of_mem _ (List.mem_append_right _ h)) (by decide +kernel))
set_option maxRecDepth 20000 in
theorem gL_setWarmth_X2_setWarmth : GoodIn wsL_setWarmth (wsV RL 51 RX2 yX2_setWarmth wsX2_setWarmth) := goodIn_app (goodIn_of _ (by decide +kernel)) ggL_setWarmth_X2_setWarmth
theorem dL_setWarmth_0 : decode cL_setWarmth 0 = .ok (.aload_n 2, 1) := by decide +kernel
theorem dL_setWarmth_1 : decode cL_setWarmth 1 = .ok (.iconst 0, 1) := by decide +kernel
theorem dL_setWarmth_2 : decode cL_setWarmth 2 = .ok (.aload_n 0, 1) := by decide +kernel
theorem dL_setWarmth_3 : decode cL_setWarmth 3 = .ok (.iload_n 1, 1) := by decide +kernel
theorem dL_setWarmth_4 : decode cL_setWarmth 4 = .ok (.invokevirtual 51, 3) := by decide +kernel
theorem dL_setWarmth_7 : decode cL_setWarmth 7 = .ok (.i2l, 1) := by decide +kernel
theorem dL_setWarmth_8 : decode cL_setWarmth 8 = .ok (.lastore, 1) := by decide +kernel
theorem dL_setWarmth_9 : decode cL_setWarmth 9 = .ok (.goto 6, 3) := by decide +kernel
theorem dL_setWarmth_12 : decode cL_setWarmth 12 = .ok (.astore_n 3, 1) := by decide +kernel
theorem dL_setWarmth_13 : decode cL_setWarmth 13 = .ok (.iconst 1, 1) := by decide +kernel
theorem dL_setWarmth_14 : decode cL_setWarmth 14 = .ok (.ireturn, 1) := by decide +kernel
theorem dL_setWarmth_15 : decode cL_setWarmth 15 = .ok (.iconst 0, 1) := by decide +kernel
theorem dL_setWarmth_16 : decode cL_setWarmth 16 = .ok (.ireturn, 1) := by decide +kernel
set_option maxRecDepth 20000 in
theorem ggL_pass_X2_pass : GoodIn wsL_pass wsX2_pass := goodIn_ca (goodIn_ca (goodIn_r _ [7, 8, 9, 10, 11, 12, 13, 14, 15, 16, 6, 17, 18, 19, 20, 21, 22, 23, 24, 25, 26, 27, 28, 29, 30, 31, 32, 33, 34, 35, 36, 37, 38, 39, 40, 41, 42, 43, 44, 45, 46, 47, 48, 49, 50, 51, 52, 53, 54, 55, 56, 57, 58, 59, 60, 61, 62, 63, 64, 65, 66, 67, 68, 69, 70, 71, 72, 73, 74, 75, 76, 77, 78, 79, 80, 81, 82, 83, 84, 85, 86, 87, 88, 89, 90, 91, 92, 93, 94, 95, 96, 97, 98, 99, 100, 101, 102, 103, 104, 105, 106, 107, 108, 109, 110, 111, 112, 113, 114, 115, 116, 117, 118, 119] (by decide +kernel) (by decide +kernel)) (goodIn_sub (fun _ h => List.mem_cons_of_mem _ (List.mem_append_left _ (List.mem_append_right _ h))) (by decide +kernel))) (goodIn_sub (fun _ h => List.mem_cons_of_mem _ (List.mem_append_right _ h)) (by decide +kernel))
set_option maxRecDepth 20000 in
theorem gL_pass_X2_pass : GoodIn wsL_pass (wsV RL 54 RX2 yX2_pass wsX2_pass) := goodIn_app (goodIn_of _ (by decide +kernel)) ggL_pass_X2_pass
theorem dL_pass_0 : decode cL_pass 0 = .ok (.aload_n 2, 1) := by decide +kernel
theorem dL_pass_1 : decode cL_pass 1 = .ok (.iconst 0, 1) := by decide +kernel
theorem dL_pass_2 : decode cL_pass 2 = .ok (.aload_n 0, 1) := by decide +kernel
theorem dL_pass_3 : decode cL_pass 3 = .ok (.iload_n 1, 1) := by decide +kernel
theorem dL_pass_4 : decode cL_pass 4 = .ok (.invokevirtual 54, 3) := by decide +kernel
theorem dL_pass_7 : decode cL_pass 7 = .ok (.i2l, 1) := by decide +kernel
theorem dL_pass_8 : decode cL_pass 8 = .ok (.lastore, 1) := by decide +kernel
theorem dL_pass_9 : decode cL_pass 9 = .ok (.goto 9, 3) := by decide +kernel
theorem dL_pass_12 : decode cL_pass 12 = .ok (.astore_n 3, 1) := by decide +kernel
theorem dL_pass_13 : decode cL_pass 13 = .ok (.iconst 1, 1) := by decide +kernel
theorem dL_pass_14 : decode cL_pass 14 = .ok (.ireturn, 1) := by decide +kernel
theorem dL_pass_15 : decode cL_pass 15 = .ok (.astore_n 3, 1) := by decide +kernel
theorem dL_pass_16 : decode cL_pass 16 = .ok (.iconst 2, 1) := by decide +kernel
theorem dL_pass_17 : decode cL_pass 17 = .ok (.ireturn, 1) := by decide +kernel
theorem dL_pass_18 : decode cL_pass 18 = .ok (.iconst 0, 1) := by decide +kernel
theorem dL_pass_19 : decode cL_pass 19 = .ok (.ireturn, 1) := by decide +kernel
set_option maxRecDepth 20000 in
theorem ggL_count_X2_count : GoodIn wsL_count wsX2_count := goodIn_ca (goodIn_r _ [6, 7, 8, 9, 10, 11, 12, 13, 14, 15, 16, 17, 5, 18, 19, 20, 21, 22, 23, 24, 25, 26, 27, 28, 29, 30, 31, 32, 33, 34, 35, 36, 37, 38, 39, 40, 41, 42, 43, 44, 45, 46, 47, 48, 49, 50, 51, 52, 53, 54, 55, 56, 57, 58, 59, 60, 61, 62, 63, 64, 65, 66, 67, 68] (by decide +kernel) (by decide +kernel)) (goodIn_sub (fun _ h => List.mem_cons_of_mem _ (List.mem_append_right _ h)) (by decide +kernel))
set_option maxRecDepth 20000 in
theorem gL_count_X2_count : GoodIn wsL_count (wsV RL 57 RX2 yX2_count wsX2_count) := goodIn_app (goodIn_of _ (by decide +kernel)) ggL_count_X2_count
theorem dL_count_0 : decode cL_count 0 = .ok (.aload_n 2, 1) := by decide +kernel
theorem dL_count_1 : decode cL_count 1 = .ok (.iconst 0, 1) := by decide +kernel
theorem dL_count_2 : decode cL_count 2 = .ok (.aload_n 0, 1) := by decide +kernel
theorem dL_count_3 : decode cL_count 3 = .ok (.iload_n 1, 1) := by decide +kernel
theorem dL_count_4 : decode cL_count 4 = .ok (.invokevirtual 57, 3) := by decide +kernel
theorem dL_count_7 : decode cL_count 7 = .ok (.i2l, 1) := by decide +kernel
theorem dL_count_8 : decode cL_count 8 = .ok (.lastore, 1) := by decide +kernel
theorem dL_count_9 : decode cL_count 9 = .ok (.goto 6, 3) := by decide +kernel
theorem dL_count_12 : decode cL_count 12 = .ok (.astore_n 3, 1) := by decide +kernel
theorem dL_count_13 : decode cL_count 13 = .ok (.iconst 1, 1) := by decide +kernel
theorem dL_count_14 : decode cL_count 14 = .ok (.ireturn, 1) := by decide +kernel
theorem dL_count_15 : decode cL_count 15 = .ok (.iconst 0, 1) := by decide +kernel
theorem dL_count_16 : decode cL_count 16 = .ok (.ireturn, 1) := by decide +kernel
set_option maxRecDepth 20000 in
theorem ggL_foresee_X2_foresee : GoodIn wsL_foresee wsX2_foresee := goodIn_ca (goodIn_ca (goodIn_ca (goodIn_r _ [8, 9, 10, 11, 12, 13, 14, 15, 16, 17, 18, 19, 20, 21, 22, 23, 7, 24, 25, 26, 27, 28, 29, 30, 31, 32, 33, 34, 35, 36, 37, 38, 39, 40, 41, 42, 43, 44, 45, 46, 47, 48, 49, 50, 51, 52, 53, 54, 55, 56, 57, 58, 59, 60, 61, 62, 63, 64, 65, 66, 67, 68, 69, 70, 71, 72, 73, 74, 75, 76, 77, 78, 79, 80, 81, 82, 83, 84, 85, 86, 87, 88, 89, 90, 91, 92, 93, 94, 95, 96, 97, 98, 99, 100, 101, 102, 103, 104, 105, 106, 107, 108, 109, 110, 111, 112, 113, 114, 115, 116, 117, 118, 119, 120, 121, 122, 123, 124, 125, 126, 127, 128, 129, 130, 131, 132] (by decide +kernel) (by decide +kernel)) (goodIn_sub (fun _ h => List.mem_cons_of_mem _ (List.mem_append_left _ (List.mem_append_left _ (List.mem_append_right _ h)))) (by decide +kernel))) (goodIn_sub (fun _ h => List.mem_cons_of_mem _ (List.mem_append_left _ (List.mem_append_right _ h))) (by decide +kernel))) (goodIn_sub (fun _ h => List.mem_cons_of_mem _ (List.mem_append_right _ h)) (by decide +kernel))
set_option maxRecDepth 20000 in
theorem gL_foresee_X2_foresee : GoodIn wsL_foresee (wsV RL 60 RX2 yX2_foresee wsX2_foresee) := goodIn_app (goodIn_of _ (by decide +kernel)) ggL_foresee_X2_foresee
theorem dL_foresee_0 : decode cL_foresee 0 = .ok (.aload 4, 2) := by decide +kernel
theorem dL_foresee_2 : decode cL_foresee 2 = .ok (.iconst 0, 1) := by decide +kernel
theorem dL_foresee_3 : decode cL_foresee 3 = .ok (.aload_n 0, 1) := by decide +kernel
theorem dL_foresee_4 : decode cL_foresee 4 = .ok (.iload_n 1, 1) := by decide +kernel
theorem dL_foresee_5 : decode cL_foresee 5 = .ok (.iload_n 2, 1) := by decide +kernel
theorem dL_foresee_6 : decode cL_foresee 6 = .ok (.iload_n 3, 1) := by decide +kernel
theorem dL_foresee_7 : decode cL_foresee 7 = .ok (.invokevirtual 60, 3) := by decide +kernel
theorem dL_foresee_10 : decode cL_foresee 10 = .ok (.i2l, 1) := by decide +kernel
theorem dL_foresee_11 : decode cL_foresee 11 = .ok (.lastore, 1) := by decide +kernel
theorem dL_foresee_12 : decode cL_foresee 12 = .ok (.goto 15, 3) := by decide +kernel
theorem dL_foresee_15 : decode cL_foresee 15 = .ok (.astore 5, 2) := by decide +kernel
theorem dL_foresee_17 : decode cL_foresee 17 = .ok (.iconst 1, 1) := by decide +kernel
theorem dL_foresee_18 : decode cL_foresee 18 = .ok (.ireturn, 1) := by decide +kernel
theorem dL_foresee_19 : decode cL_foresee 19 = .ok (.astore 5, 2) := by decide +kernel
theorem dL_foresee_21 : decode cL_foresee 21 = .ok (.iconst 2, 1) := by decide +kernel
theorem dL_foresee_22 : decode cL_foresee 22 = .ok (.ireturn, 1) := by decide +kernel
theorem dL_foresee_23 : decode cL_foresee 23 = .ok (.astore 5, 2) := by decide +kernel
theorem dL_foresee_25 : decode cL_foresee 25 = .ok (.iconst 3, 1) := by decide +kernel
theorem dL_foresee_26 : decode cL_foresee 26 = .ok (.ireturn, 1) := by decide +kernel
theorem dL_foresee_27 : decode cL_foresee 27 = .ok (.iconst 0, 1) := by decide +kernel
theorem dL_foresee_28 : decode cL_foresee 28 = .ok (.ireturn, 1) := by decide +kernel
set_option maxRecDepth 20000 in
theorem ggL_blend_X2_blend : GoodIn wsL_blend wsX2_blend := goodIn_ca (goodIn_ca (goodIn_r _ [7, 8, 9, 10, 11, 12, 13, 14, 15, 16, 17, 18, 19, 20, 6, 21, 22, 23, 24, 25, 26, 27, 28, 29, 30, 31, 32, 33, 34, 35, 36, 37, 38, 39, 40, 41, 42, 43, 44, 45, 46, 47, 48, 49, 50, 51, 52, 53, 54, 55, 56, 57, 58, 59, 60, 61, 62, 63, 64, 65, 66, 67, 68, 69, 70, 71, 72, 73, 74, 75, 76, 77, 78, 79, 80, 81, 82, 83, 84, 85, 86, 87, 88, 89, 90, 91, 92, 93, 94, 95, 96, 97, 98, 99] (by decide +kernel) (by decide +kernel)) (goodIn_sub (fun _ h => List.mem_cons_of_mem _ (List.mem_append_left _ (List.mem_append_right _ h))) (by decide +kernel))) (goodIn_sub (fun _ h => List.mem_cons_of_mem _ (List.mem_append_right _ h)) (by decide +kernel))
set_option maxRecDepth 20000 in
theorem gL_blend_X2_blend : GoodIn wsL_blend (wsV RL 63 RX2 yX2_blend wsX2_blend) := goodIn_app (goodIn_of _ (by decide +kernel)) ggL_blend_X2_blend
theorem dL_blend_0 : decode cL_blend 0 = .ok (.aload_n 3, 1) := by decide +kernel
theorem dL_blend_1 : decode cL_blend 1 = .ok (.iconst 0, 1) := by decide +kernel
theorem dL_blend_2 : decode cL_blend 2 = .ok (.aload_n 0, 1) := by decide +kernel
theorem dL_blend_3 : decode cL_blend 3 = .ok (.iload_n 1, 1) := by decide +kernel
theorem dL_blend_4 : decode cL_blend 4 = .ok (.iload_n 2, 1) := by decide +kernel
theorem dL_blend_5 : decode cL_blend 5 = .ok (.invokevirtual 63, 3) := by decide +kernel
theorem dL_blend_8 : decode cL_blend 8 = .ok (.i2l, 1) := by decide +kernel
theorem dL_blend_9 : decode cL_blend 9 = .ok (.lastore, 1) := by decide +kernel
theorem dL_blend_10 : decode cL_blend 10 = .ok (.goto 11, 3) := by decide +kernel
theorem dL_blend_13 : decode cL_blend 13 = .ok (.astore 4, 2) := by decide +kernel
theorem dL_blend_15 : decode cL_blend 15 = .ok (.iconst 1, 1) := by decide +kernel
theorem dL_blend_16 : decode cL_blend 16 = .ok (.ireturn, 1) := by decide +kernel
theorem dL_blend_17 : decode cL_blend 17 = .ok (.astore 4, 2) := by decide +kernel
theorem dL_blend_19 : decode cL_blend 19 = .ok (.iconst 2, 1) := by decide +kernel
theorem dL_blend_20 : decode cL_blend 20 = .ok (.ireturn, 1) := by decide +kernel
theorem dL_blend_21 : decode cL_blend 21 = .ok (.iconst 0, 1) := by decide +kernel
theorem dL_blend_22 : decode cL_blend 22 = .ok (.ireturn, 1) := by decide +kernel
set_option maxRecDepth 20000 in
theorem ggL_law_X2_init : GoodIn wsL_law wsX2_init := goodIn_r _ [9, 10, 11, 12, 13, 14, 15, 16, 17, 18, 19, 20, 21, 22, 23, 24, 6, 25, 26, 27, 28, 29, 30, 31, 32, 33, 34, 35, 36, 37, 38, 39, 613, 614, 615, 616, 617, 618, 619, 620, 621, 622, 623, 624, 625, 626, 627, 628, 629, 655, 656, 657, 658, 659, 660, 661, 662, 663, 664, 665, 666, 667, 668, 669, 670] (by decide +kernel) (by decide +kernel)
set_option maxRecDepth 20000 in
theorem gL_law_X2_init : GoodIn wsL_law (wsX2_init) := ggL_law_X2_init
set_option maxRecDepth 20000 in
theorem ggL_law_X3_init : GoodIn wsL_law wsX3_init := goodIn_r _ [42, 43, 11, 12, 44, 13, 45, 46, 47, 48, 49, 50, 51, 52, 53, 54, 55, 56, 57, 58, 59, 60, 61, 62, 63, 630, 631, 632, 633, 634, 635, 636, 637, 638, 639, 640, 641, 642, 643, 644, 645, 646, 647, 648, 649, 650, 651, 652, 653, 654] (by decide +kernel) (by decide +kernel)
set_option maxRecDepth 20000 in
theorem gL_law_X3_init : GoodIn wsL_law (wsX3_init) := ggL_law_X3_init
set_option maxRecDepth 20000 in
theorem ggL_law_L_addStave : GoodIn wsL_law wsL_addStave := goodIn_ca (goodIn_ca (goodIn_r _ [67, 68, 69, 70, 71, 72, 2, 73, 74, 75, 76, 77, 78, 14, 15, 16, 613, 614, 615, 616, 617, 618, 619, 620, 621, 622, 623, 624, 625, 626, 627, 628, 629] (by decide +kernel) (by decide +kernel)) (goodIn_sub (fun _ h => List.mem_append_left _ (List.mem_append_left _ (List.mem_append_right _ h))) (by decide +kernel))) (goodIn_sub (fun _ h => List.mem_append_left _ (List.mem_append_right _ h)) (by decide +kernel))
set_option maxRecDepth 20000 in
theorem gL_law_L_addStave : GoodIn wsL_law (va_wsS RL 70 yL_addStave wsL_addStave) := goodIn_app (goodIn_of _ (by decide +kernel)) ggL_law_L_addStave
set_option maxRecDepth 20000 in
theorem ggL_law_X3_addStave : GoodIn wsL_law wsX3_addStave := goodIn_r _ [82, 83, 84, 45, 46, 47, 85, 86, 5, 87, 88, 89, 90, 91, 630, 631, 632, 633, 634, 635, 636, 637, 638, 639, 640, 641, 642, 643, 644, 645, 646, 647, 648, 649, 650, 651, 652, 653, 654] (by decide +kernel) (by decide +kernel)
set_option maxRecDepth 20000 in
theorem gL_law_X3_addStave : GoodIn wsL_law (wsV RL 75 RX3 yX3_addStave wsX3_addStave) := goodIn_app (goodIn_of _ (by decide +kernel)) ggL_law_X3_addStave
set_option maxRecDepth 20000 in
theorem ggL_law_X3_thrown : GoodIn wsL_law wsX3_thrown := goodIn_r _ [95, 83, 630, 631, 632, 633, 634, 635, 636, 637, 638, 639, 640, 641, 642, 643, 644, 645, 646, 647, 648, 649, 650, 651, 652, 653, 654] (by decide +kernel) (by decide +kernel)
set_option maxRecDepth 20000 in
theorem gL_law_X3_thrown : GoodIn wsL_law (wsV RL 76 RX3 yX3_thrown wsX3_thrown) := goodIn_app (goodIn_of _ (by decide +kernel)) ggL_law_X3_thrown
set_option maxRecDepth 20000 in
theorem ggL_law_L_stave : GoodIn wsL_law wsL_stave := goodIn_ca (goodIn_r _ [98, 99, 100, 101, 102, 2, 103, 104, 105, 14, 15, 16, 106, 107, 108, 109, 78, 613, 614, 615, 616, 617, 618, 619, 620, 621, 622, 623, 624, 625, 626, 627, 628, 629] (by decide +kernel) (by decide +kernel)) (goodIn_sub (fun _ h => List.mem_append_right _ h) (by decide +kernel))
set_option maxRecDepth 20000 in
theorem gL_law_L_stave : GoodIn wsL_law (va_wsS RL 80 yL_stave wsL_stave) := goodIn_app (goodIn_of _ (by decide +kernel)) ggL_law_L_stave
set_option maxRecDepth 20000 in
theorem ggL_law_X3_stave : GoodIn wsL_law wsX3_stave := goodIn_r _ [113, 83, 114, 115, 116, 5, 117, 84, 85, 86, 87, 118, 119, 120, 121, 45, 46, 47, 88, 89, 90, 91, 630, 631, 632, 633, 634, 635, 636, 637, 638, 639, 640, 641, 642, 643, 644, 645, 646, 647, 648, 649, 650, 651, 652, 653, 654] (by decide +kernel) (by decide +kernel)
set_option maxRecDepth 20000 in
theorem gL_law_X3_stave : GoodIn wsL_law (wsV RL 82 RX3 yX3_stave wsX3_stave) := goodIn_app (goodIn_of _ (by decide +kernel)) ggL_law_X3_stave
set_option maxRecDepth 20000 in
theorem ggL_law_L_addSort : GoodIn wsL_law wsL_addSort := goodIn_ca (goodIn_ca (goodIn_r _ [124, 68, 69, 125, 126, 127, 2, 128, 74, 75, 76, 77, 129, 130, 17, 18, 19, 613, 614, 615, 616, 617, 618, 619, 620, 621, 622, 623, 624, 625, 626, 627, 628, 629] (by decide +kernel) (by decide +kernel)) (goodIn_sub (fun _ h => List.mem_append_left _ (List.mem_append_left _ (List.mem_append_right _ h))) (by decide +kernel))) (goodIn_sub (fun _ h => List.mem_append_left _ (List.mem_append_right _ h)) (by decide +kernel))
set_option maxRecDepth 20000 in
theorem gL_law_L_addSort : GoodIn wsL_law (va_wsS RL 83 yL_addSort wsL_addSort) := goodIn_app (goodIn_of _ (by decide +kernel)) ggL_law_L_addSort
set_option maxRecDepth 20000 in
theorem ggL_law_X3_addSort : GoodIn wsL_law wsX3_addSort := goodIn_r _ [134, 83, 135, 136, 48, 49, 50, 85, 86, 5, 87, 88, 89, 90, 91, 630, 631, 632, 633, 634, 635, 636, 637, 638, 639, 640, 641, 642, 643, 644, 645, 646, 647, 648, 649, 650, 651, 652, 653, 654] (by decide +kernel) (by decide +kernel)
set_option maxRecDepth 20000 in
theorem gL_law_X3_addSort : GoodIn wsL_law (wsV RL 86 RX3 yX3_addSort wsX3_addSort) := goodIn_app (goodIn_of _ (by decide +kernel)) ggL_law_X3_addSort
set_option maxRecDepth 20000 in
theorem ggL_law_L_choose : GoodIn wsL_law wsL_choose := goodIn_ca (goodIn_r _ [139, 99, 140, 141, 142, 2, 143, 104, 105, 17, 144, 145, 146, 147, 148, 130, 149, 150, 151, 152, 25, 26, 78, 153, 154, 155, 156, 157, 158, 159, 160, 161, 162, 163, 16, 15, 164, 165, 166, 167, 14, 168, 169, 170, 171, 172, 173, 174, 613, 614, 615, 616, 617, 618, 619, 620, 621, 622, 623, 624, 625, 626, 627, 628, 629] (by decide +kernel) (by decide +kernel)) (goodIn_sub (fun _ h => List.mem_append_right _ h) (by decide +kernel))
set_option maxRecDepth 20000 in
theorem gL_law_L_choose : GoodIn wsL_law (va_wsS RL 87 yL_choose wsL_choose) := goodIn_app (goodIn_of _ (by decide +kernel)) ggL_law_L_choose
set_option maxRecDepth 20000 in
theorem ggL_law_X3_choose : GoodIn wsL_law wsX3_choose := goodIn_r _ [178, 83, 179, 63, 180, 181, 182, 5, 183, 136, 85, 86, 87, 88, 89, 90, 91, 184, 185, 186, 187, 62, 84, 45, 188, 189, 190, 191, 48, 192, 193, 194, 195, 47, 46, 630, 631, 632, 633, 634, 635, 636, 637, 638, 639, 640, 641, 642, 643, 644, 645, 646, 647, 648, 649, 650, 651, 652, 653, 654] (by decide +kernel) (by decide +kernel)
set_option maxRecDepth 20000 in
theorem gL_law_X3_choose : GoodIn wsL_law (wsV RL 89 RX3 yX3_choose wsX3_choose) := goodIn_app (goodIn_of _ (by decide +kernel)) ggL_law_X3_choose
set_option maxRecDepth 20000 in
theorem ggL_law_L_raise : GoodIn wsL_law wsL_raise := goodIn_ca (goodIn_ca (goodIn_r _ [198, 99, 69, 199, 200, 201, 2, 202, 104, 105, 76, 77, 203, 17, 144, 21, 204, 18, 205, 206, 19, 207, 145, 146, 147, 148, 130, 149, 150, 151, 152, 25, 26, 78, 153, 154, 155, 156, 157, 158, 159, 160, 161, 162, 163, 16, 15, 164, 165, 166, 167, 14, 208, 209, 210, 23, 211, 212, 35, 213, 214, 215, 216, 172, 173, 174, 217, 218, 219, 220, 613, 614, 615, 616, 617, 618, 619, 620, 621, 622, 623, 624, 625, 626, 627, 628, 629, 655, 656, 657, 658, 659, 660, 661, 662, 663, 664, 665] (by decide +kernel) (by decide +kernel)) (goodIn_sub (fun _ h => List.mem_append_right _ h) (by decide +kernel))) (goodIn_sub (fun _ h => List.mem_append_left _ (List.mem_append_right _ h)) (by decide +kernel))
set_option maxRecDepth 20000 in
theorem gL_law_L_raise : GoodIn wsL_law (va_wsS RL 90 yL_raise wsL_raise) := goodIn_app (goodIn_of _ (by decide +kernel)) ggL_law_L_raise
set_option maxRecDepth 20000 in
theorem ggL_law_X3_raise : GoodIn wsL_law wsX3_raise := goodIn_r _ [224, 83, 225, 51, 53, 54, 179, 47, 63, 46, 55, 50, 56, 57, 58, 60, 180, 181, 182, 5, 183, 136, 85, 86, 87, 88, 89, 90, 91, 184, 185, 186, 187, 62, 84, 45, 188, 189, 190, 191, 48, 192, 193, 194, 195, 630, 631, 632, 633, 634, 635, 636, 637, 638, 639, 640, 641, 642, 643, 644, 645, 646, 647, 648, 649, 650, 651, 652, 653, 654] (by decide +kernel) (by decide +kernel)
set_option maxRecDepth 20000 in
theorem gL_law_X3_raise : GoodIn wsL_law (wsV RL 93 RX3 yX3_raise wsX3_raise) := goodIn_app (goodIn_of _ (by decide +kernel)) ggL_law_X3_raise
set_option maxRecDepth 20000 in
theorem ggL_law_L_drive : GoodIn wsL_law wsL_drive := goodIn_ca (goodIn_ca (goodIn_r _ [228, 99, 68, 229, 230, 231, 2, 232, 104, 105, 74, 75, 21, 233, 234, 235, 189, 190, 191, 207, 236, 237, 238, 239, 203, 240, 241, 242, 23, 243, 35, 613, 614, 615, 616, 617, 618, 619, 620, 621, 622, 623, 624, 625, 626, 627, 628, 629, 655, 656, 657, 658, 659, 660, 661, 662, 663, 664, 665] (by decide +kernel) (by decide +kernel)) (goodIn_sub (fun _ h => List.mem_append_right _ h) (by decide +kernel))) (goodIn_sub (fun _ h => List.mem_append_left _ (List.mem_append_left _ (List.mem_append_right _ h))) (by decide +kernel))
set_option maxRecDepth 20000 in
theorem gL_law_L_drive : GoodIn wsL_law (va_wsS RL 94 yL_drive wsL_drive) := goodIn_app (goodIn_of _ (by decide +kernel)) ggL_law_L_drive
set_option maxRecDepth 20000 in
theorem ggL_law_X3_drive : GoodIn wsL_law wsX3_drive := goodIn_r _ [247, 83, 55, 188, 189, 190, 191, 54, 248, 249, 250, 5, 251, 225, 85, 86, 87, 252, 253, 254, 255, 53, 50, 51, 88, 89, 90, 91, 256, 257, 258, 259, 630, 631, 632, 633, 634, 635, 636, 637, 638, 639, 640, 641, 642, 643, 644, 645, 646, 647, 648, 649, 650, 651, 652, 653, 654] (by decide +kernel) (by decide +kernel)
set_option maxRecDepth 20000 in
theorem gL_law_X3_drive : GoodIn wsL_law (wsV RL 96 RX3 yX3_drive wsX3_drive) := goodIn_app (goodIn_of _ (by decide +kernel)) ggL_law_X3_drive
set_option maxRecDepth 20000 in
theorem ggL_law_L_mend : GoodIn wsL_law wsL_mend := goodIn_ca (goodIn_ca (goodIn_r _ [262, 99, 69, 263, 264, 265, 2, 266, 104, 105, 76, 77, 21, 206, 16, 14, 207, 236, 237, 238, 239, 203, 106, 107, 108, 109, 78, 267, 268, 269, 270, 271, 272, 273, 23, 274, 36, 217, 218, 219, 220, 15, 613, 614, 615, 616, 617, 618, 619, 620, 621, 622, 623, 624, 625, 626, 627, 628, 629, 655, 656, 657, 658, 659, 660, 661, 662, 663, 664, 665] (by decide +kernel) (by decide +kernel)) (goodIn_sub (fun _ h => List.mem_append_right _ h) (by decide +kernel))) (goodIn_sub (fun _ h => List.mem_append_left _ (List.mem_append_right _ h)) (by decide +kernel))
set_option maxRecDepth 20000 in
theorem gL_law_L_mend : GoodIn wsL_law (va_wsS RL 97 yL_mend wsL_mend) := goodIn_app (goodIn_of _ (by decide +kernel)) ggL_law_L_mend
set_option maxRecDepth 20000 in
theorem ggL_law_X3_mend : GoodIn wsL_law wsX3_mend := goodIn_r _ [278, 83, 53, 47, 45, 54, 46, 248, 249, 250, 5, 251, 225, 85, 86, 87, 114, 115, 116, 117, 84, 88, 89, 90, 91, 279, 280, 281, 282, 59, 283, 284, 285, 286, 630, 631, 632, 633, 634, 635, 636, 637, 638, 639, 640, 641, 642, 643, 644, 645, 646, 647, 648, 649, 650, 651, 652, 653, 654] (by decide +kernel) (by decide +kernel)
set_option maxRecDepth 20000 in
theorem gL_law_X3_mend : GoodIn wsL_law (wsV RL 99 RX3 yX3_mend wsX3_mend) := goodIn_app (goodIn_of _ (by decide +kernel)) ggL_law_X3_mend
set_option maxRecDepth 20000 in
theorem ggL_law_L_breakUp : GoodIn wsL_law wsL_breakUp := goodIn_ca (goodIn_ca (goodIn_r _ [289, 99, 69, 290, 291, 292, 2, 293, 104, 105, 76, 77, 21, 206, 236, 237, 238, 239, 203, 271, 272, 273, 23, 274, 36, 294, 295, 296, 297, 78, 16, 15, 298, 299, 190, 300, 301, 302, 303, 304, 305, 306, 212, 307, 308, 309, 310, 35, 311, 158, 155, 159, 613, 614, 615, 616, 617, 618, 619, 620, 621, 622, 623, 624, 625, 626, 627, 628, 629, 655, 656, 657, 658, 659, 660, 661, 662, 663, 664, 665] (by decide +kernel) (by decide +kernel)) (goodIn_sub (fun _ h => List.mem_append_right _ h) (by decide +kernel))) (goodIn_sub (fun _ h => List.mem_append_left _ (List.mem_append_right _ h)) (by decide +kernel))
set_option maxRecDepth 20000 in
theorem gL_law_L_breakUp : GoodIn wsL_law (va_wsS RL 100 yL_breakUp wsL_breakUp) := goodIn_app (goodIn_of _ (by decide +kernel)) ggL_law_L_breakUp
set_option maxRecDepth 20000 in
theorem ggL_law_X3_breakUp : GoodIn wsL_law wsX3_breakUp := goodIn_r _ [315, 83, 53, 59, 60, 84, 47, 46, 316, 299, 190, 300, 248, 249, 250, 5, 251, 225, 85, 86, 87, 88, 89, 90, 91, 279, 280, 281, 282, 630, 631, 632, 633, 634, 635, 636, 637, 638, 639, 640, 641, 642, 643, 644, 645, 646, 647, 648, 649, 650, 651, 652, 653, 654] (by decide +kernel) (by decide +kernel)
set_option maxRecDepth 20000 in
theorem gL_law_X3_breakUp : GoodIn wsL_law (wsV RL 102 RX3 yX3_breakUp wsX3_breakUp) := goodIn_app (goodIn_of _ (by decide +kernel)) ggL_law_X3_breakUp
set_option maxRecDepth 20000 in
theorem ggL_law_L_cask : GoodIn wsL_law wsL_cask := goodIn_ca (goodIn_r _ [319, 99, 320, 321, 322, 2, 323, 104, 105, 236, 237, 238, 239, 203, 324, 325, 326, 327, 21, 328, 204, 207, 329, 330, 331, 332, 206, 333, 334, 335, 336, 78, 16, 240, 241, 242, 23, 243, 35, 271, 272, 273, 274, 36, 337, 338, 339, 340, 305, 306, 307, 341, 299, 190, 300, 342, 613, 614, 615, 616, 617, 618, 619, 620, 621, 622, 623, 624, 625, 626, 627, 628, 629, 655, 656, 657, 658, 659, 660, 661, 662, 663, 664, 665] (by decide +kernel) (by decide +kernel)) (goodIn_sub (fun _ h => List.mem_append_right _ h) (by decide +kernel))
set_option maxRecDepth 20000 in
theorem gL_law_L_cask : GoodIn wsL_law (va_wsS RL 103 yL_cask wsL_cask) := goodIn_app (goodIn_of _ (by decide +kernel)) ggL_law_L_cask
set_option maxRecDepth 20000 in
theorem ggL_law_X3_cask : GoodIn wsL_law wsX3_cask := goodIn_r _ [346, 83, 248, 249, 250, 5, 251, 225, 85, 86, 87, 347, 348, 349, 350, 51, 53, 59, 60, 13, 54, 56, 57, 58, 351, 352, 353, 354, 316, 299, 190, 300, 256, 257, 258, 259, 55, 252, 253, 254, 255, 50, 355, 356, 357, 358, 84, 47, 279, 280, 281, 282, 88, 89, 90, 91, 630, 631, 632, 633, 634, 635, 636, 637, 638, 639, 640, 641, 642, 643, 644, 645, 646, 647, 648, 649, 650, 651, 652, 653, 654] (by decide +kernel) (by decide +kernel)
set_option maxRecDepth 20000 in
theorem gL_law_X3_cask : GoodIn wsL_law (wsV RL 105 RX3 yX3_cask wsX3_cask) := goodIn_app (goodIn_of _ (by decide +kernel)) ggL_law_X3_cask
set_option maxRecDepth 20000 in
theorem ggL_law_L_fill : GoodIn wsL_law wsL_fill := goodIn_ca (goodIn_ca (goodIn_ca (goodIn_r _ [361, 99, 68, 69, 362, 363, 364, 2, 365, 104, 105, 74, 75, 76, 77, 129, 21, 206, 205, 328, 236, 237, 238, 239, 203, 271, 272, 273, 23, 274, 36, 366, 367, 368, 369, 308, 370, 613, 614, 615, 616, 617, 618, 619, 620, 621, 622, 623, 624, 625, 626, 627, 628, 629, 655, 656, 657, 658, 659, 660, 661, 662, 663, 664, 665] (by decide +kernel) (by decide +kernel)) (goodIn_sub (fun _ h => List.mem_append_right _ h) (by decide +kernel))) (goodIn_sub (fun _ h => List.mem_append_left _ (List.mem_append_left _ (List.mem_append_right _ h))) (by decide +kernel))) (goodIn_sub (fun _ h => List.mem_append_left _ (List.mem_append_right _ h)) (by decide +kernel))
set_option maxRecDepth 20000 in
theorem gL_law_L_fill : GoodIn wsL_law (va_wsS RL 106 yL_fill wsL_fill) := goodIn_app (goodIn_of _ (by decide +kernel)) ggL_law_L_fill
set_option maxRecDepth 20000 in
theorem ggL_law_X3_fill : GoodIn wsL_law wsX3_fill := goodIn_r _ [374, 83, 135, 53, 49, 51, 59, 248, 249, 250, 5, 251, 225, 85, 86, 87, 88, 89, 90, 91, 279, 280, 281, 282, 375, 376, 377, 378, 57, 630, 631, 632, 633, 634, 635, 636, 637, 638, 639, 640, 641, 642, 643, 644, 645, 646, 647, 648, 649, 650, 651, 652, 653, 654] (by decide +kernel) (by decide +kernel)
set_option maxRecDepth 20000 in
theorem gL_law_X3_fill : GoodIn wsL_law (wsV RL 108 RX3 yX3_fill wsX3_fill) := goodIn_app (goodIn_of _ (by decide +kernel)) ggL_law_X3_fill
set_option maxRecDepth 20000 in
theorem ggL_law_L_rack : GoodIn wsL_law wsL_rack := goodIn_ca (goodIn_ca (goodIn_ca (goodIn_r _ [381, 99, 68, 69, 382, 383, 384, 2, 385, 104, 105, 74, 75, 76, 77, 129, 21, 24, 206, 205, 236, 237, 238, 239, 203, 271, 272, 273, 23, 274, 36, 301, 302, 303, 304, 305, 306, 212, 307, 308, 309, 310, 35, 311, 158, 155, 159, 366, 367, 368, 369, 370, 386, 387, 388, 389, 390, 391, 392, 393, 613, 614, 615, 616, 617, 618, 619, 620, 621, 622, 623, 624, 625, 626, 627, 628, 629, 655, 656, 657, 658, 659, 660, 661, 662, 663, 664, 665] (by decide +kernel) (by decide +kernel)) (goodIn_sub (fun _ h => List.mem_append_right _ h) (by decide +kernel))) (goodIn_sub (fun _ h => List.mem_append_left _ (List.mem_append_left _ (List.mem_append_right _ h))) (by decide +kernel))) (goodIn_sub (fun _ h => List.mem_append_left _ (List.mem_append_right _ h)) (by decide +kernel))
set_option maxRecDepth 20000 in
theorem gL_law_L_rack : GoodIn wsL_law (va_wsS RL 109 yL_rack wsL_rack) := goodIn_app (goodIn_of _ (by decide +kernel)) ggL_law_L_rack
set_option maxRecDepth 20000 in
theorem ggL_law_X3_rack : GoodIn wsL_law wsX3_rack := goodIn_r _ [397, 83, 135, 53, 49, 51, 13, 59, 60, 248, 249, 250, 5, 251, 225, 85, 86, 87, 88, 89, 90, 91, 279, 280, 281, 282, 375, 376, 377, 378, 57, 630, 631, 632, 633, 634, 635, 636, 637, 638, 639, 640, 641, 642, 643, 644, 645, 646, 647, 648, 649, 650, 651, 652, 653, 654] (by decide +kernel) (by decide +kernel)
set_option maxRecDepth 20000 in
theorem gL_law_X3_rack : GoodIn wsL_law (wsV RL 111 RX3 yX3_rack wsX3_rack) := goodIn_app (goodIn_of _ (by decide +kernel)) ggL_law_X3_rack
set_option maxRecDepth 20000 in
theorem ggL_law_L_setWarmth : GoodIn wsL_law wsL_setWarmth := goodIn_ca (goodIn_r _ [400, 68, 401, 402, 403, 2, 404, 74, 75, 31, 613, 614, 615, 616, 617, 618, 619, 620, 621, 622, 623, 624, 625, 626, 627, 628, 629] (by decide +kernel) (by decide +kernel)) (goodIn_sub (fun _ h => List.mem_append_left _ (List.mem_append_left _ (List.mem_append_right _ h))) (by decide +kernel))
set_option maxRecDepth 20000 in
theorem gL_law_L_setWarmth : GoodIn wsL_law (va_wsS RL 112 yL_setWarmth wsL_setWarmth) := goodIn_app (goodIn_of _ (by decide +kernel)) ggL_law_L_setWarmth
set_option maxRecDepth 20000 in
theorem ggL_law_X3_setWarmth : GoodIn wsL_law wsX3_setWarmth := goodIn_r _ [408, 83, 44, 85, 86, 5, 87, 88, 89, 90, 91, 630, 631, 632, 633, 634, 635, 636, 637, 638, 639, 640, 641, 642, 643, 644, 645, 646, 647, 648, 649, 650, 651, 652, 653, 654] (by decide +kernel) (by decide +kernel)
set_option maxRecDepth 20000 in
theorem gL_law_X3_setWarmth : GoodIn wsL_law (wsV RL 114 RX3 yX3_setWarmth wsX3_setWarmth) := goodIn_app (goodIn_of _ (by decide +kernel)) ggL_law_X3_setWarmth
set_option maxRecDepth 20000 in
theorem ggL_law_L_pass : GoodIn wsL_law wsL_pass := goodIn_ca (goodIn_ca (goodIn_r _ [411, 68, 69, 412, 413, 414, 2, 415, 74, 75, 76, 77, 416, 417, 418, 419, 420, 421, 78, 16, 15, 235, 189, 190, 191, 203, 21, 31, 422, 423, 424, 425, 426, 427, 23, 428, 305, 429, 430, 431, 432, 308, 310, 370, 272, 273, 274, 36, 433, 434, 435, 436, 437, 307, 438, 341, 299, 300, 439, 338, 339, 340, 306, 342, 241, 242, 243, 35, 440, 441, 442, 443, 444, 445, 446, 447, 448, 449, 450, 451, 452, 453, 454, 309, 311, 158, 155, 159, 455, 456, 457, 458, 613, 614, 615, 616, 617, 618, 619, 620, 621, 622, 623, 624, 625, 626, 627, 628, 629, 655, 656, 657, 658, 659, 660, 661, 662, 663, 664, 665] (by decide +kernel) (by decide +kernel)) (goodIn_sub (fun _ h => List.mem_append_left _ (List.mem_append_left _ (List.mem_append_right _ h))) (by decide +kernel))) (goodIn_sub (fun _ h => List.mem_append_left _ (List.mem_append_right _ h)) (by decide +kernel))
set_option maxRecDepth 20000 in
theorem gL_law_L_pass : GoodIn wsL_law (va_wsS RL 115 yL_pass wsL_pass) := goodIn_app (goodIn_of _ (by decide +kernel)) ggL_law_L_pass
set_option maxRecDepth 20000 in
theorem ggL_law_X3_pass_ : GoodIn wsL_law wsX3_pass_ := goodIn_r _ [462, 83, 463, 464, 84, 47, 46, 188, 189, 190, 191, 225, 53, 85, 86, 5, 87, 88, 89, 90, 91, 465, 466, 467, 468, 60, 57, 316, 299, 300, 56, 49, 51, 44, 59, 469, 470, 446, 447, 471, 449, 450, 58, 55, 279, 280, 281, 282, 351, 352, 353, 354, 54, 256, 257, 258, 259, 252, 253, 254, 255, 50, 630, 631, 632, 633, 634, 635, 636, 637, 638, 639, 640, 641, 642, 643, 644, 645, 646, 647, 648, 649, 650, 651, 652, 653, 654] (by decide +kernel) (by decide +kernel)
set_option maxRecDepth 20000 in
theorem gL_law_X3_pass_ : GoodIn wsL_law (wsV RL 117 RX3 yX3_pass_ wsX3_pass_) := goodIn_app (goodIn_of _ (by decide +kernel)) ggL_law_X3_pass_
set_option maxRecDepth 20000 in
theorem ggL_law_L_count : GoodIn wsL_law wsL_count := goodIn_ca (goodIn_r _ [474, 99, 475, 476, 477, 2, 478, 104, 105, 416, 78, 130, 203, 417, 31, 333, 334, 335, 336, 16, 479, 480, 481, 482, 21, 206, 483, 484, 485, 486, 271, 272, 273, 23, 274, 36, 487, 488, 489, 490, 328, 613, 614, 615, 616, 617, 618, 619, 620, 621, 622, 623, 624, 625, 626, 627, 628, 629, 655, 656, 657, 658, 659, 660, 661, 662, 663, 664, 665] (by decide +kernel) (by decide +kernel)) (goodIn_sub (fun _ h => List.mem_append_right _ h) (by decide +kernel))
set_option maxRecDepth 20000 in
theorem gL_law_L_count : GoodIn wsL_law (va_wsS RL 118 yL_count wsL_count) := goodIn_app (goodIn_of _ (by decide +kernel)) ggL_law_L_count
set_option maxRecDepth 20000 in
theorem ggL_law_X3_count : GoodIn wsL_law wsX3_count := goodIn_r _ [494, 83, 85, 86, 5, 87, 495, 496, 497, 498, 84, 47, 225, 53, 59, 13, 463, 136, 464, 44, 279, 280, 281, 282, 88, 89, 90, 91, 630, 631, 632, 633, 634, 635, 636, 637, 638, 639, 640, 641, 642, 643, 644, 645, 646, 647, 648, 649, 650, 651, 652, 653, 654] (by decide +kernel) (by decide +kernel)
set_option maxRecDepth 20000 in
theorem gL_law_X3_count : GoodIn wsL_law (wsV RL 120 RX3 yX3_count wsX3_count) := goodIn_app (goodIn_of _ (by decide +kernel)) ggL_law_X3_count
set_option maxRecDepth 20000 in
theorem ggL_law_L_foresee : GoodIn wsL_law wsL_foresee := goodIn_ca (goodIn_ca (goodIn_ca (goodIn_r _ [501, 99, 68, 69, 502, 503, 504, 2, 505, 104, 105, 74, 75, 76, 77, 416, 24, 21, 31, 328, 332, 236, 237, 238, 239, 203, 506, 507, 508, 23, 509, 510, 437, 305, 306, 212, 307, 308, 309, 310, 35, 511, 512, 513, 514, 36, 422, 423, 424, 425, 426, 427, 428, 429, 430, 431, 432, 370, 272, 273, 274, 433, 434, 435, 436, 438, 189, 190, 191, 341, 299, 300, 439, 338, 339, 340, 342, 241, 242, 243, 440, 441, 442, 443, 444, 445, 446, 447, 448, 449, 450, 451, 452, 453, 454, 311, 158, 155, 159, 455, 456, 457, 458, 271, 337, 613, 614, 615, 616, 617, 618, 619, 620, 621, 622, 623, 624, 625, 626, 627, 628, 629, 655, 656, 657, 658, 659, 660, 661, 662, 663, 664, 665] (by decide +kernel) (by decide +kernel)) (goodIn_sub (fun _ h => List.mem_append_right _ h) (by decide +kernel))) (goodIn_sub (fun _ h => List.mem_append_left _ (List.mem_append_left _ (List.mem_append_right _ h))) (by decide +kernel))) (goodIn_sub (fun _ h => List.mem_append_left _ (List.mem_append_right _ h)) (by decide +kernel))
set_option maxRecDepth 20000 in
theorem gL_law_L_foresee : GoodIn wsL_law (va_wsS RL 121 yL_foresee wsL_foresee) := goodIn_app (goodIn_of _ (by decide +kernel)) ggL_law_L_foresee
set_option maxRecDepth 20000 in
theorem ggL_law_X3_foresee : GoodIn wsL_law wsX3_foresee := goodIn_r _ [518, 83, 463, 53, 13, 56, 58, 60, 59, 519, 512, 513, 514, 55, 248, 249, 250, 5, 251, 225, 85, 86, 87, 88, 89, 90, 91, 465, 466, 467, 468, 57, 316, 299, 190, 300, 49, 51, 188, 189, 191, 44, 469, 470, 446, 447, 471, 449, 450, 279, 280, 281, 282, 351, 352, 353, 354, 54, 256, 257, 258, 259, 252, 253, 254, 255, 50, 520, 521, 522, 523, 630, 631, 632, 633, 634, 635, 636, 637, 638, 639, 640, 641, 642, 643, 644, 645, 646, 647, 648, 649, 650, 651, 652, 653, 654] (by decide +kernel) (by decide +kernel)
set_option maxRecDepth 20000 in
theorem gL_law_X3_foresee : GoodIn wsL_law (wsV RL 123 RX3 yX3_foresee wsX3_foresee) := goodIn_app (goodIn_of _ (by decide +kernel)) ggL_law_X3_foresee
set_option maxRecDepth 20000 in
theorem ggL_law_L_blend : GoodIn wsL_law wsL_blend := goodIn_ca (goodIn_ca (goodIn_r _ [526, 68, 99, 527, 528, 529, 2, 530, 74, 75, 104, 105, 531, 30, 532, 533, 534, 535, 536, 537, 538, 539, 203, 21, 540, 541, 542, 29, 543, 544, 545, 546, 547, 548, 549, 550, 551, 23, 552, 305, 36, 370, 272, 273, 274, 553, 554, 555, 556, 557, 558, 559, 560, 561, 310, 444, 448, 449, 190, 450, 562, 563, 564, 565, 566, 567, 568, 613, 614, 615, 616, 617, 618, 619, 620, 621, 622, 623, 624, 625, 626, 627, 628, 629, 666, 667, 668, 669, 670, 655, 656, 657, 658, 659, 660, 661, 662, 663, 664, 665] (by decide +kernel) (by decide +kernel)) (goodIn_sub (fun _ h => List.mem_append_left _ (List.mem_append_left _ (List.mem_append_right _ h))) (by decide +kernel))) (goodIn_sub (fun _ h => List.mem_append_right _ h) (by decide +kernel))
set_option maxRecDepth 20000 in
theorem gL_law_L_blend : GoodIn wsL_law (va_wsS RL 124 yL_blend wsL_blend) := goodIn_app (goodIn_of _ (by decide +kernel)) ggL_law_L_blend
set_option maxRecDepth 20000 in
theorem ggL_law_X3_blend : GoodIn wsL_law wsX3_blend := goodIn_r _ [572, 83, 573, 13, 574, 225, 575, 576, 577, 190, 578, 85, 86, 5, 87, 88, 89, 90, 91, 579, 580, 581, 582, 53, 59, 279, 280, 281, 282, 583, 584, 585, 586, 587, 60, 469, 471, 449, 450, 630, 631, 632, 633, 634, 635, 636, 637, 638, 639, 640, 641, 642, 643, 644, 645, 646, 647, 648, 649, 650, 651, 652, 653, 654] (by decide +kernel) (by decide +kernel)
set_option maxRecDepth 20000 in
theorem gL_law_X3_blend : GoodIn wsL_law (wsV RL 126 RX3 yX3_blend wsX3_blend) := goodIn_app (goodIn_of _ (by decide +kernel)) ggL_law_X3_blend
set_option maxRecDepth 20000 in
theorem ggL_law_X2_taste : GoodIn wsL_law wsX2_taste := goodIn_r _ [591, 203, 21, 332, 483, 484, 485, 2, 486, 271, 272, 273, 23, 274, 36, 613, 614, 615, 616, 617, 618, 619, 620, 621, 622, 623, 624, 625, 626, 627, 628, 629, 655, 656, 657, 658, 659, 660, 661, 662, 663, 664, 665] (by decide +kernel) (by decide +kernel)
set_option maxRecDepth 20000 in
theorem gL_law_X2_taste : GoodIn wsL_law (wsV RL 127 RX2 yX2_taste wsX2_taste) := goodIn_app (goodIn_of _ (by decide +kernel)) ggL_law_X2_taste
set_option maxRecDepth 20000 in
theorem ggL_law_X3_taste : GoodIn wsL_law wsX3_taste := goodIn_r _ [595, 83, 225, 60, 279, 280, 281, 5, 282, 59, 630, 631, 632, 633, 634, 635, 636, 637, 638, 639, 640, 641, 642, 643, 644, 645, 646, 647, 648, 649, 650, 651, 652, 653, 654] (by decide +kernel) (by decide +kernel)
set_option maxRecDepth 20000 in
theorem gL_law_X3_taste : GoodIn wsL_law (wsV RL 131 RX3 yX3_taste wsX3_taste) := goodIn_app (goodIn_of _ (by decide +kernel)) ggL_law_X3_taste
set_option maxRecDepth 20000 in
theorem ggL_law_X2_digest : GoodIn wsL_law wsX2_digest := goodIn_ca (goodIn_r _ [599, 600, 601, 78, 14, 15, 16, 130, 17, 18, 19, 203, 602, 476, 477, 2, 478, 104, 105, 416, 417, 31, 333, 334, 335, 336, 479, 480, 481, 482, 21, 206, 483, 484, 485, 486, 271, 272, 273, 23, 274, 36, 487, 488, 489, 490, 328, 603, 604, 605, 606, 233, 234, 324, 325, 326, 327, 204, 207, 329, 330, 331, 332, 240, 241, 242, 243, 35, 337, 338, 339, 340, 305, 306, 307, 341, 299, 190, 300, 342, 613, 614, 615, 616, 617, 618, 619, 620, 621, 622, 623, 624, 625, 626, 627, 628, 629, 655, 656, 657, 658, 659, 660, 661, 662, 663, 664, 665] (by decide +kernel) (by decide +kernel)) (goodIn_sub (fun _ h => List.mem_append_right _ h) (by decide +kernel))
set_option maxRecDepth 20000 in
theorem gL_law_X2_digest : GoodIn wsL_law (wsV RL 132 RX2 yX2_digest wsX2_digest) := goodIn_app (goodIn_of _ (by decide +kernel)) ggL_law_X2_digest
set_option maxRecDepth 20000 in
theorem ggL_law_X3_digest : GoodIn wsL_law wsX3_digest := goodIn_r _ [610, 83, 611, 612, 84, 136, 48, 49, 50, 225, 55, 495, 496, 497, 5, 498, 47, 53, 59, 13, 463, 464, 44, 279, 280, 281, 282, 118, 119, 120, 121, 45, 46, 347, 348, 349, 350, 51, 60, 54, 56, 57, 58, 351, 352, 353, 354, 316, 299, 190, 300, 256, 257, 258, 259, 252, 253, 254, 255, 355, 356, 357, 358, 630, 631, 632, 633, 634, 635, 636, 637, 638, 639, 640, 641, 642, 643, 644, 645, 646, 647, 648, 649, 650, 651, 652, 653, 654] (by decide +kernel) (by decide +kernel)
set_option maxRecDepth 20000 in
theorem gL_law_X3_digest : GoodIn wsL_law (wsV RL 136 RX3 yX3_digest wsX3_digest) := goodIn_app (goodIn_of _ (by decide +kernel)) ggL_law_X3_digest
theorem dL_law_0 : decode cL_law 0 = .ok (.new 8, 3) := by decide +kernel
theorem dL_law_3 : decode cL_law 3 = .ok (.dup, 1) := by decide +kernel
theorem dL_law_4 : decode cL_law 4 = .ok (.invokespecial 66, 3) := by decide +kernel
theorem dL_law_7 : decode cL_law 7 = .ok (.astore_n 1, 1) := by decide +kernel
theorem dL_law_8 : decode cL_law 8 = .ok (.new 67, 3) := by decide +kernel
theorem dL_law_11 : decode cL_law 11 = .ok (.dup, 1) := by decide +kernel
theorem dL_law_12 : decode cL_law 12 = .ok (.invokespecial 69, 3) := by decide +kernel
theorem dL_law_15 : decode cL_law 15 = .ok (.astore_n 2, 1) := by decide +kernel
theorem dL_law_16 : decode cL_law 16 = .ok (.iconst 1, 1) := by decide +kernel
theorem dL_law_17 : decode cL_law 17 = .ok (.newarray .long, 2) := by decide +kernel
theorem dL_law_19 : decode cL_law 19 = .ok (.astore_n 3, 1) := by decide +kernel
theorem dL_law_20 : decode cL_law 20 = .ok (.iconst 0, 1) := by decide +kernel
theorem dL_law_21 : decode cL_law 21 = .ok (.istore 4, 2) := by decide +kernel
theorem dL_law_23 : decode cL_law 23 = .ok (.iload 4, 2) := by decide +kernel
theorem dL_law_25 : decode cL_law 25 = .ok (.aload_n 0, 1) := by decide +kernel
theorem dL_law_26 : decode cL_law 26 = .ok (.arraylength, 1) := by decide +kernel
theorem dL_law_27 : decode cL_law 27 = .ok (.iconst 4, 1) := by decide +kernel
theorem dL_law_28 : decode cL_law 28 = .ok (.isub, 1) := by decide +kernel
theorem dL_law_29 : decode cL_law 29 = .ok (.if_icmp .gt 1244, 3) := by decide +kernel
theorem dL_law_32 : decode cL_law 32 = .ok (.aload_n 0, 1) := by decide +kernel
theorem dL_law_33 : decode cL_law 33 = .ok (.iload 4, 2) := by decide +kernel
theorem dL_law_35 : decode cL_law 35 = .ok (.iaload, 1) := by decide +kernel
theorem dL_law_36 : decode cL_law 36 = .ok (.bipush 31, 2) := by decide +kernel
theorem dL_law_38 : decode cL_law 38 = .ok (.iand, 1) := by decide +kernel
theorem dL_law_39 : decode cL_law 39 = .ok (.tableswitch 1228 0 17 #[85, 153, 221, 301, 369, 425, 505, 573, 629, 697, 777, 857, 913, 969, 1025, 1105, 1173, 1214], 85) := by decide +kernel
theorem dL_law_124 : decode cL_law 124 = .ok (.aload_n 1, 1) := by decide +kernel
theorem dL_law_125 : decode cL_law 125 = .ok (.aload_n 0, 1) := by decide +kernel
theorem dL_law_126 : decode cL_law 126 = .ok (.iload 4, 2) := by decide +kernel
theorem dL_law_128 : decode cL_law 128 = .ok (.iconst 1, 1) := by decide +kernel
theorem dL_law_129 : decode cL_law 129 = .ok (.iadd, 1) := by decide +kernel
theorem dL_law_130 : decode cL_law 130 = .ok (.iaload, 1) := by decide +kernel
theorem dL_law_131 : decode cL_law 131 = .ok (.aload_n 0, 1) := by decide +kernel
theorem dL_law_132 : decode cL_law 132 = .ok (.iload 4, 2) := by decide +kernel
theorem dL_law_134 : decode cL_law 134 = .ok (.iconst 2, 1) := by decide +kernel
theorem dL_law_135 : decode cL_law 135 = .ok (.iadd, 1) := by decide +kernel
theorem dL_law_136 : decode cL_law 136 = .ok (.iaload, 1) := by decide +kernel
theorem dL_law_137 : decode cL_law 137 = .ok (.aload_n 3, 1) := by decide +kernel
theorem dL_law_138 : decode cL_law 138 = .ok (.invokestatic 70, 3) := by decide +kernel
theorem dL_law_141 : decode cL_law 141 = .ok (.istore 5, 2) := by decide +kernel
theorem dL_law_143 : decode cL_law 143 = .ok (.aload_n 2, 1) := by decide +kernel
theorem dL_law_144 : decode cL_law 144 = .ok (.aload_n 0, 1) := by decide +kernel
theorem dL_law_145 : decode cL_law 145 = .ok (.iload 4, 2) := by decide +kernel
theorem dL_law_147 : decode cL_law 147 = .ok (.iconst 1, 1) := by decide +kernel
theorem dL_law_148 : decode cL_law 148 = .ok (.iadd, 1) := by decide +kernel
theorem dL_law_149 : decode cL_law 149 = .ok (.iaload, 1) := by decide +kernel
theorem dL_law_150 : decode cL_law 150 = .ok (.aload_n 0, 1) := by decide +kernel
theorem dL_law_151 : decode cL_law 151 = .ok (.iload 4, 2) := by decide +kernel
theorem dL_law_153 : decode cL_law 153 = .ok (.iconst 2, 1) := by decide +kernel
theorem dL_law_154 : decode cL_law 154 = .ok (.iadd, 1) := by decide +kernel
theorem dL_law_155 : decode cL_law 155 = .ok (.iaload, 1) := by decide +kernel
theorem dL_law_156 : decode cL_law 156 = .ok (.invokevirtual 75, 3) := by decide +kernel
theorem dL_law_159 : decode cL_law 159 = .ok (.istore 6, 2) := by decide +kernel
theorem dL_law_161 : decode cL_law 161 = .ok (.aload_n 2, 1) := by decide +kernel
theorem dL_law_162 : decode cL_law 162 = .ok (.invokevirtual 76, 3) := by decide +kernel
theorem dL_law_165 : decode cL_law 165 = .ok (.iload 5, 2) := by decide +kernel
theorem dL_law_167 : decode cL_law 167 = .ok (.if_icmp .eq 5, 3) := by decide +kernel
theorem dL_law_170 : decode cL_law 170 = .ok (.iconst 0, 1) := by decide +kernel
theorem dL_law_171 : decode cL_law 171 = .ok (.ireturn, 1) := by decide +kernel
theorem dL_law_172 : decode cL_law 172 = .ok (.iload 5, 2) := by decide +kernel
theorem dL_law_174 : decode cL_law 174 = .ok (.ifCond .ne 15, 3) := by decide +kernel
theorem dL_law_177 : decode cL_law 177 = .ok (.aload_n 3, 1) := by decide +kernel
theorem dL_law_178 : decode cL_law 178 = .ok (.iconst 0, 1) := by decide +kernel
theorem dL_law_179 : decode cL_law 179 = .ok (.laload, 1) := by decide +kernel
theorem dL_law_180 : decode cL_law 180 = .ok (.iload 6, 2) := by decide +kernel
theorem dL_law_182 : decode cL_law 182 = .ok (.i2l, 1) := by decide +kernel
theorem dL_law_183 : decode cL_law 183 = .ok (.lcmp, 1) := by decide +kernel
theorem dL_law_184 : decode cL_law 184 = .ok (.ifCond .eq 5, 3) := by decide +kernel
theorem dL_law_187 : decode cL_law 187 = .ok (.iconst 0, 1) := by decide +kernel
theorem dL_law_188 : decode cL_law 188 = .ok (.ireturn, 1) := by decide +kernel
theorem dL_law_189 : decode cL_law 189 = .ok (.goto 1078, 3) := by decide +kernel
theorem dL_law_192 : decode cL_law 192 = .ok (.aload_n 1, 1) := by decide +kernel
theorem dL_law_193 : decode cL_law 193 = .ok (.aload_n 0, 1) := by decide +kernel
theorem dL_law_194 : decode cL_law 194 = .ok (.iload 4, 2) := by decide +kernel
theorem dL_law_196 : decode cL_law 196 = .ok (.iconst 1, 1) := by decide +kernel
theorem dL_law_197 : decode cL_law 197 = .ok (.iadd, 1) := by decide +kernel
theorem dL_law_198 : decode cL_law 198 = .ok (.iaload, 1) := by decide +kernel
theorem dL_law_199 : decode cL_law 199 = .ok (.aload_n 0, 1) := by decide +kernel
theorem dL_law_200 : decode cL_law 200 = .ok (.iload 4, 2) := by decide +kernel
theorem dL_law_202 : decode cL_law 202 = .ok (.iconst 2, 1) := by decide +kernel
theorem dL_law_203 : decode cL_law 203 = .ok (.iadd, 1) := by decide +kernel
theorem dL_law_204 : decode cL_law 204 = .ok (.iaload, 1) := by decide +kernel
theorem dL_law_205 : decode cL_law 205 = .ok (.aload_n 3, 1) := by decide +kernel
theorem dL_law_206 : decode cL_law 206 = .ok (.invokestatic 80, 3) := by decide +kernel
theorem dL_law_209 : decode cL_law 209 = .ok (.istore 5, 2) := by decide +kernel
theorem dL_law_211 : decode cL_law 211 = .ok (.aload_n 2, 1) := by decide +kernel
theorem dL_law_212 : decode cL_law 212 = .ok (.aload_n 0, 1) := by decide +kernel
theorem dL_law_213 : decode cL_law 213 = .ok (.iload 4, 2) := by decide +kernel
theorem dL_law_215 : decode cL_law 215 = .ok (.iconst 1, 1) := by decide +kernel
theorem dL_law_216 : decode cL_law 216 = .ok (.iadd, 1) := by decide +kernel
theorem dL_law_217 : decode cL_law 217 = .ok (.iaload, 1) := by decide +kernel
theorem dL_law_218 : decode cL_law 218 = .ok (.aload_n 0, 1) := by decide +kernel
theorem dL_law_219 : decode cL_law 219 = .ok (.iload 4, 2) := by decide +kernel
theorem dL_law_221 : decode cL_law 221 = .ok (.iconst 2, 1) := by decide +kernel
theorem dL_law_222 : decode cL_law 222 = .ok (.iadd, 1) := by decide +kernel
theorem dL_law_223 : decode cL_law 223 = .ok (.iaload, 1) := by decide +kernel
theorem dL_law_224 : decode cL_law 224 = .ok (.invokevirtual 82, 3) := by decide +kernel
theorem dL_law_227 : decode cL_law 227 = .ok (.istore 6, 2) := by decide +kernel
theorem dL_law_229 : decode cL_law 229 = .ok (.aload_n 2, 1) := by decide +kernel
theorem dL_law_230 : decode cL_law 230 = .ok (.invokevirtual 76, 3) := by decide +kernel
theorem dL_law_233 : decode cL_law 233 = .ok (.iload 5, 2) := by decide +kernel
theorem dL_law_235 : decode cL_law 235 = .ok (.if_icmp .eq 5, 3) := by decide +kernel
theorem dL_law_238 : decode cL_law 238 = .ok (.iconst 0, 1) := by decide +kernel
theorem dL_law_239 : decode cL_law 239 = .ok (.ireturn, 1) := by decide +kernel
theorem dL_law_240 : decode cL_law 240 = .ok (.iload 5, 2) := by decide +kernel
theorem dL_law_242 : decode cL_law 242 = .ok (.ifCond .ne 15, 3) := by decide +kernel
theorem dL_law_245 : decode cL_law 245 = .ok (.aload_n 3, 1) := by decide +kernel
theorem dL_law_246 : decode cL_law 246 = .ok (.iconst 0, 1) := by decide +kernel
theorem dL_law_247 : decode cL_law 247 = .ok (.laload, 1) := by decide +kernel
theorem dL_law_248 : decode cL_law 248 = .ok (.iload 6, 2) := by decide +kernel
theorem dL_law_250 : decode cL_law 250 = .ok (.i2l, 1) := by decide +kernel
theorem dL_law_251 : decode cL_law 251 = .ok (.lcmp, 1) := by decide +kernel
theorem dL_law_252 : decode cL_law 252 = .ok (.ifCond .eq 5, 3) := by decide +kernel
theorem dL_law_255 : decode cL_law 255 = .ok (.iconst 0, 1) := by decide +kernel
theorem dL_law_256 : decode cL_law 256 = .ok (.ireturn, 1) := by decide +kernel
theorem dL_law_257 : decode cL_law 257 = .ok (.goto 1010, 3) := by decide +kernel
theorem dL_law_260 : decode cL_law 260 = .ok (.aload_n 1, 1) := by decide +kernel
theorem dL_law_261 : decode cL_law 261 = .ok (.aload_n 0, 1) := by decide +kernel
theorem dL_law_262 : decode cL_law 262 = .ok (.iload 4, 2) := by decide +kernel
theorem dL_law_264 : decode cL_law 264 = .ok (.iconst 1, 1) := by decide +kernel
theorem dL_law_265 : decode cL_law 265 = .ok (.iadd, 1) := by decide +kernel
theorem dL_law_266 : decode cL_law 266 = .ok (.iaload, 1) := by decide +kernel
theorem dL_law_267 : decode cL_law 267 = .ok (.aload_n 0, 1) := by decide +kernel
theorem dL_law_268 : decode cL_law 268 = .ok (.iload 4, 2) := by decide +kernel
theorem dL_law_270 : decode cL_law 270 = .ok (.iconst 2, 1) := by decide +kernel
theorem dL_law_271 : decode cL_law 271 = .ok (.iadd, 1) := by decide +kernel
theorem dL_law_272 : decode cL_law 272 = .ok (.iaload, 1) := by decide +kernel
theorem dL_law_273 : decode cL_law 273 = .ok (.aload_n 0, 1) := by decide +kernel
theorem dL_law_274 : decode cL_law 274 = .ok (.iload 4, 2) := by decide +kernel
theorem dL_law_276 : decode cL_law 276 = .ok (.iconst 3, 1) := by decide +kernel
theorem dL_law_277 : decode cL_law 277 = .ok (.iadd, 1) := by decide +kernel
theorem dL_law_278 : decode cL_law 278 = .ok (.iaload, 1) := by decide +kernel
theorem dL_law_279 : decode cL_law 279 = .ok (.aload_n 3, 1) := by decide +kernel
theorem dL_law_280 : decode cL_law 280 = .ok (.invokestatic 83, 3) := by decide +kernel
theorem dL_law_283 : decode cL_law 283 = .ok (.istore 5, 2) := by decide +kernel
theorem dL_law_285 : decode cL_law 285 = .ok (.aload_n 2, 1) := by decide +kernel
theorem dL_law_286 : decode cL_law 286 = .ok (.aload_n 0, 1) := by decide +kernel
theorem dL_law_287 : decode cL_law 287 = .ok (.iload 4, 2) := by decide +kernel
theorem dL_law_289 : decode cL_law 289 = .ok (.iconst 1, 1) := by decide +kernel
theorem dL_law_290 : decode cL_law 290 = .ok (.iadd, 1) := by decide +kernel
theorem dL_law_291 : decode cL_law 291 = .ok (.iaload, 1) := by decide +kernel
theorem dL_law_292 : decode cL_law 292 = .ok (.aload_n 0, 1) := by decide +kernel
theorem dL_law_293 : decode cL_law 293 = .ok (.iload 4, 2) := by decide +kernel
theorem dL_law_295 : decode cL_law 295 = .ok (.iconst 2, 1) := by decide +kernel
theorem dL_law_296 : decode cL_law 296 = .ok (.iadd, 1) := by decide +kernel
theorem dL_law_297 : decode cL_law 297 = .ok (.iaload, 1) := by decide +kernel
theorem dL_law_298 : decode cL_law 298 = .ok (.aload_n 0, 1) := by decide +kernel
theorem dL_law_299 : decode cL_law 299 = .ok (.iload 4, 2) := by decide +kernel
theorem dL_law_301 : decode cL_law 301 = .ok (.iconst 3, 1) := by decide +kernel
theorem dL_law_302 : decode cL_law 302 = .ok (.iadd, 1) := by decide +kernel
theorem dL_law_303 : decode cL_law 303 = .ok (.iaload, 1) := by decide +kernel
theorem dL_law_304 : decode cL_law 304 = .ok (.invokevirtual 86, 3) := by decide +kernel
theorem dL_law_307 : decode cL_law 307 = .ok (.istore 6, 2) := by decide +kernel
theorem dL_law_309 : decode cL_law 309 = .ok (.aload_n 2, 1) := by decide +kernel
theorem dL_law_310 : decode cL_law 310 = .ok (.invokevirtual 76, 3) := by decide +kernel
theorem dL_law_313 : decode cL_law 313 = .ok (.iload 5, 2) := by decide +kernel
theorem dL_law_315 : decode cL_law 315 = .ok (.if_icmp .eq 5, 3) := by decide +kernel
theorem dL_law_318 : decode cL_law 318 = .ok (.iconst 0, 1) := by decide +kernel
theorem dL_law_319 : decode cL_law 319 = .ok (.ireturn, 1) := by decide +kernel
theorem dL_law_320 : decode cL_law 320 = .ok (.iload 5, 2) := by decide +kernel
theorem dL_law_322 : decode cL_law 322 = .ok (.ifCond .ne 15, 3) := by decide +kernel
theorem dL_law_325 : decode cL_law 325 = .ok (.aload_n 3, 1) := by decide +kernel
theorem dL_law_326 : decode cL_law 326 = .ok (.iconst 0, 1) := by decide +kernel
theorem dL_law_327 : decode cL_law 327 = .ok (.laload, 1) := by decide +kernel
theorem dL_law_328 : decode cL_law 328 = .ok (.iload 6, 2) := by decide +kernel
theorem dL_law_330 : decode cL_law 330 = .ok (.i2l, 1) := by decide +kernel
theorem dL_law_331 : decode cL_law 331 = .ok (.lcmp, 1) := by decide +kernel
theorem dL_law_332 : decode cL_law 332 = .ok (.ifCond .eq 5, 3) := by decide +kernel
theorem dL_law_335 : decode cL_law 335 = .ok (.iconst 0, 1) := by decide +kernel
theorem dL_law_336 : decode cL_law 336 = .ok (.ireturn, 1) := by decide +kernel
theorem dL_law_337 : decode cL_law 337 = .ok (.goto 930, 3) := by decide +kernel
theorem dL_law_340 : decode cL_law 340 = .ok (.aload_n 1, 1) := by decide +kernel
theorem dL_law_341 : decode cL_law 341 = .ok (.aload_n 0, 1) := by decide +kernel
theorem dL_law_342 : decode cL_law 342 = .ok (.iload 4, 2) := by decide +kernel
theorem dL_law_344 : decode cL_law 344 = .ok (.iconst 1, 1) := by decide +kernel
theorem dL_law_345 : decode cL_law 345 = .ok (.iadd, 1) := by decide +kernel
theorem dL_law_346 : decode cL_law 346 = .ok (.iaload, 1) := by decide +kernel
theorem dL_law_347 : decode cL_law 347 = .ok (.aload_n 0, 1) := by decide +kernel
theorem dL_law_348 : decode cL_law 348 = .ok (.iload 4, 2) := by decide +kernel
theorem dL_law_350 : decode cL_law 350 = .ok (.iconst 2, 1) := by decide +kernel
theorem dL_law_351 : decode cL_law 351 = .ok (.iadd, 1) := by decide +kernel
theorem dL_law_352 : decode cL_law 352 = .ok (.iaload, 1) := by decide +kernel
theorem dL_law_353 : decode cL_law 353 = .ok (.aload_n 3, 1) := by decide +kernel
theorem dL_law_354 : decode cL_law 354 = .ok (.invokestatic 87, 3) := by decide +kernel
theorem dL_law_357 : decode cL_law 357 = .ok (.istore 5, 2) := by decide +kernel
theorem dL_law_359 : decode cL_law 359 = .ok (.aload_n 2, 1) := by decide +kernel
theorem dL_law_360 : decode cL_law 360 = .ok (.aload_n 0, 1) := by decide +kernel
theorem dL_law_361 : decode cL_law 361 = .ok (.iload 4, 2) := by decide +kernel
theorem dL_law_363 : decode cL_law 363 = .ok (.iconst 1, 1) := by decide +kernel
theorem dL_law_364 : decode cL_law 364 = .ok (.iadd, 1) := by decide +kernel
theorem dL_law_365 : decode cL_law 365 = .ok (.iaload, 1) := by decide +kernel
theorem dL_law_366 : decode cL_law 366 = .ok (.aload_n 0, 1) := by decide +kernel
theorem dL_law_367 : decode cL_law 367 = .ok (.iload 4, 2) := by decide +kernel
theorem dL_law_369 : decode cL_law 369 = .ok (.iconst 2, 1) := by decide +kernel
theorem dL_law_370 : decode cL_law 370 = .ok (.iadd, 1) := by decide +kernel
theorem dL_law_371 : decode cL_law 371 = .ok (.iaload, 1) := by decide +kernel
theorem dL_law_372 : decode cL_law 372 = .ok (.invokevirtual 89, 3) := by decide +kernel
theorem dL_law_375 : decode cL_law 375 = .ok (.istore 6, 2) := by decide +kernel
theorem dL_law_377 : decode cL_law 377 = .ok (.aload_n 2, 1) := by decide +kernel
theorem dL_law_378 : decode cL_law 378 = .ok (.invokevirtual 76, 3) := by decide +kernel
theorem dL_law_381 : decode cL_law 381 = .ok (.iload 5, 2) := by decide +kernel
theorem dL_law_383 : decode cL_law 383 = .ok (.if_icmp .eq 5, 3) := by decide +kernel
theorem dL_law_386 : decode cL_law 386 = .ok (.iconst 0, 1) := by decide +kernel
theorem dL_law_387 : decode cL_law 387 = .ok (.ireturn, 1) := by decide +kernel
theorem dL_law_388 : decode cL_law 388 = .ok (.iload 5, 2) := by decide +kernel
theorem dL_law_390 : decode cL_law 390 = .ok (.ifCond .ne 15, 3) := by decide +kernel
theorem dL_law_393 : decode cL_law 393 = .ok (.aload_n 3, 1) := by decide +kernel
theorem dL_law_394 : decode cL_law 394 = .ok (.iconst 0, 1) := by decide +kernel
theorem dL_law_395 : decode cL_law 395 = .ok (.laload, 1) := by decide +kernel
theorem dL_law_396 : decode cL_law 396 = .ok (.iload 6, 2) := by decide +kernel
theorem dL_law_398 : decode cL_law 398 = .ok (.i2l, 1) := by decide +kernel
theorem dL_law_399 : decode cL_law 399 = .ok (.lcmp, 1) := by decide +kernel
theorem dL_law_400 : decode cL_law 400 = .ok (.ifCond .eq 5, 3) := by decide +kernel
theorem dL_law_403 : decode cL_law 403 = .ok (.iconst 0, 1) := by decide +kernel
theorem dL_law_404 : decode cL_law 404 = .ok (.ireturn, 1) := by decide +kernel
theorem dL_law_405 : decode cL_law 405 = .ok (.goto 862, 3) := by decide +kernel
theorem dL_law_408 : decode cL_law 408 = .ok (.aload_n 1, 1) := by decide +kernel
theorem dL_law_409 : decode cL_law 409 = .ok (.aload_n 0, 1) := by decide +kernel
theorem dL_law_410 : decode cL_law 410 = .ok (.iload 4, 2) := by decide +kernel
theorem dL_law_412 : decode cL_law 412 = .ok (.iconst 1, 1) := by decide +kernel
theorem dL_law_413 : decode cL_law 413 = .ok (.iadd, 1) := by decide +kernel
theorem dL_law_414 : decode cL_law 414 = .ok (.iaload, 1) := by decide +kernel
theorem dL_law_415 : decode cL_law 415 = .ok (.aload_n 3, 1) := by decide +kernel
theorem dL_law_416 : decode cL_law 416 = .ok (.invokestatic 90, 3) := by decide +kernel
theorem dL_law_419 : decode cL_law 419 = .ok (.istore 5, 2) := by decide +kernel
theorem dL_law_421 : decode cL_law 421 = .ok (.aload_n 2, 1) := by decide +kernel
theorem dL_law_422 : decode cL_law 422 = .ok (.aload_n 0, 1) := by decide +kernel
theorem dL_law_423 : decode cL_law 423 = .ok (.iload 4, 2) := by decide +kernel
theorem dL_law_425 : decode cL_law 425 = .ok (.iconst 1, 1) := by decide +kernel
theorem dL_law_426 : decode cL_law 426 = .ok (.iadd, 1) := by decide +kernel
theorem dL_law_427 : decode cL_law 427 = .ok (.iaload, 1) := by decide +kernel
theorem dL_law_428 : decode cL_law 428 = .ok (.invokevirtual 93, 3) := by decide +kernel
theorem dL_law_431 : decode cL_law 431 = .ok (.istore 6, 2) := by decide +kernel
theorem dL_law_433 : decode cL_law 433 = .ok (.aload_n 2, 1) := by decide +kernel
theorem dL_law_434 : decode cL_law 434 = .ok (.invokevirtual 76, 3) := by decide +kernel
theorem dL_law_437 : decode cL_law 437 = .ok (.iload 5, 2) := by decide +kernel
theorem dL_law_439 : decode cL_law 439 = .ok (.if_icmp .eq 5, 3) := by decide +kernel
theorem dL_law_442 : decode cL_law 442 = .ok (.iconst 0, 1) := by decide +kernel
theorem dL_law_443 : decode cL_law 443 = .ok (.ireturn, 1) := by decide +kernel
theorem dL_law_444 : decode cL_law 444 = .ok (.iload 5, 2) := by decide +kernel
theorem dL_law_446 : decode cL_law 446 = .ok (.ifCond .ne 15, 3) := by decide +kernel
theorem dL_law_449 : decode cL_law 449 = .ok (.aload_n 3, 1) := by decide +kernel
theorem dL_law_450 : decode cL_law 450 = .ok (.iconst 0, 1) := by decide +kernel
theorem dL_law_451 : decode cL_law 451 = .ok (.laload, 1) := by decide +kernel
theorem dL_law_452 : decode cL_law 452 = .ok (.iload 6, 2) := by decide +kernel
theorem dL_law_454 : decode cL_law 454 = .ok (.i2l, 1) := by decide +kernel
theorem dL_law_455 : decode cL_law 455 = .ok (.lcmp, 1) := by decide +kernel
theorem dL_law_456 : decode cL_law 456 = .ok (.ifCond .eq 5, 3) := by decide +kernel
theorem dL_law_459 : decode cL_law 459 = .ok (.iconst 0, 1) := by decide +kernel
theorem dL_law_460 : decode cL_law 460 = .ok (.ireturn, 1) := by decide +kernel
theorem dL_law_461 : decode cL_law 461 = .ok (.goto 806, 3) := by decide +kernel
theorem dL_law_464 : decode cL_law 464 = .ok (.aload_n 1, 1) := by decide +kernel
theorem dL_law_465 : decode cL_law 465 = .ok (.aload_n 0, 1) := by decide +kernel
theorem dL_law_466 : decode cL_law 466 = .ok (.iload 4, 2) := by decide +kernel
theorem dL_law_468 : decode cL_law 468 = .ok (.iconst 1, 1) := by decide +kernel
theorem dL_law_469 : decode cL_law 469 = .ok (.iadd, 1) := by decide +kernel
theorem dL_law_470 : decode cL_law 470 = .ok (.iaload, 1) := by decide +kernel
theorem dL_law_471 : decode cL_law 471 = .ok (.aload_n 0, 1) := by decide +kernel
theorem dL_law_472 : decode cL_law 472 = .ok (.iload 4, 2) := by decide +kernel
theorem dL_law_474 : decode cL_law 474 = .ok (.iconst 2, 1) := by decide +kernel
theorem dL_law_475 : decode cL_law 475 = .ok (.iadd, 1) := by decide +kernel
theorem dL_law_476 : decode cL_law 476 = .ok (.iaload, 1) := by decide +kernel
theorem dL_law_477 : decode cL_law 477 = .ok (.aload_n 0, 1) := by decide +kernel
theorem dL_law_478 : decode cL_law 478 = .ok (.iload 4, 2) := by decide +kernel
theorem dL_law_480 : decode cL_law 480 = .ok (.iconst 3, 1) := by decide +kernel
theorem dL_law_481 : decode cL_law 481 = .ok (.iadd, 1) := by decide +kernel
theorem dL_law_482 : decode cL_law 482 = .ok (.iaload, 1) := by decide +kernel
theorem dL_law_483 : decode cL_law 483 = .ok (.aload_n 3, 1) := by decide +kernel
theorem dL_law_484 : decode cL_law 484 = .ok (.invokestatic 94, 3) := by decide +kernel
theorem dL_law_487 : decode cL_law 487 = .ok (.istore 5, 2) := by decide +kernel
theorem dL_law_489 : decode cL_law 489 = .ok (.aload_n 2, 1) := by decide +kernel
theorem dL_law_490 : decode cL_law 490 = .ok (.aload_n 0, 1) := by decide +kernel
theorem dL_law_491 : decode cL_law 491 = .ok (.iload 4, 2) := by decide +kernel
theorem dL_law_493 : decode cL_law 493 = .ok (.iconst 1, 1) := by decide +kernel
theorem dL_law_494 : decode cL_law 494 = .ok (.iadd, 1) := by decide +kernel
theorem dL_law_495 : decode cL_law 495 = .ok (.iaload, 1) := by decide +kernel
theorem dL_law_496 : decode cL_law 496 = .ok (.aload_n 0, 1) := by decide +kernel
theorem dL_law_497 : decode cL_law 497 = .ok (.iload 4, 2) := by decide +kernel
theorem dL_law_499 : decode cL_law 499 = .ok (.iconst 2, 1) := by decide +kernel
theorem dL_law_500 : decode cL_law 500 = .ok (.iadd, 1) := by decide +kernel
theorem dL_law_501 : decode cL_law 501 = .ok (.iaload, 1) := by decide +kernel
theorem dL_law_502 : decode cL_law 502 = .ok (.aload_n 0, 1) := by decide +kernel
theorem dL_law_503 : decode cL_law 503 = .ok (.iload 4, 2) := by decide +kernel
theorem dL_law_505 : decode cL_law 505 = .ok (.iconst 3, 1) := by decide +kernel
theorem dL_law_506 : decode cL_law 506 = .ok (.iadd, 1) := by decide +kernel
theorem dL_law_507 : decode cL_law 507 = .ok (.iaload, 1) := by decide +kernel
theorem dL_law_508 : decode cL_law 508 = .ok (.invokevirtual 96, 3) := by decide +kernel
theorem dL_law_511 : decode cL_law 511 = .ok (.istore 6, 2) := by decide +kernel
theorem dL_law_513 : decode cL_law 513 = .ok (.aload_n 2, 1) := by decide +kernel
theorem dL_law_514 : decode cL_law 514 = .ok (.invokevirtual 76, 3) := by decide +kernel
theorem dL_law_517 : decode cL_law 517 = .ok (.iload 5, 2) := by decide +kernel
theorem dL_law_519 : decode cL_law 519 = .ok (.if_icmp .eq 5, 3) := by decide +kernel
theorem dL_law_522 : decode cL_law 522 = .ok (.iconst 0, 1) := by decide +kernel
theorem dL_law_523 : decode cL_law 523 = .ok (.ireturn, 1) := by decide +kernel
theorem dL_law_524 : decode cL_law 524 = .ok (.iload 5, 2) := by decide +kernel
theorem dL_law_526 : decode cL_law 526 = .ok (.ifCond .ne 15, 3) := by decide +kernel
theorem dL_law_529 : decode cL_law 529 = .ok (.aload_n 3, 1) := by decide +kernel
theorem dL_law_530 : decode cL_law 530 = .ok (.iconst 0, 1) := by decide +kernel
theorem dL_law_531 : decode cL_law 531 = .ok (.laload, 1) := by decide +kernel
theorem dL_law_532 : decode cL_law 532 = .ok (.iload 6, 2) := by decide +kernel
theorem dL_law_534 : decode cL_law 534 = .ok (.i2l, 1) := by decide +kernel
theorem dL_law_535 : decode cL_law 535 = .ok (.lcmp, 1) := by decide +kernel
theorem dL_law_536 : decode cL_law 536 = .ok (.ifCond .eq 5, 3) := by decide +kernel
theorem dL_law_539 : decode cL_law 539 = .ok (.iconst 0, 1) := by decide +kernel
theorem dL_law_540 : decode cL_law 540 = .ok (.ireturn, 1) := by decide +kernel
theorem dL_law_541 : decode cL_law 541 = .ok (.goto 726, 3) := by decide +kernel
theorem dL_law_544 : decode cL_law 544 = .ok (.aload_n 1, 1) := by decide +kernel
theorem dL_law_545 : decode cL_law 545 = .ok (.aload_n 0, 1) := by decide +kernel
theorem dL_law_546 : decode cL_law 546 = .ok (.iload 4, 2) := by decide +kernel
theorem dL_law_548 : decode cL_law 548 = .ok (.iconst 1, 1) := by decide +kernel
theorem dL_law_549 : decode cL_law 549 = .ok (.iadd, 1) := by decide +kernel
theorem dL_law_550 : decode cL_law 550 = .ok (.iaload, 1) := by decide +kernel
theorem dL_law_551 : decode cL_law 551 = .ok (.aload_n 0, 1) := by decide +kernel
theorem dL_law_552 : decode cL_law 552 = .ok (.iload 4, 2) := by decide +kernel
theorem dL_law_554 : decode cL_law 554 = .ok (.iconst 2, 1) := by decide +kernel
theorem dL_law_555 : decode cL_law 555 = .ok (.iadd, 1) := by decide +kernel
theorem dL_law_556 : decode cL_law 556 = .ok (.iaload, 1) := by decide +kernel
theorem dL_law_557 : decode cL_law 557 = .ok (.aload_n 3, 1) := by decide +kernel
theorem dL_law_558 : decode cL_law 558 = .ok (.invokestatic 97, 3) := by decide +kernel
theorem dL_law_561 : decode cL_law 561 = .ok (.istore 5, 2) := by decide +kernel
theorem dL_law_563 : decode cL_law 563 = .ok (.aload_n 2, 1) := by decide +kernel
theorem dL_law_564 : decode cL_law 564 = .ok (.aload_n 0, 1) := by decide +kernel
theorem dL_law_565 : decode cL_law 565 = .ok (.iload 4, 2) := by decide +kernel
theorem dL_law_567 : decode cL_law 567 = .ok (.iconst 1, 1) := by decide +kernel
theorem dL_law_568 : decode cL_law 568 = .ok (.iadd, 1) := by decide +kernel
theorem dL_law_569 : decode cL_law 569 = .ok (.iaload, 1) := by decide +kernel
theorem dL_law_570 : decode cL_law 570 = .ok (.aload_n 0, 1) := by decide +kernel
theorem dL_law_571 : decode cL_law 571 = .ok (.iload 4, 2) := by decide +kernel
theorem dL_law_573 : decode cL_law 573 = .ok (.iconst 2, 1) := by decide +kernel
theorem dL_law_574 : decode cL_law 574 = .ok (.iadd, 1) := by decide +kernel
theorem dL_law_575 : decode cL_law 575 = .ok (.iaload, 1) := by decide +kernel
theorem dL_law_576 : decode cL_law 576 = .ok (.invokevirtual 99, 3) := by decide +kernel
theorem dL_law_579 : decode cL_law 579 = .ok (.istore 6, 2) := by decide +kernel
theorem dL_law_581 : decode cL_law 581 = .ok (.aload_n 2, 1) := by decide +kernel
theorem dL_law_582 : decode cL_law 582 = .ok (.invokevirtual 76, 3) := by decide +kernel
theorem dL_law_585 : decode cL_law 585 = .ok (.iload 5, 2) := by decide +kernel
theorem dL_law_587 : decode cL_law 587 = .ok (.if_icmp .eq 5, 3) := by decide +kernel
theorem dL_law_590 : decode cL_law 590 = .ok (.iconst 0, 1) := by decide +kernel
theorem dL_law_591 : decode cL_law 591 = .ok (.ireturn, 1) := by decide +kernel
theorem dL_law_592 : decode cL_law 592 = .ok (.iload 5, 2) := by decide +kernel
theorem dL_law_594 : decode cL_law 594 = .ok (.ifCond .ne 15, 3) := by decide +kernel
theorem dL_law_597 : decode cL_law 597 = .ok (.aload_n 3, 1) := by decide +kernel
theorem dL_law_598 : decode cL_law 598 = .ok (.iconst 0, 1) := by decide +kernel
theorem dL_law_599 : decode cL_law 599 = .ok (.laload, 1) := by decide +kernel
theorem dL_law_600 : decode cL_law 600 = .ok (.iload 6, 2) := by decide +kernel
theorem dL_law_602 : decode cL_law 602 = .ok (.i2l, 1) := by decide +kernel
theorem dL_law_603 : decode cL_law 603 = .ok (.lcmp, 1) := by decide +kernel
theorem dL_law_604 : decode cL_law 604 = .ok (.ifCond .eq 5, 3) := by decide +kernel
theorem dL_law_607 : decode cL_law 607 = .ok (.iconst 0, 1) := by decide +kernel
theorem dL_law_608 : decode cL_law 608 = .ok (.ireturn, 1) := by decide +kernel
theorem dL_law_609 : decode cL_law 609 = .ok (.goto 658, 3) := by decide +kernel
theorem dL_law_612 : decode cL_law 612 = .ok (.aload_n 1, 1) := by decide +kernel
theorem dL_law_613 : decode cL_law 613 = .ok (.aload_n 0, 1) := by decide +kernel
theorem dL_law_614 : decode cL_law 614 = .ok (.iload 4, 2) := by decide +kernel
theorem dL_law_616 : decode cL_law 616 = .ok (.iconst 1, 1) := by decide +kernel
theorem dL_law_617 : decode cL_law 617 = .ok (.iadd, 1) := by decide +kernel
theorem dL_law_618 : decode cL_law 618 = .ok (.iaload, 1) := by decide +kernel
theorem dL_law_619 : decode cL_law 619 = .ok (.aload_n 3, 1) := by decide +kernel
theorem dL_law_620 : decode cL_law 620 = .ok (.invokestatic 100, 3) := by decide +kernel
theorem dL_law_623 : decode cL_law 623 = .ok (.istore 5, 2) := by decide +kernel
theorem dL_law_625 : decode cL_law 625 = .ok (.aload_n 2, 1) := by decide +kernel
theorem dL_law_626 : decode cL_law 626 = .ok (.aload_n 0, 1) := by decide +kernel
theorem dL_law_627 : decode cL_law 627 = .ok (.iload 4, 2) := by decide +kernel
theorem dL_law_629 : decode cL_law 629 = .ok (.iconst 1, 1) := by decide +kernel
theorem dL_law_630 : decode cL_law 630 = .ok (.iadd, 1) := by decide +kernel
theorem dL_law_631 : decode cL_law 631 = .ok (.iaload, 1) := by decide +kernel
theorem dL_law_632 : decode cL_law 632 = .ok (.invokevirtual 102, 3) := by decide +kernel
theorem dL_law_635 : decode cL_law 635 = .ok (.istore 6, 2) := by decide +kernel
theorem dL_law_637 : decode cL_law 637 = .ok (.aload_n 2, 1) := by decide +kernel
theorem dL_law_638 : decode cL_law 638 = .ok (.invokevirtual 76, 3) := by decide +kernel
theorem dL_law_641 : decode cL_law 641 = .ok (.iload 5, 2) := by decide +kernel
theorem dL_law_643 : decode cL_law 643 = .ok (.if_icmp .eq 5, 3) := by decide +kernel
theorem dL_law_646 : decode cL_law 646 = .ok (.iconst 0, 1) := by decide +kernel
theorem dL_law_647 : decode cL_law 647 = .ok (.ireturn, 1) := by decide +kernel
theorem dL_law_648 : decode cL_law 648 = .ok (.iload 5, 2) := by decide +kernel
theorem dL_law_650 : decode cL_law 650 = .ok (.ifCond .ne 15, 3) := by decide +kernel
theorem dL_law_653 : decode cL_law 653 = .ok (.aload_n 3, 1) := by decide +kernel
theorem dL_law_654 : decode cL_law 654 = .ok (.iconst 0, 1) := by decide +kernel
theorem dL_law_655 : decode cL_law 655 = .ok (.laload, 1) := by decide +kernel
theorem dL_law_656 : decode cL_law 656 = .ok (.iload 6, 2) := by decide +kernel
theorem dL_law_658 : decode cL_law 658 = .ok (.i2l, 1) := by decide +kernel
theorem dL_law_659 : decode cL_law 659 = .ok (.lcmp, 1) := by decide +kernel
theorem dL_law_660 : decode cL_law 660 = .ok (.ifCond .eq 5, 3) := by decide +kernel
theorem dL_law_663 : decode cL_law 663 = .ok (.iconst 0, 1) := by decide +kernel
theorem dL_law_664 : decode cL_law 664 = .ok (.ireturn, 1) := by decide +kernel
theorem dL_law_665 : decode cL_law 665 = .ok (.goto 602, 3) := by decide +kernel
theorem dL_law_668 : decode cL_law 668 = .ok (.aload_n 1, 1) := by decide +kernel
theorem dL_law_669 : decode cL_law 669 = .ok (.aload_n 0, 1) := by decide +kernel
theorem dL_law_670 : decode cL_law 670 = .ok (.iload 4, 2) := by decide +kernel
theorem dL_law_672 : decode cL_law 672 = .ok (.iconst 1, 1) := by decide +kernel
theorem dL_law_673 : decode cL_law 673 = .ok (.iadd, 1) := by decide +kernel
theorem dL_law_674 : decode cL_law 674 = .ok (.iaload, 1) := by decide +kernel
theorem dL_law_675 : decode cL_law 675 = .ok (.aload_n 0, 1) := by decide +kernel
theorem dL_law_676 : decode cL_law 676 = .ok (.iload 4, 2) := by decide +kernel
theorem dL_law_678 : decode cL_law 678 = .ok (.iconst 2, 1) := by decide +kernel
theorem dL_law_679 : decode cL_law 679 = .ok (.iadd, 1) := by decide +kernel
theorem dL_law_680 : decode cL_law 680 = .ok (.iaload, 1) := by decide +kernel
theorem dL_law_681 : decode cL_law 681 = .ok (.aload_n 3, 1) := by decide +kernel
theorem dL_law_682 : decode cL_law 682 = .ok (.invokestatic 103, 3) := by decide +kernel
theorem dL_law_685 : decode cL_law 685 = .ok (.istore 5, 2) := by decide +kernel
theorem dL_law_687 : decode cL_law 687 = .ok (.aload_n 2, 1) := by decide +kernel
theorem dL_law_688 : decode cL_law 688 = .ok (.aload_n 0, 1) := by decide +kernel
theorem dL_law_689 : decode cL_law 689 = .ok (.iload 4, 2) := by decide +kernel
theorem dL_law_691 : decode cL_law 691 = .ok (.iconst 1, 1) := by decide +kernel
theorem dL_law_692 : decode cL_law 692 = .ok (.iadd, 1) := by decide +kernel
theorem dL_law_693 : decode cL_law 693 = .ok (.iaload, 1) := by decide +kernel
theorem dL_law_694 : decode cL_law 694 = .ok (.aload_n 0, 1) := by decide +kernel
theorem dL_law_695 : decode cL_law 695 = .ok (.iload 4, 2) := by decide +kernel
theorem dL_law_697 : decode cL_law 697 = .ok (.iconst 2, 1) := by decide +kernel
theorem dL_law_698 : decode cL_law 698 = .ok (.iadd, 1) := by decide +kernel
theorem dL_law_699 : decode cL_law 699 = .ok (.iaload, 1) := by decide +kernel
theorem dL_law_700 : decode cL_law 700 = .ok (.invokevirtual 105, 3) := by decide +kernel
theorem dL_law_703 : decode cL_law 703 = .ok (.istore 6, 2) := by decide +kernel
theorem dL_law_705 : decode cL_law 705 = .ok (.aload_n 2, 1) := by decide +kernel
theorem dL_law_706 : decode cL_law 706 = .ok (.invokevirtual 76, 3) := by decide +kernel
theorem dL_law_709 : decode cL_law 709 = .ok (.iload 5, 2) := by decide +kernel
theorem dL_law_711 : decode cL_law 711 = .ok (.if_icmp .eq 5, 3) := by decide +kernel
theorem dL_law_714 : decode cL_law 714 = .ok (.iconst 0, 1) := by decide +kernel
theorem dL_law_715 : decode cL_law 715 = .ok (.ireturn, 1) := by decide +kernel
theorem dL_law_716 : decode cL_law 716 = .ok (.iload 5, 2) := by decide +kernel
theorem dL_law_718 : decode cL_law 718 = .ok (.ifCond .ne 15, 3) := by decide +kernel
theorem dL_law_721 : decode cL_law 721 = .ok (.aload_n 3, 1) := by decide +kernel
theorem dL_law_722 : decode cL_law 722 = .ok (.iconst 0, 1) := by decide +kernel
theorem dL_law_723 : decode cL_law 723 = .ok (.laload, 1) := by decide +kernel
theorem dL_law_724 : decode cL_law 724 = .ok (.iload 6, 2) := by decide +kernel
theorem dL_law_726 : decode cL_law 726 = .ok (.i2l, 1) := by decide +kernel
theorem dL_law_727 : decode cL_law 727 = .ok (.lcmp, 1) := by decide +kernel
theorem dL_law_728 : decode cL_law 728 = .ok (.ifCond .eq 5, 3) := by decide +kernel
theorem dL_law_731 : decode cL_law 731 = .ok (.iconst 0, 1) := by decide +kernel
theorem dL_law_732 : decode cL_law 732 = .ok (.ireturn, 1) := by decide +kernel
theorem dL_law_733 : decode cL_law 733 = .ok (.goto 534, 3) := by decide +kernel
theorem dL_law_736 : decode cL_law 736 = .ok (.aload_n 1, 1) := by decide +kernel
theorem dL_law_737 : decode cL_law 737 = .ok (.aload_n 0, 1) := by decide +kernel
theorem dL_law_738 : decode cL_law 738 = .ok (.iload 4, 2) := by decide +kernel
theorem dL_law_740 : decode cL_law 740 = .ok (.iconst 1, 1) := by decide +kernel
theorem dL_law_741 : decode cL_law 741 = .ok (.iadd, 1) := by decide +kernel
theorem dL_law_742 : decode cL_law 742 = .ok (.iaload, 1) := by decide +kernel
theorem dL_law_743 : decode cL_law 743 = .ok (.aload_n 0, 1) := by decide +kernel
theorem dL_law_744 : decode cL_law 744 = .ok (.iload 4, 2) := by decide +kernel
theorem dL_law_746 : decode cL_law 746 = .ok (.iconst 2, 1) := by decide +kernel
theorem dL_law_747 : decode cL_law 747 = .ok (.iadd, 1) := by decide +kernel
theorem dL_law_748 : decode cL_law 748 = .ok (.iaload, 1) := by decide +kernel
theorem dL_law_749 : decode cL_law 749 = .ok (.aload_n 0, 1) := by decide +kernel
theorem dL_law_750 : decode cL_law 750 = .ok (.iload 4, 2) := by decide +kernel
theorem dL_law_752 : decode cL_law 752 = .ok (.iconst 3, 1) := by decide +kernel
theorem dL_law_753 : decode cL_law 753 = .ok (.iadd, 1) := by decide +kernel
theorem dL_law_754 : decode cL_law 754 = .ok (.iaload, 1) := by decide +kernel
theorem dL_law_755 : decode cL_law 755 = .ok (.aload_n 3, 1) := by decide +kernel
theorem dL_law_756 : decode cL_law 756 = .ok (.invokestatic 106, 3) := by decide +kernel
theorem dL_law_759 : decode cL_law 759 = .ok (.istore 5, 2) := by decide +kernel
theorem dL_law_761 : decode cL_law 761 = .ok (.aload_n 2, 1) := by decide +kernel
theorem dL_law_762 : decode cL_law 762 = .ok (.aload_n 0, 1) := by decide +kernel
theorem dL_law_763 : decode cL_law 763 = .ok (.iload 4, 2) := by decide +kernel
theorem dL_law_765 : decode cL_law 765 = .ok (.iconst 1, 1) := by decide +kernel
theorem dL_law_766 : decode cL_law 766 = .ok (.iadd, 1) := by decide +kernel
theorem dL_law_767 : decode cL_law 767 = .ok (.iaload, 1) := by decide +kernel
theorem dL_law_768 : decode cL_law 768 = .ok (.aload_n 0, 1) := by decide +kernel
theorem dL_law_769 : decode cL_law 769 = .ok (.iload 4, 2) := by decide +kernel
theorem dL_law_771 : decode cL_law 771 = .ok (.iconst 2, 1) := by decide +kernel
theorem dL_law_772 : decode cL_law 772 = .ok (.iadd, 1) := by decide +kernel
theorem dL_law_773 : decode cL_law 773 = .ok (.iaload, 1) := by decide +kernel
theorem dL_law_774 : decode cL_law 774 = .ok (.aload_n 0, 1) := by decide +kernel
theorem dL_law_775 : decode cL_law 775 = .ok (.iload 4, 2) := by decide +kernel
theorem dL_law_777 : decode cL_law 777 = .ok (.iconst 3, 1) := by decide +kernel
theorem dL_law_778 : decode cL_law 778 = .ok (.iadd, 1) := by decide +kernel
theorem dL_law_779 : decode cL_law 779 = .ok (.iaload, 1) := by decide +kernel
theorem dL_law_780 : decode cL_law 780 = .ok (.invokevirtual 108, 3) := by decide +kernel
theorem dL_law_783 : decode cL_law 783 = .ok (.istore 6, 2) := by decide +kernel
theorem dL_law_785 : decode cL_law 785 = .ok (.aload_n 2, 1) := by decide +kernel
theorem dL_law_786 : decode cL_law 786 = .ok (.invokevirtual 76, 3) := by decide +kernel
theorem dL_law_789 : decode cL_law 789 = .ok (.iload 5, 2) := by decide +kernel
theorem dL_law_791 : decode cL_law 791 = .ok (.if_icmp .eq 5, 3) := by decide +kernel
theorem dL_law_794 : decode cL_law 794 = .ok (.iconst 0, 1) := by decide +kernel
theorem dL_law_795 : decode cL_law 795 = .ok (.ireturn, 1) := by decide +kernel
theorem dL_law_796 : decode cL_law 796 = .ok (.iload 5, 2) := by decide +kernel
theorem dL_law_798 : decode cL_law 798 = .ok (.ifCond .ne 15, 3) := by decide +kernel
theorem dL_law_801 : decode cL_law 801 = .ok (.aload_n 3, 1) := by decide +kernel
theorem dL_law_802 : decode cL_law 802 = .ok (.iconst 0, 1) := by decide +kernel
theorem dL_law_803 : decode cL_law 803 = .ok (.laload, 1) := by decide +kernel
theorem dL_law_804 : decode cL_law 804 = .ok (.iload 6, 2) := by decide +kernel
theorem dL_law_806 : decode cL_law 806 = .ok (.i2l, 1) := by decide +kernel
theorem dL_law_807 : decode cL_law 807 = .ok (.lcmp, 1) := by decide +kernel
theorem dL_law_808 : decode cL_law 808 = .ok (.ifCond .eq 5, 3) := by decide +kernel
theorem dL_law_811 : decode cL_law 811 = .ok (.iconst 0, 1) := by decide +kernel
theorem dL_law_812 : decode cL_law 812 = .ok (.ireturn, 1) := by decide +kernel
theorem dL_law_813 : decode cL_law 813 = .ok (.goto 454, 3) := by decide +kernel
theorem dL_law_816 : decode cL_law 816 = .ok (.aload_n 1, 1) := by decide +kernel
theorem dL_law_817 : decode cL_law 817 = .ok (.aload_n 0, 1) := by decide +kernel
theorem dL_law_818 : decode cL_law 818 = .ok (.iload 4, 2) := by decide +kernel
theorem dL_law_820 : decode cL_law 820 = .ok (.iconst 1, 1) := by decide +kernel
theorem dL_law_821 : decode cL_law 821 = .ok (.iadd, 1) := by decide +kernel
theorem dL_law_822 : decode cL_law 822 = .ok (.iaload, 1) := by decide +kernel
theorem dL_law_823 : decode cL_law 823 = .ok (.aload_n 0, 1) := by decide +kernel
theorem dL_law_824 : decode cL_law 824 = .ok (.iload 4, 2) := by decide +kernel
theorem dL_law_826 : decode cL_law 826 = .ok (.iconst 2, 1) := by decide +kernel
theorem dL_law_827 : decode cL_law 827 = .ok (.iadd, 1) := by decide +kernel
theorem dL_law_828 : decode cL_law 828 = .ok (.iaload, 1) := by decide +kernel
theorem dL_law_829 : decode cL_law 829 = .ok (.aload_n 0, 1) := by decide +kernel
theorem dL_law_830 : decode cL_law 830 = .ok (.iload 4, 2) := by decide +kernel
theorem dL_law_832 : decode cL_law 832 = .ok (.iconst 3, 1) := by decide +kernel
theorem dL_law_833 : decode cL_law 833 = .ok (.iadd, 1) := by decide +kernel
theorem dL_law_834 : decode cL_law 834 = .ok (.iaload, 1) := by decide +kernel
theorem dL_law_835 : decode cL_law 835 = .ok (.aload_n 3, 1) := by decide +kernel
theorem dL_law_836 : decode cL_law 836 = .ok (.invokestatic 109, 3) := by decide +kernel
theorem dL_law_839 : decode cL_law 839 = .ok (.istore 5, 2) := by decide +kernel
theorem dL_law_841 : decode cL_law 841 = .ok (.aload_n 2, 1) := by decide +kernel
theorem dL_law_842 : decode cL_law 842 = .ok (.aload_n 0, 1) := by decide +kernel
theorem dL_law_843 : decode cL_law 843 = .ok (.iload 4, 2) := by decide +kernel
theorem dL_law_845 : decode cL_law 845 = .ok (.iconst 1, 1) := by decide +kernel
theorem dL_law_846 : decode cL_law 846 = .ok (.iadd, 1) := by decide +kernel
theorem dL_law_847 : decode cL_law 847 = .ok (.iaload, 1) := by decide +kernel
theorem dL_law_848 : decode cL_law 848 = .ok (.aload_n 0, 1) := by decide +kernel
theorem dL_law_849 : decode cL_law 849 = .ok (.iload 4, 2) := by decide +kernel
theorem dL_law_851 : decode cL_law 851 = .ok (.iconst 2, 1) := by decide +kernel
theorem dL_law_852 : decode cL_law 852 = .ok (.iadd, 1) := by decide +kernel
theorem dL_law_853 : decode cL_law 853 = .ok (.iaload, 1) := by decide +kernel
theorem dL_law_854 : decode cL_law 854 = .ok (.aload_n 0, 1) := by decide +kernel
theorem dL_law_855 : decode cL_law 855 = .ok (.iload 4, 2) := by decide +kernel
theorem dL_law_857 : decode cL_law 857 = .ok (.iconst 3, 1) := by decide +kernel
theorem dL_law_858 : decode cL_law 858 = .ok (.iadd, 1) := by decide +kernel
theorem dL_law_859 : decode cL_law 859 = .ok (.iaload, 1) := by decide +kernel
theorem dL_law_860 : decode cL_law 860 = .ok (.invokevirtual 111, 3) := by decide +kernel
theorem dL_law_863 : decode cL_law 863 = .ok (.istore 6, 2) := by decide +kernel
theorem dL_law_865 : decode cL_law 865 = .ok (.aload_n 2, 1) := by decide +kernel
theorem dL_law_866 : decode cL_law 866 = .ok (.invokevirtual 76, 3) := by decide +kernel
theorem dL_law_869 : decode cL_law 869 = .ok (.iload 5, 2) := by decide +kernel
theorem dL_law_871 : decode cL_law 871 = .ok (.if_icmp .eq 5, 3) := by decide +kernel
theorem dL_law_874 : decode cL_law 874 = .ok (.iconst 0, 1) := by decide +kernel
theorem dL_law_875 : decode cL_law 875 = .ok (.ireturn, 1) := by decide +kernel
theorem dL_law_876 : decode cL_law 876 = .ok (.iload 5, 2) := by decide +kernel
theorem dL_law_878 : decode cL_law 878 = .ok (.ifCond .ne 15, 3) := by decide +kernel
theorem dL_law_881 : decode cL_law 881 = .ok (.aload_n 3, 1) := by decide +kernel
theorem dL_law_882 : decode cL_law 882 = .ok (.iconst 0, 1) := by decide +kernel
theorem dL_law_883 : decode cL_law 883 = .ok (.laload, 1) := by decide +kernel
theorem dL_law_884 : decode cL_law 884 = .ok (.iload 6, 2) := by decide +kernel
theorem dL_law_886 : decode cL_law 886 = .ok (.i2l, 1) := by decide +kernel
theorem dL_law_887 : decode cL_law 887 = .ok (.lcmp, 1) := by decide +kernel
theorem dL_law_888 : decode cL_law 888 = .ok (.ifCond .eq 5, 3) := by decide +kernel
theorem dL_law_891 : decode cL_law 891 = .ok (.iconst 0, 1) := by decide +kernel
theorem dL_law_892 : decode cL_law 892 = .ok (.ireturn, 1) := by decide +kernel
theorem dL_law_893 : decode cL_law 893 = .ok (.goto 374, 3) := by decide +kernel
theorem dL_law_896 : decode cL_law 896 = .ok (.aload_n 1, 1) := by decide +kernel
theorem dL_law_897 : decode cL_law 897 = .ok (.aload_n 0, 1) := by decide +kernel
theorem dL_law_898 : decode cL_law 898 = .ok (.iload 4, 2) := by decide +kernel
theorem dL_law_900 : decode cL_law 900 = .ok (.iconst 1, 1) := by decide +kernel
theorem dL_law_901 : decode cL_law 901 = .ok (.iadd, 1) := by decide +kernel
theorem dL_law_902 : decode cL_law 902 = .ok (.iaload, 1) := by decide +kernel
theorem dL_law_903 : decode cL_law 903 = .ok (.aload_n 3, 1) := by decide +kernel
theorem dL_law_904 : decode cL_law 904 = .ok (.invokestatic 112, 3) := by decide +kernel
theorem dL_law_907 : decode cL_law 907 = .ok (.istore 5, 2) := by decide +kernel
theorem dL_law_909 : decode cL_law 909 = .ok (.aload_n 2, 1) := by decide +kernel
theorem dL_law_910 : decode cL_law 910 = .ok (.aload_n 0, 1) := by decide +kernel
theorem dL_law_911 : decode cL_law 911 = .ok (.iload 4, 2) := by decide +kernel
theorem dL_law_913 : decode cL_law 913 = .ok (.iconst 1, 1) := by decide +kernel
theorem dL_law_914 : decode cL_law 914 = .ok (.iadd, 1) := by decide +kernel
theorem dL_law_915 : decode cL_law 915 = .ok (.iaload, 1) := by decide +kernel
theorem dL_law_916 : decode cL_law 916 = .ok (.invokevirtual 114, 3) := by decide +kernel
theorem dL_law_919 : decode cL_law 919 = .ok (.istore 6, 2) := by decide +kernel
theorem dL_law_921 : decode cL_law 921 = .ok (.aload_n 2, 1) := by decide +kernel
theorem dL_law_922 : decode cL_law 922 = .ok (.invokevirtual 76, 3) := by decide +kernel
theorem dL_law_925 : decode cL_law 925 = .ok (.iload 5, 2) := by decide +kernel
theorem dL_law_927 : decode cL_law 927 = .ok (.if_icmp .eq 5, 3) := by decide +kernel
theorem dL_law_930 : decode cL_law 930 = .ok (.iconst 0, 1) := by decide +kernel
theorem dL_law_931 : decode cL_law 931 = .ok (.ireturn, 1) := by decide +kernel
theorem dL_law_932 : decode cL_law 932 = .ok (.iload 5, 2) := by decide +kernel
theorem dL_law_934 : decode cL_law 934 = .ok (.ifCond .ne 15, 3) := by decide +kernel
theorem dL_law_937 : decode cL_law 937 = .ok (.aload_n 3, 1) := by decide +kernel
theorem dL_law_938 : decode cL_law 938 = .ok (.iconst 0, 1) := by decide +kernel
theorem dL_law_939 : decode cL_law 939 = .ok (.laload, 1) := by decide +kernel
theorem dL_law_940 : decode cL_law 940 = .ok (.iload 6, 2) := by decide +kernel
theorem dL_law_942 : decode cL_law 942 = .ok (.i2l, 1) := by decide +kernel
theorem dL_law_943 : decode cL_law 943 = .ok (.lcmp, 1) := by decide +kernel
theorem dL_law_944 : decode cL_law 944 = .ok (.ifCond .eq 5, 3) := by decide +kernel
theorem dL_law_947 : decode cL_law 947 = .ok (.iconst 0, 1) := by decide +kernel
theorem dL_law_948 : decode cL_law 948 = .ok (.ireturn, 1) := by decide +kernel
theorem dL_law_949 : decode cL_law 949 = .ok (.goto 318, 3) := by decide +kernel
theorem dL_law_952 : decode cL_law 952 = .ok (.aload_n 1, 1) := by decide +kernel
theorem dL_law_953 : decode cL_law 953 = .ok (.aload_n 0, 1) := by decide +kernel
theorem dL_law_954 : decode cL_law 954 = .ok (.iload 4, 2) := by decide +kernel
theorem dL_law_956 : decode cL_law 956 = .ok (.iconst 1, 1) := by decide +kernel
theorem dL_law_957 : decode cL_law 957 = .ok (.iadd, 1) := by decide +kernel
theorem dL_law_958 : decode cL_law 958 = .ok (.iaload, 1) := by decide +kernel
theorem dL_law_959 : decode cL_law 959 = .ok (.aload_n 3, 1) := by decide +kernel
theorem dL_law_960 : decode cL_law 960 = .ok (.invokestatic 115, 3) := by decide +kernel
theorem dL_law_963 : decode cL_law 963 = .ok (.istore 5, 2) := by decide +kernel
theorem dL_law_965 : decode cL_law 965 = .ok (.aload_n 2, 1) := by decide +kernel
theorem dL_law_966 : decode cL_law 966 = .ok (.aload_n 0, 1) := by decide +kernel
theorem dL_law_967 : decode cL_law 967 = .ok (.iload 4, 2) := by decide +kernel
theorem dL_law_969 : decode cL_law 969 = .ok (.iconst 1, 1) := by decide +kernel
theorem dL_law_970 : decode cL_law 970 = .ok (.iadd, 1) := by decide +kernel
theorem dL_law_971 : decode cL_law 971 = .ok (.iaload, 1) := by decide +kernel
theorem dL_law_972 : decode cL_law 972 = .ok (.invokevirtual 117, 3) := by decide +kernel
theorem dL_law_975 : decode cL_law 975 = .ok (.istore 6, 2) := by decide +kernel
theorem dL_law_977 : decode cL_law 977 = .ok (.aload_n 2, 1) := by decide +kernel
theorem dL_law_978 : decode cL_law 978 = .ok (.invokevirtual 76, 3) := by decide +kernel
theorem dL_law_981 : decode cL_law 981 = .ok (.iload 5, 2) := by decide +kernel
theorem dL_law_983 : decode cL_law 983 = .ok (.if_icmp .eq 5, 3) := by decide +kernel
theorem dL_law_986 : decode cL_law 986 = .ok (.iconst 0, 1) := by decide +kernel
theorem dL_law_987 : decode cL_law 987 = .ok (.ireturn, 1) := by decide +kernel
theorem dL_law_988 : decode cL_law 988 = .ok (.iload 5, 2) := by decide +kernel
theorem dL_law_990 : decode cL_law 990 = .ok (.ifCond .ne 15, 3) := by decide +kernel
theorem dL_law_993 : decode cL_law 993 = .ok (.aload_n 3, 1) := by decide +kernel
theorem dL_law_994 : decode cL_law 994 = .ok (.iconst 0, 1) := by decide +kernel
theorem dL_law_995 : decode cL_law 995 = .ok (.laload, 1) := by decide +kernel
theorem dL_law_996 : decode cL_law 996 = .ok (.iload 6, 2) := by decide +kernel
theorem dL_law_998 : decode cL_law 998 = .ok (.i2l, 1) := by decide +kernel
theorem dL_law_999 : decode cL_law 999 = .ok (.lcmp, 1) := by decide +kernel
theorem dL_law_1000 : decode cL_law 1000 = .ok (.ifCond .eq 5, 3) := by decide +kernel
theorem dL_law_1003 : decode cL_law 1003 = .ok (.iconst 0, 1) := by decide +kernel
theorem dL_law_1004 : decode cL_law 1004 = .ok (.ireturn, 1) := by decide +kernel
theorem dL_law_1005 : decode cL_law 1005 = .ok (.goto 262, 3) := by decide +kernel
theorem dL_law_1008 : decode cL_law 1008 = .ok (.aload_n 1, 1) := by decide +kernel
theorem dL_law_1009 : decode cL_law 1009 = .ok (.aload_n 0, 1) := by decide +kernel
theorem dL_law_1010 : decode cL_law 1010 = .ok (.iload 4, 2) := by decide +kernel
theorem dL_law_1012 : decode cL_law 1012 = .ok (.iconst 1, 1) := by decide +kernel
theorem dL_law_1013 : decode cL_law 1013 = .ok (.iadd, 1) := by decide +kernel
theorem dL_law_1014 : decode cL_law 1014 = .ok (.iaload, 1) := by decide +kernel
theorem dL_law_1015 : decode cL_law 1015 = .ok (.aload_n 3, 1) := by decide +kernel
theorem dL_law_1016 : decode cL_law 1016 = .ok (.invokestatic 118, 3) := by decide +kernel
theorem dL_law_1019 : decode cL_law 1019 = .ok (.istore 5, 2) := by decide +kernel
theorem dL_law_1021 : decode cL_law 1021 = .ok (.aload_n 2, 1) := by decide +kernel
theorem dL_law_1022 : decode cL_law 1022 = .ok (.aload_n 0, 1) := by decide +kernel
theorem dL_law_1023 : decode cL_law 1023 = .ok (.iload 4, 2) := by decide +kernel
theorem dL_law_1025 : decode cL_law 1025 = .ok (.iconst 1, 1) := by decide +kernel
theorem dL_law_1026 : decode cL_law 1026 = .ok (.iadd, 1) := by decide +kernel
theorem dL_law_1027 : decode cL_law 1027 = .ok (.iaload, 1) := by decide +kernel
theorem dL_law_1028 : decode cL_law 1028 = .ok (.invokevirtual 120, 3) := by decide +kernel
theorem dL_law_1031 : decode cL_law 1031 = .ok (.istore 6, 2) := by decide +kernel
theorem dL_law_1033 : decode cL_law 1033 = .ok (.aload_n 2, 1) := by decide +kernel
theorem dL_law_1034 : decode cL_law 1034 = .ok (.invokevirtual 76, 3) := by decide +kernel
theorem dL_law_1037 : decode cL_law 1037 = .ok (.iload 5, 2) := by decide +kernel
theorem dL_law_1039 : decode cL_law 1039 = .ok (.if_icmp .eq 5, 3) := by decide +kernel
theorem dL_law_1042 : decode cL_law 1042 = .ok (.iconst 0, 1) := by decide +kernel
theorem dL_law_1043 : decode cL_law 1043 = .ok (.ireturn, 1) := by decide +kernel
theorem dL_law_1044 : decode cL_law 1044 = .ok (.iload 5, 2) := by decide +kernel
theorem dL_law_1046 : decode cL_law 1046 = .ok (.ifCond .ne 15, 3) := by decide +kernel
theorem dL_law_1049 : decode cL_law 1049 = .ok (.aload_n 3, 1) := by decide +kernel
theorem dL_law_1050 : decode cL_law 1050 = .ok (.iconst 0, 1) := by decide +kernel
theorem dL_law_1051 : decode cL_law 1051 = .ok (.laload, 1) := by decide +kernel
theorem dL_law_1052 : decode cL_law 1052 = .ok (.iload 6, 2) := by decide +kernel
theorem dL_law_1054 : decode cL_law 1054 = .ok (.i2l, 1) := by decide +kernel
theorem dL_law_1055 : decode cL_law 1055 = .ok (.lcmp, 1) := by decide +kernel
theorem dL_law_1056 : decode cL_law 1056 = .ok (.ifCond .eq 5, 3) := by decide +kernel
theorem dL_law_1059 : decode cL_law 1059 = .ok (.iconst 0, 1) := by decide +kernel
theorem dL_law_1060 : decode cL_law 1060 = .ok (.ireturn, 1) := by decide +kernel
theorem dL_law_1061 : decode cL_law 1061 = .ok (.goto 206, 3) := by decide +kernel
theorem dL_law_1064 : decode cL_law 1064 = .ok (.aload_n 1, 1) := by decide +kernel
theorem dL_law_1065 : decode cL_law 1065 = .ok (.aload_n 0, 1) := by decide +kernel
theorem dL_law_1066 : decode cL_law 1066 = .ok (.iload 4, 2) := by decide +kernel
theorem dL_law_1068 : decode cL_law 1068 = .ok (.iconst 1, 1) := by decide +kernel
theorem dL_law_1069 : decode cL_law 1069 = .ok (.iadd, 1) := by decide +kernel
theorem dL_law_1070 : decode cL_law 1070 = .ok (.iaload, 1) := by decide +kernel
theorem dL_law_1071 : decode cL_law 1071 = .ok (.aload_n 0, 1) := by decide +kernel
theorem dL_law_1072 : decode cL_law 1072 = .ok (.iload 4, 2) := by decide +kernel
theorem dL_law_1074 : decode cL_law 1074 = .ok (.iconst 2, 1) := by decide +kernel
theorem dL_law_1075 : decode cL_law 1075 = .ok (.iadd, 1) := by decide +kernel
theorem dL_law_1076 : decode cL_law 1076 = .ok (.iaload, 1) := by decide +kernel
theorem dL_law_1077 : decode cL_law 1077 = .ok (.aload_n 0, 1) := by decide +kernel
theorem dL_law_1078 : decode cL_law 1078 = .ok (.iload 4, 2) := by decide +kernel
theorem dL_law_1080 : decode cL_law 1080 = .ok (.iconst 3, 1) := by decide +kernel
theorem dL_law_1081 : decode cL_law 1081 = .ok (.iadd, 1) := by decide +kernel
theorem dL_law_1082 : decode cL_law 1082 = .ok (.iaload, 1) := by decide +kernel
theorem dL_law_1083 : decode cL_law 1083 = .ok (.aload_n 3, 1) := by decide +kernel
theorem dL_law_1084 : decode cL_law 1084 = .ok (.invokestatic 121, 3) := by decide +kernel
theorem dL_law_1087 : decode cL_law 1087 = .ok (.istore 5, 2) := by decide +kernel
theorem dL_law_1089 : decode cL_law 1089 = .ok (.aload_n 2, 1) := by decide +kernel
theorem dL_law_1090 : decode cL_law 1090 = .ok (.aload_n 0, 1) := by decide +kernel
theorem dL_law_1091 : decode cL_law 1091 = .ok (.iload 4, 2) := by decide +kernel
theorem dL_law_1093 : decode cL_law 1093 = .ok (.iconst 1, 1) := by decide +kernel
theorem dL_law_1094 : decode cL_law 1094 = .ok (.iadd, 1) := by decide +kernel
theorem dL_law_1095 : decode cL_law 1095 = .ok (.iaload, 1) := by decide +kernel
theorem dL_law_1096 : decode cL_law 1096 = .ok (.aload_n 0, 1) := by decide +kernel
theorem dL_law_1097 : decode cL_law 1097 = .ok (.iload 4, 2) := by decide +kernel
theorem dL_law_1099 : decode cL_law 1099 = .ok (.iconst 2, 1) := by decide +kernel
theorem dL_law_1100 : decode cL_law 1100 = .ok (.iadd, 1) := by decide +kernel
theorem dL_law_1101 : decode cL_law 1101 = .ok (.iaload, 1) := by decide +kernel
theorem dL_law_1102 : decode cL_law 1102 = .ok (.aload_n 0, 1) := by decide +kernel
theorem dL_law_1103 : decode cL_law 1103 = .ok (.iload 4, 2) := by decide +kernel
theorem dL_law_1105 : decode cL_law 1105 = .ok (.iconst 3, 1) := by decide +kernel
theorem dL_law_1106 : decode cL_law 1106 = .ok (.iadd, 1) := by decide +kernel
theorem dL_law_1107 : decode cL_law 1107 = .ok (.iaload, 1) := by decide +kernel
theorem dL_law_1108 : decode cL_law 1108 = .ok (.invokevirtual 123, 3) := by decide +kernel
theorem dL_law_1111 : decode cL_law 1111 = .ok (.istore 6, 2) := by decide +kernel
theorem dL_law_1113 : decode cL_law 1113 = .ok (.aload_n 2, 1) := by decide +kernel
theorem dL_law_1114 : decode cL_law 1114 = .ok (.invokevirtual 76, 3) := by decide +kernel
theorem dL_law_1117 : decode cL_law 1117 = .ok (.iload 5, 2) := by decide +kernel
theorem dL_law_1119 : decode cL_law 1119 = .ok (.if_icmp .eq 5, 3) := by decide +kernel
theorem dL_law_1122 : decode cL_law 1122 = .ok (.iconst 0, 1) := by decide +kernel
theorem dL_law_1123 : decode cL_law 1123 = .ok (.ireturn, 1) := by decide +kernel
theorem dL_law_1124 : decode cL_law 1124 = .ok (.iload 5, 2) := by decide +kernel
theorem dL_law_1126 : decode cL_law 1126 = .ok (.ifCond .ne 15, 3) := by decide +kernel
theorem dL_law_1129 : decode cL_law 1129 = .ok (.aload_n 3, 1) := by decide +kernel
theorem dL_law_1130 : decode cL_law 1130 = .ok (.iconst 0, 1) := by decide +kernel
theorem dL_law_1131 : decode cL_law 1131 = .ok (.laload, 1) := by decide +kernel
theorem dL_law_1132 : decode cL_law 1132 = .ok (.iload 6, 2) := by decide +kernel
theorem dL_law_1134 : decode cL_law 1134 = .ok (.i2l, 1) := by decide +kernel
theorem dL_law_1135 : decode cL_law 1135 = .ok (.lcmp, 1) := by decide +kernel
theorem dL_law_1136 : decode cL_law 1136 = .ok (.ifCond .eq 5, 3) := by decide +kernel
theorem dL_law_1139 : decode cL_law 1139 = .ok (.iconst 0, 1) := by decide +kernel
theorem dL_law_1140 : decode cL_law 1140 = .ok (.ireturn, 1) := by decide +kernel
theorem dL_law_1141 : decode cL_law 1141 = .ok (.goto 126, 3) := by decide +kernel
theorem dL_law_1144 : decode cL_law 1144 = .ok (.aload_n 1, 1) := by decide +kernel
theorem dL_law_1145 : decode cL_law 1145 = .ok (.aload_n 0, 1) := by decide +kernel
theorem dL_law_1146 : decode cL_law 1146 = .ok (.iload 4, 2) := by decide +kernel
theorem dL_law_1148 : decode cL_law 1148 = .ok (.iconst 1, 1) := by decide +kernel
theorem dL_law_1149 : decode cL_law 1149 = .ok (.iadd, 1) := by decide +kernel
theorem dL_law_1150 : decode cL_law 1150 = .ok (.iaload, 1) := by decide +kernel
theorem dL_law_1151 : decode cL_law 1151 = .ok (.aload_n 0, 1) := by decide +kernel
theorem dL_law_1152 : decode cL_law 1152 = .ok (.iload 4, 2) := by decide +kernel
theorem dL_law_1154 : decode cL_law 1154 = .ok (.iconst 2, 1) := by decide +kernel
theorem dL_law_1155 : decode cL_law 1155 = .ok (.iadd, 1) := by decide +kernel
theorem dL_law_1156 : decode cL_law 1156 = .ok (.iaload, 1) := by decide +kernel
theorem dL_law_1157 : decode cL_law 1157 = .ok (.aload_n 3, 1) := by decide +kernel
theorem dL_law_1158 : decode cL_law 1158 = .ok (.invokestatic 124, 3) := by decide +kernel
theorem dL_law_1161 : decode cL_law 1161 = .ok (.istore 5, 2) := by decide +kernel
theorem dL_law_1163 : decode cL_law 1163 = .ok (.aload_n 2, 1) := by decide +kernel
theorem dL_law_1164 : decode cL_law 1164 = .ok (.aload_n 0, 1) := by decide +kernel
theorem dL_law_1165 : decode cL_law 1165 = .ok (.iload 4, 2) := by decide +kernel
theorem dL_law_1167 : decode cL_law 1167 = .ok (.iconst 1, 1) := by decide +kernel
theorem dL_law_1168 : decode cL_law 1168 = .ok (.iadd, 1) := by decide +kernel
theorem dL_law_1169 : decode cL_law 1169 = .ok (.iaload, 1) := by decide +kernel
theorem dL_law_1170 : decode cL_law 1170 = .ok (.aload_n 0, 1) := by decide +kernel
theorem dL_law_1171 : decode cL_law 1171 = .ok (.iload 4, 2) := by decide +kernel
theorem dL_law_1173 : decode cL_law 1173 = .ok (.iconst 2, 1) := by decide +kernel
theorem dL_law_1174 : decode cL_law 1174 = .ok (.iadd, 1) := by decide +kernel
theorem dL_law_1175 : decode cL_law 1175 = .ok (.iaload, 1) := by decide +kernel
theorem dL_law_1176 : decode cL_law 1176 = .ok (.invokevirtual 126, 3) := by decide +kernel
theorem dL_law_1179 : decode cL_law 1179 = .ok (.istore 6, 2) := by decide +kernel
theorem dL_law_1181 : decode cL_law 1181 = .ok (.aload_n 2, 1) := by decide +kernel
theorem dL_law_1182 : decode cL_law 1182 = .ok (.invokevirtual 76, 3) := by decide +kernel
theorem dL_law_1185 : decode cL_law 1185 = .ok (.iload 5, 2) := by decide +kernel
theorem dL_law_1187 : decode cL_law 1187 = .ok (.if_icmp .eq 5, 3) := by decide +kernel
theorem dL_law_1190 : decode cL_law 1190 = .ok (.iconst 0, 1) := by decide +kernel
theorem dL_law_1191 : decode cL_law 1191 = .ok (.ireturn, 1) := by decide +kernel
theorem dL_law_1192 : decode cL_law 1192 = .ok (.iload 5, 2) := by decide +kernel
theorem dL_law_1194 : decode cL_law 1194 = .ok (.ifCond .ne 15, 3) := by decide +kernel
theorem dL_law_1197 : decode cL_law 1197 = .ok (.aload_n 3, 1) := by decide +kernel
theorem dL_law_1198 : decode cL_law 1198 = .ok (.iconst 0, 1) := by decide +kernel
theorem dL_law_1199 : decode cL_law 1199 = .ok (.laload, 1) := by decide +kernel
theorem dL_law_1200 : decode cL_law 1200 = .ok (.iload 6, 2) := by decide +kernel
theorem dL_law_1202 : decode cL_law 1202 = .ok (.i2l, 1) := by decide +kernel
theorem dL_law_1203 : decode cL_law 1203 = .ok (.lcmp, 1) := by decide +kernel
theorem dL_law_1204 : decode cL_law 1204 = .ok (.ifCond .eq 5, 3) := by decide +kernel
theorem dL_law_1207 : decode cL_law 1207 = .ok (.iconst 0, 1) := by decide +kernel
theorem dL_law_1208 : decode cL_law 1208 = .ok (.ireturn, 1) := by decide +kernel
theorem dL_law_1209 : decode cL_law 1209 = .ok (.goto 58, 3) := by decide +kernel
theorem dL_law_1212 : decode cL_law 1212 = .ok (.aload_n 1, 1) := by decide +kernel
theorem dL_law_1213 : decode cL_law 1213 = .ok (.invokevirtual 127, 3) := by decide +kernel
theorem dL_law_1216 : decode cL_law 1216 = .ok (.dstore 5, 2) := by decide +kernel
theorem dL_law_1218 : decode cL_law 1218 = .ok (.aload_n 2, 1) := by decide +kernel
theorem dL_law_1219 : decode cL_law 1219 = .ok (.invokevirtual 131, 3) := by decide +kernel
theorem dL_law_1222 : decode cL_law 1222 = .ok (.dstore 7, 2) := by decide +kernel
theorem dL_law_1224 : decode cL_law 1224 = .ok (.dload 5, 2) := by decide +kernel
theorem dL_law_1226 : decode cL_law 1226 = .ok (.dload 7, 2) := by decide +kernel
theorem dL_law_1228 : decode cL_law 1228 = .ok (.dcmp .l, 1) := by decide +kernel
theorem dL_law_1229 : decode cL_law 1229 = .ok (.ifCond .eq 21, 3) := by decide +kernel
theorem dL_law_1232 : decode cL_law 1232 = .ok (.dload 5, 2) := by decide +kernel
theorem dL_law_1234 : decode cL_law 1234 = .ok (.dload 5, 2) := by decide +kernel
theorem dL_law_1236 : decode cL_law 1236 = .ok (.dcmp .l, 1) := by decide +kernel
theorem dL_law_1237 : decode cL_law 1237 = .ok (.ifCond .eq 11, 3) := by decide +kernel
theorem dL_law_1240 : decode cL_law 1240 = .ok (.dload 7, 2) := by decide +kernel
theorem dL_law_1242 : decode cL_law 1242 = .ok (.dload 7, 2) := by decide +kernel
theorem dL_law_1244 : decode cL_law 1244 = .ok (.dcmp .l, 1) := by decide +kernel
theorem dL_law_1245 : decode cL_law 1245 = .ok (.ifCond .ne 5, 3) := by decide +kernel
theorem dL_law_1248 : decode cL_law 1248 = .ok (.iconst 0, 1) := by decide +kernel
theorem dL_law_1249 : decode cL_law 1249 = .ok (.ireturn, 1) := by decide +kernel
theorem dL_law_1250 : decode cL_law 1250 = .ok (.goto 17, 3) := by decide +kernel
theorem dL_law_1253 : decode cL_law 1253 = .ok (.aload_n 1, 1) := by decide +kernel
theorem dL_law_1254 : decode cL_law 1254 = .ok (.invokevirtual 132, 3) := by decide +kernel
theorem dL_law_1257 : decode cL_law 1257 = .ok (.aload_n 2, 1) := by decide +kernel
theorem dL_law_1258 : decode cL_law 1258 = .ok (.invokevirtual 136, 3) := by decide +kernel
theorem dL_law_1261 : decode cL_law 1261 = .ok (.lcmp, 1) := by decide +kernel
theorem dL_law_1262 : decode cL_law 1262 = .ok (.ifCond .eq 5, 3) := by decide +kernel
theorem dL_law_1265 : decode cL_law 1265 = .ok (.iconst 0, 1) := by decide +kernel
theorem dL_law_1266 : decode cL_law 1266 = .ok (.ireturn, 1) := by decide +kernel
theorem dL_law_1267 : decode cL_law 1267 = .ok (.iinc 4 4, 3) := by decide +kernel
theorem dL_law_1270 : decode cL_law 1270 = .ok (.goto (-1247), 3) := by decide +kernel
theorem dL_law_1273 : decode cL_law 1273 = .ok (.iconst 1, 1) := by decide +kernel
theorem dL_law_1274 : decode cL_law 1274 = .ok (.ireturn, 1) := by decide +kernel
abbrev vwCl : List vw_C := [(RX0, TX0, 5), (RX1, TX1, 11), (RX2, TX2, 17), (RX3, TX3, 25)]
end
section
/-! worlds as functions of a place: n cells, the address of each, and what it holds -/
def cy_G (n : Nat) (ad : Nat → Nat) (en : Nat → va_E) : va_W := (List.range n).map (fun j => (ad j, en j))
theorem cy_G_len {n : Nat} {ad : Nat → Nat} {en : Nat → va_E} : (cy_G n ad en).length = n := by simp [cy_G]
theorem cy_G_at {n j : Nat} {ad : Nat → Nat} {en : Nat → va_E} {tl : va_W} (h : j < n) : (cy_G n ad en ++ tl)[j]? = some (ad j, en j) := by
  rw [List.getElem?_append_left (by rw [cy_G_len]; exact h)]
  simp [cy_G, List.getElem?_map, List.getElem?_range h]
theorem cy_G_tl {n i : Nat} {ad : Nat → Nat} {en : Nat → va_E} {tl : va_W} : (cy_G n ad en ++ tl)[n + i]? = tl[i]? := by
  rw [List.getElem?_append_right (by rw [cy_G_len]; omega), cy_G_len, Nat.add_sub_cancel_left]
theorem cy_G_set {n j : Nat} {ad : Nat → Nat} {en : Nat → va_E} {tl : va_W} {e : va_E} (h : j < n) : (cy_G n ad en ++ tl).set j (ad j, e) = cy_G n ad (va_up en j e) ++ tl := by
  rw [List.set_append_left _ _ (by rw [cy_G_len]; exact h)]
  congr 1
  apply List.ext_getElem?
  intro k
  rw [List.getElem?_set]
  simp only [cy_G, List.length_map, List.length_range, List.getElem?_map]
  by_cases hk : j = k
  · subst hk
    rw [if_pos rfl, if_pos h, List.getElem?_range h]
    simp [va_up]
  · rw [if_neg hk]
    by_cases hn : k < n
    · rw [List.getElem?_range hn]
      simp [va_up, Ne.symm hk]
    · rw [List.getElem?_eq_none (by simpa using hn)]
      rfl
theorem cy_G_set_tl {n i : Nat} {ad : Nat → Nat} {en : Nat → va_E} {tl : va_W} {q : Nat × va_E} : (cy_G n ad en ++ tl).set (n + i) q = cy_G n ad en ++ tl.set i q := by
  rw [List.set_append_right _ _ (by rw [cy_G_len]; omega), cy_G_len, Nat.add_sub_cancel_left]
/-- the world at a point of a walk -/
def cy_W (D : va_G) (A : Nat → Prop) (H0 : Heap) (w : va_W) (H : Heap) (locs : List Loc) : Prop := va_P D vwCl w H ∧ va_D A w ∧ va_S A H0 H locs
def cy_Pre (D : va_G) (tys : List (ClassId × FieldType)) (sz : Nat) (w : va_W) : State → Prop := fun U => U.heap.size = sz ∧ va_P D vwCl w U.heap ∧ va_K D vwCl tys U ∧ va_D (fun _ => True) w
def cy_Post (D : va_G) (sz : Nat) (w0 : va_W) (rv : Option Value) (w1 : va_W) : Array Value → State → Outcome → State → Prop := fun _ st oc t => oc = .returned rv ∧ va_P D vwCl w1 t.heap ∧ va_D (va_A w0 sz) w1 ∧ va_F (va_A w0 sz) st t
/-- a contract: from the world w0 it returns rv, and leaves the world w1 -/
def cy_M (l : Launch) (y : MethodName) (ws : List Cond) (rm : Room) (D : va_G) (tys : List (ClassId × FieldType)) (av : List Value) (w0 : va_W) (rv : Option Value) (w1 : va_W) : Prop :=
  ∀ sz : Nat, Met l y ws rm (va_Pc av (cy_Pre D tys sz w0)) (cy_Post D sz w0 rv w1) rm.cells rm.slots (va_A w0 sz)
theorem cy_blind {D : va_G} {tys : List (ClassId × FieldType)} {sz : Nat} {w : va_W} {av : List Value} : FrameBlind (va_Pc av (cy_Pre D tys sz w)) := fun a U g mk q => by
  obtain ⟨q0, q1, qP, qK, qD⟩ := q
  exact ⟨q0, q1, qP, va_K.moved (u := U) (U := U.calling g mk a) (Vm.Alike.refl U.vm) qK, qD⟩
section CYK
variable {p : Program} {l : Launch} {e : Env} {R : Room} {s : State} {m : MethodId} {args : Array Value} {below : List Frame} {meth : Method} {c : Code} {H : Heap} {locs : List Loc} {cells slots : Nat} {Q : State → Prop}
variable {cc : ByteArray} {pc nL : Nat} {ls : Array Slot} {rest : List Value} {D : va_G} {A : Nat → Prop} {a : Nat} {tys : List (ClassId × FieldType)} {Ts : List Cond} {own : String} {w0 w1 : va_W} {rv : Option Value}
variable {y : MethodName} {ws : List Cond} {rm : Room}
theorem cy_free (hA : ∀ q, s.heap.size ≤ q → A q) (hW : cy_W D A s.heap w0 H locs) : ∀ q, va_A w0 H.size q → A q := by
  intro q h
  rcases h with ⟨k, e, h⟩ | h
  · exact hW.2.1.2 k (q, e) h
  · exact hA q (Nat.le_trans hW.2.2.1 h)
theorem cy_back {mc ms : Nat} {st0 : List Value} {av : Array Value} (hA : ∀ q, s.heap.size ≤ q → A q) (hW : cy_W D A s.heap w0 H locs)
    (hr : va_Run p l e R s m args below meth c H locs cells slots mc ms (F0 m pc ls st0) rest (cy_Post D H.size w0 rv w1 av) (va_A w0 H.size))
    (kk : ∀ (H1 : Heap) (locs1 : List Loc), cy_W D A s.heap w1 H1 locs1 → W p l e R s m args below meth c H1 locs1 (cells + mc) (slots + ms) Q (F0 m (pc + 3) ls (rv.toList ++ rest))) : W p l e R s m args below meth c H locs cells slots Q (F0 m pc ls st0) := by
  have hF := cy_free hA hW
  obtain ⟨hP, hD, hS⟩ := hW
  intro T hT X
  obtain ⟨v, st₀, t, T', L, h0, X', hL, e1, e2, ⟨hv, hP1, hD1, hz, hk⟩, st⟩ := hr T hT X
  have hv : v = rv := by cases hv; rfl
  subst hv
  rw [h0] at hz hk
  obtain ⟨t2, a1, b1⟩ := kk T'.heap (locs ++ L) ⟨by rw [e1]; exact hP1, hD1.weaken (fun _ q _ h => hF q.1 h),
    ⟨Nat.le_trans hS.1 (by rw [e1]; exact hz), fun q h1 h2 => by rw [e1, hk q (Nat.lt_of_lt_of_le h1 hS.1) (fun z => h2 (hF q z))]; exact hS.2.1 q h1 h2, fun q hq => by
      rcases List.mem_append.mp hq with h | h
      · exact hS.2.2 q h
      · exact hF _ (hL q h)⟩⟩ T' rfl X'
  exact ⟨t2, st t2 a1, b1⟩
/-- a call by invokevirtual -/
theorem cy_callV {n index maxL q0 ci N : Nat} {T : u_T} {CC : String} {bytes : ByteArray} {ret : Option FieldType} {b : Addr} {fs As st0 : List Value} (C : CallFix p m c cc nL s args Ts own) (hK : va_K D vwCl tys s) (hA : ∀ q, s.heap.size ≤ q → A q) (hW : cy_W D A s.heap w0 H locs)
    (hM : cy_M l y ws rm D tys (.ref b :: As) w0 rv w1) (cw : CallW R s args own CC index y bytes maxL ret ws rm rm.cells rm.slots n) (he : w0[q0]? = some (b, .inr (ci, fs))) (hc : vwCl[ci]? = some (CC, T, N))
    (hn : As.length = n) (hl : ls.size = nL) (hst : st0 = As.reverse ++ .ref b :: rest) (hroom : (rest.map fun v => v.category).sum ≤ 8) (hdg : decode cc pc = .ok (.invokevirtual index, 3)) (hf : cells + rm.cells ≤ R.cells ∧ slots + rm.slots ≤ R.slots)
    (kk : ∀ (H1 : Heap) (locs1 : List Loc), cy_W D A s.heap w1 H1 locs1 → W p l e R s m args below meth c H1 locs1 (cells + rm.cells) (slots + rm.slots) Q (F0 m (pc + 3) ls (rv.toList ++ rest))) : W p l e R s m args below meth c H locs cells slots Q (F0 m pc ls st0) := by
  refine cy_back hA hW (va_runV (As := As) (rest := rest) C (hM H.size) cw ⟨cy_blind, va_recv hK hW.1 hc he, fun U hU hWm => ⟨rfl, by rw [hU], by rw [hU]; exact hW.1, va_K.moved hWm.alike hK, hW.2.1.weaken (fun _ _ _ _ => trivial)⟩⟩ rfl hn hl hst (lv_room hroom) hdg hf) kk
/-- a call by invokestatic -/
theorem cy_callS {n index maxL : Nat} {bytes : ByteArray} {ret : Option FieldType} {As st0 : List Value} (C : CallFix p m c cc nL s args Ts own) (hK : va_K D vwCl tys s) (hA : ∀ q, s.heap.size ≤ q → A q) (hW : cy_W D A s.heap w0 H locs)
    (hM : cy_M l y ws rm D tys As w0 rv w1) (cw : CallB R s args own index y bytes maxL ret ws rm rm.cells rm.slots n ∧ (Cond.static y).before args s = true)
    (hn : As.length = n) (hl : ls.size = nL) (hst : st0 = As.reverse ++ rest) (hroom : (rest.map fun v => v.category).sum ≤ 8) (hdg : decode cc pc = .ok (.invokestatic index, 3)) (hf : cells + rm.cells ≤ R.cells ∧ slots + rm.slots ≤ R.slots)
    (kk : ∀ (H1 : Heap) (locs1 : List Loc), cy_W D A s.heap w1 H1 locs1 → W p l e R s m args below meth c H1 locs1 (cells + rm.cells) (slots + rm.slots) Q (F0 m (pc + 3) ls (rv.toList ++ rest))) : W p l e R s m args below meth c H locs cells slots Q (F0 m pc ls st0) := by
  refine cy_back hA hW (va_runS (As := As) (rest := rest) C (hM H.size) cw ⟨cy_blind, fun U hU hWm => ⟨rfl, by rw [hU], by rw [hU]; exact hW.1, va_K.moved hWm.alike hK, hW.2.1.weaken (fun _ _ _ _ => trivial)⟩⟩ rfl hn hl hst (lv_room hroom) hdg hf) kk
end CYK
/-- the facts with which a body begins -/
def cy_C (p : Program) (s : State) (m : MethodId) (args : Array Value) (c : Code) (cc : ByteArray) (nL : Nat) (Ts : List Cond) (own : String) (D : va_G) (tys : List (ClassId × FieldType)) (A : Nat → Prop) : Prop :=
  CallFix p m c cc nL s args Ts own ∧ va_K D vwCl tys s ∧ ∀ q, s.heap.size ≤ q → A q
/-- what is left to show at a return -/
def cy_E (p : Program) (l : Launch) (e : Env) (rm : Room) (s : State) (m : MethodId) (args : Array Value) (below : List Frame) (meth : Method) (c : Code) (cc : ByteArray) (D : va_G) (A : Nat → Prop) (Q : State → Prop) (i : Instr) (rv : Option Value) (w1 : va_W) : Prop :=
  ∀ (H : Heap) (locs : List Loc) (cells slots pc : Nat) (ls : Array Slot), cells ≤ rm.cells → slots ≤ rm.slots → cy_W D A s.heap w1 H locs → decode cc pc = .ok (i, 1) → W p l e rm s m args below meth c H locs cells slots Q (F0 m pc ls rv.toList)
theorem cy_of {l : Launch} {y : MethodName} {ws ws' : List Cond} {rm : Room} {D : va_G} {tys : List (ClassId × FieldType)} {av : List Value} {w0 w1 : va_W} {rv : Option Value} {cc : ByteArray} {maxL : Nat} {ret : Option FieldType} {own : String} {i : Instr} (hy : plainName y.cls = true) (hw : ws = Cond.code y cc maxL ret :: ws') (ho : y.cls = own) (hm : (lg_sl av).length ≤ maxL)
    (hend : ∀ (p : Program) (e : Env) (s : State) (m : MethodId) (args : Array Value) (below : List Frame) (meth : Method) (c : Code) (A : Nat → Prop) (Qc : Array Value → State → Outcome → State → Prop), p.tables.exec = Jvm.exec → c.code = cc → meth.sig.returnType = ret → meth.locks = false →
      ∀ (H : Heap) (locs : List Loc) (cells slots pc : Nat) (ls : Array Slot), (∀ t : State, t.heap = H → s.WarmedH t.vm → Qc args s (.returned rv) t) → (∀ q ∈ locs, A q.base) → decode cc pc = .ok (i, 1) → W p l e rm s m args below meth c H locs cells slots (MQ below Qc args s cells slots A) (F0 m pc ls rv.toList))
    (body : ∀ (p : Program) (e : Env) (s : State) (m : MethodId) (args : Array Value) (below : List Frame) (meth : Method) (c : Code) (Q : State → Prop) (A : Nat → Prop) (ls : Array Slot), cy_C p s m args c cc maxL ws own D tys A → cy_E p l e rm s m args below meth c cc D A Q i rv w1 → cy_W D A s.heap w0 s.heap [] → lv_has ls maxL (lv_args 0 av) → W p l e rm s m args below meth c s.heap [] 0 0 Q (F0 m 0 ls [])) : cy_M l y ws rm D tys av w0 rv w1 := by
  intro sz
  refine Met.ofW (cc := cc) (maxL := maxL) (ret := ret) hy hw ?_
  intro p e s m args below meth c s₁ B hml hv
  obtain ⟨rfl, hsz, hP, hK, hD0⟩ := hv
  subst hsz
  have hts := atoms_spec (ws := ws) B.pre
  have hown : s.vm.findClass own = some m.cls := by rw [← ho]; exact findClass_of_methodNamed B.named
  have hl := lv_entry av (n := maxL) hm
  rw [lg_entry_eq]
  refine body p e s m _ below meth c _ (va_A w0 s.heap.size) _ ⟨⟨B.exec, B.bytes, hml, hown, hts⟩, hK, fun q h => Or.inr h⟩ ?_ ⟨hP, hD0.self, va_S.rf⟩ hl
  intro H locs cells slots pc ls hc hs hW hdg
  refine W.widen hc hs ?_
  exact hend p e s m _ below meth c _ _ B.exec B.bytes B.returns B.notSynchronized H locs _ _ pc ls (fun t ht hWm => ⟨rfl, by rw [ht]; exact hW.1, hW.2.1, hW.2.2.F ht⟩) hW.2.2.2.2 hdg
theorem cy_endI {l : Launch} {rm : Room} {cc : ByteArray} {v : Int32} {ty : FieldType} (hn : narrow ty (.int v) = .int v) : ∀ (p : Program) (e : Env) (s : State) (m : MethodId) (args : Array Value) (below : List Frame) (meth : Method) (c : Code) (A : Nat → Prop) (Qc : Array Value → State → Outcome → State → Prop), p.tables.exec = Jvm.exec → c.code = cc → meth.sig.returnType = some ty → meth.locks = false →
      ∀ (H : Heap) (locs : List Loc) (cells slots pc : Nat) (ls : Array Slot), (∀ t : State, t.heap = H → s.WarmedH t.vm → Qc args s (.returned (some (.int v))) t) → (∀ q ∈ locs, A q.base) → decode cc pc = .ok (.ireturn, 1) → W p l e rm s m args below meth c H locs cells slots (MQ below Qc args s cells slots A) (F0 m pc ls (some (Value.int v)).toList) :=
  fun p e s m args below meth c A Qc hx hb hr hlk H locs cells slots pc ls hq hf hdg => W.zret hx hb hr hn hq hf hdg hlk
theorem cy_endL {l : Launch} {rm : Room} {cc : ByteArray} {v : Int64} : ∀ (p : Program) (e : Env) (s : State) (m : MethodId) (args : Array Value) (below : List Frame) (meth : Method) (c : Code) (A : Nat → Prop) (Qc : Array Value → State → Outcome → State → Prop), p.tables.exec = Jvm.exec → c.code = cc → meth.sig.returnType = some .long → meth.locks = false →
      ∀ (H : Heap) (locs : List Loc) (cells slots pc : Nat) (ls : Array Slot), (∀ t : State, t.heap = H → s.WarmedH t.vm → Qc args s (.returned (some (.long v))) t) → (∀ q ∈ locs, A q.base) → decode cc pc = .ok (.lreturn, 1) → W p l e rm s m args below meth c H locs cells slots (MQ below Qc args s cells slots A) (F0 m pc ls (some (Value.long v)).toList) :=
  fun p e s m args below meth c A Qc hx hb hr hlk H locs cells slots pc ls hq hf hdg => W.lret hx hb hr hq hf hdg hlk
theorem cy_endV {l : Launch} {rm : Room} {cc : ByteArray} : ∀ (p : Program) (e : Env) (s : State) (m : MethodId) (args : Array Value) (below : List Frame) (meth : Method) (c : Code) (A : Nat → Prop) (Qc : Array Value → State → Outcome → State → Prop), p.tables.exec = Jvm.exec → c.code = cc → meth.sig.returnType = none → meth.locks = false →
      ∀ (H : Heap) (locs : List Loc) (cells slots pc : Nat) (ls : Array Slot), (∀ t : State, t.heap = H → s.WarmedH t.vm → Qc args s (.returned none) t) → (∀ q ∈ locs, A q.base) → decode cc pc = .ok (.return_, 1) → W p l e rm s m args below meth c H locs cells slots (MQ below Qc args s cells slots A) (F0 m pc ls (none : Option Value).toList) :=
  fun p e s m args below meth c A Qc hx hb hr hlk H locs cells slots pc ls hq hf hdg => W.vret hx hb hr hq hf hdg hlk
end
section
/-! rows over worlds of places -/
def cy_w (n : Nat) (ad : Nat → Nat) (ef : Nat → (Nat → Int32) → va_E) (S : Nat → Nat → Int32) (tl : va_W) : va_W := cy_G n ad (fun j => ef j (S j)) ++ tl
theorem cy_w_at {n j : Nat} {ad : Nat → Nat} {ef : Nat → (Nat → Int32) → va_E} {S : Nat → Nat → Int32} {tl : va_W} (h : j < n) {x : va_E} (he : ef j (S j) = x) : (cy_w n ad ef S tl)[j]? = some (ad j, x) := by
  rw [← he]
  exact cy_G_at h
theorem cy_w_up {ef : Nat → (Nat → Int32) → va_E} {S : Nat → Nat → Int32} {j : Nat} {f : Nat → Int32} : va_up (fun j => ef j (S j)) j (ef j f) = fun i => ef i (va_up S j f i) := by
  funext i
  by_cases h : i = j
  · subst h
    simp [va_up]
  · simp [va_up, h]
theorem cy_w_set {n j : Nat} {ad : Nat → Nat} {ef : Nat → (Nat → Int32) → va_E} {S : Nat → Nat → Int32} {tl : va_W} {f : Nat → Int32} {x : va_E} (h : j < n) (he : x = ef j f) : (cy_w n ad ef S tl).set j (ad j, x) = cy_w n ad ef (va_up S j f) tl := by
  subst he
  unfold cy_w
  rw [cy_G_set h, cy_w_up]
theorem cy_w_tl {n i : Nat} {ad : Nat → Nat} {ef : Nat → (Nat → Int32) → va_E} {S : Nat → Nat → Int32} {tl : va_W} {x : Nat × va_E} (h : tl[i]? = some x) : (cy_w n ad ef S tl)[n + i]? = some x := by
  unfold cy_w
  rw [cy_G_tl]
  exact h
theorem cy_w_tlset {n i : Nat} {ad : Nat → Nat} {ef : Nat → (Nat → Int32) → va_E} {S : Nat → Nat → Int32} {tl tl' : va_W} {x : Nat × va_E} (h : tl.set i x = tl') : (cy_w n ad ef S tl).set (n + i) x = cy_w n ad ef S tl' := by
  unfold cy_w
  rw [cy_G_set_tl, h]
section CYR
variable {p : Program} {l : Launch} {e : Env} {R : Room} {s : State} {m : MethodId} {args : Array Value} {below : List Frame} {meth : Method} {c : Code} {H : Heap} {locs : List Loc} {cells slots : Nat} {Q : State → Prop}
variable {cc : ByteArray} {pc nL : Nat} {ls : Array Slot} {rest : List Value} {D : va_G} {A : Nat → Prop} {tys : List (ClassId × FieldType)} {Ts : List Cond} {own : String}
variable {n : Nat} {ad : Nat → Nat} {ef : Nat → (Nat → Int32) → va_E} {S : Nat → Nat → Int32} {tl : va_W}
theorem cy_top {x y : Int32} (h : x = y) (k : W p l e R s m args below meth c H locs cells slots Q (F0 m pc ls (.int y :: rest))) : W p l e R s m args below meth c H locs cells slots Q (F0 m pc ls (.int x :: rest)) := by
  subst h
  exact k
theorem cy_topv {x y : Value} (h : x = y) (k : W p l e R s m args below meth c H locs cells slots Q (F0 m pc ls (y :: rest))) : W p l e R s m args below meth c H locs cells slots Q (F0 m pc ls (x :: rest)) := by
  subst h
  exact k
theorem cy_ix {i N : Nat} (h : i < N) (hN : N < 2 ^ 31) : vp_in (nI i) N := vp_in_nI h hN
theorem cy_get (hC : cy_C p s m args c cc nL Ts own D tys A) (j : Nat) (hj : j < n) {ci N index : Nat} {ref CC : String} {T : u_T} {fs : List Value} (hin : ∀ w ∈ u_ws CC T N, w ∈ Ts) (hW : cy_W D A s.heap (cy_w n ad ef S tl) H locs) (he : ef j (S j) = .inr (ci, fs)) (hc : vwCl[ci]? = some (CC, T, N)) (k : Nat) (hk : k < N) (hlink : (Cond.fieldLink own index ref (T k).2.1 (T k).2.2.1).before args s = true) (hsame : ∀ x, s.fieldFound? (T k).1 (T k).2.1 (T k).2.2.1 = some x → s.fieldFound? ref (T k).2.1 (T k).2.2.1 = some x) {v : Value} (hv : fs[k]? = some v) (hdg : decode cc pc = .ok (.getfield index, 3))
    (kk : W p l e R s m args below meth c H locs cells slots Q (F0 m (pc + 3) ls (v :: rest))) : W p l e R s m args below meth c H locs cells slots Q (F0 m pc ls (.ref (ad j) :: rest)) :=
  va_get hC.1.1 hC.1.2.1 hC.1.2.2.2.2 hin hC.1.2.2.2.1 hC.2.1 hW.1 j (cy_w_at hj he) hc k hk hlink hsame hv hdg kk
theorem cy_put (hC : cy_C p s m args c cc nL Ts own D tys A) (j : Nat) (hj : j < n) {ci N index : Nat} {ref CC : String} {T : u_T} {fs : List Value} (hin : ∀ w ∈ u_ws CC T N, w ∈ Ts) (ty0 : Nat → FieldType) (hty : ∀ k, k < N → parseFieldDescriptor (T k).2.2.1 = some (ty0 k)) (hnm : ∀ a, a < N → ∀ b, b < N → a ≠ b → (T a).2.1 ≠ (T b).2.1) (hW : cy_W D A s.heap (cy_w n ad ef S tl) H locs) (he : ef j (S j) = .inr (ci, fs)) (hc : vwCl[ci]? = some (CC, T, N)) (k : Nat) (hk : k < N) (hlink : (Cond.fieldLink own index ref (T k).2.1 (T k).2.2.1).before args s = true) (hsame : ∀ x, s.fieldFound? (T k).1 (T k).2.1 (T k).2.2.1 = some x → s.fieldFound? ref (T k).2.1 (T k).2.2.1 = some x) (hfin : (T k).2.2.2 = false) {ty : FieldType} {v : Value} (hd : parseFieldDescriptor (T k).2.2.1 = some ty) (hn : narrow ty v = v) (hfit : fits ty v = true) (hl : k < fs.length) (f' : Nat → Int32) (hset : (.inr (ci, fs.set k v) : va_E) = ef j f') (hdg : decode cc pc = .ok (.putfield index, 3))
    (kk : ∀ (H1 : Heap) (locs1 : List Loc), cy_W D A s.heap (cy_w n ad ef (va_up S j f') tl) H1 locs1 → W p l e R s m args below meth c H1 locs1 cells slots Q (F0 m (pc + 3) ls rest)) : W p l e R s m args below meth c H locs cells slots Q (F0 m pc ls (v :: .ref (ad j) :: rest)) := by
  refine va_put hC.1.1 hC.1.2.1 hC.1.2.2.2.2 hin ty0 hty hnm hC.1.2.2.2.1 hC.2.1 hW.1 hW.2.1 hW.2.2 j (cy_w_at hj he) hc k hk hlink hsame hfin hd hn hfit hl hdg (fun H1 locs1 hP hD hS => ?_)
  rw [cy_w_set hj hset] at hP hD
  exact kk H1 locs1 ⟨hP, hD, hS⟩
theorem cy_iald (hC : cy_C p s m args c cc nL Ts own D tys A) (j : Nat) (hj : j < n) (hW : cy_W D A s.heap (cy_w n ad ef S tl) H locs) (t0 : Nat) {cA : ClassId} {N i : Nat} {f : Nat → Int32} (he : ef j (S j) = .inl (cA, N, .inl f)) (ht : tys[t0]? = some (cA, .int)) (hi : i < N) (hN : N < 2 ^ 31) (hdg : decode cc pc = .ok (.iaload, 1))
    (kk : W p l e R s m args below meth c H locs cells slots Q (F0 m (pc + 1) ls (.int (f i) :: rest))) : W p l e R s m args below meth c H locs cells slots Q (F0 m pc ls (.int (nI i) :: .ref (ad j) :: rest)) := by
  refine va_iald hC.1.1 hC.1.2.1 hC.2.1 hW.1 j t0 (cy_w_at hj he) ht (cy_ix hi hN) hdg ?_
  rw [nI_clamp (Nat.lt_trans hi hN)]
  exact kk
theorem cy_zald (hC : cy_C p s m args c cc nL Ts own D tys A) (j : Nat) (hj : j < n) (hW : cy_W D A s.heap (cy_w n ad ef S tl) H locs) (t0 : Nat) {cA : ClassId} {N i : Nat} {f : Nat → Int32} (he : ef j (S j) = .inl (cA, N, .inl f)) (ht : tys[t0]? = some (cA, .boolean)) (hi : i < N) (hN : N < 2 ^ 31) (hdg : decode cc pc = .ok (.baload, 1))
    (kk : W p l e R s m args below meth c H locs cells slots Q (F0 m (pc + 1) ls (.int (f i) :: rest))) : W p l e R s m args below meth c H locs cells slots Q (F0 m pc ls (.int (nI i) :: .ref (ad j) :: rest)) := by
  refine va_zald hC.1.1 hC.1.2.1 hC.2.1 hW.1 j t0 (cy_w_at hj he) ht (cy_ix hi hN) hdg ?_
  rw [nI_clamp (Nat.lt_trans hi hN)]
  exact kk
theorem cy_lald (hC : cy_C p s m args c cc nL Ts own D tys A) (j : Nat) (hj : j < n) (hW : cy_W D A s.heap (cy_w n ad ef S tl) H locs) (t0 : Nat) {cA : ClassId} {N i : Nat} {f : Nat → Int64} (he : ef j (S j) = .inl (cA, N, .inr (.inl f))) (ht : tys[t0]? = some (cA, .long)) (hi : i < N) (hN : N < 2 ^ 31) (hdg : decode cc pc = .ok (.laload, 1))
    (kk : W p l e R s m args below meth c H locs cells slots Q (F0 m (pc + 1) ls (.long (f i) :: rest))) : W p l e R s m args below meth c H locs cells slots Q (F0 m pc ls (.int (nI i) :: .ref (ad j) :: rest)) := by
  refine va_lald hC.1.1 hC.1.2.1 hC.2.1 hW.1 j t0 (cy_w_at hj he) ht (cy_ix hi hN) hdg ?_
  rw [nI_clamp (Nat.lt_trans hi hN)]
  exact kk
theorem cy_aald (hC : cy_C p s m args c cc nL Ts own D tys A) (j : Nat) (hj : j < n) (hW : cy_W D A s.heap (cy_w n ad ef S tl) H locs) (t0 : Nat) {cA : ClassId} {CC : String} {N i a : Nat} {f : Nat → Option Nat} (he : ef j (S j) = .inl (cA, N, .inr (.inr (.inr (.inr f))))) (ht : tys[t0]? = some (cA, .object CC)) (hi : i < N) (hN : N < 2 ^ 31) (ha : f i = some a) (hdg : decode cc pc = .ok (.aaload, 1))
    (kk : W p l e R s m args below meth c H locs cells slots Q (F0 m (pc + 1) ls (.ref a :: rest))) : W p l e R s m args below meth c H locs cells slots Q (F0 m pc ls (.int (nI i) :: .ref (ad j) :: rest)) := by
  refine va_aldq hC.1.1 hC.1.2.1 hC.2.1 hW.1 j t0 (cy_w_at hj he) ht (cy_ix hi hN) hdg ?_
  rw [nI_clamp (Nat.lt_trans hi hN), ha]
  exact kk
theorem cy_iast (hC : cy_C p s m args c cc nL Ts own D tys A) (j : Nat) (hj : j < n) (hW : cy_W D A s.heap (cy_w n ad ef S tl) H locs) (t0 : Nat) {cA : ClassId} {N i : Nat} {x : Int32} {f : Nat → Int32} (he : ef j (S j) = .inl (cA, N, .inl f)) (ht : tys[t0]? = some (cA, .int)) (hi : i < N) (hN : N < 2 ^ 31) (f' : Nat → Int32) (hset : (.inl (cA, N, .inl (upd f i x)) : va_E) = ef j f') (hdg : decode cc pc = .ok (.iastore, 1))
    (kk : ∀ (H1 : Heap) (locs1 : List Loc), cy_W D A s.heap (cy_w n ad ef (va_up S j f') tl) H1 locs1 → W p l e R s m args below meth c H1 locs1 cells slots Q (F0 m (pc + 1) ls rest)) : W p l e R s m args below meth c H locs cells slots Q (F0 m pc ls (.int x :: .int (nI i) :: .ref (ad j) :: rest)) := by
  refine va_iast hC.1.1 hC.1.2.1 hC.2.1 hW.1 hW.2.1 hW.2.2 j t0 (cy_w_at hj he) ht (cy_ix hi hN) hdg (fun H1 locs1 hP hD hS => ?_)
  rw [nI_clamp (Nat.lt_trans hi hN), cy_w_set hj hset] at hP hD
  exact kk H1 locs1 ⟨hP, hD, hS⟩
theorem cy_zast (hC : cy_C p s m args c cc nL Ts own D tys A) (j : Nat) (hj : j < n) (hW : cy_W D A s.heap (cy_w n ad ef S tl) H locs) (t0 : Nat) {cA : ClassId} {N i : Nat} {x x' : Int32} {f : Nat → Int32} (he : ef j (S j) = .inl (cA, N, .inl f)) (ht : tys[t0]? = some (cA, .boolean)) (hi : i < N) (hN : N < 2 ^ 31) (hx : vp_nar .boolean x = x') (f' : Nat → Int32) (hset : (.inl (cA, N, .inl (upd f i x')) : va_E) = ef j f') (hdg : decode cc pc = .ok (.bastore, 1))
    (kk : ∀ (H1 : Heap) (locs1 : List Loc), cy_W D A s.heap (cy_w n ad ef (va_up S j f') tl) H1 locs1 → W p l e R s m args below meth c H1 locs1 cells slots Q (F0 m (pc + 1) ls rest)) : W p l e R s m args below meth c H locs cells slots Q (F0 m pc ls (.int x :: .int (nI i) :: .ref (ad j) :: rest)) := by
  refine va_zast hC.1.1 hC.1.2.1 hC.2.1 hW.1 hW.2.1 hW.2.2 j t0 (cy_w_at hj he) ht (cy_ix hi hN) hdg (fun H1 locs1 hP hD hS => ?_)
  rw [nI_clamp (Nat.lt_trans hi hN), hx, cy_w_set hj hset] at hP hD
  exact kk H1 locs1 ⟨hP, hD, hS⟩
/-- a long array's cell: the whole world changes its words for what the cells hold -/
theorem cy_last {ef' : Nat → (Nat → Int32) → va_E} (hC : cy_C p s m args c cc nL Ts own D tys A) (j : Nat) (hj : j < n) (hW : cy_W D A s.heap (cy_w n ad ef S tl) H locs) (t0 : Nat) {cA : ClassId} {N i : Nat} {x : Int64} {f : Nat → Int64} (he : ef j (S j) = .inl (cA, N, .inr (.inl f))) (ht : tys[t0]? = some (cA, .long)) (hi : i < N) (hN : N < 2 ^ 31) (hset : va_up (fun k => ef k (S k)) j (.inl (cA, N, .inr (.inl (vp_updL f i x)))) = fun k => ef' k (S k)) (hdg : decode cc pc = .ok (.lastore, 1))
    (kk : ∀ (H1 : Heap) (locs1 : List Loc), cy_W D A s.heap (cy_w n ad ef' S tl) H1 locs1 → W p l e R s m args below meth c H1 locs1 cells slots Q (F0 m (pc + 1) ls rest)) : W p l e R s m args below meth c H locs cells slots Q (F0 m pc ls (.long x :: .int (nI i) :: .ref (ad j) :: rest)) := by
  refine va_last hC.1.1 hC.1.2.1 hC.2.1 hW.1 hW.2.1 hW.2.2 j t0 (cy_w_at hj he) ht (cy_ix hi hN) hdg (fun H1 locs1 hP hD hS => ?_)
  have e9 : (cy_w n ad ef S tl).set j (ad j, .inl (cA, N, .inr (.inl (vp_updL f i x)))) = cy_w n ad ef' S tl := by
    unfold cy_w
    rw [cy_G_set hj, hset]
  rw [nI_clamp (Nat.lt_trans hi hN), e9] at hP hD
  exact kk H1 locs1 ⟨hP, hD, hS⟩
/-- cells that were made on the way -/
theorem cy_tiald (hC : cy_C p s m args c cc nL Ts own D tys A) (j a : Nat) (hW : cy_W D A s.heap (cy_w n ad ef S tl) H locs) (t0 : Nat) {cA : ClassId} {N i : Nat} {f : Nat → Int32} (he : tl[j]? = some (a, .inl (cA, N, .inl f))) (ht : tys[t0]? = some (cA, .int)) (hi : i < N) (hN : N < 2 ^ 31) (hdg : decode cc pc = .ok (.iaload, 1))
    (kk : W p l e R s m args below meth c H locs cells slots Q (F0 m (pc + 1) ls (.int (f i) :: rest))) : W p l e R s m args below meth c H locs cells slots Q (F0 m pc ls (.int (nI i) :: .ref a :: rest)) := by
  refine va_iald hC.1.1 hC.1.2.1 hC.2.1 hW.1 (n + j) t0 (cy_w_tl he) ht (cy_ix hi hN) hdg ?_
  rw [nI_clamp (Nat.lt_trans hi hN)]
  exact kk
theorem cy_tiast {tl' : va_W} (hC : cy_C p s m args c cc nL Ts own D tys A) (j a : Nat) (hW : cy_W D A s.heap (cy_w n ad ef S tl) H locs) (t0 : Nat) {cA : ClassId} {N i : Nat} {x : Int32} {f : Nat → Int32} (he : tl[j]? = some (a, .inl (cA, N, .inl f))) (ht : tys[t0]? = some (cA, .int)) (hi : i < N) (hN : N < 2 ^ 31) (hset : tl.set j (a, .inl (cA, N, .inl (upd f i x))) = tl') (hdg : decode cc pc = .ok (.iastore, 1))
    (kk : ∀ (H1 : Heap) (locs1 : List Loc), cy_W D A s.heap (cy_w n ad ef S tl') H1 locs1 → W p l e R s m args below meth c H1 locs1 cells slots Q (F0 m (pc + 1) ls rest)) : W p l e R s m args below meth c H locs cells slots Q (F0 m pc ls (.int x :: .int (nI i) :: .ref a :: rest)) := by
  refine va_iast hC.1.1 hC.1.2.1 hC.2.1 hW.1 hW.2.1 hW.2.2 (n + j) t0 (cy_w_tl he) ht (cy_ix hi hN) hdg (fun H1 locs1 hP hD hS => ?_)
  rw [nI_clamp (Nat.lt_trans hi hN), cy_w_tlset hset] at hP hD
  exact kk H1 locs1 ⟨hP, hD, hS⟩
end CYR
/-! a measure that falls -/
theorem cy_lt {a b : Nat} (ha : a < 2 ^ 31) (hb : b < 2 ^ 31) (h : nI a < nI b) : a < b := (nI_ltI ha hb).mp h
theorem cy_nlt {a b : Nat} (ha : a < 2 ^ 31) (hb : b < 2 ^ 31) (h : ¬ nI a < nI b) : b ≤ a := Nat.le_of_not_lt fun q => h ((nI_ltI ha hb).mpr q)
theorem cy_le {a b : Nat} (ha : a < 2 ^ 31) (hb : b < 2 ^ 31) (h : nI a ≤ nI b) : a ≤ b := (nI_leI ha hb).mp h
theorem cy_nle {a b : Nat} (ha : a < 2 ^ 31) (hb : b < 2 ^ 31) (h : ¬ nI a ≤ nI b) : b < a := Nat.lt_of_not_le fun q => h ((nI_leI ha hb).mpr q)
theorem cy_eq {a b : Nat} (ha : a < 2 ^ 31) (hb : b < 2 ^ 31) (h : nI a = nI b) : a = b := (nI_eq ha hb).mp h
theorem cy_ne {a b : Nat} (_ : a < 2 ^ 31) (_ : b < 2 ^ 31) (h : ¬ nI a = nI b) : a ≠ b := fun q => h (by rw [q])
/-! the worlds of the yard -/
def cy_fC (a1 a2 : Nat) (f : Nat → Int32) : List Value := [.int (f 0), .int (f 1), .int (f 2), .int (f 3), .int (f 4), .int (f 5), .int (f 6), .int (f 7), .int (f 8), .ref a1, .ref a2]
def cy_fB (f : Nat → Int32) : List Value := [.int (f 0), .int (f 1), .int (f 2), .int (f 3), .int (f 4)]
def cy_fY (ad : Nat → Nat) (f : Nat → Int32) : List Value := [.ref (ad 1), .ref (ad 2), .ref (ad 3), .int (f 3), .ref (ad 4), .ref (ad 5), .ref (ad 6), .int (f 7), .ref (ad 7), .int (f 9), .ref (ad 47), .ref (ad 8), .ref (ad 9), .ref (ad 10), .int (f 14), .int (f 15), .int (f 16)]
/-- the cells of the yard: 0 itself, 1 to 6 its rows of numbers, 7 the casks, 8 and 9 the search's rows, 10 the blend; a cask c has 3 * c + 11, 12, 13 (the spare one is 12) -/
def cy_eY (kI kJ kC : ClassId) (ad : Nat → Nat) (Z : Nat → Int64) (j : Nat) (f : Nat → Int32) : va_E :=
  match j with
  | 0 => .inr (2, cy_fY ad f)
  | 1 => .inl (kI, 60, .inl f)
  | 2 => .inl (kI, 60, .inl f)
  | 3 => .inl (kI, 60, .inl f)
  | 4 => .inl (kI, 6, .inl f)
  | 5 => .inl (kI, 6, .inl f)
  | 6 => .inl (kI, 6, .inl f)
  | 7 => .inl (kC, 12, .inr (.inr (.inr (.inr (fun c => some (ad (3 * c + 11)))))))
  | 8 => .inl (kJ, 1505, .inr (.inl Z))
  | 9 => .inl (kI, 1505, .inl f)
  | 10 => .inr (0, cy_fB f)
  | j + 11 => if j % 3 = 0 then .inr (1, cy_fC (ad (j + 12)) (ad (j + 13)) f) else if j % 3 = 1 then .inl (kI, 8, .inl f) else .inl (kI, 5, .inl f)
theorem cy_eY_o {kI kJ kC : ClassId} {ad : Nat → Nat} {Z : Nat → Int64} {c : Nat} {f : Nat → Int32} : cy_eY kI kJ kC ad Z (3 * c + 11) f = .inr (1, cy_fC (ad (3 * c + 12)) (ad (3 * c + 13)) f) := by
  show (if (3 * c) % 3 = 0 then _ else _) = _
  rw [if_pos (by omega)]
theorem cy_eY_t {kI kJ kC : ClassId} {ad : Nat → Nat} {Z : Nat → Int64} {c : Nat} {f : Nat → Int32} : cy_eY kI kJ kC ad Z (3 * c + 12) f = .inl (kI, 8, .inl f) := by
  show (if (3 * c + 1) % 3 = 0 then _ else if (3 * c + 1) % 3 = 1 then _ else _) = _
  rw [if_neg (by omega), if_pos (by omega)]
theorem cy_eY_a {kI kJ kC : ClassId} {ad : Nat → Nat} {Z : Nat → Int64} {c : Nat} {f : Nat → Int32} : cy_eY kI kJ kC ad Z (3 * c + 13) f = .inl (kI, 5, .inl f) := by
  show (if (3 * c + 2) % 3 = 0 then _ else if (3 * c + 2) % 3 = 1 then _ else _) = _
  rw [if_neg (by omega), if_neg (by omega)]
theorem cy_eY_Z {kI kJ kC : ClassId} {ad : Nat → Nat} {Z Z' : Nat → Int64} {S : Nat → Nat → Int32} : va_up (fun j => cy_eY kI kJ kC ad Z j (S j)) 8 (.inl (kJ, 1505, .inr (.inl Z'))) = fun j => cy_eY kI kJ kC ad Z' j (S j) := by
  funext j
  by_cases h : j = 8
  · subst h
    simp [va_up, cy_eY]
  · simp only [va_up, if_neg h]
    unfold cy_eY
    split <;> first | rfl | exact absurd rfl h
/-- the reference's cells: 0 itself, 1 to 17 its rows -/
def cy_fM (ad : Nat → Nat) (f : Nat → Int32) : List Value := [.int (f 0), .int (f 1), .int (f 2), .int (f 3), .int (f 4), .ref (ad 1), .ref (ad 2), .ref (ad 3), .int (f 8), .ref (ad 4), .ref (ad 5), .ref (ad 6), .int (f 12), .ref (ad 7), .ref (ad 8), .ref (ad 9), .ref (ad 10), .ref (ad 11), .ref (ad 12), .ref (ad 13), .ref (ad 14), .ref (ad 15), .ref (ad 16), .int (f 23), .ref (ad 17)]
def cy_eM (kI kZ : ClassId) (ad : Nat → Nat) (j : Nat) (f : Nat → Int32) : va_E :=
  match j with
  | 0 => .inr (3, cy_fM ad f)
  | 1 => .inl (kI, 60, .inl f)
  | 2 => .inl (kI, 60, .inl f)
  | 3 => .inl (kI, 60, .inl f)
  | 4 => .inl (kI, 6, .inl f)
  | 5 => .inl (kI, 6, .inl f)
  | 6 => .inl (kI, 6, .inl f)
  | 7 => .inl (kI, 12, .inl f)
  | 8 => .inl (kZ, 12, .inl f)
  | 9 => .inl (kI, 12, .inl f)
  | 10 => .inl (kI, 96, .inl f)
  | 11 => .inl (kI, 12, .inl f)
  | 12 => .inl (kI, 12, .inl f)
  | 13 => .inl (kI, 12, .inl f)
  | 14 => .inl (kI, 60, .inl f)
  | 15 => .inl (kI, 12, .inl f)
  | 16 => .inl (kI, 91805, .inl f)
  | _ => .inl (kI, 60, .inl f)
abbrev cy_tys (kI kJ kZ kC : ClassId) : List (ClassId × FieldType) := [(kI, .int), (kJ, .long), (kZ, .boolean), (kC, .object RX1)]
/-- the world of the class (state S, the row of sets Z) ahead of other cells, and that of the reference -/
abbrev cy_Y (kI kJ kC : ClassId) (ad : Nat → Nat) (S : Nat → Nat → Int32) (Z : Nat → Int64) (tl : va_W) : va_W := cy_w 50 ad (cy_eY kI kJ kC ad Z) S tl
abbrev cy_Mw (kI kZ : ClassId) (ad : Nat → Nat) (S : Nat → Nat → Int32) (tl : va_W) : va_W := cy_w 18 ad (cy_eM kI kZ ad) S tl
end
section
theorem zz_look : (1 : Nat) = 1 := rfl
end
